def b_101_32 (M : CS) (s0 : Int32) (s1 : Int32) : Option (Int32 × CS) := (f_22 M s1 s0).bind fun r1750 => (if r1750.1 = 0 then (f_100 (ru (r1750.2.1) 4 ((-1)), r1750.2.2)).bind fun r1823 => (f_72 r1823).bind fun r1825 => some (r1825.1, r1825.2) else some (0, r1750.2))
theorem tb_101_32 (L : Nat) (xs : Nat → Int32) (C : CS) (o : Nat → Int64) (c s : Nat) (M : CS) (s0 : Int32) (s1 : Int32) (ret : Int32 × CS) (h : b_101_32 M s0 s1 = some ret) : mv_E (mp L xs) 101 (32, [some (.ref 18)], [.int s0, .int s1, .ref 18]) (HPf C M o, c, s) ((.inl (some (.int ret.1)), (HPf C ret.2 o, c, s))) := by
  unfold b_101_32 at h
  show mv_E (mp L xs) 101 (32, [some (.ref 18)], [.int s0, .int s1, .ref 18]) (HPf C M o, c, s) _
  obtain ⟨r1828, hr1829, h⟩ := Option.bind_eq_some_iff.mp h
  refine mv_E.call (z := 22) (vs := [.ref 18, .int s1, .int s0]) (f' := (35, [some (.ref 18)], [])) (h' := (HPf C M o, c, s)) rfl rfl rfl (t_22 L xs hr1829) (mv_okl rfl) ?_
  show mv_E (mp L xs) 101 (35, [some (.ref 18)], [.int r1828.1]) (HPf C r1828.2 o, c, s) _
  by_cases hc1834 : r1828.1 = 0
  · replace h := (if_pos hc1834).symm.trans h
    refine mv_E.go rfl (mi_if_pos hc1834) ?_
    refine mv_E.rT (t := mt_101) rfl 4 (f' := (46, [some (.ref 18)], [.ref 18])) (h' := (HPf C (ru (r1828.2.1) 4 ((-1)), r1828.2.2) o, c, s)) rfl ?_
    obtain ⟨r1830, hr1831, h⟩ := Option.bind_eq_some_iff.mp h
    refine mv_E.call (z := 100) (vs := [.ref 18]) (f' := (49, [some (.ref 18)], [])) (h' := (HPf C (ru (r1828.2.1) 4 ((-1)), r1828.2.2) o, c, s)) rfl rfl rfl (t_100 L xs hr1831) (mv_okl rfl) ?_
    refine mv_E.rT (t := mt_101) rfl 1 (f' := (50, [some (.ref 18)], [.ref 18])) (h' := (HPf C r1830 o, c, s)) rfl ?_
    obtain ⟨r1832, hr1833, h⟩ := Option.bind_eq_some_iff.mp h
    refine mv_E.call (z := 72) (vs := [.ref 18]) (f' := (53, [some (.ref 18)], [])) (h' := (HPf C r1830 o, c, s)) rfl rfl rfl (t_72 L xs hr1833) (mv_okl rfl) ?_
    show mv_E (mp L xs) 101 (53, [some (.ref 18)], [.int r1832.1]) (HPf C r1832.2 o, c, s) _
    cases h
    exact mv_E.done rfl rfl
  replace h := (if_neg hc1834).symm.trans h
  refine mv_E.go rfl (mi_if_neg hc1834) ?_
  refine mv_E.rT (t := mt_101) rfl 1 (f' := (39, [some (.ref 18)], [.int 0])) (h' := (HPf C r1828.2 o, c, s)) rfl ?_
  cases h
  exact mv_E.done rfl rfl
def b_101_27 (M : CS) (s0 : Int32) : Option (Int32 × CS) := b_101_32 M 1 s0
theorem tb_101_27 (L : Nat) (xs : Nat → Int32) (C : CS) (o : Nat → Int64) (c s : Nat) (M : CS) (s0 : Int32) (ret : Int32 × CS) (h : b_101_27 M s0 = some ret) : mv_E (mp L xs) 101 (27, [some (.ref 18)], [.int s0, .ref 18]) (HPf C M o, c, s) ((.inl (some (.int ret.1)), (HPf C ret.2 o, c, s))) := by
  unfold b_101_27 at h
  refine mv_E.rT (t := mt_101) rfl 2 (f' := (32, [some (.ref 18)], [.int 1, .int s0, .ref 18])) (h' := (HPf C M o, c, s)) rfl ?_
  exact tb_101_32 L xs C o c s M 1 s0 _ h
def b_101_31 (M : CS) (s0 : Int32) : Option (Int32 × CS) := b_101_32 M 0 s0
theorem tb_101_31 (L : Nat) (xs : Nat → Int32) (C : CS) (o : Nat → Int64) (c s : Nat) (M : CS) (s0 : Int32) (ret : Int32 × CS) (h : b_101_31 M s0 = some ret) : mv_E (mp L xs) 101 (31, [some (.ref 18)], [.int s0, .ref 18]) (HPf C M o, c, s) ((.inl (some (.int ret.1)), (HPf C ret.2 o, c, s))) := by
  unfold b_101_31 at h
  refine mv_E.rT (t := mt_101) rfl 1 (f' := (32, [some (.ref 18)], [.int 0, .int s0, .ref 18])) (h' := (HPf C M o, c, s)) rfl ?_
  exact tb_101_32 L xs C o c s M 0 s0 _ h
def f_101 (M : CS) : Option (Int32 × CS) := (if (M.1 2) = 0 then b_101_27 M 0 else (if (M.1 11) = 22 then b_101_31 M 0 else (if (M.1 11) = 52 then b_101_31 M 0 else b_101_27 M 0)))
theorem t_101 (L : Nat) (xs : Nat → Int32) {C M : CS} {o : Nat → Int64} {c s : Nat} {ret : Int32 × CS} (h : f_101 M = some ret) : mv_E (mp L xs) 101 (0, [some (.ref 18)], []) (HPf C M o, c, s) ((.inl (some (.int ret.1)), (HPf C ret.2 o, c, s))) := by
  unfold f_101 at h
  refine mv_E.rT (t := mt_101) rfl 4 (f' := (6, [some (.ref 18)], [.int (M.1 2), .int 0, .ref 18])) (h' := (HPf C M o, c, s)) rfl ?_
  by_cases hc1837 : (M.1 2) = 0
  · replace h := (if_pos hc1837).symm.trans h
    refine mv_E.go rfl (mi_if_pos hc1837) ?_
    show mv_E (mp L xs) 101 (27, [some (.ref 18)], [.int 0, .ref 18]) (HPf C M o, c, s) _
    exact tb_101_27 L xs C o c s M 0 _ h
  replace h := (if_neg hc1837).symm.trans h
  refine mv_E.go rfl (mi_if_neg hc1837) ?_
  refine mv_E.rT (t := mt_101) rfl 3 (f' := (15, [some (.ref 18)], [.int 22, .int (M.1 11), .int 0, .ref 18])) (h' := (HPf C M o, c, s)) rfl ?_
  by_cases hc1836 : (M.1 11) = 22
  · replace h := (if_pos hc1836).symm.trans h
    refine mv_E.go rfl (mi_icmp_pos hc1836) ?_
    show mv_E (mp L xs) 101 (31, [some (.ref 18)], [.int 0, .ref 18]) (HPf C M o, c, s) _
    exact tb_101_31 L xs C o c s M 0 _ h
  replace h := (if_neg hc1836).symm.trans h
  refine mv_E.go rfl (mi_icmp_neg hc1836) ?_
  refine mv_E.rT (t := mt_101) rfl 3 (f' := (24, [some (.ref 18)], [.int 52, .int (M.1 11), .int 0, .ref 18])) (h' := (HPf C M o, c, s)) rfl ?_
  by_cases hc1835 : (M.1 11) = 52
  · replace h := (if_pos hc1835).symm.trans h
    refine mv_E.go rfl (mi_icmp_pos hc1835) ?_
    show mv_E (mp L xs) 101 (31, [some (.ref 18)], [.int 0, .ref 18]) (HPf C M o, c, s) _
    exact tb_101_31 L xs C o c s M 0 _ h
  replace h := (if_neg hc1835).symm.trans h
  refine mv_E.go rfl (mi_icmp_neg hc1835) ?_
  show mv_E (mp L xs) 101 (27, [some (.ref 18)], [.int 0, .ref 18]) (HPf C M o, c, s) _
  exact tb_101_27 L xs C o c s M 0 _ h
def b_104_13 (M : CS) (s0 : Int32) : Option (CS) := (f_22 M s0 0).bind fun r1838 => (if r1838.1 = 0 then some (ru (ru (r1838.2.1) 2 (0)) 1 (0), r1838.2.2) else some r1838.2)
theorem tb_104_13 (L : Nat) (xs : Nat → Int32) (C : CS) (o : Nat → Int64) (c s : Nat) (M : CS) (s0 : Int32) (ret : CS) (h : b_104_13 M s0 = some ret) : mv_E (mp L xs) 104 (13, [some (.ref 18)], [.int s0, .ref 18]) (HPf C M o, c, s) ((.inl none, (HPf C ret o, c, s))) := by
  unfold b_104_13 at h
  refine mv_E.rT (t := mt_104) rfl 1 (f' := (14, [some (.ref 18)], [.int 0, .int s0, .ref 18])) (h' := (HPf C M o, c, s)) rfl ?_
  obtain ⟨r1841, hr1842, h⟩ := Option.bind_eq_some_iff.mp h
  refine mv_E.call (z := 22) (vs := [.ref 18, .int s0, .int 0]) (f' := (17, [some (.ref 18)], [])) (h' := (HPf C M o, c, s)) rfl rfl rfl (t_22 L xs hr1842) (mv_okl rfl) ?_
  show mv_E (mp L xs) 104 (17, [some (.ref 18)], [.int r1841.1]) (HPf C r1841.2 o, c, s) _
  by_cases hc1843 : r1841.1 = 0
  · replace h := (if_pos hc1843).symm.trans h
    refine mv_E.go rfl (mi_if_pos hc1843) ?_
    refine mv_E.rT (t := mt_104) rfl 6 (f' := (31, [some (.ref 18)], [])) (h' := (HPf C (ru (ru (r1841.2.1) 2 (0)) 1 (0), r1841.2.2) o, c, s)) rfl ?_
    cases h
    exact mv_E.done rfl rfl
  replace h := (if_neg hc1843).symm.trans h
  refine mv_E.go rfl (mi_if_neg hc1843) ?_
  show mv_E (mp L xs) 104 (20, [some (.ref 18)], []) (HPf C r1841.2 o, c, s) _
  cases h
  exact mv_E.done rfl rfl
def f_104 (M : CS) : Option (CS) := (if ¬ (M.1 2) = 0 then b_104_13 M 0 else b_104_13 M 1)
theorem t_104 (L : Nat) (xs : Nat → Int32) {C M : CS} {o : Nat → Int64} {c s : Nat} {ret : CS} (h : f_104 M = some ret) : mv_E (mp L xs) 104 (0, [some (.ref 18)], []) (HPf C M o, c, s) ((.inl none, (HPf C ret o, c, s))) := by
  unfold f_104 at h
  refine mv_E.rT (t := mt_104) rfl 3 (f' := (5, [some (.ref 18)], [.int (M.1 2), .ref 18])) (h' := (HPf C M o, c, s)) rfl ?_
  by_cases hc1844 : ¬ (M.1 2) = 0
  · replace h := (if_pos hc1844).symm.trans h
    refine mv_E.go rfl (mi_if_pos hc1844) ?_
    refine mv_E.rT (t := mt_104) rfl 1 (f' := (13, [some (.ref 18)], [.int 0, .ref 18])) (h' := (HPf C M o, c, s)) rfl ?_
    exact tb_104_13 L xs C o c s M 0 _ h
  replace h := (if_neg hc1844).symm.trans h
  refine mv_E.go rfl (mi_if_neg hc1844) ?_
  refine mv_E.rT (t := mt_104) rfl 2 (f' := (13, [some (.ref 18)], [.int 1, .ref 18])) (h' := (HPf C M o, c, s)) rfl ?_
  exact tb_104_13 L xs C o c s M 1 _ h
def f_106 (M : CS) : Option (Int32 × CS) := some (M.1 3, (ru (M.1) 0 (0), M.2))
theorem t_106 (L : Nat) (xs : Nat → Int32) {C M : CS} {o : Nat → Int64} {c s : Nat} {ret : Int32 × CS} (h : f_106 M = some ret) : mv_E (mp L xs) 106 (0, [some (.ref 18)], []) (HPf C M o, c, s) ((.inl (some (.int ret.1)), (HPf C ret.2 o, c, s))) := by
  unfold f_106 at h
  refine mv_E.rT (t := mt_106) rfl 5 (f' := (9, [some (.ref 18)], [.int (M.1 3)])) (h' := (HPf C (ru (M.1) 0 (0), M.2) o, c, s)) rfl ?_
  cases h
  exact mv_E.done rfl rfl
def b_111_34 (M : CS) (l1 : Int32) (s0 : Int32) (s1 : Int32) : Option (Int32 × CS) := (f_22 M s1 s0).bind fun r1845 => (if r1845.1 = 0 then (if l1 = 0 then some (r1845.2.1 6, r1845.2) else (if l1 = 1 then some (r1845.2.1 7, r1845.2) else (if l1 = 2 then some (r1845.2.1 5, r1845.2) else (if l1 = 3 then some (r1845.2.1 8, r1845.2) else (if l1 = 4 then some (r1845.2.1 9, r1845.2) else (if l1 = 5 then some (r1845.2.1 10, r1845.2) else (if l1 = 6 then some (r1845.2.1 11, r1845.2) else (if l1 = 7 then some (r1845.2.1 12, r1845.2) else (if ¬ (r1845.2.1 6) = 3 then some (0, r1845.2) else (if ¬ (r1845.2.1 10) = 0 then some (0, r1845.2) else (f_79 r1845.2 100).bind fun r1864 => (if r1864 = 0 then some (0, r1845.2) else some (1, r1845.2)))))))))))) else some (0, r1845.2))
theorem tb_111_34 (L : Nat) (xs : Nat → Int32) (C : CS) (o : Nat → Int64) (c s : Nat) (M : CS) (l1 : Int32) (s0 : Int32) (s1 : Int32) (d2 : Option Int32) (ret : Int32 × CS) (h : b_111_34 M l1 s0 s1 = some ret) : mv_E (mp L xs) 111 (34, [some (.ref 18), some (.int l1), d2.map .int], [.int s0, .int s1, .ref 18]) (HPf C M o, c, s) ((.inl (some (.int ret.1)), (HPf C ret.2 o, c, s))) := by
  unfold b_111_34 at h
  show mv_E (mp L xs) 111 (34, [some (.ref 18), some (.int l1), d2.map .int], [.int s0, .int s1, .ref 18]) (HPf C M o, c, s) _
  obtain ⟨r1870, hr1871, h⟩ := Option.bind_eq_some_iff.mp h
  refine mv_E.call (z := 22) (vs := [.ref 18, .int s1, .int s0]) (f' := (37, [some (.ref 18), some (.int l1), d2.map .int], [])) (h' := (HPf C M o, c, s)) rfl rfl rfl (t_22 L xs hr1871) (mv_okl rfl) ?_
  show mv_E (mp L xs) 111 (37, [some (.ref 18), some (.int l1), d2.map .int], [.int r1870.1]) (HPf C r1870.2 o, c, s) _
  by_cases hc1894 : r1870.1 = 0
  · replace h := (if_pos hc1894).symm.trans h
    refine mv_E.go rfl (mi_if_pos hc1894) ?_
    refine mv_E.rT (t := mt_111) rfl 1 (f' := (43, [some (.ref 18), some (.int l1), d2.map .int], [.int l1])) (h' := (HPf C r1870.2 o, c, s)) rfl ?_
    have e1872 : mv_sw l1 128 [(0, 88), (1, 93), (2, 98), (3, 103), (4, 108), (5, 113), (6, 118), (7, 123)] = mv_sw l1 128 [(0, 88), (1, 93), (2, 98), (3, 103), (4, 108), (5, 113), (6, 118), (7, 123)] := rfl
    by_cases hs1873 : l1 = 0
    · replace h := (if_pos hs1873).symm.trans h
      refine mv_E.go rfl (mi_sw_at (e1872.trans (if_pos hs1873))) ?_
      refine mv_E.rT (t := mt_111) rfl 2 (f' := (92, [some (.ref 18), some (.int l1), d2.map .int], [.int (r1870.2.1 6)])) (h' := (HPf C r1870.2 o, c, s)) rfl ?_
      cases h
      exact mv_E.done rfl rfl
    replace h := (if_neg hs1873).symm.trans h
    have e1874 := e1872.trans (if_neg hs1873)
    by_cases hs1875 : l1 = 1
    · replace h := (if_pos hs1875).symm.trans h
      refine mv_E.go rfl (mi_sw_at (e1874.trans (if_pos hs1875))) ?_
      refine mv_E.rT (t := mt_111) rfl 2 (f' := (97, [some (.ref 18), some (.int l1), d2.map .int], [.int (r1870.2.1 7)])) (h' := (HPf C r1870.2 o, c, s)) rfl ?_
      cases h
      exact mv_E.done rfl rfl
    replace h := (if_neg hs1875).symm.trans h
    have e1876 := e1874.trans (if_neg hs1875)
    by_cases hs1877 : l1 = 2
    · replace h := (if_pos hs1877).symm.trans h
      refine mv_E.go rfl (mi_sw_at (e1876.trans (if_pos hs1877))) ?_
      refine mv_E.rT (t := mt_111) rfl 2 (f' := (102, [some (.ref 18), some (.int l1), d2.map .int], [.int (r1870.2.1 5)])) (h' := (HPf C r1870.2 o, c, s)) rfl ?_
      cases h
      exact mv_E.done rfl rfl
    replace h := (if_neg hs1877).symm.trans h
    have e1878 := e1876.trans (if_neg hs1877)
    by_cases hs1879 : l1 = 3
    · replace h := (if_pos hs1879).symm.trans h
      refine mv_E.go rfl (mi_sw_at (e1878.trans (if_pos hs1879))) ?_
      refine mv_E.rT (t := mt_111) rfl 2 (f' := (107, [some (.ref 18), some (.int l1), d2.map .int], [.int (r1870.2.1 8)])) (h' := (HPf C r1870.2 o, c, s)) rfl ?_
      cases h
      exact mv_E.done rfl rfl
    replace h := (if_neg hs1879).symm.trans h
    have e1880 := e1878.trans (if_neg hs1879)
    by_cases hs1881 : l1 = 4
    · replace h := (if_pos hs1881).symm.trans h
      refine mv_E.go rfl (mi_sw_at (e1880.trans (if_pos hs1881))) ?_
      refine mv_E.rT (t := mt_111) rfl 2 (f' := (112, [some (.ref 18), some (.int l1), d2.map .int], [.int (r1870.2.1 9)])) (h' := (HPf C r1870.2 o, c, s)) rfl ?_
      cases h
      exact mv_E.done rfl rfl
    replace h := (if_neg hs1881).symm.trans h
    have e1882 := e1880.trans (if_neg hs1881)
    by_cases hs1883 : l1 = 5
    · replace h := (if_pos hs1883).symm.trans h
      refine mv_E.go rfl (mi_sw_at (e1882.trans (if_pos hs1883))) ?_
      refine mv_E.rT (t := mt_111) rfl 2 (f' := (117, [some (.ref 18), some (.int l1), d2.map .int], [.int (r1870.2.1 10)])) (h' := (HPf C r1870.2 o, c, s)) rfl ?_
      cases h
      exact mv_E.done rfl rfl
    replace h := (if_neg hs1883).symm.trans h
    have e1884 := e1882.trans (if_neg hs1883)
    by_cases hs1885 : l1 = 6
    · replace h := (if_pos hs1885).symm.trans h
      refine mv_E.go rfl (mi_sw_at (e1884.trans (if_pos hs1885))) ?_
      refine mv_E.rT (t := mt_111) rfl 2 (f' := (122, [some (.ref 18), some (.int l1), d2.map .int], [.int (r1870.2.1 11)])) (h' := (HPf C r1870.2 o, c, s)) rfl ?_
      cases h
      exact mv_E.done rfl rfl
    replace h := (if_neg hs1885).symm.trans h
    have e1886 := e1884.trans (if_neg hs1885)
    by_cases hs1887 : l1 = 7
    · replace h := (if_pos hs1887).symm.trans h
      refine mv_E.go rfl (mi_sw_at (e1886.trans (if_pos hs1887))) ?_
      refine mv_E.rT (t := mt_111) rfl 2 (f' := (127, [some (.ref 18), some (.int l1), d2.map .int], [.int (r1870.2.1 12)])) (h' := (HPf C r1870.2 o, c, s)) rfl ?_
      cases h
      exact mv_E.done rfl rfl
    replace h := (if_neg hs1887).symm.trans h
    have e1888 := e1886.trans (if_neg hs1887)
    refine mv_E.go rfl (mi_sw_at e1888) ?_
    refine mv_E.rT (t := mt_111) rfl 3 (f' := (133, [some (.ref 18), some (.int l1), d2.map .int], [.int 3, .int (r1870.2.1 6)])) (h' := (HPf C r1870.2 o, c, s)) rfl ?_
    by_cases hc1893 : ¬ (r1870.2.1 6) = 3
    · replace h := (if_pos hc1893).symm.trans h
      refine mv_E.go rfl (mi_icmp_pos hc1893) ?_
      refine mv_E.rT (t := mt_111) rfl 1 (f' := (158, [some (.ref 18), some (.int l1), d2.map .int], [.int 0])) (h' := (HPf C r1870.2 o, c, s)) rfl ?_
      cases h
      exact mv_E.done rfl rfl
    replace h := (if_neg hc1893).symm.trans h
    refine mv_E.go rfl (mi_icmp_neg hc1893) ?_
    refine mv_E.rT (t := mt_111) rfl 2 (f' := (140, [some (.ref 18), some (.int l1), d2.map .int], [.int (r1870.2.1 10)])) (h' := (HPf C r1870.2 o, c, s)) rfl ?_
    by_cases hc1892 : ¬ (r1870.2.1 10) = 0
    · replace h := (if_pos hc1892).symm.trans h
      refine mv_E.go rfl (mi_if_pos hc1892) ?_
      refine mv_E.rT (t := mt_111) rfl 1 (f' := (158, [some (.ref 18), some (.int l1), d2.map .int], [.int 0])) (h' := (HPf C r1870.2 o, c, s)) rfl ?_
      cases h
      exact mv_E.done rfl rfl
    replace h := (if_neg hc1892).symm.trans h
    refine mv_E.go rfl (mi_if_neg hc1892) ?_
    refine mv_E.rT (t := mt_111) rfl 2 (f' := (147, [some (.ref 18), some (.int l1), d2.map .int], [.retAddr 100, .ref 18])) (h' := (HPf C r1870.2 o, c, s)) rfl ?_
    obtain ⟨r1889, hr1890, h⟩ := Option.bind_eq_some_iff.mp h
    refine mv_E.call (z := 79) (vs := [.ref 18, .retAddr 100]) (f' := (150, [some (.ref 18), some (.int l1), d2.map .int], [])) (h' := (HPf C r1870.2 o, c, s)) rfl rfl rfl (t_79 L xs hr1890) (mv_okl rfl) ?_
    show mv_E (mp L xs) 111 (150, [some (.ref 18), some (.int l1), d2.map .int], [.int r1889]) (HPf C r1870.2 o, c, s) _
    by_cases hc1891 : r1889 = 0
    · replace h := (if_pos hc1891).symm.trans h
      refine mv_E.go rfl (mi_if_pos hc1891) ?_
      refine mv_E.rT (t := mt_111) rfl 1 (f' := (158, [some (.ref 18), some (.int l1), d2.map .int], [.int 0])) (h' := (HPf C r1870.2 o, c, s)) rfl ?_
      cases h
      exact mv_E.done rfl rfl
    replace h := (if_neg hc1891).symm.trans h
    refine mv_E.go rfl (mi_if_neg hc1891) ?_
    refine mv_E.rT (t := mt_111) rfl 2 (f' := (158, [some (.ref 18), some (.int l1), d2.map .int], [.int 1])) (h' := (HPf C r1870.2 o, c, s)) rfl ?_
    cases h
    exact mv_E.done rfl rfl
  replace h := (if_neg hc1894).symm.trans h
  refine mv_E.go rfl (mi_if_neg hc1894) ?_
  refine mv_E.rT (t := mt_111) rfl 1 (f' := (41, [some (.ref 18), some (.int l1), d2.map .int], [.int 0])) (h' := (HPf C r1870.2 o, c, s)) rfl ?_
  cases h
  exact mv_E.done rfl rfl
def b_111_33 (M : CS) (l1 : Int32) (s0 : Int32) : Option (Int32 × CS) := b_111_34 M l1 0 s0
theorem tb_111_33 (L : Nat) (xs : Nat → Int32) (C : CS) (o : Nat → Int64) (c s : Nat) (M : CS) (l1 : Int32) (s0 : Int32) (d2 : Option Int32) (ret : Int32 × CS) (h : b_111_33 M l1 s0 = some ret) : mv_E (mp L xs) 111 (33, [some (.ref 18), some (.int l1), d2.map .int], [.int s0, .ref 18]) (HPf C M o, c, s) ((.inl (some (.int ret.1)), (HPf C ret.2 o, c, s))) := by
  unfold b_111_33 at h
  refine mv_E.rT (t := mt_111) rfl 1 (f' := (34, [some (.ref 18), some (.int l1), d2.map .int], [.int 0, .int s0, .ref 18])) (h' := (HPf C M o, c, s)) rfl ?_
  exact tb_111_34 L xs C o c s M l1 0 s0 d2 _ h
def b_111_15 (M : CS) (l1 : Int32) (s0 : Int32) : Option (Int32 × CS) := (if ¬ s0 = 0 then b_111_33 M l1 s0 else (if ¬ (M.1 2) = 0 then b_111_33 M l1 s0 else b_111_34 M l1 1 s0))
theorem tb_111_15 (L : Nat) (xs : Nat → Int32) (C : CS) (o : Nat → Int64) (c s : Nat) (M : CS) (l1 : Int32) (s0 : Int32) (d2 : Option Int32) (ret : Int32 × CS) (h : b_111_15 M l1 s0 = some ret) : mv_E (mp L xs) 111 (15, [some (.ref 18), some (.int l1), d2.map .int], [.int s0]) (HPf C M o, c, s) ((.inl (some (.int ret.1)), (HPf C ret.2 o, c, s))) := by
  unfold b_111_15 at h
  refine mv_E.rT (t := mt_111) rfl 4 (f' := (19, [some (.ref 18), some (.int l1), some (.int s0)], [.int s0, .int s0, .ref 18])) (h' := (HPf C M o, c, s)) rfl ?_
  by_cases hc1898 : ¬ s0 = 0
  · replace h := (if_pos hc1898).symm.trans h
    refine mv_E.go rfl (mi_if_pos hc1898) ?_
    show mv_E (mp L xs) 111 (33, [some (.ref 18), some (.int l1), some (.int s0)], [.int s0, .ref 18]) (HPf C M o, c, s) _
    exact tb_111_33 L xs C o c s M l1 s0 (some s0) _ h
  replace h := (if_neg hc1898).symm.trans h
  refine mv_E.go rfl (mi_if_neg hc1898) ?_
  refine mv_E.rT (t := mt_111) rfl 2 (f' := (26, [some (.ref 18), some (.int l1), some (.int s0)], [.int (M.1 2), .int s0, .ref 18])) (h' := (HPf C M o, c, s)) rfl ?_
  by_cases hc1897 : ¬ (M.1 2) = 0
  · replace h := (if_pos hc1897).symm.trans h
    refine mv_E.go rfl (mi_if_pos hc1897) ?_
    show mv_E (mp L xs) 111 (33, [some (.ref 18), some (.int l1), some (.int s0)], [.int s0, .ref 18]) (HPf C M o, c, s) _
    exact tb_111_33 L xs C o c s M l1 s0 (some s0) _ h
  replace h := (if_neg hc1897).symm.trans h
  refine mv_E.go rfl (mi_if_neg hc1897) ?_
  refine mv_E.rT (t := mt_111) rfl 2 (f' := (34, [some (.ref 18), some (.int l1), some (.int s0)], [.int 1, .int s0, .ref 18])) (h' := (HPf C M o, c, s)) rfl ?_
  exact tb_111_34 L xs C o c s M l1 1 s0 (some s0) _ h
def b_111_10 (M : CS) (l1 : Int32) : Option (Int32 × CS) := b_111_15 M l1 1
theorem tb_111_10 (L : Nat) (xs : Nat → Int32) (C : CS) (o : Nat → Int64) (c s : Nat) (M : CS) (l1 : Int32) (d2 : Option Int32) (ret : Int32 × CS) (h : b_111_10 M l1 = some ret) : mv_E (mp L xs) 111 (10, [some (.ref 18), some (.int l1), d2.map .int], []) (HPf C M o, c, s) ((.inl (some (.int ret.1)), (HPf C ret.2 o, c, s))) := by
  unfold b_111_10 at h
  refine mv_E.rT (t := mt_111) rfl 2 (f' := (15, [some (.ref 18), some (.int l1), d2.map .int], [.int 1])) (h' := (HPf C M o, c, s)) rfl ?_
  exact tb_111_15 L xs C o c s M l1 1 d2 _ h
def f_111 (M : CS) (p0 : Int32) : Option (Int32 × CS) := (if p0 < 0 then b_111_10 M p0 else (if p0 ≤ 8 then b_111_15 M p0 0 else b_111_10 M p0))
theorem t_111 (L : Nat) (xs : Nat → Int32) {C M : CS} {o : Nat → Int64} {c s : Nat} {p0 : Int32} {ret : Int32 × CS} (h : f_111 M p0 = some ret) : mv_E (mp L xs) 111 (0, [some (.ref 18), some (.int p0), none], []) (HPf C M o, c, s) ((.inl (some (.int ret.1)), (HPf C ret.2 o, c, s))) := by
  unfold f_111 at h
  refine mv_E.rT (t := mt_111) rfl 1 (f' := (1, [some (.ref 18), some (.int p0), none], [.int p0])) (h' := (HPf C M o, c, s)) rfl ?_
  by_cases hc1900 : p0 < 0
  · replace h := (if_pos hc1900).symm.trans h
    refine mv_E.go rfl (mi_if_pos hc1900) ?_
    show mv_E (mp L xs) 111 (10, [some (.ref 18), some (.int p0), none], []) (HPf C M o, c, s) _
    exact tb_111_10 L xs C o c s M p0 none _ h
  replace h := (if_neg hc1900).symm.trans h
  refine mv_E.go rfl (mi_if_neg hc1900) ?_
  refine mv_E.rT (t := mt_111) rfl 2 (f' := (7, [some (.ref 18), some (.int p0), none], [.int 8, .int p0])) (h' := (HPf C M o, c, s)) rfl ?_
  by_cases hc1899 : p0 ≤ 8
  · replace h := (if_pos hc1899).symm.trans h
    refine mv_E.go rfl (mi_icmp_pos hc1899) ?_
    refine mv_E.rT (t := mt_111) rfl 1 (f' := (15, [some (.ref 18), some (.int p0), none], [.int 0])) (h' := (HPf C M o, c, s)) rfl ?_
    exact tb_111_15 L xs C o c s M p0 0 none _ h
  replace h := (if_neg hc1899).symm.trans h
  refine mv_E.go rfl (mi_icmp_neg hc1899) ?_
  show mv_E (mp L xs) 111 (10, [some (.ref 18), some (.int p0), none], []) (HPf C M o, c, s) _
  exact tb_111_10 L xs C o c s M p0 none _ h
def b_114_37 (M : CS) (l1 : Int32) (s0 : Int32) (s1 : Int32) : Option (Int32 × CS) := (f_22 M s1 s0).bind fun r1901 => (if r1901.1 = 0 then if mv_in l1 2000 = true then some (((r1901.2.2 1) l1.toNatClampNeg), r1901.2) else none else some (0, r1901.2))
theorem tb_114_37 (L : Nat) (xs : Nat → Int32) (C : CS) (o : Nat → Int64) (c s : Nat) (M : CS) (l1 : Int32) (s0 : Int32) (s1 : Int32) (ret : Int32 × CS) (h : b_114_37 M l1 s0 s1 = some ret) : mv_E (mp L xs) 114 (37, [some (.ref 18), some (.int l1)], [.int s0, .int s1, .ref 18]) (HPf C M o, c, s) ((.inl (some (.int ret.1)), (HPf C ret.2 o, c, s))) := by
  unfold b_114_37 at h
  show mv_E (mp L xs) 114 (37, [some (.ref 18), some (.int l1)], [.int s0, .int s1, .ref 18]) (HPf C M o, c, s) _
  obtain ⟨r1905, hr1906, h⟩ := Option.bind_eq_some_iff.mp h
  refine mv_E.call (z := 22) (vs := [.ref 18, .int s1, .int s0]) (f' := (40, [some (.ref 18), some (.int l1)], [])) (h' := (HPf C M o, c, s)) rfl rfl rfl (t_22 L xs hr1906) (mv_okl rfl) ?_
  show mv_E (mp L xs) 114 (40, [some (.ref 18), some (.int l1)], [.int r1905.1]) (HPf C r1905.2 o, c, s) _
  by_cases hc1908 : r1905.1 = 0
  · replace h := (if_pos hc1908).symm.trans h
    refine mv_E.go rfl (mi_if_pos hc1908) ?_
    refine mv_E.rT (t := mt_114) rfl 3 (f' := (50, [some (.ref 18), some (.int l1)], [.int l1, .ref 20])) (h' := (HPf C r1905.2 o, c, s)) rfl ?_
    by_cases hb1907 : mv_in l1 2000 = true
    rotate_left
    · cases (if_neg hb1907).symm.trans h
    replace h := (if_pos hb1907).symm.trans h
    refine mv_E.go rfl (mi_iald_at rfl hb1907) ?_
    show mv_E (mp L xs) 114 (51, [some (.ref 18), some (.int l1)], [.int ((r1905.2.2 1) l1.toNatClampNeg)]) (HPf C r1905.2 o, c, s) _
    cases h
    exact mv_E.done rfl rfl
  replace h := (if_neg hc1908).symm.trans h
  refine mv_E.go rfl (mi_if_neg hc1908) ?_
  refine mv_E.rT (t := mt_114) rfl 1 (f' := (44, [some (.ref 18), some (.int l1)], [.int 0])) (h' := (HPf C r1905.2 o, c, s)) rfl ?_
  cases h
  exact mv_E.done rfl rfl
def b_114_36 (M : CS) (l1 : Int32) (s0 : Int32) : Option (Int32 × CS) := b_114_37 M l1 0 s0
theorem tb_114_36 (L : Nat) (xs : Nat → Int32) (C : CS) (o : Nat → Int64) (c s : Nat) (M : CS) (l1 : Int32) (s0 : Int32) (ret : Int32 × CS) (h : b_114_36 M l1 s0 = some ret) : mv_E (mp L xs) 114 (36, [some (.ref 18), some (.int l1)], [.int s0, .ref 18]) (HPf C M o, c, s) ((.inl (some (.int ret.1)), (HPf C ret.2 o, c, s))) := by
  unfold b_114_36 at h
  refine mv_E.rT (t := mt_114) rfl 1 (f' := (37, [some (.ref 18), some (.int l1)], [.int 0, .int s0, .ref 18])) (h' := (HPf C M o, c, s)) rfl ?_
  exact tb_114_37 L xs C o c s M l1 0 s0 _ h
def b_114_32 (M : CS) (l1 : Int32) (s0 : Int32) : Option (Int32 × CS) := b_114_37 M l1 1 s0
theorem tb_114_32 (L : Nat) (xs : Nat → Int32) (C : CS) (o : Nat → Int64) (c s : Nat) (M : CS) (l1 : Int32) (s0 : Int32) (ret : Int32 × CS) (h : b_114_32 M l1 s0 = some ret) : mv_E (mp L xs) 114 (32, [some (.ref 18), some (.int l1)], [.int s0, .ref 18]) (HPf C M o, c, s) ((.inl (some (.int ret.1)), (HPf C ret.2 o, c, s))) := by
  unfold b_114_32 at h
  refine mv_E.rT (t := mt_114) rfl 2 (f' := (37, [some (.ref 18), some (.int l1)], [.int 1, .int s0, .ref 18])) (h' := (HPf C M o, c, s)) rfl ?_
  exact tb_114_37 L xs C o c s M l1 1 s0 _ h
def b_114_13 (M : CS) (l1 : Int32) (s0 : Int32) : Option (Int32 × CS) := (if (M.1 2) = 0 then b_114_36 M l1 s0 else (if l1 < 0 then b_114_32 M l1 s0 else (if l1 < (M.1 12) then b_114_36 M l1 s0 else b_114_32 M l1 s0)))
theorem tb_114_13 (L : Nat) (xs : Nat → Int32) (C : CS) (o : Nat → Int64) (c s : Nat) (M : CS) (l1 : Int32) (s0 : Int32) (ret : Int32 × CS) (h : b_114_13 M l1 s0 = some ret) : mv_E (mp L xs) 114 (13, [some (.ref 18), some (.int l1)], [.int s0, .ref 18]) (HPf C M o, c, s) ((.inl (some (.int ret.1)), (HPf C ret.2 o, c, s))) := by
  unfold b_114_13 at h
  refine mv_E.rT (t := mt_114) rfl 2 (f' := (17, [some (.ref 18), some (.int l1)], [.int (M.1 2), .int s0, .ref 18])) (h' := (HPf C M o, c, s)) rfl ?_
  by_cases hc1914 : (M.1 2) = 0
  · replace h := (if_pos hc1914).symm.trans h
    refine mv_E.go rfl (mi_if_pos hc1914) ?_
    show mv_E (mp L xs) 114 (36, [some (.ref 18), some (.int l1)], [.int s0, .ref 18]) (HPf C M o, c, s) _
    exact tb_114_36 L xs C o c s M l1 s0 _ h
  replace h := (if_neg hc1914).symm.trans h
  refine mv_E.go rfl (mi_if_neg hc1914) ?_
  refine mv_E.rT (t := mt_114) rfl 1 (f' := (21, [some (.ref 18), some (.int l1)], [.int l1, .int s0, .ref 18])) (h' := (HPf C M o, c, s)) rfl ?_
  by_cases hc1913 : l1 < 0
  · replace h := (if_pos hc1913).symm.trans h
    refine mv_E.go rfl (mi_if_pos hc1913) ?_
    show mv_E (mp L xs) 114 (32, [some (.ref 18), some (.int l1)], [.int s0, .ref 18]) (HPf C M o, c, s) _
    exact tb_114_32 L xs C o c s M l1 s0 _ h
  replace h := (if_neg hc1913).symm.trans h
  refine mv_E.go rfl (mi_if_neg hc1913) ?_
  refine mv_E.rT (t := mt_114) rfl 3 (f' := (29, [some (.ref 18), some (.int l1)], [.int (M.1 12), .int l1, .int s0, .ref 18])) (h' := (HPf C M o, c, s)) rfl ?_
  by_cases hc1912 : l1 < (M.1 12)
  · replace h := (if_pos hc1912).symm.trans h
    refine mv_E.go rfl (mi_icmp_pos hc1912) ?_
    show mv_E (mp L xs) 114 (36, [some (.ref 18), some (.int l1)], [.int s0, .ref 18]) (HPf C M o, c, s) _
    exact tb_114_36 L xs C o c s M l1 s0 _ h
  replace h := (if_neg hc1912).symm.trans h
  refine mv_E.go rfl (mi_icmp_neg hc1912) ?_
  show mv_E (mp L xs) 114 (32, [some (.ref 18), some (.int l1)], [.int s0, .ref 18]) (HPf C M o, c, s) _
  exact tb_114_32 L xs C o c s M l1 s0 _ h
def f_114 (M : CS) (p0 : Int32) : Option (Int32 × CS) := (if ¬ (M.1 2) = 0 then b_114_13 M p0 0 else b_114_13 M p0 1)
theorem t_114 (L : Nat) (xs : Nat → Int32) {C M : CS} {o : Nat → Int64} {c s : Nat} {p0 : Int32} {ret : Int32 × CS} (h : f_114 M p0 = some ret) : mv_E (mp L xs) 114 (0, [some (.ref 18), some (.int p0)], []) (HPf C M o, c, s) ((.inl (some (.int ret.1)), (HPf C ret.2 o, c, s))) := by
  unfold f_114 at h
  refine mv_E.rT (t := mt_114) rfl 3 (f' := (5, [some (.ref 18), some (.int p0)], [.int (M.1 2), .ref 18])) (h' := (HPf C M o, c, s)) rfl ?_
  by_cases hc1915 : ¬ (M.1 2) = 0
  · replace h := (if_pos hc1915).symm.trans h
    refine mv_E.go rfl (mi_if_pos hc1915) ?_
    refine mv_E.rT (t := mt_114) rfl 1 (f' := (13, [some (.ref 18), some (.int p0)], [.int 0, .ref 18])) (h' := (HPf C M o, c, s)) rfl ?_
    exact tb_114_13 L xs C o c s M p0 0 _ h
  replace h := (if_neg hc1915).symm.trans h
  refine mv_E.go rfl (mi_if_neg hc1915) ?_
  refine mv_E.rT (t := mt_114) rfl 2 (f' := (13, [some (.ref 18), some (.int p0)], [.int 1, .ref 18])) (h' := (HPf C M o, c, s)) rfl ?_
  exact tb_114_13 L xs C o c s M p0 1 _ h
def b_125_78 (k_41 : Int32 → Int32 → Int32 → Option (Int32)) (M : CS) (l2 : Int32) (l4 : Int32) (s0 : Int32) : Option (Int32) := k_41 l2 s0 (l4 + 1)
theorem tb_125_78 (L : Nat) (xs : Nat → Int32) (C : CS) (o : Nat → Int64) (c s : Nat) (M : CS) (k_41 : Int32 → Int32 → Int32 → Option (Int32)) (hk_41 : ∀ (l2 : Int32) (l3 : Int32) (l4 : Int32) (d1 : Option Int32) (ret : Int32), k_41 l2 l3 l4 = some ret → mv_E (mp L xs) 125 (41, [some (.ref 18), d1.map .int, some (.int l2), some (.int l3), some (.int l4)], []) (HPf C M o, c, s) ((.inl (some (.int ret)), (HPf C M o, c, s)))) (l2 : Int32) (l4 : Int32) (s0 : Int32) (d1 : Option Int32) (d3 : Option Int32) (ret : Int32) (h : b_125_78 k_41 M l2 l4 s0 = some ret) : mv_E (mp L xs) 125 (78, [some (.ref 18), d1.map .int, some (.int l2), d3.map .int, some (.int l4)], [.int s0]) (HPf C M o, c, s) ((.inl (some (.int ret)), (HPf C M o, c, s))) := by
  unfold b_125_78 at h
  refine mv_E.rT (t := mt_125) rfl 3 (f' := (41, [some (.ref 18), d1.map .int, some (.int l2), some (.int s0), some (.int (l4 + 1))], [])) (h' := (HPf C M o, c, s)) rfl ?_
  exact hk_41 l2 s0 (l4 + 1) d1 _ h
def b_125_41 : Nat → CS → Int32 → Int32 → Int32 → Option (Int32)
  | 0, _, _, _, _ => none
  | n + 1, M, l2, l3, l4 => (if (M.1 12) ≤ l4 then if l3 = 0 ∨ l3 = 1 then some l3 else none else (if l3 = 0 then if l3 = 0 ∨ l3 = 1 then some l3 else none else if mv_in (l2 + l4) 2000 = true then if mv_in l4 2000 = true then (if ¬ ((M.2 3) (l2 + l4).toNatClampNeg) = ((M.2 1) l4.toNatClampNeg) then b_125_78 (b_125_41 n M) M l2 l4 0 else b_125_78 (b_125_41 n M) M l2 l4 1) else none else none))
theorem tb_125_41 (L : Nat) (xs : Nat → Int32) (C : CS) (o : Nat → Int64) (c s : Nat) : ∀ (n : Nat) (M : CS) (l2 : Int32) (l3 : Int32) (l4 : Int32) (d1 : Option Int32) (ret : Int32), b_125_41 n M l2 l3 l4 = some ret → mv_E (mp L xs) 125 (41, [some (.ref 18), d1.map .int, some (.int l2), some (.int l3), some (.int l4)], []) (HPf C M o, c, s) ((.inl (some (.int ret)), (HPf C M o, c, s))) := by
  intro n
  induction n with
  | zero => intro M l2 l3 l4 d1 ret h; rw [b_125_41] at h; cases h
  | succ n ih =>
    intro M l2 l3 l4 d1 ret h
    rw [b_125_41] at h
    refine mv_E.rT (t := mt_125) rfl 3 (f' := (47, [some (.ref 18), d1.map .int, some (.int l2), some (.int l3), some (.int l4)], [.int (M.1 12), .int l4])) (h' := (HPf C M o, c, s)) rfl ?_
    by_cases hc1943 : (M.1 12) ≤ l4
    · replace h := (if_pos hc1943).symm.trans h
      refine mv_E.go rfl (mi_icmp_pos hc1943) ?_
      refine mv_E.rT (t := mt_125) rfl 1 (f' := (86, [some (.ref 18), d1.map .int, some (.int l2), some (.int l3), some (.int l4)], [.int l3])) (h' := (HPf C M o, c, s)) rfl ?_
      by_cases hz1937 : l3 = 0 ∨ l3 = 1
      rotate_left
      · cases (if_neg hz1937).symm.trans h
      replace h := (if_pos hz1937).symm.trans h
      cases h
      exact mv_E.done rfl (mi_zret_at hz1937)
    replace h := (if_neg hc1943).symm.trans h
    refine mv_E.go rfl (mi_icmp_neg hc1943) ?_
    refine mv_E.rT (t := mt_125) rfl 1 (f' := (51, [some (.ref 18), d1.map .int, some (.int l2), some (.int l3), some (.int l4)], [.int l3])) (h' := (HPf C M o, c, s)) rfl ?_
    by_cases hc1942 : l3 = 0
    · replace h := (if_pos hc1942).symm.trans h
      refine mv_E.go rfl (mi_if_pos hc1942) ?_
      refine mv_E.rT (t := mt_125) rfl 1 (f' := (86, [some (.ref 18), d1.map .int, some (.int l2), some (.int l3), some (.int l4)], [.int l3])) (h' := (HPf C M o, c, s)) rfl ?_
      by_cases hz1938 : l3 = 0 ∨ l3 = 1
      rotate_left
      · cases (if_neg hz1938).symm.trans h
      replace h := (if_pos hz1938).symm.trans h
      cases h
      exact mv_E.done rfl (mi_zret_at hz1938)
    replace h := (if_neg hc1942).symm.trans h
    refine mv_E.go rfl (mi_if_neg hc1942) ?_
    refine mv_E.rT (t := mt_125) rfl 5 (f' := (62, [some (.ref 18), d1.map .int, some (.int l2), some (.int l3), some (.int l4)], [.int (l2 + l4), .ref 22])) (h' := (HPf C M o, c, s)) rfl ?_
    by_cases hb1939 : mv_in (l2 + l4) 2000 = true
    rotate_left
    · cases (if_neg hb1939).symm.trans h
    replace h := (if_pos hb1939).symm.trans h
    refine mv_E.go rfl (mi_iald_at rfl hb1939) ?_
    refine mv_E.rT (t := mt_125) rfl 3 (f' := (69, [some (.ref 18), d1.map .int, some (.int l2), some (.int l3), some (.int l4)], [.int l4, .ref 20, .int ((M.2 3) (l2 + l4).toNatClampNeg)])) (h' := (HPf C M o, c, s)) rfl ?_
    by_cases hb1940 : mv_in l4 2000 = true
    rotate_left
    · cases (if_neg hb1940).symm.trans h
    replace h := (if_pos hb1940).symm.trans h
    refine mv_E.go rfl (mi_iald_at rfl hb1940) ?_
    show mv_E (mp L xs) 125 (70, [some (.ref 18), d1.map .int, some (.int l2), some (.int l3), some (.int l4)], [.int ((M.2 1) l4.toNatClampNeg), .int ((M.2 3) (l2 + l4).toNatClampNeg)]) (HPf C M o, c, s) _
    by_cases hc1941 : ¬ ((M.2 3) (l2 + l4).toNatClampNeg) = ((M.2 1) l4.toNatClampNeg)
    · replace h := (if_pos hc1941).symm.trans h
      refine mv_E.go rfl (mi_icmp_pos hc1941) ?_
      refine mv_E.rT (t := mt_125) rfl 1 (f' := (78, [some (.ref 18), d1.map .int, some (.int l2), some (.int l3), some (.int l4)], [.int 0])) (h' := (HPf C M o, c, s)) rfl ?_
      exact tb_125_78 L xs C o c s M (b_125_41 n M) (ih M) l2 l4 0 d1 (some l3) _ h
    replace h := (if_neg hc1941).symm.trans h
    refine mv_E.go rfl (mi_icmp_neg hc1941) ?_
    refine mv_E.rT (t := mt_125) rfl 2 (f' := (78, [some (.ref 18), d1.map .int, some (.int l2), some (.int l3), some (.int l4)], [.int 1])) (h' := (HPf C M o, c, s)) rfl ?_
    exact tb_125_78 L xs C o c s M (b_125_41 n M) (ih M) l2 l4 1 d1 (some l3) _ h
def b_125_37 (M : CS) (l2 : Int32) (s0 : Int32) : Option (Int32) := b_125_41 fu M l2 s0 0
theorem tb_125_37 (L : Nat) (xs : Nat → Int32) (C : CS) (o : Nat → Int64) (c s : Nat) (M : CS) (l2 : Int32) (s0 : Int32) (d1 : Option Int32) (d3 : Option Int32) (d4 : Option Int32) (ret : Int32) (h : b_125_37 M l2 s0 = some ret) : mv_E (mp L xs) 125 (37, [some (.ref 18), d1.map .int, some (.int l2), d3.map .int, d4.map .int], [.int s0]) (HPf C M o, c, s) ((.inl (some (.int ret)), (HPf C M o, c, s))) := by
  unfold b_125_37 at h
  refine mv_E.rT (t := mt_125) rfl 3 (f' := (41, [some (.ref 18), d1.map .int, some (.int l2), some (.int s0), some (.int 0)], [])) (h' := (HPf C M o, c, s)) rfl ?_
  exact tb_125_41 L xs C o c s fu M l2 s0 0 d1 _ h
def b_125_16 (M : CS) (l1 : Int32) (s0 : Int32) : Option (Int32) := if mv_in l1 1000 = true then (if ¬ (((M.2 2) l1.toNatClampNeg) - s0) = (M.1 12) then b_125_37 M s0 0 else b_125_37 M s0 1) else none
theorem tb_125_16 (L : Nat) (xs : Nat → Int32) (C : CS) (o : Nat → Int64) (c s : Nat) (M : CS) (l1 : Int32) (s0 : Int32) (d2 : Option Int32) (d3 : Option Int32) (d4 : Option Int32) (ret : Int32) (h : b_125_16 M l1 s0 = some ret) : mv_E (mp L xs) 125 (16, [some (.ref 18), some (.int l1), d2.map .int, d3.map .int, d4.map .int], [.int s0]) (HPf C M o, c, s) ((.inl (some (.int ret)), (HPf C M o, c, s))) := by
  unfold b_125_16 at h
  refine mv_E.rT (t := mt_125) rfl 4 (f' := (22, [some (.ref 18), some (.int l1), some (.int s0), d3.map .int, d4.map .int], [.int l1, .ref 21])) (h' := (HPf C M o, c, s)) rfl ?_
  by_cases hb1945 : mv_in l1 1000 = true
  rotate_left
  · cases (if_neg hb1945).symm.trans h
  replace h := (if_pos hb1945).symm.trans h
  refine mv_E.go rfl (mi_iald_at rfl hb1945) ?_
  refine mv_E.rT (t := mt_125) rfl 4 (f' := (29, [some (.ref 18), some (.int l1), some (.int s0), d3.map .int, d4.map .int], [.int (M.1 12), .int (((M.2 2) l1.toNatClampNeg) - s0)])) (h' := (HPf C M o, c, s)) rfl ?_
  by_cases hc1946 : ¬ (((M.2 2) l1.toNatClampNeg) - s0) = (M.1 12)
  · replace h := (if_pos hc1946).symm.trans h
    refine mv_E.go rfl (mi_icmp_pos hc1946) ?_
    refine mv_E.rT (t := mt_125) rfl 1 (f' := (37, [some (.ref 18), some (.int l1), some (.int s0), d3.map .int, d4.map .int], [.int 0])) (h' := (HPf C M o, c, s)) rfl ?_
    exact tb_125_37 L xs C o c s M s0 0 (some l1) d3 d4 _ h
  replace h := (if_neg hc1946).symm.trans h
  refine mv_E.go rfl (mi_icmp_neg hc1946) ?_
  refine mv_E.rT (t := mt_125) rfl 2 (f' := (37, [some (.ref 18), some (.int l1), some (.int s0), d3.map .int, d4.map .int], [.int 1])) (h' := (HPf C M o, c, s)) rfl ?_
  exact tb_125_37 L xs C o c s M s0 1 (some l1) d3 d4 _ h
def f_125 (M : CS) (p0 : Int32) : Option (Int32) := (if ¬ p0 = 0 then if mv_in (p0 - 1) 1000 = true then b_125_16 M p0 ((M.2 2) (p0 - 1).toNatClampNeg) else none else b_125_16 M p0 0)
theorem t_125 (L : Nat) (xs : Nat → Int32) {C M : CS} {o : Nat → Int64} {c s : Nat} {p0 : Int32} {ret : Int32} (h : f_125 M p0 = some ret) : mv_E (mp L xs) 125 (0, [some (.ref 18), some (.int p0), none, none, none], []) (HPf C M o, c, s) ((.inl (some (.int ret)), (HPf C M o, c, s))) := by
  unfold f_125 at h
  refine mv_E.rT (t := mt_125) rfl 1 (f' := (1, [some (.ref 18), some (.int p0), none, none, none], [.int p0])) (h' := (HPf C M o, c, s)) rfl ?_
  by_cases hc1947 : ¬ p0 = 0
  · replace h := (if_pos hc1947).symm.trans h
    refine mv_E.go rfl (mi_if_pos hc1947) ?_
    refine mv_E.rT (t := mt_125) rfl 5 (f' := (15, [some (.ref 18), some (.int p0), none, none, none], [.int (p0 - 1), .ref 21])) (h' := (HPf C M o, c, s)) rfl ?_
    by_cases hb1928 : mv_in (p0 - 1) 1000 = true
    rotate_left
    · cases (if_neg hb1928).symm.trans h
    replace h := (if_pos hb1928).symm.trans h
    refine mv_E.go rfl (mi_iald_at rfl hb1928) ?_
    show mv_E (mp L xs) 125 (16, [some (.ref 18), some (.int p0), none, none, none], [.int ((M.2 2) (p0 - 1).toNatClampNeg)]) (HPf C M o, c, s) _
    exact tb_125_16 L xs C o c s M p0 ((M.2 2) (p0 - 1).toNatClampNeg) none none none _ h
  replace h := (if_neg hc1947).symm.trans h
  refine mv_E.go rfl (mi_if_neg hc1947) ?_
  refine mv_E.rT (t := mt_125) rfl 2 (f' := (16, [some (.ref 18), some (.int p0), none, none, none], [.int 0])) (h' := (HPf C M o, c, s)) rfl ?_
  exact tb_125_16 L xs C o c s M p0 0 none none none _ h
def b_126_89 : Nat → CS → Int32 → Int32 → Option (Int32 × CS)
  | 0, _, _, _ => none
  | n + 1, M, l1, l2 => (if (M.1 12) ≤ l2 then if mv_in (M.1 13) 1000 = true then some ((((M.1 13) + 1) - 1), (ru (M.1) 13 (((M.1 13) + 1)), ru (M.2) 2 (upd (M.2 2) (M.1 13).toNatClampNeg (l1 + (M.1 12))))) else none else if mv_in l2 2000 = true then if mv_in (l1 + l2) 2000 = true then (b_126_89 n) (M.1, ru (M.2) 3 (upd (M.2 3) (l1 + l2).toNatClampNeg ((M.2 1) l2.toNatClampNeg))) l1 (l2 + 1) else none else none)
theorem tb_126_89 (L : Nat) (xs : Nat → Int32) (C : CS) (o : Nat → Int64) (c s : Nat) : ∀ (n : Nat) (M : CS) (l1 : Int32) (l2 : Int32) (ret : Int32 × CS), b_126_89 n M l1 l2 = some ret → mv_E (mp L xs) 126 (89, [some (.ref 18), some (.int l1), some (.int l2)], []) (HPf C M o, c, s) ((.inl (some (.int ret.1)), (HPf C ret.2 o, c, s))) := by
  intro n
  induction n with
  | zero => intro M l1 l2 ret h; rw [b_126_89] at h; cases h
  | succ n ih =>
    intro M l1 l2 ret h
    rw [b_126_89] at h
    refine mv_E.rT (t := mt_126) rfl 3 (f' := (94, [some (.ref 18), some (.int l1), some (.int l2)], [.int (M.1 12), .int l2])) (h' := (HPf C M o, c, s)) rfl ?_
    by_cases hc1926 : (M.1 12) ≤ l2
    · replace h := (if_pos hc1926).symm.trans h
      refine mv_E.go rfl (mi_icmp_pos hc1926) ?_
      refine mv_E.rT (t := mt_126) rfl 8 (f' := (131, [some (.ref 18), some (.int l1), some (.int l2)], [.int (l1 + (M.1 12)), .int (M.1 13), .ref 21])) (h' := (HPf C M o, c, s)) rfl ?_
      by_cases hb1923 : mv_in (M.1 13) 1000 = true
      rotate_left
      · cases (if_neg hb1923).symm.trans h
      replace h := (if_pos hb1923).symm.trans h
      refine mv_E.go rfl (mi_iast_at rfl hb1923) ?_
      refine mv_E.rT (t := mt_126) rfl 10 (f' := (148, [some (.ref 18), some (.int l1), some (.int l2)], [.int (((M.1 13) + 1) - 1)])) (h' := (HPf C (ru (M.1) 13 (((M.1 13) + 1)), ru (M.2) 2 (upd (M.2 2) (M.1 13).toNatClampNeg (l1 + (M.1 12)))) o, c, s)) rfl ?_
      cases h
      exact mv_E.done rfl rfl
    replace h := (if_neg hc1926).symm.trans h
    refine mv_E.go rfl (mi_icmp_neg hc1926) ?_
    refine mv_E.rT (t := mt_126) rfl 8 (f' := (109, [some (.ref 18), some (.int l1), some (.int l2)], [.int l2, .ref 20, .int (l1 + l2), .ref 22])) (h' := (HPf C M o, c, s)) rfl ?_
    by_cases hb1924 : mv_in l2 2000 = true
    rotate_left
    · cases (if_neg hb1924).symm.trans h
    replace h := (if_pos hb1924).symm.trans h
    refine mv_E.go rfl (mi_iald_at rfl hb1924) ?_
    show mv_E (mp L xs) 126 (110, [some (.ref 18), some (.int l1), some (.int l2)], [.int ((M.2 1) l2.toNatClampNeg), .int (l1 + l2), .ref 22]) (HPf C M o, c, s) _
    by_cases hb1925 : mv_in (l1 + l2) 2000 = true
    rotate_left
    · cases (if_neg hb1925).symm.trans h
    replace h := (if_pos hb1925).symm.trans h
    refine mv_E.go rfl (mi_iast_at rfl hb1925) ?_
    refine mv_E.rT (t := mt_126) rfl 2 (f' := (89, [some (.ref 18), some (.int l1), some (.int (l2 + 1))], [])) (h' := (HPf C (M.1, ru (M.2) 3 (upd (M.2 3) (l1 + l2).toNatClampNeg ((M.2 1) l2.toNatClampNeg))) o, c, s)) rfl ?_
    exact ih (M.1, ru (M.2) 3 (upd (M.2 3) (l1 + l2).toNatClampNeg ((M.2 1) l2.toNatClampNeg))) l1 (l2 + 1) _ h
def b_126_86 (M : CS) (s0 : Int32) : Option (Int32 × CS) := b_126_89 fu M s0 0
theorem tb_126_86 (L : Nat) (xs : Nat → Int32) (C : CS) (o : Nat → Int64) (c s : Nat) (M : CS) (s0 : Int32) (d1 : Option Int32) (d2 : Option Int32) (ret : Int32 × CS) (h : b_126_86 M s0 = some ret) : mv_E (mp L xs) 126 (86, [some (.ref 18), d1.map .int, d2.map .int], [.int s0]) (HPf C M o, c, s) ((.inl (some (.int ret.1)), (HPf C ret.2 o, c, s))) := by
  unfold b_126_86 at h
  refine mv_E.rT (t := mt_126) rfl 3 (f' := (89, [some (.ref 18), some (.int s0), some (.int 0)], [])) (h' := (HPf C M o, c, s)) rfl ?_
  exact tb_126_89 L xs C o c s fu M s0 0 _ h
def b_126_40 : Nat → CS → Int32 → Option (Int32 × CS)
  | 0, _, _ => none
  | n + 1, M, l1 => (if (M.1 13) ≤ l1 then (if ¬ (M.1 13) = 0 then if mv_in ((M.1 13) - 1) 1000 = true then b_126_86 M ((M.2 2) ((M.1 13) - 1).toNatClampNeg) else none else b_126_86 M 0) else (f_125 M l1).bind fun r1948 => (if r1948 = 0 then (b_126_40 n) M (l1 + 1) else some (l1, M)))
theorem tb_126_40 (L : Nat) (xs : Nat → Int32) (C : CS) (o : Nat → Int64) (c s : Nat) : ∀ (n : Nat) (M : CS) (l1 : Int32) (d2 : Option Int32) (ret : Int32 × CS), b_126_40 n M l1 = some ret → mv_E (mp L xs) 126 (40, [some (.ref 18), some (.int l1), d2.map .int], []) (HPf C M o, c, s) ((.inl (some (.int ret.1)), (HPf C ret.2 o, c, s))) := by
  intro n
  induction n with
  | zero => intro M l1 d2 ret h; rw [b_126_40] at h; cases h
  | succ n ih =>
    intro M l1 d2 ret h
    rw [b_126_40] at h
    refine mv_E.rT (t := mt_126) rfl 3 (f' := (45, [some (.ref 18), some (.int l1), d2.map .int], [.int (M.1 13), .int l1])) (h' := (HPf C M o, c, s)) rfl ?_
    by_cases hc1957 : (M.1 13) ≤ l1
    · replace h := (if_pos hc1957).symm.trans h
      refine mv_E.go rfl (mi_icmp_pos hc1957) ?_
      refine mv_E.rT (t := mt_126) rfl 2 (f' := (68, [some (.ref 18), some (.int l1), d2.map .int], [.int (M.1 13)])) (h' := (HPf C M o, c, s)) rfl ?_
      by_cases hc1953 : ¬ (M.1 13) = 0
      · replace h := (if_pos hc1953).symm.trans h
        refine mv_E.go rfl (mi_if_pos hc1953) ?_
        refine mv_E.rT (t := mt_126) rfl 6 (f' := (85, [some (.ref 18), some (.int l1), d2.map .int], [.int ((M.1 13) - 1), .ref 21])) (h' := (HPf C M o, c, s)) rfl ?_
        by_cases hb1952 : mv_in ((M.1 13) - 1) 1000 = true
        rotate_left
        · cases (if_neg hb1952).symm.trans h
        replace h := (if_pos hb1952).symm.trans h
        refine mv_E.go rfl (mi_iald_at rfl hb1952) ?_
        show mv_E (mp L xs) 126 (86, [some (.ref 18), some (.int l1), d2.map .int], [.int ((M.2 2) ((M.1 13) - 1).toNatClampNeg)]) (HPf C M o, c, s) _
        exact tb_126_86 L xs C o c s M ((M.2 2) ((M.1 13) - 1).toNatClampNeg) (some l1) d2 _ h
      replace h := (if_neg hc1953).symm.trans h
      refine mv_E.go rfl (mi_if_neg hc1953) ?_
      refine mv_E.rT (t := mt_126) rfl 2 (f' := (86, [some (.ref 18), some (.int l1), d2.map .int], [.int 0])) (h' := (HPf C M o, c, s)) rfl ?_
      exact tb_126_86 L xs C o c s M 0 (some l1) d2 _ h
    replace h := (if_neg hc1957).symm.trans h
    refine mv_E.go rfl (mi_icmp_neg hc1957) ?_
    refine mv_E.rT (t := mt_126) rfl 2 (f' := (50, [some (.ref 18), some (.int l1), d2.map .int], [.int l1, .ref 18])) (h' := (HPf C M o, c, s)) rfl ?_
    obtain ⟨r1954, hr1955, h⟩ := Option.bind_eq_some_iff.mp h
    refine mv_E.call (z := 125) (vs := [.ref 18, .int l1]) (f' := (53, [some (.ref 18), some (.int l1), d2.map .int], [])) (h' := (HPf C M o, c, s)) rfl rfl rfl (t_125 L xs hr1955) (mv_okl rfl) ?_
    show mv_E (mp L xs) 126 (53, [some (.ref 18), some (.int l1), d2.map .int], [.int r1954]) (HPf C M o, c, s) _
    by_cases hc1956 : r1954 = 0
    · replace h := (if_pos hc1956).symm.trans h
      refine mv_E.go rfl (mi_if_pos hc1956) ?_
      refine mv_E.rT (t := mt_126) rfl 2 (f' := (40, [some (.ref 18), some (.int (l1 + 1)), d2.map .int], [])) (h' := (HPf C M o, c, s)) rfl ?_
      exact ih M (l1 + 1) d2 _ h
    replace h := (if_neg hc1956).symm.trans h
    refine mv_E.go rfl (mi_if_neg hc1956) ?_
    refine mv_E.rT (t := mt_126) rfl 1 (f' := (57, [some (.ref 18), some (.int l1), d2.map .int], [.int l1])) (h' := (HPf C M o, c, s)) rfl ?_
    cases h
    exact mv_E.done rfl rfl
def b_126_29 (M : CS) (s0 : Int32) : Option (Int32 × CS) := (f_22 M s0 0).bind fun r1916 => (if r1916.1 = 0 then b_126_40 fu r1916.2 0 else some (0, r1916.2))
theorem tb_126_29 (L : Nat) (xs : Nat → Int32) (C : CS) (o : Nat → Int64) (c s : Nat) (M : CS) (s0 : Int32) (d1 : Option Int32) (d2 : Option Int32) (ret : Int32 × CS) (h : b_126_29 M s0 = some ret) : mv_E (mp L xs) 126 (29, [some (.ref 18), d1.map .int, d2.map .int], [.int s0, .ref 18]) (HPf C M o, c, s) ((.inl (some (.int ret.1)), (HPf C ret.2 o, c, s))) := by
  unfold b_126_29 at h
  refine mv_E.rT (t := mt_126) rfl 1 (f' := (30, [some (.ref 18), d1.map .int, d2.map .int], [.int 0, .int s0, .ref 18])) (h' := (HPf C M o, c, s)) rfl ?_
  obtain ⟨r1959, hr1960, h⟩ := Option.bind_eq_some_iff.mp h
  refine mv_E.call (z := 22) (vs := [.ref 18, .int s0, .int 0]) (f' := (33, [some (.ref 18), d1.map .int, d2.map .int], [])) (h' := (HPf C M o, c, s)) rfl rfl rfl (t_22 L xs hr1960) (mv_okl rfl) ?_
  show mv_E (mp L xs) 126 (33, [some (.ref 18), d1.map .int, d2.map .int], [.int r1959.1]) (HPf C r1959.2 o, c, s) _
  by_cases hc1961 : r1959.1 = 0
  · replace h := (if_pos hc1961).symm.trans h
    refine mv_E.go rfl (mi_if_pos hc1961) ?_
    refine mv_E.rT (t := mt_126) rfl 2 (f' := (40, [some (.ref 18), some (.int 0), d2.map .int], [])) (h' := (HPf C r1959.2 o, c, s)) rfl ?_
    exact tb_126_40 L xs C o c s fu r1959.2 0 d2 _ h
  replace h := (if_neg hc1961).symm.trans h
  refine mv_E.go rfl (mi_if_neg hc1961) ?_
  refine mv_E.rT (t := mt_126) rfl 1 (f' := (37, [some (.ref 18), d1.map .int, d2.map .int], [.int 0])) (h' := (HPf C r1959.2 o, c, s)) rfl ?_
  cases h
  exact mv_E.done rfl rfl
def b_126_24 (M : CS) : Option (Int32 × CS) := b_126_29 M 1
theorem tb_126_24 (L : Nat) (xs : Nat → Int32) (C : CS) (o : Nat → Int64) (c s : Nat) (M : CS) (d1 : Option Int32) (d2 : Option Int32) (ret : Int32 × CS) (h : b_126_24 M = some ret) : mv_E (mp L xs) 126 (24, [some (.ref 18), d1.map .int, d2.map .int], [.ref 18]) (HPf C M o, c, s) ((.inl (some (.int ret.1)), (HPf C ret.2 o, c, s))) := by
  unfold b_126_24 at h
  refine mv_E.rT (t := mt_126) rfl 2 (f' := (29, [some (.ref 18), d1.map .int, d2.map .int], [.int 1, .ref 18])) (h' := (HPf C M o, c, s)) rfl ?_
  exact tb_126_29 L xs C o c s M 1 d1 d2 _ h
def f_126 (M : CS) : Option (Int32 × CS) := (if (M.1 2) = 0 then b_126_24 M else (if (M.1 6) < 1 then b_126_24 M else (if (M.1 6) ≤ 3 then b_126_29 M 0 else b_126_24 M)))
theorem t_126 (L : Nat) (xs : Nat → Int32) {C M : CS} {o : Nat → Int64} {c s : Nat} {ret : Int32 × CS} (h : f_126 M = some ret) : mv_E (mp L xs) 126 (0, [some (.ref 18), none, none], []) (HPf C M o, c, s) ((.inl (some (.int ret.1)), (HPf C ret.2 o, c, s))) := by
  unfold f_126 at h
  refine mv_E.rT (t := mt_126) rfl 3 (f' := (5, [some (.ref 18), none, none], [.int (M.1 2), .ref 18])) (h' := (HPf C M o, c, s)) rfl ?_
  by_cases hc1964 : (M.1 2) = 0
  · replace h := (if_pos hc1964).symm.trans h
    refine mv_E.go rfl (mi_if_pos hc1964) ?_
    show mv_E (mp L xs) 126 (24, [some (.ref 18), none, none], [.ref 18]) (HPf C M o, c, s) _
    exact tb_126_24 L xs C o c s M none none _ h
  replace h := (if_neg hc1964).symm.trans h
  refine mv_E.go rfl (mi_if_neg hc1964) ?_
  refine mv_E.rT (t := mt_126) rfl 3 (f' := (13, [some (.ref 18), none, none], [.int 1, .int (M.1 6), .ref 18])) (h' := (HPf C M o, c, s)) rfl ?_
  by_cases hc1963 : (M.1 6) < 1
  · replace h := (if_pos hc1963).symm.trans h
    refine mv_E.go rfl (mi_icmp_pos hc1963) ?_
    show mv_E (mp L xs) 126 (24, [some (.ref 18), none, none], [.ref 18]) (HPf C M o, c, s) _
    exact tb_126_24 L xs C o c s M none none _ h
  replace h := (if_neg hc1963).symm.trans h
  refine mv_E.go rfl (mi_icmp_neg hc1963) ?_
  refine mv_E.rT (t := mt_126) rfl 3 (f' := (21, [some (.ref 18), none, none], [.int 3, .int (M.1 6), .ref 18])) (h' := (HPf C M o, c, s)) rfl ?_
  by_cases hc1962 : (M.1 6) ≤ 3
  · replace h := (if_pos hc1962).symm.trans h
    refine mv_E.go rfl (mi_icmp_pos hc1962) ?_
    refine mv_E.rT (t := mt_126) rfl 1 (f' := (29, [some (.ref 18), none, none], [.int 0, .ref 18])) (h' := (HPf C M o, c, s)) rfl ?_
    exact tb_126_29 L xs C o c s M 0 none none _ h
  replace h := (if_neg hc1962).symm.trans h
  refine mv_E.go rfl (mi_icmp_neg hc1962) ?_
  show mv_E (mp L xs) 126 (24, [some (.ref 18), none, none], [.ref 18]) (HPf C M o, c, s) _
  exact tb_126_24 L xs C o c s M none none _ h
