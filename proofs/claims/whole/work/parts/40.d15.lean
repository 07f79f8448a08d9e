def lsl (x : Int64) (y : Int32) : Int64 := x <<< (y.toInt64 &&& 63)
def cvL (r : Int32 × CS × CS × (Nat → Int64) × Nat × Nat) : mv_O × mv_H := (.inl (some (.int r.1)), (HPf r.2.1 r.2.2.1 r.2.2.2.1, r.2.2.2.2.1, r.2.2.2.2.2))
def g_0 (L : Nat) (xs : Nat → Int32) (k : CS → CS → (Nat → Int64) → Nat → Nat → Option (Int32 × CS × CS × (Nat → Int64) × Nat × Nat)) (C M : CS) (o : Nat → Int64) (cc ss : Nat) (i : Int32) : Option (Int32 × CS × CS × (Nat → Int64) × Nat × Nat) := if mv_in (i + 1) L = true then if mv_in (i + 2) L = true then if mv_in (i + 3) L = true then (f_21 C o ((lsl (Int32.toInt64 (xs (i + 1).toNatClampNeg)) 32) ||| ((Int32.toInt64 (xs (i + 2).toNatClampNeg)) &&& 4294967295)) (xs (i + 3).toNatClampNeg)).bind fun r2051 => if mv_in (i + 1) L = true then if mv_in (i + 2) L = true then if mv_in (i + 3) L = true then (f_23 M ((lsl (Int32.toInt64 (xs (i + 1).toNatClampNeg)) 32) ||| ((Int32.toInt64 (xs (i + 2).toNatClampNeg)) &&& 4294967295)) (xs (i + 3).toNatClampNeg)).bind fun r2056 => (if (f_24 r2056.2) = r2051.1 then (if ¬ r2051.1 = 0 then k r2051.2.1 r2056.2 r2051.2.2.1 (cc + r2051.2.2.2) (ss + 6 * r2051.2.2.2) else (if (lg_cmp (r2051.2.2.1 0) (Int32.toInt64 r2056.1)) = 0 then k r2051.2.1 r2056.2 r2051.2.2.1 (cc + r2051.2.2.2) (ss + 6 * r2051.2.2.2) else some (0, r2051.2.1, r2056.2, r2051.2.2.1, (cc + r2051.2.2.2), (ss + 6 * r2051.2.2.2)))) else some (0, r2051.2.1, r2056.2, r2051.2.2.1, (cc + r2051.2.2.2), (ss + 6 * r2051.2.2.2))) else none else none else none else none else none else none
theorem tg_0 (L : Nat) (xs : Nat → Int32) (k : CS → CS → (Nat → Int64) → Nat → Nat → Option (Int32 × CS × CS × (Nat → Int64) × Nat × Nat)) (i : Int32) (hk : ∀ (C M : CS) (o : Nat → Int64) (cc ss : Nat) (d5 d6 : Option Int32) (ret : Int32 × CS × CS × (Nat → Int64) × Nat × Nat), k C M o cc ss = some ret → mv_E (mp L xs) 135 (661, [some (.retAddr 402), some (.ref 0), some (.ref 18), some (.ref 25), some (.int i), d5.map .int, d6.map .int], []) (HPf C M o, cc, ss) (cvL ret)) (C M : CS) (o : Nat → Int64) (cc ss : Nat) (d5 d6 : Option Int32) (ret : Int32 × CS × CS × (Nat → Int64) × Nat × Nat) (h : g_0 L xs k C M o cc ss i = some ret) : mv_E (mp L xs) 135 (96, [some (.retAddr 402), some (.ref 0), some (.ref 18), some (.ref 25), some (.int i), d5.map .int, d6.map .int], []) (HPf C M o, cc, ss) (cvL ret) := by
  unfold g_0 at h
  rcases d5 with _ | d5
  · refine mv_E.rT (t := mt_135 L xs) rfl 5 (f' := (102, [some (.retAddr 402), some (.ref 0), some (.ref 18), some (.ref 25), some (.int i), none, d6.map .int], [.int (i + 1), .retAddr 402, .ref 0])) (h' := (HPf C M o, cc, ss)) rfl ?_
    by_cases hb2035 : mv_in (i + 1) L = true
    rotate_left
    · cases (if_neg hb2035).symm.trans h
    replace h := (if_pos hb2035).symm.trans h
    refine mv_E.go rfl (mi_tld_at rfl hb2035) ?_
    refine mv_E.rT (t := mt_135 L xs) rfl 7 (f' := (112, [some (.retAddr 402), some (.ref 0), some (.ref 18), some (.ref 25), some (.int i), none, d6.map .int], [.int (i + 2), .retAddr 402, .long (lsl (Int32.toInt64 (xs (i + 1).toNatClampNeg)) 32), .ref 0])) (h' := (HPf C M o, cc, ss)) rfl ?_
    by_cases hb2036 : mv_in (i + 2) L = true
    rotate_left
    · cases (if_neg hb2036).symm.trans h
    replace h := (if_pos hb2036).symm.trans h
    refine mv_E.go rfl (mi_tld_at rfl hb2036) ?_
    refine mv_E.rT (t := mt_135 L xs) rfl 8 (f' := (124, [some (.retAddr 402), some (.ref 0), some (.ref 18), some (.ref 25), some (.int i), none, d6.map .int], [.int (i + 3), .retAddr 402, .long ((lsl (Int32.toInt64 (xs (i + 1).toNatClampNeg)) 32) ||| ((Int32.toInt64 (xs (i + 2).toNatClampNeg)) &&& 4294967295)), .ref 0])) (h' := (HPf C M o, cc, ss)) rfl ?_
    by_cases hb2037 : mv_in (i + 3) L = true
    rotate_left
    · cases (if_neg hb2037).symm.trans h
    replace h := (if_pos hb2037).symm.trans h
    refine mv_E.go rfl (mi_tld_at rfl hb2037) ?_
    refine mv_E.rT (t := mt_135 L xs) rfl 1 (f' := (126, [some (.retAddr 402), some (.ref 0), some (.ref 18), some (.ref 25), some (.int i), none, d6.map .int], [.ref 25, .int (xs (i + 3).toNatClampNeg), .long ((lsl (Int32.toInt64 (xs (i + 1).toNatClampNeg)) 32) ||| ((Int32.toInt64 (xs (i + 2).toNatClampNeg)) &&& 4294967295)), .ref 0])) (h' := (HPf C M o, cc, ss)) rfl ?_
    obtain ⟨r2038, hr2039, h⟩ := Option.bind_eq_some_iff.mp h
    refine mv_E.call (z := 21) (vs := [.ref 0, .long ((lsl (Int32.toInt64 (xs (i + 1).toNatClampNeg)) 32) ||| ((Int32.toInt64 (xs (i + 2).toNatClampNeg)) &&& 4294967295)), .int (xs (i + 3).toNatClampNeg), .ref 25]) (f' := (129, [some (.retAddr 402), some (.ref 0), some (.ref 18), some (.ref 25), some (.int i), none, d6.map .int], [])) (h' := (HPf C M o, cc, ss)) rfl rfl rfl (t_21 L xs hr2039) (mv_okl rfl) ?_
    refine mv_E.rT (t := mt_135 L xs) rfl 6 (f' := (137, [some (.retAddr 402), some (.ref 0), some (.ref 18), some (.ref 25), some (.int i), some (.int r2038.1), d6.map .int], [.int (i + 1), .retAddr 402, .ref 18])) (h' := (HPf r2038.2.1 M r2038.2.2.1, (cc + r2038.2.2.2), (ss + 6 * r2038.2.2.2))) rfl ?_
    by_cases hb2040 : mv_in (i + 1) L = true
    rotate_left
    · cases (if_neg hb2040).symm.trans h
    replace h := (if_pos hb2040).symm.trans h
    refine mv_E.go rfl (mi_tld_at rfl hb2040) ?_
    refine mv_E.rT (t := mt_135 L xs) rfl 7 (f' := (147, [some (.retAddr 402), some (.ref 0), some (.ref 18), some (.ref 25), some (.int i), some (.int r2038.1), d6.map .int], [.int (i + 2), .retAddr 402, .long (lsl (Int32.toInt64 (xs (i + 1).toNatClampNeg)) 32), .ref 18])) (h' := (HPf r2038.2.1 M r2038.2.2.1, (cc + r2038.2.2.2), (ss + 6 * r2038.2.2.2))) rfl ?_
    by_cases hb2041 : mv_in (i + 2) L = true
    rotate_left
    · cases (if_neg hb2041).symm.trans h
    replace h := (if_pos hb2041).symm.trans h
    refine mv_E.go rfl (mi_tld_at rfl hb2041) ?_
    refine mv_E.rT (t := mt_135 L xs) rfl 8 (f' := (159, [some (.retAddr 402), some (.ref 0), some (.ref 18), some (.ref 25), some (.int i), some (.int r2038.1), d6.map .int], [.int (i + 3), .retAddr 402, .long ((lsl (Int32.toInt64 (xs (i + 1).toNatClampNeg)) 32) ||| ((Int32.toInt64 (xs (i + 2).toNatClampNeg)) &&& 4294967295)), .ref 18])) (h' := (HPf r2038.2.1 M r2038.2.2.1, (cc + r2038.2.2.2), (ss + 6 * r2038.2.2.2))) rfl ?_
    by_cases hb2042 : mv_in (i + 3) L = true
    rotate_left
    · cases (if_neg hb2042).symm.trans h
    replace h := (if_pos hb2042).symm.trans h
    refine mv_E.go rfl (mi_tld_at rfl hb2042) ?_
    show mv_E (mp L xs) 135 (160, [some (.retAddr 402), some (.ref 0), some (.ref 18), some (.ref 25), some (.int i), some (.int r2038.1), d6.map .int], [.int (xs (i + 3).toNatClampNeg), .long ((lsl (Int32.toInt64 (xs (i + 1).toNatClampNeg)) 32) ||| ((Int32.toInt64 (xs (i + 2).toNatClampNeg)) &&& 4294967295)), .ref 18]) (HPf r2038.2.1 M r2038.2.2.1, (cc + r2038.2.2.2), (ss + 6 * r2038.2.2.2)) _
    obtain ⟨r2043, hr2044, h⟩ := Option.bind_eq_some_iff.mp h
    refine mv_E.call (z := 23) (vs := [.ref 18, .long ((lsl (Int32.toInt64 (xs (i + 1).toNatClampNeg)) 32) ||| ((Int32.toInt64 (xs (i + 2).toNatClampNeg)) &&& 4294967295)), .int (xs (i + 3).toNatClampNeg)]) (f' := (163, [some (.retAddr 402), some (.ref 0), some (.ref 18), some (.ref 25), some (.int i), some (.int r2038.1), d6.map .int], [])) (h' := (HPf r2038.2.1 M r2038.2.2.1, (cc + r2038.2.2.2), (ss + 6 * r2038.2.2.2))) rfl rfl rfl (t_23 L xs hr2044) (mv_okl rfl) ?_
    refine mv_E.rT (t := mt_135 L xs) rfl 2 (f' := (166, [some (.retAddr 402), some (.ref 0), some (.ref 18), some (.ref 25), some (.int i), some (.int r2038.1), some (.int r2043.1)], [.ref 18])) (h' := (HPf r2038.2.1 r2043.2 r2038.2.2.1, (cc + r2038.2.2.2), (ss + 6 * r2038.2.2.2))) rfl ?_
    refine mv_E.call (z := 24) (vs := [.ref 18]) (f' := (169, [some (.retAddr 402), some (.ref 0), some (.ref 18), some (.ref 25), some (.int i), some (.int r2038.1), some (.int r2043.1)], [])) (h' := (HPf r2038.2.1 r2043.2 r2038.2.2.1, (cc + r2038.2.2.2), (ss + 6 * r2038.2.2.2))) rfl rfl rfl (t_24 L xs rfl) (mv_okl rfl) ?_
    refine mv_E.rT (t := mt_135 L xs) rfl 1 (f' := (171, [some (.retAddr 402), some (.ref 0), some (.ref 18), some (.ref 25), some (.int i), some (.int r2038.1), some (.int r2043.1)], [.int r2038.1, .int (f_24 r2043.2)])) (h' := (HPf r2038.2.1 r2043.2 r2038.2.2.1, (cc + r2038.2.2.2), (ss + 6 * r2038.2.2.2))) rfl ?_
    by_cases hc2047 : (f_24 r2043.2) = r2038.1
    · replace h := (if_pos hc2047).symm.trans h
      refine mv_E.go rfl (mi_icmp_pos hc2047) ?_
      refine mv_E.rT (t := mt_135 L xs) rfl 1 (f' := (178, [some (.retAddr 402), some (.ref 0), some (.ref 18), some (.ref 25), some (.int i), some (.int r2038.1), some (.int r2043.1)], [.int r2038.1])) (h' := (HPf r2038.2.1 r2043.2 r2038.2.2.1, (cc + r2038.2.2.2), (ss + 6 * r2038.2.2.2))) rfl ?_
      by_cases hc2046 : ¬ r2038.1 = 0
      · replace h := (if_pos hc2046).symm.trans h
        refine mv_E.go rfl (mi_if_pos hc2046) ?_
        refine mv_E.rT (t := mt_135 L xs) rfl 1 (f' := (661, [some (.retAddr 402), some (.ref 0), some (.ref 18), some (.ref 25), some (.int i), some (.int r2038.1), some (.int r2043.1)], [])) (h' := (HPf r2038.2.1 r2043.2 r2038.2.2.1, (cc + r2038.2.2.2), (ss + 6 * r2038.2.2.2))) rfl ?_
        exact hk r2038.2.1 r2043.2 r2038.2.2.1 (cc + r2038.2.2.2) (ss + 6 * r2038.2.2.2) (some r2038.1) (some r2043.1) _ h
      replace h := (if_neg hc2046).symm.trans h
      refine mv_E.go rfl (mi_if_neg hc2046) ?_
      refine mv_E.rT (t := mt_135 L xs) rfl 6 (f' := (188, [some (.retAddr 402), some (.ref 0), some (.ref 18), some (.ref 25), some (.int i), some (.int r2038.1), some (.int r2043.1)], [.int (lg_cmp (r2038.2.2.1 0) (Int32.toInt64 r2043.1))])) (h' := (HPf r2038.2.1 r2043.2 r2038.2.2.1, (cc + r2038.2.2.2), (ss + 6 * r2038.2.2.2))) rfl ?_
      by_cases hc2045 : (lg_cmp (r2038.2.2.1 0) (Int32.toInt64 r2043.1)) = 0
      · replace h := (if_pos hc2045).symm.trans h
        refine mv_E.go rfl (mi_if_pos hc2045) ?_
        refine mv_E.rT (t := mt_135 L xs) rfl 1 (f' := (661, [some (.retAddr 402), some (.ref 0), some (.ref 18), some (.ref 25), some (.int i), some (.int r2038.1), some (.int r2043.1)], [])) (h' := (HPf r2038.2.1 r2043.2 r2038.2.2.1, (cc + r2038.2.2.2), (ss + 6 * r2038.2.2.2))) rfl ?_
        exact hk r2038.2.1 r2043.2 r2038.2.2.1 (cc + r2038.2.2.2) (ss + 6 * r2038.2.2.2) (some r2038.1) (some r2043.1) _ h
      replace h := (if_neg hc2045).symm.trans h
      refine mv_E.go rfl (mi_if_neg hc2045) ?_
      refine mv_E.rT (t := mt_135 L xs) rfl 1 (f' := (192, [some (.retAddr 402), some (.ref 0), some (.ref 18), some (.ref 25), some (.int i), some (.int r2038.1), some (.int r2043.1)], [.int 0])) (h' := (HPf r2038.2.1 r2043.2 r2038.2.2.1, (cc + r2038.2.2.2), (ss + 6 * r2038.2.2.2))) rfl ?_
      cases h
      exact mv_E.done rfl mi_zret0
    replace h := (if_neg hc2047).symm.trans h
    refine mv_E.go rfl (mi_icmp_neg hc2047) ?_
    refine mv_E.rT (t := mt_135 L xs) rfl 1 (f' := (175, [some (.retAddr 402), some (.ref 0), some (.ref 18), some (.ref 25), some (.int i), some (.int r2038.1), some (.int r2043.1)], [.int 0])) (h' := (HPf r2038.2.1 r2043.2 r2038.2.2.1, (cc + r2038.2.2.2), (ss + 6 * r2038.2.2.2))) rfl ?_
    cases h
    exact mv_E.done rfl mi_zret0
  · refine mv_E.rT (t := mt_135 L xs) rfl 5 (f' := (102, [some (.retAddr 402), some (.ref 0), some (.ref 18), some (.ref 25), some (.int i), some (.int d5), d6.map .int], [.int (i + 1), .retAddr 402, .ref 0])) (h' := (HPf C M o, cc, ss)) rfl ?_
    by_cases hb2048 : mv_in (i + 1) L = true
    rotate_left
    · cases (if_neg hb2048).symm.trans h
    replace h := (if_pos hb2048).symm.trans h
    refine mv_E.go rfl (mi_tld_at rfl hb2048) ?_
    refine mv_E.rT (t := mt_135 L xs) rfl 7 (f' := (112, [some (.retAddr 402), some (.ref 0), some (.ref 18), some (.ref 25), some (.int i), some (.int d5), d6.map .int], [.int (i + 2), .retAddr 402, .long (lsl (Int32.toInt64 (xs (i + 1).toNatClampNeg)) 32), .ref 0])) (h' := (HPf C M o, cc, ss)) rfl ?_
    by_cases hb2049 : mv_in (i + 2) L = true
    rotate_left
    · cases (if_neg hb2049).symm.trans h
    replace h := (if_pos hb2049).symm.trans h
    refine mv_E.go rfl (mi_tld_at rfl hb2049) ?_
    refine mv_E.rT (t := mt_135 L xs) rfl 8 (f' := (124, [some (.retAddr 402), some (.ref 0), some (.ref 18), some (.ref 25), some (.int i), some (.int d5), d6.map .int], [.int (i + 3), .retAddr 402, .long ((lsl (Int32.toInt64 (xs (i + 1).toNatClampNeg)) 32) ||| ((Int32.toInt64 (xs (i + 2).toNatClampNeg)) &&& 4294967295)), .ref 0])) (h' := (HPf C M o, cc, ss)) rfl ?_
    by_cases hb2050 : mv_in (i + 3) L = true
    rotate_left
    · cases (if_neg hb2050).symm.trans h
    replace h := (if_pos hb2050).symm.trans h
    refine mv_E.go rfl (mi_tld_at rfl hb2050) ?_
    refine mv_E.rT (t := mt_135 L xs) rfl 1 (f' := (126, [some (.retAddr 402), some (.ref 0), some (.ref 18), some (.ref 25), some (.int i), some (.int d5), d6.map .int], [.ref 25, .int (xs (i + 3).toNatClampNeg), .long ((lsl (Int32.toInt64 (xs (i + 1).toNatClampNeg)) 32) ||| ((Int32.toInt64 (xs (i + 2).toNatClampNeg)) &&& 4294967295)), .ref 0])) (h' := (HPf C M o, cc, ss)) rfl ?_
    obtain ⟨r2051, hr2052, h⟩ := Option.bind_eq_some_iff.mp h
    refine mv_E.call (z := 21) (vs := [.ref 0, .long ((lsl (Int32.toInt64 (xs (i + 1).toNatClampNeg)) 32) ||| ((Int32.toInt64 (xs (i + 2).toNatClampNeg)) &&& 4294967295)), .int (xs (i + 3).toNatClampNeg), .ref 25]) (f' := (129, [some (.retAddr 402), some (.ref 0), some (.ref 18), some (.ref 25), some (.int i), some (.int d5), d6.map .int], [])) (h' := (HPf C M o, cc, ss)) rfl rfl rfl (t_21 L xs hr2052) (mv_okl rfl) ?_
    refine mv_E.rT (t := mt_135 L xs) rfl 6 (f' := (137, [some (.retAddr 402), some (.ref 0), some (.ref 18), some (.ref 25), some (.int i), some (.int r2051.1), d6.map .int], [.int (i + 1), .retAddr 402, .ref 18])) (h' := (HPf r2051.2.1 M r2051.2.2.1, (cc + r2051.2.2.2), (ss + 6 * r2051.2.2.2))) rfl ?_
    by_cases hb2053 : mv_in (i + 1) L = true
    rotate_left
    · cases (if_neg hb2053).symm.trans h
    replace h := (if_pos hb2053).symm.trans h
    refine mv_E.go rfl (mi_tld_at rfl hb2053) ?_
    refine mv_E.rT (t := mt_135 L xs) rfl 7 (f' := (147, [some (.retAddr 402), some (.ref 0), some (.ref 18), some (.ref 25), some (.int i), some (.int r2051.1), d6.map .int], [.int (i + 2), .retAddr 402, .long (lsl (Int32.toInt64 (xs (i + 1).toNatClampNeg)) 32), .ref 18])) (h' := (HPf r2051.2.1 M r2051.2.2.1, (cc + r2051.2.2.2), (ss + 6 * r2051.2.2.2))) rfl ?_
    by_cases hb2054 : mv_in (i + 2) L = true
    rotate_left
    · cases (if_neg hb2054).symm.trans h
    replace h := (if_pos hb2054).symm.trans h
    refine mv_E.go rfl (mi_tld_at rfl hb2054) ?_
    refine mv_E.rT (t := mt_135 L xs) rfl 8 (f' := (159, [some (.retAddr 402), some (.ref 0), some (.ref 18), some (.ref 25), some (.int i), some (.int r2051.1), d6.map .int], [.int (i + 3), .retAddr 402, .long ((lsl (Int32.toInt64 (xs (i + 1).toNatClampNeg)) 32) ||| ((Int32.toInt64 (xs (i + 2).toNatClampNeg)) &&& 4294967295)), .ref 18])) (h' := (HPf r2051.2.1 M r2051.2.2.1, (cc + r2051.2.2.2), (ss + 6 * r2051.2.2.2))) rfl ?_
    by_cases hb2055 : mv_in (i + 3) L = true
    rotate_left
    · cases (if_neg hb2055).symm.trans h
    replace h := (if_pos hb2055).symm.trans h
    refine mv_E.go rfl (mi_tld_at rfl hb2055) ?_
    show mv_E (mp L xs) 135 (160, [some (.retAddr 402), some (.ref 0), some (.ref 18), some (.ref 25), some (.int i), some (.int r2051.1), d6.map .int], [.int (xs (i + 3).toNatClampNeg), .long ((lsl (Int32.toInt64 (xs (i + 1).toNatClampNeg)) 32) ||| ((Int32.toInt64 (xs (i + 2).toNatClampNeg)) &&& 4294967295)), .ref 18]) (HPf r2051.2.1 M r2051.2.2.1, (cc + r2051.2.2.2), (ss + 6 * r2051.2.2.2)) _
    obtain ⟨r2056, hr2057, h⟩ := Option.bind_eq_some_iff.mp h
    refine mv_E.call (z := 23) (vs := [.ref 18, .long ((lsl (Int32.toInt64 (xs (i + 1).toNatClampNeg)) 32) ||| ((Int32.toInt64 (xs (i + 2).toNatClampNeg)) &&& 4294967295)), .int (xs (i + 3).toNatClampNeg)]) (f' := (163, [some (.retAddr 402), some (.ref 0), some (.ref 18), some (.ref 25), some (.int i), some (.int r2051.1), d6.map .int], [])) (h' := (HPf r2051.2.1 M r2051.2.2.1, (cc + r2051.2.2.2), (ss + 6 * r2051.2.2.2))) rfl rfl rfl (t_23 L xs hr2057) (mv_okl rfl) ?_
    refine mv_E.rT (t := mt_135 L xs) rfl 2 (f' := (166, [some (.retAddr 402), some (.ref 0), some (.ref 18), some (.ref 25), some (.int i), some (.int r2051.1), some (.int r2056.1)], [.ref 18])) (h' := (HPf r2051.2.1 r2056.2 r2051.2.2.1, (cc + r2051.2.2.2), (ss + 6 * r2051.2.2.2))) rfl ?_
    refine mv_E.call (z := 24) (vs := [.ref 18]) (f' := (169, [some (.retAddr 402), some (.ref 0), some (.ref 18), some (.ref 25), some (.int i), some (.int r2051.1), some (.int r2056.1)], [])) (h' := (HPf r2051.2.1 r2056.2 r2051.2.2.1, (cc + r2051.2.2.2), (ss + 6 * r2051.2.2.2))) rfl rfl rfl (t_24 L xs rfl) (mv_okl rfl) ?_
    refine mv_E.rT (t := mt_135 L xs) rfl 1 (f' := (171, [some (.retAddr 402), some (.ref 0), some (.ref 18), some (.ref 25), some (.int i), some (.int r2051.1), some (.int r2056.1)], [.int r2051.1, .int (f_24 r2056.2)])) (h' := (HPf r2051.2.1 r2056.2 r2051.2.2.1, (cc + r2051.2.2.2), (ss + 6 * r2051.2.2.2))) rfl ?_
    by_cases hc2060 : (f_24 r2056.2) = r2051.1
    · replace h := (if_pos hc2060).symm.trans h
      refine mv_E.go rfl (mi_icmp_pos hc2060) ?_
      refine mv_E.rT (t := mt_135 L xs) rfl 1 (f' := (178, [some (.retAddr 402), some (.ref 0), some (.ref 18), some (.ref 25), some (.int i), some (.int r2051.1), some (.int r2056.1)], [.int r2051.1])) (h' := (HPf r2051.2.1 r2056.2 r2051.2.2.1, (cc + r2051.2.2.2), (ss + 6 * r2051.2.2.2))) rfl ?_
      by_cases hc2059 : ¬ r2051.1 = 0
      · replace h := (if_pos hc2059).symm.trans h
        refine mv_E.go rfl (mi_if_pos hc2059) ?_
        refine mv_E.rT (t := mt_135 L xs) rfl 1 (f' := (661, [some (.retAddr 402), some (.ref 0), some (.ref 18), some (.ref 25), some (.int i), some (.int r2051.1), some (.int r2056.1)], [])) (h' := (HPf r2051.2.1 r2056.2 r2051.2.2.1, (cc + r2051.2.2.2), (ss + 6 * r2051.2.2.2))) rfl ?_
        exact hk r2051.2.1 r2056.2 r2051.2.2.1 (cc + r2051.2.2.2) (ss + 6 * r2051.2.2.2) (some r2051.1) (some r2056.1) _ h
      replace h := (if_neg hc2059).symm.trans h
      refine mv_E.go rfl (mi_if_neg hc2059) ?_
      refine mv_E.rT (t := mt_135 L xs) rfl 6 (f' := (188, [some (.retAddr 402), some (.ref 0), some (.ref 18), some (.ref 25), some (.int i), some (.int r2051.1), some (.int r2056.1)], [.int (lg_cmp (r2051.2.2.1 0) (Int32.toInt64 r2056.1))])) (h' := (HPf r2051.2.1 r2056.2 r2051.2.2.1, (cc + r2051.2.2.2), (ss + 6 * r2051.2.2.2))) rfl ?_
      by_cases hc2058 : (lg_cmp (r2051.2.2.1 0) (Int32.toInt64 r2056.1)) = 0
      · replace h := (if_pos hc2058).symm.trans h
        refine mv_E.go rfl (mi_if_pos hc2058) ?_
        refine mv_E.rT (t := mt_135 L xs) rfl 1 (f' := (661, [some (.retAddr 402), some (.ref 0), some (.ref 18), some (.ref 25), some (.int i), some (.int r2051.1), some (.int r2056.1)], [])) (h' := (HPf r2051.2.1 r2056.2 r2051.2.2.1, (cc + r2051.2.2.2), (ss + 6 * r2051.2.2.2))) rfl ?_
        exact hk r2051.2.1 r2056.2 r2051.2.2.1 (cc + r2051.2.2.2) (ss + 6 * r2051.2.2.2) (some r2051.1) (some r2056.1) _ h
      replace h := (if_neg hc2058).symm.trans h
      refine mv_E.go rfl (mi_if_neg hc2058) ?_
      refine mv_E.rT (t := mt_135 L xs) rfl 1 (f' := (192, [some (.retAddr 402), some (.ref 0), some (.ref 18), some (.ref 25), some (.int i), some (.int r2051.1), some (.int r2056.1)], [.int 0])) (h' := (HPf r2051.2.1 r2056.2 r2051.2.2.1, (cc + r2051.2.2.2), (ss + 6 * r2051.2.2.2))) rfl ?_
      cases h
      exact mv_E.done rfl mi_zret0
    replace h := (if_neg hc2060).symm.trans h
    refine mv_E.go rfl (mi_icmp_neg hc2060) ?_
    refine mv_E.rT (t := mt_135 L xs) rfl 1 (f' := (175, [some (.retAddr 402), some (.ref 0), some (.ref 18), some (.ref 25), some (.int i), some (.int r2051.1), some (.int r2056.1)], [.int 0])) (h' := (HPf r2051.2.1 r2056.2 r2051.2.2.1, (cc + r2051.2.2.2), (ss + 6 * r2051.2.2.2))) rfl ?_
    cases h
    exact mv_E.done rfl mi_zret0
def g_1 (L : Nat) (xs : Nat → Int32) (k : CS → CS → (Nat → Int64) → Nat → Nat → Option (Int32 × CS × CS × (Nat → Int64) × Nat × Nat)) (C M : CS) (o : Nat → Int64) (cc ss : Nat) (i : Int32) : Option (Int32 × CS × CS × (Nat → Int64) × Nat × Nat) := (f_65 C o).bind fun r2068 => (f_92 M).bind fun r2070 => (if (f_24 r2070.2) = r2068.1 then (if ¬ r2068.1 = 0 then k r2068.2.1 r2070.2 r2068.2.2.1 (cc + r2068.2.2.2) (ss + 6 * r2068.2.2.2) else (if (lg_cmp (r2068.2.2.1 0) (Int32.toInt64 r2070.1)) = 0 then k r2068.2.1 r2070.2 r2068.2.2.1 (cc + r2068.2.2.2) (ss + 6 * r2068.2.2.2) else some (0, r2068.2.1, r2070.2, r2068.2.2.1, (cc + r2068.2.2.2), (ss + 6 * r2068.2.2.2)))) else some (0, r2068.2.1, r2070.2, r2068.2.2.1, (cc + r2068.2.2.2), (ss + 6 * r2068.2.2.2)))
theorem tg_1 (L : Nat) (xs : Nat → Int32) (k : CS → CS → (Nat → Int64) → Nat → Nat → Option (Int32 × CS × CS × (Nat → Int64) × Nat × Nat)) (i : Int32) (hk : ∀ (C M : CS) (o : Nat → Int64) (cc ss : Nat) (d5 d6 : Option Int32) (ret : Int32 × CS × CS × (Nat → Int64) × Nat × Nat), k C M o cc ss = some ret → mv_E (mp L xs) 135 (661, [some (.retAddr 402), some (.ref 0), some (.ref 18), some (.ref 25), some (.int i), d5.map .int, d6.map .int], []) (HPf C M o, cc, ss) (cvL ret)) (C M : CS) (o : Nat → Int64) (cc ss : Nat) (d5 d6 : Option Int32) (ret : Int32 × CS × CS × (Nat → Int64) × Nat × Nat) (h : g_1 L xs k C M o cc ss i = some ret) : mv_E (mp L xs) 135 (196, [some (.retAddr 402), some (.ref 0), some (.ref 18), some (.ref 25), some (.int i), d5.map .int, d6.map .int], []) (HPf C M o, cc, ss) (cvL ret) := by
  unfold g_1 at h
  rcases d5 with _ | d5
  · refine mv_E.rT (t := mt_135 L xs) rfl 2 (f' := (198, [some (.retAddr 402), some (.ref 0), some (.ref 18), some (.ref 25), some (.int i), none, d6.map .int], [.ref 25, .ref 0])) (h' := (HPf C M o, cc, ss)) rfl ?_
    obtain ⟨r2061, hr2062, h⟩ := Option.bind_eq_some_iff.mp h
    refine mv_E.call (z := 65) (vs := [.ref 0, .ref 25]) (f' := (201, [some (.retAddr 402), some (.ref 0), some (.ref 18), some (.ref 25), some (.int i), none, d6.map .int], [])) (h' := (HPf C M o, cc, ss)) rfl rfl rfl (t_65 L xs hr2062) (mv_okl rfl) ?_
    refine mv_E.rT (t := mt_135 L xs) rfl 2 (f' := (204, [some (.retAddr 402), some (.ref 0), some (.ref 18), some (.ref 25), some (.int i), some (.int r2061.1), d6.map .int], [.ref 18])) (h' := (HPf r2061.2.1 M r2061.2.2.1, (cc + r2061.2.2.2), (ss + 6 * r2061.2.2.2))) rfl ?_
    obtain ⟨r2063, hr2064, h⟩ := Option.bind_eq_some_iff.mp h
    refine mv_E.call (z := 92) (vs := [.ref 18]) (f' := (207, [some (.retAddr 402), some (.ref 0), some (.ref 18), some (.ref 25), some (.int i), some (.int r2061.1), d6.map .int], [])) (h' := (HPf r2061.2.1 M r2061.2.2.1, (cc + r2061.2.2.2), (ss + 6 * r2061.2.2.2))) rfl rfl rfl (t_92 L xs hr2064) (mv_okl rfl) ?_
    refine mv_E.rT (t := mt_135 L xs) rfl 2 (f' := (210, [some (.retAddr 402), some (.ref 0), some (.ref 18), some (.ref 25), some (.int i), some (.int r2061.1), some (.int r2063.1)], [.ref 18])) (h' := (HPf r2061.2.1 r2063.2 r2061.2.2.1, (cc + r2061.2.2.2), (ss + 6 * r2061.2.2.2))) rfl ?_
    refine mv_E.call (z := 24) (vs := [.ref 18]) (f' := (213, [some (.retAddr 402), some (.ref 0), some (.ref 18), some (.ref 25), some (.int i), some (.int r2061.1), some (.int r2063.1)], [])) (h' := (HPf r2061.2.1 r2063.2 r2061.2.2.1, (cc + r2061.2.2.2), (ss + 6 * r2061.2.2.2))) rfl rfl rfl (t_24 L xs rfl) (mv_okl rfl) ?_
    refine mv_E.rT (t := mt_135 L xs) rfl 1 (f' := (215, [some (.retAddr 402), some (.ref 0), some (.ref 18), some (.ref 25), some (.int i), some (.int r2061.1), some (.int r2063.1)], [.int r2061.1, .int (f_24 r2063.2)])) (h' := (HPf r2061.2.1 r2063.2 r2061.2.2.1, (cc + r2061.2.2.2), (ss + 6 * r2061.2.2.2))) rfl ?_
    by_cases hc2067 : (f_24 r2063.2) = r2061.1
    · replace h := (if_pos hc2067).symm.trans h
      refine mv_E.go rfl (mi_icmp_pos hc2067) ?_
      refine mv_E.rT (t := mt_135 L xs) rfl 1 (f' := (222, [some (.retAddr 402), some (.ref 0), some (.ref 18), some (.ref 25), some (.int i), some (.int r2061.1), some (.int r2063.1)], [.int r2061.1])) (h' := (HPf r2061.2.1 r2063.2 r2061.2.2.1, (cc + r2061.2.2.2), (ss + 6 * r2061.2.2.2))) rfl ?_
      by_cases hc2066 : ¬ r2061.1 = 0
      · replace h := (if_pos hc2066).symm.trans h
        refine mv_E.go rfl (mi_if_pos hc2066) ?_
        refine mv_E.rT (t := mt_135 L xs) rfl 1 (f' := (661, [some (.retAddr 402), some (.ref 0), some (.ref 18), some (.ref 25), some (.int i), some (.int r2061.1), some (.int r2063.1)], [])) (h' := (HPf r2061.2.1 r2063.2 r2061.2.2.1, (cc + r2061.2.2.2), (ss + 6 * r2061.2.2.2))) rfl ?_
        exact hk r2061.2.1 r2063.2 r2061.2.2.1 (cc + r2061.2.2.2) (ss + 6 * r2061.2.2.2) (some r2061.1) (some r2063.1) _ h
      replace h := (if_neg hc2066).symm.trans h
      refine mv_E.go rfl (mi_if_neg hc2066) ?_
      refine mv_E.rT (t := mt_135 L xs) rfl 6 (f' := (232, [some (.retAddr 402), some (.ref 0), some (.ref 18), some (.ref 25), some (.int i), some (.int r2061.1), some (.int r2063.1)], [.int (lg_cmp (r2061.2.2.1 0) (Int32.toInt64 r2063.1))])) (h' := (HPf r2061.2.1 r2063.2 r2061.2.2.1, (cc + r2061.2.2.2), (ss + 6 * r2061.2.2.2))) rfl ?_
      by_cases hc2065 : (lg_cmp (r2061.2.2.1 0) (Int32.toInt64 r2063.1)) = 0
      · replace h := (if_pos hc2065).symm.trans h
        refine mv_E.go rfl (mi_if_pos hc2065) ?_
        refine mv_E.rT (t := mt_135 L xs) rfl 1 (f' := (661, [some (.retAddr 402), some (.ref 0), some (.ref 18), some (.ref 25), some (.int i), some (.int r2061.1), some (.int r2063.1)], [])) (h' := (HPf r2061.2.1 r2063.2 r2061.2.2.1, (cc + r2061.2.2.2), (ss + 6 * r2061.2.2.2))) rfl ?_
        exact hk r2061.2.1 r2063.2 r2061.2.2.1 (cc + r2061.2.2.2) (ss + 6 * r2061.2.2.2) (some r2061.1) (some r2063.1) _ h
      replace h := (if_neg hc2065).symm.trans h
      refine mv_E.go rfl (mi_if_neg hc2065) ?_
      refine mv_E.rT (t := mt_135 L xs) rfl 1 (f' := (236, [some (.retAddr 402), some (.ref 0), some (.ref 18), some (.ref 25), some (.int i), some (.int r2061.1), some (.int r2063.1)], [.int 0])) (h' := (HPf r2061.2.1 r2063.2 r2061.2.2.1, (cc + r2061.2.2.2), (ss + 6 * r2061.2.2.2))) rfl ?_
      cases h
      exact mv_E.done rfl mi_zret0
    replace h := (if_neg hc2067).symm.trans h
    refine mv_E.go rfl (mi_icmp_neg hc2067) ?_
    refine mv_E.rT (t := mt_135 L xs) rfl 1 (f' := (219, [some (.retAddr 402), some (.ref 0), some (.ref 18), some (.ref 25), some (.int i), some (.int r2061.1), some (.int r2063.1)], [.int 0])) (h' := (HPf r2061.2.1 r2063.2 r2061.2.2.1, (cc + r2061.2.2.2), (ss + 6 * r2061.2.2.2))) rfl ?_
    cases h
    exact mv_E.done rfl mi_zret0
  · refine mv_E.rT (t := mt_135 L xs) rfl 2 (f' := (198, [some (.retAddr 402), some (.ref 0), some (.ref 18), some (.ref 25), some (.int i), some (.int d5), d6.map .int], [.ref 25, .ref 0])) (h' := (HPf C M o, cc, ss)) rfl ?_
    obtain ⟨r2068, hr2069, h⟩ := Option.bind_eq_some_iff.mp h
    refine mv_E.call (z := 65) (vs := [.ref 0, .ref 25]) (f' := (201, [some (.retAddr 402), some (.ref 0), some (.ref 18), some (.ref 25), some (.int i), some (.int d5), d6.map .int], [])) (h' := (HPf C M o, cc, ss)) rfl rfl rfl (t_65 L xs hr2069) (mv_okl rfl) ?_
    refine mv_E.rT (t := mt_135 L xs) rfl 2 (f' := (204, [some (.retAddr 402), some (.ref 0), some (.ref 18), some (.ref 25), some (.int i), some (.int r2068.1), d6.map .int], [.ref 18])) (h' := (HPf r2068.2.1 M r2068.2.2.1, (cc + r2068.2.2.2), (ss + 6 * r2068.2.2.2))) rfl ?_
    obtain ⟨r2070, hr2071, h⟩ := Option.bind_eq_some_iff.mp h
    refine mv_E.call (z := 92) (vs := [.ref 18]) (f' := (207, [some (.retAddr 402), some (.ref 0), some (.ref 18), some (.ref 25), some (.int i), some (.int r2068.1), d6.map .int], [])) (h' := (HPf r2068.2.1 M r2068.2.2.1, (cc + r2068.2.2.2), (ss + 6 * r2068.2.2.2))) rfl rfl rfl (t_92 L xs hr2071) (mv_okl rfl) ?_
    refine mv_E.rT (t := mt_135 L xs) rfl 2 (f' := (210, [some (.retAddr 402), some (.ref 0), some (.ref 18), some (.ref 25), some (.int i), some (.int r2068.1), some (.int r2070.1)], [.ref 18])) (h' := (HPf r2068.2.1 r2070.2 r2068.2.2.1, (cc + r2068.2.2.2), (ss + 6 * r2068.2.2.2))) rfl ?_
    refine mv_E.call (z := 24) (vs := [.ref 18]) (f' := (213, [some (.retAddr 402), some (.ref 0), some (.ref 18), some (.ref 25), some (.int i), some (.int r2068.1), some (.int r2070.1)], [])) (h' := (HPf r2068.2.1 r2070.2 r2068.2.2.1, (cc + r2068.2.2.2), (ss + 6 * r2068.2.2.2))) rfl rfl rfl (t_24 L xs rfl) (mv_okl rfl) ?_
    refine mv_E.rT (t := mt_135 L xs) rfl 1 (f' := (215, [some (.retAddr 402), some (.ref 0), some (.ref 18), some (.ref 25), some (.int i), some (.int r2068.1), some (.int r2070.1)], [.int r2068.1, .int (f_24 r2070.2)])) (h' := (HPf r2068.2.1 r2070.2 r2068.2.2.1, (cc + r2068.2.2.2), (ss + 6 * r2068.2.2.2))) rfl ?_
    by_cases hc2074 : (f_24 r2070.2) = r2068.1
    · replace h := (if_pos hc2074).symm.trans h
      refine mv_E.go rfl (mi_icmp_pos hc2074) ?_
      refine mv_E.rT (t := mt_135 L xs) rfl 1 (f' := (222, [some (.retAddr 402), some (.ref 0), some (.ref 18), some (.ref 25), some (.int i), some (.int r2068.1), some (.int r2070.1)], [.int r2068.1])) (h' := (HPf r2068.2.1 r2070.2 r2068.2.2.1, (cc + r2068.2.2.2), (ss + 6 * r2068.2.2.2))) rfl ?_
      by_cases hc2073 : ¬ r2068.1 = 0
      · replace h := (if_pos hc2073).symm.trans h
        refine mv_E.go rfl (mi_if_pos hc2073) ?_
        refine mv_E.rT (t := mt_135 L xs) rfl 1 (f' := (661, [some (.retAddr 402), some (.ref 0), some (.ref 18), some (.ref 25), some (.int i), some (.int r2068.1), some (.int r2070.1)], [])) (h' := (HPf r2068.2.1 r2070.2 r2068.2.2.1, (cc + r2068.2.2.2), (ss + 6 * r2068.2.2.2))) rfl ?_
        exact hk r2068.2.1 r2070.2 r2068.2.2.1 (cc + r2068.2.2.2) (ss + 6 * r2068.2.2.2) (some r2068.1) (some r2070.1) _ h
      replace h := (if_neg hc2073).symm.trans h
      refine mv_E.go rfl (mi_if_neg hc2073) ?_
      refine mv_E.rT (t := mt_135 L xs) rfl 6 (f' := (232, [some (.retAddr 402), some (.ref 0), some (.ref 18), some (.ref 25), some (.int i), some (.int r2068.1), some (.int r2070.1)], [.int (lg_cmp (r2068.2.2.1 0) (Int32.toInt64 r2070.1))])) (h' := (HPf r2068.2.1 r2070.2 r2068.2.2.1, (cc + r2068.2.2.2), (ss + 6 * r2068.2.2.2))) rfl ?_
      by_cases hc2072 : (lg_cmp (r2068.2.2.1 0) (Int32.toInt64 r2070.1)) = 0
      · replace h := (if_pos hc2072).symm.trans h
        refine mv_E.go rfl (mi_if_pos hc2072) ?_
        refine mv_E.rT (t := mt_135 L xs) rfl 1 (f' := (661, [some (.retAddr 402), some (.ref 0), some (.ref 18), some (.ref 25), some (.int i), some (.int r2068.1), some (.int r2070.1)], [])) (h' := (HPf r2068.2.1 r2070.2 r2068.2.2.1, (cc + r2068.2.2.2), (ss + 6 * r2068.2.2.2))) rfl ?_
        exact hk r2068.2.1 r2070.2 r2068.2.2.1 (cc + r2068.2.2.2) (ss + 6 * r2068.2.2.2) (some r2068.1) (some r2070.1) _ h
      replace h := (if_neg hc2072).symm.trans h
      refine mv_E.go rfl (mi_if_neg hc2072) ?_
      refine mv_E.rT (t := mt_135 L xs) rfl 1 (f' := (236, [some (.retAddr 402), some (.ref 0), some (.ref 18), some (.ref 25), some (.int i), some (.int r2068.1), some (.int r2070.1)], [.int 0])) (h' := (HPf r2068.2.1 r2070.2 r2068.2.2.1, (cc + r2068.2.2.2), (ss + 6 * r2068.2.2.2))) rfl ?_
      cases h
      exact mv_E.done rfl mi_zret0
    replace h := (if_neg hc2074).symm.trans h
    refine mv_E.go rfl (mi_icmp_neg hc2074) ?_
    refine mv_E.rT (t := mt_135 L xs) rfl 1 (f' := (219, [some (.retAddr 402), some (.ref 0), some (.ref 18), some (.ref 25), some (.int i), some (.int r2068.1), some (.int r2070.1)], [.int 0])) (h' := (HPf r2068.2.1 r2070.2 r2068.2.2.1, (cc + r2068.2.2.2), (ss + 6 * r2068.2.2.2))) rfl ?_
    cases h
    exact mv_E.done rfl mi_zret0
def g_2 (L : Nat) (xs : Nat → Int32) (k : CS → CS → (Nat → Int64) → Nat → Nat → Option (Int32 × CS × CS × (Nat → Int64) × Nat × Nat)) (C M : CS) (o : Nat → Int64) (cc ss : Nat) (i : Int32) : Option (Int32 × CS × CS × (Nat → Int64) × Nat × Nat) := (f_94 C o).bind fun r2082 => (f_95 M).bind fun r2084 => (if (f_24 r2084.2) = r2082.1 then (if ¬ r2082.1 = 0 then k r2082.2.1 r2084.2 r2082.2.2.1 (cc + r2082.2.2.2) (ss + 6 * r2082.2.2.2) else (if (lg_cmp (r2082.2.2.1 0) (Int32.toInt64 r2084.1)) = 0 then k r2082.2.1 r2084.2 r2082.2.2.1 (cc + r2082.2.2.2) (ss + 6 * r2082.2.2.2) else some (0, r2082.2.1, r2084.2, r2082.2.2.1, (cc + r2082.2.2.2), (ss + 6 * r2082.2.2.2)))) else some (0, r2082.2.1, r2084.2, r2082.2.2.1, (cc + r2082.2.2.2), (ss + 6 * r2082.2.2.2)))
theorem tg_2 (L : Nat) (xs : Nat → Int32) (k : CS → CS → (Nat → Int64) → Nat → Nat → Option (Int32 × CS × CS × (Nat → Int64) × Nat × Nat)) (i : Int32) (hk : ∀ (C M : CS) (o : Nat → Int64) (cc ss : Nat) (d5 d6 : Option Int32) (ret : Int32 × CS × CS × (Nat → Int64) × Nat × Nat), k C M o cc ss = some ret → mv_E (mp L xs) 135 (661, [some (.retAddr 402), some (.ref 0), some (.ref 18), some (.ref 25), some (.int i), d5.map .int, d6.map .int], []) (HPf C M o, cc, ss) (cvL ret)) (C M : CS) (o : Nat → Int64) (cc ss : Nat) (d5 d6 : Option Int32) (ret : Int32 × CS × CS × (Nat → Int64) × Nat × Nat) (h : g_2 L xs k C M o cc ss i = some ret) : mv_E (mp L xs) 135 (240, [some (.retAddr 402), some (.ref 0), some (.ref 18), some (.ref 25), some (.int i), d5.map .int, d6.map .int], []) (HPf C M o, cc, ss) (cvL ret) := by
  unfold g_2 at h
  rcases d5 with _ | d5
  · refine mv_E.rT (t := mt_135 L xs) rfl 2 (f' := (242, [some (.retAddr 402), some (.ref 0), some (.ref 18), some (.ref 25), some (.int i), none, d6.map .int], [.ref 25, .ref 0])) (h' := (HPf C M o, cc, ss)) rfl ?_
    obtain ⟨r2075, hr2076, h⟩ := Option.bind_eq_some_iff.mp h
    refine mv_E.call (z := 94) (vs := [.ref 0, .ref 25]) (f' := (245, [some (.retAddr 402), some (.ref 0), some (.ref 18), some (.ref 25), some (.int i), none, d6.map .int], [])) (h' := (HPf C M o, cc, ss)) rfl rfl rfl (t_94 L xs hr2076) (mv_okl rfl) ?_
    refine mv_E.rT (t := mt_135 L xs) rfl 2 (f' := (248, [some (.retAddr 402), some (.ref 0), some (.ref 18), some (.ref 25), some (.int i), some (.int r2075.1), d6.map .int], [.ref 18])) (h' := (HPf r2075.2.1 M r2075.2.2.1, (cc + r2075.2.2.2), (ss + 6 * r2075.2.2.2))) rfl ?_
    obtain ⟨r2077, hr2078, h⟩ := Option.bind_eq_some_iff.mp h
    refine mv_E.call (z := 95) (vs := [.ref 18]) (f' := (251, [some (.retAddr 402), some (.ref 0), some (.ref 18), some (.ref 25), some (.int i), some (.int r2075.1), d6.map .int], [])) (h' := (HPf r2075.2.1 M r2075.2.2.1, (cc + r2075.2.2.2), (ss + 6 * r2075.2.2.2))) rfl rfl rfl (t_95 L xs hr2078) (mv_okl rfl) ?_
    refine mv_E.rT (t := mt_135 L xs) rfl 2 (f' := (254, [some (.retAddr 402), some (.ref 0), some (.ref 18), some (.ref 25), some (.int i), some (.int r2075.1), some (.int r2077.1)], [.ref 18])) (h' := (HPf r2075.2.1 r2077.2 r2075.2.2.1, (cc + r2075.2.2.2), (ss + 6 * r2075.2.2.2))) rfl ?_
    refine mv_E.call (z := 24) (vs := [.ref 18]) (f' := (257, [some (.retAddr 402), some (.ref 0), some (.ref 18), some (.ref 25), some (.int i), some (.int r2075.1), some (.int r2077.1)], [])) (h' := (HPf r2075.2.1 r2077.2 r2075.2.2.1, (cc + r2075.2.2.2), (ss + 6 * r2075.2.2.2))) rfl rfl rfl (t_24 L xs rfl) (mv_okl rfl) ?_
    refine mv_E.rT (t := mt_135 L xs) rfl 1 (f' := (259, [some (.retAddr 402), some (.ref 0), some (.ref 18), some (.ref 25), some (.int i), some (.int r2075.1), some (.int r2077.1)], [.int r2075.1, .int (f_24 r2077.2)])) (h' := (HPf r2075.2.1 r2077.2 r2075.2.2.1, (cc + r2075.2.2.2), (ss + 6 * r2075.2.2.2))) rfl ?_
    by_cases hc2081 : (f_24 r2077.2) = r2075.1
    · replace h := (if_pos hc2081).symm.trans h
      refine mv_E.go rfl (mi_icmp_pos hc2081) ?_
      refine mv_E.rT (t := mt_135 L xs) rfl 1 (f' := (266, [some (.retAddr 402), some (.ref 0), some (.ref 18), some (.ref 25), some (.int i), some (.int r2075.1), some (.int r2077.1)], [.int r2075.1])) (h' := (HPf r2075.2.1 r2077.2 r2075.2.2.1, (cc + r2075.2.2.2), (ss + 6 * r2075.2.2.2))) rfl ?_
      by_cases hc2080 : ¬ r2075.1 = 0
      · replace h := (if_pos hc2080).symm.trans h
        refine mv_E.go rfl (mi_if_pos hc2080) ?_
        refine mv_E.rT (t := mt_135 L xs) rfl 1 (f' := (661, [some (.retAddr 402), some (.ref 0), some (.ref 18), some (.ref 25), some (.int i), some (.int r2075.1), some (.int r2077.1)], [])) (h' := (HPf r2075.2.1 r2077.2 r2075.2.2.1, (cc + r2075.2.2.2), (ss + 6 * r2075.2.2.2))) rfl ?_
        exact hk r2075.2.1 r2077.2 r2075.2.2.1 (cc + r2075.2.2.2) (ss + 6 * r2075.2.2.2) (some r2075.1) (some r2077.1) _ h
      replace h := (if_neg hc2080).symm.trans h
      refine mv_E.go rfl (mi_if_neg hc2080) ?_
      refine mv_E.rT (t := mt_135 L xs) rfl 6 (f' := (276, [some (.retAddr 402), some (.ref 0), some (.ref 18), some (.ref 25), some (.int i), some (.int r2075.1), some (.int r2077.1)], [.int (lg_cmp (r2075.2.2.1 0) (Int32.toInt64 r2077.1))])) (h' := (HPf r2075.2.1 r2077.2 r2075.2.2.1, (cc + r2075.2.2.2), (ss + 6 * r2075.2.2.2))) rfl ?_
      by_cases hc2079 : (lg_cmp (r2075.2.2.1 0) (Int32.toInt64 r2077.1)) = 0
      · replace h := (if_pos hc2079).symm.trans h
        refine mv_E.go rfl (mi_if_pos hc2079) ?_
        refine mv_E.rT (t := mt_135 L xs) rfl 1 (f' := (661, [some (.retAddr 402), some (.ref 0), some (.ref 18), some (.ref 25), some (.int i), some (.int r2075.1), some (.int r2077.1)], [])) (h' := (HPf r2075.2.1 r2077.2 r2075.2.2.1, (cc + r2075.2.2.2), (ss + 6 * r2075.2.2.2))) rfl ?_
        exact hk r2075.2.1 r2077.2 r2075.2.2.1 (cc + r2075.2.2.2) (ss + 6 * r2075.2.2.2) (some r2075.1) (some r2077.1) _ h
      replace h := (if_neg hc2079).symm.trans h
      refine mv_E.go rfl (mi_if_neg hc2079) ?_
      refine mv_E.rT (t := mt_135 L xs) rfl 1 (f' := (280, [some (.retAddr 402), some (.ref 0), some (.ref 18), some (.ref 25), some (.int i), some (.int r2075.1), some (.int r2077.1)], [.int 0])) (h' := (HPf r2075.2.1 r2077.2 r2075.2.2.1, (cc + r2075.2.2.2), (ss + 6 * r2075.2.2.2))) rfl ?_
      cases h
      exact mv_E.done rfl mi_zret0
    replace h := (if_neg hc2081).symm.trans h
    refine mv_E.go rfl (mi_icmp_neg hc2081) ?_
    refine mv_E.rT (t := mt_135 L xs) rfl 1 (f' := (263, [some (.retAddr 402), some (.ref 0), some (.ref 18), some (.ref 25), some (.int i), some (.int r2075.1), some (.int r2077.1)], [.int 0])) (h' := (HPf r2075.2.1 r2077.2 r2075.2.2.1, (cc + r2075.2.2.2), (ss + 6 * r2075.2.2.2))) rfl ?_
    cases h
    exact mv_E.done rfl mi_zret0
  · refine mv_E.rT (t := mt_135 L xs) rfl 2 (f' := (242, [some (.retAddr 402), some (.ref 0), some (.ref 18), some (.ref 25), some (.int i), some (.int d5), d6.map .int], [.ref 25, .ref 0])) (h' := (HPf C M o, cc, ss)) rfl ?_
    obtain ⟨r2082, hr2083, h⟩ := Option.bind_eq_some_iff.mp h
    refine mv_E.call (z := 94) (vs := [.ref 0, .ref 25]) (f' := (245, [some (.retAddr 402), some (.ref 0), some (.ref 18), some (.ref 25), some (.int i), some (.int d5), d6.map .int], [])) (h' := (HPf C M o, cc, ss)) rfl rfl rfl (t_94 L xs hr2083) (mv_okl rfl) ?_
    refine mv_E.rT (t := mt_135 L xs) rfl 2 (f' := (248, [some (.retAddr 402), some (.ref 0), some (.ref 18), some (.ref 25), some (.int i), some (.int r2082.1), d6.map .int], [.ref 18])) (h' := (HPf r2082.2.1 M r2082.2.2.1, (cc + r2082.2.2.2), (ss + 6 * r2082.2.2.2))) rfl ?_
    obtain ⟨r2084, hr2085, h⟩ := Option.bind_eq_some_iff.mp h
    refine mv_E.call (z := 95) (vs := [.ref 18]) (f' := (251, [some (.retAddr 402), some (.ref 0), some (.ref 18), some (.ref 25), some (.int i), some (.int r2082.1), d6.map .int], [])) (h' := (HPf r2082.2.1 M r2082.2.2.1, (cc + r2082.2.2.2), (ss + 6 * r2082.2.2.2))) rfl rfl rfl (t_95 L xs hr2085) (mv_okl rfl) ?_
    refine mv_E.rT (t := mt_135 L xs) rfl 2 (f' := (254, [some (.retAddr 402), some (.ref 0), some (.ref 18), some (.ref 25), some (.int i), some (.int r2082.1), some (.int r2084.1)], [.ref 18])) (h' := (HPf r2082.2.1 r2084.2 r2082.2.2.1, (cc + r2082.2.2.2), (ss + 6 * r2082.2.2.2))) rfl ?_
    refine mv_E.call (z := 24) (vs := [.ref 18]) (f' := (257, [some (.retAddr 402), some (.ref 0), some (.ref 18), some (.ref 25), some (.int i), some (.int r2082.1), some (.int r2084.1)], [])) (h' := (HPf r2082.2.1 r2084.2 r2082.2.2.1, (cc + r2082.2.2.2), (ss + 6 * r2082.2.2.2))) rfl rfl rfl (t_24 L xs rfl) (mv_okl rfl) ?_
    refine mv_E.rT (t := mt_135 L xs) rfl 1 (f' := (259, [some (.retAddr 402), some (.ref 0), some (.ref 18), some (.ref 25), some (.int i), some (.int r2082.1), some (.int r2084.1)], [.int r2082.1, .int (f_24 r2084.2)])) (h' := (HPf r2082.2.1 r2084.2 r2082.2.2.1, (cc + r2082.2.2.2), (ss + 6 * r2082.2.2.2))) rfl ?_
    by_cases hc2088 : (f_24 r2084.2) = r2082.1
    · replace h := (if_pos hc2088).symm.trans h
      refine mv_E.go rfl (mi_icmp_pos hc2088) ?_
      refine mv_E.rT (t := mt_135 L xs) rfl 1 (f' := (266, [some (.retAddr 402), some (.ref 0), some (.ref 18), some (.ref 25), some (.int i), some (.int r2082.1), some (.int r2084.1)], [.int r2082.1])) (h' := (HPf r2082.2.1 r2084.2 r2082.2.2.1, (cc + r2082.2.2.2), (ss + 6 * r2082.2.2.2))) rfl ?_
      by_cases hc2087 : ¬ r2082.1 = 0
      · replace h := (if_pos hc2087).symm.trans h
        refine mv_E.go rfl (mi_if_pos hc2087) ?_
        refine mv_E.rT (t := mt_135 L xs) rfl 1 (f' := (661, [some (.retAddr 402), some (.ref 0), some (.ref 18), some (.ref 25), some (.int i), some (.int r2082.1), some (.int r2084.1)], [])) (h' := (HPf r2082.2.1 r2084.2 r2082.2.2.1, (cc + r2082.2.2.2), (ss + 6 * r2082.2.2.2))) rfl ?_
        exact hk r2082.2.1 r2084.2 r2082.2.2.1 (cc + r2082.2.2.2) (ss + 6 * r2082.2.2.2) (some r2082.1) (some r2084.1) _ h
      replace h := (if_neg hc2087).symm.trans h
      refine mv_E.go rfl (mi_if_neg hc2087) ?_
      refine mv_E.rT (t := mt_135 L xs) rfl 6 (f' := (276, [some (.retAddr 402), some (.ref 0), some (.ref 18), some (.ref 25), some (.int i), some (.int r2082.1), some (.int r2084.1)], [.int (lg_cmp (r2082.2.2.1 0) (Int32.toInt64 r2084.1))])) (h' := (HPf r2082.2.1 r2084.2 r2082.2.2.1, (cc + r2082.2.2.2), (ss + 6 * r2082.2.2.2))) rfl ?_
      by_cases hc2086 : (lg_cmp (r2082.2.2.1 0) (Int32.toInt64 r2084.1)) = 0
      · replace h := (if_pos hc2086).symm.trans h
        refine mv_E.go rfl (mi_if_pos hc2086) ?_
        refine mv_E.rT (t := mt_135 L xs) rfl 1 (f' := (661, [some (.retAddr 402), some (.ref 0), some (.ref 18), some (.ref 25), some (.int i), some (.int r2082.1), some (.int r2084.1)], [])) (h' := (HPf r2082.2.1 r2084.2 r2082.2.2.1, (cc + r2082.2.2.2), (ss + 6 * r2082.2.2.2))) rfl ?_
        exact hk r2082.2.1 r2084.2 r2082.2.2.1 (cc + r2082.2.2.2) (ss + 6 * r2082.2.2.2) (some r2082.1) (some r2084.1) _ h
      replace h := (if_neg hc2086).symm.trans h
      refine mv_E.go rfl (mi_if_neg hc2086) ?_
      refine mv_E.rT (t := mt_135 L xs) rfl 1 (f' := (280, [some (.retAddr 402), some (.ref 0), some (.ref 18), some (.ref 25), some (.int i), some (.int r2082.1), some (.int r2084.1)], [.int 0])) (h' := (HPf r2082.2.1 r2084.2 r2082.2.2.1, (cc + r2082.2.2.2), (ss + 6 * r2082.2.2.2))) rfl ?_
      cases h
      exact mv_E.done rfl mi_zret0
    replace h := (if_neg hc2088).symm.trans h
    refine mv_E.go rfl (mi_icmp_neg hc2088) ?_
    refine mv_E.rT (t := mt_135 L xs) rfl 1 (f' := (263, [some (.retAddr 402), some (.ref 0), some (.ref 18), some (.ref 25), some (.int i), some (.int r2082.1), some (.int r2084.1)], [.int 0])) (h' := (HPf r2082.2.1 r2084.2 r2082.2.2.1, (cc + r2082.2.2.2), (ss + 6 * r2082.2.2.2))) rfl ?_
    cases h
    exact mv_E.done rfl mi_zret0
def g_3 (L : Nat) (xs : Nat → Int32) (k : CS → CS → (Nat → Int64) → Nat → Nat → Option (Int32 × CS × CS × (Nat → Int64) × Nat × Nat)) (C M : CS) (o : Nat → Int64) (cc ss : Nat) (i : Int32) : Option (Int32 × CS × CS × (Nat → Int64) × Nat × Nat) := (f_99 C o).bind fun r2096 => (f_101 M).bind fun r2098 => (if (f_24 r2098.2) = r2096.1 then (if ¬ r2096.1 = 0 then k r2096.2.1 r2098.2 r2096.2.2.1 (cc + r2096.2.2.2) (ss + 6 * r2096.2.2.2) else (if (lg_cmp (r2096.2.2.1 0) (Int32.toInt64 r2098.1)) = 0 then k r2096.2.1 r2098.2 r2096.2.2.1 (cc + r2096.2.2.2) (ss + 6 * r2096.2.2.2) else some (0, r2096.2.1, r2098.2, r2096.2.2.1, (cc + r2096.2.2.2), (ss + 6 * r2096.2.2.2)))) else some (0, r2096.2.1, r2098.2, r2096.2.2.1, (cc + r2096.2.2.2), (ss + 6 * r2096.2.2.2)))
theorem tg_3 (L : Nat) (xs : Nat → Int32) (k : CS → CS → (Nat → Int64) → Nat → Nat → Option (Int32 × CS × CS × (Nat → Int64) × Nat × Nat)) (i : Int32) (hk : ∀ (C M : CS) (o : Nat → Int64) (cc ss : Nat) (d5 d6 : Option Int32) (ret : Int32 × CS × CS × (Nat → Int64) × Nat × Nat), k C M o cc ss = some ret → mv_E (mp L xs) 135 (661, [some (.retAddr 402), some (.ref 0), some (.ref 18), some (.ref 25), some (.int i), d5.map .int, d6.map .int], []) (HPf C M o, cc, ss) (cvL ret)) (C M : CS) (o : Nat → Int64) (cc ss : Nat) (d5 d6 : Option Int32) (ret : Int32 × CS × CS × (Nat → Int64) × Nat × Nat) (h : g_3 L xs k C M o cc ss i = some ret) : mv_E (mp L xs) 135 (284, [some (.retAddr 402), some (.ref 0), some (.ref 18), some (.ref 25), some (.int i), d5.map .int, d6.map .int], []) (HPf C M o, cc, ss) (cvL ret) := by
  unfold g_3 at h
  rcases d5 with _ | d5
  · refine mv_E.rT (t := mt_135 L xs) rfl 2 (f' := (286, [some (.retAddr 402), some (.ref 0), some (.ref 18), some (.ref 25), some (.int i), none, d6.map .int], [.ref 25, .ref 0])) (h' := (HPf C M o, cc, ss)) rfl ?_
    obtain ⟨r2089, hr2090, h⟩ := Option.bind_eq_some_iff.mp h
    refine mv_E.call (z := 99) (vs := [.ref 0, .ref 25]) (f' := (289, [some (.retAddr 402), some (.ref 0), some (.ref 18), some (.ref 25), some (.int i), none, d6.map .int], [])) (h' := (HPf C M o, cc, ss)) rfl rfl rfl (t_99 L xs hr2090) (mv_okl rfl) ?_
    refine mv_E.rT (t := mt_135 L xs) rfl 2 (f' := (292, [some (.retAddr 402), some (.ref 0), some (.ref 18), some (.ref 25), some (.int i), some (.int r2089.1), d6.map .int], [.ref 18])) (h' := (HPf r2089.2.1 M r2089.2.2.1, (cc + r2089.2.2.2), (ss + 6 * r2089.2.2.2))) rfl ?_
    obtain ⟨r2091, hr2092, h⟩ := Option.bind_eq_some_iff.mp h
    refine mv_E.call (z := 101) (vs := [.ref 18]) (f' := (295, [some (.retAddr 402), some (.ref 0), some (.ref 18), some (.ref 25), some (.int i), some (.int r2089.1), d6.map .int], [])) (h' := (HPf r2089.2.1 M r2089.2.2.1, (cc + r2089.2.2.2), (ss + 6 * r2089.2.2.2))) rfl rfl rfl (t_101 L xs hr2092) (mv_okl rfl) ?_
    refine mv_E.rT (t := mt_135 L xs) rfl 2 (f' := (298, [some (.retAddr 402), some (.ref 0), some (.ref 18), some (.ref 25), some (.int i), some (.int r2089.1), some (.int r2091.1)], [.ref 18])) (h' := (HPf r2089.2.1 r2091.2 r2089.2.2.1, (cc + r2089.2.2.2), (ss + 6 * r2089.2.2.2))) rfl ?_
    refine mv_E.call (z := 24) (vs := [.ref 18]) (f' := (301, [some (.retAddr 402), some (.ref 0), some (.ref 18), some (.ref 25), some (.int i), some (.int r2089.1), some (.int r2091.1)], [])) (h' := (HPf r2089.2.1 r2091.2 r2089.2.2.1, (cc + r2089.2.2.2), (ss + 6 * r2089.2.2.2))) rfl rfl rfl (t_24 L xs rfl) (mv_okl rfl) ?_
    refine mv_E.rT (t := mt_135 L xs) rfl 1 (f' := (303, [some (.retAddr 402), some (.ref 0), some (.ref 18), some (.ref 25), some (.int i), some (.int r2089.1), some (.int r2091.1)], [.int r2089.1, .int (f_24 r2091.2)])) (h' := (HPf r2089.2.1 r2091.2 r2089.2.2.1, (cc + r2089.2.2.2), (ss + 6 * r2089.2.2.2))) rfl ?_
    by_cases hc2095 : (f_24 r2091.2) = r2089.1
    · replace h := (if_pos hc2095).symm.trans h
      refine mv_E.go rfl (mi_icmp_pos hc2095) ?_
      refine mv_E.rT (t := mt_135 L xs) rfl 1 (f' := (310, [some (.retAddr 402), some (.ref 0), some (.ref 18), some (.ref 25), some (.int i), some (.int r2089.1), some (.int r2091.1)], [.int r2089.1])) (h' := (HPf r2089.2.1 r2091.2 r2089.2.2.1, (cc + r2089.2.2.2), (ss + 6 * r2089.2.2.2))) rfl ?_
      by_cases hc2094 : ¬ r2089.1 = 0
      · replace h := (if_pos hc2094).symm.trans h
        refine mv_E.go rfl (mi_if_pos hc2094) ?_
        refine mv_E.rT (t := mt_135 L xs) rfl 1 (f' := (661, [some (.retAddr 402), some (.ref 0), some (.ref 18), some (.ref 25), some (.int i), some (.int r2089.1), some (.int r2091.1)], [])) (h' := (HPf r2089.2.1 r2091.2 r2089.2.2.1, (cc + r2089.2.2.2), (ss + 6 * r2089.2.2.2))) rfl ?_
        exact hk r2089.2.1 r2091.2 r2089.2.2.1 (cc + r2089.2.2.2) (ss + 6 * r2089.2.2.2) (some r2089.1) (some r2091.1) _ h
      replace h := (if_neg hc2094).symm.trans h
      refine mv_E.go rfl (mi_if_neg hc2094) ?_
      refine mv_E.rT (t := mt_135 L xs) rfl 6 (f' := (320, [some (.retAddr 402), some (.ref 0), some (.ref 18), some (.ref 25), some (.int i), some (.int r2089.1), some (.int r2091.1)], [.int (lg_cmp (r2089.2.2.1 0) (Int32.toInt64 r2091.1))])) (h' := (HPf r2089.2.1 r2091.2 r2089.2.2.1, (cc + r2089.2.2.2), (ss + 6 * r2089.2.2.2))) rfl ?_
      by_cases hc2093 : (lg_cmp (r2089.2.2.1 0) (Int32.toInt64 r2091.1)) = 0
      · replace h := (if_pos hc2093).symm.trans h
        refine mv_E.go rfl (mi_if_pos hc2093) ?_
        refine mv_E.rT (t := mt_135 L xs) rfl 1 (f' := (661, [some (.retAddr 402), some (.ref 0), some (.ref 18), some (.ref 25), some (.int i), some (.int r2089.1), some (.int r2091.1)], [])) (h' := (HPf r2089.2.1 r2091.2 r2089.2.2.1, (cc + r2089.2.2.2), (ss + 6 * r2089.2.2.2))) rfl ?_
        exact hk r2089.2.1 r2091.2 r2089.2.2.1 (cc + r2089.2.2.2) (ss + 6 * r2089.2.2.2) (some r2089.1) (some r2091.1) _ h
      replace h := (if_neg hc2093).symm.trans h
      refine mv_E.go rfl (mi_if_neg hc2093) ?_
      refine mv_E.rT (t := mt_135 L xs) rfl 1 (f' := (324, [some (.retAddr 402), some (.ref 0), some (.ref 18), some (.ref 25), some (.int i), some (.int r2089.1), some (.int r2091.1)], [.int 0])) (h' := (HPf r2089.2.1 r2091.2 r2089.2.2.1, (cc + r2089.2.2.2), (ss + 6 * r2089.2.2.2))) rfl ?_
      cases h
      exact mv_E.done rfl mi_zret0
    replace h := (if_neg hc2095).symm.trans h
    refine mv_E.go rfl (mi_icmp_neg hc2095) ?_
    refine mv_E.rT (t := mt_135 L xs) rfl 1 (f' := (307, [some (.retAddr 402), some (.ref 0), some (.ref 18), some (.ref 25), some (.int i), some (.int r2089.1), some (.int r2091.1)], [.int 0])) (h' := (HPf r2089.2.1 r2091.2 r2089.2.2.1, (cc + r2089.2.2.2), (ss + 6 * r2089.2.2.2))) rfl ?_
    cases h
    exact mv_E.done rfl mi_zret0
  · refine mv_E.rT (t := mt_135 L xs) rfl 2 (f' := (286, [some (.retAddr 402), some (.ref 0), some (.ref 18), some (.ref 25), some (.int i), some (.int d5), d6.map .int], [.ref 25, .ref 0])) (h' := (HPf C M o, cc, ss)) rfl ?_
    obtain ⟨r2096, hr2097, h⟩ := Option.bind_eq_some_iff.mp h
    refine mv_E.call (z := 99) (vs := [.ref 0, .ref 25]) (f' := (289, [some (.retAddr 402), some (.ref 0), some (.ref 18), some (.ref 25), some (.int i), some (.int d5), d6.map .int], [])) (h' := (HPf C M o, cc, ss)) rfl rfl rfl (t_99 L xs hr2097) (mv_okl rfl) ?_
    refine mv_E.rT (t := mt_135 L xs) rfl 2 (f' := (292, [some (.retAddr 402), some (.ref 0), some (.ref 18), some (.ref 25), some (.int i), some (.int r2096.1), d6.map .int], [.ref 18])) (h' := (HPf r2096.2.1 M r2096.2.2.1, (cc + r2096.2.2.2), (ss + 6 * r2096.2.2.2))) rfl ?_
    obtain ⟨r2098, hr2099, h⟩ := Option.bind_eq_some_iff.mp h
    refine mv_E.call (z := 101) (vs := [.ref 18]) (f' := (295, [some (.retAddr 402), some (.ref 0), some (.ref 18), some (.ref 25), some (.int i), some (.int r2096.1), d6.map .int], [])) (h' := (HPf r2096.2.1 M r2096.2.2.1, (cc + r2096.2.2.2), (ss + 6 * r2096.2.2.2))) rfl rfl rfl (t_101 L xs hr2099) (mv_okl rfl) ?_
    refine mv_E.rT (t := mt_135 L xs) rfl 2 (f' := (298, [some (.retAddr 402), some (.ref 0), some (.ref 18), some (.ref 25), some (.int i), some (.int r2096.1), some (.int r2098.1)], [.ref 18])) (h' := (HPf r2096.2.1 r2098.2 r2096.2.2.1, (cc + r2096.2.2.2), (ss + 6 * r2096.2.2.2))) rfl ?_
    refine mv_E.call (z := 24) (vs := [.ref 18]) (f' := (301, [some (.retAddr 402), some (.ref 0), some (.ref 18), some (.ref 25), some (.int i), some (.int r2096.1), some (.int r2098.1)], [])) (h' := (HPf r2096.2.1 r2098.2 r2096.2.2.1, (cc + r2096.2.2.2), (ss + 6 * r2096.2.2.2))) rfl rfl rfl (t_24 L xs rfl) (mv_okl rfl) ?_
    refine mv_E.rT (t := mt_135 L xs) rfl 1 (f' := (303, [some (.retAddr 402), some (.ref 0), some (.ref 18), some (.ref 25), some (.int i), some (.int r2096.1), some (.int r2098.1)], [.int r2096.1, .int (f_24 r2098.2)])) (h' := (HPf r2096.2.1 r2098.2 r2096.2.2.1, (cc + r2096.2.2.2), (ss + 6 * r2096.2.2.2))) rfl ?_
    by_cases hc2102 : (f_24 r2098.2) = r2096.1
    · replace h := (if_pos hc2102).symm.trans h
      refine mv_E.go rfl (mi_icmp_pos hc2102) ?_
      refine mv_E.rT (t := mt_135 L xs) rfl 1 (f' := (310, [some (.retAddr 402), some (.ref 0), some (.ref 18), some (.ref 25), some (.int i), some (.int r2096.1), some (.int r2098.1)], [.int r2096.1])) (h' := (HPf r2096.2.1 r2098.2 r2096.2.2.1, (cc + r2096.2.2.2), (ss + 6 * r2096.2.2.2))) rfl ?_
      by_cases hc2101 : ¬ r2096.1 = 0
      · replace h := (if_pos hc2101).symm.trans h
        refine mv_E.go rfl (mi_if_pos hc2101) ?_
        refine mv_E.rT (t := mt_135 L xs) rfl 1 (f' := (661, [some (.retAddr 402), some (.ref 0), some (.ref 18), some (.ref 25), some (.int i), some (.int r2096.1), some (.int r2098.1)], [])) (h' := (HPf r2096.2.1 r2098.2 r2096.2.2.1, (cc + r2096.2.2.2), (ss + 6 * r2096.2.2.2))) rfl ?_
        exact hk r2096.2.1 r2098.2 r2096.2.2.1 (cc + r2096.2.2.2) (ss + 6 * r2096.2.2.2) (some r2096.1) (some r2098.1) _ h
      replace h := (if_neg hc2101).symm.trans h
      refine mv_E.go rfl (mi_if_neg hc2101) ?_
      refine mv_E.rT (t := mt_135 L xs) rfl 6 (f' := (320, [some (.retAddr 402), some (.ref 0), some (.ref 18), some (.ref 25), some (.int i), some (.int r2096.1), some (.int r2098.1)], [.int (lg_cmp (r2096.2.2.1 0) (Int32.toInt64 r2098.1))])) (h' := (HPf r2096.2.1 r2098.2 r2096.2.2.1, (cc + r2096.2.2.2), (ss + 6 * r2096.2.2.2))) rfl ?_
      by_cases hc2100 : (lg_cmp (r2096.2.2.1 0) (Int32.toInt64 r2098.1)) = 0
      · replace h := (if_pos hc2100).symm.trans h
        refine mv_E.go rfl (mi_if_pos hc2100) ?_
        refine mv_E.rT (t := mt_135 L xs) rfl 1 (f' := (661, [some (.retAddr 402), some (.ref 0), some (.ref 18), some (.ref 25), some (.int i), some (.int r2096.1), some (.int r2098.1)], [])) (h' := (HPf r2096.2.1 r2098.2 r2096.2.2.1, (cc + r2096.2.2.2), (ss + 6 * r2096.2.2.2))) rfl ?_
        exact hk r2096.2.1 r2098.2 r2096.2.2.1 (cc + r2096.2.2.2) (ss + 6 * r2096.2.2.2) (some r2096.1) (some r2098.1) _ h
      replace h := (if_neg hc2100).symm.trans h
      refine mv_E.go rfl (mi_if_neg hc2100) ?_
      refine mv_E.rT (t := mt_135 L xs) rfl 1 (f' := (324, [some (.retAddr 402), some (.ref 0), some (.ref 18), some (.ref 25), some (.int i), some (.int r2096.1), some (.int r2098.1)], [.int 0])) (h' := (HPf r2096.2.1 r2098.2 r2096.2.2.1, (cc + r2096.2.2.2), (ss + 6 * r2096.2.2.2))) rfl ?_
      cases h
      exact mv_E.done rfl mi_zret0
    replace h := (if_neg hc2102).symm.trans h
    refine mv_E.go rfl (mi_icmp_neg hc2102) ?_
    refine mv_E.rT (t := mt_135 L xs) rfl 1 (f' := (307, [some (.retAddr 402), some (.ref 0), some (.ref 18), some (.ref 25), some (.int i), some (.int r2096.1), some (.int r2098.1)], [.int 0])) (h' := (HPf r2096.2.1 r2098.2 r2096.2.2.1, (cc + r2096.2.2.2), (ss + 6 * r2096.2.2.2))) rfl ?_
    cases h
    exact mv_E.done rfl mi_zret0
def g_4 (L : Nat) (xs : Nat → Int32) (k : CS → CS → (Nat → Int64) → Nat → Nat → Option (Int32 × CS × CS × (Nat → Int64) × Nat × Nat)) (C M : CS) (o : Nat → Int64) (cc ss : Nat) (i : Int32) : Option (Int32 × CS × CS × (Nat → Int64) × Nat × Nat) := (f_103 C o).bind fun r2108 => (f_104 M).bind fun r2110 => (if (f_24 r2110) = r2108.1 then k r2108.2.1 r2110 r2108.2.2.1 (cc + r2108.2.2.2) (ss + 6 * r2108.2.2.2) else some (0, r2108.2.1, r2110, r2108.2.2.1, (cc + r2108.2.2.2), (ss + 6 * r2108.2.2.2)))
theorem tg_4 (L : Nat) (xs : Nat → Int32) (k : CS → CS → (Nat → Int64) → Nat → Nat → Option (Int32 × CS × CS × (Nat → Int64) × Nat × Nat)) (i : Int32) (hk : ∀ (C M : CS) (o : Nat → Int64) (cc ss : Nat) (d5 d6 : Option Int32) (ret : Int32 × CS × CS × (Nat → Int64) × Nat × Nat), k C M o cc ss = some ret → mv_E (mp L xs) 135 (661, [some (.retAddr 402), some (.ref 0), some (.ref 18), some (.ref 25), some (.int i), d5.map .int, d6.map .int], []) (HPf C M o, cc, ss) (cvL ret)) (C M : CS) (o : Nat → Int64) (cc ss : Nat) (d5 d6 : Option Int32) (ret : Int32 × CS × CS × (Nat → Int64) × Nat × Nat) (h : g_4 L xs k C M o cc ss i = some ret) : mv_E (mp L xs) 135 (328, [some (.retAddr 402), some (.ref 0), some (.ref 18), some (.ref 25), some (.int i), d5.map .int, d6.map .int], []) (HPf C M o, cc, ss) (cvL ret) := by
  unfold g_4 at h
  rcases d5 with _ | d5
  · refine mv_E.rT (t := mt_135 L xs) rfl 1 (f' := (329, [some (.retAddr 402), some (.ref 0), some (.ref 18), some (.ref 25), some (.int i), none, d6.map .int], [.ref 0])) (h' := (HPf C M o, cc, ss)) rfl ?_
    obtain ⟨r2103, hr2104, h⟩ := Option.bind_eq_some_iff.mp h
    refine mv_E.call (z := 103) (vs := [.ref 0]) (f' := (332, [some (.retAddr 402), some (.ref 0), some (.ref 18), some (.ref 25), some (.int i), none, d6.map .int], [])) (h' := (HPf C M o, cc, ss)) rfl rfl rfl (t_103 L xs hr2104) (mv_okl rfl) ?_
    refine mv_E.rT (t := mt_135 L xs) rfl 2 (f' := (335, [some (.retAddr 402), some (.ref 0), some (.ref 18), some (.ref 25), some (.int i), some (.int r2103.1), d6.map .int], [.ref 18])) (h' := (HPf r2103.2.1 M r2103.2.2.1, (cc + r2103.2.2.2), (ss + 6 * r2103.2.2.2))) rfl ?_
    obtain ⟨r2105, hr2106, h⟩ := Option.bind_eq_some_iff.mp h
    refine mv_E.call (z := 104) (vs := [.ref 18]) (f' := (338, [some (.retAddr 402), some (.ref 0), some (.ref 18), some (.ref 25), some (.int i), some (.int r2103.1), d6.map .int], [])) (h' := (HPf r2103.2.1 M r2103.2.2.1, (cc + r2103.2.2.2), (ss + 6 * r2103.2.2.2))) rfl rfl rfl (t_104 L xs hr2106) (mv_okl rfl) ?_
    refine mv_E.rT (t := mt_135 L xs) rfl 1 (f' := (339, [some (.retAddr 402), some (.ref 0), some (.ref 18), some (.ref 25), some (.int i), some (.int r2103.1), d6.map .int], [.ref 18])) (h' := (HPf r2103.2.1 r2105 r2103.2.2.1, (cc + r2103.2.2.2), (ss + 6 * r2103.2.2.2))) rfl ?_
    refine mv_E.call (z := 24) (vs := [.ref 18]) (f' := (342, [some (.retAddr 402), some (.ref 0), some (.ref 18), some (.ref 25), some (.int i), some (.int r2103.1), d6.map .int], [])) (h' := (HPf r2103.2.1 r2105 r2103.2.2.1, (cc + r2103.2.2.2), (ss + 6 * r2103.2.2.2))) rfl rfl rfl (t_24 L xs rfl) (mv_okl rfl) ?_
    refine mv_E.rT (t := mt_135 L xs) rfl 1 (f' := (344, [some (.retAddr 402), some (.ref 0), some (.ref 18), some (.ref 25), some (.int i), some (.int r2103.1), d6.map .int], [.int r2103.1, .int (f_24 r2105)])) (h' := (HPf r2103.2.1 r2105 r2103.2.2.1, (cc + r2103.2.2.2), (ss + 6 * r2103.2.2.2))) rfl ?_
    by_cases hc2107 : (f_24 r2105) = r2103.1
    · replace h := (if_pos hc2107).symm.trans h
      refine mv_E.go rfl (mi_icmp_pos hc2107) ?_
      refine mv_E.rT (t := mt_135 L xs) rfl 1 (f' := (661, [some (.retAddr 402), some (.ref 0), some (.ref 18), some (.ref 25), some (.int i), some (.int r2103.1), d6.map .int], [])) (h' := (HPf r2103.2.1 r2105 r2103.2.2.1, (cc + r2103.2.2.2), (ss + 6 * r2103.2.2.2))) rfl ?_
      exact hk r2103.2.1 r2105 r2103.2.2.1 (cc + r2103.2.2.2) (ss + 6 * r2103.2.2.2) (some r2103.1) d6 _ h
    replace h := (if_neg hc2107).symm.trans h
    refine mv_E.go rfl (mi_icmp_neg hc2107) ?_
    refine mv_E.rT (t := mt_135 L xs) rfl 1 (f' := (348, [some (.retAddr 402), some (.ref 0), some (.ref 18), some (.ref 25), some (.int i), some (.int r2103.1), d6.map .int], [.int 0])) (h' := (HPf r2103.2.1 r2105 r2103.2.2.1, (cc + r2103.2.2.2), (ss + 6 * r2103.2.2.2))) rfl ?_
    cases h
    exact mv_E.done rfl mi_zret0
  · refine mv_E.rT (t := mt_135 L xs) rfl 1 (f' := (329, [some (.retAddr 402), some (.ref 0), some (.ref 18), some (.ref 25), some (.int i), some (.int d5), d6.map .int], [.ref 0])) (h' := (HPf C M o, cc, ss)) rfl ?_
    obtain ⟨r2108, hr2109, h⟩ := Option.bind_eq_some_iff.mp h
    refine mv_E.call (z := 103) (vs := [.ref 0]) (f' := (332, [some (.retAddr 402), some (.ref 0), some (.ref 18), some (.ref 25), some (.int i), some (.int d5), d6.map .int], [])) (h' := (HPf C M o, cc, ss)) rfl rfl rfl (t_103 L xs hr2109) (mv_okl rfl) ?_
    refine mv_E.rT (t := mt_135 L xs) rfl 2 (f' := (335, [some (.retAddr 402), some (.ref 0), some (.ref 18), some (.ref 25), some (.int i), some (.int r2108.1), d6.map .int], [.ref 18])) (h' := (HPf r2108.2.1 M r2108.2.2.1, (cc + r2108.2.2.2), (ss + 6 * r2108.2.2.2))) rfl ?_
    obtain ⟨r2110, hr2111, h⟩ := Option.bind_eq_some_iff.mp h
    refine mv_E.call (z := 104) (vs := [.ref 18]) (f' := (338, [some (.retAddr 402), some (.ref 0), some (.ref 18), some (.ref 25), some (.int i), some (.int r2108.1), d6.map .int], [])) (h' := (HPf r2108.2.1 M r2108.2.2.1, (cc + r2108.2.2.2), (ss + 6 * r2108.2.2.2))) rfl rfl rfl (t_104 L xs hr2111) (mv_okl rfl) ?_
    refine mv_E.rT (t := mt_135 L xs) rfl 1 (f' := (339, [some (.retAddr 402), some (.ref 0), some (.ref 18), some (.ref 25), some (.int i), some (.int r2108.1), d6.map .int], [.ref 18])) (h' := (HPf r2108.2.1 r2110 r2108.2.2.1, (cc + r2108.2.2.2), (ss + 6 * r2108.2.2.2))) rfl ?_
    refine mv_E.call (z := 24) (vs := [.ref 18]) (f' := (342, [some (.retAddr 402), some (.ref 0), some (.ref 18), some (.ref 25), some (.int i), some (.int r2108.1), d6.map .int], [])) (h' := (HPf r2108.2.1 r2110 r2108.2.2.1, (cc + r2108.2.2.2), (ss + 6 * r2108.2.2.2))) rfl rfl rfl (t_24 L xs rfl) (mv_okl rfl) ?_
    refine mv_E.rT (t := mt_135 L xs) rfl 1 (f' := (344, [some (.retAddr 402), some (.ref 0), some (.ref 18), some (.ref 25), some (.int i), some (.int r2108.1), d6.map .int], [.int r2108.1, .int (f_24 r2110)])) (h' := (HPf r2108.2.1 r2110 r2108.2.2.1, (cc + r2108.2.2.2), (ss + 6 * r2108.2.2.2))) rfl ?_
    by_cases hc2112 : (f_24 r2110) = r2108.1
    · replace h := (if_pos hc2112).symm.trans h
      refine mv_E.go rfl (mi_icmp_pos hc2112) ?_
      refine mv_E.rT (t := mt_135 L xs) rfl 1 (f' := (661, [some (.retAddr 402), some (.ref 0), some (.ref 18), some (.ref 25), some (.int i), some (.int r2108.1), d6.map .int], [])) (h' := (HPf r2108.2.1 r2110 r2108.2.2.1, (cc + r2108.2.2.2), (ss + 6 * r2108.2.2.2))) rfl ?_
      exact hk r2108.2.1 r2110 r2108.2.2.1 (cc + r2108.2.2.2) (ss + 6 * r2108.2.2.2) (some r2108.1) d6 _ h
    replace h := (if_neg hc2112).symm.trans h
    refine mv_E.go rfl (mi_icmp_neg hc2112) ?_
    refine mv_E.rT (t := mt_135 L xs) rfl 1 (f' := (348, [some (.retAddr 402), some (.ref 0), some (.ref 18), some (.ref 25), some (.int i), some (.int r2108.1), d6.map .int], [.int 0])) (h' := (HPf r2108.2.1 r2110 r2108.2.2.1, (cc + r2108.2.2.2), (ss + 6 * r2108.2.2.2))) rfl ?_
    cases h
    exact mv_E.done rfl mi_zret0
def g_5 (L : Nat) (xs : Nat → Int32) (k : CS → CS → (Nat → Int64) → Nat → Nat → Option (Int32 × CS × CS × (Nat → Int64) × Nat × Nat)) (C M : CS) (o : Nat → Int64) (cc ss : Nat) (i : Int32) : Option (Int32 × CS × CS × (Nat → Int64) × Nat × Nat) := (f_106 M).bind fun r2116 => (if (f_105 C) = r2116.1 then k C r2116.2 o cc ss else some (0, C, r2116.2, o, cc, ss))
theorem tg_5 (L : Nat) (xs : Nat → Int32) (k : CS → CS → (Nat → Int64) → Nat → Nat → Option (Int32 × CS × CS × (Nat → Int64) × Nat × Nat)) (i : Int32) (hk : ∀ (C M : CS) (o : Nat → Int64) (cc ss : Nat) (d5 d6 : Option Int32) (ret : Int32 × CS × CS × (Nat → Int64) × Nat × Nat), k C M o cc ss = some ret → mv_E (mp L xs) 135 (661, [some (.retAddr 402), some (.ref 0), some (.ref 18), some (.ref 25), some (.int i), d5.map .int, d6.map .int], []) (HPf C M o, cc, ss) (cvL ret)) (C M : CS) (o : Nat → Int64) (cc ss : Nat) (d5 d6 : Option Int32) (ret : Int32 × CS × CS × (Nat → Int64) × Nat × Nat) (h : g_5 L xs k C M o cc ss i = some ret) : mv_E (mp L xs) 135 (352, [some (.retAddr 402), some (.ref 0), some (.ref 18), some (.ref 25), some (.int i), d5.map .int, d6.map .int], []) (HPf C M o, cc, ss) (cvL ret) := by
  unfold g_5 at h
  rcases d5 with _ | d5
  · refine mv_E.rT (t := mt_135 L xs) rfl 1 (f' := (353, [some (.retAddr 402), some (.ref 0), some (.ref 18), some (.ref 25), some (.int i), none, d6.map .int], [.ref 0])) (h' := (HPf C M o, cc, ss)) rfl ?_
    refine mv_E.call (z := 105) (vs := [.ref 0]) (f' := (356, [some (.retAddr 402), some (.ref 0), some (.ref 18), some (.ref 25), some (.int i), none, d6.map .int], [])) (h' := (HPf C M o, cc, ss)) rfl rfl rfl (t_105 L xs rfl) (mv_okl rfl) ?_
    refine mv_E.rT (t := mt_135 L xs) rfl 1 (f' := (357, [some (.retAddr 402), some (.ref 0), some (.ref 18), some (.ref 25), some (.int i), none, d6.map .int], [.ref 18, .int (f_105 C)])) (h' := (HPf C M o, cc, ss)) rfl ?_
    obtain ⟨r2113, hr2114, h⟩ := Option.bind_eq_some_iff.mp h
    refine mv_E.call (z := 106) (vs := [.ref 18]) (f' := (360, [some (.retAddr 402), some (.ref 0), some (.ref 18), some (.ref 25), some (.int i), none, d6.map .int], [.int (f_105 C)])) (h' := (HPf C M o, cc, ss)) rfl rfl rfl (t_106 L xs hr2114) (mv_okl rfl) ?_
    show mv_E (mp L xs) 135 (360, [some (.retAddr 402), some (.ref 0), some (.ref 18), some (.ref 25), some (.int i), none, d6.map .int], [.int r2113.1, .int (f_105 C)]) (HPf C r2113.2 o, cc, ss) _
    by_cases hc2115 : (f_105 C) = r2113.1
    · replace h := (if_pos hc2115).symm.trans h
      refine mv_E.go rfl (mi_icmp_pos hc2115) ?_
      show mv_E (mp L xs) 135 (661, [some (.retAddr 402), some (.ref 0), some (.ref 18), some (.ref 25), some (.int i), none, d6.map .int], []) (HPf C r2113.2 o, cc, ss) _
      exact hk C r2113.2 o cc ss none d6 _ h
    replace h := (if_neg hc2115).symm.trans h
    refine mv_E.go rfl (mi_icmp_neg hc2115) ?_
    refine mv_E.rT (t := mt_135 L xs) rfl 1 (f' := (364, [some (.retAddr 402), some (.ref 0), some (.ref 18), some (.ref 25), some (.int i), none, d6.map .int], [.int 0])) (h' := (HPf C r2113.2 o, cc, ss)) rfl ?_
    cases h
    exact mv_E.done rfl mi_zret0
  · refine mv_E.rT (t := mt_135 L xs) rfl 1 (f' := (353, [some (.retAddr 402), some (.ref 0), some (.ref 18), some (.ref 25), some (.int i), some (.int d5), d6.map .int], [.ref 0])) (h' := (HPf C M o, cc, ss)) rfl ?_
    refine mv_E.call (z := 105) (vs := [.ref 0]) (f' := (356, [some (.retAddr 402), some (.ref 0), some (.ref 18), some (.ref 25), some (.int i), some (.int d5), d6.map .int], [])) (h' := (HPf C M o, cc, ss)) rfl rfl rfl (t_105 L xs rfl) (mv_okl rfl) ?_
    refine mv_E.rT (t := mt_135 L xs) rfl 1 (f' := (357, [some (.retAddr 402), some (.ref 0), some (.ref 18), some (.ref 25), some (.int i), some (.int d5), d6.map .int], [.ref 18, .int (f_105 C)])) (h' := (HPf C M o, cc, ss)) rfl ?_
    obtain ⟨r2116, hr2117, h⟩ := Option.bind_eq_some_iff.mp h
    refine mv_E.call (z := 106) (vs := [.ref 18]) (f' := (360, [some (.retAddr 402), some (.ref 0), some (.ref 18), some (.ref 25), some (.int i), some (.int d5), d6.map .int], [.int (f_105 C)])) (h' := (HPf C M o, cc, ss)) rfl rfl rfl (t_106 L xs hr2117) (mv_okl rfl) ?_
    show mv_E (mp L xs) 135 (360, [some (.retAddr 402), some (.ref 0), some (.ref 18), some (.ref 25), some (.int i), some (.int d5), d6.map .int], [.int r2116.1, .int (f_105 C)]) (HPf C r2116.2 o, cc, ss) _
    by_cases hc2118 : (f_105 C) = r2116.1
    · replace h := (if_pos hc2118).symm.trans h
      refine mv_E.go rfl (mi_icmp_pos hc2118) ?_
      show mv_E (mp L xs) 135 (661, [some (.retAddr 402), some (.ref 0), some (.ref 18), some (.ref 25), some (.int i), some (.int d5), d6.map .int], []) (HPf C r2116.2 o, cc, ss) _
      exact hk C r2116.2 o cc ss (some d5) d6 _ h
    replace h := (if_neg hc2118).symm.trans h
    refine mv_E.go rfl (mi_icmp_neg hc2118) ?_
    refine mv_E.rT (t := mt_135 L xs) rfl 1 (f' := (364, [some (.retAddr 402), some (.ref 0), some (.ref 18), some (.ref 25), some (.int i), some (.int d5), d6.map .int], [.int 0])) (h' := (HPf C r2116.2 o, cc, ss)) rfl ?_
    cases h
    exact mv_E.done rfl mi_zret0
def g_6 (L : Nat) (xs : Nat → Int32) (k : CS → CS → (Nat → Int64) → Nat → Nat → Option (Int32 × CS × CS × (Nat → Int64) × Nat × Nat)) (C M : CS) (o : Nat → Int64) (cc ss : Nat) (i : Int32) : Option (Int32 × CS × CS × (Nat → Int64) × Nat × Nat) := if mv_in (i + 1) L = true then (f_110 C o (xs (i + 1).toNatClampNeg)).bind fun r2129 => if mv_in (i + 1) L = true then (f_111 M (xs (i + 1).toNatClampNeg)).bind fun r2132 => (if (f_24 r2132.2) = r2129.1 then (if ¬ r2129.1 = 0 then k r2129.2.1 r2132.2 r2129.2.2.1 (cc + r2129.2.2.2) (ss + 6 * r2129.2.2.2) else (if (lg_cmp (r2129.2.2.1 0) (Int32.toInt64 r2132.1)) = 0 then k r2129.2.1 r2132.2 r2129.2.2.1 (cc + r2129.2.2.2) (ss + 6 * r2129.2.2.2) else some (0, r2129.2.1, r2132.2, r2129.2.2.1, (cc + r2129.2.2.2), (ss + 6 * r2129.2.2.2)))) else some (0, r2129.2.1, r2132.2, r2129.2.2.1, (cc + r2129.2.2.2), (ss + 6 * r2129.2.2.2))) else none else none
theorem tg_6 (L : Nat) (xs : Nat → Int32) (k : CS → CS → (Nat → Int64) → Nat → Nat → Option (Int32 × CS × CS × (Nat → Int64) × Nat × Nat)) (i : Int32) (hk : ∀ (C M : CS) (o : Nat → Int64) (cc ss : Nat) (d5 d6 : Option Int32) (ret : Int32 × CS × CS × (Nat → Int64) × Nat × Nat), k C M o cc ss = some ret → mv_E (mp L xs) 135 (661, [some (.retAddr 402), some (.ref 0), some (.ref 18), some (.ref 25), some (.int i), d5.map .int, d6.map .int], []) (HPf C M o, cc, ss) (cvL ret)) (C M : CS) (o : Nat → Int64) (cc ss : Nat) (d5 d6 : Option Int32) (ret : Int32 × CS × CS × (Nat → Int64) × Nat × Nat) (h : g_6 L xs k C M o cc ss i = some ret) : mv_E (mp L xs) 135 (365, [some (.retAddr 402), some (.ref 0), some (.ref 18), some (.ref 25), some (.int i), d5.map .int, d6.map .int], []) (HPf C M o, cc, ss) (cvL ret) := by
  unfold g_6 at h
  rcases d5 with _ | d5
  · refine mv_E.rT (t := mt_135 L xs) rfl 5 (f' := (371, [some (.retAddr 402), some (.ref 0), some (.ref 18), some (.ref 25), some (.int i), none, d6.map .int], [.int (i + 1), .retAddr 402, .ref 0])) (h' := (HPf C M o, cc, ss)) rfl ?_
    by_cases hb2119 : mv_in (i + 1) L = true
    rotate_left
    · cases (if_neg hb2119).symm.trans h
    replace h := (if_pos hb2119).symm.trans h
    refine mv_E.go rfl (mi_tld_at rfl hb2119) ?_
    refine mv_E.rT (t := mt_135 L xs) rfl 1 (f' := (373, [some (.retAddr 402), some (.ref 0), some (.ref 18), some (.ref 25), some (.int i), none, d6.map .int], [.ref 25, .int (xs (i + 1).toNatClampNeg), .ref 0])) (h' := (HPf C M o, cc, ss)) rfl ?_
    obtain ⟨r2120, hr2121, h⟩ := Option.bind_eq_some_iff.mp h
    refine mv_E.call (z := 110) (vs := [.ref 0, .int (xs (i + 1).toNatClampNeg), .ref 25]) (f' := (376, [some (.retAddr 402), some (.ref 0), some (.ref 18), some (.ref 25), some (.int i), none, d6.map .int], [])) (h' := (HPf C M o, cc, ss)) rfl rfl rfl (t_110 L xs hr2121) (mv_okl rfl) ?_
    refine mv_E.rT (t := mt_135 L xs) rfl 6 (f' := (384, [some (.retAddr 402), some (.ref 0), some (.ref 18), some (.ref 25), some (.int i), some (.int r2120.1), d6.map .int], [.int (i + 1), .retAddr 402, .ref 18])) (h' := (HPf r2120.2.1 M r2120.2.2.1, (cc + r2120.2.2.2), (ss + 6 * r2120.2.2.2))) rfl ?_
    by_cases hb2122 : mv_in (i + 1) L = true
    rotate_left
    · cases (if_neg hb2122).symm.trans h
    replace h := (if_pos hb2122).symm.trans h
    refine mv_E.go rfl (mi_tld_at rfl hb2122) ?_
    show mv_E (mp L xs) 135 (385, [some (.retAddr 402), some (.ref 0), some (.ref 18), some (.ref 25), some (.int i), some (.int r2120.1), d6.map .int], [.int (xs (i + 1).toNatClampNeg), .ref 18]) (HPf r2120.2.1 M r2120.2.2.1, (cc + r2120.2.2.2), (ss + 6 * r2120.2.2.2)) _
    obtain ⟨r2123, hr2124, h⟩ := Option.bind_eq_some_iff.mp h
    refine mv_E.call (z := 111) (vs := [.ref 18, .int (xs (i + 1).toNatClampNeg)]) (f' := (388, [some (.retAddr 402), some (.ref 0), some (.ref 18), some (.ref 25), some (.int i), some (.int r2120.1), d6.map .int], [])) (h' := (HPf r2120.2.1 M r2120.2.2.1, (cc + r2120.2.2.2), (ss + 6 * r2120.2.2.2))) rfl rfl rfl (t_111 L xs hr2124) (mv_okl rfl) ?_
    refine mv_E.rT (t := mt_135 L xs) rfl 2 (f' := (391, [some (.retAddr 402), some (.ref 0), some (.ref 18), some (.ref 25), some (.int i), some (.int r2120.1), some (.int r2123.1)], [.ref 18])) (h' := (HPf r2120.2.1 r2123.2 r2120.2.2.1, (cc + r2120.2.2.2), (ss + 6 * r2120.2.2.2))) rfl ?_
    refine mv_E.call (z := 24) (vs := [.ref 18]) (f' := (394, [some (.retAddr 402), some (.ref 0), some (.ref 18), some (.ref 25), some (.int i), some (.int r2120.1), some (.int r2123.1)], [])) (h' := (HPf r2120.2.1 r2123.2 r2120.2.2.1, (cc + r2120.2.2.2), (ss + 6 * r2120.2.2.2))) rfl rfl rfl (t_24 L xs rfl) (mv_okl rfl) ?_
    refine mv_E.rT (t := mt_135 L xs) rfl 1 (f' := (396, [some (.retAddr 402), some (.ref 0), some (.ref 18), some (.ref 25), some (.int i), some (.int r2120.1), some (.int r2123.1)], [.int r2120.1, .int (f_24 r2123.2)])) (h' := (HPf r2120.2.1 r2123.2 r2120.2.2.1, (cc + r2120.2.2.2), (ss + 6 * r2120.2.2.2))) rfl ?_
    by_cases hc2127 : (f_24 r2123.2) = r2120.1
    · replace h := (if_pos hc2127).symm.trans h
      refine mv_E.go rfl (mi_icmp_pos hc2127) ?_
      refine mv_E.rT (t := mt_135 L xs) rfl 1 (f' := (403, [some (.retAddr 402), some (.ref 0), some (.ref 18), some (.ref 25), some (.int i), some (.int r2120.1), some (.int r2123.1)], [.int r2120.1])) (h' := (HPf r2120.2.1 r2123.2 r2120.2.2.1, (cc + r2120.2.2.2), (ss + 6 * r2120.2.2.2))) rfl ?_
      by_cases hc2126 : ¬ r2120.1 = 0
      · replace h := (if_pos hc2126).symm.trans h
        refine mv_E.go rfl (mi_if_pos hc2126) ?_
        refine mv_E.rT (t := mt_135 L xs) rfl 1 (f' := (661, [some (.retAddr 402), some (.ref 0), some (.ref 18), some (.ref 25), some (.int i), some (.int r2120.1), some (.int r2123.1)], [])) (h' := (HPf r2120.2.1 r2123.2 r2120.2.2.1, (cc + r2120.2.2.2), (ss + 6 * r2120.2.2.2))) rfl ?_
        exact hk r2120.2.1 r2123.2 r2120.2.2.1 (cc + r2120.2.2.2) (ss + 6 * r2120.2.2.2) (some r2120.1) (some r2123.1) _ h
      replace h := (if_neg hc2126).symm.trans h
      refine mv_E.go rfl (mi_if_neg hc2126) ?_
      refine mv_E.rT (t := mt_135 L xs) rfl 6 (f' := (413, [some (.retAddr 402), some (.ref 0), some (.ref 18), some (.ref 25), some (.int i), some (.int r2120.1), some (.int r2123.1)], [.int (lg_cmp (r2120.2.2.1 0) (Int32.toInt64 r2123.1))])) (h' := (HPf r2120.2.1 r2123.2 r2120.2.2.1, (cc + r2120.2.2.2), (ss + 6 * r2120.2.2.2))) rfl ?_
      by_cases hc2125 : (lg_cmp (r2120.2.2.1 0) (Int32.toInt64 r2123.1)) = 0
      · replace h := (if_pos hc2125).symm.trans h
        refine mv_E.go rfl (mi_if_pos hc2125) ?_
        refine mv_E.rT (t := mt_135 L xs) rfl 1 (f' := (661, [some (.retAddr 402), some (.ref 0), some (.ref 18), some (.ref 25), some (.int i), some (.int r2120.1), some (.int r2123.1)], [])) (h' := (HPf r2120.2.1 r2123.2 r2120.2.2.1, (cc + r2120.2.2.2), (ss + 6 * r2120.2.2.2))) rfl ?_
        exact hk r2120.2.1 r2123.2 r2120.2.2.1 (cc + r2120.2.2.2) (ss + 6 * r2120.2.2.2) (some r2120.1) (some r2123.1) _ h
      replace h := (if_neg hc2125).symm.trans h
      refine mv_E.go rfl (mi_if_neg hc2125) ?_
      refine mv_E.rT (t := mt_135 L xs) rfl 1 (f' := (417, [some (.retAddr 402), some (.ref 0), some (.ref 18), some (.ref 25), some (.int i), some (.int r2120.1), some (.int r2123.1)], [.int 0])) (h' := (HPf r2120.2.1 r2123.2 r2120.2.2.1, (cc + r2120.2.2.2), (ss + 6 * r2120.2.2.2))) rfl ?_
      cases h
      exact mv_E.done rfl mi_zret0
    replace h := (if_neg hc2127).symm.trans h
    refine mv_E.go rfl (mi_icmp_neg hc2127) ?_
    refine mv_E.rT (t := mt_135 L xs) rfl 1 (f' := (400, [some (.retAddr 402), some (.ref 0), some (.ref 18), some (.ref 25), some (.int i), some (.int r2120.1), some (.int r2123.1)], [.int 0])) (h' := (HPf r2120.2.1 r2123.2 r2120.2.2.1, (cc + r2120.2.2.2), (ss + 6 * r2120.2.2.2))) rfl ?_
    cases h
    exact mv_E.done rfl mi_zret0
  · refine mv_E.rT (t := mt_135 L xs) rfl 5 (f' := (371, [some (.retAddr 402), some (.ref 0), some (.ref 18), some (.ref 25), some (.int i), some (.int d5), d6.map .int], [.int (i + 1), .retAddr 402, .ref 0])) (h' := (HPf C M o, cc, ss)) rfl ?_
    by_cases hb2128 : mv_in (i + 1) L = true
    rotate_left
    · cases (if_neg hb2128).symm.trans h
    replace h := (if_pos hb2128).symm.trans h
    refine mv_E.go rfl (mi_tld_at rfl hb2128) ?_
    refine mv_E.rT (t := mt_135 L xs) rfl 1 (f' := (373, [some (.retAddr 402), some (.ref 0), some (.ref 18), some (.ref 25), some (.int i), some (.int d5), d6.map .int], [.ref 25, .int (xs (i + 1).toNatClampNeg), .ref 0])) (h' := (HPf C M o, cc, ss)) rfl ?_
    obtain ⟨r2129, hr2130, h⟩ := Option.bind_eq_some_iff.mp h
    refine mv_E.call (z := 110) (vs := [.ref 0, .int (xs (i + 1).toNatClampNeg), .ref 25]) (f' := (376, [some (.retAddr 402), some (.ref 0), some (.ref 18), some (.ref 25), some (.int i), some (.int d5), d6.map .int], [])) (h' := (HPf C M o, cc, ss)) rfl rfl rfl (t_110 L xs hr2130) (mv_okl rfl) ?_
    refine mv_E.rT (t := mt_135 L xs) rfl 6 (f' := (384, [some (.retAddr 402), some (.ref 0), some (.ref 18), some (.ref 25), some (.int i), some (.int r2129.1), d6.map .int], [.int (i + 1), .retAddr 402, .ref 18])) (h' := (HPf r2129.2.1 M r2129.2.2.1, (cc + r2129.2.2.2), (ss + 6 * r2129.2.2.2))) rfl ?_
    by_cases hb2131 : mv_in (i + 1) L = true
    rotate_left
    · cases (if_neg hb2131).symm.trans h
    replace h := (if_pos hb2131).symm.trans h
    refine mv_E.go rfl (mi_tld_at rfl hb2131) ?_
    show mv_E (mp L xs) 135 (385, [some (.retAddr 402), some (.ref 0), some (.ref 18), some (.ref 25), some (.int i), some (.int r2129.1), d6.map .int], [.int (xs (i + 1).toNatClampNeg), .ref 18]) (HPf r2129.2.1 M r2129.2.2.1, (cc + r2129.2.2.2), (ss + 6 * r2129.2.2.2)) _
    obtain ⟨r2132, hr2133, h⟩ := Option.bind_eq_some_iff.mp h
    refine mv_E.call (z := 111) (vs := [.ref 18, .int (xs (i + 1).toNatClampNeg)]) (f' := (388, [some (.retAddr 402), some (.ref 0), some (.ref 18), some (.ref 25), some (.int i), some (.int r2129.1), d6.map .int], [])) (h' := (HPf r2129.2.1 M r2129.2.2.1, (cc + r2129.2.2.2), (ss + 6 * r2129.2.2.2))) rfl rfl rfl (t_111 L xs hr2133) (mv_okl rfl) ?_
    refine mv_E.rT (t := mt_135 L xs) rfl 2 (f' := (391, [some (.retAddr 402), some (.ref 0), some (.ref 18), some (.ref 25), some (.int i), some (.int r2129.1), some (.int r2132.1)], [.ref 18])) (h' := (HPf r2129.2.1 r2132.2 r2129.2.2.1, (cc + r2129.2.2.2), (ss + 6 * r2129.2.2.2))) rfl ?_
    refine mv_E.call (z := 24) (vs := [.ref 18]) (f' := (394, [some (.retAddr 402), some (.ref 0), some (.ref 18), some (.ref 25), some (.int i), some (.int r2129.1), some (.int r2132.1)], [])) (h' := (HPf r2129.2.1 r2132.2 r2129.2.2.1, (cc + r2129.2.2.2), (ss + 6 * r2129.2.2.2))) rfl rfl rfl (t_24 L xs rfl) (mv_okl rfl) ?_
    refine mv_E.rT (t := mt_135 L xs) rfl 1 (f' := (396, [some (.retAddr 402), some (.ref 0), some (.ref 18), some (.ref 25), some (.int i), some (.int r2129.1), some (.int r2132.1)], [.int r2129.1, .int (f_24 r2132.2)])) (h' := (HPf r2129.2.1 r2132.2 r2129.2.2.1, (cc + r2129.2.2.2), (ss + 6 * r2129.2.2.2))) rfl ?_
    by_cases hc2136 : (f_24 r2132.2) = r2129.1
    · replace h := (if_pos hc2136).symm.trans h
      refine mv_E.go rfl (mi_icmp_pos hc2136) ?_
      refine mv_E.rT (t := mt_135 L xs) rfl 1 (f' := (403, [some (.retAddr 402), some (.ref 0), some (.ref 18), some (.ref 25), some (.int i), some (.int r2129.1), some (.int r2132.1)], [.int r2129.1])) (h' := (HPf r2129.2.1 r2132.2 r2129.2.2.1, (cc + r2129.2.2.2), (ss + 6 * r2129.2.2.2))) rfl ?_
      by_cases hc2135 : ¬ r2129.1 = 0
      · replace h := (if_pos hc2135).symm.trans h
        refine mv_E.go rfl (mi_if_pos hc2135) ?_
        refine mv_E.rT (t := mt_135 L xs) rfl 1 (f' := (661, [some (.retAddr 402), some (.ref 0), some (.ref 18), some (.ref 25), some (.int i), some (.int r2129.1), some (.int r2132.1)], [])) (h' := (HPf r2129.2.1 r2132.2 r2129.2.2.1, (cc + r2129.2.2.2), (ss + 6 * r2129.2.2.2))) rfl ?_
        exact hk r2129.2.1 r2132.2 r2129.2.2.1 (cc + r2129.2.2.2) (ss + 6 * r2129.2.2.2) (some r2129.1) (some r2132.1) _ h
      replace h := (if_neg hc2135).symm.trans h
      refine mv_E.go rfl (mi_if_neg hc2135) ?_
      refine mv_E.rT (t := mt_135 L xs) rfl 6 (f' := (413, [some (.retAddr 402), some (.ref 0), some (.ref 18), some (.ref 25), some (.int i), some (.int r2129.1), some (.int r2132.1)], [.int (lg_cmp (r2129.2.2.1 0) (Int32.toInt64 r2132.1))])) (h' := (HPf r2129.2.1 r2132.2 r2129.2.2.1, (cc + r2129.2.2.2), (ss + 6 * r2129.2.2.2))) rfl ?_
      by_cases hc2134 : (lg_cmp (r2129.2.2.1 0) (Int32.toInt64 r2132.1)) = 0
      · replace h := (if_pos hc2134).symm.trans h
        refine mv_E.go rfl (mi_if_pos hc2134) ?_
        refine mv_E.rT (t := mt_135 L xs) rfl 1 (f' := (661, [some (.retAddr 402), some (.ref 0), some (.ref 18), some (.ref 25), some (.int i), some (.int r2129.1), some (.int r2132.1)], [])) (h' := (HPf r2129.2.1 r2132.2 r2129.2.2.1, (cc + r2129.2.2.2), (ss + 6 * r2129.2.2.2))) rfl ?_
        exact hk r2129.2.1 r2132.2 r2129.2.2.1 (cc + r2129.2.2.2) (ss + 6 * r2129.2.2.2) (some r2129.1) (some r2132.1) _ h
      replace h := (if_neg hc2134).symm.trans h
      refine mv_E.go rfl (mi_if_neg hc2134) ?_
      refine mv_E.rT (t := mt_135 L xs) rfl 1 (f' := (417, [some (.retAddr 402), some (.ref 0), some (.ref 18), some (.ref 25), some (.int i), some (.int r2129.1), some (.int r2132.1)], [.int 0])) (h' := (HPf r2129.2.1 r2132.2 r2129.2.2.1, (cc + r2129.2.2.2), (ss + 6 * r2129.2.2.2))) rfl ?_
      cases h
      exact mv_E.done rfl mi_zret0
    replace h := (if_neg hc2136).symm.trans h
    refine mv_E.go rfl (mi_icmp_neg hc2136) ?_
    refine mv_E.rT (t := mt_135 L xs) rfl 1 (f' := (400, [some (.retAddr 402), some (.ref 0), some (.ref 18), some (.ref 25), some (.int i), some (.int r2129.1), some (.int r2132.1)], [.int 0])) (h' := (HPf r2129.2.1 r2132.2 r2129.2.2.1, (cc + r2129.2.2.2), (ss + 6 * r2129.2.2.2))) rfl ?_
    cases h
    exact mv_E.done rfl mi_zret0
def g_7 (L : Nat) (xs : Nat → Int32) (k : CS → CS → (Nat → Int64) → Nat → Nat → Option (Int32 × CS × CS × (Nat → Int64) × Nat × Nat)) (C M : CS) (o : Nat → Int64) (cc ss : Nat) (i : Int32) : Option (Int32 × CS × CS × (Nat → Int64) × Nat × Nat) := if mv_in (i + 1) L = true then (f_113 C o (xs (i + 1).toNatClampNeg)).bind fun r2147 => if mv_in (i + 1) L = true then (f_114 M (xs (i + 1).toNatClampNeg)).bind fun r2150 => (if (f_24 r2150.2) = r2147.1 then (if ¬ r2147.1 = 0 then k r2147.2.1 r2150.2 r2147.2.2.1 (cc + r2147.2.2.2) (ss + 6 * r2147.2.2.2) else (if (lg_cmp (r2147.2.2.1 0) (Int32.toInt64 r2150.1)) = 0 then k r2147.2.1 r2150.2 r2147.2.2.1 (cc + r2147.2.2.2) (ss + 6 * r2147.2.2.2) else some (0, r2147.2.1, r2150.2, r2147.2.2.1, (cc + r2147.2.2.2), (ss + 6 * r2147.2.2.2)))) else some (0, r2147.2.1, r2150.2, r2147.2.2.1, (cc + r2147.2.2.2), (ss + 6 * r2147.2.2.2))) else none else none
theorem tg_7 (L : Nat) (xs : Nat → Int32) (k : CS → CS → (Nat → Int64) → Nat → Nat → Option (Int32 × CS × CS × (Nat → Int64) × Nat × Nat)) (i : Int32) (hk : ∀ (C M : CS) (o : Nat → Int64) (cc ss : Nat) (d5 d6 : Option Int32) (ret : Int32 × CS × CS × (Nat → Int64) × Nat × Nat), k C M o cc ss = some ret → mv_E (mp L xs) 135 (661, [some (.retAddr 402), some (.ref 0), some (.ref 18), some (.ref 25), some (.int i), d5.map .int, d6.map .int], []) (HPf C M o, cc, ss) (cvL ret)) (C M : CS) (o : Nat → Int64) (cc ss : Nat) (d5 d6 : Option Int32) (ret : Int32 × CS × CS × (Nat → Int64) × Nat × Nat) (h : g_7 L xs k C M o cc ss i = some ret) : mv_E (mp L xs) 135 (421, [some (.retAddr 402), some (.ref 0), some (.ref 18), some (.ref 25), some (.int i), d5.map .int, d6.map .int], []) (HPf C M o, cc, ss) (cvL ret) := by
  unfold g_7 at h
  rcases d5 with _ | d5
  · refine mv_E.rT (t := mt_135 L xs) rfl 5 (f' := (427, [some (.retAddr 402), some (.ref 0), some (.ref 18), some (.ref 25), some (.int i), none, d6.map .int], [.int (i + 1), .retAddr 402, .ref 0])) (h' := (HPf C M o, cc, ss)) rfl ?_
    by_cases hb2137 : mv_in (i + 1) L = true
    rotate_left
    · cases (if_neg hb2137).symm.trans h
    replace h := (if_pos hb2137).symm.trans h
    refine mv_E.go rfl (mi_tld_at rfl hb2137) ?_
    refine mv_E.rT (t := mt_135 L xs) rfl 1 (f' := (429, [some (.retAddr 402), some (.ref 0), some (.ref 18), some (.ref 25), some (.int i), none, d6.map .int], [.ref 25, .int (xs (i + 1).toNatClampNeg), .ref 0])) (h' := (HPf C M o, cc, ss)) rfl ?_
    obtain ⟨r2138, hr2139, h⟩ := Option.bind_eq_some_iff.mp h
    refine mv_E.call (z := 113) (vs := [.ref 0, .int (xs (i + 1).toNatClampNeg), .ref 25]) (f' := (432, [some (.retAddr 402), some (.ref 0), some (.ref 18), some (.ref 25), some (.int i), none, d6.map .int], [])) (h' := (HPf C M o, cc, ss)) rfl rfl rfl (t_113 L xs hr2139) (mv_okl rfl) ?_
    refine mv_E.rT (t := mt_135 L xs) rfl 6 (f' := (440, [some (.retAddr 402), some (.ref 0), some (.ref 18), some (.ref 25), some (.int i), some (.int r2138.1), d6.map .int], [.int (i + 1), .retAddr 402, .ref 18])) (h' := (HPf r2138.2.1 M r2138.2.2.1, (cc + r2138.2.2.2), (ss + 6 * r2138.2.2.2))) rfl ?_
    by_cases hb2140 : mv_in (i + 1) L = true
    rotate_left
    · cases (if_neg hb2140).symm.trans h
    replace h := (if_pos hb2140).symm.trans h
    refine mv_E.go rfl (mi_tld_at rfl hb2140) ?_
    show mv_E (mp L xs) 135 (441, [some (.retAddr 402), some (.ref 0), some (.ref 18), some (.ref 25), some (.int i), some (.int r2138.1), d6.map .int], [.int (xs (i + 1).toNatClampNeg), .ref 18]) (HPf r2138.2.1 M r2138.2.2.1, (cc + r2138.2.2.2), (ss + 6 * r2138.2.2.2)) _
    obtain ⟨r2141, hr2142, h⟩ := Option.bind_eq_some_iff.mp h
    refine mv_E.call (z := 114) (vs := [.ref 18, .int (xs (i + 1).toNatClampNeg)]) (f' := (444, [some (.retAddr 402), some (.ref 0), some (.ref 18), some (.ref 25), some (.int i), some (.int r2138.1), d6.map .int], [])) (h' := (HPf r2138.2.1 M r2138.2.2.1, (cc + r2138.2.2.2), (ss + 6 * r2138.2.2.2))) rfl rfl rfl (t_114 L xs hr2142) (mv_okl rfl) ?_
    refine mv_E.rT (t := mt_135 L xs) rfl 2 (f' := (447, [some (.retAddr 402), some (.ref 0), some (.ref 18), some (.ref 25), some (.int i), some (.int r2138.1), some (.int r2141.1)], [.ref 18])) (h' := (HPf r2138.2.1 r2141.2 r2138.2.2.1, (cc + r2138.2.2.2), (ss + 6 * r2138.2.2.2))) rfl ?_
    refine mv_E.call (z := 24) (vs := [.ref 18]) (f' := (450, [some (.retAddr 402), some (.ref 0), some (.ref 18), some (.ref 25), some (.int i), some (.int r2138.1), some (.int r2141.1)], [])) (h' := (HPf r2138.2.1 r2141.2 r2138.2.2.1, (cc + r2138.2.2.2), (ss + 6 * r2138.2.2.2))) rfl rfl rfl (t_24 L xs rfl) (mv_okl rfl) ?_
    refine mv_E.rT (t := mt_135 L xs) rfl 1 (f' := (452, [some (.retAddr 402), some (.ref 0), some (.ref 18), some (.ref 25), some (.int i), some (.int r2138.1), some (.int r2141.1)], [.int r2138.1, .int (f_24 r2141.2)])) (h' := (HPf r2138.2.1 r2141.2 r2138.2.2.1, (cc + r2138.2.2.2), (ss + 6 * r2138.2.2.2))) rfl ?_
    by_cases hc2145 : (f_24 r2141.2) = r2138.1
    · replace h := (if_pos hc2145).symm.trans h
      refine mv_E.go rfl (mi_icmp_pos hc2145) ?_
      refine mv_E.rT (t := mt_135 L xs) rfl 1 (f' := (459, [some (.retAddr 402), some (.ref 0), some (.ref 18), some (.ref 25), some (.int i), some (.int r2138.1), some (.int r2141.1)], [.int r2138.1])) (h' := (HPf r2138.2.1 r2141.2 r2138.2.2.1, (cc + r2138.2.2.2), (ss + 6 * r2138.2.2.2))) rfl ?_
      by_cases hc2144 : ¬ r2138.1 = 0
      · replace h := (if_pos hc2144).symm.trans h
        refine mv_E.go rfl (mi_if_pos hc2144) ?_
        refine mv_E.rT (t := mt_135 L xs) rfl 1 (f' := (661, [some (.retAddr 402), some (.ref 0), some (.ref 18), some (.ref 25), some (.int i), some (.int r2138.1), some (.int r2141.1)], [])) (h' := (HPf r2138.2.1 r2141.2 r2138.2.2.1, (cc + r2138.2.2.2), (ss + 6 * r2138.2.2.2))) rfl ?_
        exact hk r2138.2.1 r2141.2 r2138.2.2.1 (cc + r2138.2.2.2) (ss + 6 * r2138.2.2.2) (some r2138.1) (some r2141.1) _ h
      replace h := (if_neg hc2144).symm.trans h
      refine mv_E.go rfl (mi_if_neg hc2144) ?_
      refine mv_E.rT (t := mt_135 L xs) rfl 6 (f' := (469, [some (.retAddr 402), some (.ref 0), some (.ref 18), some (.ref 25), some (.int i), some (.int r2138.1), some (.int r2141.1)], [.int (lg_cmp (r2138.2.2.1 0) (Int32.toInt64 r2141.1))])) (h' := (HPf r2138.2.1 r2141.2 r2138.2.2.1, (cc + r2138.2.2.2), (ss + 6 * r2138.2.2.2))) rfl ?_
      by_cases hc2143 : (lg_cmp (r2138.2.2.1 0) (Int32.toInt64 r2141.1)) = 0
      · replace h := (if_pos hc2143).symm.trans h
        refine mv_E.go rfl (mi_if_pos hc2143) ?_
        refine mv_E.rT (t := mt_135 L xs) rfl 1 (f' := (661, [some (.retAddr 402), some (.ref 0), some (.ref 18), some (.ref 25), some (.int i), some (.int r2138.1), some (.int r2141.1)], [])) (h' := (HPf r2138.2.1 r2141.2 r2138.2.2.1, (cc + r2138.2.2.2), (ss + 6 * r2138.2.2.2))) rfl ?_
        exact hk r2138.2.1 r2141.2 r2138.2.2.1 (cc + r2138.2.2.2) (ss + 6 * r2138.2.2.2) (some r2138.1) (some r2141.1) _ h
      replace h := (if_neg hc2143).symm.trans h
      refine mv_E.go rfl (mi_if_neg hc2143) ?_
      refine mv_E.rT (t := mt_135 L xs) rfl 1 (f' := (473, [some (.retAddr 402), some (.ref 0), some (.ref 18), some (.ref 25), some (.int i), some (.int r2138.1), some (.int r2141.1)], [.int 0])) (h' := (HPf r2138.2.1 r2141.2 r2138.2.2.1, (cc + r2138.2.2.2), (ss + 6 * r2138.2.2.2))) rfl ?_
      cases h
      exact mv_E.done rfl mi_zret0
    replace h := (if_neg hc2145).symm.trans h
    refine mv_E.go rfl (mi_icmp_neg hc2145) ?_
    refine mv_E.rT (t := mt_135 L xs) rfl 1 (f' := (456, [some (.retAddr 402), some (.ref 0), some (.ref 18), some (.ref 25), some (.int i), some (.int r2138.1), some (.int r2141.1)], [.int 0])) (h' := (HPf r2138.2.1 r2141.2 r2138.2.2.1, (cc + r2138.2.2.2), (ss + 6 * r2138.2.2.2))) rfl ?_
    cases h
    exact mv_E.done rfl mi_zret0
  · refine mv_E.rT (t := mt_135 L xs) rfl 5 (f' := (427, [some (.retAddr 402), some (.ref 0), some (.ref 18), some (.ref 25), some (.int i), some (.int d5), d6.map .int], [.int (i + 1), .retAddr 402, .ref 0])) (h' := (HPf C M o, cc, ss)) rfl ?_
    by_cases hb2146 : mv_in (i + 1) L = true
    rotate_left
    · cases (if_neg hb2146).symm.trans h
    replace h := (if_pos hb2146).symm.trans h
    refine mv_E.go rfl (mi_tld_at rfl hb2146) ?_
    refine mv_E.rT (t := mt_135 L xs) rfl 1 (f' := (429, [some (.retAddr 402), some (.ref 0), some (.ref 18), some (.ref 25), some (.int i), some (.int d5), d6.map .int], [.ref 25, .int (xs (i + 1).toNatClampNeg), .ref 0])) (h' := (HPf C M o, cc, ss)) rfl ?_
    obtain ⟨r2147, hr2148, h⟩ := Option.bind_eq_some_iff.mp h
    refine mv_E.call (z := 113) (vs := [.ref 0, .int (xs (i + 1).toNatClampNeg), .ref 25]) (f' := (432, [some (.retAddr 402), some (.ref 0), some (.ref 18), some (.ref 25), some (.int i), some (.int d5), d6.map .int], [])) (h' := (HPf C M o, cc, ss)) rfl rfl rfl (t_113 L xs hr2148) (mv_okl rfl) ?_
    refine mv_E.rT (t := mt_135 L xs) rfl 6 (f' := (440, [some (.retAddr 402), some (.ref 0), some (.ref 18), some (.ref 25), some (.int i), some (.int r2147.1), d6.map .int], [.int (i + 1), .retAddr 402, .ref 18])) (h' := (HPf r2147.2.1 M r2147.2.2.1, (cc + r2147.2.2.2), (ss + 6 * r2147.2.2.2))) rfl ?_
    by_cases hb2149 : mv_in (i + 1) L = true
    rotate_left
    · cases (if_neg hb2149).symm.trans h
    replace h := (if_pos hb2149).symm.trans h
    refine mv_E.go rfl (mi_tld_at rfl hb2149) ?_
    show mv_E (mp L xs) 135 (441, [some (.retAddr 402), some (.ref 0), some (.ref 18), some (.ref 25), some (.int i), some (.int r2147.1), d6.map .int], [.int (xs (i + 1).toNatClampNeg), .ref 18]) (HPf r2147.2.1 M r2147.2.2.1, (cc + r2147.2.2.2), (ss + 6 * r2147.2.2.2)) _
    obtain ⟨r2150, hr2151, h⟩ := Option.bind_eq_some_iff.mp h
    refine mv_E.call (z := 114) (vs := [.ref 18, .int (xs (i + 1).toNatClampNeg)]) (f' := (444, [some (.retAddr 402), some (.ref 0), some (.ref 18), some (.ref 25), some (.int i), some (.int r2147.1), d6.map .int], [])) (h' := (HPf r2147.2.1 M r2147.2.2.1, (cc + r2147.2.2.2), (ss + 6 * r2147.2.2.2))) rfl rfl rfl (t_114 L xs hr2151) (mv_okl rfl) ?_
    refine mv_E.rT (t := mt_135 L xs) rfl 2 (f' := (447, [some (.retAddr 402), some (.ref 0), some (.ref 18), some (.ref 25), some (.int i), some (.int r2147.1), some (.int r2150.1)], [.ref 18])) (h' := (HPf r2147.2.1 r2150.2 r2147.2.2.1, (cc + r2147.2.2.2), (ss + 6 * r2147.2.2.2))) rfl ?_
    refine mv_E.call (z := 24) (vs := [.ref 18]) (f' := (450, [some (.retAddr 402), some (.ref 0), some (.ref 18), some (.ref 25), some (.int i), some (.int r2147.1), some (.int r2150.1)], [])) (h' := (HPf r2147.2.1 r2150.2 r2147.2.2.1, (cc + r2147.2.2.2), (ss + 6 * r2147.2.2.2))) rfl rfl rfl (t_24 L xs rfl) (mv_okl rfl) ?_
    refine mv_E.rT (t := mt_135 L xs) rfl 1 (f' := (452, [some (.retAddr 402), some (.ref 0), some (.ref 18), some (.ref 25), some (.int i), some (.int r2147.1), some (.int r2150.1)], [.int r2147.1, .int (f_24 r2150.2)])) (h' := (HPf r2147.2.1 r2150.2 r2147.2.2.1, (cc + r2147.2.2.2), (ss + 6 * r2147.2.2.2))) rfl ?_
    by_cases hc2154 : (f_24 r2150.2) = r2147.1
    · replace h := (if_pos hc2154).symm.trans h
      refine mv_E.go rfl (mi_icmp_pos hc2154) ?_
      refine mv_E.rT (t := mt_135 L xs) rfl 1 (f' := (459, [some (.retAddr 402), some (.ref 0), some (.ref 18), some (.ref 25), some (.int i), some (.int r2147.1), some (.int r2150.1)], [.int r2147.1])) (h' := (HPf r2147.2.1 r2150.2 r2147.2.2.1, (cc + r2147.2.2.2), (ss + 6 * r2147.2.2.2))) rfl ?_
      by_cases hc2153 : ¬ r2147.1 = 0
      · replace h := (if_pos hc2153).symm.trans h
        refine mv_E.go rfl (mi_if_pos hc2153) ?_
        refine mv_E.rT (t := mt_135 L xs) rfl 1 (f' := (661, [some (.retAddr 402), some (.ref 0), some (.ref 18), some (.ref 25), some (.int i), some (.int r2147.1), some (.int r2150.1)], [])) (h' := (HPf r2147.2.1 r2150.2 r2147.2.2.1, (cc + r2147.2.2.2), (ss + 6 * r2147.2.2.2))) rfl ?_
        exact hk r2147.2.1 r2150.2 r2147.2.2.1 (cc + r2147.2.2.2) (ss + 6 * r2147.2.2.2) (some r2147.1) (some r2150.1) _ h
      replace h := (if_neg hc2153).symm.trans h
      refine mv_E.go rfl (mi_if_neg hc2153) ?_
      refine mv_E.rT (t := mt_135 L xs) rfl 6 (f' := (469, [some (.retAddr 402), some (.ref 0), some (.ref 18), some (.ref 25), some (.int i), some (.int r2147.1), some (.int r2150.1)], [.int (lg_cmp (r2147.2.2.1 0) (Int32.toInt64 r2150.1))])) (h' := (HPf r2147.2.1 r2150.2 r2147.2.2.1, (cc + r2147.2.2.2), (ss + 6 * r2147.2.2.2))) rfl ?_
      by_cases hc2152 : (lg_cmp (r2147.2.2.1 0) (Int32.toInt64 r2150.1)) = 0
      · replace h := (if_pos hc2152).symm.trans h
        refine mv_E.go rfl (mi_if_pos hc2152) ?_
        refine mv_E.rT (t := mt_135 L xs) rfl 1 (f' := (661, [some (.retAddr 402), some (.ref 0), some (.ref 18), some (.ref 25), some (.int i), some (.int r2147.1), some (.int r2150.1)], [])) (h' := (HPf r2147.2.1 r2150.2 r2147.2.2.1, (cc + r2147.2.2.2), (ss + 6 * r2147.2.2.2))) rfl ?_
        exact hk r2147.2.1 r2150.2 r2147.2.2.1 (cc + r2147.2.2.2) (ss + 6 * r2147.2.2.2) (some r2147.1) (some r2150.1) _ h
      replace h := (if_neg hc2152).symm.trans h
      refine mv_E.go rfl (mi_if_neg hc2152) ?_
      refine mv_E.rT (t := mt_135 L xs) rfl 1 (f' := (473, [some (.retAddr 402), some (.ref 0), some (.ref 18), some (.ref 25), some (.int i), some (.int r2147.1), some (.int r2150.1)], [.int 0])) (h' := (HPf r2147.2.1 r2150.2 r2147.2.2.1, (cc + r2147.2.2.2), (ss + 6 * r2147.2.2.2))) rfl ?_
      cases h
      exact mv_E.done rfl mi_zret0
    replace h := (if_neg hc2154).symm.trans h
    refine mv_E.go rfl (mi_icmp_neg hc2154) ?_
    refine mv_E.rT (t := mt_135 L xs) rfl 1 (f' := (456, [some (.retAddr 402), some (.ref 0), some (.ref 18), some (.ref 25), some (.int i), some (.int r2147.1), some (.int r2150.1)], [.int 0])) (h' := (HPf r2147.2.1 r2150.2 r2147.2.2.1, (cc + r2147.2.2.2), (ss + 6 * r2147.2.2.2))) rfl ?_
    cases h
    exact mv_E.done rfl mi_zret0
def g_8 (L : Nat) (xs : Nat → Int32) (k : CS → CS → (Nat → Int64) → Nat → Nat → Option (Int32 × CS × CS × (Nat → Int64) × Nat × Nat)) (C M : CS) (o : Nat → Int64) (cc ss : Nat) (i : Int32) : Option (Int32 × CS × CS × (Nat → Int64) × Nat × Nat) := (f_124 C o).bind fun r2162 => (f_126 M).bind fun r2164 => (if (f_24 r2164.2) = r2162.1 then (if ¬ r2162.1 = 0 then k r2162.2.1 r2164.2 r2162.2.2.1 (cc + r2162.2.2.2) (ss + 6 * r2162.2.2.2) else (if (lg_cmp (r2162.2.2.1 0) (Int32.toInt64 r2164.1)) = 0 then k r2162.2.1 r2164.2 r2162.2.2.1 (cc + r2162.2.2.2) (ss + 6 * r2162.2.2.2) else some (0, r2162.2.1, r2164.2, r2162.2.2.1, (cc + r2162.2.2.2), (ss + 6 * r2162.2.2.2)))) else some (0, r2162.2.1, r2164.2, r2162.2.2.1, (cc + r2162.2.2.2), (ss + 6 * r2162.2.2.2)))
theorem tg_8 (L : Nat) (xs : Nat → Int32) (k : CS → CS → (Nat → Int64) → Nat → Nat → Option (Int32 × CS × CS × (Nat → Int64) × Nat × Nat)) (i : Int32) (hk : ∀ (C M : CS) (o : Nat → Int64) (cc ss : Nat) (d5 d6 : Option Int32) (ret : Int32 × CS × CS × (Nat → Int64) × Nat × Nat), k C M o cc ss = some ret → mv_E (mp L xs) 135 (661, [some (.retAddr 402), some (.ref 0), some (.ref 18), some (.ref 25), some (.int i), d5.map .int, d6.map .int], []) (HPf C M o, cc, ss) (cvL ret)) (C M : CS) (o : Nat → Int64) (cc ss : Nat) (d5 d6 : Option Int32) (ret : Int32 × CS × CS × (Nat → Int64) × Nat × Nat) (h : g_8 L xs k C M o cc ss i = some ret) : mv_E (mp L xs) 135 (477, [some (.retAddr 402), some (.ref 0), some (.ref 18), some (.ref 25), some (.int i), d5.map .int, d6.map .int], []) (HPf C M o, cc, ss) (cvL ret) := by
  unfold g_8 at h
  rcases d5 with _ | d5
  · refine mv_E.rT (t := mt_135 L xs) rfl 2 (f' := (479, [some (.retAddr 402), some (.ref 0), some (.ref 18), some (.ref 25), some (.int i), none, d6.map .int], [.ref 25, .ref 0])) (h' := (HPf C M o, cc, ss)) rfl ?_
    obtain ⟨r2155, hr2156, h⟩ := Option.bind_eq_some_iff.mp h
    refine mv_E.call (z := 124) (vs := [.ref 0, .ref 25]) (f' := (482, [some (.retAddr 402), some (.ref 0), some (.ref 18), some (.ref 25), some (.int i), none, d6.map .int], [])) (h' := (HPf C M o, cc, ss)) rfl rfl rfl (t_124 L xs hr2156) (mv_okl rfl) ?_
    refine mv_E.rT (t := mt_135 L xs) rfl 2 (f' := (485, [some (.retAddr 402), some (.ref 0), some (.ref 18), some (.ref 25), some (.int i), some (.int r2155.1), d6.map .int], [.ref 18])) (h' := (HPf r2155.2.1 M r2155.2.2.1, (cc + r2155.2.2.2), (ss + 6 * r2155.2.2.2))) rfl ?_
    obtain ⟨r2157, hr2158, h⟩ := Option.bind_eq_some_iff.mp h
    refine mv_E.call (z := 126) (vs := [.ref 18]) (f' := (488, [some (.retAddr 402), some (.ref 0), some (.ref 18), some (.ref 25), some (.int i), some (.int r2155.1), d6.map .int], [])) (h' := (HPf r2155.2.1 M r2155.2.2.1, (cc + r2155.2.2.2), (ss + 6 * r2155.2.2.2))) rfl rfl rfl (t_126 L xs hr2158) (mv_okl rfl) ?_
    refine mv_E.rT (t := mt_135 L xs) rfl 2 (f' := (491, [some (.retAddr 402), some (.ref 0), some (.ref 18), some (.ref 25), some (.int i), some (.int r2155.1), some (.int r2157.1)], [.ref 18])) (h' := (HPf r2155.2.1 r2157.2 r2155.2.2.1, (cc + r2155.2.2.2), (ss + 6 * r2155.2.2.2))) rfl ?_
    refine mv_E.call (z := 24) (vs := [.ref 18]) (f' := (494, [some (.retAddr 402), some (.ref 0), some (.ref 18), some (.ref 25), some (.int i), some (.int r2155.1), some (.int r2157.1)], [])) (h' := (HPf r2155.2.1 r2157.2 r2155.2.2.1, (cc + r2155.2.2.2), (ss + 6 * r2155.2.2.2))) rfl rfl rfl (t_24 L xs rfl) (mv_okl rfl) ?_
    refine mv_E.rT (t := mt_135 L xs) rfl 1 (f' := (496, [some (.retAddr 402), some (.ref 0), some (.ref 18), some (.ref 25), some (.int i), some (.int r2155.1), some (.int r2157.1)], [.int r2155.1, .int (f_24 r2157.2)])) (h' := (HPf r2155.2.1 r2157.2 r2155.2.2.1, (cc + r2155.2.2.2), (ss + 6 * r2155.2.2.2))) rfl ?_
    by_cases hc2161 : (f_24 r2157.2) = r2155.1
    · replace h := (if_pos hc2161).symm.trans h
      refine mv_E.go rfl (mi_icmp_pos hc2161) ?_
      refine mv_E.rT (t := mt_135 L xs) rfl 1 (f' := (503, [some (.retAddr 402), some (.ref 0), some (.ref 18), some (.ref 25), some (.int i), some (.int r2155.1), some (.int r2157.1)], [.int r2155.1])) (h' := (HPf r2155.2.1 r2157.2 r2155.2.2.1, (cc + r2155.2.2.2), (ss + 6 * r2155.2.2.2))) rfl ?_
      by_cases hc2160 : ¬ r2155.1 = 0
      · replace h := (if_pos hc2160).symm.trans h
        refine mv_E.go rfl (mi_if_pos hc2160) ?_
        refine mv_E.rT (t := mt_135 L xs) rfl 1 (f' := (661, [some (.retAddr 402), some (.ref 0), some (.ref 18), some (.ref 25), some (.int i), some (.int r2155.1), some (.int r2157.1)], [])) (h' := (HPf r2155.2.1 r2157.2 r2155.2.2.1, (cc + r2155.2.2.2), (ss + 6 * r2155.2.2.2))) rfl ?_
        exact hk r2155.2.1 r2157.2 r2155.2.2.1 (cc + r2155.2.2.2) (ss + 6 * r2155.2.2.2) (some r2155.1) (some r2157.1) _ h
      replace h := (if_neg hc2160).symm.trans h
      refine mv_E.go rfl (mi_if_neg hc2160) ?_
      refine mv_E.rT (t := mt_135 L xs) rfl 6 (f' := (513, [some (.retAddr 402), some (.ref 0), some (.ref 18), some (.ref 25), some (.int i), some (.int r2155.1), some (.int r2157.1)], [.int (lg_cmp (r2155.2.2.1 0) (Int32.toInt64 r2157.1))])) (h' := (HPf r2155.2.1 r2157.2 r2155.2.2.1, (cc + r2155.2.2.2), (ss + 6 * r2155.2.2.2))) rfl ?_
      by_cases hc2159 : (lg_cmp (r2155.2.2.1 0) (Int32.toInt64 r2157.1)) = 0
      · replace h := (if_pos hc2159).symm.trans h
        refine mv_E.go rfl (mi_if_pos hc2159) ?_
        refine mv_E.rT (t := mt_135 L xs) rfl 1 (f' := (661, [some (.retAddr 402), some (.ref 0), some (.ref 18), some (.ref 25), some (.int i), some (.int r2155.1), some (.int r2157.1)], [])) (h' := (HPf r2155.2.1 r2157.2 r2155.2.2.1, (cc + r2155.2.2.2), (ss + 6 * r2155.2.2.2))) rfl ?_
        exact hk r2155.2.1 r2157.2 r2155.2.2.1 (cc + r2155.2.2.2) (ss + 6 * r2155.2.2.2) (some r2155.1) (some r2157.1) _ h
      replace h := (if_neg hc2159).symm.trans h
      refine mv_E.go rfl (mi_if_neg hc2159) ?_
      refine mv_E.rT (t := mt_135 L xs) rfl 1 (f' := (517, [some (.retAddr 402), some (.ref 0), some (.ref 18), some (.ref 25), some (.int i), some (.int r2155.1), some (.int r2157.1)], [.int 0])) (h' := (HPf r2155.2.1 r2157.2 r2155.2.2.1, (cc + r2155.2.2.2), (ss + 6 * r2155.2.2.2))) rfl ?_
      cases h
      exact mv_E.done rfl mi_zret0
    replace h := (if_neg hc2161).symm.trans h
    refine mv_E.go rfl (mi_icmp_neg hc2161) ?_
    refine mv_E.rT (t := mt_135 L xs) rfl 1 (f' := (500, [some (.retAddr 402), some (.ref 0), some (.ref 18), some (.ref 25), some (.int i), some (.int r2155.1), some (.int r2157.1)], [.int 0])) (h' := (HPf r2155.2.1 r2157.2 r2155.2.2.1, (cc + r2155.2.2.2), (ss + 6 * r2155.2.2.2))) rfl ?_
    cases h
    exact mv_E.done rfl mi_zret0
  · refine mv_E.rT (t := mt_135 L xs) rfl 2 (f' := (479, [some (.retAddr 402), some (.ref 0), some (.ref 18), some (.ref 25), some (.int i), some (.int d5), d6.map .int], [.ref 25, .ref 0])) (h' := (HPf C M o, cc, ss)) rfl ?_
    obtain ⟨r2162, hr2163, h⟩ := Option.bind_eq_some_iff.mp h
    refine mv_E.call (z := 124) (vs := [.ref 0, .ref 25]) (f' := (482, [some (.retAddr 402), some (.ref 0), some (.ref 18), some (.ref 25), some (.int i), some (.int d5), d6.map .int], [])) (h' := (HPf C M o, cc, ss)) rfl rfl rfl (t_124 L xs hr2163) (mv_okl rfl) ?_
    refine mv_E.rT (t := mt_135 L xs) rfl 2 (f' := (485, [some (.retAddr 402), some (.ref 0), some (.ref 18), some (.ref 25), some (.int i), some (.int r2162.1), d6.map .int], [.ref 18])) (h' := (HPf r2162.2.1 M r2162.2.2.1, (cc + r2162.2.2.2), (ss + 6 * r2162.2.2.2))) rfl ?_
    obtain ⟨r2164, hr2165, h⟩ := Option.bind_eq_some_iff.mp h
    refine mv_E.call (z := 126) (vs := [.ref 18]) (f' := (488, [some (.retAddr 402), some (.ref 0), some (.ref 18), some (.ref 25), some (.int i), some (.int r2162.1), d6.map .int], [])) (h' := (HPf r2162.2.1 M r2162.2.2.1, (cc + r2162.2.2.2), (ss + 6 * r2162.2.2.2))) rfl rfl rfl (t_126 L xs hr2165) (mv_okl rfl) ?_
    refine mv_E.rT (t := mt_135 L xs) rfl 2 (f' := (491, [some (.retAddr 402), some (.ref 0), some (.ref 18), some (.ref 25), some (.int i), some (.int r2162.1), some (.int r2164.1)], [.ref 18])) (h' := (HPf r2162.2.1 r2164.2 r2162.2.2.1, (cc + r2162.2.2.2), (ss + 6 * r2162.2.2.2))) rfl ?_
    refine mv_E.call (z := 24) (vs := [.ref 18]) (f' := (494, [some (.retAddr 402), some (.ref 0), some (.ref 18), some (.ref 25), some (.int i), some (.int r2162.1), some (.int r2164.1)], [])) (h' := (HPf r2162.2.1 r2164.2 r2162.2.2.1, (cc + r2162.2.2.2), (ss + 6 * r2162.2.2.2))) rfl rfl rfl (t_24 L xs rfl) (mv_okl rfl) ?_
    refine mv_E.rT (t := mt_135 L xs) rfl 1 (f' := (496, [some (.retAddr 402), some (.ref 0), some (.ref 18), some (.ref 25), some (.int i), some (.int r2162.1), some (.int r2164.1)], [.int r2162.1, .int (f_24 r2164.2)])) (h' := (HPf r2162.2.1 r2164.2 r2162.2.2.1, (cc + r2162.2.2.2), (ss + 6 * r2162.2.2.2))) rfl ?_
    by_cases hc2168 : (f_24 r2164.2) = r2162.1
    · replace h := (if_pos hc2168).symm.trans h
      refine mv_E.go rfl (mi_icmp_pos hc2168) ?_
      refine mv_E.rT (t := mt_135 L xs) rfl 1 (f' := (503, [some (.retAddr 402), some (.ref 0), some (.ref 18), some (.ref 25), some (.int i), some (.int r2162.1), some (.int r2164.1)], [.int r2162.1])) (h' := (HPf r2162.2.1 r2164.2 r2162.2.2.1, (cc + r2162.2.2.2), (ss + 6 * r2162.2.2.2))) rfl ?_
      by_cases hc2167 : ¬ r2162.1 = 0
      · replace h := (if_pos hc2167).symm.trans h
        refine mv_E.go rfl (mi_if_pos hc2167) ?_
        refine mv_E.rT (t := mt_135 L xs) rfl 1 (f' := (661, [some (.retAddr 402), some (.ref 0), some (.ref 18), some (.ref 25), some (.int i), some (.int r2162.1), some (.int r2164.1)], [])) (h' := (HPf r2162.2.1 r2164.2 r2162.2.2.1, (cc + r2162.2.2.2), (ss + 6 * r2162.2.2.2))) rfl ?_
        exact hk r2162.2.1 r2164.2 r2162.2.2.1 (cc + r2162.2.2.2) (ss + 6 * r2162.2.2.2) (some r2162.1) (some r2164.1) _ h
      replace h := (if_neg hc2167).symm.trans h
      refine mv_E.go rfl (mi_if_neg hc2167) ?_
      refine mv_E.rT (t := mt_135 L xs) rfl 6 (f' := (513, [some (.retAddr 402), some (.ref 0), some (.ref 18), some (.ref 25), some (.int i), some (.int r2162.1), some (.int r2164.1)], [.int (lg_cmp (r2162.2.2.1 0) (Int32.toInt64 r2164.1))])) (h' := (HPf r2162.2.1 r2164.2 r2162.2.2.1, (cc + r2162.2.2.2), (ss + 6 * r2162.2.2.2))) rfl ?_
      by_cases hc2166 : (lg_cmp (r2162.2.2.1 0) (Int32.toInt64 r2164.1)) = 0
      · replace h := (if_pos hc2166).symm.trans h
        refine mv_E.go rfl (mi_if_pos hc2166) ?_
        refine mv_E.rT (t := mt_135 L xs) rfl 1 (f' := (661, [some (.retAddr 402), some (.ref 0), some (.ref 18), some (.ref 25), some (.int i), some (.int r2162.1), some (.int r2164.1)], [])) (h' := (HPf r2162.2.1 r2164.2 r2162.2.2.1, (cc + r2162.2.2.2), (ss + 6 * r2162.2.2.2))) rfl ?_
        exact hk r2162.2.1 r2164.2 r2162.2.2.1 (cc + r2162.2.2.2) (ss + 6 * r2162.2.2.2) (some r2162.1) (some r2164.1) _ h
      replace h := (if_neg hc2166).symm.trans h
      refine mv_E.go rfl (mi_if_neg hc2166) ?_
      refine mv_E.rT (t := mt_135 L xs) rfl 1 (f' := (517, [some (.retAddr 402), some (.ref 0), some (.ref 18), some (.ref 25), some (.int i), some (.int r2162.1), some (.int r2164.1)], [.int 0])) (h' := (HPf r2162.2.1 r2164.2 r2162.2.2.1, (cc + r2162.2.2.2), (ss + 6 * r2162.2.2.2))) rfl ?_
      cases h
      exact mv_E.done rfl mi_zret0
    replace h := (if_neg hc2168).symm.trans h
    refine mv_E.go rfl (mi_icmp_neg hc2168) ?_
    refine mv_E.rT (t := mt_135 L xs) rfl 1 (f' := (500, [some (.retAddr 402), some (.ref 0), some (.ref 18), some (.ref 25), some (.int i), some (.int r2162.1), some (.int r2164.1)], [.int 0])) (h' := (HPf r2162.2.1 r2164.2 r2162.2.2.1, (cc + r2162.2.2.2), (ss + 6 * r2162.2.2.2))) rfl ?_
    cases h
    exact mv_E.done rfl mi_zret0
def g_9 (L : Nat) (xs : Nat → Int32) (k : CS → CS → (Nat → Int64) → Nat → Nat → Option (Int32 × CS × CS × (Nat → Int64) × Nat × Nat)) (C M : CS) (o : Nat → Int64) (cc ss : Nat) (i : Int32) : Option (Int32 × CS × CS × (Nat → Int64) × Nat × Nat) := (f_129 C o).bind fun r2176 => (f_130 M).bind fun r2178 => (if (f_24 r2178.2) = r2176.1 then (if ¬ r2176.1 = 0 then k r2176.2.1 r2178.2 r2176.2.2.1 (cc + r2176.2.2.2) (ss + 6 * r2176.2.2.2) else (if (lg_cmp (r2176.2.2.1 0) (Int32.toInt64 r2178.1)) = 0 then k r2176.2.1 r2178.2 r2176.2.2.1 (cc + r2176.2.2.2) (ss + 6 * r2176.2.2.2) else some (0, r2176.2.1, r2178.2, r2176.2.2.1, (cc + r2176.2.2.2), (ss + 6 * r2176.2.2.2)))) else some (0, r2176.2.1, r2178.2, r2176.2.2.1, (cc + r2176.2.2.2), (ss + 6 * r2176.2.2.2)))
theorem tg_9 (L : Nat) (xs : Nat → Int32) (k : CS → CS → (Nat → Int64) → Nat → Nat → Option (Int32 × CS × CS × (Nat → Int64) × Nat × Nat)) (i : Int32) (hk : ∀ (C M : CS) (o : Nat → Int64) (cc ss : Nat) (d5 d6 : Option Int32) (ret : Int32 × CS × CS × (Nat → Int64) × Nat × Nat), k C M o cc ss = some ret → mv_E (mp L xs) 135 (661, [some (.retAddr 402), some (.ref 0), some (.ref 18), some (.ref 25), some (.int i), d5.map .int, d6.map .int], []) (HPf C M o, cc, ss) (cvL ret)) (C M : CS) (o : Nat → Int64) (cc ss : Nat) (d5 d6 : Option Int32) (ret : Int32 × CS × CS × (Nat → Int64) × Nat × Nat) (h : g_9 L xs k C M o cc ss i = some ret) : mv_E (mp L xs) 135 (521, [some (.retAddr 402), some (.ref 0), some (.ref 18), some (.ref 25), some (.int i), d5.map .int, d6.map .int], []) (HPf C M o, cc, ss) (cvL ret) := by
  unfold g_9 at h
  rcases d5 with _ | d5
  · refine mv_E.rT (t := mt_135 L xs) rfl 2 (f' := (523, [some (.retAddr 402), some (.ref 0), some (.ref 18), some (.ref 25), some (.int i), none, d6.map .int], [.ref 25, .ref 0])) (h' := (HPf C M o, cc, ss)) rfl ?_
    obtain ⟨r2169, hr2170, h⟩ := Option.bind_eq_some_iff.mp h
    refine mv_E.call (z := 129) (vs := [.ref 0, .ref 25]) (f' := (526, [some (.retAddr 402), some (.ref 0), some (.ref 18), some (.ref 25), some (.int i), none, d6.map .int], [])) (h' := (HPf C M o, cc, ss)) rfl rfl rfl (t_129 L xs hr2170) (mv_okl rfl) ?_
    refine mv_E.rT (t := mt_135 L xs) rfl 2 (f' := (529, [some (.retAddr 402), some (.ref 0), some (.ref 18), some (.ref 25), some (.int i), some (.int r2169.1), d6.map .int], [.ref 18])) (h' := (HPf r2169.2.1 M r2169.2.2.1, (cc + r2169.2.2.2), (ss + 6 * r2169.2.2.2))) rfl ?_
    obtain ⟨r2171, hr2172, h⟩ := Option.bind_eq_some_iff.mp h
    refine mv_E.call (z := 130) (vs := [.ref 18]) (f' := (532, [some (.retAddr 402), some (.ref 0), some (.ref 18), some (.ref 25), some (.int i), some (.int r2169.1), d6.map .int], [])) (h' := (HPf r2169.2.1 M r2169.2.2.1, (cc + r2169.2.2.2), (ss + 6 * r2169.2.2.2))) rfl rfl rfl (t_130 L xs hr2172) (mv_okl rfl) ?_
    refine mv_E.rT (t := mt_135 L xs) rfl 2 (f' := (535, [some (.retAddr 402), some (.ref 0), some (.ref 18), some (.ref 25), some (.int i), some (.int r2169.1), some (.int r2171.1)], [.ref 18])) (h' := (HPf r2169.2.1 r2171.2 r2169.2.2.1, (cc + r2169.2.2.2), (ss + 6 * r2169.2.2.2))) rfl ?_
    refine mv_E.call (z := 24) (vs := [.ref 18]) (f' := (538, [some (.retAddr 402), some (.ref 0), some (.ref 18), some (.ref 25), some (.int i), some (.int r2169.1), some (.int r2171.1)], [])) (h' := (HPf r2169.2.1 r2171.2 r2169.2.2.1, (cc + r2169.2.2.2), (ss + 6 * r2169.2.2.2))) rfl rfl rfl (t_24 L xs rfl) (mv_okl rfl) ?_
    refine mv_E.rT (t := mt_135 L xs) rfl 1 (f' := (540, [some (.retAddr 402), some (.ref 0), some (.ref 18), some (.ref 25), some (.int i), some (.int r2169.1), some (.int r2171.1)], [.int r2169.1, .int (f_24 r2171.2)])) (h' := (HPf r2169.2.1 r2171.2 r2169.2.2.1, (cc + r2169.2.2.2), (ss + 6 * r2169.2.2.2))) rfl ?_
    by_cases hc2175 : (f_24 r2171.2) = r2169.1
    · replace h := (if_pos hc2175).symm.trans h
      refine mv_E.go rfl (mi_icmp_pos hc2175) ?_
      refine mv_E.rT (t := mt_135 L xs) rfl 1 (f' := (547, [some (.retAddr 402), some (.ref 0), some (.ref 18), some (.ref 25), some (.int i), some (.int r2169.1), some (.int r2171.1)], [.int r2169.1])) (h' := (HPf r2169.2.1 r2171.2 r2169.2.2.1, (cc + r2169.2.2.2), (ss + 6 * r2169.2.2.2))) rfl ?_
      by_cases hc2174 : ¬ r2169.1 = 0
      · replace h := (if_pos hc2174).symm.trans h
        refine mv_E.go rfl (mi_if_pos hc2174) ?_
        refine mv_E.rT (t := mt_135 L xs) rfl 1 (f' := (661, [some (.retAddr 402), some (.ref 0), some (.ref 18), some (.ref 25), some (.int i), some (.int r2169.1), some (.int r2171.1)], [])) (h' := (HPf r2169.2.1 r2171.2 r2169.2.2.1, (cc + r2169.2.2.2), (ss + 6 * r2169.2.2.2))) rfl ?_
        exact hk r2169.2.1 r2171.2 r2169.2.2.1 (cc + r2169.2.2.2) (ss + 6 * r2169.2.2.2) (some r2169.1) (some r2171.1) _ h
      replace h := (if_neg hc2174).symm.trans h
      refine mv_E.go rfl (mi_if_neg hc2174) ?_
      refine mv_E.rT (t := mt_135 L xs) rfl 6 (f' := (557, [some (.retAddr 402), some (.ref 0), some (.ref 18), some (.ref 25), some (.int i), some (.int r2169.1), some (.int r2171.1)], [.int (lg_cmp (r2169.2.2.1 0) (Int32.toInt64 r2171.1))])) (h' := (HPf r2169.2.1 r2171.2 r2169.2.2.1, (cc + r2169.2.2.2), (ss + 6 * r2169.2.2.2))) rfl ?_
      by_cases hc2173 : (lg_cmp (r2169.2.2.1 0) (Int32.toInt64 r2171.1)) = 0
      · replace h := (if_pos hc2173).symm.trans h
        refine mv_E.go rfl (mi_if_pos hc2173) ?_
        refine mv_E.rT (t := mt_135 L xs) rfl 1 (f' := (661, [some (.retAddr 402), some (.ref 0), some (.ref 18), some (.ref 25), some (.int i), some (.int r2169.1), some (.int r2171.1)], [])) (h' := (HPf r2169.2.1 r2171.2 r2169.2.2.1, (cc + r2169.2.2.2), (ss + 6 * r2169.2.2.2))) rfl ?_
        exact hk r2169.2.1 r2171.2 r2169.2.2.1 (cc + r2169.2.2.2) (ss + 6 * r2169.2.2.2) (some r2169.1) (some r2171.1) _ h
      replace h := (if_neg hc2173).symm.trans h
      refine mv_E.go rfl (mi_if_neg hc2173) ?_
      refine mv_E.rT (t := mt_135 L xs) rfl 1 (f' := (561, [some (.retAddr 402), some (.ref 0), some (.ref 18), some (.ref 25), some (.int i), some (.int r2169.1), some (.int r2171.1)], [.int 0])) (h' := (HPf r2169.2.1 r2171.2 r2169.2.2.1, (cc + r2169.2.2.2), (ss + 6 * r2169.2.2.2))) rfl ?_
      cases h
      exact mv_E.done rfl mi_zret0
    replace h := (if_neg hc2175).symm.trans h
    refine mv_E.go rfl (mi_icmp_neg hc2175) ?_
    refine mv_E.rT (t := mt_135 L xs) rfl 1 (f' := (544, [some (.retAddr 402), some (.ref 0), some (.ref 18), some (.ref 25), some (.int i), some (.int r2169.1), some (.int r2171.1)], [.int 0])) (h' := (HPf r2169.2.1 r2171.2 r2169.2.2.1, (cc + r2169.2.2.2), (ss + 6 * r2169.2.2.2))) rfl ?_
    cases h
    exact mv_E.done rfl mi_zret0
  · refine mv_E.rT (t := mt_135 L xs) rfl 2 (f' := (523, [some (.retAddr 402), some (.ref 0), some (.ref 18), some (.ref 25), some (.int i), some (.int d5), d6.map .int], [.ref 25, .ref 0])) (h' := (HPf C M o, cc, ss)) rfl ?_
    obtain ⟨r2176, hr2177, h⟩ := Option.bind_eq_some_iff.mp h
    refine mv_E.call (z := 129) (vs := [.ref 0, .ref 25]) (f' := (526, [some (.retAddr 402), some (.ref 0), some (.ref 18), some (.ref 25), some (.int i), some (.int d5), d6.map .int], [])) (h' := (HPf C M o, cc, ss)) rfl rfl rfl (t_129 L xs hr2177) (mv_okl rfl) ?_
    refine mv_E.rT (t := mt_135 L xs) rfl 2 (f' := (529, [some (.retAddr 402), some (.ref 0), some (.ref 18), some (.ref 25), some (.int i), some (.int r2176.1), d6.map .int], [.ref 18])) (h' := (HPf r2176.2.1 M r2176.2.2.1, (cc + r2176.2.2.2), (ss + 6 * r2176.2.2.2))) rfl ?_
    obtain ⟨r2178, hr2179, h⟩ := Option.bind_eq_some_iff.mp h
    refine mv_E.call (z := 130) (vs := [.ref 18]) (f' := (532, [some (.retAddr 402), some (.ref 0), some (.ref 18), some (.ref 25), some (.int i), some (.int r2176.1), d6.map .int], [])) (h' := (HPf r2176.2.1 M r2176.2.2.1, (cc + r2176.2.2.2), (ss + 6 * r2176.2.2.2))) rfl rfl rfl (t_130 L xs hr2179) (mv_okl rfl) ?_
    refine mv_E.rT (t := mt_135 L xs) rfl 2 (f' := (535, [some (.retAddr 402), some (.ref 0), some (.ref 18), some (.ref 25), some (.int i), some (.int r2176.1), some (.int r2178.1)], [.ref 18])) (h' := (HPf r2176.2.1 r2178.2 r2176.2.2.1, (cc + r2176.2.2.2), (ss + 6 * r2176.2.2.2))) rfl ?_
    refine mv_E.call (z := 24) (vs := [.ref 18]) (f' := (538, [some (.retAddr 402), some (.ref 0), some (.ref 18), some (.ref 25), some (.int i), some (.int r2176.1), some (.int r2178.1)], [])) (h' := (HPf r2176.2.1 r2178.2 r2176.2.2.1, (cc + r2176.2.2.2), (ss + 6 * r2176.2.2.2))) rfl rfl rfl (t_24 L xs rfl) (mv_okl rfl) ?_
    refine mv_E.rT (t := mt_135 L xs) rfl 1 (f' := (540, [some (.retAddr 402), some (.ref 0), some (.ref 18), some (.ref 25), some (.int i), some (.int r2176.1), some (.int r2178.1)], [.int r2176.1, .int (f_24 r2178.2)])) (h' := (HPf r2176.2.1 r2178.2 r2176.2.2.1, (cc + r2176.2.2.2), (ss + 6 * r2176.2.2.2))) rfl ?_
    by_cases hc2182 : (f_24 r2178.2) = r2176.1
    · replace h := (if_pos hc2182).symm.trans h
      refine mv_E.go rfl (mi_icmp_pos hc2182) ?_
      refine mv_E.rT (t := mt_135 L xs) rfl 1 (f' := (547, [some (.retAddr 402), some (.ref 0), some (.ref 18), some (.ref 25), some (.int i), some (.int r2176.1), some (.int r2178.1)], [.int r2176.1])) (h' := (HPf r2176.2.1 r2178.2 r2176.2.2.1, (cc + r2176.2.2.2), (ss + 6 * r2176.2.2.2))) rfl ?_
      by_cases hc2181 : ¬ r2176.1 = 0
      · replace h := (if_pos hc2181).symm.trans h
        refine mv_E.go rfl (mi_if_pos hc2181) ?_
        refine mv_E.rT (t := mt_135 L xs) rfl 1 (f' := (661, [some (.retAddr 402), some (.ref 0), some (.ref 18), some (.ref 25), some (.int i), some (.int r2176.1), some (.int r2178.1)], [])) (h' := (HPf r2176.2.1 r2178.2 r2176.2.2.1, (cc + r2176.2.2.2), (ss + 6 * r2176.2.2.2))) rfl ?_
        exact hk r2176.2.1 r2178.2 r2176.2.2.1 (cc + r2176.2.2.2) (ss + 6 * r2176.2.2.2) (some r2176.1) (some r2178.1) _ h
      replace h := (if_neg hc2181).symm.trans h
      refine mv_E.go rfl (mi_if_neg hc2181) ?_
      refine mv_E.rT (t := mt_135 L xs) rfl 6 (f' := (557, [some (.retAddr 402), some (.ref 0), some (.ref 18), some (.ref 25), some (.int i), some (.int r2176.1), some (.int r2178.1)], [.int (lg_cmp (r2176.2.2.1 0) (Int32.toInt64 r2178.1))])) (h' := (HPf r2176.2.1 r2178.2 r2176.2.2.1, (cc + r2176.2.2.2), (ss + 6 * r2176.2.2.2))) rfl ?_
      by_cases hc2180 : (lg_cmp (r2176.2.2.1 0) (Int32.toInt64 r2178.1)) = 0
      · replace h := (if_pos hc2180).symm.trans h
        refine mv_E.go rfl (mi_if_pos hc2180) ?_
        refine mv_E.rT (t := mt_135 L xs) rfl 1 (f' := (661, [some (.retAddr 402), some (.ref 0), some (.ref 18), some (.ref 25), some (.int i), some (.int r2176.1), some (.int r2178.1)], [])) (h' := (HPf r2176.2.1 r2178.2 r2176.2.2.1, (cc + r2176.2.2.2), (ss + 6 * r2176.2.2.2))) rfl ?_
        exact hk r2176.2.1 r2178.2 r2176.2.2.1 (cc + r2176.2.2.2) (ss + 6 * r2176.2.2.2) (some r2176.1) (some r2178.1) _ h
      replace h := (if_neg hc2180).symm.trans h
      refine mv_E.go rfl (mi_if_neg hc2180) ?_
      refine mv_E.rT (t := mt_135 L xs) rfl 1 (f' := (561, [some (.retAddr 402), some (.ref 0), some (.ref 18), some (.ref 25), some (.int i), some (.int r2176.1), some (.int r2178.1)], [.int 0])) (h' := (HPf r2176.2.1 r2178.2 r2176.2.2.1, (cc + r2176.2.2.2), (ss + 6 * r2176.2.2.2))) rfl ?_
      cases h
      exact mv_E.done rfl mi_zret0
    replace h := (if_neg hc2182).symm.trans h
    refine mv_E.go rfl (mi_icmp_neg hc2182) ?_
    refine mv_E.rT (t := mt_135 L xs) rfl 1 (f' := (544, [some (.retAddr 402), some (.ref 0), some (.ref 18), some (.ref 25), some (.int i), some (.int r2176.1), some (.int r2178.1)], [.int 0])) (h' := (HPf r2176.2.1 r2178.2 r2176.2.2.1, (cc + r2176.2.2.2), (ss + 6 * r2176.2.2.2))) rfl ?_
    cases h
    exact mv_E.done rfl mi_zret0
def g_10 (L : Nat) (xs : Nat → Int32) (k : CS → CS → (Nat → Int64) → Nat → Nat → Option (Int32 × CS × CS × (Nat → Int64) × Nat × Nat)) (C M : CS) (o : Nat → Int64) (cc ss : Nat) (i : Int32) : Option (Int32 × CS × CS × (Nat → Int64) × Nat × Nat) := if mv_in (i + 1) L = true then (if (xs (i + 1).toNatClampNeg) = 0 then if mv_in (i + 2) L = true then if mv_in (i + 3) L = true then (f_133 C o 0 (xs (i + 2).toNatClampNeg) (xs (i + 3).toNatClampNeg)).bind fun r2228 => if mv_in (i + 1) L = true then (if (xs (i + 1).toNatClampNeg) = 0 then if mv_in (i + 2) L = true then if mv_in (i + 3) L = true then (f_134 M 0 (xs (i + 2).toNatClampNeg) (xs (i + 3).toNatClampNeg)).bind fun r2233 => (if (f_24 r2233.2) = r2228.1 then (if ¬ r2228.1 = 0 then k r2228.2.1 r2233.2 r2228.2.2.1 (cc + r2228.2.2.2) (ss + 6 * r2228.2.2.2) else (if (lg_cmp (r2228.2.2.1 0) (Int32.toInt64 r2233.1)) = 0 then k r2228.2.1 r2233.2 r2228.2.2.1 (cc + r2228.2.2.2) (ss + 6 * r2228.2.2.2) else some (0, r2228.2.1, r2233.2, r2228.2.2.1, (cc + r2228.2.2.2), (ss + 6 * r2228.2.2.2)))) else some (0, r2228.2.1, r2233.2, r2228.2.2.1, (cc + r2228.2.2.2), (ss + 6 * r2228.2.2.2))) else none else none else if mv_in (i + 2) L = true then if mv_in (i + 3) L = true then (f_134 M 1 (xs (i + 2).toNatClampNeg) (xs (i + 3).toNatClampNeg)).bind fun r2240 => (if (f_24 r2240.2) = r2228.1 then (if ¬ r2228.1 = 0 then k r2228.2.1 r2240.2 r2228.2.2.1 (cc + r2228.2.2.2) (ss + 6 * r2228.2.2.2) else (if (lg_cmp (r2228.2.2.1 0) (Int32.toInt64 r2240.1)) = 0 then k r2228.2.1 r2240.2 r2228.2.2.1 (cc + r2228.2.2.2) (ss + 6 * r2228.2.2.2) else some (0, r2228.2.1, r2240.2, r2228.2.2.1, (cc + r2228.2.2.2), (ss + 6 * r2228.2.2.2)))) else some (0, r2228.2.1, r2240.2, r2228.2.2.1, (cc + r2228.2.2.2), (ss + 6 * r2228.2.2.2))) else none else none) else none else none else none else if mv_in (i + 2) L = true then if mv_in (i + 3) L = true then (f_133 C o 1 (xs (i + 2).toNatClampNeg) (xs (i + 3).toNatClampNeg)).bind fun r2248 => if mv_in (i + 1) L = true then (if (xs (i + 1).toNatClampNeg) = 0 then if mv_in (i + 2) L = true then if mv_in (i + 3) L = true then (f_134 M 0 (xs (i + 2).toNatClampNeg) (xs (i + 3).toNatClampNeg)).bind fun r2253 => (if (f_24 r2253.2) = r2248.1 then (if ¬ r2248.1 = 0 then k r2248.2.1 r2253.2 r2248.2.2.1 (cc + r2248.2.2.2) (ss + 6 * r2248.2.2.2) else (if (lg_cmp (r2248.2.2.1 0) (Int32.toInt64 r2253.1)) = 0 then k r2248.2.1 r2253.2 r2248.2.2.1 (cc + r2248.2.2.2) (ss + 6 * r2248.2.2.2) else some (0, r2248.2.1, r2253.2, r2248.2.2.1, (cc + r2248.2.2.2), (ss + 6 * r2248.2.2.2)))) else some (0, r2248.2.1, r2253.2, r2248.2.2.1, (cc + r2248.2.2.2), (ss + 6 * r2248.2.2.2))) else none else none else if mv_in (i + 2) L = true then if mv_in (i + 3) L = true then (f_134 M 1 (xs (i + 2).toNatClampNeg) (xs (i + 3).toNatClampNeg)).bind fun r2260 => (if (f_24 r2260.2) = r2248.1 then (if ¬ r2248.1 = 0 then k r2248.2.1 r2260.2 r2248.2.2.1 (cc + r2248.2.2.2) (ss + 6 * r2248.2.2.2) else (if (lg_cmp (r2248.2.2.1 0) (Int32.toInt64 r2260.1)) = 0 then k r2248.2.1 r2260.2 r2248.2.2.1 (cc + r2248.2.2.2) (ss + 6 * r2248.2.2.2) else some (0, r2248.2.1, r2260.2, r2248.2.2.1, (cc + r2248.2.2.2), (ss + 6 * r2248.2.2.2)))) else some (0, r2248.2.1, r2260.2, r2248.2.2.1, (cc + r2248.2.2.2), (ss + 6 * r2248.2.2.2))) else none else none) else none else none else none) else none
theorem tg_10 (L : Nat) (xs : Nat → Int32) (k : CS → CS → (Nat → Int64) → Nat → Nat → Option (Int32 × CS × CS × (Nat → Int64) × Nat × Nat)) (i : Int32) (hk : ∀ (C M : CS) (o : Nat → Int64) (cc ss : Nat) (d5 d6 : Option Int32) (ret : Int32 × CS × CS × (Nat → Int64) × Nat × Nat), k C M o cc ss = some ret → mv_E (mp L xs) 135 (661, [some (.retAddr 402), some (.ref 0), some (.ref 18), some (.ref 25), some (.int i), d5.map .int, d6.map .int], []) (HPf C M o, cc, ss) (cvL ret)) (C M : CS) (o : Nat → Int64) (cc ss : Nat) (d5 d6 : Option Int32) (ret : Int32 × CS × CS × (Nat → Int64) × Nat × Nat) (h : g_10 L xs k C M o cc ss i = some ret) : mv_E (mp L xs) 135 (565, [some (.retAddr 402), some (.ref 0), some (.ref 18), some (.ref 25), some (.int i), d5.map .int, d6.map .int], []) (HPf C M o, cc, ss) (cvL ret) := by
  unfold g_10 at h
  rcases d5 with _ | d5
  · refine mv_E.rT (t := mt_135 L xs) rfl 5 (f' := (571, [some (.retAddr 402), some (.ref 0), some (.ref 18), some (.ref 25), some (.int i), none, d6.map .int], [.int (i + 1), .retAddr 402, .ref 0])) (h' := (HPf C M o, cc, ss)) rfl ?_
    by_cases hb2183 : mv_in (i + 1) L = true
    rotate_left
    · cases (if_neg hb2183).symm.trans h
    replace h := (if_pos hb2183).symm.trans h
    refine mv_E.go rfl (mi_tld_at rfl hb2183) ?_
    show mv_E (mp L xs) 135 (572, [some (.retAddr 402), some (.ref 0), some (.ref 18), some (.ref 25), some (.int i), none, d6.map .int], [.int (xs (i + 1).toNatClampNeg), .ref 0]) (HPf C M o, cc, ss) _
    by_cases hc2224 : (xs (i + 1).toNatClampNeg) = 0
    · replace h := (if_pos hc2224).symm.trans h
      refine mv_E.go rfl (mi_if_pos hc2224) ?_
      refine mv_E.rT (t := mt_135 L xs) rfl 5 (f' := (585, [some (.retAddr 402), some (.ref 0), some (.ref 18), some (.ref 25), some (.int i), none, d6.map .int], [.int (i + 2), .retAddr 402, .int 0, .ref 0])) (h' := (HPf C M o, cc, ss)) rfl ?_
      by_cases hb2184 : mv_in (i + 2) L = true
      rotate_left
      · cases (if_neg hb2184).symm.trans h
      replace h := (if_pos hb2184).symm.trans h
      refine mv_E.go rfl (mi_tld_at rfl hb2184) ?_
      refine mv_E.rT (t := mt_135 L xs) rfl 4 (f' := (591, [some (.retAddr 402), some (.ref 0), some (.ref 18), some (.ref 25), some (.int i), none, d6.map .int], [.int (i + 3), .retAddr 402, .int (xs (i + 2).toNatClampNeg), .int 0, .ref 0])) (h' := (HPf C M o, cc, ss)) rfl ?_
      by_cases hb2185 : mv_in (i + 3) L = true
      rotate_left
      · cases (if_neg hb2185).symm.trans h
      replace h := (if_pos hb2185).symm.trans h
      refine mv_E.go rfl (mi_tld_at rfl hb2185) ?_
      refine mv_E.rT (t := mt_135 L xs) rfl 1 (f' := (593, [some (.retAddr 402), some (.ref 0), some (.ref 18), some (.ref 25), some (.int i), none, d6.map .int], [.ref 25, .int (xs (i + 3).toNatClampNeg), .int (xs (i + 2).toNatClampNeg), .int 0, .ref 0])) (h' := (HPf C M o, cc, ss)) rfl ?_
      obtain ⟨r2186, hr2187, h⟩ := Option.bind_eq_some_iff.mp h
      refine mv_E.call (z := 133) (vs := [.ref 0, .int 0, .int (xs (i + 2).toNatClampNeg), .int (xs (i + 3).toNatClampNeg), .ref 25]) (f' := (596, [some (.retAddr 402), some (.ref 0), some (.ref 18), some (.ref 25), some (.int i), none, d6.map .int], [])) (h' := (HPf C M o, cc, ss)) rfl rfl rfl (t_133 L xs hr2187) (mv_okl rfl) ?_
      refine mv_E.rT (t := mt_135 L xs) rfl 6 (f' := (604, [some (.retAddr 402), some (.ref 0), some (.ref 18), some (.ref 25), some (.int i), some (.int r2186.1), d6.map .int], [.int (i + 1), .retAddr 402, .ref 18])) (h' := (HPf r2186.2.1 M r2186.2.2.1, (cc + r2186.2.2.2), (ss + 6 * r2186.2.2.2))) rfl ?_
      by_cases hb2188 : mv_in (i + 1) L = true
      rotate_left
      · cases (if_neg hb2188).symm.trans h
      replace h := (if_pos hb2188).symm.trans h
      refine mv_E.go rfl (mi_tld_at rfl hb2188) ?_
      show mv_E (mp L xs) 135 (605, [some (.retAddr 402), some (.ref 0), some (.ref 18), some (.ref 25), some (.int i), some (.int r2186.1), d6.map .int], [.int (xs (i + 1).toNatClampNeg), .ref 18]) (HPf r2186.2.1 M r2186.2.2.1, (cc + r2186.2.2.2), (ss + 6 * r2186.2.2.2)) _
      by_cases hc2203 : (xs (i + 1).toNatClampNeg) = 0
      · replace h := (if_pos hc2203).symm.trans h
        refine mv_E.go rfl (mi_if_pos hc2203) ?_
        refine mv_E.rT (t := mt_135 L xs) rfl 5 (f' := (618, [some (.retAddr 402), some (.ref 0), some (.ref 18), some (.ref 25), some (.int i), some (.int r2186.1), d6.map .int], [.int (i + 2), .retAddr 402, .int 0, .ref 18])) (h' := (HPf r2186.2.1 M r2186.2.2.1, (cc + r2186.2.2.2), (ss + 6 * r2186.2.2.2))) rfl ?_
        by_cases hb2189 : mv_in (i + 2) L = true
        rotate_left
        · cases (if_neg hb2189).symm.trans h
        replace h := (if_pos hb2189).symm.trans h
        refine mv_E.go rfl (mi_tld_at rfl hb2189) ?_
        refine mv_E.rT (t := mt_135 L xs) rfl 4 (f' := (624, [some (.retAddr 402), some (.ref 0), some (.ref 18), some (.ref 25), some (.int i), some (.int r2186.1), d6.map .int], [.int (i + 3), .retAddr 402, .int (xs (i + 2).toNatClampNeg), .int 0, .ref 18])) (h' := (HPf r2186.2.1 M r2186.2.2.1, (cc + r2186.2.2.2), (ss + 6 * r2186.2.2.2))) rfl ?_
        by_cases hb2190 : mv_in (i + 3) L = true
        rotate_left
        · cases (if_neg hb2190).symm.trans h
        replace h := (if_pos hb2190).symm.trans h
        refine mv_E.go rfl (mi_tld_at rfl hb2190) ?_
        show mv_E (mp L xs) 135 (625, [some (.retAddr 402), some (.ref 0), some (.ref 18), some (.ref 25), some (.int i), some (.int r2186.1), d6.map .int], [.int (xs (i + 3).toNatClampNeg), .int (xs (i + 2).toNatClampNeg), .int 0, .ref 18]) (HPf r2186.2.1 M r2186.2.2.1, (cc + r2186.2.2.2), (ss + 6 * r2186.2.2.2)) _
        obtain ⟨r2191, hr2192, h⟩ := Option.bind_eq_some_iff.mp h
        refine mv_E.call (z := 134) (vs := [.ref 18, .int 0, .int (xs (i + 2).toNatClampNeg), .int (xs (i + 3).toNatClampNeg)]) (f' := (628, [some (.retAddr 402), some (.ref 0), some (.ref 18), some (.ref 25), some (.int i), some (.int r2186.1), d6.map .int], [])) (h' := (HPf r2186.2.1 M r2186.2.2.1, (cc + r2186.2.2.2), (ss + 6 * r2186.2.2.2))) rfl rfl rfl (t_134 L xs hr2192) (mv_okl rfl) ?_
        refine mv_E.rT (t := mt_135 L xs) rfl 2 (f' := (631, [some (.retAddr 402), some (.ref 0), some (.ref 18), some (.ref 25), some (.int i), some (.int r2186.1), some (.int r2191.1)], [.ref 18])) (h' := (HPf r2186.2.1 r2191.2 r2186.2.2.1, (cc + r2186.2.2.2), (ss + 6 * r2186.2.2.2))) rfl ?_
        refine mv_E.call (z := 24) (vs := [.ref 18]) (f' := (634, [some (.retAddr 402), some (.ref 0), some (.ref 18), some (.ref 25), some (.int i), some (.int r2186.1), some (.int r2191.1)], [])) (h' := (HPf r2186.2.1 r2191.2 r2186.2.2.1, (cc + r2186.2.2.2), (ss + 6 * r2186.2.2.2))) rfl rfl rfl (t_24 L xs rfl) (mv_okl rfl) ?_
        refine mv_E.rT (t := mt_135 L xs) rfl 1 (f' := (636, [some (.retAddr 402), some (.ref 0), some (.ref 18), some (.ref 25), some (.int i), some (.int r2186.1), some (.int r2191.1)], [.int r2186.1, .int (f_24 r2191.2)])) (h' := (HPf r2186.2.1 r2191.2 r2186.2.2.1, (cc + r2186.2.2.2), (ss + 6 * r2186.2.2.2))) rfl ?_
        by_cases hc2195 : (f_24 r2191.2) = r2186.1
        · replace h := (if_pos hc2195).symm.trans h
          refine mv_E.go rfl (mi_icmp_pos hc2195) ?_
          refine mv_E.rT (t := mt_135 L xs) rfl 1 (f' := (643, [some (.retAddr 402), some (.ref 0), some (.ref 18), some (.ref 25), some (.int i), some (.int r2186.1), some (.int r2191.1)], [.int r2186.1])) (h' := (HPf r2186.2.1 r2191.2 r2186.2.2.1, (cc + r2186.2.2.2), (ss + 6 * r2186.2.2.2))) rfl ?_
          by_cases hc2194 : ¬ r2186.1 = 0
          · replace h := (if_pos hc2194).symm.trans h
            refine mv_E.go rfl (mi_if_pos hc2194) ?_
            refine mv_E.rT (t := mt_135 L xs) rfl 1 (f' := (661, [some (.retAddr 402), some (.ref 0), some (.ref 18), some (.ref 25), some (.int i), some (.int r2186.1), some (.int r2191.1)], [])) (h' := (HPf r2186.2.1 r2191.2 r2186.2.2.1, (cc + r2186.2.2.2), (ss + 6 * r2186.2.2.2))) rfl ?_
            exact hk r2186.2.1 r2191.2 r2186.2.2.1 (cc + r2186.2.2.2) (ss + 6 * r2186.2.2.2) (some r2186.1) (some r2191.1) _ h
          replace h := (if_neg hc2194).symm.trans h
          refine mv_E.go rfl (mi_if_neg hc2194) ?_
          refine mv_E.rT (t := mt_135 L xs) rfl 6 (f' := (653, [some (.retAddr 402), some (.ref 0), some (.ref 18), some (.ref 25), some (.int i), some (.int r2186.1), some (.int r2191.1)], [.int (lg_cmp (r2186.2.2.1 0) (Int32.toInt64 r2191.1))])) (h' := (HPf r2186.2.1 r2191.2 r2186.2.2.1, (cc + r2186.2.2.2), (ss + 6 * r2186.2.2.2))) rfl ?_
          by_cases hc2193 : (lg_cmp (r2186.2.2.1 0) (Int32.toInt64 r2191.1)) = 0
          · replace h := (if_pos hc2193).symm.trans h
            refine mv_E.go rfl (mi_if_pos hc2193) ?_
            refine mv_E.rT (t := mt_135 L xs) rfl 1 (f' := (661, [some (.retAddr 402), some (.ref 0), some (.ref 18), some (.ref 25), some (.int i), some (.int r2186.1), some (.int r2191.1)], [])) (h' := (HPf r2186.2.1 r2191.2 r2186.2.2.1, (cc + r2186.2.2.2), (ss + 6 * r2186.2.2.2))) rfl ?_
            exact hk r2186.2.1 r2191.2 r2186.2.2.1 (cc + r2186.2.2.2) (ss + 6 * r2186.2.2.2) (some r2186.1) (some r2191.1) _ h
          replace h := (if_neg hc2193).symm.trans h
          refine mv_E.go rfl (mi_if_neg hc2193) ?_
          refine mv_E.rT (t := mt_135 L xs) rfl 1 (f' := (657, [some (.retAddr 402), some (.ref 0), some (.ref 18), some (.ref 25), some (.int i), some (.int r2186.1), some (.int r2191.1)], [.int 0])) (h' := (HPf r2186.2.1 r2191.2 r2186.2.2.1, (cc + r2186.2.2.2), (ss + 6 * r2186.2.2.2))) rfl ?_
          cases h
          exact mv_E.done rfl mi_zret0
        replace h := (if_neg hc2195).symm.trans h
        refine mv_E.go rfl (mi_icmp_neg hc2195) ?_
        refine mv_E.rT (t := mt_135 L xs) rfl 1 (f' := (640, [some (.retAddr 402), some (.ref 0), some (.ref 18), some (.ref 25), some (.int i), some (.int r2186.1), some (.int r2191.1)], [.int 0])) (h' := (HPf r2186.2.1 r2191.2 r2186.2.2.1, (cc + r2186.2.2.2), (ss + 6 * r2186.2.2.2))) rfl ?_
        cases h
        exact mv_E.done rfl mi_zret0
      replace h := (if_neg hc2203).symm.trans h
      refine mv_E.go rfl (mi_if_neg hc2203) ?_
      refine mv_E.rT (t := mt_135 L xs) rfl 6 (f' := (618, [some (.retAddr 402), some (.ref 0), some (.ref 18), some (.ref 25), some (.int i), some (.int r2186.1), d6.map .int], [.int (i + 2), .retAddr 402, .int 1, .ref 18])) (h' := (HPf r2186.2.1 M r2186.2.2.1, (cc + r2186.2.2.2), (ss + 6 * r2186.2.2.2))) rfl ?_
      by_cases hb2196 : mv_in (i + 2) L = true
      rotate_left
      · cases (if_neg hb2196).symm.trans h
      replace h := (if_pos hb2196).symm.trans h
      refine mv_E.go rfl (mi_tld_at rfl hb2196) ?_
      refine mv_E.rT (t := mt_135 L xs) rfl 4 (f' := (624, [some (.retAddr 402), some (.ref 0), some (.ref 18), some (.ref 25), some (.int i), some (.int r2186.1), d6.map .int], [.int (i + 3), .retAddr 402, .int (xs (i + 2).toNatClampNeg), .int 1, .ref 18])) (h' := (HPf r2186.2.1 M r2186.2.2.1, (cc + r2186.2.2.2), (ss + 6 * r2186.2.2.2))) rfl ?_
      by_cases hb2197 : mv_in (i + 3) L = true
      rotate_left
      · cases (if_neg hb2197).symm.trans h
      replace h := (if_pos hb2197).symm.trans h
      refine mv_E.go rfl (mi_tld_at rfl hb2197) ?_
      show mv_E (mp L xs) 135 (625, [some (.retAddr 402), some (.ref 0), some (.ref 18), some (.ref 25), some (.int i), some (.int r2186.1), d6.map .int], [.int (xs (i + 3).toNatClampNeg), .int (xs (i + 2).toNatClampNeg), .int 1, .ref 18]) (HPf r2186.2.1 M r2186.2.2.1, (cc + r2186.2.2.2), (ss + 6 * r2186.2.2.2)) _
      obtain ⟨r2198, hr2199, h⟩ := Option.bind_eq_some_iff.mp h
      refine mv_E.call (z := 134) (vs := [.ref 18, .int 1, .int (xs (i + 2).toNatClampNeg), .int (xs (i + 3).toNatClampNeg)]) (f' := (628, [some (.retAddr 402), some (.ref 0), some (.ref 18), some (.ref 25), some (.int i), some (.int r2186.1), d6.map .int], [])) (h' := (HPf r2186.2.1 M r2186.2.2.1, (cc + r2186.2.2.2), (ss + 6 * r2186.2.2.2))) rfl rfl rfl (t_134 L xs hr2199) (mv_okl rfl) ?_
      refine mv_E.rT (t := mt_135 L xs) rfl 2 (f' := (631, [some (.retAddr 402), some (.ref 0), some (.ref 18), some (.ref 25), some (.int i), some (.int r2186.1), some (.int r2198.1)], [.ref 18])) (h' := (HPf r2186.2.1 r2198.2 r2186.2.2.1, (cc + r2186.2.2.2), (ss + 6 * r2186.2.2.2))) rfl ?_
      refine mv_E.call (z := 24) (vs := [.ref 18]) (f' := (634, [some (.retAddr 402), some (.ref 0), some (.ref 18), some (.ref 25), some (.int i), some (.int r2186.1), some (.int r2198.1)], [])) (h' := (HPf r2186.2.1 r2198.2 r2186.2.2.1, (cc + r2186.2.2.2), (ss + 6 * r2186.2.2.2))) rfl rfl rfl (t_24 L xs rfl) (mv_okl rfl) ?_
      refine mv_E.rT (t := mt_135 L xs) rfl 1 (f' := (636, [some (.retAddr 402), some (.ref 0), some (.ref 18), some (.ref 25), some (.int i), some (.int r2186.1), some (.int r2198.1)], [.int r2186.1, .int (f_24 r2198.2)])) (h' := (HPf r2186.2.1 r2198.2 r2186.2.2.1, (cc + r2186.2.2.2), (ss + 6 * r2186.2.2.2))) rfl ?_
      by_cases hc2202 : (f_24 r2198.2) = r2186.1
      · replace h := (if_pos hc2202).symm.trans h
        refine mv_E.go rfl (mi_icmp_pos hc2202) ?_
        refine mv_E.rT (t := mt_135 L xs) rfl 1 (f' := (643, [some (.retAddr 402), some (.ref 0), some (.ref 18), some (.ref 25), some (.int i), some (.int r2186.1), some (.int r2198.1)], [.int r2186.1])) (h' := (HPf r2186.2.1 r2198.2 r2186.2.2.1, (cc + r2186.2.2.2), (ss + 6 * r2186.2.2.2))) rfl ?_
        by_cases hc2201 : ¬ r2186.1 = 0
        · replace h := (if_pos hc2201).symm.trans h
          refine mv_E.go rfl (mi_if_pos hc2201) ?_
          refine mv_E.rT (t := mt_135 L xs) rfl 1 (f' := (661, [some (.retAddr 402), some (.ref 0), some (.ref 18), some (.ref 25), some (.int i), some (.int r2186.1), some (.int r2198.1)], [])) (h' := (HPf r2186.2.1 r2198.2 r2186.2.2.1, (cc + r2186.2.2.2), (ss + 6 * r2186.2.2.2))) rfl ?_
          exact hk r2186.2.1 r2198.2 r2186.2.2.1 (cc + r2186.2.2.2) (ss + 6 * r2186.2.2.2) (some r2186.1) (some r2198.1) _ h
        replace h := (if_neg hc2201).symm.trans h
        refine mv_E.go rfl (mi_if_neg hc2201) ?_
        refine mv_E.rT (t := mt_135 L xs) rfl 6 (f' := (653, [some (.retAddr 402), some (.ref 0), some (.ref 18), some (.ref 25), some (.int i), some (.int r2186.1), some (.int r2198.1)], [.int (lg_cmp (r2186.2.2.1 0) (Int32.toInt64 r2198.1))])) (h' := (HPf r2186.2.1 r2198.2 r2186.2.2.1, (cc + r2186.2.2.2), (ss + 6 * r2186.2.2.2))) rfl ?_
        by_cases hc2200 : (lg_cmp (r2186.2.2.1 0) (Int32.toInt64 r2198.1)) = 0
        · replace h := (if_pos hc2200).symm.trans h
          refine mv_E.go rfl (mi_if_pos hc2200) ?_
          refine mv_E.rT (t := mt_135 L xs) rfl 1 (f' := (661, [some (.retAddr 402), some (.ref 0), some (.ref 18), some (.ref 25), some (.int i), some (.int r2186.1), some (.int r2198.1)], [])) (h' := (HPf r2186.2.1 r2198.2 r2186.2.2.1, (cc + r2186.2.2.2), (ss + 6 * r2186.2.2.2))) rfl ?_
          exact hk r2186.2.1 r2198.2 r2186.2.2.1 (cc + r2186.2.2.2) (ss + 6 * r2186.2.2.2) (some r2186.1) (some r2198.1) _ h
        replace h := (if_neg hc2200).symm.trans h
        refine mv_E.go rfl (mi_if_neg hc2200) ?_
        refine mv_E.rT (t := mt_135 L xs) rfl 1 (f' := (657, [some (.retAddr 402), some (.ref 0), some (.ref 18), some (.ref 25), some (.int i), some (.int r2186.1), some (.int r2198.1)], [.int 0])) (h' := (HPf r2186.2.1 r2198.2 r2186.2.2.1, (cc + r2186.2.2.2), (ss + 6 * r2186.2.2.2))) rfl ?_
        cases h
        exact mv_E.done rfl mi_zret0
      replace h := (if_neg hc2202).symm.trans h
      refine mv_E.go rfl (mi_icmp_neg hc2202) ?_
      refine mv_E.rT (t := mt_135 L xs) rfl 1 (f' := (640, [some (.retAddr 402), some (.ref 0), some (.ref 18), some (.ref 25), some (.int i), some (.int r2186.1), some (.int r2198.1)], [.int 0])) (h' := (HPf r2186.2.1 r2198.2 r2186.2.2.1, (cc + r2186.2.2.2), (ss + 6 * r2186.2.2.2))) rfl ?_
      cases h
      exact mv_E.done rfl mi_zret0
    replace h := (if_neg hc2224).symm.trans h
    refine mv_E.go rfl (mi_if_neg hc2224) ?_
    refine mv_E.rT (t := mt_135 L xs) rfl 6 (f' := (585, [some (.retAddr 402), some (.ref 0), some (.ref 18), some (.ref 25), some (.int i), none, d6.map .int], [.int (i + 2), .retAddr 402, .int 1, .ref 0])) (h' := (HPf C M o, cc, ss)) rfl ?_
    by_cases hb2204 : mv_in (i + 2) L = true
    rotate_left
    · cases (if_neg hb2204).symm.trans h
    replace h := (if_pos hb2204).symm.trans h
    refine mv_E.go rfl (mi_tld_at rfl hb2204) ?_
    refine mv_E.rT (t := mt_135 L xs) rfl 4 (f' := (591, [some (.retAddr 402), some (.ref 0), some (.ref 18), some (.ref 25), some (.int i), none, d6.map .int], [.int (i + 3), .retAddr 402, .int (xs (i + 2).toNatClampNeg), .int 1, .ref 0])) (h' := (HPf C M o, cc, ss)) rfl ?_
    by_cases hb2205 : mv_in (i + 3) L = true
    rotate_left
    · cases (if_neg hb2205).symm.trans h
    replace h := (if_pos hb2205).symm.trans h
    refine mv_E.go rfl (mi_tld_at rfl hb2205) ?_
    refine mv_E.rT (t := mt_135 L xs) rfl 1 (f' := (593, [some (.retAddr 402), some (.ref 0), some (.ref 18), some (.ref 25), some (.int i), none, d6.map .int], [.ref 25, .int (xs (i + 3).toNatClampNeg), .int (xs (i + 2).toNatClampNeg), .int 1, .ref 0])) (h' := (HPf C M o, cc, ss)) rfl ?_
    obtain ⟨r2206, hr2207, h⟩ := Option.bind_eq_some_iff.mp h
    refine mv_E.call (z := 133) (vs := [.ref 0, .int 1, .int (xs (i + 2).toNatClampNeg), .int (xs (i + 3).toNatClampNeg), .ref 25]) (f' := (596, [some (.retAddr 402), some (.ref 0), some (.ref 18), some (.ref 25), some (.int i), none, d6.map .int], [])) (h' := (HPf C M o, cc, ss)) rfl rfl rfl (t_133 L xs hr2207) (mv_okl rfl) ?_
    refine mv_E.rT (t := mt_135 L xs) rfl 6 (f' := (604, [some (.retAddr 402), some (.ref 0), some (.ref 18), some (.ref 25), some (.int i), some (.int r2206.1), d6.map .int], [.int (i + 1), .retAddr 402, .ref 18])) (h' := (HPf r2206.2.1 M r2206.2.2.1, (cc + r2206.2.2.2), (ss + 6 * r2206.2.2.2))) rfl ?_
    by_cases hb2208 : mv_in (i + 1) L = true
    rotate_left
    · cases (if_neg hb2208).symm.trans h
    replace h := (if_pos hb2208).symm.trans h
    refine mv_E.go rfl (mi_tld_at rfl hb2208) ?_
    show mv_E (mp L xs) 135 (605, [some (.retAddr 402), some (.ref 0), some (.ref 18), some (.ref 25), some (.int i), some (.int r2206.1), d6.map .int], [.int (xs (i + 1).toNatClampNeg), .ref 18]) (HPf r2206.2.1 M r2206.2.2.1, (cc + r2206.2.2.2), (ss + 6 * r2206.2.2.2)) _
    by_cases hc2223 : (xs (i + 1).toNatClampNeg) = 0
    · replace h := (if_pos hc2223).symm.trans h
      refine mv_E.go rfl (mi_if_pos hc2223) ?_
      refine mv_E.rT (t := mt_135 L xs) rfl 5 (f' := (618, [some (.retAddr 402), some (.ref 0), some (.ref 18), some (.ref 25), some (.int i), some (.int r2206.1), d6.map .int], [.int (i + 2), .retAddr 402, .int 0, .ref 18])) (h' := (HPf r2206.2.1 M r2206.2.2.1, (cc + r2206.2.2.2), (ss + 6 * r2206.2.2.2))) rfl ?_
      by_cases hb2209 : mv_in (i + 2) L = true
      rotate_left
      · cases (if_neg hb2209).symm.trans h
      replace h := (if_pos hb2209).symm.trans h
      refine mv_E.go rfl (mi_tld_at rfl hb2209) ?_
      refine mv_E.rT (t := mt_135 L xs) rfl 4 (f' := (624, [some (.retAddr 402), some (.ref 0), some (.ref 18), some (.ref 25), some (.int i), some (.int r2206.1), d6.map .int], [.int (i + 3), .retAddr 402, .int (xs (i + 2).toNatClampNeg), .int 0, .ref 18])) (h' := (HPf r2206.2.1 M r2206.2.2.1, (cc + r2206.2.2.2), (ss + 6 * r2206.2.2.2))) rfl ?_
      by_cases hb2210 : mv_in (i + 3) L = true
      rotate_left
      · cases (if_neg hb2210).symm.trans h
      replace h := (if_pos hb2210).symm.trans h
      refine mv_E.go rfl (mi_tld_at rfl hb2210) ?_
      show mv_E (mp L xs) 135 (625, [some (.retAddr 402), some (.ref 0), some (.ref 18), some (.ref 25), some (.int i), some (.int r2206.1), d6.map .int], [.int (xs (i + 3).toNatClampNeg), .int (xs (i + 2).toNatClampNeg), .int 0, .ref 18]) (HPf r2206.2.1 M r2206.2.2.1, (cc + r2206.2.2.2), (ss + 6 * r2206.2.2.2)) _
      obtain ⟨r2211, hr2212, h⟩ := Option.bind_eq_some_iff.mp h
      refine mv_E.call (z := 134) (vs := [.ref 18, .int 0, .int (xs (i + 2).toNatClampNeg), .int (xs (i + 3).toNatClampNeg)]) (f' := (628, [some (.retAddr 402), some (.ref 0), some (.ref 18), some (.ref 25), some (.int i), some (.int r2206.1), d6.map .int], [])) (h' := (HPf r2206.2.1 M r2206.2.2.1, (cc + r2206.2.2.2), (ss + 6 * r2206.2.2.2))) rfl rfl rfl (t_134 L xs hr2212) (mv_okl rfl) ?_
      refine mv_E.rT (t := mt_135 L xs) rfl 2 (f' := (631, [some (.retAddr 402), some (.ref 0), some (.ref 18), some (.ref 25), some (.int i), some (.int r2206.1), some (.int r2211.1)], [.ref 18])) (h' := (HPf r2206.2.1 r2211.2 r2206.2.2.1, (cc + r2206.2.2.2), (ss + 6 * r2206.2.2.2))) rfl ?_
      refine mv_E.call (z := 24) (vs := [.ref 18]) (f' := (634, [some (.retAddr 402), some (.ref 0), some (.ref 18), some (.ref 25), some (.int i), some (.int r2206.1), some (.int r2211.1)], [])) (h' := (HPf r2206.2.1 r2211.2 r2206.2.2.1, (cc + r2206.2.2.2), (ss + 6 * r2206.2.2.2))) rfl rfl rfl (t_24 L xs rfl) (mv_okl rfl) ?_
      refine mv_E.rT (t := mt_135 L xs) rfl 1 (f' := (636, [some (.retAddr 402), some (.ref 0), some (.ref 18), some (.ref 25), some (.int i), some (.int r2206.1), some (.int r2211.1)], [.int r2206.1, .int (f_24 r2211.2)])) (h' := (HPf r2206.2.1 r2211.2 r2206.2.2.1, (cc + r2206.2.2.2), (ss + 6 * r2206.2.2.2))) rfl ?_
      by_cases hc2215 : (f_24 r2211.2) = r2206.1
      · replace h := (if_pos hc2215).symm.trans h
        refine mv_E.go rfl (mi_icmp_pos hc2215) ?_
        refine mv_E.rT (t := mt_135 L xs) rfl 1 (f' := (643, [some (.retAddr 402), some (.ref 0), some (.ref 18), some (.ref 25), some (.int i), some (.int r2206.1), some (.int r2211.1)], [.int r2206.1])) (h' := (HPf r2206.2.1 r2211.2 r2206.2.2.1, (cc + r2206.2.2.2), (ss + 6 * r2206.2.2.2))) rfl ?_
        by_cases hc2214 : ¬ r2206.1 = 0
        · replace h := (if_pos hc2214).symm.trans h
          refine mv_E.go rfl (mi_if_pos hc2214) ?_
          refine mv_E.rT (t := mt_135 L xs) rfl 1 (f' := (661, [some (.retAddr 402), some (.ref 0), some (.ref 18), some (.ref 25), some (.int i), some (.int r2206.1), some (.int r2211.1)], [])) (h' := (HPf r2206.2.1 r2211.2 r2206.2.2.1, (cc + r2206.2.2.2), (ss + 6 * r2206.2.2.2))) rfl ?_
          exact hk r2206.2.1 r2211.2 r2206.2.2.1 (cc + r2206.2.2.2) (ss + 6 * r2206.2.2.2) (some r2206.1) (some r2211.1) _ h
        replace h := (if_neg hc2214).symm.trans h
        refine mv_E.go rfl (mi_if_neg hc2214) ?_
        refine mv_E.rT (t := mt_135 L xs) rfl 6 (f' := (653, [some (.retAddr 402), some (.ref 0), some (.ref 18), some (.ref 25), some (.int i), some (.int r2206.1), some (.int r2211.1)], [.int (lg_cmp (r2206.2.2.1 0) (Int32.toInt64 r2211.1))])) (h' := (HPf r2206.2.1 r2211.2 r2206.2.2.1, (cc + r2206.2.2.2), (ss + 6 * r2206.2.2.2))) rfl ?_
        by_cases hc2213 : (lg_cmp (r2206.2.2.1 0) (Int32.toInt64 r2211.1)) = 0
        · replace h := (if_pos hc2213).symm.trans h
          refine mv_E.go rfl (mi_if_pos hc2213) ?_
          refine mv_E.rT (t := mt_135 L xs) rfl 1 (f' := (661, [some (.retAddr 402), some (.ref 0), some (.ref 18), some (.ref 25), some (.int i), some (.int r2206.1), some (.int r2211.1)], [])) (h' := (HPf r2206.2.1 r2211.2 r2206.2.2.1, (cc + r2206.2.2.2), (ss + 6 * r2206.2.2.2))) rfl ?_
          exact hk r2206.2.1 r2211.2 r2206.2.2.1 (cc + r2206.2.2.2) (ss + 6 * r2206.2.2.2) (some r2206.1) (some r2211.1) _ h
        replace h := (if_neg hc2213).symm.trans h
        refine mv_E.go rfl (mi_if_neg hc2213) ?_
        refine mv_E.rT (t := mt_135 L xs) rfl 1 (f' := (657, [some (.retAddr 402), some (.ref 0), some (.ref 18), some (.ref 25), some (.int i), some (.int r2206.1), some (.int r2211.1)], [.int 0])) (h' := (HPf r2206.2.1 r2211.2 r2206.2.2.1, (cc + r2206.2.2.2), (ss + 6 * r2206.2.2.2))) rfl ?_
        cases h
        exact mv_E.done rfl mi_zret0
      replace h := (if_neg hc2215).symm.trans h
      refine mv_E.go rfl (mi_icmp_neg hc2215) ?_
      refine mv_E.rT (t := mt_135 L xs) rfl 1 (f' := (640, [some (.retAddr 402), some (.ref 0), some (.ref 18), some (.ref 25), some (.int i), some (.int r2206.1), some (.int r2211.1)], [.int 0])) (h' := (HPf r2206.2.1 r2211.2 r2206.2.2.1, (cc + r2206.2.2.2), (ss + 6 * r2206.2.2.2))) rfl ?_
      cases h
      exact mv_E.done rfl mi_zret0
    replace h := (if_neg hc2223).symm.trans h
    refine mv_E.go rfl (mi_if_neg hc2223) ?_
    refine mv_E.rT (t := mt_135 L xs) rfl 6 (f' := (618, [some (.retAddr 402), some (.ref 0), some (.ref 18), some (.ref 25), some (.int i), some (.int r2206.1), d6.map .int], [.int (i + 2), .retAddr 402, .int 1, .ref 18])) (h' := (HPf r2206.2.1 M r2206.2.2.1, (cc + r2206.2.2.2), (ss + 6 * r2206.2.2.2))) rfl ?_
    by_cases hb2216 : mv_in (i + 2) L = true
    rotate_left
    · cases (if_neg hb2216).symm.trans h
    replace h := (if_pos hb2216).symm.trans h
    refine mv_E.go rfl (mi_tld_at rfl hb2216) ?_
    refine mv_E.rT (t := mt_135 L xs) rfl 4 (f' := (624, [some (.retAddr 402), some (.ref 0), some (.ref 18), some (.ref 25), some (.int i), some (.int r2206.1), d6.map .int], [.int (i + 3), .retAddr 402, .int (xs (i + 2).toNatClampNeg), .int 1, .ref 18])) (h' := (HPf r2206.2.1 M r2206.2.2.1, (cc + r2206.2.2.2), (ss + 6 * r2206.2.2.2))) rfl ?_
    by_cases hb2217 : mv_in (i + 3) L = true
    rotate_left
    · cases (if_neg hb2217).symm.trans h
    replace h := (if_pos hb2217).symm.trans h
    refine mv_E.go rfl (mi_tld_at rfl hb2217) ?_
    show mv_E (mp L xs) 135 (625, [some (.retAddr 402), some (.ref 0), some (.ref 18), some (.ref 25), some (.int i), some (.int r2206.1), d6.map .int], [.int (xs (i + 3).toNatClampNeg), .int (xs (i + 2).toNatClampNeg), .int 1, .ref 18]) (HPf r2206.2.1 M r2206.2.2.1, (cc + r2206.2.2.2), (ss + 6 * r2206.2.2.2)) _
    obtain ⟨r2218, hr2219, h⟩ := Option.bind_eq_some_iff.mp h
    refine mv_E.call (z := 134) (vs := [.ref 18, .int 1, .int (xs (i + 2).toNatClampNeg), .int (xs (i + 3).toNatClampNeg)]) (f' := (628, [some (.retAddr 402), some (.ref 0), some (.ref 18), some (.ref 25), some (.int i), some (.int r2206.1), d6.map .int], [])) (h' := (HPf r2206.2.1 M r2206.2.2.1, (cc + r2206.2.2.2), (ss + 6 * r2206.2.2.2))) rfl rfl rfl (t_134 L xs hr2219) (mv_okl rfl) ?_
    refine mv_E.rT (t := mt_135 L xs) rfl 2 (f' := (631, [some (.retAddr 402), some (.ref 0), some (.ref 18), some (.ref 25), some (.int i), some (.int r2206.1), some (.int r2218.1)], [.ref 18])) (h' := (HPf r2206.2.1 r2218.2 r2206.2.2.1, (cc + r2206.2.2.2), (ss + 6 * r2206.2.2.2))) rfl ?_
    refine mv_E.call (z := 24) (vs := [.ref 18]) (f' := (634, [some (.retAddr 402), some (.ref 0), some (.ref 18), some (.ref 25), some (.int i), some (.int r2206.1), some (.int r2218.1)], [])) (h' := (HPf r2206.2.1 r2218.2 r2206.2.2.1, (cc + r2206.2.2.2), (ss + 6 * r2206.2.2.2))) rfl rfl rfl (t_24 L xs rfl) (mv_okl rfl) ?_
    refine mv_E.rT (t := mt_135 L xs) rfl 1 (f' := (636, [some (.retAddr 402), some (.ref 0), some (.ref 18), some (.ref 25), some (.int i), some (.int r2206.1), some (.int r2218.1)], [.int r2206.1, .int (f_24 r2218.2)])) (h' := (HPf r2206.2.1 r2218.2 r2206.2.2.1, (cc + r2206.2.2.2), (ss + 6 * r2206.2.2.2))) rfl ?_
    by_cases hc2222 : (f_24 r2218.2) = r2206.1
    · replace h := (if_pos hc2222).symm.trans h
      refine mv_E.go rfl (mi_icmp_pos hc2222) ?_
      refine mv_E.rT (t := mt_135 L xs) rfl 1 (f' := (643, [some (.retAddr 402), some (.ref 0), some (.ref 18), some (.ref 25), some (.int i), some (.int r2206.1), some (.int r2218.1)], [.int r2206.1])) (h' := (HPf r2206.2.1 r2218.2 r2206.2.2.1, (cc + r2206.2.2.2), (ss + 6 * r2206.2.2.2))) rfl ?_
      by_cases hc2221 : ¬ r2206.1 = 0
      · replace h := (if_pos hc2221).symm.trans h
        refine mv_E.go rfl (mi_if_pos hc2221) ?_
        refine mv_E.rT (t := mt_135 L xs) rfl 1 (f' := (661, [some (.retAddr 402), some (.ref 0), some (.ref 18), some (.ref 25), some (.int i), some (.int r2206.1), some (.int r2218.1)], [])) (h' := (HPf r2206.2.1 r2218.2 r2206.2.2.1, (cc + r2206.2.2.2), (ss + 6 * r2206.2.2.2))) rfl ?_
        exact hk r2206.2.1 r2218.2 r2206.2.2.1 (cc + r2206.2.2.2) (ss + 6 * r2206.2.2.2) (some r2206.1) (some r2218.1) _ h
      replace h := (if_neg hc2221).symm.trans h
      refine mv_E.go rfl (mi_if_neg hc2221) ?_
      refine mv_E.rT (t := mt_135 L xs) rfl 6 (f' := (653, [some (.retAddr 402), some (.ref 0), some (.ref 18), some (.ref 25), some (.int i), some (.int r2206.1), some (.int r2218.1)], [.int (lg_cmp (r2206.2.2.1 0) (Int32.toInt64 r2218.1))])) (h' := (HPf r2206.2.1 r2218.2 r2206.2.2.1, (cc + r2206.2.2.2), (ss + 6 * r2206.2.2.2))) rfl ?_
      by_cases hc2220 : (lg_cmp (r2206.2.2.1 0) (Int32.toInt64 r2218.1)) = 0
      · replace h := (if_pos hc2220).symm.trans h
        refine mv_E.go rfl (mi_if_pos hc2220) ?_
        refine mv_E.rT (t := mt_135 L xs) rfl 1 (f' := (661, [some (.retAddr 402), some (.ref 0), some (.ref 18), some (.ref 25), some (.int i), some (.int r2206.1), some (.int r2218.1)], [])) (h' := (HPf r2206.2.1 r2218.2 r2206.2.2.1, (cc + r2206.2.2.2), (ss + 6 * r2206.2.2.2))) rfl ?_
        exact hk r2206.2.1 r2218.2 r2206.2.2.1 (cc + r2206.2.2.2) (ss + 6 * r2206.2.2.2) (some r2206.1) (some r2218.1) _ h
      replace h := (if_neg hc2220).symm.trans h
      refine mv_E.go rfl (mi_if_neg hc2220) ?_
      refine mv_E.rT (t := mt_135 L xs) rfl 1 (f' := (657, [some (.retAddr 402), some (.ref 0), some (.ref 18), some (.ref 25), some (.int i), some (.int r2206.1), some (.int r2218.1)], [.int 0])) (h' := (HPf r2206.2.1 r2218.2 r2206.2.2.1, (cc + r2206.2.2.2), (ss + 6 * r2206.2.2.2))) rfl ?_
      cases h
      exact mv_E.done rfl mi_zret0
    replace h := (if_neg hc2222).symm.trans h
    refine mv_E.go rfl (mi_icmp_neg hc2222) ?_
    refine mv_E.rT (t := mt_135 L xs) rfl 1 (f' := (640, [some (.retAddr 402), some (.ref 0), some (.ref 18), some (.ref 25), some (.int i), some (.int r2206.1), some (.int r2218.1)], [.int 0])) (h' := (HPf r2206.2.1 r2218.2 r2206.2.2.1, (cc + r2206.2.2.2), (ss + 6 * r2206.2.2.2))) rfl ?_
    cases h
    exact mv_E.done rfl mi_zret0
  · refine mv_E.rT (t := mt_135 L xs) rfl 5 (f' := (571, [some (.retAddr 402), some (.ref 0), some (.ref 18), some (.ref 25), some (.int i), some (.int d5), d6.map .int], [.int (i + 1), .retAddr 402, .ref 0])) (h' := (HPf C M o, cc, ss)) rfl ?_
    by_cases hb2225 : mv_in (i + 1) L = true
    rotate_left
    · cases (if_neg hb2225).symm.trans h
    replace h := (if_pos hb2225).symm.trans h
    refine mv_E.go rfl (mi_tld_at rfl hb2225) ?_
    show mv_E (mp L xs) 135 (572, [some (.retAddr 402), some (.ref 0), some (.ref 18), some (.ref 25), some (.int i), some (.int d5), d6.map .int], [.int (xs (i + 1).toNatClampNeg), .ref 0]) (HPf C M o, cc, ss) _
    by_cases hc2266 : (xs (i + 1).toNatClampNeg) = 0
    · replace h := (if_pos hc2266).symm.trans h
      refine mv_E.go rfl (mi_if_pos hc2266) ?_
      refine mv_E.rT (t := mt_135 L xs) rfl 5 (f' := (585, [some (.retAddr 402), some (.ref 0), some (.ref 18), some (.ref 25), some (.int i), some (.int d5), d6.map .int], [.int (i + 2), .retAddr 402, .int 0, .ref 0])) (h' := (HPf C M o, cc, ss)) rfl ?_
      by_cases hb2226 : mv_in (i + 2) L = true
      rotate_left
      · cases (if_neg hb2226).symm.trans h
      replace h := (if_pos hb2226).symm.trans h
      refine mv_E.go rfl (mi_tld_at rfl hb2226) ?_
      refine mv_E.rT (t := mt_135 L xs) rfl 4 (f' := (591, [some (.retAddr 402), some (.ref 0), some (.ref 18), some (.ref 25), some (.int i), some (.int d5), d6.map .int], [.int (i + 3), .retAddr 402, .int (xs (i + 2).toNatClampNeg), .int 0, .ref 0])) (h' := (HPf C M o, cc, ss)) rfl ?_
      by_cases hb2227 : mv_in (i + 3) L = true
      rotate_left
      · cases (if_neg hb2227).symm.trans h
      replace h := (if_pos hb2227).symm.trans h
      refine mv_E.go rfl (mi_tld_at rfl hb2227) ?_
      refine mv_E.rT (t := mt_135 L xs) rfl 1 (f' := (593, [some (.retAddr 402), some (.ref 0), some (.ref 18), some (.ref 25), some (.int i), some (.int d5), d6.map .int], [.ref 25, .int (xs (i + 3).toNatClampNeg), .int (xs (i + 2).toNatClampNeg), .int 0, .ref 0])) (h' := (HPf C M o, cc, ss)) rfl ?_
      obtain ⟨r2228, hr2229, h⟩ := Option.bind_eq_some_iff.mp h
      refine mv_E.call (z := 133) (vs := [.ref 0, .int 0, .int (xs (i + 2).toNatClampNeg), .int (xs (i + 3).toNatClampNeg), .ref 25]) (f' := (596, [some (.retAddr 402), some (.ref 0), some (.ref 18), some (.ref 25), some (.int i), some (.int d5), d6.map .int], [])) (h' := (HPf C M o, cc, ss)) rfl rfl rfl (t_133 L xs hr2229) (mv_okl rfl) ?_
      refine mv_E.rT (t := mt_135 L xs) rfl 6 (f' := (604, [some (.retAddr 402), some (.ref 0), some (.ref 18), some (.ref 25), some (.int i), some (.int r2228.1), d6.map .int], [.int (i + 1), .retAddr 402, .ref 18])) (h' := (HPf r2228.2.1 M r2228.2.2.1, (cc + r2228.2.2.2), (ss + 6 * r2228.2.2.2))) rfl ?_
      by_cases hb2230 : mv_in (i + 1) L = true
      rotate_left
      · cases (if_neg hb2230).symm.trans h
      replace h := (if_pos hb2230).symm.trans h
      refine mv_E.go rfl (mi_tld_at rfl hb2230) ?_
      show mv_E (mp L xs) 135 (605, [some (.retAddr 402), some (.ref 0), some (.ref 18), some (.ref 25), some (.int i), some (.int r2228.1), d6.map .int], [.int (xs (i + 1).toNatClampNeg), .ref 18]) (HPf r2228.2.1 M r2228.2.2.1, (cc + r2228.2.2.2), (ss + 6 * r2228.2.2.2)) _
      by_cases hc2245 : (xs (i + 1).toNatClampNeg) = 0
      · replace h := (if_pos hc2245).symm.trans h
        refine mv_E.go rfl (mi_if_pos hc2245) ?_
        refine mv_E.rT (t := mt_135 L xs) rfl 5 (f' := (618, [some (.retAddr 402), some (.ref 0), some (.ref 18), some (.ref 25), some (.int i), some (.int r2228.1), d6.map .int], [.int (i + 2), .retAddr 402, .int 0, .ref 18])) (h' := (HPf r2228.2.1 M r2228.2.2.1, (cc + r2228.2.2.2), (ss + 6 * r2228.2.2.2))) rfl ?_
        by_cases hb2231 : mv_in (i + 2) L = true
        rotate_left
        · cases (if_neg hb2231).symm.trans h
        replace h := (if_pos hb2231).symm.trans h
        refine mv_E.go rfl (mi_tld_at rfl hb2231) ?_
        refine mv_E.rT (t := mt_135 L xs) rfl 4 (f' := (624, [some (.retAddr 402), some (.ref 0), some (.ref 18), some (.ref 25), some (.int i), some (.int r2228.1), d6.map .int], [.int (i + 3), .retAddr 402, .int (xs (i + 2).toNatClampNeg), .int 0, .ref 18])) (h' := (HPf r2228.2.1 M r2228.2.2.1, (cc + r2228.2.2.2), (ss + 6 * r2228.2.2.2))) rfl ?_
        by_cases hb2232 : mv_in (i + 3) L = true
        rotate_left
        · cases (if_neg hb2232).symm.trans h
        replace h := (if_pos hb2232).symm.trans h
        refine mv_E.go rfl (mi_tld_at rfl hb2232) ?_
        show mv_E (mp L xs) 135 (625, [some (.retAddr 402), some (.ref 0), some (.ref 18), some (.ref 25), some (.int i), some (.int r2228.1), d6.map .int], [.int (xs (i + 3).toNatClampNeg), .int (xs (i + 2).toNatClampNeg), .int 0, .ref 18]) (HPf r2228.2.1 M r2228.2.2.1, (cc + r2228.2.2.2), (ss + 6 * r2228.2.2.2)) _
        obtain ⟨r2233, hr2234, h⟩ := Option.bind_eq_some_iff.mp h
        refine mv_E.call (z := 134) (vs := [.ref 18, .int 0, .int (xs (i + 2).toNatClampNeg), .int (xs (i + 3).toNatClampNeg)]) (f' := (628, [some (.retAddr 402), some (.ref 0), some (.ref 18), some (.ref 25), some (.int i), some (.int r2228.1), d6.map .int], [])) (h' := (HPf r2228.2.1 M r2228.2.2.1, (cc + r2228.2.2.2), (ss + 6 * r2228.2.2.2))) rfl rfl rfl (t_134 L xs hr2234) (mv_okl rfl) ?_
        refine mv_E.rT (t := mt_135 L xs) rfl 2 (f' := (631, [some (.retAddr 402), some (.ref 0), some (.ref 18), some (.ref 25), some (.int i), some (.int r2228.1), some (.int r2233.1)], [.ref 18])) (h' := (HPf r2228.2.1 r2233.2 r2228.2.2.1, (cc + r2228.2.2.2), (ss + 6 * r2228.2.2.2))) rfl ?_
        refine mv_E.call (z := 24) (vs := [.ref 18]) (f' := (634, [some (.retAddr 402), some (.ref 0), some (.ref 18), some (.ref 25), some (.int i), some (.int r2228.1), some (.int r2233.1)], [])) (h' := (HPf r2228.2.1 r2233.2 r2228.2.2.1, (cc + r2228.2.2.2), (ss + 6 * r2228.2.2.2))) rfl rfl rfl (t_24 L xs rfl) (mv_okl rfl) ?_
        refine mv_E.rT (t := mt_135 L xs) rfl 1 (f' := (636, [some (.retAddr 402), some (.ref 0), some (.ref 18), some (.ref 25), some (.int i), some (.int r2228.1), some (.int r2233.1)], [.int r2228.1, .int (f_24 r2233.2)])) (h' := (HPf r2228.2.1 r2233.2 r2228.2.2.1, (cc + r2228.2.2.2), (ss + 6 * r2228.2.2.2))) rfl ?_
        by_cases hc2237 : (f_24 r2233.2) = r2228.1
        · replace h := (if_pos hc2237).symm.trans h
          refine mv_E.go rfl (mi_icmp_pos hc2237) ?_
          refine mv_E.rT (t := mt_135 L xs) rfl 1 (f' := (643, [some (.retAddr 402), some (.ref 0), some (.ref 18), some (.ref 25), some (.int i), some (.int r2228.1), some (.int r2233.1)], [.int r2228.1])) (h' := (HPf r2228.2.1 r2233.2 r2228.2.2.1, (cc + r2228.2.2.2), (ss + 6 * r2228.2.2.2))) rfl ?_
          by_cases hc2236 : ¬ r2228.1 = 0
          · replace h := (if_pos hc2236).symm.trans h
            refine mv_E.go rfl (mi_if_pos hc2236) ?_
            refine mv_E.rT (t := mt_135 L xs) rfl 1 (f' := (661, [some (.retAddr 402), some (.ref 0), some (.ref 18), some (.ref 25), some (.int i), some (.int r2228.1), some (.int r2233.1)], [])) (h' := (HPf r2228.2.1 r2233.2 r2228.2.2.1, (cc + r2228.2.2.2), (ss + 6 * r2228.2.2.2))) rfl ?_
            exact hk r2228.2.1 r2233.2 r2228.2.2.1 (cc + r2228.2.2.2) (ss + 6 * r2228.2.2.2) (some r2228.1) (some r2233.1) _ h
          replace h := (if_neg hc2236).symm.trans h
          refine mv_E.go rfl (mi_if_neg hc2236) ?_
          refine mv_E.rT (t := mt_135 L xs) rfl 6 (f' := (653, [some (.retAddr 402), some (.ref 0), some (.ref 18), some (.ref 25), some (.int i), some (.int r2228.1), some (.int r2233.1)], [.int (lg_cmp (r2228.2.2.1 0) (Int32.toInt64 r2233.1))])) (h' := (HPf r2228.2.1 r2233.2 r2228.2.2.1, (cc + r2228.2.2.2), (ss + 6 * r2228.2.2.2))) rfl ?_
          by_cases hc2235 : (lg_cmp (r2228.2.2.1 0) (Int32.toInt64 r2233.1)) = 0
          · replace h := (if_pos hc2235).symm.trans h
            refine mv_E.go rfl (mi_if_pos hc2235) ?_
            refine mv_E.rT (t := mt_135 L xs) rfl 1 (f' := (661, [some (.retAddr 402), some (.ref 0), some (.ref 18), some (.ref 25), some (.int i), some (.int r2228.1), some (.int r2233.1)], [])) (h' := (HPf r2228.2.1 r2233.2 r2228.2.2.1, (cc + r2228.2.2.2), (ss + 6 * r2228.2.2.2))) rfl ?_
            exact hk r2228.2.1 r2233.2 r2228.2.2.1 (cc + r2228.2.2.2) (ss + 6 * r2228.2.2.2) (some r2228.1) (some r2233.1) _ h
          replace h := (if_neg hc2235).symm.trans h
          refine mv_E.go rfl (mi_if_neg hc2235) ?_
          refine mv_E.rT (t := mt_135 L xs) rfl 1 (f' := (657, [some (.retAddr 402), some (.ref 0), some (.ref 18), some (.ref 25), some (.int i), some (.int r2228.1), some (.int r2233.1)], [.int 0])) (h' := (HPf r2228.2.1 r2233.2 r2228.2.2.1, (cc + r2228.2.2.2), (ss + 6 * r2228.2.2.2))) rfl ?_
          cases h
          exact mv_E.done rfl mi_zret0
        replace h := (if_neg hc2237).symm.trans h
        refine mv_E.go rfl (mi_icmp_neg hc2237) ?_
        refine mv_E.rT (t := mt_135 L xs) rfl 1 (f' := (640, [some (.retAddr 402), some (.ref 0), some (.ref 18), some (.ref 25), some (.int i), some (.int r2228.1), some (.int r2233.1)], [.int 0])) (h' := (HPf r2228.2.1 r2233.2 r2228.2.2.1, (cc + r2228.2.2.2), (ss + 6 * r2228.2.2.2))) rfl ?_
        cases h
        exact mv_E.done rfl mi_zret0
      replace h := (if_neg hc2245).symm.trans h
      refine mv_E.go rfl (mi_if_neg hc2245) ?_
      refine mv_E.rT (t := mt_135 L xs) rfl 6 (f' := (618, [some (.retAddr 402), some (.ref 0), some (.ref 18), some (.ref 25), some (.int i), some (.int r2228.1), d6.map .int], [.int (i + 2), .retAddr 402, .int 1, .ref 18])) (h' := (HPf r2228.2.1 M r2228.2.2.1, (cc + r2228.2.2.2), (ss + 6 * r2228.2.2.2))) rfl ?_
      by_cases hb2238 : mv_in (i + 2) L = true
      rotate_left
      · cases (if_neg hb2238).symm.trans h
      replace h := (if_pos hb2238).symm.trans h
      refine mv_E.go rfl (mi_tld_at rfl hb2238) ?_
      refine mv_E.rT (t := mt_135 L xs) rfl 4 (f' := (624, [some (.retAddr 402), some (.ref 0), some (.ref 18), some (.ref 25), some (.int i), some (.int r2228.1), d6.map .int], [.int (i + 3), .retAddr 402, .int (xs (i + 2).toNatClampNeg), .int 1, .ref 18])) (h' := (HPf r2228.2.1 M r2228.2.2.1, (cc + r2228.2.2.2), (ss + 6 * r2228.2.2.2))) rfl ?_
      by_cases hb2239 : mv_in (i + 3) L = true
      rotate_left
      · cases (if_neg hb2239).symm.trans h
      replace h := (if_pos hb2239).symm.trans h
      refine mv_E.go rfl (mi_tld_at rfl hb2239) ?_
      show mv_E (mp L xs) 135 (625, [some (.retAddr 402), some (.ref 0), some (.ref 18), some (.ref 25), some (.int i), some (.int r2228.1), d6.map .int], [.int (xs (i + 3).toNatClampNeg), .int (xs (i + 2).toNatClampNeg), .int 1, .ref 18]) (HPf r2228.2.1 M r2228.2.2.1, (cc + r2228.2.2.2), (ss + 6 * r2228.2.2.2)) _
      obtain ⟨r2240, hr2241, h⟩ := Option.bind_eq_some_iff.mp h
      refine mv_E.call (z := 134) (vs := [.ref 18, .int 1, .int (xs (i + 2).toNatClampNeg), .int (xs (i + 3).toNatClampNeg)]) (f' := (628, [some (.retAddr 402), some (.ref 0), some (.ref 18), some (.ref 25), some (.int i), some (.int r2228.1), d6.map .int], [])) (h' := (HPf r2228.2.1 M r2228.2.2.1, (cc + r2228.2.2.2), (ss + 6 * r2228.2.2.2))) rfl rfl rfl (t_134 L xs hr2241) (mv_okl rfl) ?_
      refine mv_E.rT (t := mt_135 L xs) rfl 2 (f' := (631, [some (.retAddr 402), some (.ref 0), some (.ref 18), some (.ref 25), some (.int i), some (.int r2228.1), some (.int r2240.1)], [.ref 18])) (h' := (HPf r2228.2.1 r2240.2 r2228.2.2.1, (cc + r2228.2.2.2), (ss + 6 * r2228.2.2.2))) rfl ?_
      refine mv_E.call (z := 24) (vs := [.ref 18]) (f' := (634, [some (.retAddr 402), some (.ref 0), some (.ref 18), some (.ref 25), some (.int i), some (.int r2228.1), some (.int r2240.1)], [])) (h' := (HPf r2228.2.1 r2240.2 r2228.2.2.1, (cc + r2228.2.2.2), (ss + 6 * r2228.2.2.2))) rfl rfl rfl (t_24 L xs rfl) (mv_okl rfl) ?_
      refine mv_E.rT (t := mt_135 L xs) rfl 1 (f' := (636, [some (.retAddr 402), some (.ref 0), some (.ref 18), some (.ref 25), some (.int i), some (.int r2228.1), some (.int r2240.1)], [.int r2228.1, .int (f_24 r2240.2)])) (h' := (HPf r2228.2.1 r2240.2 r2228.2.2.1, (cc + r2228.2.2.2), (ss + 6 * r2228.2.2.2))) rfl ?_
      by_cases hc2244 : (f_24 r2240.2) = r2228.1
      · replace h := (if_pos hc2244).symm.trans h
        refine mv_E.go rfl (mi_icmp_pos hc2244) ?_
        refine mv_E.rT (t := mt_135 L xs) rfl 1 (f' := (643, [some (.retAddr 402), some (.ref 0), some (.ref 18), some (.ref 25), some (.int i), some (.int r2228.1), some (.int r2240.1)], [.int r2228.1])) (h' := (HPf r2228.2.1 r2240.2 r2228.2.2.1, (cc + r2228.2.2.2), (ss + 6 * r2228.2.2.2))) rfl ?_
        by_cases hc2243 : ¬ r2228.1 = 0
        · replace h := (if_pos hc2243).symm.trans h
          refine mv_E.go rfl (mi_if_pos hc2243) ?_
          refine mv_E.rT (t := mt_135 L xs) rfl 1 (f' := (661, [some (.retAddr 402), some (.ref 0), some (.ref 18), some (.ref 25), some (.int i), some (.int r2228.1), some (.int r2240.1)], [])) (h' := (HPf r2228.2.1 r2240.2 r2228.2.2.1, (cc + r2228.2.2.2), (ss + 6 * r2228.2.2.2))) rfl ?_
          exact hk r2228.2.1 r2240.2 r2228.2.2.1 (cc + r2228.2.2.2) (ss + 6 * r2228.2.2.2) (some r2228.1) (some r2240.1) _ h
        replace h := (if_neg hc2243).symm.trans h
        refine mv_E.go rfl (mi_if_neg hc2243) ?_
        refine mv_E.rT (t := mt_135 L xs) rfl 6 (f' := (653, [some (.retAddr 402), some (.ref 0), some (.ref 18), some (.ref 25), some (.int i), some (.int r2228.1), some (.int r2240.1)], [.int (lg_cmp (r2228.2.2.1 0) (Int32.toInt64 r2240.1))])) (h' := (HPf r2228.2.1 r2240.2 r2228.2.2.1, (cc + r2228.2.2.2), (ss + 6 * r2228.2.2.2))) rfl ?_
        by_cases hc2242 : (lg_cmp (r2228.2.2.1 0) (Int32.toInt64 r2240.1)) = 0
        · replace h := (if_pos hc2242).symm.trans h
          refine mv_E.go rfl (mi_if_pos hc2242) ?_
          refine mv_E.rT (t := mt_135 L xs) rfl 1 (f' := (661, [some (.retAddr 402), some (.ref 0), some (.ref 18), some (.ref 25), some (.int i), some (.int r2228.1), some (.int r2240.1)], [])) (h' := (HPf r2228.2.1 r2240.2 r2228.2.2.1, (cc + r2228.2.2.2), (ss + 6 * r2228.2.2.2))) rfl ?_
          exact hk r2228.2.1 r2240.2 r2228.2.2.1 (cc + r2228.2.2.2) (ss + 6 * r2228.2.2.2) (some r2228.1) (some r2240.1) _ h
        replace h := (if_neg hc2242).symm.trans h
        refine mv_E.go rfl (mi_if_neg hc2242) ?_
        refine mv_E.rT (t := mt_135 L xs) rfl 1 (f' := (657, [some (.retAddr 402), some (.ref 0), some (.ref 18), some (.ref 25), some (.int i), some (.int r2228.1), some (.int r2240.1)], [.int 0])) (h' := (HPf r2228.2.1 r2240.2 r2228.2.2.1, (cc + r2228.2.2.2), (ss + 6 * r2228.2.2.2))) rfl ?_
        cases h
        exact mv_E.done rfl mi_zret0
      replace h := (if_neg hc2244).symm.trans h
      refine mv_E.go rfl (mi_icmp_neg hc2244) ?_
      refine mv_E.rT (t := mt_135 L xs) rfl 1 (f' := (640, [some (.retAddr 402), some (.ref 0), some (.ref 18), some (.ref 25), some (.int i), some (.int r2228.1), some (.int r2240.1)], [.int 0])) (h' := (HPf r2228.2.1 r2240.2 r2228.2.2.1, (cc + r2228.2.2.2), (ss + 6 * r2228.2.2.2))) rfl ?_
      cases h
      exact mv_E.done rfl mi_zret0
    replace h := (if_neg hc2266).symm.trans h
    refine mv_E.go rfl (mi_if_neg hc2266) ?_
    refine mv_E.rT (t := mt_135 L xs) rfl 6 (f' := (585, [some (.retAddr 402), some (.ref 0), some (.ref 18), some (.ref 25), some (.int i), some (.int d5), d6.map .int], [.int (i + 2), .retAddr 402, .int 1, .ref 0])) (h' := (HPf C M o, cc, ss)) rfl ?_
    by_cases hb2246 : mv_in (i + 2) L = true
    rotate_left
    · cases (if_neg hb2246).symm.trans h
    replace h := (if_pos hb2246).symm.trans h
    refine mv_E.go rfl (mi_tld_at rfl hb2246) ?_
    refine mv_E.rT (t := mt_135 L xs) rfl 4 (f' := (591, [some (.retAddr 402), some (.ref 0), some (.ref 18), some (.ref 25), some (.int i), some (.int d5), d6.map .int], [.int (i + 3), .retAddr 402, .int (xs (i + 2).toNatClampNeg), .int 1, .ref 0])) (h' := (HPf C M o, cc, ss)) rfl ?_
    by_cases hb2247 : mv_in (i + 3) L = true
    rotate_left
    · cases (if_neg hb2247).symm.trans h
    replace h := (if_pos hb2247).symm.trans h
    refine mv_E.go rfl (mi_tld_at rfl hb2247) ?_
    refine mv_E.rT (t := mt_135 L xs) rfl 1 (f' := (593, [some (.retAddr 402), some (.ref 0), some (.ref 18), some (.ref 25), some (.int i), some (.int d5), d6.map .int], [.ref 25, .int (xs (i + 3).toNatClampNeg), .int (xs (i + 2).toNatClampNeg), .int 1, .ref 0])) (h' := (HPf C M o, cc, ss)) rfl ?_
    obtain ⟨r2248, hr2249, h⟩ := Option.bind_eq_some_iff.mp h
    refine mv_E.call (z := 133) (vs := [.ref 0, .int 1, .int (xs (i + 2).toNatClampNeg), .int (xs (i + 3).toNatClampNeg), .ref 25]) (f' := (596, [some (.retAddr 402), some (.ref 0), some (.ref 18), some (.ref 25), some (.int i), some (.int d5), d6.map .int], [])) (h' := (HPf C M o, cc, ss)) rfl rfl rfl (t_133 L xs hr2249) (mv_okl rfl) ?_
    refine mv_E.rT (t := mt_135 L xs) rfl 6 (f' := (604, [some (.retAddr 402), some (.ref 0), some (.ref 18), some (.ref 25), some (.int i), some (.int r2248.1), d6.map .int], [.int (i + 1), .retAddr 402, .ref 18])) (h' := (HPf r2248.2.1 M r2248.2.2.1, (cc + r2248.2.2.2), (ss + 6 * r2248.2.2.2))) rfl ?_
    by_cases hb2250 : mv_in (i + 1) L = true
    rotate_left
    · cases (if_neg hb2250).symm.trans h
    replace h := (if_pos hb2250).symm.trans h
    refine mv_E.go rfl (mi_tld_at rfl hb2250) ?_
    show mv_E (mp L xs) 135 (605, [some (.retAddr 402), some (.ref 0), some (.ref 18), some (.ref 25), some (.int i), some (.int r2248.1), d6.map .int], [.int (xs (i + 1).toNatClampNeg), .ref 18]) (HPf r2248.2.1 M r2248.2.2.1, (cc + r2248.2.2.2), (ss + 6 * r2248.2.2.2)) _
    by_cases hc2265 : (xs (i + 1).toNatClampNeg) = 0
    · replace h := (if_pos hc2265).symm.trans h
      refine mv_E.go rfl (mi_if_pos hc2265) ?_
      refine mv_E.rT (t := mt_135 L xs) rfl 5 (f' := (618, [some (.retAddr 402), some (.ref 0), some (.ref 18), some (.ref 25), some (.int i), some (.int r2248.1), d6.map .int], [.int (i + 2), .retAddr 402, .int 0, .ref 18])) (h' := (HPf r2248.2.1 M r2248.2.2.1, (cc + r2248.2.2.2), (ss + 6 * r2248.2.2.2))) rfl ?_
      by_cases hb2251 : mv_in (i + 2) L = true
      rotate_left
      · cases (if_neg hb2251).symm.trans h
      replace h := (if_pos hb2251).symm.trans h
      refine mv_E.go rfl (mi_tld_at rfl hb2251) ?_
      refine mv_E.rT (t := mt_135 L xs) rfl 4 (f' := (624, [some (.retAddr 402), some (.ref 0), some (.ref 18), some (.ref 25), some (.int i), some (.int r2248.1), d6.map .int], [.int (i + 3), .retAddr 402, .int (xs (i + 2).toNatClampNeg), .int 0, .ref 18])) (h' := (HPf r2248.2.1 M r2248.2.2.1, (cc + r2248.2.2.2), (ss + 6 * r2248.2.2.2))) rfl ?_
      by_cases hb2252 : mv_in (i + 3) L = true
      rotate_left
      · cases (if_neg hb2252).symm.trans h
      replace h := (if_pos hb2252).symm.trans h
      refine mv_E.go rfl (mi_tld_at rfl hb2252) ?_
      show mv_E (mp L xs) 135 (625, [some (.retAddr 402), some (.ref 0), some (.ref 18), some (.ref 25), some (.int i), some (.int r2248.1), d6.map .int], [.int (xs (i + 3).toNatClampNeg), .int (xs (i + 2).toNatClampNeg), .int 0, .ref 18]) (HPf r2248.2.1 M r2248.2.2.1, (cc + r2248.2.2.2), (ss + 6 * r2248.2.2.2)) _
      obtain ⟨r2253, hr2254, h⟩ := Option.bind_eq_some_iff.mp h
      refine mv_E.call (z := 134) (vs := [.ref 18, .int 0, .int (xs (i + 2).toNatClampNeg), .int (xs (i + 3).toNatClampNeg)]) (f' := (628, [some (.retAddr 402), some (.ref 0), some (.ref 18), some (.ref 25), some (.int i), some (.int r2248.1), d6.map .int], [])) (h' := (HPf r2248.2.1 M r2248.2.2.1, (cc + r2248.2.2.2), (ss + 6 * r2248.2.2.2))) rfl rfl rfl (t_134 L xs hr2254) (mv_okl rfl) ?_
      refine mv_E.rT (t := mt_135 L xs) rfl 2 (f' := (631, [some (.retAddr 402), some (.ref 0), some (.ref 18), some (.ref 25), some (.int i), some (.int r2248.1), some (.int r2253.1)], [.ref 18])) (h' := (HPf r2248.2.1 r2253.2 r2248.2.2.1, (cc + r2248.2.2.2), (ss + 6 * r2248.2.2.2))) rfl ?_
      refine mv_E.call (z := 24) (vs := [.ref 18]) (f' := (634, [some (.retAddr 402), some (.ref 0), some (.ref 18), some (.ref 25), some (.int i), some (.int r2248.1), some (.int r2253.1)], [])) (h' := (HPf r2248.2.1 r2253.2 r2248.2.2.1, (cc + r2248.2.2.2), (ss + 6 * r2248.2.2.2))) rfl rfl rfl (t_24 L xs rfl) (mv_okl rfl) ?_
      refine mv_E.rT (t := mt_135 L xs) rfl 1 (f' := (636, [some (.retAddr 402), some (.ref 0), some (.ref 18), some (.ref 25), some (.int i), some (.int r2248.1), some (.int r2253.1)], [.int r2248.1, .int (f_24 r2253.2)])) (h' := (HPf r2248.2.1 r2253.2 r2248.2.2.1, (cc + r2248.2.2.2), (ss + 6 * r2248.2.2.2))) rfl ?_
      by_cases hc2257 : (f_24 r2253.2) = r2248.1
      · replace h := (if_pos hc2257).symm.trans h
        refine mv_E.go rfl (mi_icmp_pos hc2257) ?_
        refine mv_E.rT (t := mt_135 L xs) rfl 1 (f' := (643, [some (.retAddr 402), some (.ref 0), some (.ref 18), some (.ref 25), some (.int i), some (.int r2248.1), some (.int r2253.1)], [.int r2248.1])) (h' := (HPf r2248.2.1 r2253.2 r2248.2.2.1, (cc + r2248.2.2.2), (ss + 6 * r2248.2.2.2))) rfl ?_
        by_cases hc2256 : ¬ r2248.1 = 0
        · replace h := (if_pos hc2256).symm.trans h
          refine mv_E.go rfl (mi_if_pos hc2256) ?_
          refine mv_E.rT (t := mt_135 L xs) rfl 1 (f' := (661, [some (.retAddr 402), some (.ref 0), some (.ref 18), some (.ref 25), some (.int i), some (.int r2248.1), some (.int r2253.1)], [])) (h' := (HPf r2248.2.1 r2253.2 r2248.2.2.1, (cc + r2248.2.2.2), (ss + 6 * r2248.2.2.2))) rfl ?_
          exact hk r2248.2.1 r2253.2 r2248.2.2.1 (cc + r2248.2.2.2) (ss + 6 * r2248.2.2.2) (some r2248.1) (some r2253.1) _ h
        replace h := (if_neg hc2256).symm.trans h
        refine mv_E.go rfl (mi_if_neg hc2256) ?_
        refine mv_E.rT (t := mt_135 L xs) rfl 6 (f' := (653, [some (.retAddr 402), some (.ref 0), some (.ref 18), some (.ref 25), some (.int i), some (.int r2248.1), some (.int r2253.1)], [.int (lg_cmp (r2248.2.2.1 0) (Int32.toInt64 r2253.1))])) (h' := (HPf r2248.2.1 r2253.2 r2248.2.2.1, (cc + r2248.2.2.2), (ss + 6 * r2248.2.2.2))) rfl ?_
        by_cases hc2255 : (lg_cmp (r2248.2.2.1 0) (Int32.toInt64 r2253.1)) = 0
        · replace h := (if_pos hc2255).symm.trans h
          refine mv_E.go rfl (mi_if_pos hc2255) ?_
          refine mv_E.rT (t := mt_135 L xs) rfl 1 (f' := (661, [some (.retAddr 402), some (.ref 0), some (.ref 18), some (.ref 25), some (.int i), some (.int r2248.1), some (.int r2253.1)], [])) (h' := (HPf r2248.2.1 r2253.2 r2248.2.2.1, (cc + r2248.2.2.2), (ss + 6 * r2248.2.2.2))) rfl ?_
          exact hk r2248.2.1 r2253.2 r2248.2.2.1 (cc + r2248.2.2.2) (ss + 6 * r2248.2.2.2) (some r2248.1) (some r2253.1) _ h
        replace h := (if_neg hc2255).symm.trans h
        refine mv_E.go rfl (mi_if_neg hc2255) ?_
        refine mv_E.rT (t := mt_135 L xs) rfl 1 (f' := (657, [some (.retAddr 402), some (.ref 0), some (.ref 18), some (.ref 25), some (.int i), some (.int r2248.1), some (.int r2253.1)], [.int 0])) (h' := (HPf r2248.2.1 r2253.2 r2248.2.2.1, (cc + r2248.2.2.2), (ss + 6 * r2248.2.2.2))) rfl ?_
        cases h
        exact mv_E.done rfl mi_zret0
      replace h := (if_neg hc2257).symm.trans h
      refine mv_E.go rfl (mi_icmp_neg hc2257) ?_
      refine mv_E.rT (t := mt_135 L xs) rfl 1 (f' := (640, [some (.retAddr 402), some (.ref 0), some (.ref 18), some (.ref 25), some (.int i), some (.int r2248.1), some (.int r2253.1)], [.int 0])) (h' := (HPf r2248.2.1 r2253.2 r2248.2.2.1, (cc + r2248.2.2.2), (ss + 6 * r2248.2.2.2))) rfl ?_
      cases h
      exact mv_E.done rfl mi_zret0
    replace h := (if_neg hc2265).symm.trans h
    refine mv_E.go rfl (mi_if_neg hc2265) ?_
    refine mv_E.rT (t := mt_135 L xs) rfl 6 (f' := (618, [some (.retAddr 402), some (.ref 0), some (.ref 18), some (.ref 25), some (.int i), some (.int r2248.1), d6.map .int], [.int (i + 2), .retAddr 402, .int 1, .ref 18])) (h' := (HPf r2248.2.1 M r2248.2.2.1, (cc + r2248.2.2.2), (ss + 6 * r2248.2.2.2))) rfl ?_
    by_cases hb2258 : mv_in (i + 2) L = true
    rotate_left
    · cases (if_neg hb2258).symm.trans h
    replace h := (if_pos hb2258).symm.trans h
    refine mv_E.go rfl (mi_tld_at rfl hb2258) ?_
    refine mv_E.rT (t := mt_135 L xs) rfl 4 (f' := (624, [some (.retAddr 402), some (.ref 0), some (.ref 18), some (.ref 25), some (.int i), some (.int r2248.1), d6.map .int], [.int (i + 3), .retAddr 402, .int (xs (i + 2).toNatClampNeg), .int 1, .ref 18])) (h' := (HPf r2248.2.1 M r2248.2.2.1, (cc + r2248.2.2.2), (ss + 6 * r2248.2.2.2))) rfl ?_
    by_cases hb2259 : mv_in (i + 3) L = true
    rotate_left
    · cases (if_neg hb2259).symm.trans h
    replace h := (if_pos hb2259).symm.trans h
    refine mv_E.go rfl (mi_tld_at rfl hb2259) ?_
    show mv_E (mp L xs) 135 (625, [some (.retAddr 402), some (.ref 0), some (.ref 18), some (.ref 25), some (.int i), some (.int r2248.1), d6.map .int], [.int (xs (i + 3).toNatClampNeg), .int (xs (i + 2).toNatClampNeg), .int 1, .ref 18]) (HPf r2248.2.1 M r2248.2.2.1, (cc + r2248.2.2.2), (ss + 6 * r2248.2.2.2)) _
    obtain ⟨r2260, hr2261, h⟩ := Option.bind_eq_some_iff.mp h
    refine mv_E.call (z := 134) (vs := [.ref 18, .int 1, .int (xs (i + 2).toNatClampNeg), .int (xs (i + 3).toNatClampNeg)]) (f' := (628, [some (.retAddr 402), some (.ref 0), some (.ref 18), some (.ref 25), some (.int i), some (.int r2248.1), d6.map .int], [])) (h' := (HPf r2248.2.1 M r2248.2.2.1, (cc + r2248.2.2.2), (ss + 6 * r2248.2.2.2))) rfl rfl rfl (t_134 L xs hr2261) (mv_okl rfl) ?_
    refine mv_E.rT (t := mt_135 L xs) rfl 2 (f' := (631, [some (.retAddr 402), some (.ref 0), some (.ref 18), some (.ref 25), some (.int i), some (.int r2248.1), some (.int r2260.1)], [.ref 18])) (h' := (HPf r2248.2.1 r2260.2 r2248.2.2.1, (cc + r2248.2.2.2), (ss + 6 * r2248.2.2.2))) rfl ?_
    refine mv_E.call (z := 24) (vs := [.ref 18]) (f' := (634, [some (.retAddr 402), some (.ref 0), some (.ref 18), some (.ref 25), some (.int i), some (.int r2248.1), some (.int r2260.1)], [])) (h' := (HPf r2248.2.1 r2260.2 r2248.2.2.1, (cc + r2248.2.2.2), (ss + 6 * r2248.2.2.2))) rfl rfl rfl (t_24 L xs rfl) (mv_okl rfl) ?_
    refine mv_E.rT (t := mt_135 L xs) rfl 1 (f' := (636, [some (.retAddr 402), some (.ref 0), some (.ref 18), some (.ref 25), some (.int i), some (.int r2248.1), some (.int r2260.1)], [.int r2248.1, .int (f_24 r2260.2)])) (h' := (HPf r2248.2.1 r2260.2 r2248.2.2.1, (cc + r2248.2.2.2), (ss + 6 * r2248.2.2.2))) rfl ?_
    by_cases hc2264 : (f_24 r2260.2) = r2248.1
    · replace h := (if_pos hc2264).symm.trans h
      refine mv_E.go rfl (mi_icmp_pos hc2264) ?_
      refine mv_E.rT (t := mt_135 L xs) rfl 1 (f' := (643, [some (.retAddr 402), some (.ref 0), some (.ref 18), some (.ref 25), some (.int i), some (.int r2248.1), some (.int r2260.1)], [.int r2248.1])) (h' := (HPf r2248.2.1 r2260.2 r2248.2.2.1, (cc + r2248.2.2.2), (ss + 6 * r2248.2.2.2))) rfl ?_
      by_cases hc2263 : ¬ r2248.1 = 0
      · replace h := (if_pos hc2263).symm.trans h
        refine mv_E.go rfl (mi_if_pos hc2263) ?_
        refine mv_E.rT (t := mt_135 L xs) rfl 1 (f' := (661, [some (.retAddr 402), some (.ref 0), some (.ref 18), some (.ref 25), some (.int i), some (.int r2248.1), some (.int r2260.1)], [])) (h' := (HPf r2248.2.1 r2260.2 r2248.2.2.1, (cc + r2248.2.2.2), (ss + 6 * r2248.2.2.2))) rfl ?_
        exact hk r2248.2.1 r2260.2 r2248.2.2.1 (cc + r2248.2.2.2) (ss + 6 * r2248.2.2.2) (some r2248.1) (some r2260.1) _ h
      replace h := (if_neg hc2263).symm.trans h
      refine mv_E.go rfl (mi_if_neg hc2263) ?_
      refine mv_E.rT (t := mt_135 L xs) rfl 6 (f' := (653, [some (.retAddr 402), some (.ref 0), some (.ref 18), some (.ref 25), some (.int i), some (.int r2248.1), some (.int r2260.1)], [.int (lg_cmp (r2248.2.2.1 0) (Int32.toInt64 r2260.1))])) (h' := (HPf r2248.2.1 r2260.2 r2248.2.2.1, (cc + r2248.2.2.2), (ss + 6 * r2248.2.2.2))) rfl ?_
      by_cases hc2262 : (lg_cmp (r2248.2.2.1 0) (Int32.toInt64 r2260.1)) = 0
      · replace h := (if_pos hc2262).symm.trans h
        refine mv_E.go rfl (mi_if_pos hc2262) ?_
        refine mv_E.rT (t := mt_135 L xs) rfl 1 (f' := (661, [some (.retAddr 402), some (.ref 0), some (.ref 18), some (.ref 25), some (.int i), some (.int r2248.1), some (.int r2260.1)], [])) (h' := (HPf r2248.2.1 r2260.2 r2248.2.2.1, (cc + r2248.2.2.2), (ss + 6 * r2248.2.2.2))) rfl ?_
        exact hk r2248.2.1 r2260.2 r2248.2.2.1 (cc + r2248.2.2.2) (ss + 6 * r2248.2.2.2) (some r2248.1) (some r2260.1) _ h
      replace h := (if_neg hc2262).symm.trans h
      refine mv_E.go rfl (mi_if_neg hc2262) ?_
      refine mv_E.rT (t := mt_135 L xs) rfl 1 (f' := (657, [some (.retAddr 402), some (.ref 0), some (.ref 18), some (.ref 25), some (.int i), some (.int r2248.1), some (.int r2260.1)], [.int 0])) (h' := (HPf r2248.2.1 r2260.2 r2248.2.2.1, (cc + r2248.2.2.2), (ss + 6 * r2248.2.2.2))) rfl ?_
      cases h
      exact mv_E.done rfl mi_zret0
    replace h := (if_neg hc2264).symm.trans h
    refine mv_E.go rfl (mi_icmp_neg hc2264) ?_
    refine mv_E.rT (t := mt_135 L xs) rfl 1 (f' := (640, [some (.retAddr 402), some (.ref 0), some (.ref 18), some (.ref 25), some (.int i), some (.int r2248.1), some (.int r2260.1)], [.int 0])) (h' := (HPf r2248.2.1 r2260.2 r2248.2.2.1, (cc + r2248.2.2.2), (ss + 6 * r2248.2.2.2))) rfl ?_
    cases h
    exact mv_E.done rfl mi_zret0
def lawL (L : Nat) (xs : Nat → Int32) : Nat → CS → CS → (Nat → Int64) → Nat → Nat → Int32 → Option (Int32 × CS × CS × (Nat → Int64) × Nat × Nat)
  | 0, _, _, _, _, _, _ => none
  | n + 1, C, M, o, cc, ss, i => (if Int32.ofNat L - 4 < i then some (1, C, M, o, cc, ss) else if mv_in i L = true then (if (xs i.toNatClampNeg) &&& 15 = 0 then g_0 L xs (fun C M o cc ss => lawL L xs n C M o cc ss (i + 4)) C M o cc ss i else (if (xs i.toNatClampNeg) &&& 15 = 1 then g_1 L xs (fun C M o cc ss => lawL L xs n C M o cc ss (i + 4)) C M o cc ss i else (if (xs i.toNatClampNeg) &&& 15 = 2 then g_2 L xs (fun C M o cc ss => lawL L xs n C M o cc ss (i + 4)) C M o cc ss i else (if (xs i.toNatClampNeg) &&& 15 = 3 then g_3 L xs (fun C M o cc ss => lawL L xs n C M o cc ss (i + 4)) C M o cc ss i else (if (xs i.toNatClampNeg) &&& 15 = 4 then g_4 L xs (fun C M o cc ss => lawL L xs n C M o cc ss (i + 4)) C M o cc ss i else (if (xs i.toNatClampNeg) &&& 15 = 5 then g_5 L xs (fun C M o cc ss => lawL L xs n C M o cc ss (i + 4)) C M o cc ss i else (if (xs i.toNatClampNeg) &&& 15 = 6 then g_6 L xs (fun C M o cc ss => lawL L xs n C M o cc ss (i + 4)) C M o cc ss i else (if (xs i.toNatClampNeg) &&& 15 = 7 then g_7 L xs (fun C M o cc ss => lawL L xs n C M o cc ss (i + 4)) C M o cc ss i else (if (xs i.toNatClampNeg) &&& 15 = 8 then g_8 L xs (fun C M o cc ss => lawL L xs n C M o cc ss (i + 4)) C M o cc ss i else (if (xs i.toNatClampNeg) &&& 15 = 9 then g_9 L xs (fun C M o cc ss => lawL L xs n C M o cc ss (i + 4)) C M o cc ss i else (if (xs i.toNatClampNeg) &&& 15 = 10 then g_10 L xs (fun C M o cc ss => lawL L xs n C M o cc ss (i + 4)) C M o cc ss i else (fun C M o cc ss => lawL L xs n C M o cc ss (i + 4)) C M o cc ss))))))))))) else none)
theorem t_lawL (L : Nat) (xs : Nat → Int32) : ∀ (n : Nat) (C M : CS) (o : Nat → Int64) (cc ss : Nat) (i : Int32) (d5 d6 : Option Int32) (ret : Int32 × CS × CS × (Nat → Int64) × Nat × Nat), lawL L xs n C M o cc ss i = some ret → mv_E (mp L xs) 135 (23, [some (.retAddr 402), some (.ref 0), some (.ref 18), some (.ref 25), some (.int i), d5.map .int, d6.map .int], []) (HPf C M o, cc, ss) (cvL ret) := by
  intro n
  induction n with
  | zero => intro C M o cc ss i d5 d6 ret h; rw [lawL] at h; cases h
  | succ n ih =>
    intro C M o cc ss i d5 d6 ret h
    rw [lawL] at h
    refine mv_E.rT (t := mt_135 L xs) rfl 5 (f' := (29, [some (.retAddr 402), some (.ref 0), some (.ref 18), some (.ref 25), some (.int i), d5.map .int, d6.map .int], [.int (Int32.ofNat L - 4), .int i])) (h' := (HPf C M o, cc, ss)) rfl ?_
    by_cases hc : Int32.ofNat L - 4 < i
    · replace h := (if_pos hc).symm.trans h
      refine mv_E.go rfl (mi_icmp_pos hc) ?_
      cases h
      refine mv_E.rT (t := mt_135 L xs) rfl 1 (f' := (668, [some (.retAddr 402), some (.ref 0), some (.ref 18), some (.ref 25), some (.int i), d5.map .int, d6.map .int], [.int 1])) (h' := (HPf C M o, cc, ss)) rfl ?_
      exact mv_E.done rfl mi_zret1
    replace h := (if_neg hc).symm.trans h
    refine mv_E.go rfl (mi_icmp_neg hc) ?_
    refine mv_E.rT (t := mt_135 L xs) rfl 2 (f' := (35, [some (.retAddr 402), some (.ref 0), some (.ref 18), some (.ref 25), some (.int i), d5.map .int, d6.map .int], [.int i, .retAddr 402])) (h' := (HPf C M o, cc, ss)) rfl ?_
    by_cases hb : mv_in i L = true
    rotate_left
    · cases (if_neg hb).symm.trans h
    replace h := (if_pos hb).symm.trans h
    refine mv_E.go rfl (mi_tld_at rfl hb) ?_
    refine mv_E.rT (t := mt_135 L xs) rfl 2 (f' := (39, [some (.retAddr 402), some (.ref 0), some (.ref 18), some (.ref 25), some (.int i), d5.map .int, d6.map .int], [.int ((xs i.toNatClampNeg) &&& 15)])) (h' := (HPf C M o, cc, ss)) rfl ?_
    have e0 : mv_sw ((xs i.toNatClampNeg) &&& 15) 661 [(0, 96), (1, 196), (2, 240), (3, 284), (4, 328), (5, 352), (6, 365), (7, 421), (8, 477), (9, 521), (10, 565)] = mv_sw ((xs i.toNatClampNeg) &&& 15) 661 [(0, 96), (1, 196), (2, 240), (3, 284), (4, 328), (5, 352), (6, 365), (7, 421), (8, 477), (9, 521), (10, 565)] := rfl
    by_cases hs0 : ((xs i.toNatClampNeg) &&& 15) = 0
    · replace h := (if_pos hs0).symm.trans h
      refine mv_E.go rfl (mi_sw_at (e0.trans (if_pos hs0))) ?_
      exact tg_0 L xs _ i (fun C M o cc ss d5 d6 ret h => mv_E.rT (t := mt_135 L xs) rfl 2 (f' := (23, [some (.retAddr 402), some (.ref 0), some (.ref 18), some (.ref 25), some (.int (i + 4)), d5.map .int, d6.map .int], [])) (h' := (HPf C M o, cc, ss)) rfl (ih C M o cc ss (i + 4) d5 d6 ret h)) C M o cc ss d5 d6 ret h
    replace h := (if_neg hs0).symm.trans h
    have e1 := e0.trans (if_neg hs0)
    by_cases hs1 : ((xs i.toNatClampNeg) &&& 15) = 1
    · replace h := (if_pos hs1).symm.trans h
      refine mv_E.go rfl (mi_sw_at (e1.trans (if_pos hs1))) ?_
      exact tg_1 L xs _ i (fun C M o cc ss d5 d6 ret h => mv_E.rT (t := mt_135 L xs) rfl 2 (f' := (23, [some (.retAddr 402), some (.ref 0), some (.ref 18), some (.ref 25), some (.int (i + 4)), d5.map .int, d6.map .int], [])) (h' := (HPf C M o, cc, ss)) rfl (ih C M o cc ss (i + 4) d5 d6 ret h)) C M o cc ss d5 d6 ret h
    replace h := (if_neg hs1).symm.trans h
    have e2 := e1.trans (if_neg hs1)
    by_cases hs2 : ((xs i.toNatClampNeg) &&& 15) = 2
    · replace h := (if_pos hs2).symm.trans h
      refine mv_E.go rfl (mi_sw_at (e2.trans (if_pos hs2))) ?_
      exact tg_2 L xs _ i (fun C M o cc ss d5 d6 ret h => mv_E.rT (t := mt_135 L xs) rfl 2 (f' := (23, [some (.retAddr 402), some (.ref 0), some (.ref 18), some (.ref 25), some (.int (i + 4)), d5.map .int, d6.map .int], [])) (h' := (HPf C M o, cc, ss)) rfl (ih C M o cc ss (i + 4) d5 d6 ret h)) C M o cc ss d5 d6 ret h
    replace h := (if_neg hs2).symm.trans h
    have e3 := e2.trans (if_neg hs2)
    by_cases hs3 : ((xs i.toNatClampNeg) &&& 15) = 3
    · replace h := (if_pos hs3).symm.trans h
      refine mv_E.go rfl (mi_sw_at (e3.trans (if_pos hs3))) ?_
      exact tg_3 L xs _ i (fun C M o cc ss d5 d6 ret h => mv_E.rT (t := mt_135 L xs) rfl 2 (f' := (23, [some (.retAddr 402), some (.ref 0), some (.ref 18), some (.ref 25), some (.int (i + 4)), d5.map .int, d6.map .int], [])) (h' := (HPf C M o, cc, ss)) rfl (ih C M o cc ss (i + 4) d5 d6 ret h)) C M o cc ss d5 d6 ret h
    replace h := (if_neg hs3).symm.trans h
    have e4 := e3.trans (if_neg hs3)
    by_cases hs4 : ((xs i.toNatClampNeg) &&& 15) = 4
    · replace h := (if_pos hs4).symm.trans h
      refine mv_E.go rfl (mi_sw_at (e4.trans (if_pos hs4))) ?_
      exact tg_4 L xs _ i (fun C M o cc ss d5 d6 ret h => mv_E.rT (t := mt_135 L xs) rfl 2 (f' := (23, [some (.retAddr 402), some (.ref 0), some (.ref 18), some (.ref 25), some (.int (i + 4)), d5.map .int, d6.map .int], [])) (h' := (HPf C M o, cc, ss)) rfl (ih C M o cc ss (i + 4) d5 d6 ret h)) C M o cc ss d5 d6 ret h
    replace h := (if_neg hs4).symm.trans h
    have e5 := e4.trans (if_neg hs4)
    by_cases hs5 : ((xs i.toNatClampNeg) &&& 15) = 5
    · replace h := (if_pos hs5).symm.trans h
      refine mv_E.go rfl (mi_sw_at (e5.trans (if_pos hs5))) ?_
      exact tg_5 L xs _ i (fun C M o cc ss d5 d6 ret h => mv_E.rT (t := mt_135 L xs) rfl 2 (f' := (23, [some (.retAddr 402), some (.ref 0), some (.ref 18), some (.ref 25), some (.int (i + 4)), d5.map .int, d6.map .int], [])) (h' := (HPf C M o, cc, ss)) rfl (ih C M o cc ss (i + 4) d5 d6 ret h)) C M o cc ss d5 d6 ret h
    replace h := (if_neg hs5).symm.trans h
    have e6 := e5.trans (if_neg hs5)
    by_cases hs6 : ((xs i.toNatClampNeg) &&& 15) = 6
    · replace h := (if_pos hs6).symm.trans h
      refine mv_E.go rfl (mi_sw_at (e6.trans (if_pos hs6))) ?_
      exact tg_6 L xs _ i (fun C M o cc ss d5 d6 ret h => mv_E.rT (t := mt_135 L xs) rfl 2 (f' := (23, [some (.retAddr 402), some (.ref 0), some (.ref 18), some (.ref 25), some (.int (i + 4)), d5.map .int, d6.map .int], [])) (h' := (HPf C M o, cc, ss)) rfl (ih C M o cc ss (i + 4) d5 d6 ret h)) C M o cc ss d5 d6 ret h
    replace h := (if_neg hs6).symm.trans h
    have e7 := e6.trans (if_neg hs6)
    by_cases hs7 : ((xs i.toNatClampNeg) &&& 15) = 7
    · replace h := (if_pos hs7).symm.trans h
      refine mv_E.go rfl (mi_sw_at (e7.trans (if_pos hs7))) ?_
      exact tg_7 L xs _ i (fun C M o cc ss d5 d6 ret h => mv_E.rT (t := mt_135 L xs) rfl 2 (f' := (23, [some (.retAddr 402), some (.ref 0), some (.ref 18), some (.ref 25), some (.int (i + 4)), d5.map .int, d6.map .int], [])) (h' := (HPf C M o, cc, ss)) rfl (ih C M o cc ss (i + 4) d5 d6 ret h)) C M o cc ss d5 d6 ret h
    replace h := (if_neg hs7).symm.trans h
    have e8 := e7.trans (if_neg hs7)
    by_cases hs8 : ((xs i.toNatClampNeg) &&& 15) = 8
    · replace h := (if_pos hs8).symm.trans h
      refine mv_E.go rfl (mi_sw_at (e8.trans (if_pos hs8))) ?_
      exact tg_8 L xs _ i (fun C M o cc ss d5 d6 ret h => mv_E.rT (t := mt_135 L xs) rfl 2 (f' := (23, [some (.retAddr 402), some (.ref 0), some (.ref 18), some (.ref 25), some (.int (i + 4)), d5.map .int, d6.map .int], [])) (h' := (HPf C M o, cc, ss)) rfl (ih C M o cc ss (i + 4) d5 d6 ret h)) C M o cc ss d5 d6 ret h
    replace h := (if_neg hs8).symm.trans h
    have e9 := e8.trans (if_neg hs8)
    by_cases hs9 : ((xs i.toNatClampNeg) &&& 15) = 9
    · replace h := (if_pos hs9).symm.trans h
      refine mv_E.go rfl (mi_sw_at (e9.trans (if_pos hs9))) ?_
      exact tg_9 L xs _ i (fun C M o cc ss d5 d6 ret h => mv_E.rT (t := mt_135 L xs) rfl 2 (f' := (23, [some (.retAddr 402), some (.ref 0), some (.ref 18), some (.ref 25), some (.int (i + 4)), d5.map .int, d6.map .int], [])) (h' := (HPf C M o, cc, ss)) rfl (ih C M o cc ss (i + 4) d5 d6 ret h)) C M o cc ss d5 d6 ret h
    replace h := (if_neg hs9).symm.trans h
    have e10 := e9.trans (if_neg hs9)
    by_cases hs10 : ((xs i.toNatClampNeg) &&& 15) = 10
    · replace h := (if_pos hs10).symm.trans h
      refine mv_E.go rfl (mi_sw_at (e10.trans (if_pos hs10))) ?_
      exact tg_10 L xs _ i (fun C M o cc ss d5 d6 ret h => mv_E.rT (t := mt_135 L xs) rfl 2 (f' := (23, [some (.retAddr 402), some (.ref 0), some (.ref 18), some (.ref 25), some (.int (i + 4)), d5.map .int, d6.map .int], [])) (h' := (HPf C M o, cc, ss)) rfl (ih C M o cc ss (i + 4) d5 d6 ret h)) C M o cc ss d5 d6 ret h
    replace h := (if_neg hs10).symm.trans h
    have e11 := e10.trans (if_neg hs10)
    refine mv_E.go rfl (mi_sw_at e11) ?_
    exact mv_E.rT (t := mt_135 L xs) rfl 2 (f' := (23, [some (.retAddr 402), some (.ref 0), some (.ref 18), some (.ref 25), some (.int (i + 4)), d5.map .int, d6.map .int], [])) (h' := (HPf C M o, cc, ss)) rfl (ih C M o cc ss (i + 4) d5 d6 ret h)
