def b_86_116 (M : CS) : Option (CS) := some (ru (M.1) 5 (((M.1 5) + 1)), M.2)
theorem tb_86_116 (L : Nat) (xs : Nat → Int32) (C : CS) (o : Nat → Int64) (c s : Nat) (M : CS) (d1 : Option Int32) (d2 : Option Int32) (ret : CS) (h : b_86_116 M = some ret) : mv_E (mp L xs) 86 (116, [some (.ref 18), d1.map .int, d2.map .int], []) (HPf C M o, c, s) ((.inl none, (HPf C ret o, c, s))) := by
  unfold b_86_116 at h
  refine mv_E.rT (t := mt_86) rfl 6 (f' := (126, [some (.ref 18), d1.map .int, d2.map .int], [])) (h' := (HPf C (ru (M.1) 5 (((M.1 5) + 1)), M.2) o, c, s)) rfl ?_
  cases h
  exact mv_E.done rfl rfl
def b_86_113 (k_25 : CS → Int32 → Option (CS)) (M : CS) (l1 : Int32) : Option (CS) := k_25 M l1
theorem tb_86_113 (L : Nat) (xs : Nat → Int32) (C : CS) (o : Nat → Int64) (c s : Nat) (M : CS) (k_25 : CS → Int32 → Option (CS)) (hk_25 : ∀ (M : CS) (l1 : Int32) (d2 : Option Int32) (ret : CS), k_25 M l1 = some ret → mv_E (mp L xs) 86 (25, [some (.ref 18), some (.int l1), d2.map .int], []) (HPf C M o, c, s) ((.inl none, (HPf C ret o, c, s)))) (l1 : Int32) (d2 : Option Int32) (ret : CS) (h : b_86_113 k_25 M l1 = some ret) : mv_E (mp L xs) 86 (113, [some (.ref 18), some (.int l1), d2.map .int], []) (HPf C M o, c, s) ((.inl none, (HPf C ret o, c, s))) := by
  unfold b_86_113 at h
  refine mv_E.rT (t := mt_86) rfl 1 (f' := (25, [some (.ref 18), some (.int l1), d2.map .int], [])) (h' := (HPf C M o, c, s)) rfl ?_
  exact hk_25 M l1 d2 _ h
def b_86_64 (k_25 : CS → Int32 → Option (CS)) (M : CS) (l1 : Int32) : Option (CS) := (f_69 M (M.1 5)).bind fun r1328 => b_86_113 k_25 r1328 l1
theorem tb_86_64 (L : Nat) (xs : Nat → Int32) (C : CS) (o : Nat → Int64) (c s : Nat) (M : CS) (k_25 : CS → Int32 → Option (CS)) (hk_25 : ∀ (M : CS) (l1 : Int32) (d2 : Option Int32) (ret : CS), k_25 M l1 = some ret → mv_E (mp L xs) 86 (25, [some (.ref 18), some (.int l1), d2.map .int], []) (HPf C M o, c, s) ((.inl none, (HPf C ret o, c, s)))) (l1 : Int32) (d2 : Option Int32) (ret : CS) (h : b_86_64 k_25 M l1 = some ret) : mv_E (mp L xs) 86 (64, [some (.ref 18), some (.int l1), d2.map .int], []) (HPf C M o, c, s) ((.inl none, (HPf C ret o, c, s))) := by
  unfold b_86_64 at h
  refine mv_E.rT (t := mt_86) rfl 3 (f' := (69, [some (.ref 18), some (.int l1), d2.map .int], [.int (M.1 5), .ref 18])) (h' := (HPf C M o, c, s)) rfl ?_
  obtain ⟨r1330, hr1331, h⟩ := Option.bind_eq_some_iff.mp h
  refine mv_E.call (z := 69) (vs := [.ref 18, .int (M.1 5)]) (f' := (72, [some (.ref 18), some (.int l1), d2.map .int], [])) (h' := (HPf C M o, c, s)) rfl rfl rfl (t_69 L xs hr1331) (mv_okl rfl) ?_
  refine mv_E.rT (t := mt_86) rfl 1 (f' := (113, [some (.ref 18), some (.int l1), d2.map .int], [])) (h' := (HPf C r1330 o, c, s)) rfl ?_
  exact tb_86_113 L xs C o c s r1330 k_25 hk_25 l1 d2 _ h
def b_86_25 : Nat → CS → Int32 → Option (CS)
  | 0, _, _ => none
  | n + 1, M, l1 => (f_66 M (M.1 5)).bind fun r1324 => (if r1324 = l1 then b_86_116 M else (if 0 ≤ (M.1 4) then b_86_116 M else (f_66 M (M.1 5)).bind fun r1326 => (if r1326 < 0 then b_86_64 (b_86_25 n) M l1 else (if (f_68 r1326) = 0 then (if ¬ r1326 = 92 then (f_77 M r1326).bind fun r1332 => b_86_113 (b_86_25 n) (ru (r1332.1) 5 (((r1332.1 5) + 1)), r1332.2) l1 else (f_85 (ru (M.1) 5 (((M.1 5) + 1)), M.2)).bind fun r1407 => b_86_113 (b_86_25 n) r1407 l1) else b_86_64 (b_86_25 n) M l1))))
theorem tb_86_25 (L : Nat) (xs : Nat → Int32) (C : CS) (o : Nat → Int64) (c s : Nat) : ∀ (n : Nat) (M : CS) (l1 : Int32) (d2 : Option Int32) (ret : CS), b_86_25 n M l1 = some ret → mv_E (mp L xs) 86 (25, [some (.ref 18), some (.int l1), d2.map .int], []) (HPf C M o, c, s) ((.inl none, (HPf C ret o, c, s))) := by
  intro n
  induction n with
  | zero => intro M l1 d2 ret h; rw [b_86_25] at h; cases h
  | succ n ih =>
    intro M l1 d2 ret h
    rw [b_86_25] at h
    refine mv_E.rT (t := mt_86) rfl 3 (f' := (30, [some (.ref 18), some (.int l1), d2.map .int], [.int (M.1 5), .ref 18])) (h' := (HPf C M o, c, s)) rfl ?_
    obtain ⟨r1414, hr1415, h⟩ := Option.bind_eq_some_iff.mp h
    refine mv_E.call (z := 66) (vs := [.ref 18, .int (M.1 5)]) (f' := (33, [some (.ref 18), some (.int l1), d2.map .int], [])) (h' := (HPf C M o, c, s)) rfl rfl rfl (t_66 L xs hr1415) (mv_okl rfl) ?_
    refine mv_E.rT (t := mt_86) rfl 1 (f' := (34, [some (.ref 18), some (.int l1), d2.map .int], [.int l1, .int r1414])) (h' := (HPf C M o, c, s)) rfl ?_
    by_cases hc1426 : r1414 = l1
    · replace h := (if_pos hc1426).symm.trans h
      refine mv_E.go rfl (mi_icmp_pos hc1426) ?_
      show mv_E (mp L xs) 86 (116, [some (.ref 18), some (.int l1), d2.map .int], []) (HPf C M o, c, s) _
      exact tb_86_116 L xs C o c s M (some l1) d2 _ h
    replace h := (if_neg hc1426).symm.trans h
    refine mv_E.go rfl (mi_icmp_neg hc1426) ?_
    refine mv_E.rT (t := mt_86) rfl 2 (f' := (41, [some (.ref 18), some (.int l1), d2.map .int], [.int (M.1 4)])) (h' := (HPf C M o, c, s)) rfl ?_
    by_cases hc1425 : 0 ≤ (M.1 4)
    · replace h := (if_pos hc1425).symm.trans h
      refine mv_E.go rfl (mi_if_pos hc1425) ?_
      show mv_E (mp L xs) 86 (116, [some (.ref 18), some (.int l1), d2.map .int], []) (HPf C M o, c, s) _
      exact tb_86_116 L xs C o c s M (some l1) d2 _ h
    replace h := (if_neg hc1425).symm.trans h
    refine mv_E.go rfl (mi_if_neg hc1425) ?_
    refine mv_E.rT (t := mt_86) rfl 3 (f' := (49, [some (.ref 18), some (.int l1), d2.map .int], [.int (M.1 5), .ref 18])) (h' := (HPf C M o, c, s)) rfl ?_
    obtain ⟨r1416, hr1417, h⟩ := Option.bind_eq_some_iff.mp h
    refine mv_E.call (z := 66) (vs := [.ref 18, .int (M.1 5)]) (f' := (52, [some (.ref 18), some (.int l1), d2.map .int], [])) (h' := (HPf C M o, c, s)) rfl rfl rfl (t_66 L xs hr1417) (mv_okl rfl) ?_
    refine mv_E.rT (t := mt_86) rfl 2 (f' := (54, [some (.ref 18), some (.int l1), some (.int r1416)], [.int r1416])) (h' := (HPf C M o, c, s)) rfl ?_
    by_cases hc1424 : r1416 < 0
    · replace h := (if_pos hc1424).symm.trans h
      refine mv_E.go rfl (mi_if_pos hc1424) ?_
      show mv_E (mp L xs) 86 (64, [some (.ref 18), some (.int l1), some (.int r1416)], []) (HPf C M o, c, s) _
      exact tb_86_64 L xs C o c s M (b_86_25 n) ih l1 (some r1416) _ h
    replace h := (if_neg hc1424).symm.trans h
    refine mv_E.go rfl (mi_if_neg hc1424) ?_
    refine mv_E.rT (t := mt_86) rfl 1 (f' := (58, [some (.ref 18), some (.int l1), some (.int r1416)], [.int r1416])) (h' := (HPf C M o, c, s)) rfl ?_
    refine mv_E.call (z := 68) (vs := [.int r1416]) (f' := (61, [some (.ref 18), some (.int l1), some (.int r1416)], [])) (h' := (HPf C M o, c, s)) rfl rfl rfl (t_68 L xs rfl) (mv_okl rfl) ?_
    show mv_E (mp L xs) 86 (61, [some (.ref 18), some (.int l1), some (.int r1416)], [.int (f_68 r1416)]) (HPf C M o, c, s) _
    by_cases hc1423 : (f_68 r1416) = 0
    · replace h := (if_pos hc1423).symm.trans h
      refine mv_E.go rfl (mi_if_pos hc1423) ?_
      refine mv_E.rT (t := mt_86) rfl 2 (f' := (78, [some (.ref 18), some (.int l1), some (.int r1416)], [.int 92, .int r1416])) (h' := (HPf C M o, c, s)) rfl ?_
      by_cases hc1422 : ¬ r1416 = 92
      · replace h := (if_pos hc1422).symm.trans h
        refine mv_E.go rfl (mi_icmp_pos hc1422) ?_
        refine mv_E.rT (t := mt_86) rfl 2 (f' := (100, [some (.ref 18), some (.int l1), some (.int r1416)], [.int r1416, .ref 18])) (h' := (HPf C M o, c, s)) rfl ?_
        obtain ⟨r1418, hr1419, h⟩ := Option.bind_eq_some_iff.mp h
        refine mv_E.call (z := 77) (vs := [.ref 18, .int r1416]) (f' := (103, [some (.ref 18), some (.int l1), some (.int r1416)], [])) (h' := (HPf C M o, c, s)) rfl rfl rfl (t_77 L xs hr1419) (mv_okl rfl) ?_
        refine mv_E.rT (t := mt_86) rfl 6 (f' := (113, [some (.ref 18), some (.int l1), some (.int r1416)], [])) (h' := (HPf C (ru (r1418.1) 5 (((r1418.1 5) + 1)), r1418.2) o, c, s)) rfl ?_
        exact tb_86_113 L xs C o c s (ru (r1418.1) 5 (((r1418.1 5) + 1)), r1418.2) (b_86_25 n) ih l1 (some r1416) _ h
      replace h := (if_neg hc1422).symm.trans h
      refine mv_E.go rfl (mi_icmp_neg hc1422) ?_
      refine mv_E.rT (t := mt_86) rfl 7 (f' := (92, [some (.ref 18), some (.int l1), some (.int r1416)], [.ref 18])) (h' := (HPf C (ru (M.1) 5 (((M.1 5) + 1)), M.2) o, c, s)) rfl ?_
      obtain ⟨r1420, hr1421, h⟩ := Option.bind_eq_some_iff.mp h
      refine mv_E.call (z := 85) (vs := [.ref 18]) (f' := (95, [some (.ref 18), some (.int l1), some (.int r1416)], [])) (h' := (HPf C (ru (M.1) 5 (((M.1 5) + 1)), M.2) o, c, s)) rfl rfl rfl (t_85 L xs hr1421) (mv_okl rfl) ?_
      refine mv_E.rT (t := mt_86) rfl 1 (f' := (113, [some (.ref 18), some (.int l1), some (.int r1416)], [])) (h' := (HPf C r1420 o, c, s)) rfl ?_
      exact tb_86_113 L xs C o c s r1420 (b_86_25 n) ih l1 (some r1416) _ h
    replace h := (if_neg hc1423).symm.trans h
    refine mv_E.go rfl (mi_if_neg hc1423) ?_
    show mv_E (mp L xs) 86 (64, [some (.ref 18), some (.int l1), some (.int r1416)], []) (HPf C M o, c, s) _
    exact tb_86_64 L xs C o c s M (b_86_25 n) ih l1 (some r1416) _ h
def f_86 (M : CS) : Option (CS) := if mv_in (M.1 5) 2000 = true then b_86_25 fu (ru (ru (M.1) 6 (3)) 5 (((M.1 5) + 1)), M.2) ((M.2 0) (M.1 5).toNatClampNeg) else none
theorem t_86 (L : Nat) (xs : Nat → Int32) {C M : CS} {o : Nat → Int64} {c s : Nat} {ret : CS} (h : f_86 M = some ret) : mv_E (mp L xs) 86 (0, [some (.ref 18), none, none], []) (HPf C M o, c, s) ((.inl none, (HPf C ret o, c, s))) := by
  unfold f_86 at h
  refine mv_E.rT (t := mt_86) rfl 7 (f' := (13, [some (.ref 18), none, none], [.int (M.1 5), .ref 19])) (h' := (HPf C (ru (M.1) 6 (3), M.2) o, c, s)) rfl ?_
  by_cases hb1323 : mv_in (M.1 5) 2000 = true
  rotate_left
  · cases (if_neg hb1323).symm.trans h
  replace h := (if_pos hb1323).symm.trans h
  refine mv_E.go rfl (mi_iald_at rfl hb1323) ?_
  refine mv_E.rT (t := mt_86) rfl 7 (f' := (25, [some (.ref 18), some (.int ((M.2 0) (M.1 5).toNatClampNeg)), none], [])) (h' := (HPf C (ru (ru (M.1) 6 (3)) 5 (((M.1 5) + 1)), M.2) o, c, s)) rfl ?_
  exact tb_86_25 L xs C o c s fu (ru (ru (M.1) 6 (3)) 5 (((M.1 5) + 1)), M.2) ((M.2 0) (M.1 5).toNatClampNeg) none _ h
def f_87 (p0 : Int32) : Nat := (if p0 = 3 then 89 else (if p0 = 4 then 90 else (if p0 = 5 then 91 else (if p0 = 6 then 62 else (if p0 = 7 then 62 else (if p0 = 8 then 62 else (if p0 = 9 then 62 else (if p0 = 10 then 62 else (if p0 = 11 then 62 else (if p0 = 12 then 62 else (if p0 = 13 then 62 else (if p0 = 14 then 62 else (if p0 = 15 then 62 else (if p0 = 16 then 92 else (if p0 = 17 then 93 else (if p0 = 18 then 94 else (if p0 = 19 then 95 else (if p0 = 20 then 96 else (if p0 = 21 then 97 else (if p0 = 22 then 98 else (if p0 = 23 then 99 else 62)))))))))))))))))))))
theorem t_87 (L : Nat) (xs : Nat → Int32) {hh : mv_H} {p0 : Int32} {ret : Nat} (h : f_87 p0 = ret) : mv_E (mp L xs) 87 (0, [some (.int p0)], []) hh ((.inl (some (.retAddr ret)), hh)) := by
  unfold f_87 at h
  refine mv_E.rT (t := mt_87) rfl 1 (f' := (1, [some (.int p0)], [.int p0])) (h' := hh) rfl ?_
  have e1439 : mv_sw p0 144 [(3, 100), (4, 104), (5, 108), (6, 144), (7, 144), (8, 144), (9, 144), (10, 144), (11, 144), (12, 144), (13, 144), (14, 144), (15, 144), (16, 112), (17, 116), (18, 120), (19, 124), (20, 128), (21, 132), (22, 136), (23, 140)] = mv_sw p0 144 [(3, 100), (4, 104), (5, 108), (6, 144), (7, 144), (8, 144), (9, 144), (10, 144), (11, 144), (12, 144), (13, 144), (14, 144), (15, 144), (16, 112), (17, 116), (18, 120), (19, 124), (20, 128), (21, 132), (22, 136), (23, 140)] := rfl
  by_cases hs1440 : p0 = 3
  · replace h := (if_pos hs1440).symm.trans h
    refine mv_E.go rfl (mi_sw_at (e1439.trans (if_pos hs1440))) ?_
    refine mv_E.rT (t := mt_87) rfl 1 (f' := (103, [some (.int p0)], [.retAddr 89])) (h' := hh) rfl ?_
    cases h
    exact mv_E.done rfl rfl
  replace h := (if_neg hs1440).symm.trans h
  have e1441 := e1439.trans (if_neg hs1440)
  by_cases hs1442 : p0 = 4
  · replace h := (if_pos hs1442).symm.trans h
    refine mv_E.go rfl (mi_sw_at (e1441.trans (if_pos hs1442))) ?_
    refine mv_E.rT (t := mt_87) rfl 1 (f' := (107, [some (.int p0)], [.retAddr 90])) (h' := hh) rfl ?_
    cases h
    exact mv_E.done rfl rfl
  replace h := (if_neg hs1442).symm.trans h
  have e1443 := e1441.trans (if_neg hs1442)
  by_cases hs1444 : p0 = 5
  · replace h := (if_pos hs1444).symm.trans h
    refine mv_E.go rfl (mi_sw_at (e1443.trans (if_pos hs1444))) ?_
    refine mv_E.rT (t := mt_87) rfl 1 (f' := (111, [some (.int p0)], [.retAddr 91])) (h' := hh) rfl ?_
    cases h
    exact mv_E.done rfl rfl
  replace h := (if_neg hs1444).symm.trans h
  have e1445 := e1443.trans (if_neg hs1444)
  by_cases hs1446 : p0 = 6
  · replace h := (if_pos hs1446).symm.trans h
    refine mv_E.go rfl (mi_sw_at (e1445.trans (if_pos hs1446))) ?_
    refine mv_E.rT (t := mt_87) rfl 1 (f' := (146, [some (.int p0)], [.retAddr 62])) (h' := hh) rfl ?_
    cases h
    exact mv_E.done rfl rfl
  replace h := (if_neg hs1446).symm.trans h
  have e1447 := e1445.trans (if_neg hs1446)
  by_cases hs1448 : p0 = 7
  · replace h := (if_pos hs1448).symm.trans h
    refine mv_E.go rfl (mi_sw_at (e1447.trans (if_pos hs1448))) ?_
    refine mv_E.rT (t := mt_87) rfl 1 (f' := (146, [some (.int p0)], [.retAddr 62])) (h' := hh) rfl ?_
    cases h
    exact mv_E.done rfl rfl
  replace h := (if_neg hs1448).symm.trans h
  have e1449 := e1447.trans (if_neg hs1448)
  by_cases hs1450 : p0 = 8
  · replace h := (if_pos hs1450).symm.trans h
    refine mv_E.go rfl (mi_sw_at (e1449.trans (if_pos hs1450))) ?_
    refine mv_E.rT (t := mt_87) rfl 1 (f' := (146, [some (.int p0)], [.retAddr 62])) (h' := hh) rfl ?_
    cases h
    exact mv_E.done rfl rfl
  replace h := (if_neg hs1450).symm.trans h
  have e1451 := e1449.trans (if_neg hs1450)
  by_cases hs1452 : p0 = 9
  · replace h := (if_pos hs1452).symm.trans h
    refine mv_E.go rfl (mi_sw_at (e1451.trans (if_pos hs1452))) ?_
    refine mv_E.rT (t := mt_87) rfl 1 (f' := (146, [some (.int p0)], [.retAddr 62])) (h' := hh) rfl ?_
    cases h
    exact mv_E.done rfl rfl
  replace h := (if_neg hs1452).symm.trans h
  have e1453 := e1451.trans (if_neg hs1452)
  by_cases hs1454 : p0 = 10
  · replace h := (if_pos hs1454).symm.trans h
    refine mv_E.go rfl (mi_sw_at (e1453.trans (if_pos hs1454))) ?_
    refine mv_E.rT (t := mt_87) rfl 1 (f' := (146, [some (.int p0)], [.retAddr 62])) (h' := hh) rfl ?_
    cases h
    exact mv_E.done rfl rfl
  replace h := (if_neg hs1454).symm.trans h
  have e1455 := e1453.trans (if_neg hs1454)
  by_cases hs1456 : p0 = 11
  · replace h := (if_pos hs1456).symm.trans h
    refine mv_E.go rfl (mi_sw_at (e1455.trans (if_pos hs1456))) ?_
    refine mv_E.rT (t := mt_87) rfl 1 (f' := (146, [some (.int p0)], [.retAddr 62])) (h' := hh) rfl ?_
    cases h
    exact mv_E.done rfl rfl
  replace h := (if_neg hs1456).symm.trans h
  have e1457 := e1455.trans (if_neg hs1456)
  by_cases hs1458 : p0 = 12
  · replace h := (if_pos hs1458).symm.trans h
    refine mv_E.go rfl (mi_sw_at (e1457.trans (if_pos hs1458))) ?_
    refine mv_E.rT (t := mt_87) rfl 1 (f' := (146, [some (.int p0)], [.retAddr 62])) (h' := hh) rfl ?_
    cases h
    exact mv_E.done rfl rfl
  replace h := (if_neg hs1458).symm.trans h
  have e1459 := e1457.trans (if_neg hs1458)
  by_cases hs1460 : p0 = 13
  · replace h := (if_pos hs1460).symm.trans h
    refine mv_E.go rfl (mi_sw_at (e1459.trans (if_pos hs1460))) ?_
    refine mv_E.rT (t := mt_87) rfl 1 (f' := (146, [some (.int p0)], [.retAddr 62])) (h' := hh) rfl ?_
    cases h
    exact mv_E.done rfl rfl
  replace h := (if_neg hs1460).symm.trans h
  have e1461 := e1459.trans (if_neg hs1460)
  by_cases hs1462 : p0 = 14
  · replace h := (if_pos hs1462).symm.trans h
    refine mv_E.go rfl (mi_sw_at (e1461.trans (if_pos hs1462))) ?_
    refine mv_E.rT (t := mt_87) rfl 1 (f' := (146, [some (.int p0)], [.retAddr 62])) (h' := hh) rfl ?_
    cases h
    exact mv_E.done rfl rfl
  replace h := (if_neg hs1462).symm.trans h
  have e1463 := e1461.trans (if_neg hs1462)
  by_cases hs1464 : p0 = 15
  · replace h := (if_pos hs1464).symm.trans h
    refine mv_E.go rfl (mi_sw_at (e1463.trans (if_pos hs1464))) ?_
    refine mv_E.rT (t := mt_87) rfl 1 (f' := (146, [some (.int p0)], [.retAddr 62])) (h' := hh) rfl ?_
    cases h
    exact mv_E.done rfl rfl
  replace h := (if_neg hs1464).symm.trans h
  have e1465 := e1463.trans (if_neg hs1464)
  by_cases hs1466 : p0 = 16
  · replace h := (if_pos hs1466).symm.trans h
    refine mv_E.go rfl (mi_sw_at (e1465.trans (if_pos hs1466))) ?_
    refine mv_E.rT (t := mt_87) rfl 1 (f' := (115, [some (.int p0)], [.retAddr 92])) (h' := hh) rfl ?_
    cases h
    exact mv_E.done rfl rfl
  replace h := (if_neg hs1466).symm.trans h
  have e1467 := e1465.trans (if_neg hs1466)
  by_cases hs1468 : p0 = 17
  · replace h := (if_pos hs1468).symm.trans h
    refine mv_E.go rfl (mi_sw_at (e1467.trans (if_pos hs1468))) ?_
    refine mv_E.rT (t := mt_87) rfl 1 (f' := (119, [some (.int p0)], [.retAddr 93])) (h' := hh) rfl ?_
    cases h
    exact mv_E.done rfl rfl
  replace h := (if_neg hs1468).symm.trans h
  have e1469 := e1467.trans (if_neg hs1468)
  by_cases hs1470 : p0 = 18
  · replace h := (if_pos hs1470).symm.trans h
    refine mv_E.go rfl (mi_sw_at (e1469.trans (if_pos hs1470))) ?_
    refine mv_E.rT (t := mt_87) rfl 1 (f' := (123, [some (.int p0)], [.retAddr 94])) (h' := hh) rfl ?_
    cases h
    exact mv_E.done rfl rfl
  replace h := (if_neg hs1470).symm.trans h
  have e1471 := e1469.trans (if_neg hs1470)
  by_cases hs1472 : p0 = 19
  · replace h := (if_pos hs1472).symm.trans h
    refine mv_E.go rfl (mi_sw_at (e1471.trans (if_pos hs1472))) ?_
    refine mv_E.rT (t := mt_87) rfl 1 (f' := (127, [some (.int p0)], [.retAddr 95])) (h' := hh) rfl ?_
    cases h
    exact mv_E.done rfl rfl
  replace h := (if_neg hs1472).symm.trans h
  have e1473 := e1471.trans (if_neg hs1472)
  by_cases hs1474 : p0 = 20
  · replace h := (if_pos hs1474).symm.trans h
    refine mv_E.go rfl (mi_sw_at (e1473.trans (if_pos hs1474))) ?_
    refine mv_E.rT (t := mt_87) rfl 1 (f' := (131, [some (.int p0)], [.retAddr 96])) (h' := hh) rfl ?_
    cases h
    exact mv_E.done rfl rfl
  replace h := (if_neg hs1474).symm.trans h
  have e1475 := e1473.trans (if_neg hs1474)
  by_cases hs1476 : p0 = 21
  · replace h := (if_pos hs1476).symm.trans h
    refine mv_E.go rfl (mi_sw_at (e1475.trans (if_pos hs1476))) ?_
    refine mv_E.rT (t := mt_87) rfl 1 (f' := (135, [some (.int p0)], [.retAddr 97])) (h' := hh) rfl ?_
    cases h
    exact mv_E.done rfl rfl
  replace h := (if_neg hs1476).symm.trans h
  have e1477 := e1475.trans (if_neg hs1476)
  by_cases hs1478 : p0 = 22
  · replace h := (if_pos hs1478).symm.trans h
    refine mv_E.go rfl (mi_sw_at (e1477.trans (if_pos hs1478))) ?_
    refine mv_E.rT (t := mt_87) rfl 1 (f' := (139, [some (.int p0)], [.retAddr 98])) (h' := hh) rfl ?_
    cases h
    exact mv_E.done rfl rfl
  replace h := (if_neg hs1478).symm.trans h
  have e1479 := e1477.trans (if_neg hs1478)
  by_cases hs1480 : p0 = 23
  · replace h := (if_pos hs1480).symm.trans h
    refine mv_E.go rfl (mi_sw_at (e1479.trans (if_pos hs1480))) ?_
    refine mv_E.rT (t := mt_87) rfl 1 (f' := (143, [some (.int p0)], [.retAddr 99])) (h' := hh) rfl ?_
    cases h
    exact mv_E.done rfl rfl
  replace h := (if_neg hs1480).symm.trans h
  have e1481 := e1479.trans (if_neg hs1480)
  refine mv_E.go rfl (mi_sw_at e1481) ?_
  refine mv_E.rT (t := mt_87) rfl 1 (f' := (146, [some (.int p0)], [.retAddr 62])) (h' := hh) rfl ?_
  cases h
  exact mv_E.done rfl rfl
def b_88_416 (s0 : Int32) : Nat := (f_87 s0)
theorem tb_88_416 (L : Nat) (xs : Nat → Int32) (hh : mv_H) (s0 : Int32) (d0 : Option Int32) (ret : Nat) (h : b_88_416 s0 = ret) : mv_E (mp L xs) 88 (416, [d0.map .int], [.int s0]) hh ((.inl (some (.retAddr ret)), hh)) := by
  unfold b_88_416 at h
  show mv_E (mp L xs) 88 (416, [d0.map .int], [.int s0]) hh _
  refine mv_E.call (z := 87) (vs := [.int s0]) (f' := (419, [d0.map .int], [])) (h' := hh) rfl rfl rfl (t_87 L xs rfl) (mv_okl rfl) ?_
  show mv_E (mp L xs) 88 (419, [d0.map .int], [.retAddr (f_87 s0)]) hh _
  cases h
  exact mv_E.done rfl rfl
def f_88 (p0 : Int32) : Nat := (if p0 = 1 then 63 else (if p0 = 2 then 64 else (if p0 = 3 then (if p0 ≤ 30 then b_88_416 p0 else b_88_416 (p0 - 30)) else (if p0 = 4 then (if p0 ≤ 30 then b_88_416 p0 else b_88_416 (p0 - 30)) else (if p0 = 5 then (if p0 ≤ 30 then b_88_416 p0 else b_88_416 (p0 - 30)) else (if p0 = 6 then 65 else (if p0 = 7 then 66 else (if p0 = 8 then 67 else (if p0 = 9 then 68 else (if p0 = 10 then 69 else (if p0 = 11 then 70 else (if p0 = 12 then 71 else (if p0 = 13 then 72 else (if p0 = 14 then (if p0 ≤ 30 then b_88_416 p0 else b_88_416 (p0 - 30)) else (if p0 = 15 then (if p0 ≤ 30 then b_88_416 p0 else b_88_416 (p0 - 30)) else (if p0 = 16 then (if p0 ≤ 30 then b_88_416 p0 else b_88_416 (p0 - 30)) else (if p0 = 17 then (if p0 ≤ 30 then b_88_416 p0 else b_88_416 (p0 - 30)) else (if p0 = 18 then (if p0 ≤ 30 then b_88_416 p0 else b_88_416 (p0 - 30)) else (if p0 = 19 then (if p0 ≤ 30 then b_88_416 p0 else b_88_416 (p0 - 30)) else (if p0 = 20 then (if p0 ≤ 30 then b_88_416 p0 else b_88_416 (p0 - 30)) else (if p0 = 21 then (if p0 ≤ 30 then b_88_416 p0 else b_88_416 (p0 - 30)) else (if p0 = 22 then (if p0 ≤ 30 then b_88_416 p0 else b_88_416 (p0 - 30)) else (if p0 = 23 then (if p0 ≤ 30 then b_88_416 p0 else b_88_416 (p0 - 30)) else (if p0 = 24 then (if p0 ≤ 30 then b_88_416 p0 else b_88_416 (p0 - 30)) else (if p0 = 25 then (if p0 ≤ 30 then b_88_416 p0 else b_88_416 (p0 - 30)) else (if p0 = 26 then (if p0 ≤ 30 then b_88_416 p0 else b_88_416 (p0 - 30)) else (if p0 = 27 then (if p0 ≤ 30 then b_88_416 p0 else b_88_416 (p0 - 30)) else (if p0 = 28 then (if p0 ≤ 30 then b_88_416 p0 else b_88_416 (p0 - 30)) else (if p0 = 29 then (if p0 ≤ 30 then b_88_416 p0 else b_88_416 (p0 - 30)) else (if p0 = 30 then 73 else (if p0 = 31 then (if p0 ≤ 30 then b_88_416 p0 else b_88_416 (p0 - 30)) else (if p0 = 32 then (if p0 ≤ 30 then b_88_416 p0 else b_88_416 (p0 - 30)) else (if p0 = 33 then (if p0 ≤ 30 then b_88_416 p0 else b_88_416 (p0 - 30)) else (if p0 = 34 then (if p0 ≤ 30 then b_88_416 p0 else b_88_416 (p0 - 30)) else (if p0 = 35 then (if p0 ≤ 30 then b_88_416 p0 else b_88_416 (p0 - 30)) else (if p0 = 36 then (if p0 ≤ 30 then b_88_416 p0 else b_88_416 (p0 - 30)) else (if p0 = 37 then (if p0 ≤ 30 then b_88_416 p0 else b_88_416 (p0 - 30)) else (if p0 = 38 then (if p0 ≤ 30 then b_88_416 p0 else b_88_416 (p0 - 30)) else (if p0 = 39 then (if p0 ≤ 30 then b_88_416 p0 else b_88_416 (p0 - 30)) else (if p0 = 40 then (if p0 ≤ 30 then b_88_416 p0 else b_88_416 (p0 - 30)) else (if p0 = 41 then (if p0 ≤ 30 then b_88_416 p0 else b_88_416 (p0 - 30)) else (if p0 = 42 then (if p0 ≤ 30 then b_88_416 p0 else b_88_416 (p0 - 30)) else (if p0 = 43 then (if p0 ≤ 30 then b_88_416 p0 else b_88_416 (p0 - 30)) else (if p0 = 44 then (if p0 ≤ 30 then b_88_416 p0 else b_88_416 (p0 - 30)) else (if p0 = 45 then (if p0 ≤ 30 then b_88_416 p0 else b_88_416 (p0 - 30)) else (if p0 = 46 then (if p0 ≤ 30 then b_88_416 p0 else b_88_416 (p0 - 30)) else (if p0 = 47 then (if p0 ≤ 30 then b_88_416 p0 else b_88_416 (p0 - 30)) else (if p0 = 48 then (if p0 ≤ 30 then b_88_416 p0 else b_88_416 (p0 - 30)) else (if p0 = 49 then (if p0 ≤ 30 then b_88_416 p0 else b_88_416 (p0 - 30)) else (if p0 = 50 then (if p0 ≤ 30 then b_88_416 p0 else b_88_416 (p0 - 30)) else (if p0 = 51 then (if p0 ≤ 30 then b_88_416 p0 else b_88_416 (p0 - 30)) else (if p0 = 52 then (if p0 ≤ 30 then b_88_416 p0 else b_88_416 (p0 - 30)) else (if p0 = 53 then (if p0 ≤ 30 then b_88_416 p0 else b_88_416 (p0 - 30)) else (if p0 = 54 then (if p0 ≤ 30 then b_88_416 p0 else b_88_416 (p0 - 30)) else (if p0 = 55 then (if p0 ≤ 30 then b_88_416 p0 else b_88_416 (p0 - 30)) else (if p0 = 56 then (if p0 ≤ 30 then b_88_416 p0 else b_88_416 (p0 - 30)) else (if p0 = 57 then (if p0 ≤ 30 then b_88_416 p0 else b_88_416 (p0 - 30)) else (if p0 = 58 then (if p0 ≤ 30 then b_88_416 p0 else b_88_416 (p0 - 30)) else (if p0 = 59 then (if p0 ≤ 30 then b_88_416 p0 else b_88_416 (p0 - 30)) else (if p0 = 60 then 74 else (if p0 = 61 then 75 else (if p0 = 62 then 76 else (if p0 = 63 then 77 else (if p0 = 64 then 78 else (if p0 = 65 then 79 else (if p0 = 66 then 80 else (if p0 = 67 then 81 else (if p0 = 68 then 82 else (if p0 = 69 then 83 else (if p0 = 70 then 84 else (if p0 = 71 then 85 else (if p0 = 72 then 86 else (if p0 = 73 then 87 else (if p0 = 74 then 88 else (if p0 ≤ 30 then b_88_416 p0 else b_88_416 (p0 - 30))))))))))))))))))))))))))))))))))))))))))))))))))))))))))))))))))))))))))))
theorem t_88 (L : Nat) (xs : Nat → Int32) {hh : mv_H} {p0 : Int32} {ret : Nat} (h : f_88 p0 = ret) : mv_E (mp L xs) 88 (0, [some (.int p0)], []) hh ((.inl (some (.retAddr ret)), hh)) := by
  unfold f_88 at h
  refine mv_E.rT (t := mt_88) rfl 1 (f' := (1, [some (.int p0)], [.int p0])) (h' := hh) rfl ?_
  have e1434 : mv_sw p0 402 [(1, 312), (2, 315), (3, 402), (4, 402), (5, 402), (6, 318), (7, 321), (8, 324), (9, 327), (10, 330), (11, 333), (12, 336), (13, 339), (14, 402), (15, 402), (16, 402), (17, 402), (18, 402), (19, 402), (20, 402), (21, 402), (22, 402), (23, 402), (24, 402), (25, 402), (26, 402), (27, 402), (28, 402), (29, 402), (30, 342), (31, 402), (32, 402), (33, 402), (34, 402), (35, 402), (36, 402), (37, 402), (38, 402), (39, 402), (40, 402), (41, 402), (42, 402), (43, 402), (44, 402), (45, 402), (46, 402), (47, 402), (48, 402), (49, 402), (50, 402), (51, 402), (52, 402), (53, 402), (54, 402), (55, 402), (56, 402), (57, 402), (58, 402), (59, 402), (60, 345), (61, 348), (62, 351), (63, 354), (64, 358), (65, 362), (66, 366), (67, 370), (68, 374), (69, 378), (70, 382), (71, 386), (72, 390), (73, 394), (74, 398)] = mv_sw p0 402 [(1, 312), (2, 315), (3, 402), (4, 402), (5, 402), (6, 318), (7, 321), (8, 324), (9, 327), (10, 330), (11, 333), (12, 336), (13, 339), (14, 402), (15, 402), (16, 402), (17, 402), (18, 402), (19, 402), (20, 402), (21, 402), (22, 402), (23, 402), (24, 402), (25, 402), (26, 402), (27, 402), (28, 402), (29, 402), (30, 342), (31, 402), (32, 402), (33, 402), (34, 402), (35, 402), (36, 402), (37, 402), (38, 402), (39, 402), (40, 402), (41, 402), (42, 402), (43, 402), (44, 402), (45, 402), (46, 402), (47, 402), (48, 402), (49, 402), (50, 402), (51, 402), (52, 402), (53, 402), (54, 402), (55, 402), (56, 402), (57, 402), (58, 402), (59, 402), (60, 345), (61, 348), (62, 351), (63, 354), (64, 358), (65, 362), (66, 366), (67, 370), (68, 374), (69, 378), (70, 382), (71, 386), (72, 390), (73, 394), (74, 398)] := rfl
  by_cases hs1435 : p0 = 1
  · replace h := (if_pos hs1435).symm.trans h
    refine mv_E.go rfl (mi_sw_at (e1434.trans (if_pos hs1435))) ?_
    refine mv_E.rT (t := mt_88) rfl 1 (f' := (314, [some (.int p0)], [.retAddr 63])) (h' := hh) rfl ?_
    cases h
    exact mv_E.done rfl rfl
  replace h := (if_neg hs1435).symm.trans h
  have e1436 := e1434.trans (if_neg hs1435)
  by_cases hs1437 : p0 = 2
  · replace h := (if_pos hs1437).symm.trans h
    refine mv_E.go rfl (mi_sw_at (e1436.trans (if_pos hs1437))) ?_
    refine mv_E.rT (t := mt_88) rfl 1 (f' := (317, [some (.int p0)], [.retAddr 64])) (h' := hh) rfl ?_
    cases h
    exact mv_E.done rfl rfl
  replace h := (if_neg hs1437).symm.trans h
  have e1438 := e1436.trans (if_neg hs1437)
  by_cases hs1483 : p0 = 3
  · replace h := (if_pos hs1483).symm.trans h
    refine mv_E.go rfl (mi_sw_at (e1438.trans (if_pos hs1483))) ?_
    refine mv_E.rT (t := mt_88) rfl 2 (f' := (405, [some (.int p0)], [.int 30, .int p0])) (h' := hh) rfl ?_
    by_cases hc1482 : p0 ≤ 30
    · replace h := (if_pos hc1482).symm.trans h
      refine mv_E.go rfl (mi_icmp_pos hc1482) ?_
      refine mv_E.rT (t := mt_88) rfl 1 (f' := (416, [some (.int p0)], [.int p0])) (h' := hh) rfl ?_
      exact tb_88_416 L xs hh p0 (some p0) _ h
    replace h := (if_neg hc1482).symm.trans h
    refine mv_E.go rfl (mi_icmp_neg hc1482) ?_
    refine mv_E.rT (t := mt_88) rfl 4 (f' := (416, [some (.int p0)], [.int (p0 - 30)])) (h' := hh) rfl ?_
    exact tb_88_416 L xs hh (p0 - 30) (some p0) _ h
  replace h := (if_neg hs1483).symm.trans h
  have e1484 := e1438.trans (if_neg hs1483)
  by_cases hs1486 : p0 = 4
  · replace h := (if_pos hs1486).symm.trans h
    refine mv_E.go rfl (mi_sw_at (e1484.trans (if_pos hs1486))) ?_
    refine mv_E.rT (t := mt_88) rfl 2 (f' := (405, [some (.int p0)], [.int 30, .int p0])) (h' := hh) rfl ?_
    by_cases hc1485 : p0 ≤ 30
    · replace h := (if_pos hc1485).symm.trans h
      refine mv_E.go rfl (mi_icmp_pos hc1485) ?_
      refine mv_E.rT (t := mt_88) rfl 1 (f' := (416, [some (.int p0)], [.int p0])) (h' := hh) rfl ?_
      exact tb_88_416 L xs hh p0 (some p0) _ h
    replace h := (if_neg hc1485).symm.trans h
    refine mv_E.go rfl (mi_icmp_neg hc1485) ?_
    refine mv_E.rT (t := mt_88) rfl 4 (f' := (416, [some (.int p0)], [.int (p0 - 30)])) (h' := hh) rfl ?_
    exact tb_88_416 L xs hh (p0 - 30) (some p0) _ h
  replace h := (if_neg hs1486).symm.trans h
  have e1487 := e1484.trans (if_neg hs1486)
  by_cases hs1489 : p0 = 5
  · replace h := (if_pos hs1489).symm.trans h
    refine mv_E.go rfl (mi_sw_at (e1487.trans (if_pos hs1489))) ?_
    refine mv_E.rT (t := mt_88) rfl 2 (f' := (405, [some (.int p0)], [.int 30, .int p0])) (h' := hh) rfl ?_
    by_cases hc1488 : p0 ≤ 30
    · replace h := (if_pos hc1488).symm.trans h
      refine mv_E.go rfl (mi_icmp_pos hc1488) ?_
      refine mv_E.rT (t := mt_88) rfl 1 (f' := (416, [some (.int p0)], [.int p0])) (h' := hh) rfl ?_
      exact tb_88_416 L xs hh p0 (some p0) _ h
    replace h := (if_neg hc1488).symm.trans h
    refine mv_E.go rfl (mi_icmp_neg hc1488) ?_
    refine mv_E.rT (t := mt_88) rfl 4 (f' := (416, [some (.int p0)], [.int (p0 - 30)])) (h' := hh) rfl ?_
    exact tb_88_416 L xs hh (p0 - 30) (some p0) _ h
  replace h := (if_neg hs1489).symm.trans h
  have e1490 := e1487.trans (if_neg hs1489)
  by_cases hs1491 : p0 = 6
  · replace h := (if_pos hs1491).symm.trans h
    refine mv_E.go rfl (mi_sw_at (e1490.trans (if_pos hs1491))) ?_
    refine mv_E.rT (t := mt_88) rfl 1 (f' := (320, [some (.int p0)], [.retAddr 65])) (h' := hh) rfl ?_
    cases h
    exact mv_E.done rfl rfl
  replace h := (if_neg hs1491).symm.trans h
  have e1492 := e1490.trans (if_neg hs1491)
  by_cases hs1493 : p0 = 7
  · replace h := (if_pos hs1493).symm.trans h
    refine mv_E.go rfl (mi_sw_at (e1492.trans (if_pos hs1493))) ?_
    refine mv_E.rT (t := mt_88) rfl 1 (f' := (323, [some (.int p0)], [.retAddr 66])) (h' := hh) rfl ?_
    cases h
    exact mv_E.done rfl rfl
  replace h := (if_neg hs1493).symm.trans h
  have e1494 := e1492.trans (if_neg hs1493)
  by_cases hs1495 : p0 = 8
  · replace h := (if_pos hs1495).symm.trans h
    refine mv_E.go rfl (mi_sw_at (e1494.trans (if_pos hs1495))) ?_
    refine mv_E.rT (t := mt_88) rfl 1 (f' := (326, [some (.int p0)], [.retAddr 67])) (h' := hh) rfl ?_
    cases h
    exact mv_E.done rfl rfl
  replace h := (if_neg hs1495).symm.trans h
  have e1496 := e1494.trans (if_neg hs1495)
  by_cases hs1497 : p0 = 9
  · replace h := (if_pos hs1497).symm.trans h
    refine mv_E.go rfl (mi_sw_at (e1496.trans (if_pos hs1497))) ?_
    refine mv_E.rT (t := mt_88) rfl 1 (f' := (329, [some (.int p0)], [.retAddr 68])) (h' := hh) rfl ?_
    cases h
    exact mv_E.done rfl rfl
  replace h := (if_neg hs1497).symm.trans h
  have e1498 := e1496.trans (if_neg hs1497)
  by_cases hs1499 : p0 = 10
  · replace h := (if_pos hs1499).symm.trans h
    refine mv_E.go rfl (mi_sw_at (e1498.trans (if_pos hs1499))) ?_
    refine mv_E.rT (t := mt_88) rfl 1 (f' := (332, [some (.int p0)], [.retAddr 69])) (h' := hh) rfl ?_
    cases h
    exact mv_E.done rfl rfl
  replace h := (if_neg hs1499).symm.trans h
  have e1500 := e1498.trans (if_neg hs1499)
  by_cases hs1501 : p0 = 11
  · replace h := (if_pos hs1501).symm.trans h
    refine mv_E.go rfl (mi_sw_at (e1500.trans (if_pos hs1501))) ?_
    refine mv_E.rT (t := mt_88) rfl 1 (f' := (335, [some (.int p0)], [.retAddr 70])) (h' := hh) rfl ?_
    cases h
    exact mv_E.done rfl rfl
  replace h := (if_neg hs1501).symm.trans h
  have e1502 := e1500.trans (if_neg hs1501)
  by_cases hs1503 : p0 = 12
  · replace h := (if_pos hs1503).symm.trans h
    refine mv_E.go rfl (mi_sw_at (e1502.trans (if_pos hs1503))) ?_
    refine mv_E.rT (t := mt_88) rfl 1 (f' := (338, [some (.int p0)], [.retAddr 71])) (h' := hh) rfl ?_
    cases h
    exact mv_E.done rfl rfl
  replace h := (if_neg hs1503).symm.trans h
  have e1504 := e1502.trans (if_neg hs1503)
  by_cases hs1505 : p0 = 13
  · replace h := (if_pos hs1505).symm.trans h
    refine mv_E.go rfl (mi_sw_at (e1504.trans (if_pos hs1505))) ?_
    refine mv_E.rT (t := mt_88) rfl 1 (f' := (341, [some (.int p0)], [.retAddr 72])) (h' := hh) rfl ?_
    cases h
    exact mv_E.done rfl rfl
  replace h := (if_neg hs1505).symm.trans h
  have e1506 := e1504.trans (if_neg hs1505)
  by_cases hs1508 : p0 = 14
  · replace h := (if_pos hs1508).symm.trans h
    refine mv_E.go rfl (mi_sw_at (e1506.trans (if_pos hs1508))) ?_
    refine mv_E.rT (t := mt_88) rfl 2 (f' := (405, [some (.int p0)], [.int 30, .int p0])) (h' := hh) rfl ?_
    by_cases hc1507 : p0 ≤ 30
    · replace h := (if_pos hc1507).symm.trans h
      refine mv_E.go rfl (mi_icmp_pos hc1507) ?_
      refine mv_E.rT (t := mt_88) rfl 1 (f' := (416, [some (.int p0)], [.int p0])) (h' := hh) rfl ?_
      exact tb_88_416 L xs hh p0 (some p0) _ h
    replace h := (if_neg hc1507).symm.trans h
    refine mv_E.go rfl (mi_icmp_neg hc1507) ?_
    refine mv_E.rT (t := mt_88) rfl 4 (f' := (416, [some (.int p0)], [.int (p0 - 30)])) (h' := hh) rfl ?_
    exact tb_88_416 L xs hh (p0 - 30) (some p0) _ h
  replace h := (if_neg hs1508).symm.trans h
  have e1509 := e1506.trans (if_neg hs1508)
  by_cases hs1511 : p0 = 15
  · replace h := (if_pos hs1511).symm.trans h
    refine mv_E.go rfl (mi_sw_at (e1509.trans (if_pos hs1511))) ?_
    refine mv_E.rT (t := mt_88) rfl 2 (f' := (405, [some (.int p0)], [.int 30, .int p0])) (h' := hh) rfl ?_
    by_cases hc1510 : p0 ≤ 30
    · replace h := (if_pos hc1510).symm.trans h
      refine mv_E.go rfl (mi_icmp_pos hc1510) ?_
      refine mv_E.rT (t := mt_88) rfl 1 (f' := (416, [some (.int p0)], [.int p0])) (h' := hh) rfl ?_
      exact tb_88_416 L xs hh p0 (some p0) _ h
    replace h := (if_neg hc1510).symm.trans h
    refine mv_E.go rfl (mi_icmp_neg hc1510) ?_
    refine mv_E.rT (t := mt_88) rfl 4 (f' := (416, [some (.int p0)], [.int (p0 - 30)])) (h' := hh) rfl ?_
    exact tb_88_416 L xs hh (p0 - 30) (some p0) _ h
  replace h := (if_neg hs1511).symm.trans h
  have e1512 := e1509.trans (if_neg hs1511)
  by_cases hs1514 : p0 = 16
  · replace h := (if_pos hs1514).symm.trans h
    refine mv_E.go rfl (mi_sw_at (e1512.trans (if_pos hs1514))) ?_
    refine mv_E.rT (t := mt_88) rfl 2 (f' := (405, [some (.int p0)], [.int 30, .int p0])) (h' := hh) rfl ?_
    by_cases hc1513 : p0 ≤ 30
    · replace h := (if_pos hc1513).symm.trans h
      refine mv_E.go rfl (mi_icmp_pos hc1513) ?_
      refine mv_E.rT (t := mt_88) rfl 1 (f' := (416, [some (.int p0)], [.int p0])) (h' := hh) rfl ?_
      exact tb_88_416 L xs hh p0 (some p0) _ h
    replace h := (if_neg hc1513).symm.trans h
    refine mv_E.go rfl (mi_icmp_neg hc1513) ?_
    refine mv_E.rT (t := mt_88) rfl 4 (f' := (416, [some (.int p0)], [.int (p0 - 30)])) (h' := hh) rfl ?_
    exact tb_88_416 L xs hh (p0 - 30) (some p0) _ h
  replace h := (if_neg hs1514).symm.trans h
  have e1515 := e1512.trans (if_neg hs1514)
  by_cases hs1517 : p0 = 17
  · replace h := (if_pos hs1517).symm.trans h
    refine mv_E.go rfl (mi_sw_at (e1515.trans (if_pos hs1517))) ?_
    refine mv_E.rT (t := mt_88) rfl 2 (f' := (405, [some (.int p0)], [.int 30, .int p0])) (h' := hh) rfl ?_
    by_cases hc1516 : p0 ≤ 30
    · replace h := (if_pos hc1516).symm.trans h
      refine mv_E.go rfl (mi_icmp_pos hc1516) ?_
      refine mv_E.rT (t := mt_88) rfl 1 (f' := (416, [some (.int p0)], [.int p0])) (h' := hh) rfl ?_
      exact tb_88_416 L xs hh p0 (some p0) _ h
    replace h := (if_neg hc1516).symm.trans h
    refine mv_E.go rfl (mi_icmp_neg hc1516) ?_
    refine mv_E.rT (t := mt_88) rfl 4 (f' := (416, [some (.int p0)], [.int (p0 - 30)])) (h' := hh) rfl ?_
    exact tb_88_416 L xs hh (p0 - 30) (some p0) _ h
  replace h := (if_neg hs1517).symm.trans h
  have e1518 := e1515.trans (if_neg hs1517)
  by_cases hs1520 : p0 = 18
  · replace h := (if_pos hs1520).symm.trans h
    refine mv_E.go rfl (mi_sw_at (e1518.trans (if_pos hs1520))) ?_
    refine mv_E.rT (t := mt_88) rfl 2 (f' := (405, [some (.int p0)], [.int 30, .int p0])) (h' := hh) rfl ?_
    by_cases hc1519 : p0 ≤ 30
    · replace h := (if_pos hc1519).symm.trans h
      refine mv_E.go rfl (mi_icmp_pos hc1519) ?_
      refine mv_E.rT (t := mt_88) rfl 1 (f' := (416, [some (.int p0)], [.int p0])) (h' := hh) rfl ?_
      exact tb_88_416 L xs hh p0 (some p0) _ h
    replace h := (if_neg hc1519).symm.trans h
    refine mv_E.go rfl (mi_icmp_neg hc1519) ?_
    refine mv_E.rT (t := mt_88) rfl 4 (f' := (416, [some (.int p0)], [.int (p0 - 30)])) (h' := hh) rfl ?_
    exact tb_88_416 L xs hh (p0 - 30) (some p0) _ h
  replace h := (if_neg hs1520).symm.trans h
  have e1521 := e1518.trans (if_neg hs1520)
  by_cases hs1523 : p0 = 19
  · replace h := (if_pos hs1523).symm.trans h
    refine mv_E.go rfl (mi_sw_at (e1521.trans (if_pos hs1523))) ?_
    refine mv_E.rT (t := mt_88) rfl 2 (f' := (405, [some (.int p0)], [.int 30, .int p0])) (h' := hh) rfl ?_
    by_cases hc1522 : p0 ≤ 30
    · replace h := (if_pos hc1522).symm.trans h
      refine mv_E.go rfl (mi_icmp_pos hc1522) ?_
      refine mv_E.rT (t := mt_88) rfl 1 (f' := (416, [some (.int p0)], [.int p0])) (h' := hh) rfl ?_
      exact tb_88_416 L xs hh p0 (some p0) _ h
    replace h := (if_neg hc1522).symm.trans h
    refine mv_E.go rfl (mi_icmp_neg hc1522) ?_
    refine mv_E.rT (t := mt_88) rfl 4 (f' := (416, [some (.int p0)], [.int (p0 - 30)])) (h' := hh) rfl ?_
    exact tb_88_416 L xs hh (p0 - 30) (some p0) _ h
  replace h := (if_neg hs1523).symm.trans h
  have e1524 := e1521.trans (if_neg hs1523)
  by_cases hs1526 : p0 = 20
  · replace h := (if_pos hs1526).symm.trans h
    refine mv_E.go rfl (mi_sw_at (e1524.trans (if_pos hs1526))) ?_
    refine mv_E.rT (t := mt_88) rfl 2 (f' := (405, [some (.int p0)], [.int 30, .int p0])) (h' := hh) rfl ?_
    by_cases hc1525 : p0 ≤ 30
    · replace h := (if_pos hc1525).symm.trans h
      refine mv_E.go rfl (mi_icmp_pos hc1525) ?_
      refine mv_E.rT (t := mt_88) rfl 1 (f' := (416, [some (.int p0)], [.int p0])) (h' := hh) rfl ?_
      exact tb_88_416 L xs hh p0 (some p0) _ h
    replace h := (if_neg hc1525).symm.trans h
    refine mv_E.go rfl (mi_icmp_neg hc1525) ?_
    refine mv_E.rT (t := mt_88) rfl 4 (f' := (416, [some (.int p0)], [.int (p0 - 30)])) (h' := hh) rfl ?_
    exact tb_88_416 L xs hh (p0 - 30) (some p0) _ h
  replace h := (if_neg hs1526).symm.trans h
  have e1527 := e1524.trans (if_neg hs1526)
  by_cases hs1529 : p0 = 21
  · replace h := (if_pos hs1529).symm.trans h
    refine mv_E.go rfl (mi_sw_at (e1527.trans (if_pos hs1529))) ?_
    refine mv_E.rT (t := mt_88) rfl 2 (f' := (405, [some (.int p0)], [.int 30, .int p0])) (h' := hh) rfl ?_
    by_cases hc1528 : p0 ≤ 30
    · replace h := (if_pos hc1528).symm.trans h
      refine mv_E.go rfl (mi_icmp_pos hc1528) ?_
      refine mv_E.rT (t := mt_88) rfl 1 (f' := (416, [some (.int p0)], [.int p0])) (h' := hh) rfl ?_
      exact tb_88_416 L xs hh p0 (some p0) _ h
    replace h := (if_neg hc1528).symm.trans h
    refine mv_E.go rfl (mi_icmp_neg hc1528) ?_
    refine mv_E.rT (t := mt_88) rfl 4 (f' := (416, [some (.int p0)], [.int (p0 - 30)])) (h' := hh) rfl ?_
    exact tb_88_416 L xs hh (p0 - 30) (some p0) _ h
  replace h := (if_neg hs1529).symm.trans h
  have e1530 := e1527.trans (if_neg hs1529)
  by_cases hs1532 : p0 = 22
  · replace h := (if_pos hs1532).symm.trans h
    refine mv_E.go rfl (mi_sw_at (e1530.trans (if_pos hs1532))) ?_
    refine mv_E.rT (t := mt_88) rfl 2 (f' := (405, [some (.int p0)], [.int 30, .int p0])) (h' := hh) rfl ?_
    by_cases hc1531 : p0 ≤ 30
    · replace h := (if_pos hc1531).symm.trans h
      refine mv_E.go rfl (mi_icmp_pos hc1531) ?_
      refine mv_E.rT (t := mt_88) rfl 1 (f' := (416, [some (.int p0)], [.int p0])) (h' := hh) rfl ?_
      exact tb_88_416 L xs hh p0 (some p0) _ h
    replace h := (if_neg hc1531).symm.trans h
    refine mv_E.go rfl (mi_icmp_neg hc1531) ?_
    refine mv_E.rT (t := mt_88) rfl 4 (f' := (416, [some (.int p0)], [.int (p0 - 30)])) (h' := hh) rfl ?_
    exact tb_88_416 L xs hh (p0 - 30) (some p0) _ h
  replace h := (if_neg hs1532).symm.trans h
  have e1533 := e1530.trans (if_neg hs1532)
  by_cases hs1535 : p0 = 23
  · replace h := (if_pos hs1535).symm.trans h
    refine mv_E.go rfl (mi_sw_at (e1533.trans (if_pos hs1535))) ?_
    refine mv_E.rT (t := mt_88) rfl 2 (f' := (405, [some (.int p0)], [.int 30, .int p0])) (h' := hh) rfl ?_
    by_cases hc1534 : p0 ≤ 30
    · replace h := (if_pos hc1534).symm.trans h
      refine mv_E.go rfl (mi_icmp_pos hc1534) ?_
      refine mv_E.rT (t := mt_88) rfl 1 (f' := (416, [some (.int p0)], [.int p0])) (h' := hh) rfl ?_
      exact tb_88_416 L xs hh p0 (some p0) _ h
    replace h := (if_neg hc1534).symm.trans h
    refine mv_E.go rfl (mi_icmp_neg hc1534) ?_
    refine mv_E.rT (t := mt_88) rfl 4 (f' := (416, [some (.int p0)], [.int (p0 - 30)])) (h' := hh) rfl ?_
    exact tb_88_416 L xs hh (p0 - 30) (some p0) _ h
  replace h := (if_neg hs1535).symm.trans h
  have e1536 := e1533.trans (if_neg hs1535)
  by_cases hs1538 : p0 = 24
  · replace h := (if_pos hs1538).symm.trans h
    refine mv_E.go rfl (mi_sw_at (e1536.trans (if_pos hs1538))) ?_
    refine mv_E.rT (t := mt_88) rfl 2 (f' := (405, [some (.int p0)], [.int 30, .int p0])) (h' := hh) rfl ?_
    by_cases hc1537 : p0 ≤ 30
    · replace h := (if_pos hc1537).symm.trans h
      refine mv_E.go rfl (mi_icmp_pos hc1537) ?_
      refine mv_E.rT (t := mt_88) rfl 1 (f' := (416, [some (.int p0)], [.int p0])) (h' := hh) rfl ?_
      exact tb_88_416 L xs hh p0 (some p0) _ h
    replace h := (if_neg hc1537).symm.trans h
    refine mv_E.go rfl (mi_icmp_neg hc1537) ?_
    refine mv_E.rT (t := mt_88) rfl 4 (f' := (416, [some (.int p0)], [.int (p0 - 30)])) (h' := hh) rfl ?_
    exact tb_88_416 L xs hh (p0 - 30) (some p0) _ h
  replace h := (if_neg hs1538).symm.trans h
  have e1539 := e1536.trans (if_neg hs1538)
  by_cases hs1541 : p0 = 25
  · replace h := (if_pos hs1541).symm.trans h
    refine mv_E.go rfl (mi_sw_at (e1539.trans (if_pos hs1541))) ?_
    refine mv_E.rT (t := mt_88) rfl 2 (f' := (405, [some (.int p0)], [.int 30, .int p0])) (h' := hh) rfl ?_
    by_cases hc1540 : p0 ≤ 30
    · replace h := (if_pos hc1540).symm.trans h
      refine mv_E.go rfl (mi_icmp_pos hc1540) ?_
      refine mv_E.rT (t := mt_88) rfl 1 (f' := (416, [some (.int p0)], [.int p0])) (h' := hh) rfl ?_
      exact tb_88_416 L xs hh p0 (some p0) _ h
    replace h := (if_neg hc1540).symm.trans h
    refine mv_E.go rfl (mi_icmp_neg hc1540) ?_
    refine mv_E.rT (t := mt_88) rfl 4 (f' := (416, [some (.int p0)], [.int (p0 - 30)])) (h' := hh) rfl ?_
    exact tb_88_416 L xs hh (p0 - 30) (some p0) _ h
  replace h := (if_neg hs1541).symm.trans h
  have e1542 := e1539.trans (if_neg hs1541)
  by_cases hs1544 : p0 = 26
  · replace h := (if_pos hs1544).symm.trans h
    refine mv_E.go rfl (mi_sw_at (e1542.trans (if_pos hs1544))) ?_
    refine mv_E.rT (t := mt_88) rfl 2 (f' := (405, [some (.int p0)], [.int 30, .int p0])) (h' := hh) rfl ?_
    by_cases hc1543 : p0 ≤ 30
    · replace h := (if_pos hc1543).symm.trans h
      refine mv_E.go rfl (mi_icmp_pos hc1543) ?_
      refine mv_E.rT (t := mt_88) rfl 1 (f' := (416, [some (.int p0)], [.int p0])) (h' := hh) rfl ?_
      exact tb_88_416 L xs hh p0 (some p0) _ h
    replace h := (if_neg hc1543).symm.trans h
    refine mv_E.go rfl (mi_icmp_neg hc1543) ?_
    refine mv_E.rT (t := mt_88) rfl 4 (f' := (416, [some (.int p0)], [.int (p0 - 30)])) (h' := hh) rfl ?_
    exact tb_88_416 L xs hh (p0 - 30) (some p0) _ h
  replace h := (if_neg hs1544).symm.trans h
  have e1545 := e1542.trans (if_neg hs1544)
  by_cases hs1547 : p0 = 27
  · replace h := (if_pos hs1547).symm.trans h
    refine mv_E.go rfl (mi_sw_at (e1545.trans (if_pos hs1547))) ?_
    refine mv_E.rT (t := mt_88) rfl 2 (f' := (405, [some (.int p0)], [.int 30, .int p0])) (h' := hh) rfl ?_
    by_cases hc1546 : p0 ≤ 30
    · replace h := (if_pos hc1546).symm.trans h
      refine mv_E.go rfl (mi_icmp_pos hc1546) ?_
      refine mv_E.rT (t := mt_88) rfl 1 (f' := (416, [some (.int p0)], [.int p0])) (h' := hh) rfl ?_
      exact tb_88_416 L xs hh p0 (some p0) _ h
    replace h := (if_neg hc1546).symm.trans h
    refine mv_E.go rfl (mi_icmp_neg hc1546) ?_
    refine mv_E.rT (t := mt_88) rfl 4 (f' := (416, [some (.int p0)], [.int (p0 - 30)])) (h' := hh) rfl ?_
    exact tb_88_416 L xs hh (p0 - 30) (some p0) _ h
  replace h := (if_neg hs1547).symm.trans h
  have e1548 := e1545.trans (if_neg hs1547)
  by_cases hs1550 : p0 = 28
  · replace h := (if_pos hs1550).symm.trans h
    refine mv_E.go rfl (mi_sw_at (e1548.trans (if_pos hs1550))) ?_
    refine mv_E.rT (t := mt_88) rfl 2 (f' := (405, [some (.int p0)], [.int 30, .int p0])) (h' := hh) rfl ?_
    by_cases hc1549 : p0 ≤ 30
    · replace h := (if_pos hc1549).symm.trans h
      refine mv_E.go rfl (mi_icmp_pos hc1549) ?_
      refine mv_E.rT (t := mt_88) rfl 1 (f' := (416, [some (.int p0)], [.int p0])) (h' := hh) rfl ?_
      exact tb_88_416 L xs hh p0 (some p0) _ h
    replace h := (if_neg hc1549).symm.trans h
    refine mv_E.go rfl (mi_icmp_neg hc1549) ?_
    refine mv_E.rT (t := mt_88) rfl 4 (f' := (416, [some (.int p0)], [.int (p0 - 30)])) (h' := hh) rfl ?_
    exact tb_88_416 L xs hh (p0 - 30) (some p0) _ h
  replace h := (if_neg hs1550).symm.trans h
  have e1551 := e1548.trans (if_neg hs1550)
  by_cases hs1553 : p0 = 29
  · replace h := (if_pos hs1553).symm.trans h
    refine mv_E.go rfl (mi_sw_at (e1551.trans (if_pos hs1553))) ?_
    refine mv_E.rT (t := mt_88) rfl 2 (f' := (405, [some (.int p0)], [.int 30, .int p0])) (h' := hh) rfl ?_
    by_cases hc1552 : p0 ≤ 30
    · replace h := (if_pos hc1552).symm.trans h
      refine mv_E.go rfl (mi_icmp_pos hc1552) ?_
      refine mv_E.rT (t := mt_88) rfl 1 (f' := (416, [some (.int p0)], [.int p0])) (h' := hh) rfl ?_
      exact tb_88_416 L xs hh p0 (some p0) _ h
    replace h := (if_neg hc1552).symm.trans h
    refine mv_E.go rfl (mi_icmp_neg hc1552) ?_
    refine mv_E.rT (t := mt_88) rfl 4 (f' := (416, [some (.int p0)], [.int (p0 - 30)])) (h' := hh) rfl ?_
    exact tb_88_416 L xs hh (p0 - 30) (some p0) _ h
  replace h := (if_neg hs1553).symm.trans h
  have e1554 := e1551.trans (if_neg hs1553)
  by_cases hs1555 : p0 = 30
  · replace h := (if_pos hs1555).symm.trans h
    refine mv_E.go rfl (mi_sw_at (e1554.trans (if_pos hs1555))) ?_
    refine mv_E.rT (t := mt_88) rfl 1 (f' := (344, [some (.int p0)], [.retAddr 73])) (h' := hh) rfl ?_
    cases h
    exact mv_E.done rfl rfl
  replace h := (if_neg hs1555).symm.trans h
  have e1556 := e1554.trans (if_neg hs1555)
  by_cases hs1558 : p0 = 31
  · replace h := (if_pos hs1558).symm.trans h
    refine mv_E.go rfl (mi_sw_at (e1556.trans (if_pos hs1558))) ?_
    refine mv_E.rT (t := mt_88) rfl 2 (f' := (405, [some (.int p0)], [.int 30, .int p0])) (h' := hh) rfl ?_
    by_cases hc1557 : p0 ≤ 30
    · replace h := (if_pos hc1557).symm.trans h
      refine mv_E.go rfl (mi_icmp_pos hc1557) ?_
      refine mv_E.rT (t := mt_88) rfl 1 (f' := (416, [some (.int p0)], [.int p0])) (h' := hh) rfl ?_
      exact tb_88_416 L xs hh p0 (some p0) _ h
    replace h := (if_neg hc1557).symm.trans h
    refine mv_E.go rfl (mi_icmp_neg hc1557) ?_
    refine mv_E.rT (t := mt_88) rfl 4 (f' := (416, [some (.int p0)], [.int (p0 - 30)])) (h' := hh) rfl ?_
    exact tb_88_416 L xs hh (p0 - 30) (some p0) _ h
  replace h := (if_neg hs1558).symm.trans h
  have e1559 := e1556.trans (if_neg hs1558)
  by_cases hs1561 : p0 = 32
  · replace h := (if_pos hs1561).symm.trans h
    refine mv_E.go rfl (mi_sw_at (e1559.trans (if_pos hs1561))) ?_
    refine mv_E.rT (t := mt_88) rfl 2 (f' := (405, [some (.int p0)], [.int 30, .int p0])) (h' := hh) rfl ?_
    by_cases hc1560 : p0 ≤ 30
    · replace h := (if_pos hc1560).symm.trans h
      refine mv_E.go rfl (mi_icmp_pos hc1560) ?_
      refine mv_E.rT (t := mt_88) rfl 1 (f' := (416, [some (.int p0)], [.int p0])) (h' := hh) rfl ?_
      exact tb_88_416 L xs hh p0 (some p0) _ h
    replace h := (if_neg hc1560).symm.trans h
    refine mv_E.go rfl (mi_icmp_neg hc1560) ?_
    refine mv_E.rT (t := mt_88) rfl 4 (f' := (416, [some (.int p0)], [.int (p0 - 30)])) (h' := hh) rfl ?_
    exact tb_88_416 L xs hh (p0 - 30) (some p0) _ h
  replace h := (if_neg hs1561).symm.trans h
  have e1562 := e1559.trans (if_neg hs1561)
  by_cases hs1564 : p0 = 33
  · replace h := (if_pos hs1564).symm.trans h
    refine mv_E.go rfl (mi_sw_at (e1562.trans (if_pos hs1564))) ?_
    refine mv_E.rT (t := mt_88) rfl 2 (f' := (405, [some (.int p0)], [.int 30, .int p0])) (h' := hh) rfl ?_
    by_cases hc1563 : p0 ≤ 30
    · replace h := (if_pos hc1563).symm.trans h
      refine mv_E.go rfl (mi_icmp_pos hc1563) ?_
      refine mv_E.rT (t := mt_88) rfl 1 (f' := (416, [some (.int p0)], [.int p0])) (h' := hh) rfl ?_
      exact tb_88_416 L xs hh p0 (some p0) _ h
    replace h := (if_neg hc1563).symm.trans h
    refine mv_E.go rfl (mi_icmp_neg hc1563) ?_
    refine mv_E.rT (t := mt_88) rfl 4 (f' := (416, [some (.int p0)], [.int (p0 - 30)])) (h' := hh) rfl ?_
    exact tb_88_416 L xs hh (p0 - 30) (some p0) _ h
  replace h := (if_neg hs1564).symm.trans h
  have e1565 := e1562.trans (if_neg hs1564)
  by_cases hs1567 : p0 = 34
  · replace h := (if_pos hs1567).symm.trans h
    refine mv_E.go rfl (mi_sw_at (e1565.trans (if_pos hs1567))) ?_
    refine mv_E.rT (t := mt_88) rfl 2 (f' := (405, [some (.int p0)], [.int 30, .int p0])) (h' := hh) rfl ?_
    by_cases hc1566 : p0 ≤ 30
    · replace h := (if_pos hc1566).symm.trans h
      refine mv_E.go rfl (mi_icmp_pos hc1566) ?_
      refine mv_E.rT (t := mt_88) rfl 1 (f' := (416, [some (.int p0)], [.int p0])) (h' := hh) rfl ?_
      exact tb_88_416 L xs hh p0 (some p0) _ h
    replace h := (if_neg hc1566).symm.trans h
    refine mv_E.go rfl (mi_icmp_neg hc1566) ?_
    refine mv_E.rT (t := mt_88) rfl 4 (f' := (416, [some (.int p0)], [.int (p0 - 30)])) (h' := hh) rfl ?_
    exact tb_88_416 L xs hh (p0 - 30) (some p0) _ h
  replace h := (if_neg hs1567).symm.trans h
  have e1568 := e1565.trans (if_neg hs1567)
  by_cases hs1570 : p0 = 35
  · replace h := (if_pos hs1570).symm.trans h
    refine mv_E.go rfl (mi_sw_at (e1568.trans (if_pos hs1570))) ?_
    refine mv_E.rT (t := mt_88) rfl 2 (f' := (405, [some (.int p0)], [.int 30, .int p0])) (h' := hh) rfl ?_
    by_cases hc1569 : p0 ≤ 30
    · replace h := (if_pos hc1569).symm.trans h
      refine mv_E.go rfl (mi_icmp_pos hc1569) ?_
      refine mv_E.rT (t := mt_88) rfl 1 (f' := (416, [some (.int p0)], [.int p0])) (h' := hh) rfl ?_
      exact tb_88_416 L xs hh p0 (some p0) _ h
    replace h := (if_neg hc1569).symm.trans h
    refine mv_E.go rfl (mi_icmp_neg hc1569) ?_
    refine mv_E.rT (t := mt_88) rfl 4 (f' := (416, [some (.int p0)], [.int (p0 - 30)])) (h' := hh) rfl ?_
    exact tb_88_416 L xs hh (p0 - 30) (some p0) _ h
  replace h := (if_neg hs1570).symm.trans h
  have e1571 := e1568.trans (if_neg hs1570)
  by_cases hs1573 : p0 = 36
  · replace h := (if_pos hs1573).symm.trans h
    refine mv_E.go rfl (mi_sw_at (e1571.trans (if_pos hs1573))) ?_
    refine mv_E.rT (t := mt_88) rfl 2 (f' := (405, [some (.int p0)], [.int 30, .int p0])) (h' := hh) rfl ?_
    by_cases hc1572 : p0 ≤ 30
    · replace h := (if_pos hc1572).symm.trans h
      refine mv_E.go rfl (mi_icmp_pos hc1572) ?_
      refine mv_E.rT (t := mt_88) rfl 1 (f' := (416, [some (.int p0)], [.int p0])) (h' := hh) rfl ?_
      exact tb_88_416 L xs hh p0 (some p0) _ h
    replace h := (if_neg hc1572).symm.trans h
    refine mv_E.go rfl (mi_icmp_neg hc1572) ?_
    refine mv_E.rT (t := mt_88) rfl 4 (f' := (416, [some (.int p0)], [.int (p0 - 30)])) (h' := hh) rfl ?_
    exact tb_88_416 L xs hh (p0 - 30) (some p0) _ h
  replace h := (if_neg hs1573).symm.trans h
  have e1574 := e1571.trans (if_neg hs1573)
  by_cases hs1576 : p0 = 37
  · replace h := (if_pos hs1576).symm.trans h
    refine mv_E.go rfl (mi_sw_at (e1574.trans (if_pos hs1576))) ?_
    refine mv_E.rT (t := mt_88) rfl 2 (f' := (405, [some (.int p0)], [.int 30, .int p0])) (h' := hh) rfl ?_
    by_cases hc1575 : p0 ≤ 30
    · replace h := (if_pos hc1575).symm.trans h
      refine mv_E.go rfl (mi_icmp_pos hc1575) ?_
      refine mv_E.rT (t := mt_88) rfl 1 (f' := (416, [some (.int p0)], [.int p0])) (h' := hh) rfl ?_
      exact tb_88_416 L xs hh p0 (some p0) _ h
    replace h := (if_neg hc1575).symm.trans h
    refine mv_E.go rfl (mi_icmp_neg hc1575) ?_
    refine mv_E.rT (t := mt_88) rfl 4 (f' := (416, [some (.int p0)], [.int (p0 - 30)])) (h' := hh) rfl ?_
    exact tb_88_416 L xs hh (p0 - 30) (some p0) _ h
  replace h := (if_neg hs1576).symm.trans h
  have e1577 := e1574.trans (if_neg hs1576)
  by_cases hs1579 : p0 = 38
  · replace h := (if_pos hs1579).symm.trans h
    refine mv_E.go rfl (mi_sw_at (e1577.trans (if_pos hs1579))) ?_
    refine mv_E.rT (t := mt_88) rfl 2 (f' := (405, [some (.int p0)], [.int 30, .int p0])) (h' := hh) rfl ?_
    by_cases hc1578 : p0 ≤ 30
    · replace h := (if_pos hc1578).symm.trans h
      refine mv_E.go rfl (mi_icmp_pos hc1578) ?_
      refine mv_E.rT (t := mt_88) rfl 1 (f' := (416, [some (.int p0)], [.int p0])) (h' := hh) rfl ?_
      exact tb_88_416 L xs hh p0 (some p0) _ h
    replace h := (if_neg hc1578).symm.trans h
    refine mv_E.go rfl (mi_icmp_neg hc1578) ?_
    refine mv_E.rT (t := mt_88) rfl 4 (f' := (416, [some (.int p0)], [.int (p0 - 30)])) (h' := hh) rfl ?_
    exact tb_88_416 L xs hh (p0 - 30) (some p0) _ h
  replace h := (if_neg hs1579).symm.trans h
  have e1580 := e1577.trans (if_neg hs1579)
  by_cases hs1582 : p0 = 39
  · replace h := (if_pos hs1582).symm.trans h
    refine mv_E.go rfl (mi_sw_at (e1580.trans (if_pos hs1582))) ?_
    refine mv_E.rT (t := mt_88) rfl 2 (f' := (405, [some (.int p0)], [.int 30, .int p0])) (h' := hh) rfl ?_
    by_cases hc1581 : p0 ≤ 30
    · replace h := (if_pos hc1581).symm.trans h
      refine mv_E.go rfl (mi_icmp_pos hc1581) ?_
      refine mv_E.rT (t := mt_88) rfl 1 (f' := (416, [some (.int p0)], [.int p0])) (h' := hh) rfl ?_
      exact tb_88_416 L xs hh p0 (some p0) _ h
    replace h := (if_neg hc1581).symm.trans h
    refine mv_E.go rfl (mi_icmp_neg hc1581) ?_
    refine mv_E.rT (t := mt_88) rfl 4 (f' := (416, [some (.int p0)], [.int (p0 - 30)])) (h' := hh) rfl ?_
    exact tb_88_416 L xs hh (p0 - 30) (some p0) _ h
  replace h := (if_neg hs1582).symm.trans h
  have e1583 := e1580.trans (if_neg hs1582)
  by_cases hs1585 : p0 = 40
  · replace h := (if_pos hs1585).symm.trans h
    refine mv_E.go rfl (mi_sw_at (e1583.trans (if_pos hs1585))) ?_
    refine mv_E.rT (t := mt_88) rfl 2 (f' := (405, [some (.int p0)], [.int 30, .int p0])) (h' := hh) rfl ?_
    by_cases hc1584 : p0 ≤ 30
    · replace h := (if_pos hc1584).symm.trans h
      refine mv_E.go rfl (mi_icmp_pos hc1584) ?_
      refine mv_E.rT (t := mt_88) rfl 1 (f' := (416, [some (.int p0)], [.int p0])) (h' := hh) rfl ?_
      exact tb_88_416 L xs hh p0 (some p0) _ h
    replace h := (if_neg hc1584).symm.trans h
    refine mv_E.go rfl (mi_icmp_neg hc1584) ?_
    refine mv_E.rT (t := mt_88) rfl 4 (f' := (416, [some (.int p0)], [.int (p0 - 30)])) (h' := hh) rfl ?_
    exact tb_88_416 L xs hh (p0 - 30) (some p0) _ h
  replace h := (if_neg hs1585).symm.trans h
  have e1586 := e1583.trans (if_neg hs1585)
  by_cases hs1588 : p0 = 41
  · replace h := (if_pos hs1588).symm.trans h
    refine mv_E.go rfl (mi_sw_at (e1586.trans (if_pos hs1588))) ?_
    refine mv_E.rT (t := mt_88) rfl 2 (f' := (405, [some (.int p0)], [.int 30, .int p0])) (h' := hh) rfl ?_
    by_cases hc1587 : p0 ≤ 30
    · replace h := (if_pos hc1587).symm.trans h
      refine mv_E.go rfl (mi_icmp_pos hc1587) ?_
      refine mv_E.rT (t := mt_88) rfl 1 (f' := (416, [some (.int p0)], [.int p0])) (h' := hh) rfl ?_
      exact tb_88_416 L xs hh p0 (some p0) _ h
    replace h := (if_neg hc1587).symm.trans h
    refine mv_E.go rfl (mi_icmp_neg hc1587) ?_
    refine mv_E.rT (t := mt_88) rfl 4 (f' := (416, [some (.int p0)], [.int (p0 - 30)])) (h' := hh) rfl ?_
    exact tb_88_416 L xs hh (p0 - 30) (some p0) _ h
  replace h := (if_neg hs1588).symm.trans h
  have e1589 := e1586.trans (if_neg hs1588)
  by_cases hs1591 : p0 = 42
  · replace h := (if_pos hs1591).symm.trans h
    refine mv_E.go rfl (mi_sw_at (e1589.trans (if_pos hs1591))) ?_
    refine mv_E.rT (t := mt_88) rfl 2 (f' := (405, [some (.int p0)], [.int 30, .int p0])) (h' := hh) rfl ?_
    by_cases hc1590 : p0 ≤ 30
    · replace h := (if_pos hc1590).symm.trans h
      refine mv_E.go rfl (mi_icmp_pos hc1590) ?_
      refine mv_E.rT (t := mt_88) rfl 1 (f' := (416, [some (.int p0)], [.int p0])) (h' := hh) rfl ?_
      exact tb_88_416 L xs hh p0 (some p0) _ h
    replace h := (if_neg hc1590).symm.trans h
    refine mv_E.go rfl (mi_icmp_neg hc1590) ?_
    refine mv_E.rT (t := mt_88) rfl 4 (f' := (416, [some (.int p0)], [.int (p0 - 30)])) (h' := hh) rfl ?_
    exact tb_88_416 L xs hh (p0 - 30) (some p0) _ h
  replace h := (if_neg hs1591).symm.trans h
  have e1592 := e1589.trans (if_neg hs1591)
  by_cases hs1594 : p0 = 43
  · replace h := (if_pos hs1594).symm.trans h
    refine mv_E.go rfl (mi_sw_at (e1592.trans (if_pos hs1594))) ?_
    refine mv_E.rT (t := mt_88) rfl 2 (f' := (405, [some (.int p0)], [.int 30, .int p0])) (h' := hh) rfl ?_
    by_cases hc1593 : p0 ≤ 30
    · replace h := (if_pos hc1593).symm.trans h
      refine mv_E.go rfl (mi_icmp_pos hc1593) ?_
      refine mv_E.rT (t := mt_88) rfl 1 (f' := (416, [some (.int p0)], [.int p0])) (h' := hh) rfl ?_
      exact tb_88_416 L xs hh p0 (some p0) _ h
    replace h := (if_neg hc1593).symm.trans h
    refine mv_E.go rfl (mi_icmp_neg hc1593) ?_
    refine mv_E.rT (t := mt_88) rfl 4 (f' := (416, [some (.int p0)], [.int (p0 - 30)])) (h' := hh) rfl ?_
    exact tb_88_416 L xs hh (p0 - 30) (some p0) _ h
  replace h := (if_neg hs1594).symm.trans h
  have e1595 := e1592.trans (if_neg hs1594)
  by_cases hs1597 : p0 = 44
  · replace h := (if_pos hs1597).symm.trans h
    refine mv_E.go rfl (mi_sw_at (e1595.trans (if_pos hs1597))) ?_
    refine mv_E.rT (t := mt_88) rfl 2 (f' := (405, [some (.int p0)], [.int 30, .int p0])) (h' := hh) rfl ?_
    by_cases hc1596 : p0 ≤ 30
    · replace h := (if_pos hc1596).symm.trans h
      refine mv_E.go rfl (mi_icmp_pos hc1596) ?_
      refine mv_E.rT (t := mt_88) rfl 1 (f' := (416, [some (.int p0)], [.int p0])) (h' := hh) rfl ?_
      exact tb_88_416 L xs hh p0 (some p0) _ h
    replace h := (if_neg hc1596).symm.trans h
    refine mv_E.go rfl (mi_icmp_neg hc1596) ?_
    refine mv_E.rT (t := mt_88) rfl 4 (f' := (416, [some (.int p0)], [.int (p0 - 30)])) (h' := hh) rfl ?_
    exact tb_88_416 L xs hh (p0 - 30) (some p0) _ h
  replace h := (if_neg hs1597).symm.trans h
  have e1598 := e1595.trans (if_neg hs1597)
  by_cases hs1600 : p0 = 45
  · replace h := (if_pos hs1600).symm.trans h
    refine mv_E.go rfl (mi_sw_at (e1598.trans (if_pos hs1600))) ?_
    refine mv_E.rT (t := mt_88) rfl 2 (f' := (405, [some (.int p0)], [.int 30, .int p0])) (h' := hh) rfl ?_
    by_cases hc1599 : p0 ≤ 30
    · replace h := (if_pos hc1599).symm.trans h
      refine mv_E.go rfl (mi_icmp_pos hc1599) ?_
      refine mv_E.rT (t := mt_88) rfl 1 (f' := (416, [some (.int p0)], [.int p0])) (h' := hh) rfl ?_
      exact tb_88_416 L xs hh p0 (some p0) _ h
    replace h := (if_neg hc1599).symm.trans h
    refine mv_E.go rfl (mi_icmp_neg hc1599) ?_
    refine mv_E.rT (t := mt_88) rfl 4 (f' := (416, [some (.int p0)], [.int (p0 - 30)])) (h' := hh) rfl ?_
    exact tb_88_416 L xs hh (p0 - 30) (some p0) _ h
  replace h := (if_neg hs1600).symm.trans h
  have e1601 := e1598.trans (if_neg hs1600)
  by_cases hs1603 : p0 = 46
  · replace h := (if_pos hs1603).symm.trans h
    refine mv_E.go rfl (mi_sw_at (e1601.trans (if_pos hs1603))) ?_
    refine mv_E.rT (t := mt_88) rfl 2 (f' := (405, [some (.int p0)], [.int 30, .int p0])) (h' := hh) rfl ?_
    by_cases hc1602 : p0 ≤ 30
    · replace h := (if_pos hc1602).symm.trans h
      refine mv_E.go rfl (mi_icmp_pos hc1602) ?_
      refine mv_E.rT (t := mt_88) rfl 1 (f' := (416, [some (.int p0)], [.int p0])) (h' := hh) rfl ?_
      exact tb_88_416 L xs hh p0 (some p0) _ h
    replace h := (if_neg hc1602).symm.trans h
    refine mv_E.go rfl (mi_icmp_neg hc1602) ?_
    refine mv_E.rT (t := mt_88) rfl 4 (f' := (416, [some (.int p0)], [.int (p0 - 30)])) (h' := hh) rfl ?_
    exact tb_88_416 L xs hh (p0 - 30) (some p0) _ h
  replace h := (if_neg hs1603).symm.trans h
  have e1604 := e1601.trans (if_neg hs1603)
  by_cases hs1606 : p0 = 47
  · replace h := (if_pos hs1606).symm.trans h
    refine mv_E.go rfl (mi_sw_at (e1604.trans (if_pos hs1606))) ?_
    refine mv_E.rT (t := mt_88) rfl 2 (f' := (405, [some (.int p0)], [.int 30, .int p0])) (h' := hh) rfl ?_
    by_cases hc1605 : p0 ≤ 30
    · replace h := (if_pos hc1605).symm.trans h
      refine mv_E.go rfl (mi_icmp_pos hc1605) ?_
      refine mv_E.rT (t := mt_88) rfl 1 (f' := (416, [some (.int p0)], [.int p0])) (h' := hh) rfl ?_
      exact tb_88_416 L xs hh p0 (some p0) _ h
    replace h := (if_neg hc1605).symm.trans h
    refine mv_E.go rfl (mi_icmp_neg hc1605) ?_
    refine mv_E.rT (t := mt_88) rfl 4 (f' := (416, [some (.int p0)], [.int (p0 - 30)])) (h' := hh) rfl ?_
    exact tb_88_416 L xs hh (p0 - 30) (some p0) _ h
  replace h := (if_neg hs1606).symm.trans h
  have e1607 := e1604.trans (if_neg hs1606)
  by_cases hs1609 : p0 = 48
  · replace h := (if_pos hs1609).symm.trans h
    refine mv_E.go rfl (mi_sw_at (e1607.trans (if_pos hs1609))) ?_
    refine mv_E.rT (t := mt_88) rfl 2 (f' := (405, [some (.int p0)], [.int 30, .int p0])) (h' := hh) rfl ?_
    by_cases hc1608 : p0 ≤ 30
    · replace h := (if_pos hc1608).symm.trans h
      refine mv_E.go rfl (mi_icmp_pos hc1608) ?_
      refine mv_E.rT (t := mt_88) rfl 1 (f' := (416, [some (.int p0)], [.int p0])) (h' := hh) rfl ?_
      exact tb_88_416 L xs hh p0 (some p0) _ h
    replace h := (if_neg hc1608).symm.trans h
    refine mv_E.go rfl (mi_icmp_neg hc1608) ?_
    refine mv_E.rT (t := mt_88) rfl 4 (f' := (416, [some (.int p0)], [.int (p0 - 30)])) (h' := hh) rfl ?_
    exact tb_88_416 L xs hh (p0 - 30) (some p0) _ h
  replace h := (if_neg hs1609).symm.trans h
  have e1610 := e1607.trans (if_neg hs1609)
  by_cases hs1612 : p0 = 49
  · replace h := (if_pos hs1612).symm.trans h
    refine mv_E.go rfl (mi_sw_at (e1610.trans (if_pos hs1612))) ?_
    refine mv_E.rT (t := mt_88) rfl 2 (f' := (405, [some (.int p0)], [.int 30, .int p0])) (h' := hh) rfl ?_
    by_cases hc1611 : p0 ≤ 30
    · replace h := (if_pos hc1611).symm.trans h
      refine mv_E.go rfl (mi_icmp_pos hc1611) ?_
      refine mv_E.rT (t := mt_88) rfl 1 (f' := (416, [some (.int p0)], [.int p0])) (h' := hh) rfl ?_
      exact tb_88_416 L xs hh p0 (some p0) _ h
    replace h := (if_neg hc1611).symm.trans h
    refine mv_E.go rfl (mi_icmp_neg hc1611) ?_
    refine mv_E.rT (t := mt_88) rfl 4 (f' := (416, [some (.int p0)], [.int (p0 - 30)])) (h' := hh) rfl ?_
    exact tb_88_416 L xs hh (p0 - 30) (some p0) _ h
  replace h := (if_neg hs1612).symm.trans h
  have e1613 := e1610.trans (if_neg hs1612)
  by_cases hs1615 : p0 = 50
  · replace h := (if_pos hs1615).symm.trans h
    refine mv_E.go rfl (mi_sw_at (e1613.trans (if_pos hs1615))) ?_
    refine mv_E.rT (t := mt_88) rfl 2 (f' := (405, [some (.int p0)], [.int 30, .int p0])) (h' := hh) rfl ?_
    by_cases hc1614 : p0 ≤ 30
    · replace h := (if_pos hc1614).symm.trans h
      refine mv_E.go rfl (mi_icmp_pos hc1614) ?_
      refine mv_E.rT (t := mt_88) rfl 1 (f' := (416, [some (.int p0)], [.int p0])) (h' := hh) rfl ?_
      exact tb_88_416 L xs hh p0 (some p0) _ h
    replace h := (if_neg hc1614).symm.trans h
    refine mv_E.go rfl (mi_icmp_neg hc1614) ?_
    refine mv_E.rT (t := mt_88) rfl 4 (f' := (416, [some (.int p0)], [.int (p0 - 30)])) (h' := hh) rfl ?_
    exact tb_88_416 L xs hh (p0 - 30) (some p0) _ h
  replace h := (if_neg hs1615).symm.trans h
  have e1616 := e1613.trans (if_neg hs1615)
  by_cases hs1618 : p0 = 51
  · replace h := (if_pos hs1618).symm.trans h
    refine mv_E.go rfl (mi_sw_at (e1616.trans (if_pos hs1618))) ?_
    refine mv_E.rT (t := mt_88) rfl 2 (f' := (405, [some (.int p0)], [.int 30, .int p0])) (h' := hh) rfl ?_
    by_cases hc1617 : p0 ≤ 30
    · replace h := (if_pos hc1617).symm.trans h
      refine mv_E.go rfl (mi_icmp_pos hc1617) ?_
      refine mv_E.rT (t := mt_88) rfl 1 (f' := (416, [some (.int p0)], [.int p0])) (h' := hh) rfl ?_
      exact tb_88_416 L xs hh p0 (some p0) _ h
    replace h := (if_neg hc1617).symm.trans h
    refine mv_E.go rfl (mi_icmp_neg hc1617) ?_
    refine mv_E.rT (t := mt_88) rfl 4 (f' := (416, [some (.int p0)], [.int (p0 - 30)])) (h' := hh) rfl ?_
    exact tb_88_416 L xs hh (p0 - 30) (some p0) _ h
  replace h := (if_neg hs1618).symm.trans h
  have e1619 := e1616.trans (if_neg hs1618)
  by_cases hs1621 : p0 = 52
  · replace h := (if_pos hs1621).symm.trans h
    refine mv_E.go rfl (mi_sw_at (e1619.trans (if_pos hs1621))) ?_
    refine mv_E.rT (t := mt_88) rfl 2 (f' := (405, [some (.int p0)], [.int 30, .int p0])) (h' := hh) rfl ?_
    by_cases hc1620 : p0 ≤ 30
    · replace h := (if_pos hc1620).symm.trans h
      refine mv_E.go rfl (mi_icmp_pos hc1620) ?_
      refine mv_E.rT (t := mt_88) rfl 1 (f' := (416, [some (.int p0)], [.int p0])) (h' := hh) rfl ?_
      exact tb_88_416 L xs hh p0 (some p0) _ h
    replace h := (if_neg hc1620).symm.trans h
    refine mv_E.go rfl (mi_icmp_neg hc1620) ?_
    refine mv_E.rT (t := mt_88) rfl 4 (f' := (416, [some (.int p0)], [.int (p0 - 30)])) (h' := hh) rfl ?_
    exact tb_88_416 L xs hh (p0 - 30) (some p0) _ h
  replace h := (if_neg hs1621).symm.trans h
  have e1622 := e1619.trans (if_neg hs1621)
  by_cases hs1624 : p0 = 53
  · replace h := (if_pos hs1624).symm.trans h
    refine mv_E.go rfl (mi_sw_at (e1622.trans (if_pos hs1624))) ?_
    refine mv_E.rT (t := mt_88) rfl 2 (f' := (405, [some (.int p0)], [.int 30, .int p0])) (h' := hh) rfl ?_
    by_cases hc1623 : p0 ≤ 30
    · replace h := (if_pos hc1623).symm.trans h
      refine mv_E.go rfl (mi_icmp_pos hc1623) ?_
      refine mv_E.rT (t := mt_88) rfl 1 (f' := (416, [some (.int p0)], [.int p0])) (h' := hh) rfl ?_
      exact tb_88_416 L xs hh p0 (some p0) _ h
    replace h := (if_neg hc1623).symm.trans h
    refine mv_E.go rfl (mi_icmp_neg hc1623) ?_
    refine mv_E.rT (t := mt_88) rfl 4 (f' := (416, [some (.int p0)], [.int (p0 - 30)])) (h' := hh) rfl ?_
    exact tb_88_416 L xs hh (p0 - 30) (some p0) _ h
  replace h := (if_neg hs1624).symm.trans h
  have e1625 := e1622.trans (if_neg hs1624)
  by_cases hs1627 : p0 = 54
  · replace h := (if_pos hs1627).symm.trans h
    refine mv_E.go rfl (mi_sw_at (e1625.trans (if_pos hs1627))) ?_
    refine mv_E.rT (t := mt_88) rfl 2 (f' := (405, [some (.int p0)], [.int 30, .int p0])) (h' := hh) rfl ?_
    by_cases hc1626 : p0 ≤ 30
    · replace h := (if_pos hc1626).symm.trans h
      refine mv_E.go rfl (mi_icmp_pos hc1626) ?_
      refine mv_E.rT (t := mt_88) rfl 1 (f' := (416, [some (.int p0)], [.int p0])) (h' := hh) rfl ?_
      exact tb_88_416 L xs hh p0 (some p0) _ h
    replace h := (if_neg hc1626).symm.trans h
    refine mv_E.go rfl (mi_icmp_neg hc1626) ?_
    refine mv_E.rT (t := mt_88) rfl 4 (f' := (416, [some (.int p0)], [.int (p0 - 30)])) (h' := hh) rfl ?_
    exact tb_88_416 L xs hh (p0 - 30) (some p0) _ h
  replace h := (if_neg hs1627).symm.trans h
  have e1628 := e1625.trans (if_neg hs1627)
  by_cases hs1630 : p0 = 55
  · replace h := (if_pos hs1630).symm.trans h
    refine mv_E.go rfl (mi_sw_at (e1628.trans (if_pos hs1630))) ?_
    refine mv_E.rT (t := mt_88) rfl 2 (f' := (405, [some (.int p0)], [.int 30, .int p0])) (h' := hh) rfl ?_
    by_cases hc1629 : p0 ≤ 30
    · replace h := (if_pos hc1629).symm.trans h
      refine mv_E.go rfl (mi_icmp_pos hc1629) ?_
      refine mv_E.rT (t := mt_88) rfl 1 (f' := (416, [some (.int p0)], [.int p0])) (h' := hh) rfl ?_
      exact tb_88_416 L xs hh p0 (some p0) _ h
    replace h := (if_neg hc1629).symm.trans h
    refine mv_E.go rfl (mi_icmp_neg hc1629) ?_
    refine mv_E.rT (t := mt_88) rfl 4 (f' := (416, [some (.int p0)], [.int (p0 - 30)])) (h' := hh) rfl ?_
    exact tb_88_416 L xs hh (p0 - 30) (some p0) _ h
  replace h := (if_neg hs1630).symm.trans h
  have e1631 := e1628.trans (if_neg hs1630)
  by_cases hs1633 : p0 = 56
  · replace h := (if_pos hs1633).symm.trans h
    refine mv_E.go rfl (mi_sw_at (e1631.trans (if_pos hs1633))) ?_
    refine mv_E.rT (t := mt_88) rfl 2 (f' := (405, [some (.int p0)], [.int 30, .int p0])) (h' := hh) rfl ?_
    by_cases hc1632 : p0 ≤ 30
    · replace h := (if_pos hc1632).symm.trans h
      refine mv_E.go rfl (mi_icmp_pos hc1632) ?_
      refine mv_E.rT (t := mt_88) rfl 1 (f' := (416, [some (.int p0)], [.int p0])) (h' := hh) rfl ?_
      exact tb_88_416 L xs hh p0 (some p0) _ h
    replace h := (if_neg hc1632).symm.trans h
    refine mv_E.go rfl (mi_icmp_neg hc1632) ?_
    refine mv_E.rT (t := mt_88) rfl 4 (f' := (416, [some (.int p0)], [.int (p0 - 30)])) (h' := hh) rfl ?_
    exact tb_88_416 L xs hh (p0 - 30) (some p0) _ h
  replace h := (if_neg hs1633).symm.trans h
  have e1634 := e1631.trans (if_neg hs1633)
  by_cases hs1636 : p0 = 57
  · replace h := (if_pos hs1636).symm.trans h
    refine mv_E.go rfl (mi_sw_at (e1634.trans (if_pos hs1636))) ?_
    refine mv_E.rT (t := mt_88) rfl 2 (f' := (405, [some (.int p0)], [.int 30, .int p0])) (h' := hh) rfl ?_
    by_cases hc1635 : p0 ≤ 30
    · replace h := (if_pos hc1635).symm.trans h
      refine mv_E.go rfl (mi_icmp_pos hc1635) ?_
      refine mv_E.rT (t := mt_88) rfl 1 (f' := (416, [some (.int p0)], [.int p0])) (h' := hh) rfl ?_
      exact tb_88_416 L xs hh p0 (some p0) _ h
    replace h := (if_neg hc1635).symm.trans h
    refine mv_E.go rfl (mi_icmp_neg hc1635) ?_
    refine mv_E.rT (t := mt_88) rfl 4 (f' := (416, [some (.int p0)], [.int (p0 - 30)])) (h' := hh) rfl ?_
    exact tb_88_416 L xs hh (p0 - 30) (some p0) _ h
  replace h := (if_neg hs1636).symm.trans h
  have e1637 := e1634.trans (if_neg hs1636)
  by_cases hs1639 : p0 = 58
  · replace h := (if_pos hs1639).symm.trans h
    refine mv_E.go rfl (mi_sw_at (e1637.trans (if_pos hs1639))) ?_
    refine mv_E.rT (t := mt_88) rfl 2 (f' := (405, [some (.int p0)], [.int 30, .int p0])) (h' := hh) rfl ?_
    by_cases hc1638 : p0 ≤ 30
    · replace h := (if_pos hc1638).symm.trans h
      refine mv_E.go rfl (mi_icmp_pos hc1638) ?_
      refine mv_E.rT (t := mt_88) rfl 1 (f' := (416, [some (.int p0)], [.int p0])) (h' := hh) rfl ?_
      exact tb_88_416 L xs hh p0 (some p0) _ h
    replace h := (if_neg hc1638).symm.trans h
    refine mv_E.go rfl (mi_icmp_neg hc1638) ?_
    refine mv_E.rT (t := mt_88) rfl 4 (f' := (416, [some (.int p0)], [.int (p0 - 30)])) (h' := hh) rfl ?_
    exact tb_88_416 L xs hh (p0 - 30) (some p0) _ h
  replace h := (if_neg hs1639).symm.trans h
  have e1640 := e1637.trans (if_neg hs1639)
  by_cases hs1642 : p0 = 59
  · replace h := (if_pos hs1642).symm.trans h
    refine mv_E.go rfl (mi_sw_at (e1640.trans (if_pos hs1642))) ?_
    refine mv_E.rT (t := mt_88) rfl 2 (f' := (405, [some (.int p0)], [.int 30, .int p0])) (h' := hh) rfl ?_
    by_cases hc1641 : p0 ≤ 30
    · replace h := (if_pos hc1641).symm.trans h
      refine mv_E.go rfl (mi_icmp_pos hc1641) ?_
      refine mv_E.rT (t := mt_88) rfl 1 (f' := (416, [some (.int p0)], [.int p0])) (h' := hh) rfl ?_
      exact tb_88_416 L xs hh p0 (some p0) _ h
    replace h := (if_neg hc1641).symm.trans h
    refine mv_E.go rfl (mi_icmp_neg hc1641) ?_
    refine mv_E.rT (t := mt_88) rfl 4 (f' := (416, [some (.int p0)], [.int (p0 - 30)])) (h' := hh) rfl ?_
    exact tb_88_416 L xs hh (p0 - 30) (some p0) _ h
  replace h := (if_neg hs1642).symm.trans h
  have e1643 := e1640.trans (if_neg hs1642)
  by_cases hs1644 : p0 = 60
  · replace h := (if_pos hs1644).symm.trans h
    refine mv_E.go rfl (mi_sw_at (e1643.trans (if_pos hs1644))) ?_
    refine mv_E.rT (t := mt_88) rfl 1 (f' := (347, [some (.int p0)], [.retAddr 74])) (h' := hh) rfl ?_
    cases h
    exact mv_E.done rfl rfl
  replace h := (if_neg hs1644).symm.trans h
  have e1645 := e1643.trans (if_neg hs1644)
  by_cases hs1646 : p0 = 61
  · replace h := (if_pos hs1646).symm.trans h
    refine mv_E.go rfl (mi_sw_at (e1645.trans (if_pos hs1646))) ?_
    refine mv_E.rT (t := mt_88) rfl 1 (f' := (350, [some (.int p0)], [.retAddr 75])) (h' := hh) rfl ?_
    cases h
    exact mv_E.done rfl rfl
  replace h := (if_neg hs1646).symm.trans h
  have e1647 := e1645.trans (if_neg hs1646)
  by_cases hs1648 : p0 = 62
  · replace h := (if_pos hs1648).symm.trans h
    refine mv_E.go rfl (mi_sw_at (e1647.trans (if_pos hs1648))) ?_
    refine mv_E.rT (t := mt_88) rfl 1 (f' := (353, [some (.int p0)], [.retAddr 76])) (h' := hh) rfl ?_
    cases h
    exact mv_E.done rfl rfl
  replace h := (if_neg hs1648).symm.trans h
  have e1649 := e1647.trans (if_neg hs1648)
  by_cases hs1650 : p0 = 63
  · replace h := (if_pos hs1650).symm.trans h
    refine mv_E.go rfl (mi_sw_at (e1649.trans (if_pos hs1650))) ?_
    refine mv_E.rT (t := mt_88) rfl 1 (f' := (357, [some (.int p0)], [.retAddr 77])) (h' := hh) rfl ?_
    cases h
    exact mv_E.done rfl rfl
  replace h := (if_neg hs1650).symm.trans h
  have e1651 := e1649.trans (if_neg hs1650)
  by_cases hs1652 : p0 = 64
  · replace h := (if_pos hs1652).symm.trans h
    refine mv_E.go rfl (mi_sw_at (e1651.trans (if_pos hs1652))) ?_
    refine mv_E.rT (t := mt_88) rfl 1 (f' := (361, [some (.int p0)], [.retAddr 78])) (h' := hh) rfl ?_
    cases h
    exact mv_E.done rfl rfl
  replace h := (if_neg hs1652).symm.trans h
  have e1653 := e1651.trans (if_neg hs1652)
  by_cases hs1654 : p0 = 65
  · replace h := (if_pos hs1654).symm.trans h
    refine mv_E.go rfl (mi_sw_at (e1653.trans (if_pos hs1654))) ?_
    refine mv_E.rT (t := mt_88) rfl 1 (f' := (365, [some (.int p0)], [.retAddr 79])) (h' := hh) rfl ?_
    cases h
    exact mv_E.done rfl rfl
  replace h := (if_neg hs1654).symm.trans h
  have e1655 := e1653.trans (if_neg hs1654)
  by_cases hs1656 : p0 = 66
  · replace h := (if_pos hs1656).symm.trans h
    refine mv_E.go rfl (mi_sw_at (e1655.trans (if_pos hs1656))) ?_
    refine mv_E.rT (t := mt_88) rfl 1 (f' := (369, [some (.int p0)], [.retAddr 80])) (h' := hh) rfl ?_
    cases h
    exact mv_E.done rfl rfl
  replace h := (if_neg hs1656).symm.trans h
  have e1657 := e1655.trans (if_neg hs1656)
  by_cases hs1658 : p0 = 67
  · replace h := (if_pos hs1658).symm.trans h
    refine mv_E.go rfl (mi_sw_at (e1657.trans (if_pos hs1658))) ?_
    refine mv_E.rT (t := mt_88) rfl 1 (f' := (373, [some (.int p0)], [.retAddr 81])) (h' := hh) rfl ?_
    cases h
    exact mv_E.done rfl rfl
  replace h := (if_neg hs1658).symm.trans h
  have e1659 := e1657.trans (if_neg hs1658)
  by_cases hs1660 : p0 = 68
  · replace h := (if_pos hs1660).symm.trans h
    refine mv_E.go rfl (mi_sw_at (e1659.trans (if_pos hs1660))) ?_
    refine mv_E.rT (t := mt_88) rfl 1 (f' := (377, [some (.int p0)], [.retAddr 82])) (h' := hh) rfl ?_
    cases h
    exact mv_E.done rfl rfl
  replace h := (if_neg hs1660).symm.trans h
  have e1661 := e1659.trans (if_neg hs1660)
  by_cases hs1662 : p0 = 69
  · replace h := (if_pos hs1662).symm.trans h
    refine mv_E.go rfl (mi_sw_at (e1661.trans (if_pos hs1662))) ?_
    refine mv_E.rT (t := mt_88) rfl 1 (f' := (381, [some (.int p0)], [.retAddr 83])) (h' := hh) rfl ?_
    cases h
    exact mv_E.done rfl rfl
  replace h := (if_neg hs1662).symm.trans h
  have e1663 := e1661.trans (if_neg hs1662)
  by_cases hs1664 : p0 = 70
  · replace h := (if_pos hs1664).symm.trans h
    refine mv_E.go rfl (mi_sw_at (e1663.trans (if_pos hs1664))) ?_
    refine mv_E.rT (t := mt_88) rfl 1 (f' := (385, [some (.int p0)], [.retAddr 84])) (h' := hh) rfl ?_
    cases h
    exact mv_E.done rfl rfl
  replace h := (if_neg hs1664).symm.trans h
  have e1665 := e1663.trans (if_neg hs1664)
  by_cases hs1666 : p0 = 71
  · replace h := (if_pos hs1666).symm.trans h
    refine mv_E.go rfl (mi_sw_at (e1665.trans (if_pos hs1666))) ?_
    refine mv_E.rT (t := mt_88) rfl 1 (f' := (389, [some (.int p0)], [.retAddr 85])) (h' := hh) rfl ?_
    cases h
    exact mv_E.done rfl rfl
  replace h := (if_neg hs1666).symm.trans h
  have e1667 := e1665.trans (if_neg hs1666)
  by_cases hs1668 : p0 = 72
  · replace h := (if_pos hs1668).symm.trans h
    refine mv_E.go rfl (mi_sw_at (e1667.trans (if_pos hs1668))) ?_
    refine mv_E.rT (t := mt_88) rfl 1 (f' := (393, [some (.int p0)], [.retAddr 86])) (h' := hh) rfl ?_
    cases h
    exact mv_E.done rfl rfl
  replace h := (if_neg hs1668).symm.trans h
  have e1669 := e1667.trans (if_neg hs1668)
  by_cases hs1670 : p0 = 73
  · replace h := (if_pos hs1670).symm.trans h
    refine mv_E.go rfl (mi_sw_at (e1669.trans (if_pos hs1670))) ?_
    refine mv_E.rT (t := mt_88) rfl 1 (f' := (397, [some (.int p0)], [.retAddr 87])) (h' := hh) rfl ?_
    cases h
    exact mv_E.done rfl rfl
  replace h := (if_neg hs1670).symm.trans h
  have e1671 := e1669.trans (if_neg hs1670)
  by_cases hs1672 : p0 = 74
  · replace h := (if_pos hs1672).symm.trans h
    refine mv_E.go rfl (mi_sw_at (e1671.trans (if_pos hs1672))) ?_
    refine mv_E.rT (t := mt_88) rfl 1 (f' := (401, [some (.int p0)], [.retAddr 88])) (h' := hh) rfl ?_
    cases h
    exact mv_E.done rfl rfl
  replace h := (if_neg hs1672).symm.trans h
  have e1673 := e1671.trans (if_neg hs1672)
  refine mv_E.go rfl (mi_sw_at e1673) ?_
  refine mv_E.rT (t := mt_88) rfl 2 (f' := (405, [some (.int p0)], [.int 30, .int p0])) (h' := hh) rfl ?_
  by_cases hc1674 : p0 ≤ 30
  · replace h := (if_pos hc1674).symm.trans h
    refine mv_E.go rfl (mi_icmp_pos hc1674) ?_
    refine mv_E.rT (t := mt_88) rfl 1 (f' := (416, [some (.int p0)], [.int p0])) (h' := hh) rfl ?_
    exact tb_88_416 L xs hh p0 (some p0) _ h
  replace h := (if_neg hc1674).symm.trans h
  refine mv_E.go rfl (mi_icmp_neg hc1674) ?_
  refine mv_E.rT (t := mt_88) rfl 4 (f' := (416, [some (.int p0)], [.int (p0 - 30)])) (h' := hh) rfl ?_
  exact tb_88_416 L xs hh (p0 - 30) (some p0) _ h
