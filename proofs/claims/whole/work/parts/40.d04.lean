def f_64 (C : CS) : Option ((Int32 ⊕ Nat) × CS) := (if (C.1 0) = 0 then (f_25_12 C).bind fun r17 => (f_25_15 r17).bind fun r19 => (f_26 (ru (r19.1) 1 ((-1)), r19.2)).bind fun r21 => (f_60 r21).bind fun r542 => (f_63 r542.2 r542.1).bind fun r549 => match r549.1 with | .inr k552 => some (.inr k552, r549.2) | .inl v551 => some (.inl v551, r549.2) else some (.inr 1, C))
theorem t_64 (L : Nat) (xs : Nat → Int32) {C M : CS} {o : Nat → Int64} {c s : Nat} {ret : (Int32 ⊕ Nat) × CS} (h : f_64 C = some ret) : mv_E (mp L xs) 64 (0, [some (.ref 0)], []) (HPf C M o, c, s) (cvI M o c s ret) := by
  unfold f_64 at h
  refine mv_E.rT (t := mt_64) rfl 2 (f' := (4, [some (.ref 0)], [.int (C.1 0)])) (h' := (HPf C M o, c, s)) rfl ?_
  by_cases hc553 : (C.1 0) = 0
  · replace h := (if_pos hc553).symm.trans h
    refine mv_E.go rfl (mi_if_pos hc553) ?_
    refine mv_E.rT (t := mt_64) rfl 2 (f' := (21, [some (.ref 0)], [.ref 12])) (h' := (HPf C M o, c, s)) rfl ?_
    obtain ⟨r17, hr18, h⟩ := Option.bind_eq_some_iff.mp h
    refine mv_E.call (z := 25) (vs := [.ref 12]) (f' := (24, [some (.ref 0)], [])) (h' := (HPf C M o, c, s)) rfl rfl rfl (t_25_12 L xs hr18) (mv_okl rfl) ?_
    refine mv_E.rT (t := mt_64) rfl 2 (f' := (28, [some (.ref 0)], [.ref 15])) (h' := (HPf r17 M o, c, s)) rfl ?_
    obtain ⟨r19, hr20, h⟩ := Option.bind_eq_some_iff.mp h
    refine mv_E.call (z := 25) (vs := [.ref 15]) (f' := (31, [some (.ref 0)], [])) (h' := (HPf r17 M o, c, s)) rfl rfl rfl (t_25_15 L xs hr20) (mv_okl rfl) ?_
    refine mv_E.rT (t := mt_64) rfl 5 (f' := (40, [some (.ref 0)], [.ref 5])) (h' := (HPf (ru (r19.1) 1 ((-1)), r19.2) M o, c, s)) rfl ?_
    obtain ⟨r21, hr22, h⟩ := Option.bind_eq_some_iff.mp h
    refine mv_E.call (z := 26) (vs := [.ref 5]) (f' := (43, [some (.ref 0)], [])) (h' := (HPf (ru (r19.1) 1 ((-1)), r19.2) M o, c, s)) rfl rfl rfl (t_26 L xs hr22) (mv_okl rfl) ?_
    refine mv_E.rT (t := mt_64) rfl 3 (f' := (48, [some (.ref 0)], [.ref 5, .ref 0])) (h' := (HPf r21 M o, c, s)) rfl ?_
    obtain ⟨r542, hr543, h⟩ := Option.bind_eq_some_iff.mp h
    refine mv_E.call (z := 60) (vs := [.ref 5]) (f' := (51, [some (.ref 0)], [.ref 0])) (h' := (HPf r21 M o, c, s)) rfl rfl rfl (t_60 L xs hr543) (mv_okl rfl) ?_
    show mv_E (mp L xs) 64 (51, [some (.ref 0)], [.int r542.1, .ref 0]) (HPf r542.2 M o, c, s) _
    obtain ⟨r549, hr550, h⟩ := Option.bind_eq_some_iff.mp h
    obtain ⟨r549, r549c⟩ := r549
    rcases r549 with v551 | k552
    rotate_left
    · cases h
      exact mv_E.callX (z := 63) (vs := [.ref 0, .int r542.1]) (f' := (54, [some (.ref 0)], [])) (h' := (HPf r542.2 M o, c, s)) rfl rfl rfl (t_63 L xs hr550) rfl
    refine mv_E.call (z := 63) (vs := [.ref 0, .int r542.1]) (f' := (54, [some (.ref 0)], [])) (h' := (HPf r542.2 M o, c, s)) rfl rfl rfl (t_63 L xs hr550) (mv_okl rfl) ?_
    show mv_E (mp L xs) 64 (54, [some (.ref 0)], [.int v551]) (HPf r549c M o, c, s) _
    cases h
    exact mv_E.done rfl rfl
  replace h := (if_neg hc553).symm.trans h
  refine mv_E.go rfl (mi_if_neg hc553) ?_
  show mv_E (mp L xs) 64 (7, [some (.ref 0)], []) (HPf C M o, c, s) _
  cases h
  exact mv_E.done rfl rfl
def f_93 (C : CS) : Option ((Int32 ⊕ Nat) × CS) := (if (C.1 0) = 0 then some (.inr 1, C) else (if ¬ (C.1 3) = 0 then (f_60 C).bind fun r554 => (f_63 r554.2 r554.1).bind fun r556 => match r556.1 with | .inr k559 => some (.inr k559, r556.2) | .inl v558 => some (.inl v558, r556.2) else some (.inr 1, C)))
theorem t_93 (L : Nat) (xs : Nat → Int32) {C M : CS} {o : Nat → Int64} {c s : Nat} {ret : (Int32 ⊕ Nat) × CS} (h : f_93 C = some ret) : mv_E (mp L xs) 93 (0, [some (.ref 0)], []) (HPf C M o, c, s) (cvI M o c s ret) := by
  unfold f_93 at h
  refine mv_E.rT (t := mt_93) rfl 2 (f' := (4, [some (.ref 0)], [.int (C.1 0)])) (h' := (HPf C M o, c, s)) rfl ?_
  by_cases hc561 : (C.1 0) = 0
  · replace h := (if_pos hc561).symm.trans h
    refine mv_E.go rfl (mi_if_pos hc561) ?_
    show mv_E (mp L xs) 93 (17, [some (.ref 0)], []) (HPf C M o, c, s) _
    cases h
    exact mv_E.done rfl rfl
  replace h := (if_neg hc561).symm.trans h
  refine mv_E.go rfl (mi_if_neg hc561) ?_
  refine mv_E.rT (t := mt_93) rfl 3 (f' := (14, [some (.ref 0)], [.int (C.1 3)])) (h' := (HPf C M o, c, s)) rfl ?_
  by_cases hc560 : ¬ (C.1 3) = 0
  · replace h := (if_pos hc560).symm.trans h
    refine mv_E.go rfl (mi_if_pos hc560) ?_
    refine mv_E.rT (t := mt_93) rfl 3 (f' := (32, [some (.ref 0)], [.ref 5, .ref 0])) (h' := (HPf C M o, c, s)) rfl ?_
    obtain ⟨r554, hr555, h⟩ := Option.bind_eq_some_iff.mp h
    refine mv_E.call (z := 60) (vs := [.ref 5]) (f' := (35, [some (.ref 0)], [.ref 0])) (h' := (HPf C M o, c, s)) rfl rfl rfl (t_60 L xs hr555) (mv_okl rfl) ?_
    show mv_E (mp L xs) 93 (35, [some (.ref 0)], [.int r554.1, .ref 0]) (HPf r554.2 M o, c, s) _
    obtain ⟨r556, hr557, h⟩ := Option.bind_eq_some_iff.mp h
    obtain ⟨r556, r556c⟩ := r556
    rcases r556 with v558 | k559
    rotate_left
    · cases h
      exact mv_E.callX (z := 63) (vs := [.ref 0, .int r554.1]) (f' := (38, [some (.ref 0)], [])) (h' := (HPf r554.2 M o, c, s)) rfl rfl rfl (t_63 L xs hr557) rfl
    refine mv_E.call (z := 63) (vs := [.ref 0, .int r554.1]) (f' := (38, [some (.ref 0)], [])) (h' := (HPf r554.2 M o, c, s)) rfl rfl rfl (t_63 L xs hr557) (mv_okl rfl) ?_
    show mv_E (mp L xs) 93 (38, [some (.ref 0)], [.int v558]) (HPf r556c M o, c, s) _
    cases h
    exact mv_E.done rfl rfl
  replace h := (if_neg hc560).symm.trans h
  refine mv_E.go rfl (mi_if_neg hc560) ?_
  show mv_E (mp L xs) 93 (17, [some (.ref 0)], []) (HPf C M o, c, s) _
  cases h
  exact mv_E.done rfl rfl
def b_96_78 (C : CS) : Option (Int32 × CS) := (f_32 C (C.1 11)).bind fun r567 => if r567.1 = 0 ∨ r567.1 = 1 then some (r567.1, r567.2) else none
theorem tb_96_78 (L : Nat) (xs : Nat → Int32) (M : CS) (o : Nat → Int64) (c s : Nat) (C : CS) (d1 : Option Int32) (d2 : Option Int32) (d3 : Option Int32) (ret : Int32 × CS) (h : b_96_78 C = some ret) : mv_E (mp L xs) 96 (78, [some (.ref 5), d1.map .int, d2.map .int, d3.map .int], []) (HPf C M o, c, s) ((.inl (some (.int ret.1)), (HPf ret.2 M o, c, s))) := by
  unfold b_96_78 at h
  refine mv_E.rT (t := mt_96) rfl 3 (f' := (83, [some (.ref 5), d1.map .int, d2.map .int, d3.map .int], [.int (C.1 11), .ref 5])) (h' := (HPf C M o, c, s)) rfl ?_
  obtain ⟨r570, hr571, h⟩ := Option.bind_eq_some_iff.mp h
  refine mv_E.call (z := 32) (vs := [.ref 5, .int (C.1 11)]) (f' := (86, [some (.ref 5), d1.map .int, d2.map .int, d3.map .int], [])) (h' := (HPf C M o, c, s)) rfl rfl rfl (t_32 L xs hr571) (mv_okl rfl) ?_
  show mv_E (mp L xs) 96 (86, [some (.ref 5), d1.map .int, d2.map .int, d3.map .int], [.int r570.1]) (HPf r570.2 M o, c, s) _
  by_cases hz572 : r570.1 = 0 ∨ r570.1 = 1
  rotate_left
  · cases (if_neg hz572).symm.trans h
  replace h := (if_pos hz572).symm.trans h
  cases h
  exact mv_E.done rfl (mi_zret_at hz572)
def b_96_131 (k_2 : CS → Int32 → Option (Int32 × CS)) (C : CS) (l1 : Int32) : Option (Int32 × CS) := k_2 (ru (C.1) 11 (((C.1 11) + 1)), C.2) l1
theorem tb_96_131 (L : Nat) (xs : Nat → Int32) (M : CS) (o : Nat → Int64) (c s : Nat) (C : CS) (k_2 : CS → Int32 → Option (Int32 × CS)) (hk_2 : ∀ (C : CS) (l1 : Int32) (d2 : Option Int32) (d3 : Option Int32) (ret : Int32 × CS), k_2 C l1 = some ret → mv_E (mp L xs) 96 (2, [some (.ref 5), some (.int l1), d2.map .int, d3.map .int], []) (HPf C M o, c, s) ((.inl (some (.int ret.1)), (HPf ret.2 M o, c, s)))) (l1 : Int32) (d2 : Option Int32) (d3 : Option Int32) (ret : Int32 × CS) (h : b_96_131 k_2 C l1 = some ret) : mv_E (mp L xs) 96 (131, [some (.ref 5), some (.int l1), d2.map .int, d3.map .int], []) (HPf C M o, c, s) ((.inl (some (.int ret.1)), (HPf ret.2 M o, c, s))) := by
  unfold b_96_131 at h
  refine mv_E.rT (t := mt_96) rfl 7 (f' := (2, [some (.ref 5), some (.int l1), d2.map .int, d3.map .int], [])) (h' := (HPf (ru (C.1) 11 (((C.1 11) + 1)), C.2) M o, c, s)) rfl ?_
  exact hk_2 (ru (C.1) 11 (((C.1 11) + 1)), C.2) l1 d2 d3 _ h
def b_96_130 (k_2 : CS → Int32 → Option (Int32 × CS)) (C : CS) (s0 : Int32) : Option (Int32 × CS) := b_96_131 k_2 C s0
theorem tb_96_130 (L : Nat) (xs : Nat → Int32) (M : CS) (o : Nat → Int64) (c s : Nat) (C : CS) (k_2 : CS → Int32 → Option (Int32 × CS)) (hk_2 : ∀ (C : CS) (l1 : Int32) (d2 : Option Int32) (d3 : Option Int32) (ret : Int32 × CS), k_2 C l1 = some ret → mv_E (mp L xs) 96 (2, [some (.ref 5), some (.int l1), d2.map .int, d3.map .int], []) (HPf C M o, c, s) ((.inl (some (.int ret.1)), (HPf ret.2 M o, c, s)))) (s0 : Int32) (d1 : Option Int32) (d2 : Option Int32) (d3 : Option Int32) (ret : Int32 × CS) (h : b_96_130 k_2 C s0 = some ret) : mv_E (mp L xs) 96 (130, [some (.ref 5), d1.map .int, d2.map .int, d3.map .int], [.int s0]) (HPf C M o, c, s) ((.inl (some (.int ret.1)), (HPf ret.2 M o, c, s))) := by
  unfold b_96_130 at h
  refine mv_E.rT (t := mt_96) rfl 1 (f' := (131, [some (.ref 5), some (.int s0), d2.map .int, d3.map .int], [])) (h' := (HPf C M o, c, s)) rfl ?_
  exact tb_96_131 L xs M o c s C k_2 hk_2 s0 d2 d3 _ h
def b_96_119 (k_2 : CS → Int32 → Option (Int32 × CS)) (C : CS) (l2 : Int32) : Option (Int32 × CS) := (if ¬ l2 = 91 then b_96_130 k_2 C 0 else b_96_130 k_2 C 1)
theorem tb_96_119 (L : Nat) (xs : Nat → Int32) (M : CS) (o : Nat → Int64) (c s : Nat) (C : CS) (k_2 : CS → Int32 → Option (Int32 × CS)) (hk_2 : ∀ (C : CS) (l1 : Int32) (d2 : Option Int32) (d3 : Option Int32) (ret : Int32 × CS), k_2 C l1 = some ret → mv_E (mp L xs) 96 (2, [some (.ref 5), some (.int l1), d2.map .int, d3.map .int], []) (HPf C M o, c, s) ((.inl (some (.int ret.1)), (HPf ret.2 M o, c, s)))) (l2 : Int32) (d1 : Option Int32) (d3 : Option Int32) (ret : Int32 × CS) (h : b_96_119 k_2 C l2 = some ret) : mv_E (mp L xs) 96 (119, [some (.ref 5), d1.map .int, some (.int l2), d3.map .int], []) (HPf C M o, c, s) ((.inl (some (.int ret.1)), (HPf ret.2 M o, c, s))) := by
  unfold b_96_119 at h
  refine mv_E.rT (t := mt_96) rfl 2 (f' := (122, [some (.ref 5), d1.map .int, some (.int l2), d3.map .int], [.int 91, .int l2])) (h' := (HPf C M o, c, s)) rfl ?_
  by_cases hc574 : ¬ l2 = 91
  · replace h := (if_pos hc574).symm.trans h
    refine mv_E.go rfl (mi_icmp_pos hc574) ?_
    refine mv_E.rT (t := mt_96) rfl 1 (f' := (130, [some (.ref 5), d1.map .int, some (.int l2), d3.map .int], [.int 0])) (h' := (HPf C M o, c, s)) rfl ?_
    exact tb_96_130 L xs M o c s C k_2 hk_2 0 d1 (some l2) d3 _ h
  replace h := (if_neg hc574).symm.trans h
  refine mv_E.go rfl (mi_icmp_neg hc574) ?_
  refine mv_E.rT (t := mt_96) rfl 2 (f' := (130, [some (.ref 5), d1.map .int, some (.int l2), d3.map .int], [.int 1])) (h' := (HPf C M o, c, s)) rfl ?_
  exact tb_96_130 L xs M o c s C k_2 hk_2 1 d1 (some l2) d3 _ h
def b_96_103 (k_2 : CS → Int32 → Option (Int32 × CS)) (C : CS) (l1 : Int32) (l2 : Int32) (l3 : Int32) : Option (Int32 × CS) := (if ¬ l3 = 0 then b_96_131 k_2 C l1 else (if l2 = 91 then b_96_119 k_2 C l2 else (if ¬ l2 = 93 then b_96_131 k_2 C l1 else b_96_119 k_2 C l2)))
theorem tb_96_103 (L : Nat) (xs : Nat → Int32) (M : CS) (o : Nat → Int64) (c s : Nat) (C : CS) (k_2 : CS → Int32 → Option (Int32 × CS)) (hk_2 : ∀ (C : CS) (l1 : Int32) (d2 : Option Int32) (d3 : Option Int32) (ret : Int32 × CS), k_2 C l1 = some ret → mv_E (mp L xs) 96 (2, [some (.ref 5), some (.int l1), d2.map .int, d3.map .int], []) (HPf C M o, c, s) ((.inl (some (.int ret.1)), (HPf ret.2 M o, c, s)))) (l1 : Int32) (l2 : Int32) (l3 : Int32) (ret : Int32 × CS) (h : b_96_103 k_2 C l1 l2 l3 = some ret) : mv_E (mp L xs) 96 (103, [some (.ref 5), some (.int l1), some (.int l2), some (.int l3)], []) (HPf C M o, c, s) ((.inl (some (.int ret.1)), (HPf ret.2 M o, c, s))) := by
  unfold b_96_103 at h
  refine mv_E.rT (t := mt_96) rfl 1 (f' := (104, [some (.ref 5), some (.int l1), some (.int l2), some (.int l3)], [.int l3])) (h' := (HPf C M o, c, s)) rfl ?_
  by_cases hc580 : ¬ l3 = 0
  · replace h := (if_pos hc580).symm.trans h
    refine mv_E.go rfl (mi_if_pos hc580) ?_
    show mv_E (mp L xs) 96 (131, [some (.ref 5), some (.int l1), some (.int l2), some (.int l3)], []) (HPf C M o, c, s) _
    exact tb_96_131 L xs M o c s C k_2 hk_2 l1 (some l2) (some l3) _ h
  replace h := (if_neg hc580).symm.trans h
  refine mv_E.go rfl (mi_if_neg hc580) ?_
  refine mv_E.rT (t := mt_96) rfl 2 (f' := (110, [some (.ref 5), some (.int l1), some (.int l2), some (.int l3)], [.int 91, .int l2])) (h' := (HPf C M o, c, s)) rfl ?_
  by_cases hc579 : l2 = 91
  · replace h := (if_pos hc579).symm.trans h
    refine mv_E.go rfl (mi_icmp_pos hc579) ?_
    show mv_E (mp L xs) 96 (119, [some (.ref 5), some (.int l1), some (.int l2), some (.int l3)], []) (HPf C M o, c, s) _
    exact tb_96_119 L xs M o c s C k_2 hk_2 l2 (some l1) (some l3) _ h
  replace h := (if_neg hc579).symm.trans h
  refine mv_E.go rfl (mi_icmp_neg hc579) ?_
  refine mv_E.rT (t := mt_96) rfl 2 (f' := (116, [some (.ref 5), some (.int l1), some (.int l2), some (.int l3)], [.int 93, .int l2])) (h' := (HPf C M o, c, s)) rfl ?_
  by_cases hc578 : ¬ l2 = 93
  · replace h := (if_pos hc578).symm.trans h
    refine mv_E.go rfl (mi_icmp_pos hc578) ?_
    show mv_E (mp L xs) 96 (131, [some (.ref 5), some (.int l1), some (.int l2), some (.int l3)], []) (HPf C M o, c, s) _
    exact tb_96_131 L xs M o c s C k_2 hk_2 l1 (some l2) (some l3) _ h
  replace h := (if_neg hc578).symm.trans h
  refine mv_E.go rfl (mi_icmp_neg hc578) ?_
  show mv_E (mp L xs) 96 (119, [some (.ref 5), some (.int l1), some (.int l2), some (.int l3)], []) (HPf C M o, c, s) _
  exact tb_96_119 L xs M o c s C k_2 hk_2 l2 (some l1) (some l3) _ h
def b_96_66 (k_2 : CS → Int32 → Option (Int32 × CS)) (C : CS) (l1 : Int32) (l2 : Int32) (l3 : Int32) : Option (Int32 × CS) := (if l2 = (-1) then b_96_78 C else (if (f_30 l2) = 0 then (if ¬ l3 = 0 then b_96_103 k_2 C l1 l2 l3 else (if ¬ l2 = 47 then b_96_103 k_2 C l1 l2 l3 else (if ¬ l1 = 0 then b_96_103 k_2 C l1 l2 l3 else some (1, C)))) else b_96_78 C))
theorem tb_96_66 (L : Nat) (xs : Nat → Int32) (M : CS) (o : Nat → Int64) (c s : Nat) (C : CS) (k_2 : CS → Int32 → Option (Int32 × CS)) (hk_2 : ∀ (C : CS) (l1 : Int32) (d2 : Option Int32) (d3 : Option Int32) (ret : Int32 × CS), k_2 C l1 = some ret → mv_E (mp L xs) 96 (2, [some (.ref 5), some (.int l1), d2.map .int, d3.map .int], []) (HPf C M o, c, s) ((.inl (some (.int ret.1)), (HPf ret.2 M o, c, s)))) (l1 : Int32) (l2 : Int32) (l3 : Int32) (ret : Int32 × CS) (h : b_96_66 k_2 C l1 l2 l3 = some ret) : mv_E (mp L xs) 96 (66, [some (.ref 5), some (.int l1), some (.int l2), some (.int l3)], []) (HPf C M o, c, s) ((.inl (some (.int ret.1)), (HPf ret.2 M o, c, s))) := by
  unfold b_96_66 at h
  refine mv_E.rT (t := mt_96) rfl 2 (f' := (68, [some (.ref 5), some (.int l1), some (.int l2), some (.int l3)], [.int (-1), .int l2])) (h' := (HPf C M o, c, s)) rfl ?_
  by_cases hc590 : l2 = (-1)
  · replace h := (if_pos hc590).symm.trans h
    refine mv_E.go rfl (mi_icmp_pos hc590) ?_
    show mv_E (mp L xs) 96 (78, [some (.ref 5), some (.int l1), some (.int l2), some (.int l3)], []) (HPf C M o, c, s) _
    exact tb_96_78 L xs M o c s C (some l1) (some l2) (some l3) _ h
  replace h := (if_neg hc590).symm.trans h
  refine mv_E.go rfl (mi_icmp_neg hc590) ?_
  refine mv_E.rT (t := mt_96) rfl 1 (f' := (72, [some (.ref 5), some (.int l1), some (.int l2), some (.int l3)], [.int l2])) (h' := (HPf C M o, c, s)) rfl ?_
  refine mv_E.call (z := 30) (vs := [.int l2]) (f' := (75, [some (.ref 5), some (.int l1), some (.int l2), some (.int l3)], [])) (h' := (HPf C M o, c, s)) rfl rfl rfl (t_30 L xs rfl) (mv_okl rfl) ?_
  show mv_E (mp L xs) 96 (75, [some (.ref 5), some (.int l1), some (.int l2), some (.int l3)], [.int (f_30 l2)]) (HPf C M o, c, s) _
  by_cases hc589 : (f_30 l2) = 0
  · replace h := (if_pos hc589).symm.trans h
    refine mv_E.go rfl (mi_if_pos hc589) ?_
    refine mv_E.rT (t := mt_96) rfl 1 (f' := (88, [some (.ref 5), some (.int l1), some (.int l2), some (.int l3)], [.int l3])) (h' := (HPf C M o, c, s)) rfl ?_
    by_cases hc588 : ¬ l3 = 0
    · replace h := (if_pos hc588).symm.trans h
      refine mv_E.go rfl (mi_if_pos hc588) ?_
      show mv_E (mp L xs) 96 (103, [some (.ref 5), some (.int l1), some (.int l2), some (.int l3)], []) (HPf C M o, c, s) _
      exact tb_96_103 L xs M o c s C k_2 hk_2 l1 l2 l3 _ h
    replace h := (if_neg hc588).symm.trans h
    refine mv_E.go rfl (mi_if_neg hc588) ?_
    refine mv_E.rT (t := mt_96) rfl 2 (f' := (94, [some (.ref 5), some (.int l1), some (.int l2), some (.int l3)], [.int 47, .int l2])) (h' := (HPf C M o, c, s)) rfl ?_
    by_cases hc587 : ¬ l2 = 47
    · replace h := (if_pos hc587).symm.trans h
      refine mv_E.go rfl (mi_icmp_pos hc587) ?_
      show mv_E (mp L xs) 96 (103, [some (.ref 5), some (.int l1), some (.int l2), some (.int l3)], []) (HPf C M o, c, s) _
      exact tb_96_103 L xs M o c s C k_2 hk_2 l1 l2 l3 _ h
    replace h := (if_neg hc587).symm.trans h
    refine mv_E.go rfl (mi_icmp_neg hc587) ?_
    refine mv_E.rT (t := mt_96) rfl 1 (f' := (98, [some (.ref 5), some (.int l1), some (.int l2), some (.int l3)], [.int l1])) (h' := (HPf C M o, c, s)) rfl ?_
    by_cases hc586 : ¬ l1 = 0
    · replace h := (if_pos hc586).symm.trans h
      refine mv_E.go rfl (mi_if_pos hc586) ?_
      show mv_E (mp L xs) 96 (103, [some (.ref 5), some (.int l1), some (.int l2), some (.int l3)], []) (HPf C M o, c, s) _
      exact tb_96_103 L xs M o c s C k_2 hk_2 l1 l2 l3 _ h
    replace h := (if_neg hc586).symm.trans h
    refine mv_E.go rfl (mi_if_neg hc586) ?_
    refine mv_E.rT (t := mt_96) rfl 1 (f' := (102, [some (.ref 5), some (.int l1), some (.int l2), some (.int l3)], [.int 1])) (h' := (HPf C M o, c, s)) rfl ?_
    cases h
    exact mv_E.done rfl mi_zret1
  replace h := (if_neg hc589).symm.trans h
  refine mv_E.go rfl (mi_if_neg hc589) ?_
  show mv_E (mp L xs) 96 (78, [some (.ref 5), some (.int l1), some (.int l2), some (.int l3)], []) (HPf C M o, c, s) _
  exact tb_96_78 L xs M o c s C (some l1) (some l2) (some l3) _ h
def b_96_39 (k_2 : CS → Int32 → Option (Int32 × CS)) (C : CS) (l1 : Int32) (l2 : Int32) (s0 : Int32) : Option (Int32 × CS) := (if s0 = 0 then b_96_66 k_2 C l1 l2 s0 else (f_28 (ru (C.1) 11 (((C.1 11) + 1)), C.2) ((C.1 11) + 1)).bind fun r591 => b_96_66 k_2 (ru (C.1) 11 (((C.1 11) + 1)), C.2) l1 r591 s0)
theorem tb_96_39 (L : Nat) (xs : Nat → Int32) (M : CS) (o : Nat → Int64) (c s : Nat) (C : CS) (k_2 : CS → Int32 → Option (Int32 × CS)) (hk_2 : ∀ (C : CS) (l1 : Int32) (d2 : Option Int32) (d3 : Option Int32) (ret : Int32 × CS), k_2 C l1 = some ret → mv_E (mp L xs) 96 (2, [some (.ref 5), some (.int l1), d2.map .int, d3.map .int], []) (HPf C M o, c, s) ((.inl (some (.int ret.1)), (HPf ret.2 M o, c, s)))) (l1 : Int32) (l2 : Int32) (s0 : Int32) (d3 : Option Int32) (ret : Int32 × CS) (h : b_96_39 k_2 C l1 l2 s0 = some ret) : mv_E (mp L xs) 96 (39, [some (.ref 5), some (.int l1), some (.int l2), d3.map .int], [.int s0]) (HPf C M o, c, s) ((.inl (some (.int ret.1)), (HPf ret.2 M o, c, s))) := by
  unfold b_96_39 at h
  refine mv_E.rT (t := mt_96) rfl 2 (f' := (41, [some (.ref 5), some (.int l1), some (.int l2), some (.int s0)], [.int s0])) (h' := (HPf C M o, c, s)) rfl ?_
  by_cases hc596 : s0 = 0
  · replace h := (if_pos hc596).symm.trans h
    refine mv_E.go rfl (mi_if_pos hc596) ?_
    show mv_E (mp L xs) 96 (66, [some (.ref 5), some (.int l1), some (.int l2), some (.int s0)], []) (HPf C M o, c, s) _
    exact tb_96_66 L xs M o c s C k_2 hk_2 l1 l2 s0 _ h
  replace h := (if_neg hc596).symm.trans h
  refine mv_E.go rfl (mi_if_neg hc596) ?_
  refine mv_E.rT (t := mt_96) rfl 10 (f' := (62, [some (.ref 5), some (.int l1), some (.int l2), some (.int s0)], [.int ((C.1 11) + 1), .ref 1])) (h' := (HPf (ru (C.1) 11 (((C.1 11) + 1)), C.2) M o, c, s)) rfl ?_
  obtain ⟨r594, hr595, h⟩ := Option.bind_eq_some_iff.mp h
  refine mv_E.call (z := 28) (vs := [.ref 1, .int ((C.1 11) + 1)]) (f' := (65, [some (.ref 5), some (.int l1), some (.int l2), some (.int s0)], [])) (h' := (HPf (ru (C.1) 11 (((C.1 11) + 1)), C.2) M o, c, s)) rfl rfl rfl (t_28 L xs hr595) (mv_okl rfl) ?_
  refine mv_E.rT (t := mt_96) rfl 1 (f' := (66, [some (.ref 5), some (.int l1), some (.int r594), some (.int s0)], [])) (h' := (HPf (ru (C.1) 11 (((C.1 11) + 1)), C.2) M o, c, s)) rfl ?_
  exact tb_96_66 L xs M o c s (ru (C.1) 11 (((C.1 11) + 1)), C.2) k_2 hk_2 l1 r594 s0 _ h
def b_96_2 : Nat → CS → Int32 → Option (Int32 × CS)
  | 0, _, _ => none
  | n + 1, C, l1 => (if (f_19 C) ≤ (C.1 11) then (f_32 C (C.1 11)).bind fun r562 => if r562.1 = 0 ∨ r562.1 = 1 then some (r562.1, r562.2) else none else (f_28 C (C.1 11)).bind fun r565 => (if ¬ r565 = 92 then b_96_39 (b_96_2 n) C l1 r565 0 else b_96_39 (b_96_2 n) C l1 r565 1))
theorem tb_96_2 (L : Nat) (xs : Nat → Int32) (M : CS) (o : Nat → Int64) (c s : Nat) : ∀ (n : Nat) (C : CS) (l1 : Int32) (d2 : Option Int32) (d3 : Option Int32) (ret : Int32 × CS), b_96_2 n C l1 = some ret → mv_E (mp L xs) 96 (2, [some (.ref 5), some (.int l1), d2.map .int, d3.map .int], []) (HPf C M o, c, s) ((.inl (some (.int ret.1)), (HPf ret.2 M o, c, s))) := by
  intro n
  induction n with
  | zero => intro C l1 d2 d3 ret h; rw [b_96_2] at h; cases h
  | succ n ih =>
    intro C l1 d2 d3 ret h
    rw [b_96_2] at h
    refine mv_E.rT (t := mt_96) rfl 4 (f' := (10, [some (.ref 5), some (.int l1), d2.map .int, d3.map .int], [.ref 1, .int (C.1 11)])) (h' := (HPf C M o, c, s)) rfl ?_
    refine mv_E.call (z := 19) (vs := [.ref 1]) (f' := (13, [some (.ref 5), some (.int l1), d2.map .int, d3.map .int], [.int (C.1 11)])) (h' := (HPf C M o, c, s)) rfl rfl rfl (t_19 L xs rfl) (mv_okl rfl) ?_
    show mv_E (mp L xs) 96 (13, [some (.ref 5), some (.int l1), d2.map .int, d3.map .int], [.int (f_19 C), .int (C.1 11)]) (HPf C M o, c, s) _
    by_cases hc605 : (f_19 C) ≤ (C.1 11)
    · replace h := (if_pos hc605).symm.trans h
      refine mv_E.go rfl (mi_icmp_pos hc605) ?_
      refine mv_E.rT (t := mt_96) rfl 3 (f' := (149, [some (.ref 5), some (.int l1), d2.map .int, d3.map .int], [.int (C.1 11), .ref 5])) (h' := (HPf C M o, c, s)) rfl ?_
      obtain ⟨r599, hr600, h⟩ := Option.bind_eq_some_iff.mp h
      refine mv_E.call (z := 32) (vs := [.ref 5, .int (C.1 11)]) (f' := (152, [some (.ref 5), some (.int l1), d2.map .int, d3.map .int], [])) (h' := (HPf C M o, c, s)) rfl rfl rfl (t_32 L xs hr600) (mv_okl rfl) ?_
      show mv_E (mp L xs) 96 (152, [some (.ref 5), some (.int l1), d2.map .int, d3.map .int], [.int r599.1]) (HPf r599.2 M o, c, s) _
      by_cases hz601 : r599.1 = 0 ∨ r599.1 = 1
      rotate_left
      · cases (if_neg hz601).symm.trans h
      replace h := (if_pos hz601).symm.trans h
      cases h
      exact mv_E.done rfl (mi_zret_at hz601)
    replace h := (if_neg hc605).symm.trans h
    refine mv_E.go rfl (mi_icmp_neg hc605) ?_
    refine mv_E.rT (t := mt_96) rfl 4 (f' := (24, [some (.ref 5), some (.int l1), d2.map .int, d3.map .int], [.int (C.1 11), .ref 1])) (h' := (HPf C M o, c, s)) rfl ?_
    obtain ⟨r602, hr603, h⟩ := Option.bind_eq_some_iff.mp h
    refine mv_E.call (z := 28) (vs := [.ref 1, .int (C.1 11)]) (f' := (27, [some (.ref 5), some (.int l1), d2.map .int, d3.map .int], [])) (h' := (HPf C M o, c, s)) rfl rfl rfl (t_28 L xs hr603) (mv_okl rfl) ?_
    refine mv_E.rT (t := mt_96) rfl 3 (f' := (31, [some (.ref 5), some (.int l1), some (.int r602), d3.map .int], [.int 92, .int r602])) (h' := (HPf C M o, c, s)) rfl ?_
    by_cases hc604 : ¬ r602 = 92
    · replace h := (if_pos hc604).symm.trans h
      refine mv_E.go rfl (mi_icmp_pos hc604) ?_
      refine mv_E.rT (t := mt_96) rfl 1 (f' := (39, [some (.ref 5), some (.int l1), some (.int r602), d3.map .int], [.int 0])) (h' := (HPf C M o, c, s)) rfl ?_
      exact tb_96_39 L xs M o c s C (b_96_2 n) ih l1 r602 0 d3 _ h
    replace h := (if_neg hc604).symm.trans h
    refine mv_E.go rfl (mi_icmp_neg hc604) ?_
    refine mv_E.rT (t := mt_96) rfl 2 (f' := (39, [some (.ref 5), some (.int l1), some (.int r602), d3.map .int], [.int 1])) (h' := (HPf C M o, c, s)) rfl ?_
    exact tb_96_39 L xs M o c s C (b_96_2 n) ih l1 r602 1 d3 _ h
def f_96 (C : CS) : Option (Int32 × CS) := b_96_2 fu C 0
theorem t_96 (L : Nat) (xs : Nat → Int32) {C M : CS} {o : Nat → Int64} {c s : Nat} {ret : Int32 × CS} (h : f_96 C = some ret) : mv_E (mp L xs) 96 (0, [some (.ref 5), none, none, none], []) (HPf C M o, c, s) ((.inl (some (.int ret.1)), (HPf ret.2 M o, c, s))) := by
  unfold f_96 at h
  refine mv_E.rT (t := mt_96) rfl 2 (f' := (2, [some (.ref 5), some (.int 0), none, none], [])) (h' := (HPf C M o, c, s)) rfl ?_
  exact tb_96_2 L xs M o c s fu C 0 none none _ h
def b_97_92 (C : CS) : Option (Int32 × CS) := (f_28 C (C.1 11)).bind fun r608 => (if ¬ r608 = 92 then (f_50 C).bind fun r610 => some (1, (ru (r610.1) 5 (r610.1 11), r610.2)) else (f_32 C (C.1 11)).bind fun r612 => if r612.1 = 0 ∨ r612.1 = 1 then some (r612.1, r612.2) else none)
theorem tb_97_92 (L : Nat) (xs : Nat → Int32) (M : CS) (o : Nat → Int64) (c s : Nat) (C : CS) (ret : Int32 × CS) (h : b_97_92 C = some ret) : mv_E (mp L xs) 97 (92, [some (.ref 5)], []) (HPf C M o, c, s) ((.inl (some (.int ret.1)), (HPf ret.2 M o, c, s))) := by
  unfold b_97_92 at h
  refine mv_E.rT (t := mt_97) rfl 4 (f' := (100, [some (.ref 5)], [.int (C.1 11), .ref 1])) (h' := (HPf C M o, c, s)) rfl ?_
  obtain ⟨r616, hr617, h⟩ := Option.bind_eq_some_iff.mp h
  refine mv_E.call (z := 28) (vs := [.ref 1, .int (C.1 11)]) (f' := (103, [some (.ref 5)], [])) (h' := (HPf C M o, c, s)) rfl rfl rfl (t_28 L xs hr617) (mv_okl rfl) ?_
  refine mv_E.rT (t := mt_97) rfl 1 (f' := (105, [some (.ref 5)], [.int 92, .int r616])) (h' := (HPf C M o, c, s)) rfl ?_
  by_cases hc623 : ¬ r616 = 92
  · replace h := (if_pos hc623).symm.trans h
    refine mv_E.go rfl (mi_icmp_pos hc623) ?_
    refine mv_E.rT (t := mt_97) rfl 1 (f' := (118, [some (.ref 5)], [.ref 5])) (h' := (HPf C M o, c, s)) rfl ?_
    obtain ⟨r618, hr619, h⟩ := Option.bind_eq_some_iff.mp h
    refine mv_E.call (z := 50) (vs := [.ref 5]) (f' := (121, [some (.ref 5)], [])) (h' := (HPf C M o, c, s)) rfl rfl rfl (t_50 L xs hr619) (mv_okl rfl) ?_
    refine mv_E.rT (t := mt_97) rfl 6 (f' := (133, [some (.ref 5)], [.int 1])) (h' := (HPf (ru (r618.1) 5 (r618.1 11), r618.2) M o, c, s)) rfl ?_
    cases h
    exact mv_E.done rfl mi_zret1
  replace h := (if_neg hc623).symm.trans h
  refine mv_E.go rfl (mi_icmp_neg hc623) ?_
  refine mv_E.rT (t := mt_97) rfl 3 (f' := (113, [some (.ref 5)], [.int (C.1 11), .ref 5])) (h' := (HPf C M o, c, s)) rfl ?_
  obtain ⟨r620, hr621, h⟩ := Option.bind_eq_some_iff.mp h
  refine mv_E.call (z := 32) (vs := [.ref 5, .int (C.1 11)]) (f' := (116, [some (.ref 5)], [])) (h' := (HPf C M o, c, s)) rfl rfl rfl (t_32 L xs hr621) (mv_okl rfl) ?_
  show mv_E (mp L xs) 97 (116, [some (.ref 5)], [.int r620.1]) (HPf r620.2 M o, c, s) _
  by_cases hz622 : r620.1 = 0 ∨ r620.1 = 1
  rotate_left
  · cases (if_neg hz622).symm.trans h
  replace h := (if_pos hz622).symm.trans h
  cases h
  exact mv_E.done rfl (mi_zret_at hz622)
def b_97_48 : Nat → CS → Option (Int32 × CS)
  | 0, _ => none
  | n + 1, C => (if (f_19 C) ≤ (C.1 11) then b_97_92 C else (f_28 C (C.1 11)).bind fun r624 => (if (f_39 r624) = 0 then b_97_92 C else (b_97_48 n) (ru (C.1) 11 (((C.1 11) + 1)), C.2)))
theorem tb_97_48 (L : Nat) (xs : Nat → Int32) (M : CS) (o : Nat → Int64) (c s : Nat) : ∀ (n : Nat) (C : CS)  (ret : Int32 × CS), b_97_48 n C = some ret → mv_E (mp L xs) 97 (48, [some (.ref 5)], []) (HPf C M o, c, s) ((.inl (some (.int ret.1)), (HPf ret.2 M o, c, s))) := by
  intro n
  induction n with
  | zero => intro C  ret h; rw [b_97_48] at h; cases h
  | succ n ih =>
    intro C  ret h
    rw [b_97_48] at h
    refine mv_E.rT (t := mt_97) rfl 4 (f' := (56, [some (.ref 5)], [.ref 1, .int (C.1 11)])) (h' := (HPf C M o, c, s)) rfl ?_
    refine mv_E.call (z := 19) (vs := [.ref 1]) (f' := (59, [some (.ref 5)], [.int (C.1 11)])) (h' := (HPf C M o, c, s)) rfl rfl rfl (t_19 L xs rfl) (mv_okl rfl) ?_
    show mv_E (mp L xs) 97 (59, [some (.ref 5)], [.int (f_19 C), .int (C.1 11)]) (HPf C M o, c, s) _
    by_cases hc631 : (f_19 C) ≤ (C.1 11)
    · replace h := (if_pos hc631).symm.trans h
      refine mv_E.go rfl (mi_icmp_pos hc631) ?_
      show mv_E (mp L xs) 97 (92, [some (.ref 5)], []) (HPf C M o, c, s) _
      exact tb_97_92 L xs M o c s C _ h
    replace h := (if_neg hc631).symm.trans h
    refine mv_E.go rfl (mi_icmp_neg hc631) ?_
    refine mv_E.rT (t := mt_97) rfl 4 (f' := (70, [some (.ref 5)], [.int (C.1 11), .ref 1])) (h' := (HPf C M o, c, s)) rfl ?_
    obtain ⟨r628, hr629, h⟩ := Option.bind_eq_some_iff.mp h
    refine mv_E.call (z := 28) (vs := [.ref 1, .int (C.1 11)]) (f' := (73, [some (.ref 5)], [])) (h' := (HPf C M o, c, s)) rfl rfl rfl (t_28 L xs hr629) (mv_okl rfl) ?_
    show mv_E (mp L xs) 97 (73, [some (.ref 5)], [.int r628]) (HPf C M o, c, s) _
    refine mv_E.call (z := 39) (vs := [.int r628]) (f' := (76, [some (.ref 5)], [])) (h' := (HPf C M o, c, s)) rfl rfl rfl (t_39 L xs rfl) (mv_okl rfl) ?_
    show mv_E (mp L xs) 97 (76, [some (.ref 5)], [.int (f_39 r628)]) (HPf C M o, c, s) _
    by_cases hc630 : (f_39 r628) = 0
    · replace h := (if_pos hc630).symm.trans h
      refine mv_E.go rfl (mi_if_pos hc630) ?_
      show mv_E (mp L xs) 97 (92, [some (.ref 5)], []) (HPf C M o, c, s) _
      exact tb_97_92 L xs M o c s C _ h
    replace h := (if_neg hc630).symm.trans h
    refine mv_E.go rfl (mi_if_neg hc630) ?_
    refine mv_E.rT (t := mt_97) rfl 7 (f' := (48, [some (.ref 5)], [])) (h' := (HPf (ru (C.1) 11 (((C.1 11) + 1)), C.2) M o, c, s)) rfl ?_
    exact ih (ru (C.1) 11 (((C.1 11) + 1)), C.2) _ h
def f_97 (C : CS) : Option (Int32 × CS) := (f_96 (ru (ru (ru (C.1) 3 (5)) 9 (0)) 11 (((C.1 4) + 1)), C.2)).bind fun r606 => (if ¬ r606.1 = 0 then b_97_48 fu (ru (r606.2.1) 11 (((r606.2.1 11) + 1)), r606.2.2) else some (0, r606.2))
theorem t_97 (L : Nat) (xs : Nat → Int32) {C M : CS} {o : Nat → Int64} {c s : Nat} {ret : Int32 × CS} (h : f_97 C = some ret) : mv_E (mp L xs) 97 (0, [some (.ref 5)], []) (HPf C M o, c, s) ((.inl (some (.int ret.1)), (HPf ret.2 M o, c, s))) := by
  unfold f_97 at h
  refine mv_E.rT (t := mt_97) rfl 16 (f' := (30, [some (.ref 5)], [.ref 5])) (h' := (HPf (ru (ru (ru (C.1) 3 (5)) 9 (0)) 11 (((C.1 4) + 1)), C.2) M o, c, s)) rfl ?_
  obtain ⟨r606, hr607, h⟩ := Option.bind_eq_some_iff.mp h
  refine mv_E.call (z := 96) (vs := [.ref 5]) (f' := (33, [some (.ref 5)], [])) (h' := (HPf (ru (ru (ru (C.1) 3 (5)) 9 (0)) 11 (((C.1 4) + 1)), C.2) M o, c, s)) rfl rfl rfl (t_96 L xs hr607) (mv_okl rfl) ?_
  show mv_E (mp L xs) 97 (33, [some (.ref 5)], [.int r606.1]) (HPf r606.2 M o, c, s) _
  by_cases hc632 : ¬ r606.1 = 0
  · replace h := (if_pos hc632).symm.trans h
    refine mv_E.go rfl (mi_if_pos hc632) ?_
    refine mv_E.rT (t := mt_97) rfl 6 (f' := (48, [some (.ref 5)], [])) (h' := (HPf (ru (r606.2.1) 11 (((r606.2.1 11) + 1)), r606.2.2) M o, c, s)) rfl ?_
    exact tb_97_48 L xs M o c s fu (ru (r606.2.1) 11 (((r606.2.1 11) + 1)), r606.2.2) _ h
  replace h := (if_neg hc632).symm.trans h
  refine mv_E.go rfl (mi_if_neg hc632) ?_
  refine mv_E.rT (t := mt_97) rfl 1 (f' := (37, [some (.ref 5)], [.int 0])) (h' := (HPf r606.2 M o, c, s)) rfl ?_
  cases h
  exact mv_E.done rfl mi_zret0
def b_98_41 (C : CS) : Option ((Int32 ⊕ Nat) × CS) := (f_97 C).bind fun r633 => (f_63 r633.2 r633.1).bind fun r635 => match r635.1 with | .inr k638 => some (.inr k638, r635.2) | .inl v637 => some (.inl v637, r635.2)
theorem tb_98_41 (L : Nat) (xs : Nat → Int32) (M : CS) (o : Nat → Int64) (c s : Nat) (C : CS) (ret : (Int32 ⊕ Nat) × CS) (h : b_98_41 C = some ret) : mv_E (mp L xs) 98 (41, [some (.ref 0)], []) (HPf C M o, c, s) (cvI M o c s ret) := by
  unfold b_98_41 at h
  refine mv_E.rT (t := mt_98) rfl 3 (f' := (46, [some (.ref 0)], [.ref 5, .ref 0])) (h' := (HPf C M o, c, s)) rfl ?_
  obtain ⟨r639, hr640, h⟩ := Option.bind_eq_some_iff.mp h
  refine mv_E.call (z := 97) (vs := [.ref 5]) (f' := (49, [some (.ref 0)], [.ref 0])) (h' := (HPf C M o, c, s)) rfl rfl rfl (t_97 L xs hr640) (mv_okl rfl) ?_
  show mv_E (mp L xs) 98 (49, [some (.ref 0)], [.int r639.1, .ref 0]) (HPf r639.2 M o, c, s) _
  obtain ⟨r641, hr642, h⟩ := Option.bind_eq_some_iff.mp h
  obtain ⟨r641, r641c⟩ := r641
  rcases r641 with v643 | k644
  rotate_left
  · cases h
    exact mv_E.callX (z := 63) (vs := [.ref 0, .int r639.1]) (f' := (52, [some (.ref 0)], [])) (h' := (HPf r639.2 M o, c, s)) rfl rfl rfl (t_63 L xs hr642) rfl
  refine mv_E.call (z := 63) (vs := [.ref 0, .int r639.1]) (f' := (52, [some (.ref 0)], [])) (h' := (HPf r639.2 M o, c, s)) rfl rfl rfl (t_63 L xs hr642) (mv_okl rfl) ?_
  show mv_E (mp L xs) 98 (52, [some (.ref 0)], [.int v643]) (HPf r641c M o, c, s) _
  cases h
  exact mv_E.done rfl rfl
def f_98 (C : CS) : Option ((Int32 ⊕ Nat) × CS) := (if (C.1 0) = 0 then some (.inr 1, C) else (if (C.1 9) = 22 then b_98_41 C else (if (C.1 9) = 52 then b_98_41 C else some (.inr 1, C))))
theorem t_98 (L : Nat) (xs : Nat → Int32) {C M : CS} {o : Nat → Int64} {c s : Nat} {ret : (Int32 ⊕ Nat) × CS} (h : f_98 C = some ret) : mv_E (mp L xs) 98 (0, [some (.ref 0)], []) (HPf C M o, c, s) (cvI M o c s ret) := by
  unfold f_98 at h
  refine mv_E.rT (t := mt_98) rfl 2 (f' := (4, [some (.ref 0)], [.int (C.1 0)])) (h' := (HPf C M o, c, s)) rfl ?_
  by_cases hc647 : (C.1 0) = 0
  · replace h := (if_pos hc647).symm.trans h
    refine mv_E.go rfl (mi_if_pos hc647) ?_
    show mv_E (mp L xs) 98 (31, [some (.ref 0)], []) (HPf C M o, c, s) _
    cases h
    exact mv_E.done rfl rfl
  replace h := (if_neg hc647).symm.trans h
  refine mv_E.go rfl (mi_if_neg hc647) ?_
  refine mv_E.rT (t := mt_98) rfl 4 (f' := (16, [some (.ref 0)], [.int 22, .int (C.1 9)])) (h' := (HPf C M o, c, s)) rfl ?_
  by_cases hc646 : (C.1 9) = 22
  · replace h := (if_pos hc646).symm.trans h
    refine mv_E.go rfl (mi_icmp_pos hc646) ?_
    show mv_E (mp L xs) 98 (41, [some (.ref 0)], []) (HPf C M o, c, s) _
    exact tb_98_41 L xs M o c s C _ h
  replace h := (if_neg hc646).symm.trans h
  refine mv_E.go rfl (mi_icmp_neg hc646) ?_
  refine mv_E.rT (t := mt_98) rfl 4 (f' := (28, [some (.ref 0)], [.int 52, .int (C.1 9)])) (h' := (HPf C M o, c, s)) rfl ?_
  by_cases hc645 : (C.1 9) = 52
  · replace h := (if_pos hc645).symm.trans h
    refine mv_E.go rfl (mi_icmp_pos hc645) ?_
    show mv_E (mp L xs) 98 (41, [some (.ref 0)], []) (HPf C M o, c, s) _
    exact tb_98_41 L xs M o c s C _ h
  replace h := (if_neg hc645).symm.trans h
  refine mv_E.go rfl (mi_icmp_neg hc645) ?_
  show mv_E (mp L xs) 98 (31, [some (.ref 0)], []) (HPf C M o, c, s) _
  cases h
  exact mv_E.done rfl rfl
def f_102 (C : CS) : Option ((Int32 ⊕ Nat) × CS) := (if ¬ (C.1 0) = 0 then (f_62 C).bind fun r648 => some (.inl 0, r648) else some (.inr 1, C))
theorem t_102 (L : Nat) (xs : Nat → Int32) {C M : CS} {o : Nat → Int64} {c s : Nat} {ret : (Int32 ⊕ Nat) × CS} (h : f_102 C = some ret) : mv_E (mp L xs) 102 (0, [some (.ref 0)], []) (HPf C M o, c, s) (cvV M o c s ret) := by
  unfold f_102 at h
  refine mv_E.rT (t := mt_102) rfl 2 (f' := (4, [some (.ref 0)], [.int (C.1 0)])) (h' := (HPf C M o, c, s)) rfl ?_
  by_cases hc650 : ¬ (C.1 0) = 0
  · replace h := (if_pos hc650).symm.trans h
    refine mv_E.go rfl (mi_if_pos hc650) ?_
    refine mv_E.rT (t := mt_102) rfl 1 (f' := (18, [some (.ref 0)], [.ref 0])) (h' := (HPf C M o, c, s)) rfl ?_
    obtain ⟨r648, hr649, h⟩ := Option.bind_eq_some_iff.mp h
    refine mv_E.call (z := 62) (vs := [.ref 0]) (f' := (21, [some (.ref 0)], [])) (h' := (HPf C M o, c, s)) rfl rfl rfl (t_62 L xs hr649) (mv_okl rfl) ?_
    show mv_E (mp L xs) 102 (21, [some (.ref 0)], []) (HPf r648 M o, c, s) _
    cases h
    exact mv_E.done rfl rfl
  replace h := (if_neg hc650).symm.trans h
  refine mv_E.go rfl (mi_if_neg hc650) ?_
  show mv_E (mp L xs) 102 (7, [some (.ref 0)], []) (HPf C M o, c, s) _
  cases h
  exact mv_E.done rfl rfl
def f_105 (C : CS) : Int32 := C.1 1
theorem t_105 (L : Nat) (xs : Nat → Int32) {C M : CS} {o : Nat → Int64} {c s : Nat} {ret : Int32} (h : f_105 C = ret) : mv_E (mp L xs) 105 (0, [some (.ref 0)], []) (HPf C M o, c, s) ((.inl (some (.int ret)), (HPf C M o, c, s))) := by
  unfold f_105 at h
  refine mv_E.rT (t := mt_105) rfl 2 (f' := (4, [some (.ref 0)], [.int (C.1 1)])) (h' := (HPf C M o, c, s)) rfl ?_
  cases h
  exact mv_E.done rfl rfl
def f_107 (p0 : Int32) : Int32 := (if p0 = 0 then 0 else 1)
theorem t_107 (L : Nat) (xs : Nat → Int32) {hh : mv_H} {p0 : Int32} {ret : Int32} (h : f_107 p0 = ret) : mv_E (mp L xs) 107 (0, [some (.int p0)], []) hh ((.inl (some (.int ret)), hh)) := by
  unfold f_107 at h
  refine mv_E.rT (t := mt_107) rfl 1 (f' := (1, [some (.int p0)], [.int p0])) (h' := hh) rfl ?_
  by_cases hc658 : p0 = 0
  · replace h := (if_pos hc658).symm.trans h
    refine mv_E.go rfl (mi_if_pos hc658) ?_
    refine mv_E.rT (t := mt_107) rfl 1 (f' := (9, [some (.int p0)], [.int 0])) (h' := hh) rfl ?_
    cases h
    exact mv_E.done rfl rfl
  replace h := (if_neg hc658).symm.trans h
  refine mv_E.go rfl (mi_if_neg hc658) ?_
  refine mv_E.rT (t := mt_107) rfl 2 (f' := (9, [some (.int p0)], [.int 1])) (h' := hh) rfl ?_
  cases h
  exact mv_E.done rfl rfl
def b_108_31 : Nat → CS → Int32 → Option (Int32)
  | 0, _, _ => none
  | n + 1, C, l1 => (if (C.1 10) ≤ l1 then some 1 else if mv_in l1 2000 = true then if sok 10 l1 = true then (if ((C.2 1) l1.toNatClampNeg) = (sc 10 l1) then (b_108_31 n C) (l1 + 1) else some 0) else none else none)
theorem tb_108_31 (L : Nat) (xs : Nat → Int32) (M : CS) (o : Nat → Int64) (c s : Nat) : ∀ (n : Nat) (C : CS) (l1 : Int32) (ret : Int32), b_108_31 n C l1 = some ret → mv_E (mp L xs) 108 (31, [some (.ref 3), some (.int l1)], []) (HPf C M o, c, s) ((.inl (some (.int ret)), (HPf C M o, c, s))) := by
  intro n
  induction n with
  | zero => intro C l1 ret h; rw [b_108_31] at h; cases h
  | succ n ih =>
    intro C l1 ret h
    rw [b_108_31] at h
    refine mv_E.rT (t := mt_108) rfl 3 (f' := (36, [some (.ref 3), some (.int l1)], [.int (C.1 10), .int l1])) (h' := (HPf C M o, c, s)) rfl ?_
    by_cases hc676 : (C.1 10) ≤ l1
    · replace h := (if_pos hc676).symm.trans h
      refine mv_E.go rfl (mi_icmp_pos hc676) ?_
      refine mv_E.rT (t := mt_108) rfl 1 (f' := (63, [some (.ref 3), some (.int l1)], [.int 1])) (h' := (HPf C M o, c, s)) rfl ?_
      cases h
      exact mv_E.done rfl mi_zret1
    replace h := (if_neg hc676).symm.trans h
    refine mv_E.go rfl (mi_icmp_neg hc676) ?_
    refine mv_E.rT (t := mt_108) rfl 3 (f' := (44, [some (.ref 3), some (.int l1)], [.int l1, .ref 4])) (h' := (HPf C M o, c, s)) rfl ?_
    by_cases hb673 : mv_in l1 2000 = true
    rotate_left
    · cases (if_neg hb673).symm.trans h
    replace h := (if_pos hb673).symm.trans h
    refine mv_E.go rfl (mi_iald_at rfl hb673) ?_
    refine mv_E.rT (t := mt_108) rfl 2 (f' := (48, [some (.ref 3), some (.int l1)], [.int l1, .retAddr 10, .int ((C.2 1) l1.toNatClampNeg)])) (h' := (HPf C M o, c, s)) rfl ?_
    by_cases hq675 : sok 10 l1 = true
    rotate_left
    · cases (if_neg hq675).symm.trans h
    replace h := (if_pos hq675).symm.trans h
    refine mv_E.call (z := 8) (vs := [.retAddr 10, .int l1]) (f' := (51, [some (.ref 3), some (.int l1)], [.int ((C.2 1) l1.toNatClampNeg)])) (h' := (HPf C M o, c, s)) rfl (mi_callK_at rfl (sok_q hq675) rfl rfl) rfl (t_char L xs hq675) mv_okr ?_
    show mv_E (mp L xs) 108 (51, [some (.ref 3), some (.int l1)], [.int (sc 10 l1), .int ((C.2 1) l1.toNatClampNeg)]) (HPf C M o, c, s) _
    by_cases hc674 : ((C.2 1) l1.toNatClampNeg) = (sc 10 l1)
    · replace h := (if_pos hc674).symm.trans h
      refine mv_E.go rfl (mi_icmp_pos hc674) ?_
      refine mv_E.rT (t := mt_108) rfl 2 (f' := (31, [some (.ref 3), some (.int (l1 + 1))], [])) (h' := (HPf C M o, c, s)) rfl ?_
      exact (ih C) (l1 + 1) _ h
    replace h := (if_neg hc674).symm.trans h
    refine mv_E.go rfl (mi_icmp_neg hc674) ?_
    refine mv_E.rT (t := mt_108) rfl 1 (f' := (55, [some (.ref 3), some (.int l1)], [.int 0])) (h' := (HPf C M o, c, s)) rfl ?_
    cases h
    exact mv_E.done rfl mi_zret0
def f_108 (C : CS) : Option (Int32) := (if ¬ (C.1 3) = 3 then some 0 else (if ¬ (C.1 8) = 0 then some 0 else (if (C.1 10) = (sl 10) then b_108_31 fu C 0 else some 0)))
theorem t_108 (L : Nat) (xs : Nat → Int32) {C M : CS} {o : Nat → Int64} {c s : Nat} {ret : Int32} (h : f_108 C = some ret) : mv_E (mp L xs) 108 (0, [some (.ref 3), none], []) (HPf C M o, c, s) ((.inl (some (.int ret)), (HPf C M o, c, s))) := by
  unfold f_108 at h
  refine mv_E.rT (t := mt_108) rfl 3 (f' := (5, [some (.ref 3), none], [.int 3, .int (C.1 3)])) (h' := (HPf C M o, c, s)) rfl ?_
  by_cases hc679 : ¬ (C.1 3) = 3
  · replace h := (if_pos hc679).symm.trans h
    refine mv_E.go rfl (mi_icmp_pos hc679) ?_
    refine mv_E.rT (t := mt_108) rfl 1 (f' := (28, [some (.ref 3), none], [.int 0])) (h' := (HPf C M o, c, s)) rfl ?_
    cases h
    exact mv_E.done rfl mi_zret0
  replace h := (if_neg hc679).symm.trans h
  refine mv_E.go rfl (mi_icmp_neg hc679) ?_
  refine mv_E.rT (t := mt_108) rfl 2 (f' := (12, [some (.ref 3), none], [.int (C.1 8)])) (h' := (HPf C M o, c, s)) rfl ?_
  by_cases hc678 : ¬ (C.1 8) = 0
  · replace h := (if_pos hc678).symm.trans h
    refine mv_E.go rfl (mi_if_pos hc678) ?_
    refine mv_E.rT (t := mt_108) rfl 1 (f' := (28, [some (.ref 3), none], [.int 0])) (h' := (HPf C M o, c, s)) rfl ?_
    cases h
    exact mv_E.done rfl mi_zret0
  replace h := (if_neg hc678).symm.trans h
  refine mv_E.go rfl (mi_if_neg hc678) ?_
  refine mv_E.rT (t := mt_108) rfl 3 (f' := (21, [some (.ref 3), none], [.retAddr 10, .int (C.1 10)])) (h' := (HPf C M o, c, s)) rfl ?_
  refine mv_E.call (z := 3) (vs := [.retAddr 10]) (f' := (24, [some (.ref 3), none], [.int (C.1 10)])) (h' := (HPf C M o, c, s)) rfl (mi_callK_at rfl rfl rfl rfl) rfl (t_len L xs (q := 10) rfl) mv_okr ?_
  show mv_E (mp L xs) 108 (24, [some (.ref 3), none], [.int (sl 10), .int (C.1 10)]) (HPf C M o, c, s) _
  by_cases hc677 : (C.1 10) = (sl 10)
  · replace h := (if_pos hc677).symm.trans h
    refine mv_E.go rfl (mi_icmp_pos hc677) ?_
    refine mv_E.rT (t := mt_108) rfl 2 (f' := (31, [some (.ref 3), some (.int 0)], [])) (h' := (HPf C M o, c, s)) rfl ?_
    exact tb_108_31 L xs M o c s fu C 0 _ h
  replace h := (if_neg hc677).symm.trans h
  refine mv_E.go rfl (mi_icmp_neg hc677) ?_
  refine mv_E.rT (t := mt_108) rfl 1 (f' := (28, [some (.ref 3), none], [.int 0])) (h' := (HPf C M o, c, s)) rfl ?_
  cases h
  exact mv_E.done rfl mi_zret0
def f_109 (C : CS) (p0 : Int32) : Option ((Int32 ⊕ Nat) × CS) := (if p0 < 0 then some (.inr 0, C) else (if p0 ≤ 8 then (if ¬ (C.1 0) = 0 then (if p0 = 0 then some (.inl (C.1 3), C) else (if p0 = 1 then some (.inl (C.1 4), C) else (if p0 = 2 then some (.inl (C.1 5), C) else (if p0 = 3 then some (.inl (f_107 (C.1 6)), C) else (if p0 = 4 then some (.inl (C.1 7), C) else (if p0 = 5 then some (.inl (f_107 (C.1 8)), C) else (if p0 = 6 then some (.inl (C.1 9), C) else (if p0 = 7 then some (.inl (C.1 10), C) else (f_108 C).bind fun r680 => some (.inl (f_107 r680), C))))))))) else some (.inr 1, C)) else some (.inr 0, C)))
theorem t_109 (L : Nat) (xs : Nat → Int32) {C M : CS} {o : Nat → Int64} {c s : Nat} {p0 : Int32} {ret : (Int32 ⊕ Nat) × CS} (h : f_109 C p0 = some ret) : mv_E (mp L xs) 109 (0, [some (.ref 0), some (.int p0)], []) (HPf C M o, c, s) (cvI M o c s ret) := by
  unfold f_109 at h
  refine mv_E.rT (t := mt_109) rfl 1 (f' := (1, [some (.ref 0), some (.int p0)], [.int p0])) (h' := (HPf C M o, c, s)) rfl ?_
  by_cases hc684 : p0 < 0
  · replace h := (if_pos hc684).symm.trans h
    refine mv_E.go rfl (mi_if_pos hc684) ?_
    show mv_E (mp L xs) 109 (10, [some (.ref 0), some (.int p0)], []) (HPf C M o, c, s) _
    cases h
    exact mv_E.done rfl rfl
  replace h := (if_neg hc684).symm.trans h
  refine mv_E.go rfl (mi_if_neg hc684) ?_
  refine mv_E.rT (t := mt_109) rfl 2 (f' := (7, [some (.ref 0), some (.int p0)], [.int 8, .int p0])) (h' := (HPf C M o, c, s)) rfl ?_
  by_cases hc683 : p0 ≤ 8
  · replace h := (if_pos hc683).symm.trans h
    refine mv_E.go rfl (mi_icmp_pos hc683) ?_
    refine mv_E.rT (t := mt_109) rfl 2 (f' := (24, [some (.ref 0), some (.int p0)], [.int (C.1 0)])) (h' := (HPf C M o, c, s)) rfl ?_
    by_cases hc682 : ¬ (C.1 0) = 0
    · replace h := (if_pos hc682).symm.trans h
      refine mv_E.go rfl (mi_if_pos hc682) ?_
      refine mv_E.rT (t := mt_109) rfl 1 (f' := (38, [some (.ref 0), some (.int p0)], [.int p0])) (h' := (HPf C M o, c, s)) rfl ?_
      have e651 : mv_sw p0 154 [(0, 84), (1, 92), (2, 100), (3, 108), (4, 119), (5, 127), (6, 138), (7, 146)] = mv_sw p0 154 [(0, 84), (1, 92), (2, 100), (3, 108), (4, 119), (5, 127), (6, 138), (7, 146)] := rfl
      by_cases hs652 : p0 = 0
      · replace h := (if_pos hs652).symm.trans h
        refine mv_E.go rfl (mi_sw_at (e651.trans (if_pos hs652))) ?_
        refine mv_E.rT (t := mt_109) rfl 3 (f' := (91, [some (.ref 0), some (.int p0)], [.int (C.1 3)])) (h' := (HPf C M o, c, s)) rfl ?_
        cases h
        exact mv_E.done rfl rfl
      replace h := (if_neg hs652).symm.trans h
      have e653 := e651.trans (if_neg hs652)
      by_cases hs654 : p0 = 1
      · replace h := (if_pos hs654).symm.trans h
        refine mv_E.go rfl (mi_sw_at (e653.trans (if_pos hs654))) ?_
        refine mv_E.rT (t := mt_109) rfl 3 (f' := (99, [some (.ref 0), some (.int p0)], [.int (C.1 4)])) (h' := (HPf C M o, c, s)) rfl ?_
        cases h
        exact mv_E.done rfl rfl
      replace h := (if_neg hs654).symm.trans h
      have e655 := e653.trans (if_neg hs654)
      by_cases hs656 : p0 = 2
      · replace h := (if_pos hs656).symm.trans h
        refine mv_E.go rfl (mi_sw_at (e655.trans (if_pos hs656))) ?_
        refine mv_E.rT (t := mt_109) rfl 3 (f' := (107, [some (.ref 0), some (.int p0)], [.int (C.1 5)])) (h' := (HPf C M o, c, s)) rfl ?_
        cases h
        exact mv_E.done rfl rfl
      replace h := (if_neg hs656).symm.trans h
      have e657 := e655.trans (if_neg hs656)
      by_cases hs659 : p0 = 3
      · replace h := (if_pos hs659).symm.trans h
        refine mv_E.go rfl (mi_sw_at (e657.trans (if_pos hs659))) ?_
        refine mv_E.rT (t := mt_109) rfl 3 (f' := (115, [some (.ref 0), some (.int p0)], [.int (C.1 6)])) (h' := (HPf C M o, c, s)) rfl ?_
        refine mv_E.call (z := 107) (vs := [.int (C.1 6)]) (f' := (118, [some (.ref 0), some (.int p0)], [])) (h' := (HPf C M o, c, s)) rfl rfl rfl (t_107 L xs rfl) (mv_okl rfl) ?_
        show mv_E (mp L xs) 109 (118, [some (.ref 0), some (.int p0)], [.int (f_107 (C.1 6))]) (HPf C M o, c, s) _
        cases h
        exact mv_E.done rfl rfl
      replace h := (if_neg hs659).symm.trans h
      have e660 := e657.trans (if_neg hs659)
      by_cases hs661 : p0 = 4
      · replace h := (if_pos hs661).symm.trans h
        refine mv_E.go rfl (mi_sw_at (e660.trans (if_pos hs661))) ?_
        refine mv_E.rT (t := mt_109) rfl 3 (f' := (126, [some (.ref 0), some (.int p0)], [.int (C.1 7)])) (h' := (HPf C M o, c, s)) rfl ?_
        cases h
        exact mv_E.done rfl rfl
      replace h := (if_neg hs661).symm.trans h
      have e662 := e660.trans (if_neg hs661)
      by_cases hs663 : p0 = 5
      · replace h := (if_pos hs663).symm.trans h
        refine mv_E.go rfl (mi_sw_at (e662.trans (if_pos hs663))) ?_
        refine mv_E.rT (t := mt_109) rfl 3 (f' := (134, [some (.ref 0), some (.int p0)], [.int (C.1 8)])) (h' := (HPf C M o, c, s)) rfl ?_
        refine mv_E.call (z := 107) (vs := [.int (C.1 8)]) (f' := (137, [some (.ref 0), some (.int p0)], [])) (h' := (HPf C M o, c, s)) rfl rfl rfl (t_107 L xs rfl) (mv_okl rfl) ?_
        show mv_E (mp L xs) 109 (137, [some (.ref 0), some (.int p0)], [.int (f_107 (C.1 8))]) (HPf C M o, c, s) _
        cases h
        exact mv_E.done rfl rfl
      replace h := (if_neg hs663).symm.trans h
      have e664 := e662.trans (if_neg hs663)
      by_cases hs665 : p0 = 6
      · replace h := (if_pos hs665).symm.trans h
        refine mv_E.go rfl (mi_sw_at (e664.trans (if_pos hs665))) ?_
        refine mv_E.rT (t := mt_109) rfl 3 (f' := (145, [some (.ref 0), some (.int p0)], [.int (C.1 9)])) (h' := (HPf C M o, c, s)) rfl ?_
        cases h
        exact mv_E.done rfl rfl
      replace h := (if_neg hs665).symm.trans h
      have e666 := e664.trans (if_neg hs665)
      by_cases hs667 : p0 = 7
      · replace h := (if_pos hs667).symm.trans h
        refine mv_E.go rfl (mi_sw_at (e666.trans (if_pos hs667))) ?_
        refine mv_E.rT (t := mt_109) rfl 3 (f' := (153, [some (.ref 0), some (.int p0)], [.int (C.1 10)])) (h' := (HPf C M o, c, s)) rfl ?_
        cases h
        exact mv_E.done rfl rfl
      replace h := (if_neg hs667).symm.trans h
      have e668 := e666.trans (if_neg hs667)
      refine mv_E.go rfl (mi_sw_at e668) ?_
      refine mv_E.rT (t := mt_109) rfl 2 (f' := (158, [some (.ref 0), some (.int p0)], [.ref 3])) (h' := (HPf C M o, c, s)) rfl ?_
      obtain ⟨r680, hr681, h⟩ := Option.bind_eq_some_iff.mp h
      refine mv_E.call (z := 108) (vs := [.ref 3]) (f' := (161, [some (.ref 0), some (.int p0)], [])) (h' := (HPf C M o, c, s)) rfl rfl rfl (t_108 L xs hr681) (mv_okl rfl) ?_
      show mv_E (mp L xs) 109 (161, [some (.ref 0), some (.int p0)], [.int r680]) (HPf C M o, c, s) _
      refine mv_E.call (z := 107) (vs := [.int r680]) (f' := (164, [some (.ref 0), some (.int p0)], [])) (h' := (HPf C M o, c, s)) rfl rfl rfl (t_107 L xs rfl) (mv_okl rfl) ?_
      show mv_E (mp L xs) 109 (164, [some (.ref 0), some (.int p0)], [.int (f_107 r680)]) (HPf C M o, c, s) _
      cases h
      exact mv_E.done rfl rfl
    replace h := (if_neg hc682).symm.trans h
    refine mv_E.go rfl (mi_if_neg hc682) ?_
    show mv_E (mp L xs) 109 (27, [some (.ref 0), some (.int p0)], []) (HPf C M o, c, s) _
    cases h
    exact mv_E.done rfl rfl
  replace h := (if_neg hc683).symm.trans h
  refine mv_E.go rfl (mi_icmp_neg hc683) ?_
  show mv_E (mp L xs) 109 (10, [some (.ref 0), some (.int p0)], []) (HPf C M o, c, s) _
  cases h
  exact mv_E.done rfl rfl
