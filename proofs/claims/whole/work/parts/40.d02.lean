def b_49_63 (C : CS) : Option (Int32 × CS) := (f_48 C).bind fun r282 => if r282.1 = 0 ∨ r282.1 = 1 then some (r282.1, r282.2) else none
theorem tb_49_63 (L : Nat) (xs : Nat → Int32) (M : CS) (o : Nat → Int64) (c s : Nat) (C : CS) (ret : Int32 × CS) (h : b_49_63 C = some ret) : mv_E (mp L xs) 49 (63, [some (.ref 5)], []) (HPf C M o, c, s) ((.inl (some (.int ret.1)), (HPf ret.2 M o, c, s))) := by
  unfold b_49_63 at h
  refine mv_E.rT (t := mt_49) rfl 1 (f' := (64, [some (.ref 5)], [.ref 5])) (h' := (HPf C M o, c, s)) rfl ?_
  obtain ⟨r285, hr286, h⟩ := Option.bind_eq_some_iff.mp h
  refine mv_E.call (z := 48) (vs := [.ref 5]) (f' := (67, [some (.ref 5)], [])) (h' := (HPf C M o, c, s)) rfl rfl rfl (t_48 L xs hr286) (mv_okl rfl) ?_
  show mv_E (mp L xs) 49 (67, [some (.ref 5)], [.int r285.1]) (HPf r285.2 M o, c, s) _
  by_cases hz287 : r285.1 = 0 ∨ r285.1 = 1
  rotate_left
  · cases (if_neg hz287).symm.trans h
  replace h := (if_pos hz287).symm.trans h
  cases h
  exact mv_E.done rfl (mi_zret_at hz287)
def b_49_33 (C : CS) : Option (Int32 × CS) := (f_28 C (C.1 11)).bind fun r248 => (if ¬ r248 = 46 then b_49_63 C else (f_47 (ru (C.1) 11 (((C.1 11) + 1)), C.2)).bind fun r288 => b_49_63 r288)
theorem tb_49_33 (L : Nat) (xs : Nat → Int32) (M : CS) (o : Nat → Int64) (c s : Nat) (C : CS) (ret : Int32 × CS) (h : b_49_33 C = some ret) : mv_E (mp L xs) 49 (33, [some (.ref 5)], []) (HPf C M o, c, s) ((.inl (some (.int ret.1)), (HPf ret.2 M o, c, s))) := by
  unfold b_49_33 at h
  refine mv_E.rT (t := mt_49) rfl 4 (f' := (41, [some (.ref 5)], [.int (C.1 11), .ref 1])) (h' := (HPf C M o, c, s)) rfl ?_
  obtain ⟨r291, hr292, h⟩ := Option.bind_eq_some_iff.mp h
  refine mv_E.call (z := 28) (vs := [.ref 1, .int (C.1 11)]) (f' := (44, [some (.ref 5)], [])) (h' := (HPf C M o, c, s)) rfl rfl rfl (t_28 L xs hr292) (mv_okl rfl) ?_
  refine mv_E.rT (t := mt_49) rfl 1 (f' := (46, [some (.ref 5)], [.int 46, .int r291])) (h' := (HPf C M o, c, s)) rfl ?_
  by_cases hc295 : ¬ r291 = 46
  · replace h := (if_pos hc295).symm.trans h
    refine mv_E.go rfl (mi_icmp_pos hc295) ?_
    show mv_E (mp L xs) 49 (63, [some (.ref 5)], []) (HPf C M o, c, s) _
    exact tb_49_63 L xs M o c s C _ h
  replace h := (if_neg hc295).symm.trans h
  refine mv_E.go rfl (mi_icmp_neg hc295) ?_
  refine mv_E.rT (t := mt_49) rfl 7 (f' := (60, [some (.ref 5)], [.ref 5])) (h' := (HPf (ru (C.1) 11 (((C.1 11) + 1)), C.2) M o, c, s)) rfl ?_
  obtain ⟨r293, hr294, h⟩ := Option.bind_eq_some_iff.mp h
  refine mv_E.call (z := 47) (vs := [.ref 5]) (f' := (63, [some (.ref 5)], [])) (h' := (HPf (ru (C.1) 11 (((C.1 11) + 1)), C.2) M o, c, s)) rfl rfl rfl (t_47 L xs hr294) (mv_okl rfl) ?_
  show mv_E (mp L xs) 49 (63, [some (.ref 5)], []) (HPf r293 M o, c, s) _
  exact tb_49_63 L xs M o c s r293 _ h
def f_49 (C : CS) : Option (Int32 × CS) := (f_28 C (C.1 11)).bind fun r236 => (if ¬ r236 = 48 then (f_47 C).bind fun r246 => b_49_33 r246 else b_49_33 (ru (C.1) 11 (((C.1 11) + 1)), C.2))
theorem t_49 (L : Nat) (xs : Nat → Int32) {C M : CS} {o : Nat → Int64} {c s : Nat} {ret : Int32 × CS} (h : f_49 C = some ret) : mv_E (mp L xs) 49 (0, [some (.ref 5)], []) (HPf C M o, c, s) ((.inl (some (.int ret.1)), (HPf ret.2 M o, c, s))) := by
  unfold f_49 at h
  refine mv_E.rT (t := mt_49) rfl 4 (f' := (8, [some (.ref 5)], [.int (C.1 11), .ref 1])) (h' := (HPf C M o, c, s)) rfl ?_
  obtain ⟨r236, hr237, h⟩ := Option.bind_eq_some_iff.mp h
  refine mv_E.call (z := 28) (vs := [.ref 1, .int (C.1 11)]) (f' := (11, [some (.ref 5)], [])) (h' := (HPf C M o, c, s)) rfl rfl rfl (t_28 L xs hr237) (mv_okl rfl) ?_
  refine mv_E.rT (t := mt_49) rfl 1 (f' := (13, [some (.ref 5)], [.int 48, .int r236])) (h' := (HPf C M o, c, s)) rfl ?_
  by_cases hc296 : ¬ r236 = 48
  · replace h := (if_pos hc296).symm.trans h
    refine mv_E.go rfl (mi_icmp_pos hc296) ?_
    refine mv_E.rT (t := mt_49) rfl 1 (f' := (30, [some (.ref 5)], [.ref 5])) (h' := (HPf C M o, c, s)) rfl ?_
    obtain ⟨r246, hr247, h⟩ := Option.bind_eq_some_iff.mp h
    refine mv_E.call (z := 47) (vs := [.ref 5]) (f' := (33, [some (.ref 5)], [])) (h' := (HPf C M o, c, s)) rfl rfl rfl (t_47 L xs hr247) (mv_okl rfl) ?_
    show mv_E (mp L xs) 49 (33, [some (.ref 5)], []) (HPf r246 M o, c, s) _
    exact tb_49_33 L xs M o c s r246 _ h
  replace h := (if_neg hc296).symm.trans h
  refine mv_E.go rfl (mi_icmp_neg hc296) ?_
  refine mv_E.rT (t := mt_49) rfl 7 (f' := (33, [some (.ref 5)], [])) (h' := (HPf (ru (C.1) 11 (((C.1 11) + 1)), C.2) M o, c, s)) rfl ?_
  exact tb_49_33 L xs M o c s (ru (C.1) 11 (((C.1 11) + 1)), C.2) _ h
def b_50_8 : Nat → CS → Int32 → Option (CS)
  | 0, _, _ => none
  | n + 1, C, l1 => (if (C.1 11) ≤ l1 then some C else (f_28 C l1).bind fun r307 => (f_40 C r307).bind fun r309 => (b_50_8 n) r309 (l1 + 1))
theorem tb_50_8 (L : Nat) (xs : Nat → Int32) (M : CS) (o : Nat → Int64) (c s : Nat) : ∀ (n : Nat) (C : CS) (l1 : Int32) (ret : CS), b_50_8 n C l1 = some ret → mv_E (mp L xs) 50 (8, [some (.ref 5), some (.int l1)], []) (HPf C M o, c, s) ((.inl none, (HPf ret M o, c, s))) := by
  intro n
  induction n with
  | zero => intro C l1 ret h; rw [b_50_8] at h; cases h
  | succ n ih =>
    intro C l1 ret h
    rw [b_50_8] at h
    refine mv_E.rT (t := mt_50) rfl 3 (f' := (13, [some (.ref 5), some (.int l1)], [.int (C.1 11), .int l1])) (h' := (HPf C M o, c, s)) rfl ?_
    by_cases hc316 : (C.1 11) ≤ l1
    · replace h := (if_pos hc316).symm.trans h
      refine mv_E.go rfl (mi_icmp_pos hc316) ?_
      show mv_E (mp L xs) 50 (37, [some (.ref 5), some (.int l1)], []) (HPf C M o, c, s) _
      cases h
      exact mv_E.done rfl rfl
    replace h := (if_neg hc316).symm.trans h
    refine mv_E.go rfl (mi_icmp_neg hc316) ?_
    refine mv_E.rT (t := mt_50) rfl 5 (f' := (25, [some (.ref 5), some (.int l1)], [.int l1, .ref 1, .ref 3])) (h' := (HPf C M o, c, s)) rfl ?_
    obtain ⟨r312, hr313, h⟩ := Option.bind_eq_some_iff.mp h
    refine mv_E.call (z := 28) (vs := [.ref 1, .int l1]) (f' := (28, [some (.ref 5), some (.int l1)], [.ref 3])) (h' := (HPf C M o, c, s)) rfl rfl rfl (t_28 L xs hr313) (mv_okl rfl) ?_
    show mv_E (mp L xs) 50 (28, [some (.ref 5), some (.int l1)], [.int r312, .ref 3]) (HPf C M o, c, s) _
    obtain ⟨r314, hr315, h⟩ := Option.bind_eq_some_iff.mp h
    refine mv_E.call (z := 40) (vs := [.ref 3, .int r312]) (f' := (31, [some (.ref 5), some (.int l1)], [])) (h' := (HPf C M o, c, s)) rfl rfl rfl (t_40 L xs hr315) (mv_okl rfl) ?_
    refine mv_E.rT (t := mt_50) rfl 2 (f' := (8, [some (.ref 5), some (.int (l1 + 1))], [])) (h' := (HPf r314 M o, c, s)) rfl ?_
    exact ih r314 (l1 + 1) _ h
def f_50 (C : CS) : Option (CS) := b_50_8 fu C (C.1 4)
theorem t_50 (L : Nat) (xs : Nat → Int32) {C M : CS} {o : Nat → Int64} {c s : Nat} {ret : CS} (h : f_50 C = some ret) : mv_E (mp L xs) 50 (0, [some (.ref 5), none], []) (HPf C M o, c, s) ((.inl none, (HPf ret M o, c, s))) := by
  unfold f_50 at h
  refine mv_E.rT (t := mt_50) rfl 4 (f' := (8, [some (.ref 5), some (.int (C.1 4))], [])) (h' := (HPf C M o, c, s)) rfl ?_
  exact tb_50_8 L xs M o c s fu C (C.1 4) _ h
def b_46_37 : Nat → CS → Option (Int32 × CS)
  | 0, _ => none
  | n + 1, C => (if (f_19 C) ≤ (C.1 11) then some (1, C) else (f_28 C (C.1 11)).bind fun r338 => (if (f_36 r338) = (-1) then some (1, C) else (b_46_37 n) (ru (C.1) 11 (((C.1 11) + 1)), C.2)))
theorem tb_46_37 (L : Nat) (xs : Nat → Int32) (M : CS) (o : Nat → Int64) (c s : Nat) : ∀ (n : Nat) (C : CS)  (ret : Int32 × CS), b_46_37 n C = some ret → mv_E (mp L xs) 46 (37, [some (.ref 5)], []) (HPf C M o, c, s) ((.inl (some (.int ret.1)), (HPf ret.2 M o, c, s))) := by
  intro n
  induction n with
  | zero => intro C  ret h; rw [b_46_37] at h; cases h
  | succ n ih =>
    intro C  ret h
    rw [b_46_37] at h
    refine mv_E.rT (t := mt_46) rfl 4 (f' := (45, [some (.ref 5)], [.ref 1, .int (C.1 11)])) (h' := (HPf C M o, c, s)) rfl ?_
    refine mv_E.call (z := 19) (vs := [.ref 1]) (f' := (48, [some (.ref 5)], [.int (C.1 11)])) (h' := (HPf C M o, c, s)) rfl rfl rfl (t_19 L xs rfl) (mv_okl rfl) ?_
    show mv_E (mp L xs) 46 (48, [some (.ref 5)], [.int (f_19 C), .int (C.1 11)]) (HPf C M o, c, s) _
    by_cases hc345 : (f_19 C) ≤ (C.1 11)
    · replace h := (if_pos hc345).symm.trans h
      refine mv_E.go rfl (mi_icmp_pos hc345) ?_
      refine mv_E.rT (t := mt_46) rfl 1 (f' := (83, [some (.ref 5)], [.int 1])) (h' := (HPf C M o, c, s)) rfl ?_
      cases h
      exact mv_E.done rfl mi_zret1
    replace h := (if_neg hc345).symm.trans h
    refine mv_E.go rfl (mi_icmp_neg hc345) ?_
    refine mv_E.rT (t := mt_46) rfl 4 (f' := (59, [some (.ref 5)], [.int (C.1 11), .ref 1])) (h' := (HPf C M o, c, s)) rfl ?_
    obtain ⟨r342, hr343, h⟩ := Option.bind_eq_some_iff.mp h
    refine mv_E.call (z := 28) (vs := [.ref 1, .int (C.1 11)]) (f' := (62, [some (.ref 5)], [])) (h' := (HPf C M o, c, s)) rfl rfl rfl (t_28 L xs hr343) (mv_okl rfl) ?_
    show mv_E (mp L xs) 46 (62, [some (.ref 5)], [.int r342]) (HPf C M o, c, s) _
    refine mv_E.call (z := 36) (vs := [.int r342]) (f' := (65, [some (.ref 5)], [])) (h' := (HPf C M o, c, s)) rfl rfl rfl (t_36 L xs rfl) (mv_okl rfl) ?_
    refine mv_E.rT (t := mt_46) rfl 1 (f' := (66, [some (.ref 5)], [.int (-1), .int (f_36 r342)])) (h' := (HPf C M o, c, s)) rfl ?_
    by_cases hc344 : (f_36 r342) = (-1)
    · replace h := (if_pos hc344).symm.trans h
      refine mv_E.go rfl (mi_icmp_pos hc344) ?_
      refine mv_E.rT (t := mt_46) rfl 1 (f' := (83, [some (.ref 5)], [.int 1])) (h' := (HPf C M o, c, s)) rfl ?_
      cases h
      exact mv_E.done rfl mi_zret1
    replace h := (if_neg hc344).symm.trans h
    refine mv_E.go rfl (mi_icmp_neg hc344) ?_
    refine mv_E.rT (t := mt_46) rfl 7 (f' := (37, [some (.ref 5)], [])) (h' := (HPf (ru (C.1) 11 (((C.1 11) + 1)), C.2) M o, c, s)) rfl ?_
    exact ih (ru (C.1) 11 (((C.1 11) + 1)), C.2) _ h
def f_46 (C : CS) : Option (Int32 × CS) := (f_28 (ru (C.1) 11 (((C.1 11) + 2)), C.2) ((C.1 11) + 2)).bind fun r336 => (if ¬ (f_36 r336) = (-1) then b_46_37 fu (ru (C.1) 11 (((C.1 11) + 2)), C.2) else (f_32 (ru (C.1) 11 (((C.1 11) + 2)), C.2) ((C.1 11) + 2)).bind fun r346 => if r346.1 = 0 ∨ r346.1 = 1 then some (r346.1, r346.2) else none)
theorem t_46 (L : Nat) (xs : Nat → Int32) {C M : CS} {o : Nat → Int64} {c s : Nat} {ret : Int32 × CS} (h : f_46 C = some ret) : mv_E (mp L xs) 46 (0, [some (.ref 5)], []) (HPf C M o, c, s) ((.inl (some (.int ret.1)), (HPf ret.2 M o, c, s))) := by
  unfold f_46 at h
  refine mv_E.rT (t := mt_46) rfl 10 (f' := (18, [some (.ref 5)], [.int ((C.1 11) + 2), .ref 1])) (h' := (HPf (ru (C.1) 11 (((C.1 11) + 2)), C.2) M o, c, s)) rfl ?_
  obtain ⟨r336, hr337, h⟩ := Option.bind_eq_some_iff.mp h
  refine mv_E.call (z := 28) (vs := [.ref 1, .int ((C.1 11) + 2)]) (f' := (21, [some (.ref 5)], [])) (h' := (HPf (ru (C.1) 11 (((C.1 11) + 2)), C.2) M o, c, s)) rfl rfl rfl (t_28 L xs hr337) (mv_okl rfl) ?_
  show mv_E (mp L xs) 46 (21, [some (.ref 5)], [.int r336]) (HPf (ru (C.1) 11 (((C.1 11) + 2)), C.2) M o, c, s) _
  refine mv_E.call (z := 36) (vs := [.int r336]) (f' := (24, [some (.ref 5)], [])) (h' := (HPf (ru (C.1) 11 (((C.1 11) + 2)), C.2) M o, c, s)) rfl rfl rfl (t_36 L xs rfl) (mv_okl rfl) ?_
  refine mv_E.rT (t := mt_46) rfl 1 (f' := (25, [some (.ref 5)], [.int (-1), .int (f_36 r336)])) (h' := (HPf (ru (C.1) 11 (((C.1 11) + 2)), C.2) M o, c, s)) rfl ?_
  by_cases hc349 : ¬ (f_36 r336) = (-1)
  · replace h := (if_pos hc349).symm.trans h
    refine mv_E.go rfl (mi_icmp_pos hc349) ?_
    show mv_E (mp L xs) 46 (37, [some (.ref 5)], []) (HPf (ru (C.1) 11 (((C.1 11) + 2)), C.2) M o, c, s) _
    exact tb_46_37 L xs M o c s fu (ru (C.1) 11 (((C.1 11) + 2)), C.2) _ h
  replace h := (if_neg hc349).symm.trans h
  refine mv_E.go rfl (mi_icmp_neg hc349) ?_
  refine mv_E.rT (t := mt_46) rfl 3 (f' := (33, [some (.ref 5)], [.int ((C.1 11) + 2), .ref 5])) (h' := (HPf (ru (C.1) 11 (((C.1 11) + 2)), C.2) M o, c, s)) rfl ?_
  obtain ⟨r346, hr347, h⟩ := Option.bind_eq_some_iff.mp h
  refine mv_E.call (z := 32) (vs := [.ref 5, .int ((C.1 11) + 2)]) (f' := (36, [some (.ref 5)], [])) (h' := (HPf (ru (C.1) 11 (((C.1 11) + 2)), C.2) M o, c, s)) rfl rfl rfl (t_32 L xs hr347) (mv_okl rfl) ?_
  show mv_E (mp L xs) 46 (36, [some (.ref 5)], [.int r346.1]) (HPf r346.2 M o, c, s) _
  by_cases hz348 : r346.1 = 0 ∨ r346.1 = 1
  rotate_left
  · cases (if_neg hz348).symm.trans h
  replace h := (if_pos hz348).symm.trans h
  cases h
  exact mv_E.done rfl (mi_zret_at hz348)
def b_51_106 (C : CS) : Option (Int32 × CS) := (f_32 C (C.1 11)).bind fun r301 => if r301.1 = 0 ∨ r301.1 = 1 then some (r301.1, r301.2) else none
theorem tb_51_106 (L : Nat) (xs : Nat → Int32) (M : CS) (o : Nat → Int64) (c s : Nat) (C : CS) (d1 : Option Int32) (d2 : Option Int32) (d3 : Option Int32) (d4 : Option Int32) (ret : Int32 × CS) (h : b_51_106 C = some ret) : mv_E (mp L xs) 51 (106, [some (.ref 5), d1.map .int, d2.map .int, d3.map .int, d4.map .int], []) (HPf C M o, c, s) ((.inl (some (.int ret.1)), (HPf ret.2 M o, c, s))) := by
  unfold b_51_106 at h
  refine mv_E.rT (t := mt_51) rfl 3 (f' := (111, [some (.ref 5), d1.map .int, d2.map .int, d3.map .int, d4.map .int], [.int (C.1 11), .ref 5])) (h' := (HPf C M o, c, s)) rfl ?_
  obtain ⟨r304, hr305, h⟩ := Option.bind_eq_some_iff.mp h
  refine mv_E.call (z := 32) (vs := [.ref 5, .int (C.1 11)]) (f' := (114, [some (.ref 5), d1.map .int, d2.map .int, d3.map .int, d4.map .int], [])) (h' := (HPf C M o, c, s)) rfl rfl rfl (t_32 L xs hr305) (mv_okl rfl) ?_
  show mv_E (mp L xs) 51 (114, [some (.ref 5), d1.map .int, d2.map .int, d3.map .int, d4.map .int], [.int r304.1]) (HPf r304.2 M o, c, s) _
  by_cases hz306 : r304.1 = 0 ∨ r304.1 = 1
  rotate_left
  · cases (if_neg hz306).symm.trans h
  replace h := (if_pos hz306).symm.trans h
  cases h
  exact mv_E.done rfl (mi_zret_at hz306)
def b_51_71 (C : CS) (s0 : Int32) : Option (Int32 × CS) := (if ¬ s0 = 0 then (f_28 C (C.1 11)).bind fun r299 => (if ¬ (f_39 r299) = 0 then b_51_106 C else (if ¬ r299 = 92 then (f_50 C).bind fun r317 => some (1, r317) else b_51_106 C)) else some (0, C))
theorem tb_51_71 (L : Nat) (xs : Nat → Int32) (M : CS) (o : Nat → Int64) (c s : Nat) (C : CS) (s0 : Int32) (d1 : Option Int32) (d2 : Option Int32) (d3 : Option Int32) (d4 : Option Int32) (ret : Int32 × CS) (h : b_51_71 C s0 = some ret) : mv_E (mp L xs) 51 (71, [some (.ref 5), d1.map .int, d2.map .int, d3.map .int, d4.map .int], [.int s0]) (HPf C M o, c, s) ((.inl (some (.int ret.1)), (HPf ret.2 M o, c, s))) := by
  unfold b_51_71 at h
  rcases d2 with _ | d2
  · refine mv_E.rT (t := mt_51) rfl 2 (f' := (73, [some (.ref 5), d1.map .int, none, some (.int s0), d4.map .int], [.int s0])) (h' := (HPf C M o, c, s)) rfl ?_
    by_cases hc328 : ¬ s0 = 0
    · replace h := (if_pos hc328).symm.trans h
      refine mv_E.go rfl (mi_if_pos hc328) ?_
      refine mv_E.rT (t := mt_51) rfl 4 (f' := (86, [some (.ref 5), d1.map .int, none, some (.int s0), d4.map .int], [.int (C.1 11), .ref 1])) (h' := (HPf C M o, c, s)) rfl ?_
      obtain ⟨r322, hr323, h⟩ := Option.bind_eq_some_iff.mp h
      refine mv_E.call (z := 28) (vs := [.ref 1, .int (C.1 11)]) (f' := (89, [some (.ref 5), d1.map .int, none, some (.int s0), d4.map .int], [])) (h' := (HPf C M o, c, s)) rfl rfl rfl (t_28 L xs hr323) (mv_okl rfl) ?_
      refine mv_E.rT (t := mt_51) rfl 2 (f' := (93, [some (.ref 5), d1.map .int, none, some (.int s0), some (.int r322)], [.int r322])) (h' := (HPf C M o, c, s)) rfl ?_
      refine mv_E.call (z := 39) (vs := [.int r322]) (f' := (96, [some (.ref 5), d1.map .int, none, some (.int s0), some (.int r322)], [])) (h' := (HPf C M o, c, s)) rfl rfl rfl (t_39 L xs rfl) (mv_okl rfl) ?_
      show mv_E (mp L xs) 51 (96, [some (.ref 5), d1.map .int, none, some (.int s0), some (.int r322)], [.int (f_39 r322)]) (HPf C M o, c, s) _
      by_cases hc327 : ¬ (f_39 r322) = 0
      · replace h := (if_pos hc327).symm.trans h
        refine mv_E.go rfl (mi_if_pos hc327) ?_
        show mv_E (mp L xs) 51 (106, [some (.ref 5), d1.map .int, none, some (.int s0), some (.int r322)], []) (HPf C M o, c, s) _
        exact tb_51_106 L xs M o c s C d1 none (some s0) (some r322) _ h
      replace h := (if_neg hc327).symm.trans h
      refine mv_E.go rfl (mi_if_neg hc327) ?_
      refine mv_E.rT (t := mt_51) rfl 2 (f' := (103, [some (.ref 5), d1.map .int, none, some (.int s0), some (.int r322)], [.int 92, .int r322])) (h' := (HPf C M o, c, s)) rfl ?_
      by_cases hc326 : ¬ r322 = 92
      · replace h := (if_pos hc326).symm.trans h
        refine mv_E.go rfl (mi_icmp_pos hc326) ?_
        refine mv_E.rT (t := mt_51) rfl 1 (f' := (116, [some (.ref 5), d1.map .int, none, some (.int s0), some (.int r322)], [.ref 5])) (h' := (HPf C M o, c, s)) rfl ?_
        obtain ⟨r324, hr325, h⟩ := Option.bind_eq_some_iff.mp h
        refine mv_E.call (z := 50) (vs := [.ref 5]) (f' := (119, [some (.ref 5), d1.map .int, none, some (.int s0), some (.int r322)], [])) (h' := (HPf C M o, c, s)) rfl rfl rfl (t_50 L xs hr325) (mv_okl rfl) ?_
        refine mv_E.rT (t := mt_51) rfl 1 (f' := (120, [some (.ref 5), d1.map .int, none, some (.int s0), some (.int r322)], [.int 1])) (h' := (HPf r324 M o, c, s)) rfl ?_
        cases h
        exact mv_E.done rfl mi_zret1
      replace h := (if_neg hc326).symm.trans h
      refine mv_E.go rfl (mi_icmp_neg hc326) ?_
      show mv_E (mp L xs) 51 (106, [some (.ref 5), d1.map .int, none, some (.int s0), some (.int r322)], []) (HPf C M o, c, s) _
      exact tb_51_106 L xs M o c s C d1 none (some s0) (some r322) _ h
    replace h := (if_neg hc328).symm.trans h
    refine mv_E.go rfl (mi_if_neg hc328) ?_
    refine mv_E.rT (t := mt_51) rfl 1 (f' := (77, [some (.ref 5), d1.map .int, none, some (.int s0), d4.map .int], [.int 0])) (h' := (HPf C M o, c, s)) rfl ?_
    cases h
    exact mv_E.done rfl mi_zret0
  · refine mv_E.rT (t := mt_51) rfl 2 (f' := (73, [some (.ref 5), d1.map .int, some (.int d2), some (.int s0), d4.map .int], [.int s0])) (h' := (HPf C M o, c, s)) rfl ?_
    by_cases hc335 : ¬ s0 = 0
    · replace h := (if_pos hc335).symm.trans h
      refine mv_E.go rfl (mi_if_pos hc335) ?_
      refine mv_E.rT (t := mt_51) rfl 4 (f' := (86, [some (.ref 5), d1.map .int, some (.int d2), some (.int s0), d4.map .int], [.int (C.1 11), .ref 1])) (h' := (HPf C M o, c, s)) rfl ?_
      obtain ⟨r329, hr330, h⟩ := Option.bind_eq_some_iff.mp h
      refine mv_E.call (z := 28) (vs := [.ref 1, .int (C.1 11)]) (f' := (89, [some (.ref 5), d1.map .int, some (.int d2), some (.int s0), d4.map .int], [])) (h' := (HPf C M o, c, s)) rfl rfl rfl (t_28 L xs hr330) (mv_okl rfl) ?_
      refine mv_E.rT (t := mt_51) rfl 2 (f' := (93, [some (.ref 5), d1.map .int, some (.int d2), some (.int s0), some (.int r329)], [.int r329])) (h' := (HPf C M o, c, s)) rfl ?_
      refine mv_E.call (z := 39) (vs := [.int r329]) (f' := (96, [some (.ref 5), d1.map .int, some (.int d2), some (.int s0), some (.int r329)], [])) (h' := (HPf C M o, c, s)) rfl rfl rfl (t_39 L xs rfl) (mv_okl rfl) ?_
      show mv_E (mp L xs) 51 (96, [some (.ref 5), d1.map .int, some (.int d2), some (.int s0), some (.int r329)], [.int (f_39 r329)]) (HPf C M o, c, s) _
      by_cases hc334 : ¬ (f_39 r329) = 0
      · replace h := (if_pos hc334).symm.trans h
        refine mv_E.go rfl (mi_if_pos hc334) ?_
        show mv_E (mp L xs) 51 (106, [some (.ref 5), d1.map .int, some (.int d2), some (.int s0), some (.int r329)], []) (HPf C M o, c, s) _
        exact tb_51_106 L xs M o c s C d1 (some d2) (some s0) (some r329) _ h
      replace h := (if_neg hc334).symm.trans h
      refine mv_E.go rfl (mi_if_neg hc334) ?_
      refine mv_E.rT (t := mt_51) rfl 2 (f' := (103, [some (.ref 5), d1.map .int, some (.int d2), some (.int s0), some (.int r329)], [.int 92, .int r329])) (h' := (HPf C M o, c, s)) rfl ?_
      by_cases hc333 : ¬ r329 = 92
      · replace h := (if_pos hc333).symm.trans h
        refine mv_E.go rfl (mi_icmp_pos hc333) ?_
        refine mv_E.rT (t := mt_51) rfl 1 (f' := (116, [some (.ref 5), d1.map .int, some (.int d2), some (.int s0), some (.int r329)], [.ref 5])) (h' := (HPf C M o, c, s)) rfl ?_
        obtain ⟨r331, hr332, h⟩ := Option.bind_eq_some_iff.mp h
        refine mv_E.call (z := 50) (vs := [.ref 5]) (f' := (119, [some (.ref 5), d1.map .int, some (.int d2), some (.int s0), some (.int r329)], [])) (h' := (HPf C M o, c, s)) rfl rfl rfl (t_50 L xs hr332) (mv_okl rfl) ?_
        refine mv_E.rT (t := mt_51) rfl 1 (f' := (120, [some (.ref 5), d1.map .int, some (.int d2), some (.int s0), some (.int r329)], [.int 1])) (h' := (HPf r331 M o, c, s)) rfl ?_
        cases h
        exact mv_E.done rfl mi_zret1
      replace h := (if_neg hc333).symm.trans h
      refine mv_E.go rfl (mi_icmp_neg hc333) ?_
      show mv_E (mp L xs) 51 (106, [some (.ref 5), d1.map .int, some (.int d2), some (.int s0), some (.int r329)], []) (HPf C M o, c, s) _
      exact tb_51_106 L xs M o c s C d1 (some d2) (some s0) (some r329) _ h
    replace h := (if_neg hc335).symm.trans h
    refine mv_E.go rfl (mi_if_neg hc335) ?_
    refine mv_E.rT (t := mt_51) rfl 1 (f' := (77, [some (.ref 5), d1.map .int, some (.int d2), some (.int s0), d4.map .int], [.int 0])) (h' := (HPf C M o, c, s)) rfl ?_
    cases h
    exact mv_E.done rfl mi_zret0
def b_51_55 (C : CS) (s0 : Int32) : Option (Int32 × CS) := (if s0 = 0 then (f_49 C).bind fun r297 => b_51_71 r297.2 r297.1 else (f_46 C).bind fun r350 => b_51_71 r350.2 r350.1)
theorem tb_51_55 (L : Nat) (xs : Nat → Int32) (M : CS) (o : Nat → Int64) (c s : Nat) (C : CS) (s0 : Int32) (d1 : Option Int32) (d2 : Option Int32) (d3 : Option Int32) (d4 : Option Int32) (ret : Int32 × CS) (h : b_51_55 C s0 = some ret) : mv_E (mp L xs) 51 (55, [some (.ref 5), d1.map .int, d2.map .int, d3.map .int, d4.map .int], [.int s0]) (HPf C M o, c, s) ((.inl (some (.int ret.1)), (HPf ret.2 M o, c, s))) := by
  unfold b_51_55 at h
  rcases d1 with _ | d1
  · refine mv_E.rT (t := mt_51) rfl 2 (f' := (57, [some (.ref 5), none, some (.int s0), d3.map .int, d4.map .int], [.int s0])) (h' := (HPf C M o, c, s)) rfl ?_
    by_cases hc357 : s0 = 0
    · replace h := (if_pos hc357).symm.trans h
      refine mv_E.go rfl (mi_if_pos hc357) ?_
      refine mv_E.rT (t := mt_51) rfl 1 (f' := (68, [some (.ref 5), none, some (.int s0), d3.map .int, d4.map .int], [.ref 5])) (h' := (HPf C M o, c, s)) rfl ?_
      obtain ⟨r353, hr354, h⟩ := Option.bind_eq_some_iff.mp h
      refine mv_E.call (z := 49) (vs := [.ref 5]) (f' := (71, [some (.ref 5), none, some (.int s0), d3.map .int, d4.map .int], [])) (h' := (HPf C M o, c, s)) rfl rfl rfl (t_49 L xs hr354) (mv_okl rfl) ?_
      show mv_E (mp L xs) 51 (71, [some (.ref 5), none, some (.int s0), d3.map .int, d4.map .int], [.int r353.1]) (HPf r353.2 M o, c, s) _
      exact tb_51_71 L xs M o c s r353.2 r353.1 none (some s0) d3 d4 _ h
    replace h := (if_neg hc357).symm.trans h
    refine mv_E.go rfl (mi_if_neg hc357) ?_
    refine mv_E.rT (t := mt_51) rfl 1 (f' := (61, [some (.ref 5), none, some (.int s0), d3.map .int, d4.map .int], [.ref 5])) (h' := (HPf C M o, c, s)) rfl ?_
    obtain ⟨r355, hr356, h⟩ := Option.bind_eq_some_iff.mp h
    refine mv_E.call (z := 46) (vs := [.ref 5]) (f' := (64, [some (.ref 5), none, some (.int s0), d3.map .int, d4.map .int], [])) (h' := (HPf C M o, c, s)) rfl rfl rfl (t_46 L xs hr356) (mv_okl rfl) ?_
    refine mv_E.rT (t := mt_51) rfl 1 (f' := (71, [some (.ref 5), none, some (.int s0), d3.map .int, d4.map .int], [.int r355.1])) (h' := (HPf r355.2 M o, c, s)) rfl ?_
    exact tb_51_71 L xs M o c s r355.2 r355.1 none (some s0) d3 d4 _ h
  · refine mv_E.rT (t := mt_51) rfl 2 (f' := (57, [some (.ref 5), some (.int d1), some (.int s0), d3.map .int, d4.map .int], [.int s0])) (h' := (HPf C M o, c, s)) rfl ?_
    by_cases hc362 : s0 = 0
    · replace h := (if_pos hc362).symm.trans h
      refine mv_E.go rfl (mi_if_pos hc362) ?_
      refine mv_E.rT (t := mt_51) rfl 1 (f' := (68, [some (.ref 5), some (.int d1), some (.int s0), d3.map .int, d4.map .int], [.ref 5])) (h' := (HPf C M o, c, s)) rfl ?_
      obtain ⟨r358, hr359, h⟩ := Option.bind_eq_some_iff.mp h
      refine mv_E.call (z := 49) (vs := [.ref 5]) (f' := (71, [some (.ref 5), some (.int d1), some (.int s0), d3.map .int, d4.map .int], [])) (h' := (HPf C M o, c, s)) rfl rfl rfl (t_49 L xs hr359) (mv_okl rfl) ?_
      show mv_E (mp L xs) 51 (71, [some (.ref 5), some (.int d1), some (.int s0), d3.map .int, d4.map .int], [.int r358.1]) (HPf r358.2 M o, c, s) _
      exact tb_51_71 L xs M o c s r358.2 r358.1 (some d1) (some s0) d3 d4 _ h
    replace h := (if_neg hc362).symm.trans h
    refine mv_E.go rfl (mi_if_neg hc362) ?_
    refine mv_E.rT (t := mt_51) rfl 1 (f' := (61, [some (.ref 5), some (.int d1), some (.int s0), d3.map .int, d4.map .int], [.ref 5])) (h' := (HPf C M o, c, s)) rfl ?_
    obtain ⟨r360, hr361, h⟩ := Option.bind_eq_some_iff.mp h
    refine mv_E.call (z := 46) (vs := [.ref 5]) (f' := (64, [some (.ref 5), some (.int d1), some (.int s0), d3.map .int, d4.map .int], [])) (h' := (HPf C M o, c, s)) rfl rfl rfl (t_46 L xs hr361) (mv_okl rfl) ?_
    refine mv_E.rT (t := mt_51) rfl 1 (f' := (71, [some (.ref 5), some (.int d1), some (.int s0), d3.map .int, d4.map .int], [.int r360.1])) (h' := (HPf r360.2 M o, c, s)) rfl ?_
    exact tb_51_71 L xs M o c s r360.2 r360.1 (some d1) (some s0) d3 d4 _ h
def b_51_54 (C : CS) : Option (Int32 × CS) := b_51_55 C 0
theorem tb_51_54 (L : Nat) (xs : Nat → Int32) (M : CS) (o : Nat → Int64) (c s : Nat) (C : CS) (d1 : Option Int32) (d2 : Option Int32) (d3 : Option Int32) (d4 : Option Int32) (ret : Int32 × CS) (h : b_51_54 C = some ret) : mv_E (mp L xs) 51 (54, [some (.ref 5), d1.map .int, d2.map .int, d3.map .int, d4.map .int], []) (HPf C M o, c, s) ((.inl (some (.int ret.1)), (HPf ret.2 M o, c, s))) := by
  unfold b_51_54 at h
  refine mv_E.rT (t := mt_51) rfl 1 (f' := (55, [some (.ref 5), d1.map .int, d2.map .int, d3.map .int, d4.map .int], [.int 0])) (h' := (HPf C M o, c, s)) rfl ?_
  exact tb_51_55 L xs M o c s C 0 d1 d2 d3 d4 _ h
def b_51_50 (C : CS) : Option (Int32 × CS) := b_51_55 C 1
theorem tb_51_50 (L : Nat) (xs : Nat → Int32) (M : CS) (o : Nat → Int64) (c s : Nat) (C : CS) (d1 : Option Int32) (d2 : Option Int32) (d3 : Option Int32) (d4 : Option Int32) (ret : Int32 × CS) (h : b_51_50 C = some ret) : mv_E (mp L xs) 51 (50, [some (.ref 5), d1.map .int, d2.map .int, d3.map .int, d4.map .int], []) (HPf C M o, c, s) ((.inl (some (.int ret.1)), (HPf ret.2 M o, c, s))) := by
  unfold b_51_50 at h
  refine mv_E.rT (t := mt_51) rfl 2 (f' := (55, [some (.ref 5), d1.map .int, d2.map .int, d3.map .int, d4.map .int], [.int 1])) (h' := (HPf C M o, c, s)) rfl ?_
  exact tb_51_55 L xs M o c s C 1 d1 d2 d3 d4 _ h
def f_51 (C : CS) : Option (Int32 × CS) := (f_28 (ru (C.1) 3 (2), C.2) ((C.1 11) + 1)).bind fun r232 => (f_28 (ru (C.1) 3 (2), C.2) (C.1 11)).bind fun r234 => (if ¬ r234 = 48 then b_51_54 (ru (C.1) 3 (2), C.2) else (if r232 = 120 then b_51_50 (ru (C.1) 3 (2), C.2) else (if ¬ r232 = 88 then b_51_54 (ru (C.1) 3 (2), C.2) else b_51_50 (ru (C.1) 3 (2), C.2))))
theorem t_51 (L : Nat) (xs : Nat → Int32) {C M : CS} {o : Nat → Int64} {c s : Nat} {ret : Int32 × CS} (h : f_51 C = some ret) : mv_E (mp L xs) 51 (0, [some (.ref 5), none, none, none, none], []) (HPf C M o, c, s) ((.inl (some (.int ret.1)), (HPf ret.2 M o, c, s))) := by
  unfold f_51 at h
  refine mv_E.rT (t := mt_51) rfl 10 (f' := (18, [some (.ref 5), none, none, none, none], [.int ((C.1 11) + 1), .ref 1])) (h' := (HPf (ru (C.1) 3 (2), C.2) M o, c, s)) rfl ?_
  obtain ⟨r232, hr233, h⟩ := Option.bind_eq_some_iff.mp h
  refine mv_E.call (z := 28) (vs := [.ref 1, .int ((C.1 11) + 1)]) (f' := (21, [some (.ref 5), none, none, none, none], [])) (h' := (HPf (ru (C.1) 3 (2), C.2) M o, c, s)) rfl rfl rfl (t_28 L xs hr233) (mv_okl rfl) ?_
  refine mv_E.rT (t := mt_51) rfl 5 (f' := (30, [some (.ref 5), some (.int r232), none, none, none], [.int (C.1 11), .ref 1])) (h' := (HPf (ru (C.1) 3 (2), C.2) M o, c, s)) rfl ?_
  obtain ⟨r234, hr235, h⟩ := Option.bind_eq_some_iff.mp h
  refine mv_E.call (z := 28) (vs := [.ref 1, .int (C.1 11)]) (f' := (33, [some (.ref 5), some (.int r232), none, none, none], [])) (h' := (HPf (ru (C.1) 3 (2), C.2) M o, c, s)) rfl rfl rfl (t_28 L xs hr235) (mv_okl rfl) ?_
  refine mv_E.rT (t := mt_51) rfl 1 (f' := (35, [some (.ref 5), some (.int r232), none, none, none], [.int 48, .int r234])) (h' := (HPf (ru (C.1) 3 (2), C.2) M o, c, s)) rfl ?_
  by_cases hc365 : ¬ r234 = 48
  · replace h := (if_pos hc365).symm.trans h
    refine mv_E.go rfl (mi_icmp_pos hc365) ?_
    show mv_E (mp L xs) 51 (54, [some (.ref 5), some (.int r232), none, none, none], []) (HPf (ru (C.1) 3 (2), C.2) M o, c, s) _
    exact tb_51_54 L xs M o c s (ru (C.1) 3 (2), C.2) (some r232) none none none _ h
  replace h := (if_neg hc365).symm.trans h
  refine mv_E.go rfl (mi_icmp_neg hc365) ?_
  refine mv_E.rT (t := mt_51) rfl 2 (f' := (41, [some (.ref 5), some (.int r232), none, none, none], [.int 120, .int r232])) (h' := (HPf (ru (C.1) 3 (2), C.2) M o, c, s)) rfl ?_
  by_cases hc364 : r232 = 120
  · replace h := (if_pos hc364).symm.trans h
    refine mv_E.go rfl (mi_icmp_pos hc364) ?_
    show mv_E (mp L xs) 51 (50, [some (.ref 5), some (.int r232), none, none, none], []) (HPf (ru (C.1) 3 (2), C.2) M o, c, s) _
    exact tb_51_50 L xs M o c s (ru (C.1) 3 (2), C.2) (some r232) none none none _ h
  replace h := (if_neg hc364).symm.trans h
  refine mv_E.go rfl (mi_icmp_neg hc364) ?_
  refine mv_E.rT (t := mt_51) rfl 2 (f' := (47, [some (.ref 5), some (.int r232), none, none, none], [.int 88, .int r232])) (h' := (HPf (ru (C.1) 3 (2), C.2) M o, c, s)) rfl ?_
  by_cases hc363 : ¬ r232 = 88
  · replace h := (if_pos hc363).symm.trans h
    refine mv_E.go rfl (mi_icmp_pos hc363) ?_
    show mv_E (mp L xs) 51 (54, [some (.ref 5), some (.int r232), none, none, none], []) (HPf (ru (C.1) 3 (2), C.2) M o, c, s) _
    exact tb_51_54 L xs M o c s (ru (C.1) 3 (2), C.2) (some r232) none none none _ h
  replace h := (if_neg hc363).symm.trans h
  refine mv_E.go rfl (mi_icmp_neg hc363) ?_
  show mv_E (mp L xs) 51 (50, [some (.ref 5), some (.int r232), none, none, none], []) (HPf (ru (C.1) 3 (2), C.2) M o, c, s) _
  exact tb_51_50 L xs M o c s (ru (C.1) 3 (2), C.2) (some r232) none none none _ h
def f_54 (p0 : Int32) : Int32 := (if p0 = 98 then 8 else (if p0 = 102 then 12 else (if p0 = 110 then 10 else (if p0 = 114 then 13 else (if p0 = 116 then 9 else (if p0 = 118 then 11 else p0))))))
theorem t_54 (L : Nat) (xs : Nat → Int32) {hh : mv_H} {p0 : Int32} {ret : Int32} (h : f_54 p0 = ret) : mv_E (mp L xs) 54 (0, [some (.int p0)], []) hh ((.inl (some (.int ret)), hh)) := by
  unfold f_54 at h
  refine mv_E.rT (t := mt_54) rfl 1 (f' := (1, [some (.int p0)], [.int p0])) (h' := hh) rfl ?_
  have e396 : mv_sw p0 78 [(98, 60), (102, 72), (110, 66), (114, 75), (116, 63), (118, 69)] = mv_sw p0 78 [(98, 60), (102, 72), (110, 66), (114, 75), (116, 63), (118, 69)] := rfl
  by_cases hs397 : p0 = 98
  · replace h := (if_pos hs397).symm.trans h
    refine mv_E.go rfl (mi_sw_at (e396.trans (if_pos hs397))) ?_
    refine mv_E.rT (t := mt_54) rfl 1 (f' := (62, [some (.int p0)], [.int 8])) (h' := hh) rfl ?_
    cases h
    exact mv_E.done rfl rfl
  replace h := (if_neg hs397).symm.trans h
  have e398 := e396.trans (if_neg hs397)
  by_cases hs399 : p0 = 102
  · replace h := (if_pos hs399).symm.trans h
    refine mv_E.go rfl (mi_sw_at (e398.trans (if_pos hs399))) ?_
    refine mv_E.rT (t := mt_54) rfl 1 (f' := (74, [some (.int p0)], [.int 12])) (h' := hh) rfl ?_
    cases h
    exact mv_E.done rfl rfl
  replace h := (if_neg hs399).symm.trans h
  have e400 := e398.trans (if_neg hs399)
  by_cases hs401 : p0 = 110
  · replace h := (if_pos hs401).symm.trans h
    refine mv_E.go rfl (mi_sw_at (e400.trans (if_pos hs401))) ?_
    refine mv_E.rT (t := mt_54) rfl 1 (f' := (68, [some (.int p0)], [.int 10])) (h' := hh) rfl ?_
    cases h
    exact mv_E.done rfl rfl
  replace h := (if_neg hs401).symm.trans h
  have e402 := e400.trans (if_neg hs401)
  by_cases hs403 : p0 = 114
  · replace h := (if_pos hs403).symm.trans h
    refine mv_E.go rfl (mi_sw_at (e402.trans (if_pos hs403))) ?_
    refine mv_E.rT (t := mt_54) rfl 1 (f' := (77, [some (.int p0)], [.int 13])) (h' := hh) rfl ?_
    cases h
    exact mv_E.done rfl rfl
  replace h := (if_neg hs403).symm.trans h
  have e404 := e402.trans (if_neg hs403)
  by_cases hs405 : p0 = 116
  · replace h := (if_pos hs405).symm.trans h
    refine mv_E.go rfl (mi_sw_at (e404.trans (if_pos hs405))) ?_
    refine mv_E.rT (t := mt_54) rfl 1 (f' := (65, [some (.int p0)], [.int 9])) (h' := hh) rfl ?_
    cases h
    exact mv_E.done rfl rfl
  replace h := (if_neg hs405).symm.trans h
  have e406 := e404.trans (if_neg hs405)
  by_cases hs407 : p0 = 118
  · replace h := (if_pos hs407).symm.trans h
    refine mv_E.go rfl (mi_sw_at (e406.trans (if_pos hs407))) ?_
    refine mv_E.rT (t := mt_54) rfl 1 (f' := (71, [some (.int p0)], [.int 11])) (h' := hh) rfl ?_
    cases h
    exact mv_E.done rfl rfl
  replace h := (if_neg hs407).symm.trans h
  have e408 := e406.trans (if_neg hs407)
  refine mv_E.go rfl (mi_sw_at e408) ?_
  refine mv_E.rT (t := mt_54) rfl 1 (f' := (79, [some (.int p0)], [.int p0])) (h' := hh) rfl ?_
  cases h
  exact mv_E.done rfl rfl
def f_53 (C : CS) (p0 : Int32) : Option (CS) := (if ¬ p0 = 13 then some C else (f_28 C (C.1 11)).bind fun r413 => (if ¬ r413 = 10 then some C else some (ru (C.1) 11 (((C.1 11) + 1)), C.2)))
theorem t_53 (L : Nat) (xs : Nat → Int32) {C M : CS} {o : Nat → Int64} {c s : Nat} {p0 : Int32} {ret : CS} (h : f_53 C p0 = some ret) : mv_E (mp L xs) 53 (0, [some (.ref 5), some (.int p0)], []) (HPf C M o, c, s) ((.inl none, (HPf ret M o, c, s))) := by
  unfold f_53 at h
  refine mv_E.rT (t := mt_53) rfl 2 (f' := (3, [some (.ref 5), some (.int p0)], [.int 13, .int p0])) (h' := (HPf C M o, c, s)) rfl ?_
  by_cases hc416 : ¬ p0 = 13
  · replace h := (if_pos hc416).symm.trans h
    refine mv_E.go rfl (mi_icmp_pos hc416) ?_
    show mv_E (mp L xs) 53 (32, [some (.ref 5), some (.int p0)], []) (HPf C M o, c, s) _
    cases h
    exact mv_E.done rfl rfl
  replace h := (if_neg hc416).symm.trans h
  refine mv_E.go rfl (mi_icmp_neg hc416) ?_
  refine mv_E.rT (t := mt_53) rfl 4 (f' := (14, [some (.ref 5), some (.int p0)], [.int (C.1 11), .ref 1])) (h' := (HPf C M o, c, s)) rfl ?_
  obtain ⟨r413, hr414, h⟩ := Option.bind_eq_some_iff.mp h
  refine mv_E.call (z := 28) (vs := [.ref 1, .int (C.1 11)]) (f' := (17, [some (.ref 5), some (.int p0)], [])) (h' := (HPf C M o, c, s)) rfl rfl rfl (t_28 L xs hr414) (mv_okl rfl) ?_
  refine mv_E.rT (t := mt_53) rfl 1 (f' := (19, [some (.ref 5), some (.int p0)], [.int 10, .int r413])) (h' := (HPf C M o, c, s)) rfl ?_
  by_cases hc415 : ¬ r413 = 10
  · replace h := (if_pos hc415).symm.trans h
    refine mv_E.go rfl (mi_icmp_pos hc415) ?_
    show mv_E (mp L xs) 53 (32, [some (.ref 5), some (.int p0)], []) (HPf C M o, c, s) _
    cases h
    exact mv_E.done rfl rfl
  replace h := (if_neg hc415).symm.trans h
  refine mv_E.go rfl (mi_icmp_neg hc415) ?_
  refine mv_E.rT (t := mt_53) rfl 6 (f' := (32, [some (.ref 5), some (.int p0)], [])) (h' := (HPf (ru (C.1) 11 (((C.1 11) + 1)), C.2) M o, c, s)) rfl ?_
  cases h
  exact mv_E.done rfl rfl
def f_52 (C : CS) : Option (Int32 × CS) := (f_28 C (C.1 11)).bind fun r420 => (if r420 = 48 then (f_28 (ru (C.1) 11 (((C.1 11) + 1)), C.2) ((C.1 11) + 1)).bind fun r422 => (if (f_38 r422) = 0 then (f_40 (ru (C.1) 11 (((C.1 11) + 1)), C.2) 0).bind fun r424 => some (1, r424) else (f_32 (ru (C.1) 11 (((C.1 11) + 1)), C.2) ((C.1 11) + 1)).bind fun r426 => if r426.1 = 0 ∨ r426.1 = 1 then some (r426.1, r426.2) else none) else (f_32 C (C.1 11)).bind fun r430 => if r430.1 = 0 ∨ r430.1 = 1 then some (r430.1, r430.2) else none)
theorem t_52 (L : Nat) (xs : Nat → Int32) {C M : CS} {o : Nat → Int64} {c s : Nat} {ret : Int32 × CS} (h : f_52 C = some ret) : mv_E (mp L xs) 52 (0, [some (.ref 5)], []) (HPf C M o, c, s) ((.inl (some (.int ret.1)), (HPf ret.2 M o, c, s))) := by
  unfold f_52 at h
  refine mv_E.rT (t := mt_52) rfl 4 (f' := (8, [some (.ref 5)], [.int (C.1 11), .ref 1])) (h' := (HPf C M o, c, s)) rfl ?_
  obtain ⟨r420, hr421, h⟩ := Option.bind_eq_some_iff.mp h
  refine mv_E.call (z := 28) (vs := [.ref 1, .int (C.1 11)]) (f' := (11, [some (.ref 5)], [])) (h' := (HPf C M o, c, s)) rfl rfl rfl (t_28 L xs hr421) (mv_okl rfl) ?_
  refine mv_E.rT (t := mt_52) rfl 1 (f' := (13, [some (.ref 5)], [.int 48, .int r420])) (h' := (HPf C M o, c, s)) rfl ?_
  by_cases hc433 : r420 = 48
  · replace h := (if_pos hc433).symm.trans h
    refine mv_E.go rfl (mi_icmp_pos hc433) ?_
    refine mv_E.rT (t := mt_52) rfl 10 (f' := (43, [some (.ref 5)], [.int ((C.1 11) + 1), .ref 1])) (h' := (HPf (ru (C.1) 11 (((C.1 11) + 1)), C.2) M o, c, s)) rfl ?_
    obtain ⟨r422, hr423, h⟩ := Option.bind_eq_some_iff.mp h
    refine mv_E.call (z := 28) (vs := [.ref 1, .int ((C.1 11) + 1)]) (f' := (46, [some (.ref 5)], [])) (h' := (HPf (ru (C.1) 11 (((C.1 11) + 1)), C.2) M o, c, s)) rfl rfl rfl (t_28 L xs hr423) (mv_okl rfl) ?_
    show mv_E (mp L xs) 52 (46, [some (.ref 5)], [.int r422]) (HPf (ru (C.1) 11 (((C.1 11) + 1)), C.2) M o, c, s) _
    refine mv_E.call (z := 38) (vs := [.int r422]) (f' := (49, [some (.ref 5)], [])) (h' := (HPf (ru (C.1) 11 (((C.1 11) + 1)), C.2) M o, c, s)) rfl rfl rfl (t_38 L xs rfl) (mv_okl rfl) ?_
    show mv_E (mp L xs) 52 (49, [some (.ref 5)], [.int (f_38 r422)]) (HPf (ru (C.1) 11 (((C.1 11) + 1)), C.2) M o, c, s) _
    by_cases hc429 : (f_38 r422) = 0
    · replace h := (if_pos hc429).symm.trans h
      refine mv_E.go rfl (mi_if_pos hc429) ?_
      refine mv_E.rT (t := mt_52) rfl 3 (f' := (66, [some (.ref 5)], [.int 0, .ref 3])) (h' := (HPf (ru (C.1) 11 (((C.1 11) + 1)), C.2) M o, c, s)) rfl ?_
      obtain ⟨r424, hr425, h⟩ := Option.bind_eq_some_iff.mp h
      refine mv_E.call (z := 40) (vs := [.ref 3, .int 0]) (f' := (69, [some (.ref 5)], [])) (h' := (HPf (ru (C.1) 11 (((C.1 11) + 1)), C.2) M o, c, s)) rfl rfl rfl (t_40 L xs hr425) (mv_okl rfl) ?_
      refine mv_E.rT (t := mt_52) rfl 1 (f' := (70, [some (.ref 5)], [.int 1])) (h' := (HPf r424 M o, c, s)) rfl ?_
      cases h
      exact mv_E.done rfl mi_zret1
    replace h := (if_neg hc429).symm.trans h
    refine mv_E.go rfl (mi_if_neg hc429) ?_
    refine mv_E.rT (t := mt_52) rfl 3 (f' := (57, [some (.ref 5)], [.int ((C.1 11) + 1), .ref 5])) (h' := (HPf (ru (C.1) 11 (((C.1 11) + 1)), C.2) M o, c, s)) rfl ?_
    obtain ⟨r426, hr427, h⟩ := Option.bind_eq_some_iff.mp h
    refine mv_E.call (z := 32) (vs := [.ref 5, .int ((C.1 11) + 1)]) (f' := (60, [some (.ref 5)], [])) (h' := (HPf (ru (C.1) 11 (((C.1 11) + 1)), C.2) M o, c, s)) rfl rfl rfl (t_32 L xs hr427) (mv_okl rfl) ?_
    show mv_E (mp L xs) 52 (60, [some (.ref 5)], [.int r426.1]) (HPf r426.2 M o, c, s) _
    by_cases hz428 : r426.1 = 0 ∨ r426.1 = 1
    rotate_left
    · cases (if_neg hz428).symm.trans h
    replace h := (if_pos hz428).symm.trans h
    cases h
    exact mv_E.done rfl (mi_zret_at hz428)
  replace h := (if_neg hc433).symm.trans h
  refine mv_E.go rfl (mi_icmp_neg hc433) ?_
  refine mv_E.rT (t := mt_52) rfl 3 (f' := (21, [some (.ref 5)], [.int (C.1 11), .ref 5])) (h' := (HPf C M o, c, s)) rfl ?_
  obtain ⟨r430, hr431, h⟩ := Option.bind_eq_some_iff.mp h
  refine mv_E.call (z := 32) (vs := [.ref 5, .int (C.1 11)]) (f' := (24, [some (.ref 5)], [])) (h' := (HPf C M o, c, s)) rfl rfl rfl (t_32 L xs hr431) (mv_okl rfl) ?_
  show mv_E (mp L xs) 52 (24, [some (.ref 5)], [.int r430.1]) (HPf r430.2 M o, c, s) _
  by_cases hz432 : r430.1 = 0 ∨ r430.1 = 1
  rotate_left
  · cases (if_neg hz432).symm.trans h
  replace h := (if_pos hz432).symm.trans h
  cases h
  exact mv_E.done rfl (mi_zret_at hz432)
def b_55_94 (C : CS) (s0 : Int32) : Option (Int32 × CS) := (f_37 C s0).bind fun r379 => (if ¬ r379.1 = (-1) then (f_40 r379.2 r379.1).bind fun r381 => some (1, r381) else some (0, r379.2))
theorem tb_55_94 (L : Nat) (xs : Nat → Int32) (M : CS) (o : Nat → Int64) (c s : Nat) (C : CS) (s0 : Int32) (d1 : Option Int32) (d2 : Option Int32) (ret : Int32 × CS) (h : b_55_94 C s0 = some ret) : mv_E (mp L xs) 55 (94, [some (.ref 5), d1.map .int, d2.map .int], [.int s0, .ref 5]) (HPf C M o, c, s) ((.inl (some (.int ret.1)), (HPf ret.2 M o, c, s))) := by
  unfold b_55_94 at h
  rcases d1 with _ | d1
  · show mv_E (mp L xs) 55 (94, [some (.ref 5), none, d2.map .int], [.int s0, .ref 5]) (HPf C M o, c, s) _
    obtain ⟨r384, hr385, h⟩ := Option.bind_eq_some_iff.mp h
    refine mv_E.call (z := 37) (vs := [.ref 5, .int s0]) (f' := (97, [some (.ref 5), none, d2.map .int], [])) (h' := (HPf C M o, c, s)) rfl rfl rfl (t_37 L xs hr385) (mv_okl rfl) ?_
    refine mv_E.rT (t := mt_55) rfl 3 (f' := (100, [some (.ref 5), none, some (.int r384.1)], [.int (-1), .int r384.1])) (h' := (HPf r384.2 M o, c, s)) rfl ?_
    by_cases hc388 : ¬ r384.1 = (-1)
    · replace h := (if_pos hc388).symm.trans h
      refine mv_E.go rfl (mi_icmp_pos hc388) ?_
      refine mv_E.rT (t := mt_55) rfl 3 (f' := (110, [some (.ref 5), none, some (.int r384.1)], [.int r384.1, .ref 3])) (h' := (HPf r384.2 M o, c, s)) rfl ?_
      obtain ⟨r386, hr387, h⟩ := Option.bind_eq_some_iff.mp h
      refine mv_E.call (z := 40) (vs := [.ref 3, .int r384.1]) (f' := (113, [some (.ref 5), none, some (.int r384.1)], [])) (h' := (HPf r384.2 M o, c, s)) rfl rfl rfl (t_40 L xs hr387) (mv_okl rfl) ?_
      refine mv_E.rT (t := mt_55) rfl 1 (f' := (114, [some (.ref 5), none, some (.int r384.1)], [.int 1])) (h' := (HPf r386 M o, c, s)) rfl ?_
      cases h
      exact mv_E.done rfl mi_zret1
    replace h := (if_neg hc388).symm.trans h
    refine mv_E.go rfl (mi_icmp_neg hc388) ?_
    refine mv_E.rT (t := mt_55) rfl 1 (f' := (104, [some (.ref 5), none, some (.int r384.1)], [.int 0])) (h' := (HPf r384.2 M o, c, s)) rfl ?_
    cases h
    exact mv_E.done rfl mi_zret0
  · show mv_E (mp L xs) 55 (94, [some (.ref 5), some (.int d1), d2.map .int], [.int s0, .ref 5]) (HPf C M o, c, s) _
    obtain ⟨r389, hr390, h⟩ := Option.bind_eq_some_iff.mp h
    refine mv_E.call (z := 37) (vs := [.ref 5, .int s0]) (f' := (97, [some (.ref 5), some (.int d1), d2.map .int], [])) (h' := (HPf C M o, c, s)) rfl rfl rfl (t_37 L xs hr390) (mv_okl rfl) ?_
    refine mv_E.rT (t := mt_55) rfl 3 (f' := (100, [some (.ref 5), some (.int d1), some (.int r389.1)], [.int (-1), .int r389.1])) (h' := (HPf r389.2 M o, c, s)) rfl ?_
    by_cases hc393 : ¬ r389.1 = (-1)
    · replace h := (if_pos hc393).symm.trans h
      refine mv_E.go rfl (mi_icmp_pos hc393) ?_
      refine mv_E.rT (t := mt_55) rfl 3 (f' := (110, [some (.ref 5), some (.int d1), some (.int r389.1)], [.int r389.1, .ref 3])) (h' := (HPf r389.2 M o, c, s)) rfl ?_
      obtain ⟨r391, hr392, h⟩ := Option.bind_eq_some_iff.mp h
      refine mv_E.call (z := 40) (vs := [.ref 3, .int r389.1]) (f' := (113, [some (.ref 5), some (.int d1), some (.int r389.1)], [])) (h' := (HPf r389.2 M o, c, s)) rfl rfl rfl (t_40 L xs hr392) (mv_okl rfl) ?_
      refine mv_E.rT (t := mt_55) rfl 1 (f' := (114, [some (.ref 5), some (.int d1), some (.int r389.1)], [.int 1])) (h' := (HPf r391 M o, c, s)) rfl ?_
      cases h
      exact mv_E.done rfl mi_zret1
    replace h := (if_neg hc393).symm.trans h
    refine mv_E.go rfl (mi_icmp_neg hc393) ?_
    refine mv_E.rT (t := mt_55) rfl 1 (f' := (104, [some (.ref 5), some (.int d1), some (.int r389.1)], [.int 0])) (h' := (HPf r389.2 M o, c, s)) rfl ?_
    cases h
    exact mv_E.done rfl mi_zret0
def b_55_82 (C : CS) (l1 : Int32) : Option (Int32 × CS) := (if ¬ l1 = 120 then b_55_94 C 4 else b_55_94 C 2)
theorem tb_55_82 (L : Nat) (xs : Nat → Int32) (M : CS) (o : Nat → Int64) (c s : Nat) (C : CS) (l1 : Int32) (d2 : Option Int32) (ret : Int32 × CS) (h : b_55_82 C l1 = some ret) : mv_E (mp L xs) 55 (82, [some (.ref 5), some (.int l1), d2.map .int], []) (HPf C M o, c, s) ((.inl (some (.int ret.1)), (HPf ret.2 M o, c, s))) := by
  unfold b_55_82 at h
  refine mv_E.rT (t := mt_55) rfl 3 (f' := (86, [some (.ref 5), some (.int l1), d2.map .int], [.int 120, .int l1, .ref 5])) (h' := (HPf C M o, c, s)) rfl ?_
  by_cases hc395 : ¬ l1 = 120
  · replace h := (if_pos hc395).symm.trans h
    refine mv_E.go rfl (mi_icmp_pos hc395) ?_
    refine mv_E.rT (t := mt_55) rfl 1 (f' := (94, [some (.ref 5), some (.int l1), d2.map .int], [.int 4, .ref 5])) (h' := (HPf C M o, c, s)) rfl ?_
    exact tb_55_94 L xs M o c s C 4 (some l1) d2 _ h
  replace h := (if_neg hc395).symm.trans h
  refine mv_E.go rfl (mi_icmp_neg hc395) ?_
  refine mv_E.rT (t := mt_55) rfl 2 (f' := (94, [some (.ref 5), some (.int l1), d2.map .int], [.int 2, .ref 5])) (h' := (HPf C M o, c, s)) rfl ?_
  exact tb_55_94 L xs M o c s C 2 (some l1) d2 _ h
def f_55 (C : CS) : Option (Int32 × CS) := (f_28 (ru (C.1) 8 (1), C.2) (C.1 11)).bind fun r377 => (if ¬ r377 = (-1) then (if (f_38 r377) = 0 then (if (f_30 r377) = 0 then (if r377 = 120 then b_55_82 (ru (ru (C.1) 8 (1)) 11 (((C.1 11) + 1)), C.2) r377 else (if ¬ r377 = 117 then (f_40 (ru (ru (C.1) 8 (1)) 11 (((C.1 11) + 1)), C.2) (f_54 r377)).bind fun r409 => some (1, r409) else b_55_82 (ru (ru (C.1) 8 (1)) 11 (((C.1 11) + 1)), C.2) r377)) else (f_53 (ru (ru (C.1) 8 (1)) 11 (((C.1 11) + 1)), C.2) r377).bind fun r417 => some (1, r417)) else (f_52 (ru (C.1) 8 (1), C.2)).bind fun r434 => if r434.1 = 0 ∨ r434.1 = 1 then some (r434.1, r434.2) else none) else (f_32 (ru (C.1) 8 (1), C.2) (C.1 11)).bind fun r438 => if r438.1 = 0 ∨ r438.1 = 1 then some (r438.1, r438.2) else none)
theorem t_55 (L : Nat) (xs : Nat → Int32) {C M : CS} {o : Nat → Int64} {c s : Nat} {ret : Int32 × CS} (h : f_55 C = some ret) : mv_E (mp L xs) 55 (0, [some (.ref 5), none, none], []) (HPf C M o, c, s) ((.inl (some (.int ret.1)), (HPf ret.2 M o, c, s))) := by
  unfold f_55 at h
  refine mv_E.rT (t := mt_55) rfl 8 (f' := (16, [some (.ref 5), none, none], [.int (C.1 11), .ref 1])) (h' := (HPf (ru (C.1) 8 (1), C.2) M o, c, s)) rfl ?_
  obtain ⟨r377, hr378, h⟩ := Option.bind_eq_some_iff.mp h
  refine mv_E.call (z := 28) (vs := [.ref 1, .int (C.1 11)]) (f' := (19, [some (.ref 5), none, none], [])) (h' := (HPf (ru (C.1) 8 (1), C.2) M o, c, s)) rfl rfl rfl (t_28 L xs hr378) (mv_okl rfl) ?_
  refine mv_E.rT (t := mt_55) rfl 3 (f' := (22, [some (.ref 5), some (.int r377), none], [.int (-1), .int r377])) (h' := (HPf (ru (C.1) 8 (1), C.2) M o, c, s)) rfl ?_
  by_cases hc441 : ¬ r377 = (-1)
  · replace h := (if_pos hc441).symm.trans h
    refine mv_E.go rfl (mi_icmp_pos hc441) ?_
    refine mv_E.rT (t := mt_55) rfl 1 (f' := (35, [some (.ref 5), some (.int r377), none], [.int r377])) (h' := (HPf (ru (C.1) 8 (1), C.2) M o, c, s)) rfl ?_
    refine mv_E.call (z := 38) (vs := [.int r377]) (f' := (38, [some (.ref 5), some (.int r377), none], [])) (h' := (HPf (ru (C.1) 8 (1), C.2) M o, c, s)) rfl rfl rfl (t_38 L xs rfl) (mv_okl rfl) ?_
    show mv_E (mp L xs) 55 (38, [some (.ref 5), some (.int r377), none], [.int (f_38 r377)]) (HPf (ru (C.1) 8 (1), C.2) M o, c, s) _
    by_cases hc437 : (f_38 r377) = 0
    · replace h := (if_pos hc437).symm.trans h
      refine mv_E.go rfl (mi_if_pos hc437) ?_
      refine mv_E.rT (t := mt_55) rfl 7 (f' := (57, [some (.ref 5), some (.int r377), none], [.int r377])) (h' := (HPf (ru (ru (C.1) 8 (1)) 11 (((C.1 11) + 1)), C.2) M o, c, s)) rfl ?_
      refine mv_E.call (z := 30) (vs := [.int r377]) (f' := (60, [some (.ref 5), some (.int r377), none], [])) (h' := (HPf (ru (ru (C.1) 8 (1)) 11 (((C.1 11) + 1)), C.2) M o, c, s)) rfl rfl rfl (t_30 L xs rfl) (mv_okl rfl) ?_
      show mv_E (mp L xs) 55 (60, [some (.ref 5), some (.int r377), none], [.int (f_30 r377)]) (HPf (ru (ru (C.1) 8 (1)) 11 (((C.1 11) + 1)), C.2) M o, c, s) _
      by_cases hc419 : (f_30 r377) = 0
      · replace h := (if_pos hc419).symm.trans h
        refine mv_E.go rfl (mi_if_pos hc419) ?_
        refine mv_E.rT (t := mt_55) rfl 2 (f' := (73, [some (.ref 5), some (.int r377), none], [.int 120, .int r377])) (h' := (HPf (ru (ru (C.1) 8 (1)) 11 (((C.1 11) + 1)), C.2) M o, c, s)) rfl ?_
        by_cases hc412 : r377 = 120
        · replace h := (if_pos hc412).symm.trans h
          refine mv_E.go rfl (mi_icmp_pos hc412) ?_
          show mv_E (mp L xs) 55 (82, [some (.ref 5), some (.int r377), none], []) (HPf (ru (ru (C.1) 8 (1)) 11 (((C.1 11) + 1)), C.2) M o, c, s) _
          exact tb_55_82 L xs M o c s (ru (ru (C.1) 8 (1)) 11 (((C.1 11) + 1)), C.2) r377 none _ h
        replace h := (if_neg hc412).symm.trans h
        refine mv_E.go rfl (mi_icmp_neg hc412) ?_
        refine mv_E.rT (t := mt_55) rfl 2 (f' := (79, [some (.ref 5), some (.int r377), none], [.int 117, .int r377])) (h' := (HPf (ru (ru (C.1) 8 (1)) 11 (((C.1 11) + 1)), C.2) M o, c, s)) rfl ?_
        by_cases hc411 : ¬ r377 = 117
        · replace h := (if_pos hc411).symm.trans h
          refine mv_E.go rfl (mi_icmp_pos hc411) ?_
          refine mv_E.rT (t := mt_55) rfl 3 (f' := (120, [some (.ref 5), some (.int r377), none], [.int r377, .ref 3])) (h' := (HPf (ru (ru (C.1) 8 (1)) 11 (((C.1 11) + 1)), C.2) M o, c, s)) rfl ?_
          refine mv_E.call (z := 54) (vs := [.int r377]) (f' := (123, [some (.ref 5), some (.int r377), none], [.ref 3])) (h' := (HPf (ru (ru (C.1) 8 (1)) 11 (((C.1 11) + 1)), C.2) M o, c, s)) rfl rfl rfl (t_54 L xs rfl) (mv_okl rfl) ?_
          show mv_E (mp L xs) 55 (123, [some (.ref 5), some (.int r377), none], [.int (f_54 r377), .ref 3]) (HPf (ru (ru (C.1) 8 (1)) 11 (((C.1 11) + 1)), C.2) M o, c, s) _
          obtain ⟨r409, hr410, h⟩ := Option.bind_eq_some_iff.mp h
          refine mv_E.call (z := 40) (vs := [.ref 3, .int (f_54 r377)]) (f' := (126, [some (.ref 5), some (.int r377), none], [])) (h' := (HPf (ru (ru (C.1) 8 (1)) 11 (((C.1 11) + 1)), C.2) M o, c, s)) rfl rfl rfl (t_40 L xs hr410) (mv_okl rfl) ?_
          refine mv_E.rT (t := mt_55) rfl 1 (f' := (127, [some (.ref 5), some (.int r377), none], [.int 1])) (h' := (HPf r409 M o, c, s)) rfl ?_
          cases h
          exact mv_E.done rfl mi_zret1
        replace h := (if_neg hc411).symm.trans h
        refine mv_E.go rfl (mi_icmp_neg hc411) ?_
        show mv_E (mp L xs) 55 (82, [some (.ref 5), some (.int r377), none], []) (HPf (ru (ru (C.1) 8 (1)) 11 (((C.1 11) + 1)), C.2) M o, c, s) _
        exact tb_55_82 L xs M o c s (ru (ru (C.1) 8 (1)) 11 (((C.1 11) + 1)), C.2) r377 none _ h
      replace h := (if_neg hc419).symm.trans h
      refine mv_E.go rfl (mi_if_neg hc419) ?_
      refine mv_E.rT (t := mt_55) rfl 2 (f' := (65, [some (.ref 5), some (.int r377), none], [.int r377, .ref 5])) (h' := (HPf (ru (ru (C.1) 8 (1)) 11 (((C.1 11) + 1)), C.2) M o, c, s)) rfl ?_
      obtain ⟨r417, hr418, h⟩ := Option.bind_eq_some_iff.mp h
      refine mv_E.call (z := 53) (vs := [.ref 5, .int r377]) (f' := (68, [some (.ref 5), some (.int r377), none], [])) (h' := (HPf (ru (ru (C.1) 8 (1)) 11 (((C.1 11) + 1)), C.2) M o, c, s)) rfl rfl rfl (t_53 L xs hr418) (mv_okl rfl) ?_
      refine mv_E.rT (t := mt_55) rfl 1 (f' := (69, [some (.ref 5), some (.int r377), none], [.int 1])) (h' := (HPf r417 M o, c, s)) rfl ?_
      cases h
      exact mv_E.done rfl mi_zret1
    replace h := (if_neg hc437).symm.trans h
    refine mv_E.go rfl (mi_if_neg hc437) ?_
    refine mv_E.rT (t := mt_55) rfl 1 (f' := (42, [some (.ref 5), some (.int r377), none], [.ref 5])) (h' := (HPf (ru (C.1) 8 (1), C.2) M o, c, s)) rfl ?_
    obtain ⟨r434, hr435, h⟩ := Option.bind_eq_some_iff.mp h
    refine mv_E.call (z := 52) (vs := [.ref 5]) (f' := (45, [some (.ref 5), some (.int r377), none], [])) (h' := (HPf (ru (C.1) 8 (1), C.2) M o, c, s)) rfl rfl rfl (t_52 L xs hr435) (mv_okl rfl) ?_
    show mv_E (mp L xs) 55 (45, [some (.ref 5), some (.int r377), none], [.int r434.1]) (HPf r434.2 M o, c, s) _
    by_cases hz436 : r434.1 = 0 ∨ r434.1 = 1
    rotate_left
    · cases (if_neg hz436).symm.trans h
    replace h := (if_pos hz436).symm.trans h
    cases h
    exact mv_E.done rfl (mi_zret_at hz436)
  replace h := (if_neg hc441).symm.trans h
  refine mv_E.go rfl (mi_icmp_neg hc441) ?_
  refine mv_E.rT (t := mt_55) rfl 3 (f' := (30, [some (.ref 5), some (.int r377), none], [.int (C.1 11), .ref 5])) (h' := (HPf (ru (C.1) 8 (1), C.2) M o, c, s)) rfl ?_
  obtain ⟨r438, hr439, h⟩ := Option.bind_eq_some_iff.mp h
  refine mv_E.call (z := 32) (vs := [.ref 5, .int (C.1 11)]) (f' := (33, [some (.ref 5), some (.int r377), none], [])) (h' := (HPf (ru (C.1) 8 (1), C.2) M o, c, s)) rfl rfl rfl (t_32 L xs hr439) (mv_okl rfl) ?_
  show mv_E (mp L xs) 55 (33, [some (.ref 5), some (.int r377), none], [.int r438.1]) (HPf r438.2 M o, c, s) _
  by_cases hz440 : r438.1 = 0 ∨ r438.1 = 1
  rotate_left
  · cases (if_neg hz440).symm.trans h
  replace h := (if_pos hz440).symm.trans h
  cases h
  exact mv_E.done rfl (mi_zret_at hz440)
