def f_17 (C : CS) (p0 : Int32) : Int32 := (if (2000 - (C.1 2)) < p0 then 0 else 1)
theorem t_17 (L : Nat) (xs : Nat → Int32) {C M : CS} {o : Nat → Int64} {c s : Nat} {p0 : Int32} {ret : Int32} (h : f_17 C p0 = ret) : mv_E (mp L xs) 17 (0, [some (.ref 1), some (.int p0)], []) (HPf C M o, c, s) ((.inl (some (.int ret)), (HPf C M o, c, s))) := by
  unfold f_17 at h
  refine mv_E.rT (t := mt_17) rfl 7 (f' := (11, [some (.ref 1), some (.int p0)], [.int (2000 - (C.1 2)), .int p0])) (h' := (HPf C M o, c, s)) rfl ?_
  by_cases hc1 : (2000 - (C.1 2)) < p0
  · replace h := (if_pos hc1).symm.trans h
    refine mv_E.go rfl (mi_icmp_pos hc1) ?_
    refine mv_E.rT (t := mt_17) rfl 1 (f' := (19, [some (.ref 1), some (.int p0)], [.int 0])) (h' := (HPf C M o, c, s)) rfl ?_
    cases h
    exact mv_E.done rfl mi_zret0
  replace h := (if_neg hc1).symm.trans h
  refine mv_E.go rfl (mi_icmp_neg hc1) ?_
  refine mv_E.rT (t := mt_17) rfl 2 (f' := (19, [some (.ref 1), some (.int p0)], [.int 1])) (h' := (HPf C M o, c, s)) rfl ?_
  cases h
  exact mv_E.done rfl mi_zret1
def f_19 (C : CS) : Int32 := C.1 2
theorem t_19 (L : Nat) (xs : Nat → Int32) {C M : CS} {o : Nat → Int64} {c s : Nat} {ret : Int32} (h : f_19 C = ret) : mv_E (mp L xs) 19 (0, [some (.ref 1)], []) (HPf C M o, c, s) ((.inl (some (.int ret)), (HPf C M o, c, s))) := by
  unfold f_19 at h
  refine mv_E.rT (t := mt_19) rfl 2 (f' := (4, [some (.ref 1)], [.int (C.1 2)])) (h' := (HPf C M o, c, s)) rfl ?_
  cases h
  exact mv_E.done rfl rfl
def f_18 (C : CS) (p0 : Int32) : Option (CS) := (if 2000 ≤ (C.1 2) then some C else if mv_in (C.1 2) 2000 = true then some (ru (C.1) 2 (((C.1 2) + 1)), ru (C.2) 0 (upd (C.2 0) (C.1 2).toNatClampNeg p0)) else none)
theorem t_18 (L : Nat) (xs : Nat → Int32) {C M : CS} {o : Nat → Int64} {c s : Nat} {p0 : Int32} {ret : CS} (h : f_18 C p0 = some ret) : mv_E (mp L xs) 18 (0, [some (.ref 1), some (.int p0)], []) (HPf C M o, c, s) ((.inl none, (HPf ret M o, c, s))) := by
  unfold f_18 at h
  refine mv_E.rT (t := mt_18) rfl 5 (f' := (9, [some (.ref 1), some (.int p0)], [.int 2000, .int (C.1 2)])) (h' := (HPf C M o, c, s)) rfl ?_
  by_cases hc3 : 2000 ≤ (C.1 2)
  · replace h := (if_pos hc3).symm.trans h
    refine mv_E.go rfl (mi_icmp_pos hc3) ?_
    show mv_E (mp L xs) 18 (32, [some (.ref 1), some (.int p0)], []) (HPf C M o, c, s) _
    cases h
    exact mv_E.done rfl rfl
  replace h := (if_neg hc3).symm.trans h
  refine mv_E.go rfl (mi_icmp_neg hc3) ?_
  refine mv_E.rT (t := mt_18) rfl 5 (f' := (21, [some (.ref 1), some (.int p0)], [.int p0, .int (C.1 2), .ref 2])) (h' := (HPf C M o, c, s)) rfl ?_
  by_cases hb2 : mv_in (C.1 2) 2000 = true
  rotate_left
  · cases (if_neg hb2).symm.trans h
  replace h := (if_pos hb2).symm.trans h
  refine mv_E.go rfl (mi_iast_at rfl hb2) ?_
  refine mv_E.rT (t := mt_18) rfl 6 (f' := (32, [some (.ref 1), some (.int p0)], [])) (h' := (HPf (ru (C.1) 2 (((C.1 2) + 1)), ru (C.2) 0 (upd (C.2 0) (C.1 2).toNatClampNeg p0)) M o, c, s)) rfl ?_
  cases h
  exact mv_E.done rfl rfl
def b_20_64 : Nat → CS → Int64 → Int32 → Option ((Int32 ⊕ Nat) × CS)
  | 0, _, _, _ => none
  | n + 1, C, l1, l4 => (if l4 < 0 then some (.inl (f_19 C), C) else (f_18 C ((Int64.toInt32 (lus l1 (8 * l4))) &&& 255)).bind fun r4 => (b_20_64 n) r4 l1 (l4 + (-1)))
theorem tb_20_64 (L : Nat) (xs : Nat → Int32) (M : CS) (o : Nat → Int64) (c s : Nat) : ∀ (n : Nat) (C : CS) (l1 : Int64) (l4 : Int32) (d3 : Option Int32) (ret : (Int32 ⊕ Nat) × CS), b_20_64 n C l1 l4 = some ret → mv_E (mp L xs) 20 (64, [some (.ref 0), some (.long l1), none, d3.map .int, some (.int l4)], []) (HPf C M o, c, s) (cvI M o c s ret) := by
  intro n
  induction n with
  | zero => intro C l1 l4 d3 ret h; rw [b_20_64] at h; cases h
  | succ n ih =>
    intro C l1 l4 d3 ret h
    rw [b_20_64] at h
    rcases d3 with _ | d3
    · refine mv_E.rT (t := mt_20) rfl 1 (f' := (66, [some (.ref 0), some (.long l1), none, none, some (.int l4)], [.int l4])) (h' := (HPf C M o, c, s)) rfl ?_
      by_cases hc9 : l4 < 0
      · replace h := (if_pos hc9).symm.trans h
        refine mv_E.go rfl (mi_if_pos hc9) ?_
        refine mv_E.rT (t := mt_20) rfl 2 (f' := (98, [some (.ref 0), some (.long l1), none, none, some (.int l4)], [.ref 1])) (h' := (HPf C M o, c, s)) rfl ?_
        refine mv_E.call (z := 19) (vs := [.ref 1]) (f' := (101, [some (.ref 0), some (.long l1), none, none, some (.int l4)], [])) (h' := (HPf C M o, c, s)) rfl rfl rfl (t_19 L xs rfl) (mv_okl rfl) ?_
        show mv_E (mp L xs) 20 (101, [some (.ref 0), some (.long l1), none, none, some (.int l4)], [.int (f_19 C)]) (HPf C M o, c, s) _
        cases h
        exact mv_E.done rfl rfl
      replace h := (if_neg hc9).symm.trans h
      refine mv_E.go rfl (mi_if_neg hc9) ?_
      refine mv_E.rT (t := mt_20) rfl 10 (f' := (85, [some (.ref 0), some (.long l1), none, none, some (.int l4)], [.int ((Int64.toInt32 (lus l1 (8 * l4))) &&& 255), .ref 1])) (h' := (HPf C M o, c, s)) rfl ?_
      obtain ⟨r7, hr8, h⟩ := Option.bind_eq_some_iff.mp h
      refine mv_E.call (z := 18) (vs := [.ref 1, .int ((Int64.toInt32 (lus l1 (8 * l4))) &&& 255)]) (f' := (88, [some (.ref 0), some (.long l1), none, none, some (.int l4)], [])) (h' := (HPf C M o, c, s)) rfl rfl rfl (t_18 L xs hr8) (mv_okl rfl) ?_
      refine mv_E.rT (t := mt_20) rfl 2 (f' := (64, [some (.ref 0), some (.long l1), none, none, some (.int (l4 + (-1)))], [])) (h' := (HPf r7 M o, c, s)) rfl ?_
      exact ih r7 l1 (l4 + (-1)) none _ h
    · refine mv_E.rT (t := mt_20) rfl 1 (f' := (66, [some (.ref 0), some (.long l1), none, some (.int d3), some (.int l4)], [.int l4])) (h' := (HPf C M o, c, s)) rfl ?_
      by_cases hc12 : l4 < 0
      · replace h := (if_pos hc12).symm.trans h
        refine mv_E.go rfl (mi_if_pos hc12) ?_
        refine mv_E.rT (t := mt_20) rfl 2 (f' := (98, [some (.ref 0), some (.long l1), none, some (.int d3), some (.int l4)], [.ref 1])) (h' := (HPf C M o, c, s)) rfl ?_
        refine mv_E.call (z := 19) (vs := [.ref 1]) (f' := (101, [some (.ref 0), some (.long l1), none, some (.int d3), some (.int l4)], [])) (h' := (HPf C M o, c, s)) rfl rfl rfl (t_19 L xs rfl) (mv_okl rfl) ?_
        show mv_E (mp L xs) 20 (101, [some (.ref 0), some (.long l1), none, some (.int d3), some (.int l4)], [.int (f_19 C)]) (HPf C M o, c, s) _
        cases h
        exact mv_E.done rfl rfl
      replace h := (if_neg hc12).symm.trans h
      refine mv_E.go rfl (mi_if_neg hc12) ?_
      refine mv_E.rT (t := mt_20) rfl 10 (f' := (85, [some (.ref 0), some (.long l1), none, some (.int d3), some (.int l4)], [.int ((Int64.toInt32 (lus l1 (8 * l4))) &&& 255), .ref 1])) (h' := (HPf C M o, c, s)) rfl ?_
      obtain ⟨r10, hr11, h⟩ := Option.bind_eq_some_iff.mp h
      refine mv_E.call (z := 18) (vs := [.ref 1, .int ((Int64.toInt32 (lus l1 (8 * l4))) &&& 255)]) (f' := (88, [some (.ref 0), some (.long l1), none, some (.int d3), some (.int l4)], [])) (h' := (HPf C M o, c, s)) rfl rfl rfl (t_18 L xs hr11) (mv_okl rfl) ?_
      refine mv_E.rT (t := mt_20) rfl 2 (f' := (64, [some (.ref 0), some (.long l1), none, some (.int d3), some (.int (l4 + (-1)))], [])) (h' := (HPf r10 M o, c, s)) rfl ?_
      exact ih r10 l1 (l4 + (-1)) (some d3) _ h
def f_20 (C : CS) (p0 : Int64) (p1 : Int32) : Option ((Int32 ⊕ Nat) × CS) := (if p1 < 1 then some (.inr 0, C) else (if p1 ≤ 8 then (if (C.1 0) = 0 then (if ¬ (f_17 C p1) = 0 then b_20_64 fu C p0 (p1 - 1) else some (.inr 1, C)) else some (.inr 1, C)) else some (.inr 0, C)))
theorem t_20 (L : Nat) (xs : Nat → Int32) {C M : CS} {o : Nat → Int64} {c s : Nat} {p0 : Int64} {p1 : Int32} {ret : (Int32 ⊕ Nat) × CS} (h : f_20 C p0 p1 = some ret) : mv_E (mp L xs) 20 (0, [some (.ref 0), some (.long p0), none, some (.int p1), none], []) (HPf C M o, c, s) (cvI M o c s ret) := by
  unfold f_20 at h
  refine mv_E.rT (t := mt_20) rfl 2 (f' := (2, [some (.ref 0), some (.long p0), none, some (.int p1), none], [.int 1, .int p1])) (h' := (HPf C M o, c, s)) rfl ?_
  by_cases hc16 : p1 < 1
  · replace h := (if_pos hc16).symm.trans h
    refine mv_E.go rfl (mi_icmp_pos hc16) ?_
    show mv_E (mp L xs) 20 (11, [some (.ref 0), some (.long p0), none, some (.int p1), none], []) (HPf C M o, c, s) _
    cases h
    exact mv_E.done rfl rfl
  replace h := (if_neg hc16).symm.trans h
  refine mv_E.go rfl (mi_icmp_neg hc16) ?_
  refine mv_E.rT (t := mt_20) rfl 2 (f' := (8, [some (.ref 0), some (.long p0), none, some (.int p1), none], [.int 8, .int p1])) (h' := (HPf C M o, c, s)) rfl ?_
  by_cases hc15 : p1 ≤ 8
  · replace h := (if_pos hc15).symm.trans h
    refine mv_E.go rfl (mi_icmp_pos hc15) ?_
    refine mv_E.rT (t := mt_20) rfl 2 (f' := (25, [some (.ref 0), some (.long p0), none, some (.int p1), none], [.int (C.1 0)])) (h' := (HPf C M o, c, s)) rfl ?_
    by_cases hc14 : (C.1 0) = 0
    · replace h := (if_pos hc14).symm.trans h
      refine mv_E.go rfl (mi_if_pos hc14) ?_
      refine mv_E.rT (t := mt_20) rfl 3 (f' := (43, [some (.ref 0), some (.long p0), none, some (.int p1), none], [.int p1, .ref 1])) (h' := (HPf C M o, c, s)) rfl ?_
      refine mv_E.call (z := 17) (vs := [.ref 1, .int p1]) (f' := (46, [some (.ref 0), some (.long p0), none, some (.int p1), none], [])) (h' := (HPf C M o, c, s)) rfl rfl rfl (t_17 L xs rfl) (mv_okl rfl) ?_
      show mv_E (mp L xs) 20 (46, [some (.ref 0), some (.long p0), none, some (.int p1), none], [.int (f_17 C p1)]) (HPf C M o, c, s) _
      by_cases hc13 : ¬ (f_17 C p1) = 0
      · replace h := (if_pos hc13).symm.trans h
        refine mv_E.go rfl (mi_if_pos hc13) ?_
        refine mv_E.rT (t := mt_20) rfl 4 (f' := (64, [some (.ref 0), some (.long p0), none, some (.int p1), some (.int (p1 - 1))], [])) (h' := (HPf C M o, c, s)) rfl ?_
        exact tb_20_64 L xs M o c s fu C p0 (p1 - 1) (some p1) _ h
      replace h := (if_neg hc13).symm.trans h
      refine mv_E.go rfl (mi_if_neg hc13) ?_
      show mv_E (mp L xs) 20 (49, [some (.ref 0), some (.long p0), none, some (.int p1), none], []) (HPf C M o, c, s) _
      cases h
      exact mv_E.done rfl rfl
    replace h := (if_neg hc14).symm.trans h
    refine mv_E.go rfl (mi_if_neg hc14) ?_
    show mv_E (mp L xs) 20 (28, [some (.ref 0), some (.long p0), none, some (.int p1), none], []) (HPf C M o, c, s) _
    cases h
    exact mv_E.done rfl rfl
  replace h := (if_neg hc15).symm.trans h
  refine mv_E.go rfl (mi_icmp_neg hc15) ?_
  show mv_E (mp L xs) 20 (11, [some (.ref 0), some (.long p0), none, some (.int p1), none], []) (HPf C M o, c, s) _
  cases h
  exact mv_E.done rfl rfl
def f_25_12 (C : CS) : Option (CS) := some (ru (C.1) 13 (0), C.2)
theorem t_25_12 (L : Nat) (xs : Nat → Int32) {C M : CS} {o : Nat → Int64} {c s : Nat} {ret : CS} (h : f_25_12 C = some ret) : mv_E (mp L xs) 25 (0, [some (.ref 12)], []) (HPf C M o, c, s) ((.inl none, (HPf ret M o, c, s))) := by
  unfold f_25_12 at h
  refine mv_E.rT (t := mt_25) rfl 3 (f' := (5, [some (.ref 12)], [])) (h' := (HPf (ru (C.1) 13 (0), C.2) M o, c, s)) rfl ?_
  cases h
  exact mv_E.done rfl rfl
def f_25_15 (C : CS) : Option (CS) := some (ru (C.1) 14 (0), C.2)
theorem t_25_15 (L : Nat) (xs : Nat → Int32) {C M : CS} {o : Nat → Int64} {c s : Nat} {ret : CS} (h : f_25_15 C = some ret) : mv_E (mp L xs) 25 (0, [some (.ref 15)], []) (HPf C M o, c, s) ((.inl none, (HPf ret M o, c, s))) := by
  unfold f_25_15 at h
  refine mv_E.rT (t := mt_25) rfl 3 (f' := (5, [some (.ref 15)], [])) (h' := (HPf (ru (C.1) 14 (0), C.2) M o, c, s)) rfl ?_
  cases h
  exact mv_E.done rfl rfl
def f_26 (C : CS) : Option (CS) := some (ru (ru (C.1) 11 (0)) 12 ((-1)), C.2)
theorem t_26 (L : Nat) (xs : Nat → Int32) {C M : CS} {o : Nat → Int64} {c s : Nat} {ret : CS} (h : f_26 C = some ret) : mv_E (mp L xs) 26 (0, [some (.ref 5)], []) (HPf C M o, c, s) ((.inl none, (HPf ret M o, c, s))) := by
  unfold f_26 at h
  refine mv_E.rT (t := mt_26) rfl 6 (f' := (10, [some (.ref 5)], [])) (h' := (HPf (ru (ru (C.1) 11 (0)) 12 ((-1)), C.2) M o, c, s)) rfl ?_
  cases h
  exact mv_E.done rfl rfl
def f_27 (C : CS) : Option (CS) := some (ru (ru (ru (ru (ru (ru (ru (ru (C.1) 3 (0)) 4 (0)) 5 (0)) 6 (0)) 7 ((-1))) 8 (0)) 9 (0)) 10 (0), C.2)
theorem t_27 (L : Nat) (xs : Nat → Int32) {C M : CS} {o : Nat → Int64} {c s : Nat} {ret : CS} (h : f_27 C = some ret) : mv_E (mp L xs) 27 (0, [some (.ref 3)], []) (HPf C M o, c, s) ((.inl none, (HPf ret M o, c, s))) := by
  unfold f_27 at h
  refine mv_E.rT (t := mt_27) rfl 24 (f' := (40, [some (.ref 3)], [])) (h' := (HPf (ru (ru (ru (ru (ru (ru (ru (ru (C.1) 3 (0)) 4 (0)) 5 (0)) 6 (0)) 7 ((-1))) 8 (0)) 9 (0)) 10 (0), C.2) M o, c, s)) rfl ?_
  cases h
  exact mv_E.done rfl rfl
def f_28 (C : CS) (p0 : Int32) : Option (Int32) := (if p0 < 0 then some (-1) else (if (C.1 2) ≤ p0 then some (-1) else if mv_in p0 2000 = true then some ((C.2 0) p0.toNatClampNeg) else none))
theorem t_28 (L : Nat) (xs : Nat → Int32) {C M : CS} {o : Nat → Int64} {c s : Nat} {p0 : Int32} {ret : Int32} (h : f_28 C p0 = some ret) : mv_E (mp L xs) 28 (0, [some (.ref 1), some (.int p0)], []) (HPf C M o, c, s) ((.inl (some (.int ret)), (HPf C M o, c, s))) := by
  unfold f_28 at h
  refine mv_E.rT (t := mt_28) rfl 1 (f' := (1, [some (.ref 1), some (.int p0)], [.int p0])) (h' := (HPf C M o, c, s)) rfl ?_
  by_cases hc27 : p0 < 0
  · replace h := (if_pos hc27).symm.trans h
    refine mv_E.go rfl (mi_if_pos hc27) ?_
    refine mv_E.rT (t := mt_28) rfl 1 (f' := (22, [some (.ref 1), some (.int p0)], [.int (-1)])) (h' := (HPf C M o, c, s)) rfl ?_
    cases h
    exact mv_E.done rfl rfl
  replace h := (if_neg hc27).symm.trans h
  refine mv_E.go rfl (mi_if_neg hc27) ?_
  refine mv_E.rT (t := mt_28) rfl 3 (f' := (9, [some (.ref 1), some (.int p0)], [.int (C.1 2), .int p0])) (h' := (HPf C M o, c, s)) rfl ?_
  by_cases hc26 : (C.1 2) ≤ p0
  · replace h := (if_pos hc26).symm.trans h
    refine mv_E.go rfl (mi_icmp_pos hc26) ?_
    refine mv_E.rT (t := mt_28) rfl 1 (f' := (22, [some (.ref 1), some (.int p0)], [.int (-1)])) (h' := (HPf C M o, c, s)) rfl ?_
    cases h
    exact mv_E.done rfl rfl
  replace h := (if_neg hc26).symm.trans h
  refine mv_E.go rfl (mi_icmp_neg hc26) ?_
  refine mv_E.rT (t := mt_28) rfl 3 (f' := (17, [some (.ref 1), some (.int p0)], [.int p0, .ref 2])) (h' := (HPf C M o, c, s)) rfl ?_
  by_cases hb25 : mv_in p0 2000 = true
  rotate_left
  · cases (if_neg hb25).symm.trans h
  replace h := (if_pos hb25).symm.trans h
  refine mv_E.go rfl (mi_iald_at rfl hb25) ?_
  refine mv_E.rT (t := mt_28) rfl 1 (f' := (22, [some (.ref 1), some (.int p0)], [.int ((C.2 0) p0.toNatClampNeg)])) (h' := (HPf C M o, c, s)) rfl ?_
  cases h
  exact mv_E.done rfl rfl
def f_29 (p0 : Int32) : Int32 := (if p0 = 9 then 1 else (if p0 = 11 then 1 else (if p0 = 12 then 1 else (if p0 = 32 then 1 else (if ¬ p0 = 160 then 0 else 1)))))
theorem t_29 (L : Nat) (xs : Nat → Int32) {hh : mv_H} {p0 : Int32} {ret : Int32} (h : f_29 p0 = ret) : mv_E (mp L xs) 29 (0, [some (.int p0)], []) hh ((.inl (some (.int ret)), hh)) := by
  unfold f_29 at h
  refine mv_E.rT (t := mt_29) rfl 2 (f' := (3, [some (.int p0)], [.int 9, .int p0])) (h' := hh) rfl ?_
  by_cases hc36 : p0 = 9
  · replace h := (if_pos hc36).symm.trans h
    refine mv_E.go rfl (mi_icmp_pos hc36) ?_
    refine mv_E.rT (t := mt_29) rfl 2 (f' := (36, [some (.int p0)], [.int 1])) (h' := hh) rfl ?_
    cases h
    exact mv_E.done rfl mi_zret1
  replace h := (if_neg hc36).symm.trans h
  refine mv_E.go rfl (mi_icmp_neg hc36) ?_
  refine mv_E.rT (t := mt_29) rfl 2 (f' := (9, [some (.int p0)], [.int 11, .int p0])) (h' := hh) rfl ?_
  by_cases hc35 : p0 = 11
  · replace h := (if_pos hc35).symm.trans h
    refine mv_E.go rfl (mi_icmp_pos hc35) ?_
    refine mv_E.rT (t := mt_29) rfl 2 (f' := (36, [some (.int p0)], [.int 1])) (h' := hh) rfl ?_
    cases h
    exact mv_E.done rfl mi_zret1
  replace h := (if_neg hc35).symm.trans h
  refine mv_E.go rfl (mi_icmp_neg hc35) ?_
  refine mv_E.rT (t := mt_29) rfl 2 (f' := (15, [some (.int p0)], [.int 12, .int p0])) (h' := hh) rfl ?_
  by_cases hc34 : p0 = 12
  · replace h := (if_pos hc34).symm.trans h
    refine mv_E.go rfl (mi_icmp_pos hc34) ?_
    refine mv_E.rT (t := mt_29) rfl 2 (f' := (36, [some (.int p0)], [.int 1])) (h' := hh) rfl ?_
    cases h
    exact mv_E.done rfl mi_zret1
  replace h := (if_neg hc34).symm.trans h
  refine mv_E.go rfl (mi_icmp_neg hc34) ?_
  refine mv_E.rT (t := mt_29) rfl 2 (f' := (21, [some (.int p0)], [.int 32, .int p0])) (h' := hh) rfl ?_
  by_cases hc33 : p0 = 32
  · replace h := (if_pos hc33).symm.trans h
    refine mv_E.go rfl (mi_icmp_pos hc33) ?_
    refine mv_E.rT (t := mt_29) rfl 2 (f' := (36, [some (.int p0)], [.int 1])) (h' := hh) rfl ?_
    cases h
    exact mv_E.done rfl mi_zret1
  replace h := (if_neg hc33).symm.trans h
  refine mv_E.go rfl (mi_icmp_neg hc33) ?_
  refine mv_E.rT (t := mt_29) rfl 2 (f' := (28, [some (.int p0)], [.int 160, .int p0])) (h' := hh) rfl ?_
  by_cases hc32 : ¬ p0 = 160
  · replace h := (if_pos hc32).symm.trans h
    refine mv_E.go rfl (mi_icmp_pos hc32) ?_
    refine mv_E.rT (t := mt_29) rfl 1 (f' := (36, [some (.int p0)], [.int 0])) (h' := hh) rfl ?_
    cases h
    exact mv_E.done rfl mi_zret0
  replace h := (if_neg hc32).symm.trans h
  refine mv_E.go rfl (mi_icmp_neg hc32) ?_
  refine mv_E.rT (t := mt_29) rfl 2 (f' := (36, [some (.int p0)], [.int 1])) (h' := hh) rfl ?_
  cases h
  exact mv_E.done rfl mi_zret1
def f_30 (p0 : Int32) : Int32 := (if p0 = 10 then 1 else (if ¬ p0 = 13 then 0 else 1))
theorem t_30 (L : Nat) (xs : Nat → Int32) {hh : mv_H} {p0 : Int32} {ret : Int32} (h : f_30 p0 = ret) : mv_E (mp L xs) 30 (0, [some (.int p0)], []) hh ((.inl (some (.int ret)), hh)) := by
  unfold f_30 at h
  refine mv_E.rT (t := mt_30) rfl 2 (f' := (3, [some (.int p0)], [.int 10, .int p0])) (h' := hh) rfl ?_
  by_cases hc38 : p0 = 10
  · replace h := (if_pos hc38).symm.trans h
    refine mv_E.go rfl (mi_icmp_pos hc38) ?_
    refine mv_E.rT (t := mt_30) rfl 2 (f' := (17, [some (.int p0)], [.int 1])) (h' := hh) rfl ?_
    cases h
    exact mv_E.done rfl mi_zret1
  replace h := (if_neg hc38).symm.trans h
  refine mv_E.go rfl (mi_icmp_neg hc38) ?_
  refine mv_E.rT (t := mt_30) rfl 2 (f' := (9, [some (.int p0)], [.int 13, .int p0])) (h' := hh) rfl ?_
  by_cases hc37 : ¬ p0 = 13
  · replace h := (if_pos hc37).symm.trans h
    refine mv_E.go rfl (mi_icmp_pos hc37) ?_
    refine mv_E.rT (t := mt_30) rfl 1 (f' := (17, [some (.int p0)], [.int 0])) (h' := hh) rfl ?_
    cases h
    exact mv_E.done rfl mi_zret0
  replace h := (if_neg hc37).symm.trans h
  refine mv_E.go rfl (mi_icmp_neg hc37) ?_
  refine mv_E.rT (t := mt_30) rfl 2 (f' := (17, [some (.int p0)], [.int 1])) (h' := hh) rfl ?_
  cases h
  exact mv_E.done rfl mi_zret1
def f_32 (C : CS) (p0 : Int32) : Option (Int32 × CS) := some (0, (ru (C.1) 12 (p0), C.2))
theorem t_32 (L : Nat) (xs : Nat → Int32) {C M : CS} {o : Nat → Int64} {c s : Nat} {p0 : Int32} {ret : Int32 × CS} (h : f_32 C p0 = some ret) : mv_E (mp L xs) 32 (0, [some (.ref 5), some (.int p0)], []) (HPf C M o, c, s) ((.inl (some (.int ret.1)), (HPf ret.2 M o, c, s))) := by
  unfold f_32 at h
  refine mv_E.rT (t := mt_32) rfl 4 (f' := (6, [some (.ref 5), some (.int p0)], [.int 0])) (h' := (HPf (ru (C.1) 12 (p0), C.2) M o, c, s)) rfl ?_
  cases h
  exact mv_E.done rfl mi_zret0
def b_33_87 (k_10 : CS → Option (Int32 × CS)) (C : CS) : Option (Int32 × CS) := k_10 (ru (C.1) 11 (((C.1 11) + 1)), C.2)
theorem tb_33_87 (L : Nat) (xs : Nat → Int32) (M : CS) (o : Nat → Int64) (c s : Nat) (C : CS) (k_10 : CS → Option (Int32 × CS)) (hk_10 : ∀ (C : CS) (d1 : Option Int32) (ret : Int32 × CS), k_10 C = some ret → mv_E (mp L xs) 33 (10, [some (.ref 5), d1.map .int], []) (HPf C M o, c, s) ((.inl (some (.int ret.1)), (HPf ret.2 M o, c, s)))) (d1 : Option Int32) (ret : Int32 × CS) (h : b_33_87 k_10 C = some ret) : mv_E (mp L xs) 33 (87, [some (.ref 5), d1.map .int], []) (HPf C M o, c, s) ((.inl (some (.int ret.1)), (HPf ret.2 M o, c, s))) := by
  unfold b_33_87 at h
  refine mv_E.rT (t := mt_33) rfl 7 (f' := (10, [some (.ref 5), d1.map .int], [])) (h' := (HPf (ru (C.1) 11 (((C.1 11) + 1)), C.2) M o, c, s)) rfl ?_
  exact hk_10 (ru (C.1) 11 (((C.1 11) + 1)), C.2) d1 _ h
def b_33_72 (k_10 : CS → Option (Int32 × CS)) (C : CS) (l1 : Int32) : Option (Int32 × CS) := (if (f_30 l1) = 0 then b_33_87 k_10 C else b_33_87 k_10 (ru (C.1) 6 (1), C.2))
theorem tb_33_72 (L : Nat) (xs : Nat → Int32) (M : CS) (o : Nat → Int64) (c s : Nat) (C : CS) (k_10 : CS → Option (Int32 × CS)) (hk_10 : ∀ (C : CS) (d1 : Option Int32) (ret : Int32 × CS), k_10 C = some ret → mv_E (mp L xs) 33 (10, [some (.ref 5), d1.map .int], []) (HPf C M o, c, s) ((.inl (some (.int ret.1)), (HPf ret.2 M o, c, s)))) (l1 : Int32) (ret : Int32 × CS) (h : b_33_72 k_10 C l1 = some ret) : mv_E (mp L xs) 33 (72, [some (.ref 5), some (.int l1)], []) (HPf C M o, c, s) ((.inl (some (.int ret.1)), (HPf ret.2 M o, c, s))) := by
  unfold b_33_72 at h
  refine mv_E.rT (t := mt_33) rfl 1 (f' := (73, [some (.ref 5), some (.int l1)], [.int l1])) (h' := (HPf C M o, c, s)) rfl ?_
  refine mv_E.call (z := 30) (vs := [.int l1]) (f' := (76, [some (.ref 5), some (.int l1)], [])) (h' := (HPf C M o, c, s)) rfl rfl rfl (t_30 L xs rfl) (mv_okl rfl) ?_
  show mv_E (mp L xs) 33 (76, [some (.ref 5), some (.int l1)], [.int (f_30 l1)]) (HPf C M o, c, s) _
  by_cases hc45 : (f_30 l1) = 0
  · replace h := (if_pos hc45).symm.trans h
    refine mv_E.go rfl (mi_if_pos hc45) ?_
    show mv_E (mp L xs) 33 (87, [some (.ref 5), some (.int l1)], []) (HPf C M o, c, s) _
    exact tb_33_87 L xs M o c s C k_10 hk_10 (some l1) _ h
  replace h := (if_neg hc45).symm.trans h
  refine mv_E.go rfl (mi_if_neg hc45) ?_
  refine mv_E.rT (t := mt_33) rfl 4 (f' := (87, [some (.ref 5), some (.int l1)], [])) (h' := (HPf (ru (C.1) 6 (1), C.2) M o, c, s)) rfl ?_
  exact tb_33_87 L xs M o c s (ru (C.1) 6 (1), C.2) k_10 hk_10 (some l1) _ h
def b_33_10 : Nat → CS → Option (Int32 × CS)
  | 0, _ => none
  | n + 1, C => (if (f_19 C) ≤ (C.1 11) then (f_32 C (C.1 11)).bind fun r39 => if r39.1 = 0 ∨ r39.1 = 1 then some (r39.1, r39.2) else none else (f_28 C (C.1 11)).bind fun r42 => (if ¬ r42 = 42 then b_33_72 (b_33_10 n) C r42 else (f_28 C ((C.1 11) + 1)).bind fun r46 => (if ¬ r46 = 47 then b_33_72 (b_33_10 n) C r42 else some (1, (ru (C.1) 11 (((C.1 11) + 2)), C.2)))))
theorem tb_33_10 (L : Nat) (xs : Nat → Int32) (M : CS) (o : Nat → Int64) (c s : Nat) : ∀ (n : Nat) (C : CS)  (d1 : Option Int32) (ret : Int32 × CS), b_33_10 n C = some ret → mv_E (mp L xs) 33 (10, [some (.ref 5), d1.map .int], []) (HPf C M o, c, s) ((.inl (some (.int ret.1)), (HPf ret.2 M o, c, s))) := by
  intro n
  induction n with
  | zero => intro C d1 ret h; rw [b_33_10] at h; cases h
  | succ n ih =>
    intro C d1 ret h
    rw [b_33_10] at h
    refine mv_E.rT (t := mt_33) rfl 4 (f' := (18, [some (.ref 5), d1.map .int], [.ref 1, .int (C.1 11)])) (h' := (HPf C M o, c, s)) rfl ?_
    refine mv_E.call (z := 19) (vs := [.ref 1]) (f' := (21, [some (.ref 5), d1.map .int], [.int (C.1 11)])) (h' := (HPf C M o, c, s)) rfl rfl rfl (t_19 L xs rfl) (mv_okl rfl) ?_
    show mv_E (mp L xs) 33 (21, [some (.ref 5), d1.map .int], [.int (f_19 C), .int (C.1 11)]) (HPf C M o, c, s) _
    by_cases hc60 : (f_19 C) ≤ (C.1 11)
    · replace h := (if_pos hc60).symm.trans h
      refine mv_E.go rfl (mi_icmp_pos hc60) ?_
      refine mv_E.rT (t := mt_33) rfl 3 (f' := (105, [some (.ref 5), d1.map .int], [.int (C.1 11), .ref 5])) (h' := (HPf C M o, c, s)) rfl ?_
      obtain ⟨r51, hr52, h⟩ := Option.bind_eq_some_iff.mp h
      refine mv_E.call (z := 32) (vs := [.ref 5, .int (C.1 11)]) (f' := (108, [some (.ref 5), d1.map .int], [])) (h' := (HPf C M o, c, s)) rfl rfl rfl (t_32 L xs hr52) (mv_okl rfl) ?_
      show mv_E (mp L xs) 33 (108, [some (.ref 5), d1.map .int], [.int r51.1]) (HPf r51.2 M o, c, s) _
      by_cases hz53 : r51.1 = 0 ∨ r51.1 = 1
      rotate_left
      · cases (if_neg hz53).symm.trans h
      replace h := (if_pos hz53).symm.trans h
      cases h
      exact mv_E.done rfl (mi_zret_at hz53)
    replace h := (if_neg hc60).symm.trans h
    refine mv_E.go rfl (mi_icmp_neg hc60) ?_
    refine mv_E.rT (t := mt_33) rfl 4 (f' := (32, [some (.ref 5), d1.map .int], [.int (C.1 11), .ref 1])) (h' := (HPf C M o, c, s)) rfl ?_
    obtain ⟨r54, hr55, h⟩ := Option.bind_eq_some_iff.mp h
    refine mv_E.call (z := 28) (vs := [.ref 1, .int (C.1 11)]) (f' := (35, [some (.ref 5), d1.map .int], [])) (h' := (HPf C M o, c, s)) rfl rfl rfl (t_28 L xs hr55) (mv_okl rfl) ?_
    refine mv_E.rT (t := mt_33) rfl 3 (f' := (39, [some (.ref 5), some (.int r54)], [.int 42, .int r54])) (h' := (HPf C M o, c, s)) rfl ?_
    by_cases hc59 : ¬ r54 = 42
    · replace h := (if_pos hc59).symm.trans h
      refine mv_E.go rfl (mi_icmp_pos hc59) ?_
      show mv_E (mp L xs) 33 (72, [some (.ref 5), some (.int r54)], []) (HPf C M o, c, s) _
      exact tb_33_72 L xs M o c s C (b_33_10 n) ih r54 _ h
    replace h := (if_neg hc59).symm.trans h
    refine mv_E.go rfl (mi_icmp_neg hc59) ?_
    refine mv_E.rT (t := mt_33) rfl 6 (f' := (52, [some (.ref 5), some (.int r54)], [.int ((C.1 11) + 1), .ref 1])) (h' := (HPf C M o, c, s)) rfl ?_
    obtain ⟨r56, hr57, h⟩ := Option.bind_eq_some_iff.mp h
    refine mv_E.call (z := 28) (vs := [.ref 1, .int ((C.1 11) + 1)]) (f' := (55, [some (.ref 5), some (.int r54)], [])) (h' := (HPf C M o, c, s)) rfl rfl rfl (t_28 L xs hr57) (mv_okl rfl) ?_
    refine mv_E.rT (t := mt_33) rfl 1 (f' := (57, [some (.ref 5), some (.int r54)], [.int 47, .int r56])) (h' := (HPf C M o, c, s)) rfl ?_
    by_cases hc58 : ¬ r56 = 47
    · replace h := (if_pos hc58).symm.trans h
      refine mv_E.go rfl (mi_icmp_pos hc58) ?_
      show mv_E (mp L xs) 33 (72, [some (.ref 5), some (.int r54)], []) (HPf C M o, c, s) _
      exact tb_33_72 L xs M o c s C (b_33_10 n) ih r54 _ h
    replace h := (if_neg hc58).symm.trans h
    refine mv_E.go rfl (mi_icmp_neg hc58) ?_
    refine mv_E.rT (t := mt_33) rfl 7 (f' := (71, [some (.ref 5), some (.int r54)], [.int 1])) (h' := (HPf (ru (C.1) 11 (((C.1 11) + 2)), C.2) M o, c, s)) rfl ?_
    cases h
    exact mv_E.done rfl mi_zret1
def f_33 (C : CS) : Option (Int32 × CS) := b_33_10 fu (ru (C.1) 11 (((C.1 11) + 2)), C.2)
theorem t_33 (L : Nat) (xs : Nat → Int32) {C M : CS} {o : Nat → Int64} {c s : Nat} {ret : Int32 × CS} (h : f_33 C = some ret) : mv_E (mp L xs) 33 (0, [some (.ref 5), none], []) (HPf C M o, c, s) ((.inl (some (.int ret.1)), (HPf ret.2 M o, c, s))) := by
  unfold f_33 at h
  refine mv_E.rT (t := mt_33) rfl 6 (f' := (10, [some (.ref 5), none], [])) (h' := (HPf (ru (C.1) 11 (((C.1 11) + 2)), C.2) M o, c, s)) rfl ?_
  exact tb_33_10 L xs M o c s fu (ru (C.1) 11 (((C.1 11) + 2)), C.2) none _ h
def b_31_0 : Nat → CS → Option (CS)
  | 0, _ => none
  | n + 1, C => (if (f_19 C) ≤ (C.1 11) then some C else (f_28 C (C.1 11)).bind fun r71 => (if ¬ (f_30 r71) = 0 then some C else (b_31_0 n) (ru (C.1) 11 (((C.1 11) + 1)), C.2)))
theorem tb_31_0 (L : Nat) (xs : Nat → Int32) (M : CS) (o : Nat → Int64) (c s : Nat) : ∀ (n : Nat) (C : CS)  (ret : CS), b_31_0 n C = some ret → mv_E (mp L xs) 31 (0, [some (.ref 5)], []) (HPf C M o, c, s) ((.inl none, (HPf ret M o, c, s))) := by
  intro n
  induction n with
  | zero => intro C  ret h; rw [b_31_0] at h; cases h
  | succ n ih =>
    intro C  ret h
    rw [b_31_0] at h
    refine mv_E.rT (t := mt_31) rfl 4 (f' := (8, [some (.ref 5)], [.ref 1, .int (C.1 11)])) (h' := (HPf C M o, c, s)) rfl ?_
    refine mv_E.call (z := 19) (vs := [.ref 1]) (f' := (11, [some (.ref 5)], [.int (C.1 11)])) (h' := (HPf C M o, c, s)) rfl rfl rfl (t_19 L xs rfl) (mv_okl rfl) ?_
    show mv_E (mp L xs) 31 (11, [some (.ref 5)], [.int (f_19 C), .int (C.1 11)]) (HPf C M o, c, s) _
    by_cases hc78 : (f_19 C) ≤ (C.1 11)
    · replace h := (if_pos hc78).symm.trans h
      refine mv_E.go rfl (mi_icmp_pos hc78) ?_
      show mv_E (mp L xs) 31 (44, [some (.ref 5)], []) (HPf C M o, c, s) _
      cases h
      exact mv_E.done rfl rfl
    replace h := (if_neg hc78).symm.trans h
    refine mv_E.go rfl (mi_icmp_neg hc78) ?_
    refine mv_E.rT (t := mt_31) rfl 4 (f' := (22, [some (.ref 5)], [.int (C.1 11), .ref 1])) (h' := (HPf C M o, c, s)) rfl ?_
    obtain ⟨r75, hr76, h⟩ := Option.bind_eq_some_iff.mp h
    refine mv_E.call (z := 28) (vs := [.ref 1, .int (C.1 11)]) (f' := (25, [some (.ref 5)], [])) (h' := (HPf C M o, c, s)) rfl rfl rfl (t_28 L xs hr76) (mv_okl rfl) ?_
    show mv_E (mp L xs) 31 (25, [some (.ref 5)], [.int r75]) (HPf C M o, c, s) _
    refine mv_E.call (z := 30) (vs := [.int r75]) (f' := (28, [some (.ref 5)], [])) (h' := (HPf C M o, c, s)) rfl rfl rfl (t_30 L xs rfl) (mv_okl rfl) ?_
    show mv_E (mp L xs) 31 (28, [some (.ref 5)], [.int (f_30 r75)]) (HPf C M o, c, s) _
    by_cases hc77 : ¬ (f_30 r75) = 0
    · replace h := (if_pos hc77).symm.trans h
      refine mv_E.go rfl (mi_if_pos hc77) ?_
      show mv_E (mp L xs) 31 (44, [some (.ref 5)], []) (HPf C M o, c, s) _
      cases h
      exact mv_E.done rfl rfl
    replace h := (if_neg hc77).symm.trans h
    refine mv_E.go rfl (mi_if_neg hc77) ?_
    refine mv_E.rT (t := mt_31) rfl 7 (f' := (0, [some (.ref 5)], [])) (h' := (HPf (ru (C.1) 11 (((C.1 11) + 1)), C.2) M o, c, s)) rfl ?_
    exact ih (ru (C.1) 11 (((C.1 11) + 1)), C.2) _ h
def f_31 (C : CS) : Option (CS) := b_31_0 fu C
theorem t_31 (L : Nat) (xs : Nat → Int32) {C M : CS} {o : Nat → Int64} {c s : Nat} {ret : CS} (h : f_31 C = some ret) : mv_E (mp L xs) 31 (0, [some (.ref 5)], []) (HPf C M o, c, s) ((.inl none, (HPf ret M o, c, s))) := by
  unfold f_31 at h
  exact tb_31_0 L xs M o c s fu C _ h
def b_34_129 (k_2 : CS → Int32 → Option (Int32 × CS)) (C : CS) (l1 : Int32) : Option (Int32 × CS) := k_2 C (l1 + 1)
theorem tb_34_129 (L : Nat) (xs : Nat → Int32) (M : CS) (o : Nat → Int64) (c s : Nat) (C : CS) (k_2 : CS → Int32 → Option (Int32 × CS)) (hk_2 : ∀ (C : CS) (l1 : Int32) (d2 : Option Int32) (d3 : Option Int32) (ret : Int32 × CS), k_2 C l1 = some ret → mv_E (mp L xs) 34 (2, [some (.ref 5), some (.int l1), d2.map .int, d3.map .int], []) (HPf C M o, c, s) ((.inl (some (.int ret.1)), (HPf ret.2 M o, c, s)))) (l1 : Int32) (d2 : Option Int32) (d3 : Option Int32) (ret : Int32 × CS) (h : b_34_129 k_2 C l1 = some ret) : mv_E (mp L xs) 34 (129, [some (.ref 5), some (.int l1), d2.map .int, d3.map .int], []) (HPf C M o, c, s) ((.inl (some (.int ret.1)), (HPf ret.2 M o, c, s))) := by
  unfold b_34_129 at h
  refine mv_E.rT (t := mt_34) rfl 2 (f' := (2, [some (.ref 5), some (.int (l1 + 1)), d2.map .int, d3.map .int], [])) (h' := (HPf C M o, c, s)) rfl ?_
  exact hk_2 C (l1 + 1) d2 d3 _ h
def b_34_106 (k_2 : CS → Int32 → Option (Int32 × CS)) (C : CS) (l1 : Int32) (l2 : Int32) (l3 : Int32) : Option (Int32 × CS) := (if ¬ l2 = 47 then some (1, C) else (if ¬ l3 = 42 then some (1, C) else (f_33 C).bind fun r61 => (if ¬ r61.1 = 0 then b_34_129 k_2 r61.2 l1 else some (0, r61.2))))
theorem tb_34_106 (L : Nat) (xs : Nat → Int32) (M : CS) (o : Nat → Int64) (c s : Nat) (C : CS) (k_2 : CS → Int32 → Option (Int32 × CS)) (hk_2 : ∀ (C : CS) (l1 : Int32) (d2 : Option Int32) (d3 : Option Int32) (ret : Int32 × CS), k_2 C l1 = some ret → mv_E (mp L xs) 34 (2, [some (.ref 5), some (.int l1), d2.map .int, d3.map .int], []) (HPf C M o, c, s) ((.inl (some (.int ret.1)), (HPf ret.2 M o, c, s)))) (l1 : Int32) (l2 : Int32) (l3 : Int32) (ret : Int32 × CS) (h : b_34_106 k_2 C l1 l2 l3 = some ret) : mv_E (mp L xs) 34 (106, [some (.ref 5), some (.int l1), some (.int l2), some (.int l3)], []) (HPf C M o, c, s) ((.inl (some (.int ret.1)), (HPf ret.2 M o, c, s))) := by
  unfold b_34_106 at h
  refine mv_E.rT (t := mt_34) rfl 2 (f' := (109, [some (.ref 5), some (.int l1), some (.int l2), some (.int l3)], [.int 47, .int l2])) (h' := (HPf C M o, c, s)) rfl ?_
  by_cases hc70 : ¬ l2 = 47
  · replace h := (if_pos hc70).symm.trans h
    refine mv_E.go rfl (mi_icmp_pos hc70) ?_
    refine mv_E.rT (t := mt_34) rfl 1 (f' := (128, [some (.ref 5), some (.int l1), some (.int l2), some (.int l3)], [.int 1])) (h' := (HPf C M o, c, s)) rfl ?_
    cases h
    exact mv_E.done rfl mi_zret1
  replace h := (if_neg hc70).symm.trans h
  refine mv_E.go rfl (mi_icmp_neg hc70) ?_
  refine mv_E.rT (t := mt_34) rfl 2 (f' := (115, [some (.ref 5), some (.int l1), some (.int l2), some (.int l3)], [.int 42, .int l3])) (h' := (HPf C M o, c, s)) rfl ?_
  by_cases hc69 : ¬ l3 = 42
  · replace h := (if_pos hc69).symm.trans h
    refine mv_E.go rfl (mi_icmp_pos hc69) ?_
    refine mv_E.rT (t := mt_34) rfl 1 (f' := (128, [some (.ref 5), some (.int l1), some (.int l2), some (.int l3)], [.int 1])) (h' := (HPf C M o, c, s)) rfl ?_
    cases h
    exact mv_E.done rfl mi_zret1
  replace h := (if_neg hc69).symm.trans h
  refine mv_E.go rfl (mi_icmp_neg hc69) ?_
  refine mv_E.rT (t := mt_34) rfl 1 (f' := (119, [some (.ref 5), some (.int l1), some (.int l2), some (.int l3)], [.ref 5])) (h' := (HPf C M o, c, s)) rfl ?_
  obtain ⟨r66, hr67, h⟩ := Option.bind_eq_some_iff.mp h
  refine mv_E.call (z := 33) (vs := [.ref 5]) (f' := (122, [some (.ref 5), some (.int l1), some (.int l2), some (.int l3)], [])) (h' := (HPf C M o, c, s)) rfl rfl rfl (t_33 L xs hr67) (mv_okl rfl) ?_
  show mv_E (mp L xs) 34 (122, [some (.ref 5), some (.int l1), some (.int l2), some (.int l3)], [.int r66.1]) (HPf r66.2 M o, c, s) _
  by_cases hc68 : ¬ r66.1 = 0
  · replace h := (if_pos hc68).symm.trans h
    refine mv_E.go rfl (mi_if_pos hc68) ?_
    show mv_E (mp L xs) 34 (129, [some (.ref 5), some (.int l1), some (.int l2), some (.int l3)], []) (HPf r66.2 M o, c, s) _
    exact tb_34_129 L xs M o c s r66.2 k_2 hk_2 l1 (some l2) (some l3) _ h
  replace h := (if_neg hc68).symm.trans h
  refine mv_E.go rfl (mi_if_neg hc68) ?_
  refine mv_E.rT (t := mt_34) rfl 1 (f' := (126, [some (.ref 5), some (.int l1), some (.int l2), some (.int l3)], [.int 0])) (h' := (HPf r66.2 M o, c, s)) rfl ?_
  cases h
  exact mv_E.done rfl mi_zret0
def b_34_2 : Nat → CS → Int32 → Option (Int32 × CS)
  | 0, _, _ => none
  | n + 1, C, l1 => (if (f_19 C) ≤ l1 then some (1, C) else (f_28 C (C.1 11)).bind fun r28 => (f_28 C ((C.1 11) + 1)).bind fun r30 => (if (f_29 r28) = 0 then (if (f_30 r28) = 0 then (if ¬ r28 = 47 then b_34_106 (b_34_2 n) C l1 r28 r30 else (if ¬ r30 = 47 then b_34_106 (b_34_2 n) C l1 r28 r30 else (f_31 C).bind fun r79 => b_34_129 (b_34_2 n) r79 l1)) else b_34_129 (b_34_2 n) (ru (ru (C.1) 6 (1)) 11 (((C.1 11) + 1)), C.2) l1) else b_34_129 (b_34_2 n) (ru (C.1) 11 (((C.1 11) + 1)), C.2) l1))
theorem tb_34_2 (L : Nat) (xs : Nat → Int32) (M : CS) (o : Nat → Int64) (c s : Nat) : ∀ (n : Nat) (C : CS) (l1 : Int32) (d2 : Option Int32) (d3 : Option Int32) (ret : Int32 × CS), b_34_2 n C l1 = some ret → mv_E (mp L xs) 34 (2, [some (.ref 5), some (.int l1), d2.map .int, d3.map .int], []) (HPf C M o, c, s) ((.inl (some (.int ret.1)), (HPf ret.2 M o, c, s))) := by
  intro n
  induction n with
  | zero => intro C l1 d2 d3 ret h; rw [b_34_2] at h; cases h
  | succ n ih =>
    intro C l1 d2 d3 ret h
    rw [b_34_2] at h
    refine mv_E.rT (t := mt_34) rfl 3 (f' := (7, [some (.ref 5), some (.int l1), d2.map .int, d3.map .int], [.ref 1, .int l1])) (h' := (HPf C M o, c, s)) rfl ?_
    refine mv_E.call (z := 19) (vs := [.ref 1]) (f' := (10, [some (.ref 5), some (.int l1), d2.map .int, d3.map .int], [.int l1])) (h' := (HPf C M o, c, s)) rfl rfl rfl (t_19 L xs rfl) (mv_okl rfl) ?_
    show mv_E (mp L xs) 34 (10, [some (.ref 5), some (.int l1), d2.map .int, d3.map .int], [.int (f_19 C), .int l1]) (HPf C M o, c, s) _
    by_cases hc96 : (f_19 C) ≤ l1
    · replace h := (if_pos hc96).symm.trans h
      refine mv_E.go rfl (mi_icmp_pos hc96) ?_
      refine mv_E.rT (t := mt_34) rfl 1 (f' := (136, [some (.ref 5), some (.int l1), d2.map .int, d3.map .int], [.int 1])) (h' := (HPf C M o, c, s)) rfl ?_
      cases h
      exact mv_E.done rfl mi_zret1
    replace h := (if_neg hc96).symm.trans h
    refine mv_E.go rfl (mi_icmp_neg hc96) ?_
    refine mv_E.rT (t := mt_34) rfl 4 (f' := (21, [some (.ref 5), some (.int l1), d2.map .int, d3.map .int], [.int (C.1 11), .ref 1])) (h' := (HPf C M o, c, s)) rfl ?_
    obtain ⟨r86, hr87, h⟩ := Option.bind_eq_some_iff.mp h
    refine mv_E.call (z := 28) (vs := [.ref 1, .int (C.1 11)]) (f' := (24, [some (.ref 5), some (.int l1), d2.map .int, d3.map .int], [])) (h' := (HPf C M o, c, s)) rfl rfl rfl (t_28 L xs hr87) (mv_okl rfl) ?_
    refine mv_E.rT (t := mt_34) rfl 7 (f' := (35, [some (.ref 5), some (.int l1), some (.int r86), d3.map .int], [.int ((C.1 11) + 1), .ref 1])) (h' := (HPf C M o, c, s)) rfl ?_
    obtain ⟨r88, hr89, h⟩ := Option.bind_eq_some_iff.mp h
    refine mv_E.call (z := 28) (vs := [.ref 1, .int ((C.1 11) + 1)]) (f' := (38, [some (.ref 5), some (.int l1), some (.int r86), d3.map .int], [])) (h' := (HPf C M o, c, s)) rfl rfl rfl (t_28 L xs hr89) (mv_okl rfl) ?_
    refine mv_E.rT (t := mt_34) rfl 2 (f' := (40, [some (.ref 5), some (.int l1), some (.int r86), some (.int r88)], [.int r86])) (h' := (HPf C M o, c, s)) rfl ?_
    refine mv_E.call (z := 29) (vs := [.int r86]) (f' := (43, [some (.ref 5), some (.int l1), some (.int r86), some (.int r88)], [])) (h' := (HPf C M o, c, s)) rfl rfl rfl (t_29 L xs rfl) (mv_okl rfl) ?_
    show mv_E (mp L xs) 34 (43, [some (.ref 5), some (.int l1), some (.int r86), some (.int r88)], [.int (f_29 r86)]) (HPf C M o, c, s) _
    by_cases hc95 : (f_29 r86) = 0
    · replace h := (if_pos hc95).symm.trans h
      refine mv_E.go rfl (mi_if_pos hc95) ?_
      refine mv_E.rT (t := mt_34) rfl 1 (f' := (60, [some (.ref 5), some (.int l1), some (.int r86), some (.int r88)], [.int r86])) (h' := (HPf C M o, c, s)) rfl ?_
      refine mv_E.call (z := 30) (vs := [.int r86]) (f' := (63, [some (.ref 5), some (.int l1), some (.int r86), some (.int r88)], [])) (h' := (HPf C M o, c, s)) rfl rfl rfl (t_30 L xs rfl) (mv_okl rfl) ?_
      show mv_E (mp L xs) 34 (63, [some (.ref 5), some (.int l1), some (.int r86), some (.int r88)], [.int (f_30 r86)]) (HPf C M o, c, s) _
      by_cases hc94 : (f_30 r86) = 0
      · replace h := (if_pos hc94).symm.trans h
        refine mv_E.go rfl (mi_if_pos hc94) ?_
        refine mv_E.rT (t := mt_34) rfl 2 (f' := (90, [some (.ref 5), some (.int l1), some (.int r86), some (.int r88)], [.int 47, .int r86])) (h' := (HPf C M o, c, s)) rfl ?_
        by_cases hc93 : ¬ r86 = 47
        · replace h := (if_pos hc93).symm.trans h
          refine mv_E.go rfl (mi_icmp_pos hc93) ?_
          show mv_E (mp L xs) 34 (106, [some (.ref 5), some (.int l1), some (.int r86), some (.int r88)], []) (HPf C M o, c, s) _
          exact tb_34_106 L xs M o c s C (b_34_2 n) ih l1 r86 r88 _ h
        replace h := (if_neg hc93).symm.trans h
        refine mv_E.go rfl (mi_icmp_neg hc93) ?_
        refine mv_E.rT (t := mt_34) rfl 2 (f' := (96, [some (.ref 5), some (.int l1), some (.int r86), some (.int r88)], [.int 47, .int r88])) (h' := (HPf C M o, c, s)) rfl ?_
        by_cases hc92 : ¬ r88 = 47
        · replace h := (if_pos hc92).symm.trans h
          refine mv_E.go rfl (mi_icmp_pos hc92) ?_
          show mv_E (mp L xs) 34 (106, [some (.ref 5), some (.int l1), some (.int r86), some (.int r88)], []) (HPf C M o, c, s) _
          exact tb_34_106 L xs M o c s C (b_34_2 n) ih l1 r86 r88 _ h
        replace h := (if_neg hc92).symm.trans h
        refine mv_E.go rfl (mi_icmp_neg hc92) ?_
        refine mv_E.rT (t := mt_34) rfl 1 (f' := (100, [some (.ref 5), some (.int l1), some (.int r86), some (.int r88)], [.ref 5])) (h' := (HPf C M o, c, s)) rfl ?_
        obtain ⟨r90, hr91, h⟩ := Option.bind_eq_some_iff.mp h
        refine mv_E.call (z := 31) (vs := [.ref 5]) (f' := (103, [some (.ref 5), some (.int l1), some (.int r86), some (.int r88)], [])) (h' := (HPf C M o, c, s)) rfl rfl rfl (t_31 L xs hr91) (mv_okl rfl) ?_
        refine mv_E.rT (t := mt_34) rfl 1 (f' := (129, [some (.ref 5), some (.int l1), some (.int r86), some (.int r88)], [])) (h' := (HPf r90 M o, c, s)) rfl ?_
        exact tb_34_129 L xs M o c s r90 (b_34_2 n) ih l1 (some r86) (some r88) _ h
      replace h := (if_neg hc94).symm.trans h
      refine mv_E.go rfl (mi_if_neg hc94) ?_
      refine mv_E.rT (t := mt_34) rfl 11 (f' := (129, [some (.ref 5), some (.int l1), some (.int r86), some (.int r88)], [])) (h' := (HPf (ru (ru (C.1) 6 (1)) 11 (((C.1 11) + 1)), C.2) M o, c, s)) rfl ?_
      exact tb_34_129 L xs M o c s (ru (ru (C.1) 6 (1)) 11 (((C.1 11) + 1)), C.2) (b_34_2 n) ih l1 (some r86) (some r88) _ h
    replace h := (if_neg hc95).symm.trans h
    refine mv_E.go rfl (mi_if_neg hc95) ?_
    refine mv_E.rT (t := mt_34) rfl 7 (f' := (129, [some (.ref 5), some (.int l1), some (.int r86), some (.int r88)], [])) (h' := (HPf (ru (C.1) 11 (((C.1 11) + 1)), C.2) M o, c, s)) rfl ?_
    exact tb_34_129 L xs M o c s (ru (C.1) 11 (((C.1 11) + 1)), C.2) (b_34_2 n) ih l1 (some r86) (some r88) _ h
def f_34 (C : CS) : Option (Int32 × CS) := b_34_2 fu C 0
theorem t_34 (L : Nat) (xs : Nat → Int32) {C M : CS} {o : Nat → Int64} {c s : Nat} {ret : Int32 × CS} (h : f_34 C = some ret) : mv_E (mp L xs) 34 (0, [some (.ref 5), none, none, none], []) (HPf C M o, c, s) ((.inl (some (.int ret.1)), (HPf ret.2 M o, c, s))) := by
  unfold f_34 at h
  refine mv_E.rT (t := mt_34) rfl 2 (f' := (2, [some (.ref 5), some (.int 0), none, none], [])) (h' := (HPf C M o, c, s)) rfl ?_
  exact tb_34_2 L xs M o c s fu C 0 none none _ h
def b_35_24 (l0 : Int32) : Int32 := (if l0 = 36 then 1 else (if l0 = 95 then 1 else (if l0 = 170 then 1 else (if l0 = 181 then 1 else (if l0 = 186 then 1 else (if l0 < 192 then 0 else (if 255 < l0 then 0 else (if l0 = 215 then 0 else (if l0 = 247 then 0 else 1)))))))))
theorem tb_35_24 (L : Nat) (xs : Nat → Int32) (hh : mv_H) (l0 : Int32) (ret : Int32) (h : b_35_24 l0 = ret) : mv_E (mp L xs) 35 (24, [some (.int l0)], []) hh ((.inl (some (.int ret)), hh)) := by
  unfold b_35_24 at h
  refine mv_E.rT (t := mt_35) rfl 2 (f' := (27, [some (.int l0)], [.int 36, .int l0])) (h' := hh) rfl ?_
  by_cases hc118 : l0 = 36
  · replace h := (if_pos hc118).symm.trans h
    refine mv_E.go rfl (mi_icmp_pos hc118) ?_
    refine mv_E.rT (t := mt_35) rfl 2 (f' := (90, [some (.int l0)], [.int 1])) (h' := hh) rfl ?_
    cases h
    exact mv_E.done rfl mi_zret1
  replace h := (if_neg hc118).symm.trans h
  refine mv_E.go rfl (mi_icmp_neg hc118) ?_
  refine mv_E.rT (t := mt_35) rfl 2 (f' := (33, [some (.int l0)], [.int 95, .int l0])) (h' := hh) rfl ?_
  by_cases hc117 : l0 = 95
  · replace h := (if_pos hc117).symm.trans h
    refine mv_E.go rfl (mi_icmp_pos hc117) ?_
    refine mv_E.rT (t := mt_35) rfl 2 (f' := (90, [some (.int l0)], [.int 1])) (h' := hh) rfl ?_
    cases h
    exact mv_E.done rfl mi_zret1
  replace h := (if_neg hc117).symm.trans h
  refine mv_E.go rfl (mi_icmp_neg hc117) ?_
  refine mv_E.rT (t := mt_35) rfl 2 (f' := (40, [some (.int l0)], [.int 170, .int l0])) (h' := hh) rfl ?_
  by_cases hc116 : l0 = 170
  · replace h := (if_pos hc116).symm.trans h
    refine mv_E.go rfl (mi_icmp_pos hc116) ?_
    refine mv_E.rT (t := mt_35) rfl 2 (f' := (90, [some (.int l0)], [.int 1])) (h' := hh) rfl ?_
    cases h
    exact mv_E.done rfl mi_zret1
  replace h := (if_neg hc116).symm.trans h
  refine mv_E.go rfl (mi_icmp_neg hc116) ?_
  refine mv_E.rT (t := mt_35) rfl 2 (f' := (47, [some (.int l0)], [.int 181, .int l0])) (h' := hh) rfl ?_
  by_cases hc115 : l0 = 181
  · replace h := (if_pos hc115).symm.trans h
    refine mv_E.go rfl (mi_icmp_pos hc115) ?_
    refine mv_E.rT (t := mt_35) rfl 2 (f' := (90, [some (.int l0)], [.int 1])) (h' := hh) rfl ?_
    cases h
    exact mv_E.done rfl mi_zret1
  replace h := (if_neg hc115).symm.trans h
  refine mv_E.go rfl (mi_icmp_neg hc115) ?_
  refine mv_E.rT (t := mt_35) rfl 2 (f' := (54, [some (.int l0)], [.int 186, .int l0])) (h' := hh) rfl ?_
  by_cases hc114 : l0 = 186
  · replace h := (if_pos hc114).symm.trans h
    refine mv_E.go rfl (mi_icmp_pos hc114) ?_
    refine mv_E.rT (t := mt_35) rfl 2 (f' := (90, [some (.int l0)], [.int 1])) (h' := hh) rfl ?_
    cases h
    exact mv_E.done rfl mi_zret1
  replace h := (if_neg hc114).symm.trans h
  refine mv_E.go rfl (mi_icmp_neg hc114) ?_
  refine mv_E.rT (t := mt_35) rfl 2 (f' := (61, [some (.int l0)], [.int 192, .int l0])) (h' := hh) rfl ?_
  by_cases hc113 : l0 < 192
  · replace h := (if_pos hc113).symm.trans h
    refine mv_E.go rfl (mi_icmp_pos hc113) ?_
    refine mv_E.rT (t := mt_35) rfl 1 (f' := (90, [some (.int l0)], [.int 0])) (h' := hh) rfl ?_
    cases h
    exact mv_E.done rfl mi_zret0
  replace h := (if_neg hc113).symm.trans h
  refine mv_E.go rfl (mi_icmp_neg hc113) ?_
  refine mv_E.rT (t := mt_35) rfl 2 (f' := (68, [some (.int l0)], [.int 255, .int l0])) (h' := hh) rfl ?_
  by_cases hc112 : 255 < l0
  · replace h := (if_pos hc112).symm.trans h
    refine mv_E.go rfl (mi_icmp_pos hc112) ?_
    refine mv_E.rT (t := mt_35) rfl 1 (f' := (90, [some (.int l0)], [.int 0])) (h' := hh) rfl ?_
    cases h
    exact mv_E.done rfl mi_zret0
  replace h := (if_neg hc112).symm.trans h
  refine mv_E.go rfl (mi_icmp_neg hc112) ?_
  refine mv_E.rT (t := mt_35) rfl 2 (f' := (75, [some (.int l0)], [.int 215, .int l0])) (h' := hh) rfl ?_
  by_cases hc111 : l0 = 215
  · replace h := (if_pos hc111).symm.trans h
    refine mv_E.go rfl (mi_icmp_pos hc111) ?_
    refine mv_E.rT (t := mt_35) rfl 1 (f' := (90, [some (.int l0)], [.int 0])) (h' := hh) rfl ?_
    cases h
    exact mv_E.done rfl mi_zret0
  replace h := (if_neg hc111).symm.trans h
  refine mv_E.go rfl (mi_icmp_neg hc111) ?_
  refine mv_E.rT (t := mt_35) rfl 2 (f' := (82, [some (.int l0)], [.int 247, .int l0])) (h' := hh) rfl ?_
  by_cases hc110 : l0 = 247
  · replace h := (if_pos hc110).symm.trans h
    refine mv_E.go rfl (mi_icmp_pos hc110) ?_
    refine mv_E.rT (t := mt_35) rfl 1 (f' := (90, [some (.int l0)], [.int 0])) (h' := hh) rfl ?_
    cases h
    exact mv_E.done rfl mi_zret0
  replace h := (if_neg hc110).symm.trans h
  refine mv_E.go rfl (mi_icmp_neg hc110) ?_
  refine mv_E.rT (t := mt_35) rfl 2 (f' := (90, [some (.int l0)], [.int 1])) (h' := hh) rfl ?_
  cases h
  exact mv_E.done rfl mi_zret1
def b_35_12 (l0 : Int32) : Int32 := (if l0 < 65 then b_35_24 l0 else (if l0 ≤ 90 then 1 else b_35_24 l0))
theorem tb_35_12 (L : Nat) (xs : Nat → Int32) (hh : mv_H) (l0 : Int32) (ret : Int32) (h : b_35_12 l0 = ret) : mv_E (mp L xs) 35 (12, [some (.int l0)], []) hh ((.inl (some (.int ret)), hh)) := by
  unfold b_35_12 at h
  refine mv_E.rT (t := mt_35) rfl 2 (f' := (15, [some (.int l0)], [.int 65, .int l0])) (h' := hh) rfl ?_
  by_cases hc122 : l0 < 65
  · replace h := (if_pos hc122).symm.trans h
    refine mv_E.go rfl (mi_icmp_pos hc122) ?_
    show mv_E (mp L xs) 35 (24, [some (.int l0)], []) hh _
    exact tb_35_24 L xs hh l0 _ h
  replace h := (if_neg hc122).symm.trans h
  refine mv_E.go rfl (mi_icmp_neg hc122) ?_
  refine mv_E.rT (t := mt_35) rfl 2 (f' := (21, [some (.int l0)], [.int 90, .int l0])) (h' := hh) rfl ?_
  by_cases hc121 : l0 ≤ 90
  · replace h := (if_pos hc121).symm.trans h
    refine mv_E.go rfl (mi_icmp_pos hc121) ?_
    refine mv_E.rT (t := mt_35) rfl 2 (f' := (90, [some (.int l0)], [.int 1])) (h' := hh) rfl ?_
    cases h
    exact mv_E.done rfl mi_zret1
  replace h := (if_neg hc121).symm.trans h
  refine mv_E.go rfl (mi_icmp_neg hc121) ?_
  show mv_E (mp L xs) 35 (24, [some (.int l0)], []) hh _
  exact tb_35_24 L xs hh l0 _ h
def f_35 (p0 : Int32) : Int32 := (if p0 < 97 then b_35_12 p0 else (if p0 ≤ 122 then 1 else b_35_12 p0))
theorem t_35 (L : Nat) (xs : Nat → Int32) {hh : mv_H} {p0 : Int32} {ret : Int32} (h : f_35 p0 = ret) : mv_E (mp L xs) 35 (0, [some (.int p0)], []) hh ((.inl (some (.int ret)), hh)) := by
  unfold f_35 at h
  refine mv_E.rT (t := mt_35) rfl 2 (f' := (3, [some (.int p0)], [.int 97, .int p0])) (h' := hh) rfl ?_
  by_cases hc124 : p0 < 97
  · replace h := (if_pos hc124).symm.trans h
    refine mv_E.go rfl (mi_icmp_pos hc124) ?_
    show mv_E (mp L xs) 35 (12, [some (.int p0)], []) hh _
    exact tb_35_12 L xs hh p0 _ h
  replace h := (if_neg hc124).symm.trans h
  refine mv_E.go rfl (mi_icmp_neg hc124) ?_
  refine mv_E.rT (t := mt_35) rfl 2 (f' := (9, [some (.int p0)], [.int 122, .int p0])) (h' := hh) rfl ?_
  by_cases hc123 : p0 ≤ 122
  · replace h := (if_pos hc123).symm.trans h
    refine mv_E.go rfl (mi_icmp_pos hc123) ?_
    refine mv_E.rT (t := mt_35) rfl 2 (f' := (90, [some (.int p0)], [.int 1])) (h' := hh) rfl ?_
    cases h
    exact mv_E.done rfl mi_zret1
  replace h := (if_neg hc123).symm.trans h
  refine mv_E.go rfl (mi_icmp_neg hc123) ?_
  show mv_E (mp L xs) 35 (12, [some (.int p0)], []) hh _
  exact tb_35_12 L xs hh p0 _ h
