def f_112 (C : CS) (p0 : Int32) : Option ((Int32 ⊕ Nat) × CS) := (if ¬ (C.1 0) = 0 then (if p0 < 0 then some (.inr 2, C) else (if p0 < (C.1 10) then if mv_in p0 2000 = true then some (.inl ((C.2 1) p0.toNatClampNeg), C) else none else some (.inr 2, C))) else some (.inr 1, C))
theorem t_112 (L : Nat) (xs : Nat → Int32) {C M : CS} {o : Nat → Int64} {c s : Nat} {p0 : Int32} {ret : (Int32 ⊕ Nat) × CS} (h : f_112 C p0 = some ret) : mv_E (mp L xs) 112 (0, [some (.ref 0), some (.int p0)], []) (HPf C M o, c, s) (cvI M o c s ret) := by
  unfold f_112 at h
  refine mv_E.rT (t := mt_112) rfl 2 (f' := (4, [some (.ref 0), some (.int p0)], [.int (C.1 0)])) (h' := (HPf C M o, c, s)) rfl ?_
  by_cases hc688 : ¬ (C.1 0) = 0
  · replace h := (if_pos hc688).symm.trans h
    refine mv_E.go rfl (mi_if_pos hc688) ?_
    refine mv_E.rT (t := mt_112) rfl 1 (f' := (18, [some (.ref 0), some (.int p0)], [.int p0])) (h' := (HPf C M o, c, s)) rfl ?_
    by_cases hc687 : p0 < 0
    · replace h := (if_pos hc687).symm.trans h
      refine mv_E.go rfl (mi_if_pos hc687) ?_
      show mv_E (mp L xs) 112 (32, [some (.ref 0), some (.int p0)], []) (HPf C M o, c, s) _
      cases h
      exact mv_E.done rfl rfl
    replace h := (if_neg hc687).symm.trans h
    refine mv_E.go rfl (mi_if_neg hc687) ?_
    refine mv_E.rT (t := mt_112) rfl 4 (f' := (29, [some (.ref 0), some (.int p0)], [.int (C.1 10), .int p0])) (h' := (HPf C M o, c, s)) rfl ?_
    by_cases hc686 : p0 < (C.1 10)
    · replace h := (if_pos hc686).symm.trans h
      refine mv_E.go rfl (mi_icmp_pos hc686) ?_
      refine mv_E.rT (t := mt_112) rfl 4 (f' := (50, [some (.ref 0), some (.int p0)], [.int p0, .ref 4])) (h' := (HPf C M o, c, s)) rfl ?_
      by_cases hb685 : mv_in p0 2000 = true
      rotate_left
      · cases (if_neg hb685).symm.trans h
      replace h := (if_pos hb685).symm.trans h
      refine mv_E.go rfl (mi_iald_at rfl hb685) ?_
      show mv_E (mp L xs) 112 (51, [some (.ref 0), some (.int p0)], [.int ((C.2 1) p0.toNatClampNeg)]) (HPf C M o, c, s) _
      cases h
      exact mv_E.done rfl rfl
    replace h := (if_neg hc686).symm.trans h
    refine mv_E.go rfl (mi_icmp_neg hc686) ?_
    show mv_E (mp L xs) 112 (32, [some (.ref 0), some (.int p0)], []) (HPf C M o, c, s) _
    cases h
    exact mv_E.done rfl rfl
  replace h := (if_neg hc688).symm.trans h
  refine mv_E.go rfl (mi_if_neg hc688) ?_
  show mv_E (mp L xs) 112 (7, [some (.ref 0), some (.int p0)], []) (HPf C M o, c, s) _
  cases h
  exact mv_E.done rfl rfl
def f_115 (C : CS) : Int32 := (if (C.1 3) = 1 then 1 else (if (C.1 3) = 2 then 1 else (if ¬ (C.1 3) = 3 then 0 else 1)))
theorem t_115 (L : Nat) (xs : Nat → Int32) {C M : CS} {o : Nat → Int64} {c s : Nat} {ret : Int32} (h : f_115 C = ret) : mv_E (mp L xs) 115 (0, [some (.ref 3)], []) (HPf C M o, c, s) ((.inl (some (.int ret)), (HPf C M o, c, s))) := by
  unfold f_115 at h
  refine mv_E.rT (t := mt_115) rfl 3 (f' := (5, [some (.ref 3)], [.int 1, .int (C.1 3)])) (h' := (HPf C M o, c, s)) rfl ?_
  by_cases hc691 : (C.1 3) = 1
  · replace h := (if_pos hc691).symm.trans h
    refine mv_E.go rfl (mi_icmp_pos hc691) ?_
    refine mv_E.rT (t := mt_115) rfl 2 (f' := (29, [some (.ref 3)], [.int 1])) (h' := (HPf C M o, c, s)) rfl ?_
    cases h
    exact mv_E.done rfl mi_zret1
  replace h := (if_neg hc691).symm.trans h
  refine mv_E.go rfl (mi_icmp_neg hc691) ?_
  refine mv_E.rT (t := mt_115) rfl 3 (f' := (13, [some (.ref 3)], [.int 2, .int (C.1 3)])) (h' := (HPf C M o, c, s)) rfl ?_
  by_cases hc690 : (C.1 3) = 2
  · replace h := (if_pos hc690).symm.trans h
    refine mv_E.go rfl (mi_icmp_pos hc690) ?_
    refine mv_E.rT (t := mt_115) rfl 2 (f' := (29, [some (.ref 3)], [.int 1])) (h' := (HPf C M o, c, s)) rfl ?_
    cases h
    exact mv_E.done rfl mi_zret1
  replace h := (if_neg hc690).symm.trans h
  refine mv_E.go rfl (mi_icmp_neg hc690) ?_
  refine mv_E.rT (t := mt_115) rfl 3 (f' := (21, [some (.ref 3)], [.int 3, .int (C.1 3)])) (h' := (HPf C M o, c, s)) rfl ?_
  by_cases hc689 : ¬ (C.1 3) = 3
  · replace h := (if_pos hc689).symm.trans h
    refine mv_E.go rfl (mi_icmp_pos hc689) ?_
    refine mv_E.rT (t := mt_115) rfl 1 (f' := (29, [some (.ref 3)], [.int 0])) (h' := (HPf C M o, c, s)) rfl ?_
    cases h
    exact mv_E.done rfl mi_zret0
  replace h := (if_neg hc689).symm.trans h
  refine mv_E.go rfl (mi_icmp_neg hc689) ?_
  refine mv_E.rT (t := mt_115) rfl 2 (f' := (29, [some (.ref 3)], [.int 1])) (h' := (HPf C M o, c, s)) rfl ?_
  cases h
  exact mv_E.done rfl mi_zret1
def f_116_12 (C : CS) (p0 : Int32) : Int32 := (if p0 < 0 then 0 else (if (C.1 13) ≤ p0 then 0 else 1))
theorem t_116_12 (L : Nat) (xs : Nat → Int32) {C M : CS} {o : Nat → Int64} {c s : Nat} {p0 : Int32} {ret : Int32} (h : f_116_12 C p0 = ret) : mv_E (mp L xs) 116 (0, [some (.ref 12), some (.int p0)], []) (HPf C M o, c, s) ((.inl (some (.int ret)), (HPf C M o, c, s))) := by
  unfold f_116_12 at h
  refine mv_E.rT (t := mt_116) rfl 1 (f' := (1, [some (.ref 12), some (.int p0)], [.int p0])) (h' := (HPf C M o, c, s)) rfl ?_
  by_cases hc693 : p0 < 0
  · replace h := (if_pos hc693).symm.trans h
    refine mv_E.go rfl (mi_if_pos hc693) ?_
    refine mv_E.rT (t := mt_116) rfl 1 (f' := (17, [some (.ref 12), some (.int p0)], [.int 0])) (h' := (HPf C M o, c, s)) rfl ?_
    cases h
    exact mv_E.done rfl mi_zret0
  replace h := (if_neg hc693).symm.trans h
  refine mv_E.go rfl (mi_if_neg hc693) ?_
  refine mv_E.rT (t := mt_116) rfl 3 (f' := (9, [some (.ref 12), some (.int p0)], [.int (C.1 13), .int p0])) (h' := (HPf C M o, c, s)) rfl ?_
  by_cases hc692 : (C.1 13) ≤ p0
  · replace h := (if_pos hc692).symm.trans h
    refine mv_E.go rfl (mi_icmp_pos hc692) ?_
    refine mv_E.rT (t := mt_116) rfl 1 (f' := (17, [some (.ref 12), some (.int p0)], [.int 0])) (h' := (HPf C M o, c, s)) rfl ?_
    cases h
    exact mv_E.done rfl mi_zret0
  replace h := (if_neg hc692).symm.trans h
  refine mv_E.go rfl (mi_icmp_neg hc692) ?_
  refine mv_E.rT (t := mt_116) rfl 2 (f' := (17, [some (.ref 12), some (.int p0)], [.int 1])) (h' := (HPf C M o, c, s)) rfl ?_
  cases h
  exact mv_E.done rfl mi_zret1
def f_117_12 (C : CS) (p0 : Int32) : Option (Int32) := (if p0 < 1 then some 0 else (if (C.1 13) < p0 then some 0 else if mv_in (p0 - 1) 2000 = true then some ((C.2 3) (p0 - 1).toNatClampNeg) else none))
theorem t_117_12 (L : Nat) (xs : Nat → Int32) {C M : CS} {o : Nat → Int64} {c s : Nat} {p0 : Int32} {ret : Int32} (h : f_117_12 C p0 = some ret) : mv_E (mp L xs) 117 (0, [some (.ref 12), some (.int p0)], []) (HPf C M o, c, s) ((.inl (some (.int ret)), (HPf C M o, c, s))) := by
  unfold f_117_12 at h
  refine mv_E.rT (t := mt_117) rfl 2 (f' := (2, [some (.ref 12), some (.int p0)], [.int 1, .int p0])) (h' := (HPf C M o, c, s)) rfl ?_
  by_cases hc697 : p0 < 1
  · replace h := (if_pos hc697).symm.trans h
    refine mv_E.go rfl (mi_icmp_pos hc697) ?_
    refine mv_E.rT (t := mt_117) rfl 1 (f' := (25, [some (.ref 12), some (.int p0)], [.int 0])) (h' := (HPf C M o, c, s)) rfl ?_
    cases h
    exact mv_E.done rfl rfl
  replace h := (if_neg hc697).symm.trans h
  refine mv_E.go rfl (mi_icmp_neg hc697) ?_
  refine mv_E.rT (t := mt_117) rfl 3 (f' := (10, [some (.ref 12), some (.int p0)], [.int (C.1 13), .int p0])) (h' := (HPf C M o, c, s)) rfl ?_
  by_cases hc696 : (C.1 13) < p0
  · replace h := (if_pos hc696).symm.trans h
    refine mv_E.go rfl (mi_icmp_pos hc696) ?_
    refine mv_E.rT (t := mt_117) rfl 1 (f' := (25, [some (.ref 12), some (.int p0)], [.int 0])) (h' := (HPf C M o, c, s)) rfl ?_
    cases h
    exact mv_E.done rfl rfl
  replace h := (if_neg hc696).symm.trans h
  refine mv_E.go rfl (mi_icmp_neg hc696) ?_
  refine mv_E.rT (t := mt_117) rfl 5 (f' := (20, [some (.ref 12), some (.int p0)], [.int (p0 - 1), .ref 14])) (h' := (HPf C M o, c, s)) rfl ?_
  by_cases hb695 : mv_in (p0 - 1) 2000 = true
  rotate_left
  · cases (if_neg hb695).symm.trans h
  replace h := (if_pos hb695).symm.trans h
  refine mv_E.go rfl (mi_iald_at rfl hb695) ?_
  refine mv_E.rT (t := mt_117) rfl 1 (f' := (25, [some (.ref 12), some (.int p0)], [.int ((C.2 3) (p0 - 1).toNatClampNeg)])) (h' := (HPf C M o, c, s)) rfl ?_
  cases h
  exact mv_E.done rfl rfl
def f_118_12 (C : CS) (p0 : Int32) : Option (Int32) := (if (f_116_12 C p0) = 0 then some 0 else if mv_in p0 2000 = true then (f_117_12 C p0).bind fun r698 => some (((C.2 3) p0.toNatClampNeg) - r698) else none)
theorem t_118_12 (L : Nat) (xs : Nat → Int32) {C M : CS} {o : Nat → Int64} {c s : Nat} {p0 : Int32} {ret : Int32} (h : f_118_12 C p0 = some ret) : mv_E (mp L xs) 118 (0, [some (.ref 12), some (.int p0)], []) (HPf C M o, c, s) ((.inl (some (.int ret)), (HPf C M o, c, s))) := by
  unfold f_118_12 at h
  refine mv_E.rT (t := mt_118) rfl 2 (f' := (2, [some (.ref 12), some (.int p0)], [.int p0, .ref 12])) (h' := (HPf C M o, c, s)) rfl ?_
  refine mv_E.call (z := 116) (vs := [.ref 12, .int p0]) (f' := (5, [some (.ref 12), some (.int p0)], [])) (h' := (HPf C M o, c, s)) rfl rfl rfl (t_116_12 L xs rfl) (mv_okl rfl) ?_
  show mv_E (mp L xs) 118 (5, [some (.ref 12), some (.int p0)], [.int (f_116_12 C p0)]) (HPf C M o, c, s) _
  by_cases hc700 : (f_116_12 C p0) = 0
  · replace h := (if_pos hc700).symm.trans h
    refine mv_E.go rfl (mi_if_pos hc700) ?_
    refine mv_E.rT (t := mt_118) rfl 1 (f' := (24, [some (.ref 12), some (.int p0)], [.int 0])) (h' := (HPf C M o, c, s)) rfl ?_
    cases h
    exact mv_E.done rfl rfl
  replace h := (if_neg hc700).symm.trans h
  refine mv_E.go rfl (mi_if_neg hc700) ?_
  refine mv_E.rT (t := mt_118) rfl 3 (f' := (13, [some (.ref 12), some (.int p0)], [.int p0, .ref 14])) (h' := (HPf C M o, c, s)) rfl ?_
  by_cases hb694 : mv_in p0 2000 = true
  rotate_left
  · cases (if_neg hb694).symm.trans h
  replace h := (if_pos hb694).symm.trans h
  refine mv_E.go rfl (mi_iald_at rfl hb694) ?_
  refine mv_E.rT (t := mt_118) rfl 2 (f' := (16, [some (.ref 12), some (.int p0)], [.int p0, .ref 12, .int ((C.2 3) p0.toNatClampNeg)])) (h' := (HPf C M o, c, s)) rfl ?_
  obtain ⟨r698, hr699, h⟩ := Option.bind_eq_some_iff.mp h
  refine mv_E.call (z := 117) (vs := [.ref 12, .int p0]) (f' := (19, [some (.ref 12), some (.int p0)], [.int ((C.2 3) p0.toNatClampNeg)])) (h' := (HPf C M o, c, s)) rfl rfl rfl (t_117_12 L xs hr699) (mv_okl rfl) ?_
  refine mv_E.rT (t := mt_118) rfl 2 (f' := (24, [some (.ref 12), some (.int p0)], [.int (((C.2 3) p0.toNatClampNeg) - r698)])) (h' := (HPf C M o, c, s)) rfl ?_
  cases h
  exact mv_E.done rfl rfl
def b_119_12_10 : Nat → CS → Int32 → Int32 → Int32 → Option (Int32)
  | 0, _, _, _, _ => none
  | n + 1, C, l3, l4, l5 => (if l3 ≤ l5 then some 1 else (if 2000 ≤ l5 then some 1 else (if 2000 ≤ (l4 + l5) then some 0 else if mv_in (l4 + l5) 2000 = true then if mv_in l5 2000 = true then (if ((C.2 2) (l4 + l5).toNatClampNeg) = ((C.2 1) l5.toNatClampNeg) then (b_119_12_10 n C) l3 l4 (l5 + 1) else some 0) else none else none)))
theorem tb_119_12_10 (L : Nat) (xs : Nat → Int32) (M : CS) (o : Nat → Int64) (c s : Nat) : ∀ (n : Nat) (C : CS) (l3 : Int32) (l4 : Int32) (l5 : Int32) (d1 : Option Int32) (ret : Int32), b_119_12_10 n C l3 l4 l5 = some ret → mv_E (mp L xs) 119 (10, [some (.ref 12), d1.map .int, some (.ref 4), some (.int l3), some (.int l4), some (.int l5)], []) (HPf C M o, c, s) ((.inl (some (.int ret)), (HPf C M o, c, s))) := by
  intro n
  induction n with
  | zero => intro C l3 l4 l5 d1 ret h; rw [b_119_12_10] at h; cases h
  | succ n ih =>
    intro C l3 l4 l5 d1 ret h
    rw [b_119_12_10] at h
    refine mv_E.rT (t := mt_119) rfl 2 (f' := (13, [some (.ref 12), d1.map .int, some (.ref 4), some (.int l3), some (.int l4), some (.int l5)], [.int l3, .int l5])) (h' := (HPf C M o, c, s)) rfl ?_
    by_cases hc716 : l3 ≤ l5
    · replace h := (if_pos hc716).symm.trans h
      refine mv_E.go rfl (mi_icmp_pos hc716) ?_
      refine mv_E.rT (t := mt_119) rfl 1 (f' := (62, [some (.ref 12), d1.map .int, some (.ref 4), some (.int l3), some (.int l4), some (.int l5)], [.int 1])) (h' := (HPf C M o, c, s)) rfl ?_
      cases h
      exact mv_E.done rfl mi_zret1
    replace h := (if_neg hc716).symm.trans h
    refine mv_E.go rfl (mi_icmp_neg hc716) ?_
    refine mv_E.rT (t := mt_119) rfl 3 (f' := (20, [some (.ref 12), d1.map .int, some (.ref 4), some (.int l3), some (.int l4), some (.int l5)], [.int 2000, .int l5])) (h' := (HPf C M o, c, s)) rfl ?_
    by_cases hc715 : 2000 ≤ l5
    · replace h := (if_pos hc715).symm.trans h
      refine mv_E.go rfl (mi_icmp_pos hc715) ?_
      refine mv_E.rT (t := mt_119) rfl 1 (f' := (62, [some (.ref 12), d1.map .int, some (.ref 4), some (.int l3), some (.int l4), some (.int l5)], [.int 1])) (h' := (HPf C M o, c, s)) rfl ?_
      cases h
      exact mv_E.done rfl mi_zret1
    replace h := (if_neg hc715).symm.trans h
    refine mv_E.go rfl (mi_icmp_neg hc715) ?_
    refine mv_E.rT (t := mt_119) rfl 6 (f' := (33, [some (.ref 12), d1.map .int, some (.ref 4), some (.int l3), some (.int l4), some (.int l5)], [.int 2000, .int (l4 + l5)])) (h' := (HPf C M o, c, s)) rfl ?_
    by_cases hc714 : 2000 ≤ (l4 + l5)
    · replace h := (if_pos hc714).symm.trans h
      refine mv_E.go rfl (mi_icmp_pos hc714) ?_
      refine mv_E.rT (t := mt_119) rfl 1 (f' := (54, [some (.ref 12), d1.map .int, some (.ref 4), some (.int l3), some (.int l4), some (.int l5)], [.int 0])) (h' := (HPf C M o, c, s)) rfl ?_
      cases h
      exact mv_E.done rfl mi_zret0
    replace h := (if_neg hc714).symm.trans h
    refine mv_E.go rfl (mi_icmp_neg hc714) ?_
    refine mv_E.rT (t := mt_119) rfl 5 (f' := (45, [some (.ref 12), d1.map .int, some (.ref 4), some (.int l3), some (.int l4), some (.int l5)], [.int (l4 + l5), .ref 13])) (h' := (HPf C M o, c, s)) rfl ?_
    by_cases hb711 : mv_in (l4 + l5) 2000 = true
    rotate_left
    · cases (if_neg hb711).symm.trans h
    replace h := (if_pos hb711).symm.trans h
    refine mv_E.go rfl (mi_iald_at rfl hb711) ?_
    refine mv_E.rT (t := mt_119) rfl 2 (f' := (49, [some (.ref 12), d1.map .int, some (.ref 4), some (.int l3), some (.int l4), some (.int l5)], [.int l5, .ref 4, .int ((C.2 2) (l4 + l5).toNatClampNeg)])) (h' := (HPf C M o, c, s)) rfl ?_
    by_cases hb712 : mv_in l5 2000 = true
    rotate_left
    · cases (if_neg hb712).symm.trans h
    replace h := (if_pos hb712).symm.trans h
    refine mv_E.go rfl (mi_iald_at rfl hb712) ?_
    show mv_E (mp L xs) 119 (50, [some (.ref 12), d1.map .int, some (.ref 4), some (.int l3), some (.int l4), some (.int l5)], [.int ((C.2 1) l5.toNatClampNeg), .int ((C.2 2) (l4 + l5).toNatClampNeg)]) (HPf C M o, c, s) _
    by_cases hc713 : ((C.2 2) (l4 + l5).toNatClampNeg) = ((C.2 1) l5.toNatClampNeg)
    · replace h := (if_pos hc713).symm.trans h
      refine mv_E.go rfl (mi_icmp_pos hc713) ?_
      refine mv_E.rT (t := mt_119) rfl 2 (f' := (10, [some (.ref 12), d1.map .int, some (.ref 4), some (.int l3), some (.int l4), some (.int (l5 + 1))], [])) (h' := (HPf C M o, c, s)) rfl ?_
      exact (ih C) l3 l4 (l5 + 1) d1 _ h
    replace h := (if_neg hc713).symm.trans h
    refine mv_E.go rfl (mi_icmp_neg hc713) ?_
    refine mv_E.rT (t := mt_119) rfl 1 (f' := (54, [some (.ref 12), d1.map .int, some (.ref 4), some (.int l3), some (.int l4), some (.int l5)], [.int 0])) (h' := (HPf C M o, c, s)) rfl ?_
    cases h
    exact mv_E.done rfl mi_zret0
def f_119_12 (C : CS) (p0 : Int32) (p1 : Int32) : Option (Int32) := (f_117_12 C p0).bind fun r703 => b_119_12_10 fu C p1 r703 0
theorem t_119_12 (L : Nat) (xs : Nat → Int32) {C M : CS} {o : Nat → Int64} {c s : Nat} {p0 : Int32} {p1 : Int32} {ret : Int32} (h : f_119_12 C p0 p1 = some ret) : mv_E (mp L xs) 119 (0, [some (.ref 12), some (.int p0), some (.ref 4), some (.int p1), none, none], []) (HPf C M o, c, s) ((.inl (some (.int ret)), (HPf C M o, c, s))) := by
  unfold f_119_12 at h
  refine mv_E.rT (t := mt_119) rfl 2 (f' := (2, [some (.ref 12), some (.int p0), some (.ref 4), some (.int p1), none, none], [.int p0, .ref 12])) (h' := (HPf C M o, c, s)) rfl ?_
  obtain ⟨r703, hr704, h⟩ := Option.bind_eq_some_iff.mp h
  refine mv_E.call (z := 117) (vs := [.ref 12, .int p0]) (f' := (5, [some (.ref 12), some (.int p0), some (.ref 4), some (.int p1), none, none], [])) (h' := (HPf C M o, c, s)) rfl rfl rfl (t_117_12 L xs hr704) (mv_okl rfl) ?_
  refine mv_E.rT (t := mt_119) rfl 3 (f' := (10, [some (.ref 12), some (.int p0), some (.ref 4), some (.int p1), some (.int r703), some (.int 0)], [])) (h' := (HPf C M o, c, s)) rfl ?_
  exact tb_119_12_10 L xs M o c s fu C p1 r703 0 (some p0) _ h
def b_120_12_31 (k_2 : Int32 → Int32 → Option (Int32)) (C : CS) (l2 : Int32) (l3 : Int32) : Option (Int32) := k_2 l2 (l3 + 1)
theorem tb_120_12_31 (L : Nat) (xs : Nat → Int32) (M : CS) (o : Nat → Int64) (c s : Nat) (C : CS) (k_2 : Int32 → Int32 → Option (Int32)) (hk_2 : ∀ (l2 : Int32) (l3 : Int32) (ret : Int32), k_2 l2 l3 = some ret → mv_E (mp L xs) 120 (2, [some (.ref 12), some (.ref 4), some (.int l2), some (.int l3)], []) (HPf C M o, c, s) ((.inl (some (.int ret)), (HPf C M o, c, s)))) (l2 : Int32) (l3 : Int32) (ret : Int32) (h : b_120_12_31 k_2 C l2 l3 = some ret) : mv_E (mp L xs) 120 (31, [some (.ref 12), some (.ref 4), some (.int l2), some (.int l3)], []) (HPf C M o, c, s) ((.inl (some (.int ret)), (HPf C M o, c, s))) := by
  unfold b_120_12_31 at h
  refine mv_E.rT (t := mt_120) rfl 2 (f' := (2, [some (.ref 12), some (.ref 4), some (.int l2), some (.int (l3 + 1))], [])) (h' := (HPf C M o, c, s)) rfl ?_
  exact hk_2 l2 (l3 + 1) _ h
def b_120_12_2 : Nat → CS → Int32 → Int32 → Option (Int32)
  | 0, _, _, _ => none
  | n + 1, C, l2, l3 => (if (C.1 13) ≤ l3 then some (-1) else (f_118_12 C l3).bind fun r701 => (if ¬ r701 = l2 then b_120_12_31 (b_120_12_2 n C) C l2 l3 else (f_119_12 C l3 l2).bind fun r717 => (if r717 = 0 then b_120_12_31 (b_120_12_2 n C) C l2 l3 else some l3)))
theorem tb_120_12_2 (L : Nat) (xs : Nat → Int32) (M : CS) (o : Nat → Int64) (c s : Nat) : ∀ (n : Nat) (C : CS) (l2 : Int32) (l3 : Int32) (ret : Int32), b_120_12_2 n C l2 l3 = some ret → mv_E (mp L xs) 120 (2, [some (.ref 12), some (.ref 4), some (.int l2), some (.int l3)], []) (HPf C M o, c, s) ((.inl (some (.int ret)), (HPf C M o, c, s))) := by
  intro n
  induction n with
  | zero => intro C l2 l3 ret h; rw [b_120_12_2] at h; cases h
  | succ n ih =>
    intro C l2 l3 ret h
    rw [b_120_12_2] at h
    refine mv_E.rT (t := mt_120) rfl 3 (f' := (7, [some (.ref 12), some (.ref 4), some (.int l2), some (.int l3)], [.int (C.1 13), .int l3])) (h' := (HPf C M o, c, s)) rfl ?_
    by_cases hc728 : (C.1 13) ≤ l3
    · replace h := (if_pos hc728).symm.trans h
      refine mv_E.go rfl (mi_icmp_pos hc728) ?_
      refine mv_E.rT (t := mt_120) rfl 1 (f' := (38, [some (.ref 12), some (.ref 4), some (.int l2), some (.int l3)], [.int (-1)])) (h' := (HPf C M o, c, s)) rfl ?_
      cases h
      exact mv_E.done rfl rfl
    replace h := (if_neg hc728).symm.trans h
    refine mv_E.go rfl (mi_icmp_neg hc728) ?_
    refine mv_E.rT (t := mt_120) rfl 2 (f' := (12, [some (.ref 12), some (.ref 4), some (.int l2), some (.int l3)], [.int l3, .ref 12])) (h' := (HPf C M o, c, s)) rfl ?_
    obtain ⟨r722, hr723, h⟩ := Option.bind_eq_some_iff.mp h
    refine mv_E.call (z := 118) (vs := [.ref 12, .int l3]) (f' := (15, [some (.ref 12), some (.ref 4), some (.int l2), some (.int l3)], [])) (h' := (HPf C M o, c, s)) rfl rfl rfl (t_118_12 L xs hr723) (mv_okl rfl) ?_
    refine mv_E.rT (t := mt_120) rfl 1 (f' := (16, [some (.ref 12), some (.ref 4), some (.int l2), some (.int l3)], [.int l2, .int r722])) (h' := (HPf C M o, c, s)) rfl ?_
    by_cases hc727 : ¬ r722 = l2
    · replace h := (if_pos hc727).symm.trans h
      refine mv_E.go rfl (mi_icmp_pos hc727) ?_
      show mv_E (mp L xs) 120 (31, [some (.ref 12), some (.ref 4), some (.int l2), some (.int l3)], []) (HPf C M o, c, s) _
      exact tb_120_12_31 L xs M o c s C (b_120_12_2 n C) (ih C) l2 l3 _ h
    replace h := (if_neg hc727).symm.trans h
    refine mv_E.go rfl (mi_icmp_neg hc727) ?_
    refine mv_E.rT (t := mt_120) rfl 4 (f' := (23, [some (.ref 12), some (.ref 4), some (.int l2), some (.int l3)], [.int l2, .ref 4, .int l3, .ref 12])) (h' := (HPf C M o, c, s)) rfl ?_
    obtain ⟨r724, hr725, h⟩ := Option.bind_eq_some_iff.mp h
    refine mv_E.call (z := 119) (vs := [.ref 12, .int l3, .ref 4, .int l2]) (f' := (26, [some (.ref 12), some (.ref 4), some (.int l2), some (.int l3)], [])) (h' := (HPf C M o, c, s)) rfl rfl rfl (t_119_12 L xs hr725) (mv_okl rfl) ?_
    show mv_E (mp L xs) 120 (26, [some (.ref 12), some (.ref 4), some (.int l2), some (.int l3)], [.int r724]) (HPf C M o, c, s) _
    by_cases hc726 : r724 = 0
    · replace h := (if_pos hc726).symm.trans h
      refine mv_E.go rfl (mi_if_pos hc726) ?_
      show mv_E (mp L xs) 120 (31, [some (.ref 12), some (.ref 4), some (.int l2), some (.int l3)], []) (HPf C M o, c, s) _
      exact tb_120_12_31 L xs M o c s C (b_120_12_2 n C) (ih C) l2 l3 _ h
    replace h := (if_neg hc726).symm.trans h
    refine mv_E.go rfl (mi_if_neg hc726) ?_
    refine mv_E.rT (t := mt_120) rfl 1 (f' := (30, [some (.ref 12), some (.ref 4), some (.int l2), some (.int l3)], [.int l3])) (h' := (HPf C M o, c, s)) rfl ?_
    cases h
    exact mv_E.done rfl rfl
def f_120_12 (C : CS) (p0 : Int32) : Option (Int32) := b_120_12_2 fu C p0 0
theorem t_120_12 (L : Nat) (xs : Nat → Int32) {C M : CS} {o : Nat → Int64} {c s : Nat} {p0 : Int32} {ret : Int32} (h : f_120_12 C p0 = some ret) : mv_E (mp L xs) 120 (0, [some (.ref 12), some (.ref 4), some (.int p0), none], []) (HPf C M o, c, s) ((.inl (some (.int ret)), (HPf C M o, c, s))) := by
  unfold f_120_12 at h
  refine mv_E.rT (t := mt_120) rfl 2 (f' := (2, [some (.ref 12), some (.ref 4), some (.int p0), some (.int 0)], [])) (h' := (HPf C M o, c, s)) rfl ?_
  exact tb_120_12_2 L xs M o c s fu C p0 0 _ h
def f_121_12 (C : CS) (p0 : Int32) : Option (Int32) := (if 2000 ≤ (C.1 13) then some 0 else (f_117_12 C (C.1 13)).bind fun r731 => (if (2000 - r731) < p0 then some 0 else some 1))
theorem t_121_12 (L : Nat) (xs : Nat → Int32) {C M : CS} {o : Nat → Int64} {c s : Nat} {p0 : Int32} {ret : Int32} (h : f_121_12 C p0 = some ret) : mv_E (mp L xs) 121 (0, [some (.ref 12), some (.int p0)], []) (HPf C M o, c, s) ((.inl (some (.int ret)), (HPf C M o, c, s))) := by
  unfold f_121_12 at h
  refine mv_E.rT (t := mt_121) rfl 5 (f' := (9, [some (.ref 12), some (.int p0)], [.int 2000, .int (C.1 13)])) (h' := (HPf C M o, c, s)) rfl ?_
  by_cases hc734 : 2000 ≤ (C.1 13)
  · replace h := (if_pos hc734).symm.trans h
    refine mv_E.go rfl (mi_icmp_pos hc734) ?_
    refine mv_E.rT (t := mt_121) rfl 1 (f' := (35, [some (.ref 12), some (.int p0)], [.int 0])) (h' := (HPf C M o, c, s)) rfl ?_
    cases h
    exact mv_E.done rfl mi_zret0
  replace h := (if_neg hc734).symm.trans h
  refine mv_E.go rfl (mi_icmp_neg hc734) ?_
  refine mv_E.rT (t := mt_121) rfl 7 (f' := (23, [some (.ref 12), some (.int p0)], [.int (C.1 13), .ref 12, .int 2000, .int p0])) (h' := (HPf C M o, c, s)) rfl ?_
  obtain ⟨r731, hr732, h⟩ := Option.bind_eq_some_iff.mp h
  refine mv_E.call (z := 117) (vs := [.ref 12, .int (C.1 13)]) (f' := (26, [some (.ref 12), some (.int p0)], [.int 2000, .int p0])) (h' := (HPf C M o, c, s)) rfl rfl rfl (t_117_12 L xs hr732) (mv_okl rfl) ?_
  refine mv_E.rT (t := mt_121) rfl 1 (f' := (27, [some (.ref 12), some (.int p0)], [.int (2000 - r731), .int p0])) (h' := (HPf C M o, c, s)) rfl ?_
  by_cases hc733 : (2000 - r731) < p0
  · replace h := (if_pos hc733).symm.trans h
    refine mv_E.go rfl (mi_icmp_pos hc733) ?_
    refine mv_E.rT (t := mt_121) rfl 1 (f' := (35, [some (.ref 12), some (.int p0)], [.int 0])) (h' := (HPf C M o, c, s)) rfl ?_
    cases h
    exact mv_E.done rfl mi_zret0
  replace h := (if_neg hc733).symm.trans h
  refine mv_E.go rfl (mi_icmp_neg hc733) ?_
  refine mv_E.rT (t := mt_121) rfl 2 (f' := (35, [some (.ref 12), some (.int p0)], [.int 1])) (h' := (HPf C M o, c, s)) rfl ?_
  cases h
  exact mv_E.done rfl mi_zret1
def f_122_12 (C : CS) (p0 : Int32) : Option (Int32 × CS) := (if p0 < 0 then some ((-1), C) else (if 2000 < p0 then some ((-1), C) else (f_121_12 C p0).bind fun r735 => (if ¬ r735 = 0 then (f_117_12 C (C.1 13)).bind fun r737 => if (¬ (0 : Int32) < 0 ∧ ¬ r737 < 0 ∧ ¬ p0 < 0) ∧ (0 : Int32).toNatClampNeg + p0.toNatClampNeg ≤ 2000 ∧ r737.toNatClampNeg + p0.toNatClampNeg ≤ 2000 then if mv_in (C.1 13) 2000 = true then some ((((C.1 13) + 1) - 1), (ru (C.1) 13 (((C.1 13) + 1)), ru (ru (C.2) 2 (va_cpy (C.2 1) (C.2 2) (0 : Int32).toNatClampNeg r737.toNatClampNeg p0.toNatClampNeg)) 3 (upd (C.2 3) (C.1 13).toNatClampNeg (r737 + p0)))) else none else none else some ((-1), C))))
theorem t_122_12 (L : Nat) (xs : Nat → Int32) {C M : CS} {o : Nat → Int64} {c s : Nat} {p0 : Int32} {ret : Int32 × CS} (h : f_122_12 C p0 = some ret) : mv_E (mp L xs) 122 (0, [some (.ref 12), some (.ref 4), some (.int p0), none], []) (HPf C M o, c, s) ((.inl (some (.int ret.1)), (HPf ret.2 M o, c, s))) := by
  unfold f_122_12 at h
  refine mv_E.rT (t := mt_122) rfl 1 (f' := (1, [some (.ref 12), some (.ref 4), some (.int p0), none], [.int p0])) (h' := (HPf C M o, c, s)) rfl ?_
  by_cases hc743 : p0 < 0
  · replace h := (if_pos hc743).symm.trans h
    refine mv_E.go rfl (mi_if_pos hc743) ?_
    refine mv_E.rT (t := mt_122) rfl 1 (f' := (19, [some (.ref 12), some (.ref 4), some (.int p0), none], [.int (-1)])) (h' := (HPf C M o, c, s)) rfl ?_
    cases h
    exact mv_E.done rfl rfl
  replace h := (if_neg hc743).symm.trans h
  refine mv_E.go rfl (mi_if_neg hc743) ?_
  refine mv_E.rT (t := mt_122) rfl 3 (f' := (7, [some (.ref 12), some (.ref 4), some (.int p0), none], [.int 2000, .int p0])) (h' := (HPf C M o, c, s)) rfl ?_
  by_cases hc742 : 2000 < p0
  · replace h := (if_pos hc742).symm.trans h
    refine mv_E.go rfl (mi_icmp_pos hc742) ?_
    refine mv_E.rT (t := mt_122) rfl 1 (f' := (19, [some (.ref 12), some (.ref 4), some (.int p0), none], [.int (-1)])) (h' := (HPf C M o, c, s)) rfl ?_
    cases h
    exact mv_E.done rfl rfl
  replace h := (if_neg hc742).symm.trans h
  refine mv_E.go rfl (mi_icmp_neg hc742) ?_
  refine mv_E.rT (t := mt_122) rfl 2 (f' := (12, [some (.ref 12), some (.ref 4), some (.int p0), none], [.int p0, .ref 12])) (h' := (HPf C M o, c, s)) rfl ?_
  obtain ⟨r735, hr736, h⟩ := Option.bind_eq_some_iff.mp h
  refine mv_E.call (z := 121) (vs := [.ref 12, .int p0]) (f' := (15, [some (.ref 12), some (.ref 4), some (.int p0), none], [])) (h' := (HPf C M o, c, s)) rfl rfl rfl (t_121_12 L xs hr736) (mv_okl rfl) ?_
  show mv_E (mp L xs) 122 (15, [some (.ref 12), some (.ref 4), some (.int p0), none], [.int r735]) (HPf C M o, c, s) _
  by_cases hc741 : ¬ r735 = 0
  · replace h := (if_pos hc741).symm.trans h
    refine mv_E.go rfl (mi_if_pos hc741) ?_
    refine mv_E.rT (t := mt_122) rfl 3 (f' := (25, [some (.ref 12), some (.ref 4), some (.int p0), none], [.int (C.1 13), .ref 12])) (h' := (HPf C M o, c, s)) rfl ?_
    obtain ⟨r737, hr738, h⟩ := Option.bind_eq_some_iff.mp h
    refine mv_E.call (z := 117) (vs := [.ref 12, .int (C.1 13)]) (f' := (28, [some (.ref 12), some (.ref 4), some (.int p0), none], [])) (h' := (HPf C M o, c, s)) rfl rfl rfl (t_117_12 L xs hr738) (mv_okl rfl) ?_
    refine mv_E.rT (t := mt_122) rfl 7 (f' := (37, [some (.ref 12), some (.ref 4), some (.int p0), some (.int r737)], [.int p0, .int r737, .ref 13, .int 0, .ref 4])) (h' := (HPf C M o, c, s)) rfl ?_
    by_cases hb739 : (¬ (0 : Int32) < 0 ∧ ¬ r737 < 0 ∧ ¬ p0 < 0) ∧ (0 : Int32).toNatClampNeg + p0.toNatClampNeg ≤ 2000 ∧ r737.toNatClampNeg + p0.toNatClampNeg ≤ 2000
    rotate_left
    · cases (if_neg hb739).symm.trans h
    replace h := (if_pos hb739).symm.trans h
    refine mv_E.go rfl (mi_copy_at rfl rfl hb739 (Nat.le_of_ble_eq_true rfl)) ?_
    refine mv_E.rT (t := mt_122) rfl 7 (f' := (51, [some (.ref 12), some (.ref 4), some (.int p0), some (.int r737)], [.int (r737 + p0), .int (C.1 13), .ref 14])) (h' := (HPf (C.1, ru (C.2) 2 (va_cpy (C.2 1) (C.2 2) (0 : Int32).toNatClampNeg r737.toNatClampNeg p0.toNatClampNeg)) M o, c, s)) rfl ?_
    by_cases hb740 : mv_in (C.1 13) 2000 = true
    rotate_left
    · cases (if_neg hb740).symm.trans h
    replace h := (if_pos hb740).symm.trans h
    refine mv_E.go rfl (mi_iast_at rfl hb740) ?_
    refine mv_E.rT (t := mt_122) rfl 10 (f' := (68, [some (.ref 12), some (.ref 4), some (.int p0), some (.int r737)], [.int (((C.1 13) + 1) - 1)])) (h' := (HPf (ru (C.1) 13 (((C.1 13) + 1)), ru (ru (C.2) 2 (va_cpy (C.2 1) (C.2 2) (0 : Int32).toNatClampNeg r737.toNatClampNeg p0.toNatClampNeg)) 3 (upd (C.2 3) (C.1 13).toNatClampNeg (r737 + p0))) M o, c, s)) rfl ?_
    cases h
    exact mv_E.done rfl rfl
  replace h := (if_neg hc741).symm.trans h
  refine mv_E.go rfl (mi_if_neg hc741) ?_
  refine mv_E.rT (t := mt_122) rfl 1 (f' := (19, [some (.ref 12), some (.ref 4), some (.int p0), none], [.int (-1)])) (h' := (HPf C M o, c, s)) rfl ?_
  cases h
  exact mv_E.done rfl rfl
def f_123 (C : CS) : Option ((Int32 ⊕ Nat) × CS) := (if (C.1 0) = 0 then some (.inr 1, C) else (if ¬ (f_115 C) = 0 then (f_120_12 C (C.1 10)).bind fun r729 => (if r729 = (-1) then (f_122_12 C (C.1 10)).bind fun r744 => some (.inl r744.1, r744.2) else some (.inl r729, C)) else some (.inr 1, C)))
theorem t_123 (L : Nat) (xs : Nat → Int32) {C M : CS} {o : Nat → Int64} {c s : Nat} {ret : (Int32 ⊕ Nat) × CS} (h : f_123 C = some ret) : mv_E (mp L xs) 123 (0, [some (.ref 0), none], []) (HPf C M o, c, s) (cvI M o c s ret) := by
  unfold f_123 at h
  refine mv_E.rT (t := mt_123) rfl 2 (f' := (4, [some (.ref 0), none], [.int (C.1 0)])) (h' := (HPf C M o, c, s)) rfl ?_
  by_cases hc748 : (C.1 0) = 0
  · replace h := (if_pos hc748).symm.trans h
    refine mv_E.go rfl (mi_if_pos hc748) ?_
    show mv_E (mp L xs) 123 (17, [some (.ref 0), none], []) (HPf C M o, c, s) _
    cases h
    exact mv_E.done rfl rfl
  replace h := (if_neg hc748).symm.trans h
  refine mv_E.go rfl (mi_if_neg hc748) ?_
  refine mv_E.rT (t := mt_123) rfl 2 (f' := (11, [some (.ref 0), none], [.ref 3])) (h' := (HPf C M o, c, s)) rfl ?_
  refine mv_E.call (z := 115) (vs := [.ref 3]) (f' := (14, [some (.ref 0), none], [])) (h' := (HPf C M o, c, s)) rfl rfl rfl (t_115 L xs rfl) (mv_okl rfl) ?_
  show mv_E (mp L xs) 123 (14, [some (.ref 0), none], [.int (f_115 C)]) (HPf C M o, c, s) _
  by_cases hc747 : ¬ (f_115 C) = 0
  · replace h := (if_pos hc747).symm.trans h
    refine mv_E.go rfl (mi_if_pos hc747) ?_
    refine mv_E.rT (t := mt_123) rfl 8 (f' := (45, [some (.ref 0), none], [.int (C.1 10), .ref 4, .ref 12])) (h' := (HPf C M o, c, s)) rfl ?_
    obtain ⟨r729, hr730, h⟩ := Option.bind_eq_some_iff.mp h
    refine mv_E.call (z := 120) (vs := [.ref 12, .ref 4, .int (C.1 10)]) (f' := (48, [some (.ref 0), none], [])) (h' := (HPf C M o, c, s)) rfl rfl rfl (t_120_12 L xs hr730) (mv_okl rfl) ?_
    refine mv_E.rT (t := mt_123) rfl 3 (f' := (51, [some (.ref 0), some (.int r729)], [.int (-1), .int r729])) (h' := (HPf C M o, c, s)) rfl ?_
    by_cases hc746 : r729 = (-1)
    · replace h := (if_pos hc746).symm.trans h
      refine mv_E.go rfl (mi_icmp_pos hc746) ?_
      refine mv_E.rT (t := mt_123) rfl 8 (f' := (76, [some (.ref 0), some (.int r729)], [.int (C.1 10), .ref 4, .ref 12])) (h' := (HPf C M o, c, s)) rfl ?_
      obtain ⟨r744, hr745, h⟩ := Option.bind_eq_some_iff.mp h
      refine mv_E.call (z := 122) (vs := [.ref 12, .ref 4, .int (C.1 10)]) (f' := (79, [some (.ref 0), some (.int r729)], [])) (h' := (HPf C M o, c, s)) rfl rfl rfl (t_122_12 L xs hr745) (mv_okl rfl) ?_
      show mv_E (mp L xs) 123 (79, [some (.ref 0), some (.int r729)], [.int r744.1]) (HPf r744.2 M o, c, s) _
      cases h
      exact mv_E.done rfl rfl
    replace h := (if_neg hc746).symm.trans h
    refine mv_E.go rfl (mi_icmp_neg hc746) ?_
    refine mv_E.rT (t := mt_123) rfl 2 (f' := (79, [some (.ref 0), some (.int r729)], [.int r729])) (h' := (HPf C M o, c, s)) rfl ?_
    cases h
    exact mv_E.done rfl rfl
  replace h := (if_neg hc747).symm.trans h
  refine mv_E.go rfl (mi_if_neg hc747) ?_
  show mv_E (mp L xs) 123 (17, [some (.ref 0), none], []) (HPf C M o, c, s) _
  cases h
  exact mv_E.done rfl rfl
def f_127 (C : CS) : Int32 := (if (C.1 3) = 2 then 1 else (if (C.1 3) = 3 then 1 else (if ¬ (C.1 3) = 5 then 0 else 1)))
theorem t_127 (L : Nat) (xs : Nat → Int32) {C M : CS} {o : Nat → Int64} {c s : Nat} {ret : Int32} (h : f_127 C = ret) : mv_E (mp L xs) 127 (0, [some (.ref 3)], []) (HPf C M o, c, s) ((.inl (some (.int ret)), (HPf C M o, c, s))) := by
  unfold f_127 at h
  refine mv_E.rT (t := mt_127) rfl 3 (f' := (5, [some (.ref 3)], [.int 2, .int (C.1 3)])) (h' := (HPf C M o, c, s)) rfl ?_
  by_cases hc751 : (C.1 3) = 2
  · replace h := (if_pos hc751).symm.trans h
    refine mv_E.go rfl (mi_icmp_pos hc751) ?_
    refine mv_E.rT (t := mt_127) rfl 2 (f' := (29, [some (.ref 3)], [.int 1])) (h' := (HPf C M o, c, s)) rfl ?_
    cases h
    exact mv_E.done rfl mi_zret1
  replace h := (if_neg hc751).symm.trans h
  refine mv_E.go rfl (mi_icmp_neg hc751) ?_
  refine mv_E.rT (t := mt_127) rfl 3 (f' := (13, [some (.ref 3)], [.int 3, .int (C.1 3)])) (h' := (HPf C M o, c, s)) rfl ?_
  by_cases hc750 : (C.1 3) = 3
  · replace h := (if_pos hc750).symm.trans h
    refine mv_E.go rfl (mi_icmp_pos hc750) ?_
    refine mv_E.rT (t := mt_127) rfl 2 (f' := (29, [some (.ref 3)], [.int 1])) (h' := (HPf C M o, c, s)) rfl ?_
    cases h
    exact mv_E.done rfl mi_zret1
  replace h := (if_neg hc750).symm.trans h
  refine mv_E.go rfl (mi_icmp_neg hc750) ?_
  refine mv_E.rT (t := mt_127) rfl 3 (f' := (21, [some (.ref 3)], [.int 5, .int (C.1 3)])) (h' := (HPf C M o, c, s)) rfl ?_
  by_cases hc749 : ¬ (C.1 3) = 5
  · replace h := (if_pos hc749).symm.trans h
    refine mv_E.go rfl (mi_icmp_pos hc749) ?_
    refine mv_E.rT (t := mt_127) rfl 1 (f' := (29, [some (.ref 3)], [.int 0])) (h' := (HPf C M o, c, s)) rfl ?_
    cases h
    exact mv_E.done rfl mi_zret0
  replace h := (if_neg hc749).symm.trans h
  refine mv_E.go rfl (mi_icmp_neg hc749) ?_
  refine mv_E.rT (t := mt_127) rfl 2 (f' := (29, [some (.ref 3)], [.int 1])) (h' := (HPf C M o, c, s)) rfl ?_
  cases h
  exact mv_E.done rfl mi_zret1
def f_117_15 (C : CS) (p0 : Int32) : Option (Int32) := (if p0 < 1 then some 0 else (if (C.1 14) < p0 then some 0 else if mv_in (p0 - 1) 1024 = true then some ((C.2 5) (p0 - 1).toNatClampNeg) else none))
theorem t_117_15 (L : Nat) (xs : Nat → Int32) {C M : CS} {o : Nat → Int64} {c s : Nat} {p0 : Int32} {ret : Int32} (h : f_117_15 C p0 = some ret) : mv_E (mp L xs) 117 (0, [some (.ref 15), some (.int p0)], []) (HPf C M o, c, s) ((.inl (some (.int ret)), (HPf C M o, c, s))) := by
  unfold f_117_15 at h
  refine mv_E.rT (t := mt_117) rfl 2 (f' := (2, [some (.ref 15), some (.int p0)], [.int 1, .int p0])) (h' := (HPf C M o, c, s)) rfl ?_
  by_cases hc754 : p0 < 1
  · replace h := (if_pos hc754).symm.trans h
    refine mv_E.go rfl (mi_icmp_pos hc754) ?_
    refine mv_E.rT (t := mt_117) rfl 1 (f' := (25, [some (.ref 15), some (.int p0)], [.int 0])) (h' := (HPf C M o, c, s)) rfl ?_
    cases h
    exact mv_E.done rfl rfl
  replace h := (if_neg hc754).symm.trans h
  refine mv_E.go rfl (mi_icmp_neg hc754) ?_
  refine mv_E.rT (t := mt_117) rfl 3 (f' := (10, [some (.ref 15), some (.int p0)], [.int (C.1 14), .int p0])) (h' := (HPf C M o, c, s)) rfl ?_
  by_cases hc753 : (C.1 14) < p0
  · replace h := (if_pos hc753).symm.trans h
    refine mv_E.go rfl (mi_icmp_pos hc753) ?_
    refine mv_E.rT (t := mt_117) rfl 1 (f' := (25, [some (.ref 15), some (.int p0)], [.int 0])) (h' := (HPf C M o, c, s)) rfl ?_
    cases h
    exact mv_E.done rfl rfl
  replace h := (if_neg hc753).symm.trans h
  refine mv_E.go rfl (mi_icmp_neg hc753) ?_
  refine mv_E.rT (t := mt_117) rfl 5 (f' := (20, [some (.ref 15), some (.int p0)], [.int (p0 - 1), .ref 17])) (h' := (HPf C M o, c, s)) rfl ?_
  by_cases hb752 : mv_in (p0 - 1) 1024 = true
  rotate_left
  · cases (if_neg hb752).symm.trans h
  replace h := (if_pos hb752).symm.trans h
  refine mv_E.go rfl (mi_iald_at rfl hb752) ?_
  refine mv_E.rT (t := mt_117) rfl 1 (f' := (25, [some (.ref 15), some (.int p0)], [.int ((C.2 5) (p0 - 1).toNatClampNeg)])) (h' := (HPf C M o, c, s)) rfl ?_
  cases h
  exact mv_E.done rfl rfl
def f_121_15 (C : CS) (p0 : Int32) : Option (Int32) := (if 1024 ≤ (C.1 14) then some 0 else (f_117_15 C (C.1 14)).bind fun r755 => (if (8192 - r755) < p0 then some 0 else some 1))
theorem t_121_15 (L : Nat) (xs : Nat → Int32) {C M : CS} {o : Nat → Int64} {c s : Nat} {p0 : Int32} {ret : Int32} (h : f_121_15 C p0 = some ret) : mv_E (mp L xs) 121 (0, [some (.ref 15), some (.int p0)], []) (HPf C M o, c, s) ((.inl (some (.int ret)), (HPf C M o, c, s))) := by
  unfold f_121_15 at h
  refine mv_E.rT (t := mt_121) rfl 5 (f' := (9, [some (.ref 15), some (.int p0)], [.int 1024, .int (C.1 14)])) (h' := (HPf C M o, c, s)) rfl ?_
  by_cases hc758 : 1024 ≤ (C.1 14)
  · replace h := (if_pos hc758).symm.trans h
    refine mv_E.go rfl (mi_icmp_pos hc758) ?_
    refine mv_E.rT (t := mt_121) rfl 1 (f' := (35, [some (.ref 15), some (.int p0)], [.int 0])) (h' := (HPf C M o, c, s)) rfl ?_
    cases h
    exact mv_E.done rfl mi_zret0
  replace h := (if_neg hc758).symm.trans h
  refine mv_E.go rfl (mi_icmp_neg hc758) ?_
  refine mv_E.rT (t := mt_121) rfl 7 (f' := (23, [some (.ref 15), some (.int p0)], [.int (C.1 14), .ref 15, .int 8192, .int p0])) (h' := (HPf C M o, c, s)) rfl ?_
  obtain ⟨r755, hr756, h⟩ := Option.bind_eq_some_iff.mp h
  refine mv_E.call (z := 117) (vs := [.ref 15, .int (C.1 14)]) (f' := (26, [some (.ref 15), some (.int p0)], [.int 8192, .int p0])) (h' := (HPf C M o, c, s)) rfl rfl rfl (t_117_15 L xs hr756) (mv_okl rfl) ?_
  refine mv_E.rT (t := mt_121) rfl 1 (f' := (27, [some (.ref 15), some (.int p0)], [.int (8192 - r755), .int p0])) (h' := (HPf C M o, c, s)) rfl ?_
  by_cases hc757 : (8192 - r755) < p0
  · replace h := (if_pos hc757).symm.trans h
    refine mv_E.go rfl (mi_icmp_pos hc757) ?_
    refine mv_E.rT (t := mt_121) rfl 1 (f' := (35, [some (.ref 15), some (.int p0)], [.int 0])) (h' := (HPf C M o, c, s)) rfl ?_
    cases h
    exact mv_E.done rfl mi_zret0
  replace h := (if_neg hc757).symm.trans h
  refine mv_E.go rfl (mi_icmp_neg hc757) ?_
  refine mv_E.rT (t := mt_121) rfl 2 (f' := (35, [some (.ref 15), some (.int p0)], [.int 1])) (h' := (HPf C M o, c, s)) rfl ?_
  cases h
  exact mv_E.done rfl mi_zret1
def f_122_15 (C : CS) (p0 : Int32) : Option (Int32 × CS) := (if p0 < 0 then some ((-1), C) else (if 2000 < p0 then some ((-1), C) else (f_121_15 C p0).bind fun r761 => (if ¬ r761 = 0 then (f_117_15 C (C.1 14)).bind fun r763 => if (¬ (0 : Int32) < 0 ∧ ¬ r763 < 0 ∧ ¬ p0 < 0) ∧ (0 : Int32).toNatClampNeg + p0.toNatClampNeg ≤ 2000 ∧ r763.toNatClampNeg + p0.toNatClampNeg ≤ 8192 then if mv_in (C.1 14) 1024 = true then some ((((C.1 14) + 1) - 1), (ru (C.1) 14 (((C.1 14) + 1)), ru (ru (C.2) 4 (va_cpy (C.2 1) (C.2 4) (0 : Int32).toNatClampNeg r763.toNatClampNeg p0.toNatClampNeg)) 5 (upd (C.2 5) (C.1 14).toNatClampNeg (r763 + p0)))) else none else none else some ((-1), C))))
theorem t_122_15 (L : Nat) (xs : Nat → Int32) {C M : CS} {o : Nat → Int64} {c s : Nat} {p0 : Int32} {ret : Int32 × CS} (h : f_122_15 C p0 = some ret) : mv_E (mp L xs) 122 (0, [some (.ref 15), some (.ref 4), some (.int p0), none], []) (HPf C M o, c, s) ((.inl (some (.int ret.1)), (HPf ret.2 M o, c, s))) := by
  unfold f_122_15 at h
  refine mv_E.rT (t := mt_122) rfl 1 (f' := (1, [some (.ref 15), some (.ref 4), some (.int p0), none], [.int p0])) (h' := (HPf C M o, c, s)) rfl ?_
  by_cases hc769 : p0 < 0
  · replace h := (if_pos hc769).symm.trans h
    refine mv_E.go rfl (mi_if_pos hc769) ?_
    refine mv_E.rT (t := mt_122) rfl 1 (f' := (19, [some (.ref 15), some (.ref 4), some (.int p0), none], [.int (-1)])) (h' := (HPf C M o, c, s)) rfl ?_
    cases h
    exact mv_E.done rfl rfl
  replace h := (if_neg hc769).symm.trans h
  refine mv_E.go rfl (mi_if_neg hc769) ?_
  refine mv_E.rT (t := mt_122) rfl 3 (f' := (7, [some (.ref 15), some (.ref 4), some (.int p0), none], [.int 2000, .int p0])) (h' := (HPf C M o, c, s)) rfl ?_
  by_cases hc768 : 2000 < p0
  · replace h := (if_pos hc768).symm.trans h
    refine mv_E.go rfl (mi_icmp_pos hc768) ?_
    refine mv_E.rT (t := mt_122) rfl 1 (f' := (19, [some (.ref 15), some (.ref 4), some (.int p0), none], [.int (-1)])) (h' := (HPf C M o, c, s)) rfl ?_
    cases h
    exact mv_E.done rfl rfl
  replace h := (if_neg hc768).symm.trans h
  refine mv_E.go rfl (mi_icmp_neg hc768) ?_
  refine mv_E.rT (t := mt_122) rfl 2 (f' := (12, [some (.ref 15), some (.ref 4), some (.int p0), none], [.int p0, .ref 15])) (h' := (HPf C M o, c, s)) rfl ?_
  obtain ⟨r761, hr762, h⟩ := Option.bind_eq_some_iff.mp h
  refine mv_E.call (z := 121) (vs := [.ref 15, .int p0]) (f' := (15, [some (.ref 15), some (.ref 4), some (.int p0), none], [])) (h' := (HPf C M o, c, s)) rfl rfl rfl (t_121_15 L xs hr762) (mv_okl rfl) ?_
  show mv_E (mp L xs) 122 (15, [some (.ref 15), some (.ref 4), some (.int p0), none], [.int r761]) (HPf C M o, c, s) _
  by_cases hc767 : ¬ r761 = 0
  · replace h := (if_pos hc767).symm.trans h
    refine mv_E.go rfl (mi_if_pos hc767) ?_
    refine mv_E.rT (t := mt_122) rfl 3 (f' := (25, [some (.ref 15), some (.ref 4), some (.int p0), none], [.int (C.1 14), .ref 15])) (h' := (HPf C M o, c, s)) rfl ?_
    obtain ⟨r763, hr764, h⟩ := Option.bind_eq_some_iff.mp h
    refine mv_E.call (z := 117) (vs := [.ref 15, .int (C.1 14)]) (f' := (28, [some (.ref 15), some (.ref 4), some (.int p0), none], [])) (h' := (HPf C M o, c, s)) rfl rfl rfl (t_117_15 L xs hr764) (mv_okl rfl) ?_
    refine mv_E.rT (t := mt_122) rfl 7 (f' := (37, [some (.ref 15), some (.ref 4), some (.int p0), some (.int r763)], [.int p0, .int r763, .ref 16, .int 0, .ref 4])) (h' := (HPf C M o, c, s)) rfl ?_
    by_cases hb765 : (¬ (0 : Int32) < 0 ∧ ¬ r763 < 0 ∧ ¬ p0 < 0) ∧ (0 : Int32).toNatClampNeg + p0.toNatClampNeg ≤ 2000 ∧ r763.toNatClampNeg + p0.toNatClampNeg ≤ 8192
    rotate_left
    · cases (if_neg hb765).symm.trans h
    replace h := (if_pos hb765).symm.trans h
    refine mv_E.go rfl (mi_copy_at rfl rfl hb765 (Nat.le_of_ble_eq_true rfl)) ?_
    refine mv_E.rT (t := mt_122) rfl 7 (f' := (51, [some (.ref 15), some (.ref 4), some (.int p0), some (.int r763)], [.int (r763 + p0), .int (C.1 14), .ref 17])) (h' := (HPf (C.1, ru (C.2) 4 (va_cpy (C.2 1) (C.2 4) (0 : Int32).toNatClampNeg r763.toNatClampNeg p0.toNatClampNeg)) M o, c, s)) rfl ?_
    by_cases hb766 : mv_in (C.1 14) 1024 = true
    rotate_left
    · cases (if_neg hb766).symm.trans h
    replace h := (if_pos hb766).symm.trans h
    refine mv_E.go rfl (mi_iast_at rfl hb766) ?_
    refine mv_E.rT (t := mt_122) rfl 10 (f' := (68, [some (.ref 15), some (.ref 4), some (.int p0), some (.int r763)], [.int (((C.1 14) + 1) - 1)])) (h' := (HPf (ru (C.1) 14 (((C.1 14) + 1)), ru (ru (C.2) 4 (va_cpy (C.2 1) (C.2 4) (0 : Int32).toNatClampNeg r763.toNatClampNeg p0.toNatClampNeg)) 5 (upd (C.2 5) (C.1 14).toNatClampNeg (r763 + p0))) M o, c, s)) rfl ?_
    cases h
    exact mv_E.done rfl rfl
  replace h := (if_neg hc767).symm.trans h
  refine mv_E.go rfl (mi_if_neg hc767) ?_
  refine mv_E.rT (t := mt_122) rfl 1 (f' := (19, [some (.ref 15), some (.ref 4), some (.int p0), none], [.int (-1)])) (h' := (HPf C M o, c, s)) rfl ?_
  cases h
  exact mv_E.done rfl rfl
def f_128 (C : CS) : Option ((Int32 ⊕ Nat) × CS) := (if (C.1 0) = 0 then some (.inr 1, C) else (if ¬ (f_127 C) = 0 then (f_121_15 C (C.1 10)).bind fun r759 => (if ¬ r759 = 0 then (f_122_15 C (C.1 10)).bind fun r770 => some (.inl r770.1, r770.2) else some (.inr 1, C)) else some (.inr 1, C)))
theorem t_128 (L : Nat) (xs : Nat → Int32) {C M : CS} {o : Nat → Int64} {c s : Nat} {ret : (Int32 ⊕ Nat) × CS} (h : f_128 C = some ret) : mv_E (mp L xs) 128 (0, [some (.ref 0)], []) (HPf C M o, c, s) (cvI M o c s ret) := by
  unfold f_128 at h
  refine mv_E.rT (t := mt_128) rfl 2 (f' := (4, [some (.ref 0)], [.int (C.1 0)])) (h' := (HPf C M o, c, s)) rfl ?_
  by_cases hc774 : (C.1 0) = 0
  · replace h := (if_pos hc774).symm.trans h
    refine mv_E.go rfl (mi_if_pos hc774) ?_
    show mv_E (mp L xs) 128 (17, [some (.ref 0)], []) (HPf C M o, c, s) _
    cases h
    exact mv_E.done rfl rfl
  replace h := (if_neg hc774).symm.trans h
  refine mv_E.go rfl (mi_if_neg hc774) ?_
  refine mv_E.rT (t := mt_128) rfl 2 (f' := (11, [some (.ref 0)], [.ref 3])) (h' := (HPf C M o, c, s)) rfl ?_
  refine mv_E.call (z := 127) (vs := [.ref 3]) (f' := (14, [some (.ref 0)], [])) (h' := (HPf C M o, c, s)) rfl rfl rfl (t_127 L xs rfl) (mv_okl rfl) ?_
  show mv_E (mp L xs) 128 (14, [some (.ref 0)], [.int (f_127 C)]) (HPf C M o, c, s) _
  by_cases hc773 : ¬ (f_127 C) = 0
  · replace h := (if_pos hc773).symm.trans h
    refine mv_E.go rfl (mi_if_pos hc773) ?_
    refine mv_E.rT (t := mt_128) rfl 5 (f' := (38, [some (.ref 0)], [.int (C.1 10), .ref 15])) (h' := (HPf C M o, c, s)) rfl ?_
    obtain ⟨r759, hr760, h⟩ := Option.bind_eq_some_iff.mp h
    refine mv_E.call (z := 121) (vs := [.ref 15, .int (C.1 10)]) (f' := (41, [some (.ref 0)], [])) (h' := (HPf C M o, c, s)) rfl rfl rfl (t_121_15 L xs hr760) (mv_okl rfl) ?_
    show mv_E (mp L xs) 128 (41, [some (.ref 0)], [.int r759]) (HPf C M o, c, s) _
    by_cases hc772 : ¬ r759 = 0
    · replace h := (if_pos hc772).symm.trans h
      refine mv_E.go rfl (mi_if_pos hc772) ?_
      refine mv_E.rT (t := mt_128) rfl 8 (f' := (72, [some (.ref 0)], [.int (C.1 10), .ref 4, .ref 15])) (h' := (HPf C M o, c, s)) rfl ?_
      obtain ⟨r770, hr771, h⟩ := Option.bind_eq_some_iff.mp h
      refine mv_E.call (z := 122) (vs := [.ref 15, .ref 4, .int (C.1 10)]) (f' := (75, [some (.ref 0)], [])) (h' := (HPf C M o, c, s)) rfl rfl rfl (t_122_15 L xs hr771) (mv_okl rfl) ?_
      show mv_E (mp L xs) 128 (75, [some (.ref 0)], [.int r770.1]) (HPf r770.2 M o, c, s) _
      cases h
      exact mv_E.done rfl rfl
    replace h := (if_neg hc772).symm.trans h
    refine mv_E.go rfl (mi_if_neg hc772) ?_
    show mv_E (mp L xs) 128 (44, [some (.ref 0)], []) (HPf C M o, c, s) _
    cases h
    exact mv_E.done rfl rfl
  replace h := (if_neg hc773).symm.trans h
  refine mv_E.go rfl (mi_if_neg hc773) ?_
  show mv_E (mp L xs) 128 (17, [some (.ref 0)], []) (HPf C M o, c, s) _
  cases h
  exact mv_E.done rfl rfl
