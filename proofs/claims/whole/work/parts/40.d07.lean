def f_69 (M : CS) (p0 : Int32) : Option (CS) := (if 0 ≤ (M.1 4) then some (ru (M.1) 4 (M.1 4), M.2) else some (ru (M.1) 4 (p0), M.2))
theorem t_69 (L : Nat) (xs : Nat → Int32) {C M : CS} {o : Nat → Int64} {c s : Nat} {p0 : Int32} {ret : CS} (h : f_69 M p0 = some ret) : mv_E (mp L xs) 69 (0, [some (.ref 18), some (.int p0)], []) (HPf C M o, c, s) ((.inl none, (HPf C ret o, c, s))) := by
  unfold f_69 at h
  refine mv_E.rT (t := mt_69) rfl 3 (f' := (5, [some (.ref 18), some (.int p0)], [.int (M.1 4), .ref 18])) (h' := (HPf C M o, c, s)) rfl ?_
  by_cases hc888 : 0 ≤ (M.1 4)
  · replace h := (if_pos hc888).symm.trans h
    refine mv_E.go rfl (mi_if_pos hc888) ?_
    refine mv_E.rT (t := mt_69) rfl 3 (f' := (19, [some (.ref 18), some (.int p0)], [])) (h' := (HPf C (ru (M.1) 4 (M.1 4), M.2) o, c, s)) rfl ?_
    cases h
    exact mv_E.done rfl rfl
  replace h := (if_neg hc888).symm.trans h
  refine mv_E.go rfl (mi_if_neg hc888) ?_
  refine mv_E.rT (t := mt_69) rfl 3 (f' := (19, [some (.ref 18), some (.int p0)], [])) (h' := (HPf C (ru (M.1) 4 (p0), M.2) o, c, s)) rfl ?_
  cases h
  exact mv_E.done rfl rfl
def b_70_131 (M : CS) (l2 : Int32) : Option (Int32 × CS) := (if ¬ l2 = (M.1 1) then some ((l2 + 2), M) else (f_69 M (M.1 1)).bind fun r889 => some ((l2 + 2), r889))
theorem tb_70_131 (L : Nat) (xs : Nat → Int32) (C : CS) (o : Nat → Int64) (c s : Nat) (M : CS) (l2 : Int32) (d1 : Option Int32) (ret : Int32 × CS) (h : b_70_131 M l2 = some ret) : mv_E (mp L xs) 70 (131, [some (.ref 18), d1.map .int, some (.int l2)], []) (HPf C M o, c, s) ((.inl (some (.int ret.1)), (HPf C ret.2 o, c, s))) := by
  unfold b_70_131 at h
  refine mv_E.rT (t := mt_70) rfl 3 (f' := (136, [some (.ref 18), d1.map .int, some (.int l2)], [.int (M.1 1), .int l2])) (h' := (HPf C M o, c, s)) rfl ?_
  by_cases hc894 : ¬ l2 = (M.1 1)
  · replace h := (if_pos hc894).symm.trans h
    refine mv_E.go rfl (mi_icmp_pos hc894) ?_
    refine mv_E.rT (t := mt_70) rfl 3 (f' := (150, [some (.ref 18), d1.map .int, some (.int l2)], [.int (l2 + 2)])) (h' := (HPf C M o, c, s)) rfl ?_
    cases h
    exact mv_E.done rfl rfl
  replace h := (if_neg hc894).symm.trans h
  refine mv_E.go rfl (mi_icmp_neg hc894) ?_
  refine mv_E.rT (t := mt_70) rfl 3 (f' := (144, [some (.ref 18), d1.map .int, some (.int l2)], [.int (M.1 1), .ref 18])) (h' := (HPf C M o, c, s)) rfl ?_
  obtain ⟨r892, hr893, h⟩ := Option.bind_eq_some_iff.mp h
  refine mv_E.call (z := 69) (vs := [.ref 18, .int (M.1 1)]) (f' := (147, [some (.ref 18), d1.map .int, some (.int l2)], [])) (h' := (HPf C M o, c, s)) rfl rfl rfl (t_69 L xs hr893) (mv_okl rfl) ?_
  refine mv_E.rT (t := mt_70) rfl 3 (f' := (150, [some (.ref 18), d1.map .int, some (.int l2)], [.int (l2 + 2)])) (h' := (HPf C r892 o, c, s)) rfl ?_
  cases h
  exact mv_E.done rfl rfl
def b_70_122 (k_70 : CS → Int32 → Option (Int32 × CS)) (M : CS) (l2 : Int32) (s0 : Int32) : Option (Int32 × CS) := k_70 (ru (M.1) 8 (s0), M.2) (l2 + 1)
theorem tb_70_122 (L : Nat) (xs : Nat → Int32) (C : CS) (o : Nat → Int64) (c s : Nat) (M : CS) (k_70 : CS → Int32 → Option (Int32 × CS)) (hk_70 : ∀ (M : CS) (l2 : Int32) (d1 : Option Int32) (ret : Int32 × CS), k_70 M l2 = some ret → mv_E (mp L xs) 70 (70, [some (.ref 18), d1.map .int, some (.int l2)], []) (HPf C M o, c, s) ((.inl (some (.int ret.1)), (HPf C ret.2 o, c, s)))) (l2 : Int32) (s0 : Int32) (d1 : Option Int32) (ret : Int32 × CS) (h : b_70_122 k_70 M l2 s0 = some ret) : mv_E (mp L xs) 70 (122, [some (.ref 18), d1.map .int, some (.int l2)], [.int s0, .ref 18]) (HPf C M o, c, s) ((.inl (some (.int ret.1)), (HPf C ret.2 o, c, s))) := by
  unfold b_70_122 at h
  rcases d1 with _ | d1
  · refine mv_E.rT (t := mt_70) rfl 3 (f' := (70, [some (.ref 18), none, some (.int (l2 + 1))], [])) (h' := (HPf C (ru (M.1) 8 (s0), M.2) o, c, s)) rfl ?_
    exact hk_70 (ru (M.1) 8 (s0), M.2) (l2 + 1) none _ h
  · refine mv_E.rT (t := mt_70) rfl 3 (f' := (70, [some (.ref 18), some (.int d1), some (.int (l2 + 1))], [])) (h' := (HPf C (ru (M.1) 8 (s0), M.2) o, c, s)) rfl ?_
    exact hk_70 (ru (M.1) 8 (s0), M.2) (l2 + 1) (some d1) _ h
def b_70_101 (k_70 : CS → Int32 → Option (Int32 × CS)) (M : CS) (l2 : Int32) : Option (Int32 × CS) := if mv_in l2 2000 = true then (if (f_68 ((M.2 0) l2.toNatClampNeg)) = 0 then b_70_122 k_70 M l2 (M.1 8) else b_70_122 k_70 M l2 1) else none
theorem tb_70_101 (L : Nat) (xs : Nat → Int32) (C : CS) (o : Nat → Int64) (c s : Nat) (M : CS) (k_70 : CS → Int32 → Option (Int32 × CS)) (hk_70 : ∀ (M : CS) (l2 : Int32) (d1 : Option Int32) (ret : Int32 × CS), k_70 M l2 = some ret → mv_E (mp L xs) 70 (70, [some (.ref 18), d1.map .int, some (.int l2)], []) (HPf C M o, c, s) ((.inl (some (.int ret.1)), (HPf C ret.2 o, c, s)))) (l2 : Int32) (d1 : Option Int32) (ret : Int32 × CS) (h : b_70_101 k_70 M l2 = some ret) : mv_E (mp L xs) 70 (101, [some (.ref 18), d1.map .int, some (.int l2)], []) (HPf C M o, c, s) ((.inl (some (.int ret.1)), (HPf C ret.2 o, c, s))) := by
  unfold b_70_101 at h
  refine mv_E.rT (t := mt_70) rfl 4 (f' := (107, [some (.ref 18), d1.map .int, some (.int l2)], [.int l2, .ref 19, .ref 18])) (h' := (HPf C M o, c, s)) rfl ?_
  by_cases hb898 : mv_in l2 2000 = true
  rotate_left
  · cases (if_neg hb898).symm.trans h
  replace h := (if_pos hb898).symm.trans h
  refine mv_E.go rfl (mi_iald_at rfl hb898) ?_
  show mv_E (mp L xs) 70 (108, [some (.ref 18), d1.map .int, some (.int l2)], [.int ((M.2 0) l2.toNatClampNeg), .ref 18]) (HPf C M o, c, s) _
  refine mv_E.call (z := 68) (vs := [.int ((M.2 0) l2.toNatClampNeg)]) (f' := (111, [some (.ref 18), d1.map .int, some (.int l2)], [.ref 18])) (h' := (HPf C M o, c, s)) rfl rfl rfl (t_68 L xs rfl) (mv_okl rfl) ?_
  show mv_E (mp L xs) 70 (111, [some (.ref 18), d1.map .int, some (.int l2)], [.int (f_68 ((M.2 0) l2.toNatClampNeg)), .ref 18]) (HPf C M o, c, s) _
  by_cases hc899 : (f_68 ((M.2 0) l2.toNatClampNeg)) = 0
  · replace h := (if_pos hc899).symm.trans h
    refine mv_E.go rfl (mi_if_pos hc899) ?_
    refine mv_E.rT (t := mt_70) rfl 2 (f' := (122, [some (.ref 18), d1.map .int, some (.int l2)], [.int (M.1 8), .ref 18])) (h' := (HPf C M o, c, s)) rfl ?_
    exact tb_70_122 L xs C o c s M k_70 hk_70 l2 (M.1 8) d1 _ h
  replace h := (if_neg hc899).symm.trans h
  refine mv_E.go rfl (mi_if_neg hc899) ?_
  refine mv_E.rT (t := mt_70) rfl 2 (f' := (122, [some (.ref 18), d1.map .int, some (.int l2)], [.int 1, .ref 18])) (h' := (HPf C M o, c, s)) rfl ?_
  exact tb_70_122 L xs C o c s M k_70 hk_70 l2 1 d1 _ h
def b_70_70 : Nat → CS → Int32 → Option (Int32 × CS)
  | 0, _, _ => none
  | n + 1, M, l2 => (if (M.1 1) ≤ l2 then b_70_131 M l2 else if mv_in l2 2000 = true then (if ¬ ((M.2 0) l2.toNatClampNeg) = 42 then b_70_101 (b_70_70 n) M l2 else (f_66 M (l2 + 1)).bind fun r900 => (if r900 = 47 then b_70_131 M l2 else b_70_101 (b_70_70 n) M l2)) else none)
theorem tb_70_70 (L : Nat) (xs : Nat → Int32) (C : CS) (o : Nat → Int64) (c s : Nat) : ∀ (n : Nat) (M : CS) (l2 : Int32) (d1 : Option Int32) (ret : Int32 × CS), b_70_70 n M l2 = some ret → mv_E (mp L xs) 70 (70, [some (.ref 18), d1.map .int, some (.int l2)], []) (HPf C M o, c, s) ((.inl (some (.int ret.1)), (HPf C ret.2 o, c, s))) := by
  intro n
  induction n with
  | zero => intro M l2 d1 ret h; rw [b_70_70] at h; cases h
  | succ n ih =>
    intro M l2 d1 ret h
    rw [b_70_70] at h
    refine mv_E.rT (t := mt_70) rfl 3 (f' := (75, [some (.ref 18), d1.map .int, some (.int l2)], [.int (M.1 1), .int l2])) (h' := (HPf C M o, c, s)) rfl ?_
    by_cases hc910 : (M.1 1) ≤ l2
    · replace h := (if_pos hc910).symm.trans h
      refine mv_E.go rfl (mi_icmp_pos hc910) ?_
      show mv_E (mp L xs) 70 (131, [some (.ref 18), d1.map .int, some (.int l2)], []) (HPf C M o, c, s) _
      exact tb_70_131 L xs C o c s M l2 d1 _ h
    replace h := (if_neg hc910).symm.trans h
    refine mv_E.go rfl (mi_icmp_neg hc910) ?_
    refine mv_E.rT (t := mt_70) rfl 3 (f' := (83, [some (.ref 18), d1.map .int, some (.int l2)], [.int l2, .ref 19])) (h' := (HPf C M o, c, s)) rfl ?_
    by_cases hb905 : mv_in l2 2000 = true
    rotate_left
    · cases (if_neg hb905).symm.trans h
    replace h := (if_pos hb905).symm.trans h
    refine mv_E.go rfl (mi_iald_at rfl hb905) ?_
    refine mv_E.rT (t := mt_70) rfl 1 (f' := (86, [some (.ref 18), d1.map .int, some (.int l2)], [.int 42, .int ((M.2 0) l2.toNatClampNeg)])) (h' := (HPf C M o, c, s)) rfl ?_
    by_cases hc909 : ¬ ((M.2 0) l2.toNatClampNeg) = 42
    · replace h := (if_pos hc909).symm.trans h
      refine mv_E.go rfl (mi_icmp_pos hc909) ?_
      show mv_E (mp L xs) 70 (101, [some (.ref 18), d1.map .int, some (.int l2)], []) (HPf C M o, c, s) _
      exact tb_70_101 L xs C o c s M (b_70_70 n) ih l2 d1 _ h
    replace h := (if_neg hc909).symm.trans h
    refine mv_E.go rfl (mi_icmp_neg hc909) ?_
    refine mv_E.rT (t := mt_70) rfl 4 (f' := (93, [some (.ref 18), d1.map .int, some (.int l2)], [.int (l2 + 1), .ref 18])) (h' := (HPf C M o, c, s)) rfl ?_
    obtain ⟨r906, hr907, h⟩ := Option.bind_eq_some_iff.mp h
    refine mv_E.call (z := 66) (vs := [.ref 18, .int (l2 + 1)]) (f' := (96, [some (.ref 18), d1.map .int, some (.int l2)], [])) (h' := (HPf C M o, c, s)) rfl rfl rfl (t_66 L xs hr907) (mv_okl rfl) ?_
    refine mv_E.rT (t := mt_70) rfl 1 (f' := (98, [some (.ref 18), d1.map .int, some (.int l2)], [.int 47, .int r906])) (h' := (HPf C M o, c, s)) rfl ?_
    by_cases hc908 : r906 = 47
    · replace h := (if_pos hc908).symm.trans h
      refine mv_E.go rfl (mi_icmp_pos hc908) ?_
      show mv_E (mp L xs) 70 (131, [some (.ref 18), d1.map .int, some (.int l2)], []) (HPf C M o, c, s) _
      exact tb_70_131 L xs C o c s M l2 d1 _ h
    replace h := (if_neg hc908).symm.trans h
    refine mv_E.go rfl (mi_icmp_neg hc908) ?_
    show mv_E (mp L xs) 70 (101, [some (.ref 18), d1.map .int, some (.int l2)], []) (HPf C M o, c, s) _
    exact tb_70_101 L xs C o c s M (b_70_70 n) ih l2 d1 _ h
def b_70_28 : Nat → CS → Int32 → Option (Int32 × CS)
  | 0, _, _ => none
  | n + 1, M, l2 => (if (M.1 1) ≤ l2 then some (l2, M) else if mv_in l2 2000 = true then (if ¬ (f_68 ((M.2 0) l2.toNatClampNeg)) = 0 then some (l2, M) else (b_70_28 n) M (l2 + 1)) else none)
theorem tb_70_28 (L : Nat) (xs : Nat → Int32) (C : CS) (o : Nat → Int64) (c s : Nat) : ∀ (n : Nat) (M : CS) (l2 : Int32) (d1 : Option Int32) (ret : Int32 × CS), b_70_28 n M l2 = some ret → mv_E (mp L xs) 70 (28, [some (.ref 18), d1.map .int, some (.int l2)], []) (HPf C M o, c, s) ((.inl (some (.int ret.1)), (HPf C ret.2 o, c, s))) := by
  intro n
  induction n with
  | zero => intro M l2 d1 ret h; rw [b_70_28] at h; cases h
  | succ n ih =>
    intro M l2 d1 ret h
    rw [b_70_28] at h
    rcases d1 with _ | d1
    · refine mv_E.rT (t := mt_70) rfl 3 (f' := (33, [some (.ref 18), none, some (.int l2)], [.int (M.1 1), .int l2])) (h' := (HPf C M o, c, s)) rfl ?_
      by_cases hc917 : (M.1 1) ≤ l2
      · replace h := (if_pos hc917).symm.trans h
        refine mv_E.go rfl (mi_icmp_pos hc917) ?_
        refine mv_E.rT (t := mt_70) rfl 1 (f' := (55, [some (.ref 18), none, some (.int l2)], [.int l2])) (h' := (HPf C M o, c, s)) rfl ?_
        cases h
        exact mv_E.done rfl rfl
      replace h := (if_neg hc917).symm.trans h
      refine mv_E.go rfl (mi_icmp_neg hc917) ?_
      refine mv_E.rT (t := mt_70) rfl 3 (f' := (41, [some (.ref 18), none, some (.int l2)], [.int l2, .ref 19])) (h' := (HPf C M o, c, s)) rfl ?_
      by_cases hb915 : mv_in l2 2000 = true
      rotate_left
      · cases (if_neg hb915).symm.trans h
      replace h := (if_pos hb915).symm.trans h
      refine mv_E.go rfl (mi_iald_at rfl hb915) ?_
      show mv_E (mp L xs) 70 (42, [some (.ref 18), none, some (.int l2)], [.int ((M.2 0) l2.toNatClampNeg)]) (HPf C M o, c, s) _
      refine mv_E.call (z := 68) (vs := [.int ((M.2 0) l2.toNatClampNeg)]) (f' := (45, [some (.ref 18), none, some (.int l2)], [])) (h' := (HPf C M o, c, s)) rfl rfl rfl (t_68 L xs rfl) (mv_okl rfl) ?_
      show mv_E (mp L xs) 70 (45, [some (.ref 18), none, some (.int l2)], [.int (f_68 ((M.2 0) l2.toNatClampNeg))]) (HPf C M o, c, s) _
      by_cases hc916 : ¬ (f_68 ((M.2 0) l2.toNatClampNeg)) = 0
      · replace h := (if_pos hc916).symm.trans h
        refine mv_E.go rfl (mi_if_pos hc916) ?_
        refine mv_E.rT (t := mt_70) rfl 1 (f' := (55, [some (.ref 18), none, some (.int l2)], [.int l2])) (h' := (HPf C M o, c, s)) rfl ?_
        cases h
        exact mv_E.done rfl rfl
      replace h := (if_neg hc916).symm.trans h
      refine mv_E.go rfl (mi_if_neg hc916) ?_
      refine mv_E.rT (t := mt_70) rfl 2 (f' := (28, [some (.ref 18), none, some (.int (l2 + 1))], [])) (h' := (HPf C M o, c, s)) rfl ?_
      exact ih M (l2 + 1) none _ h
    · refine mv_E.rT (t := mt_70) rfl 3 (f' := (33, [some (.ref 18), some (.int d1), some (.int l2)], [.int (M.1 1), .int l2])) (h' := (HPf C M o, c, s)) rfl ?_
      by_cases hc920 : (M.1 1) ≤ l2
      · replace h := (if_pos hc920).symm.trans h
        refine mv_E.go rfl (mi_icmp_pos hc920) ?_
        refine mv_E.rT (t := mt_70) rfl 1 (f' := (55, [some (.ref 18), some (.int d1), some (.int l2)], [.int l2])) (h' := (HPf C M o, c, s)) rfl ?_
        cases h
        exact mv_E.done rfl rfl
      replace h := (if_neg hc920).symm.trans h
      refine mv_E.go rfl (mi_icmp_neg hc920) ?_
      refine mv_E.rT (t := mt_70) rfl 3 (f' := (41, [some (.ref 18), some (.int d1), some (.int l2)], [.int l2, .ref 19])) (h' := (HPf C M o, c, s)) rfl ?_
      by_cases hb918 : mv_in l2 2000 = true
      rotate_left
      · cases (if_neg hb918).symm.trans h
      replace h := (if_pos hb918).symm.trans h
      refine mv_E.go rfl (mi_iald_at rfl hb918) ?_
      show mv_E (mp L xs) 70 (42, [some (.ref 18), some (.int d1), some (.int l2)], [.int ((M.2 0) l2.toNatClampNeg)]) (HPf C M o, c, s) _
      refine mv_E.call (z := 68) (vs := [.int ((M.2 0) l2.toNatClampNeg)]) (f' := (45, [some (.ref 18), some (.int d1), some (.int l2)], [])) (h' := (HPf C M o, c, s)) rfl rfl rfl (t_68 L xs rfl) (mv_okl rfl) ?_
      show mv_E (mp L xs) 70 (45, [some (.ref 18), some (.int d1), some (.int l2)], [.int (f_68 ((M.2 0) l2.toNatClampNeg))]) (HPf C M o, c, s) _
      by_cases hc919 : ¬ (f_68 ((M.2 0) l2.toNatClampNeg)) = 0
      · replace h := (if_pos hc919).symm.trans h
        refine mv_E.go rfl (mi_if_pos hc919) ?_
        refine mv_E.rT (t := mt_70) rfl 1 (f' := (55, [some (.ref 18), some (.int d1), some (.int l2)], [.int l2])) (h' := (HPf C M o, c, s)) rfl ?_
        cases h
        exact mv_E.done rfl rfl
      replace h := (if_neg hc919).symm.trans h
      refine mv_E.go rfl (mi_if_neg hc919) ?_
      refine mv_E.rT (t := mt_70) rfl 2 (f' := (28, [some (.ref 18), some (.int d1), some (.int (l2 + 1))], [])) (h' := (HPf C M o, c, s)) rfl ?_
      exact ih M (l2 + 1) (some d1) _ h
def f_70 (M : CS) (p0 : Int32) : Option (Int32 × CS) := (f_66 M p0).bind fun r882 => (if r882 = 47 then (f_66 M (p0 + 1)).bind fun r884 => (if ¬ r884 = 47 then (f_66 M (p0 + 1)).bind fun r886 => (if r886 = 42 then b_70_70 fu M (p0 + 2) else some (p0, M)) else b_70_28 fu M (p0 + 2)) else some (p0, M))
theorem t_70 (L : Nat) (xs : Nat → Int32) {C M : CS} {o : Nat → Int64} {c s : Nat} {p0 : Int32} {ret : Int32 × CS} (h : f_70 M p0 = some ret) : mv_E (mp L xs) 70 (0, [some (.ref 18), some (.int p0), none], []) (HPf C M o, c, s) ((.inl (some (.int ret.1)), (HPf C ret.2 o, c, s))) := by
  unfold f_70 at h
  refine mv_E.rT (t := mt_70) rfl 2 (f' := (2, [some (.ref 18), some (.int p0), none], [.int p0, .ref 18])) (h' := (HPf C M o, c, s)) rfl ?_
  obtain ⟨r882, hr883, h⟩ := Option.bind_eq_some_iff.mp h
  refine mv_E.call (z := 66) (vs := [.ref 18, .int p0]) (f' := (5, [some (.ref 18), some (.int p0), none], [])) (h' := (HPf C M o, c, s)) rfl rfl rfl (t_66 L xs hr883) (mv_okl rfl) ?_
  refine mv_E.rT (t := mt_70) rfl 1 (f' := (7, [some (.ref 18), some (.int p0), none], [.int 47, .int r882])) (h' := (HPf C M o, c, s)) rfl ?_
  by_cases hc922 : r882 = 47
  · replace h := (if_pos hc922).symm.trans h
    refine mv_E.go rfl (mi_icmp_pos hc922) ?_
    refine mv_E.rT (t := mt_70) rfl 8 (f' := (20, [some (.ref 18), some (.int p0), some (.int (p0 + 2))], [.int (p0 + 1), .ref 18])) (h' := (HPf C M o, c, s)) rfl ?_
    obtain ⟨r884, hr885, h⟩ := Option.bind_eq_some_iff.mp h
    refine mv_E.call (z := 66) (vs := [.ref 18, .int (p0 + 1)]) (f' := (23, [some (.ref 18), some (.int p0), some (.int (p0 + 2))], [])) (h' := (HPf C M o, c, s)) rfl rfl rfl (t_66 L xs hr885) (mv_okl rfl) ?_
    refine mv_E.rT (t := mt_70) rfl 1 (f' := (25, [some (.ref 18), some (.int p0), some (.int (p0 + 2))], [.int 47, .int r884])) (h' := (HPf C M o, c, s)) rfl ?_
    by_cases hc921 : ¬ r884 = 47
    · replace h := (if_pos hc921).symm.trans h
      refine mv_E.go rfl (mi_icmp_pos hc921) ?_
      refine mv_E.rT (t := mt_70) rfl 4 (f' := (60, [some (.ref 18), some (.int p0), some (.int (p0 + 2))], [.int (p0 + 1), .ref 18])) (h' := (HPf C M o, c, s)) rfl ?_
      obtain ⟨r886, hr887, h⟩ := Option.bind_eq_some_iff.mp h
      refine mv_E.call (z := 66) (vs := [.ref 18, .int (p0 + 1)]) (f' := (63, [some (.ref 18), some (.int p0), some (.int (p0 + 2))], [])) (h' := (HPf C M o, c, s)) rfl rfl rfl (t_66 L xs hr887) (mv_okl rfl) ?_
      refine mv_E.rT (t := mt_70) rfl 1 (f' := (65, [some (.ref 18), some (.int p0), some (.int (p0 + 2))], [.int 42, .int r886])) (h' := (HPf C M o, c, s)) rfl ?_
      by_cases hc911 : r886 = 42
      · replace h := (if_pos hc911).symm.trans h
        refine mv_E.go rfl (mi_icmp_pos hc911) ?_
        show mv_E (mp L xs) 70 (70, [some (.ref 18), some (.int p0), some (.int (p0 + 2))], []) (HPf C M o, c, s) _
        exact tb_70_70 L xs C o c s fu M (p0 + 2) (some p0) _ h
      replace h := (if_neg hc911).symm.trans h
      refine mv_E.go rfl (mi_icmp_neg hc911) ?_
      refine mv_E.rT (t := mt_70) rfl 1 (f' := (69, [some (.ref 18), some (.int p0), some (.int (p0 + 2))], [.int p0])) (h' := (HPf C M o, c, s)) rfl ?_
      cases h
      exact mv_E.done rfl rfl
    replace h := (if_neg hc921).symm.trans h
    refine mv_E.go rfl (mi_icmp_neg hc921) ?_
    show mv_E (mp L xs) 70 (28, [some (.ref 18), some (.int p0), some (.int (p0 + 2))], []) (HPf C M o, c, s) _
    exact tb_70_28 L xs C o c s fu M (p0 + 2) (some p0) _ h
  replace h := (if_neg hc922).symm.trans h
  refine mv_E.go rfl (mi_icmp_neg hc922) ?_
  refine mv_E.rT (t := mt_70) rfl 1 (f' := (11, [some (.ref 18), some (.int p0), none], [.int p0])) (h' := (HPf C M o, c, s)) rfl ?_
  cases h
  exact mv_E.done rfl rfl
def b_71_79 (k_27 : CS → Int32 → Option (CS)) (k_7 : CS → Int32 → Option (CS)) (M : CS) (l1 : Int32) (s0 : Int32) : Option (CS) := k_27 (ru (ru (M.1) 8 (s0)) 5 (((M.1 5) + 1)), M.2) l1
theorem tb_71_79 (L : Nat) (xs : Nat → Int32) (C : CS) (o : Nat → Int64) (c s : Nat) (M : CS) (k_27 : CS → Int32 → Option (CS)) (k_7 : CS → Int32 → Option (CS)) (hk_27 : ∀ (M : CS) (l1 : Int32) (ret : CS), k_27 M l1 = some ret → mv_E (mp L xs) 71 (27, [some (.ref 18), some (.int l1)], []) (HPf C M o, c, s) ((.inl none, (HPf C ret o, c, s)))) (hk_7 : ∀ (M : CS) (l1 : Int32) (ret : CS), k_7 M l1 = some ret → mv_E (mp L xs) 71 (7, [some (.ref 18), some (.int l1)], []) (HPf C M o, c, s) ((.inl none, (HPf C ret o, c, s)))) (l1 : Int32) (s0 : Int32) (ret : CS) (h : b_71_79 k_27 k_7 M l1 s0 = some ret) : mv_E (mp L xs) 71 (79, [some (.ref 18), some (.int l1)], [.int s0, .ref 18]) (HPf C M o, c, s) ((.inl none, (HPf C ret o, c, s))) := by
  unfold b_71_79 at h
  refine mv_E.rT (t := mt_71) rfl 8 (f' := (27, [some (.ref 18), some (.int l1)], [])) (h' := (HPf C (ru (ru (M.1) 8 (s0)) 5 (((M.1 5) + 1)), M.2) o, c, s)) rfl ?_
  exact hk_27 (ru (ru (M.1) 8 (s0)) 5 (((M.1 5) + 1)), M.2) l1 _ h
def b_71_55 (k_27 : CS → Int32 → Option (CS)) (k_7 : CS → Int32 → Option (CS)) (M : CS) (l1 : Int32) : Option (CS) := if mv_in (M.1 5) 2000 = true then (if (f_68 ((M.2 0) (M.1 5).toNatClampNeg)) = 0 then b_71_79 k_27 k_7 M l1 (M.1 8) else b_71_79 k_27 k_7 M l1 1) else none
theorem tb_71_55 (L : Nat) (xs : Nat → Int32) (C : CS) (o : Nat → Int64) (c s : Nat) (M : CS) (k_27 : CS → Int32 → Option (CS)) (k_7 : CS → Int32 → Option (CS)) (hk_27 : ∀ (M : CS) (l1 : Int32) (ret : CS), k_27 M l1 = some ret → mv_E (mp L xs) 71 (27, [some (.ref 18), some (.int l1)], []) (HPf C M o, c, s) ((.inl none, (HPf C ret o, c, s)))) (hk_7 : ∀ (M : CS) (l1 : Int32) (ret : CS), k_7 M l1 = some ret → mv_E (mp L xs) 71 (7, [some (.ref 18), some (.int l1)], []) (HPf C M o, c, s) ((.inl none, (HPf C ret o, c, s)))) (l1 : Int32) (ret : CS) (h : b_71_55 k_27 k_7 M l1 = some ret) : mv_E (mp L xs) 71 (55, [some (.ref 18), some (.int l1)], []) (HPf C M o, c, s) ((.inl none, (HPf C ret o, c, s))) := by
  unfold b_71_55 at h
  refine mv_E.rT (t := mt_71) rfl 5 (f' := (64, [some (.ref 18), some (.int l1)], [.int (M.1 5), .ref 19, .ref 18])) (h' := (HPf C M o, c, s)) rfl ?_
  by_cases hb878 : mv_in (M.1 5) 2000 = true
  rotate_left
  · cases (if_neg hb878).symm.trans h
  replace h := (if_pos hb878).symm.trans h
  refine mv_E.go rfl (mi_iald_at rfl hb878) ?_
  show mv_E (mp L xs) 71 (65, [some (.ref 18), some (.int l1)], [.int ((M.2 0) (M.1 5).toNatClampNeg), .ref 18]) (HPf C M o, c, s) _
  refine mv_E.call (z := 68) (vs := [.int ((M.2 0) (M.1 5).toNatClampNeg)]) (f' := (68, [some (.ref 18), some (.int l1)], [.ref 18])) (h' := (HPf C M o, c, s)) rfl rfl rfl (t_68 L xs rfl) (mv_okl rfl) ?_
  show mv_E (mp L xs) 71 (68, [some (.ref 18), some (.int l1)], [.int (f_68 ((M.2 0) (M.1 5).toNatClampNeg)), .ref 18]) (HPf C M o, c, s) _
  by_cases hc879 : (f_68 ((M.2 0) (M.1 5).toNatClampNeg)) = 0
  · replace h := (if_pos hc879).symm.trans h
    refine mv_E.go rfl (mi_if_pos hc879) ?_
    refine mv_E.rT (t := mt_71) rfl 2 (f' := (79, [some (.ref 18), some (.int l1)], [.int (M.1 8), .ref 18])) (h' := (HPf C M o, c, s)) rfl ?_
    exact tb_71_79 L xs C o c s M k_27 k_7 hk_27 hk_7 l1 (M.1 8) _ h
  replace h := (if_neg hc879).symm.trans h
  refine mv_E.go rfl (mi_if_neg hc879) ?_
  refine mv_E.rT (t := mt_71) rfl 2 (f' := (79, [some (.ref 18), some (.int l1)], [.int 1, .ref 18])) (h' := (HPf C M o, c, s)) rfl ?_
  exact tb_71_79 L xs C o c s M k_27 k_7 hk_27 hk_7 l1 1 _ h
def b_71_27 (k_7 : CS → Int32 → Option (CS)) : Nat → CS → Int32 → Option (CS)
  | 0, _, _ => none
  | n + 1, M, l1 => (f_66 M (M.1 5)).bind fun r867 => (if ¬ (f_67 r867) = 0 then b_71_55 (b_71_27 k_7 n) k_7 M l1 else (f_66 M (M.1 5)).bind fun r880 => (if (f_68 r880) = 0 then (f_70 M (M.1 5)).bind fun r923 => k_7 (ru (r923.2.1) 5 (r923.1), r923.2.2) l1 else b_71_55 (b_71_27 k_7 n) k_7 M l1))
theorem tb_71_27 (L : Nat) (xs : Nat → Int32) (C : CS) (o : Nat → Int64) (c s : Nat) (k_7 : CS → Int32 → Option (CS)) (hk_7 : ∀ (M : CS) (l1 : Int32) (ret : CS), k_7 M l1 = some ret → mv_E (mp L xs) 71 (7, [some (.ref 18), some (.int l1)], []) (HPf C M o, c, s) ((.inl none, (HPf C ret o, c, s)))) : ∀ (n : Nat) (M : CS) (l1 : Int32) (ret : CS), b_71_27 k_7 n M l1 = some ret → mv_E (mp L xs) 71 (27, [some (.ref 18), some (.int l1)], []) (HPf C M o, c, s) ((.inl none, (HPf C ret o, c, s))) := by
  intro n
  induction n with
  | zero => intro M l1 ret h; rw [b_71_27] at h; cases h
  | succ n ih =>
    intro M l1 ret h
    rw [b_71_27] at h
    refine mv_E.rT (t := mt_71) rfl 3 (f' := (32, [some (.ref 18), some (.int l1)], [.int (M.1 5), .ref 18])) (h' := (HPf C M o, c, s)) rfl ?_
    obtain ⟨r927, hr928, h⟩ := Option.bind_eq_some_iff.mp h
    refine mv_E.call (z := 66) (vs := [.ref 18, .int (M.1 5)]) (f' := (35, [some (.ref 18), some (.int l1)], [])) (h' := (HPf C M o, c, s)) rfl rfl rfl (t_66 L xs hr928) (mv_okl rfl) ?_
    show mv_E (mp L xs) 71 (35, [some (.ref 18), some (.int l1)], [.int r927]) (HPf C M o, c, s) _
    refine mv_E.call (z := 67) (vs := [.int r927]) (f' := (38, [some (.ref 18), some (.int l1)], [])) (h' := (HPf C M o, c, s)) rfl rfl rfl (t_67 L xs rfl) (mv_okl rfl) ?_
    show mv_E (mp L xs) 71 (38, [some (.ref 18), some (.int l1)], [.int (f_67 r927)]) (HPf C M o, c, s) _
    by_cases hc934 : ¬ (f_67 r927) = 0
    · replace h := (if_pos hc934).symm.trans h
      refine mv_E.go rfl (mi_if_pos hc934) ?_
      show mv_E (mp L xs) 71 (55, [some (.ref 18), some (.int l1)], []) (HPf C M o, c, s) _
      exact tb_71_55 L xs C o c s M (b_71_27 k_7 n) k_7 ih hk_7 l1 _ h
    replace h := (if_neg hc934).symm.trans h
    refine mv_E.go rfl (mi_if_neg hc934) ?_
    refine mv_E.rT (t := mt_71) rfl 3 (f' := (46, [some (.ref 18), some (.int l1)], [.int (M.1 5), .ref 18])) (h' := (HPf C M o, c, s)) rfl ?_
    obtain ⟨r929, hr930, h⟩ := Option.bind_eq_some_iff.mp h
    refine mv_E.call (z := 66) (vs := [.ref 18, .int (M.1 5)]) (f' := (49, [some (.ref 18), some (.int l1)], [])) (h' := (HPf C M o, c, s)) rfl rfl rfl (t_66 L xs hr930) (mv_okl rfl) ?_
    show mv_E (mp L xs) 71 (49, [some (.ref 18), some (.int l1)], [.int r929]) (HPf C M o, c, s) _
    refine mv_E.call (z := 68) (vs := [.int r929]) (f' := (52, [some (.ref 18), some (.int l1)], [])) (h' := (HPf C M o, c, s)) rfl rfl rfl (t_68 L xs rfl) (mv_okl rfl) ?_
    show mv_E (mp L xs) 71 (52, [some (.ref 18), some (.int l1)], [.int (f_68 r929)]) (HPf C M o, c, s) _
    by_cases hc933 : (f_68 r929) = 0
    · replace h := (if_pos hc933).symm.trans h
      refine mv_E.go rfl (mi_if_pos hc933) ?_
      refine mv_E.rT (t := mt_71) rfl 4 (f' := (101, [some (.ref 18), some (.int l1)], [.int (M.1 5), .ref 18, .ref 18])) (h' := (HPf C M o, c, s)) rfl ?_
      obtain ⟨r931, hr932, h⟩ := Option.bind_eq_some_iff.mp h
      refine mv_E.call (z := 70) (vs := [.ref 18, .int (M.1 5)]) (f' := (104, [some (.ref 18), some (.int l1)], [.ref 18])) (h' := (HPf C M o, c, s)) rfl rfl rfl (t_70 L xs hr932) (mv_okl rfl) ?_
      refine mv_E.rT (t := mt_71) rfl 2 (f' := (7, [some (.ref 18), some (.int l1)], [])) (h' := (HPf C (ru (r931.2.1) 5 (r931.1), r931.2.2) o, c, s)) rfl ?_
      exact hk_7 (ru (r931.2.1) 5 (r931.1), r931.2.2) l1 _ h
    replace h := (if_neg hc933).symm.trans h
    refine mv_E.go rfl (mi_if_neg hc933) ?_
    show mv_E (mp L xs) 71 (55, [some (.ref 18), some (.int l1)], []) (HPf C M o, c, s) _
    exact tb_71_55 L xs C o c s M (b_71_27 k_7 n) k_7 ih hk_7 l1 _ h
def b_71_7 : Nat → CS → Int32 → Option (CS)
  | 0, _, _ => none
  | n + 1, M, l1 => (if l1 = (M.1 5) then some M else (if 0 ≤ (M.1 4) then some M else b_71_27 (b_71_7 n) fu M (M.1 5)))
theorem tb_71_7 (L : Nat) (xs : Nat → Int32) (C : CS) (o : Nat → Int64) (c s : Nat) : ∀ (n : Nat) (M : CS) (l1 : Int32) (ret : CS), b_71_7 n M l1 = some ret → mv_E (mp L xs) 71 (7, [some (.ref 18), some (.int l1)], []) (HPf C M o, c, s) ((.inl none, (HPf C ret o, c, s))) := by
  intro n
  induction n with
  | zero => intro M l1 ret h; rw [b_71_7] at h; cases h
  | succ n ih =>
    intro M l1 ret h
    rw [b_71_7] at h
    refine mv_E.rT (t := mt_71) rfl 3 (f' := (12, [some (.ref 18), some (.int l1)], [.int (M.1 5), .int l1])) (h' := (HPf C M o, c, s)) rfl ?_
    by_cases hc938 : l1 = (M.1 5)
    · replace h := (if_pos hc938).symm.trans h
      refine mv_E.go rfl (mi_icmp_pos hc938) ?_
      show mv_E (mp L xs) 71 (110, [some (.ref 18), some (.int l1)], []) (HPf C M o, c, s) _
      cases h
      exact mv_E.done rfl rfl
    replace h := (if_neg hc938).symm.trans h
    refine mv_E.go rfl (mi_icmp_neg hc938) ?_
    refine mv_E.rT (t := mt_71) rfl 2 (f' := (19, [some (.ref 18), some (.int l1)], [.int (M.1 4)])) (h' := (HPf C M o, c, s)) rfl ?_
    by_cases hc937 : 0 ≤ (M.1 4)
    · replace h := (if_pos hc937).symm.trans h
      refine mv_E.go rfl (mi_if_pos hc937) ?_
      show mv_E (mp L xs) 71 (110, [some (.ref 18), some (.int l1)], []) (HPf C M o, c, s) _
      cases h
      exact mv_E.done rfl rfl
    replace h := (if_neg hc937).symm.trans h
    refine mv_E.go rfl (mi_if_neg hc937) ?_
    refine mv_E.rT (t := mt_71) rfl 3 (f' := (27, [some (.ref 18), some (.int (M.1 5))], [])) (h' := (HPf C M o, c, s)) rfl ?_
    exact tb_71_27 L xs C o c s (b_71_7 n) ih fu M (M.1 5) _ h
def f_71 (M : CS) : Option (CS) := b_71_7 fu (ru (M.1) 8 (0), M.2) (-1)
theorem t_71 (L : Nat) (xs : Nat → Int32) {C M : CS} {o : Nat → Int64} {c s : Nat} {ret : CS} (h : f_71 M = some ret) : mv_E (mp L xs) 71 (0, [some (.ref 18), none], []) (HPf C M o, c, s) ((.inl none, (HPf C ret o, c, s))) := by
  unfold f_71 at h
  refine mv_E.rT (t := mt_71) rfl 5 (f' := (7, [some (.ref 18), some (.int (-1))], [])) (h' := (HPf C (ru (M.1) 8 (0), M.2) o, c, s)) rfl ?_
  exact tb_71_7 L xs C o c s fu (ru (M.1) 8 (0), M.2) (-1) _ h
def b_73_41 (l0 : Int32) (s0 : Int32) : Int32 := (if ¬ s0 = 0 then 1 else (if l0 = 170 then 1 else (if l0 = 181 then 1 else (if l0 = 186 then 1 else (if l0 < 192 then 0 else (if 255 < l0 then 0 else (if l0 = 215 then 0 else (if l0 = 247 then 0 else 1))))))))
theorem tb_73_41 (L : Nat) (xs : Nat → Int32) (hh : mv_H) (l0 : Int32) (s0 : Int32) (d1 : Option Int32) (ret : Int32) (h : b_73_41 l0 s0 = ret) : mv_E (mp L xs) 73 (41, [some (.int l0), d1.map .int], [.int s0]) hh ((.inl (some (.int ret)), hh)) := by
  unfold b_73_41 at h
  refine mv_E.rT (t := mt_73) rfl 2 (f' := (43, [some (.int l0), some (.int s0)], [.int s0])) (h' := hh) rfl ?_
  by_cases hc958 : ¬ s0 = 0
  · replace h := (if_pos hc958).symm.trans h
    refine mv_E.go rfl (mi_if_pos hc958) ?_
    refine mv_E.rT (t := mt_73) rfl 2 (f' := (100, [some (.int l0), some (.int s0)], [.int 1])) (h' := hh) rfl ?_
    cases h
    exact mv_E.done rfl mi_zret1
  replace h := (if_neg hc958).symm.trans h
  refine mv_E.go rfl (mi_if_neg hc958) ?_
  refine mv_E.rT (t := mt_73) rfl 2 (f' := (50, [some (.int l0), some (.int s0)], [.int 170, .int l0])) (h' := hh) rfl ?_
  by_cases hc957 : l0 = 170
  · replace h := (if_pos hc957).symm.trans h
    refine mv_E.go rfl (mi_icmp_pos hc957) ?_
    refine mv_E.rT (t := mt_73) rfl 2 (f' := (100, [some (.int l0), some (.int s0)], [.int 1])) (h' := hh) rfl ?_
    cases h
    exact mv_E.done rfl mi_zret1
  replace h := (if_neg hc957).symm.trans h
  refine mv_E.go rfl (mi_icmp_neg hc957) ?_
  refine mv_E.rT (t := mt_73) rfl 2 (f' := (57, [some (.int l0), some (.int s0)], [.int 181, .int l0])) (h' := hh) rfl ?_
  by_cases hc956 : l0 = 181
  · replace h := (if_pos hc956).symm.trans h
    refine mv_E.go rfl (mi_icmp_pos hc956) ?_
    refine mv_E.rT (t := mt_73) rfl 2 (f' := (100, [some (.int l0), some (.int s0)], [.int 1])) (h' := hh) rfl ?_
    cases h
    exact mv_E.done rfl mi_zret1
  replace h := (if_neg hc956).symm.trans h
  refine mv_E.go rfl (mi_icmp_neg hc956) ?_
  refine mv_E.rT (t := mt_73) rfl 2 (f' := (64, [some (.int l0), some (.int s0)], [.int 186, .int l0])) (h' := hh) rfl ?_
  by_cases hc955 : l0 = 186
  · replace h := (if_pos hc955).symm.trans h
    refine mv_E.go rfl (mi_icmp_pos hc955) ?_
    refine mv_E.rT (t := mt_73) rfl 2 (f' := (100, [some (.int l0), some (.int s0)], [.int 1])) (h' := hh) rfl ?_
    cases h
    exact mv_E.done rfl mi_zret1
  replace h := (if_neg hc955).symm.trans h
  refine mv_E.go rfl (mi_icmp_neg hc955) ?_
  refine mv_E.rT (t := mt_73) rfl 2 (f' := (71, [some (.int l0), some (.int s0)], [.int 192, .int l0])) (h' := hh) rfl ?_
  by_cases hc954 : l0 < 192
  · replace h := (if_pos hc954).symm.trans h
    refine mv_E.go rfl (mi_icmp_pos hc954) ?_
    refine mv_E.rT (t := mt_73) rfl 1 (f' := (100, [some (.int l0), some (.int s0)], [.int 0])) (h' := hh) rfl ?_
    cases h
    exact mv_E.done rfl mi_zret0
  replace h := (if_neg hc954).symm.trans h
  refine mv_E.go rfl (mi_icmp_neg hc954) ?_
  refine mv_E.rT (t := mt_73) rfl 2 (f' := (78, [some (.int l0), some (.int s0)], [.int 255, .int l0])) (h' := hh) rfl ?_
  by_cases hc953 : 255 < l0
  · replace h := (if_pos hc953).symm.trans h
    refine mv_E.go rfl (mi_icmp_pos hc953) ?_
    refine mv_E.rT (t := mt_73) rfl 1 (f' := (100, [some (.int l0), some (.int s0)], [.int 0])) (h' := hh) rfl ?_
    cases h
    exact mv_E.done rfl mi_zret0
  replace h := (if_neg hc953).symm.trans h
  refine mv_E.go rfl (mi_icmp_neg hc953) ?_
  refine mv_E.rT (t := mt_73) rfl 2 (f' := (85, [some (.int l0), some (.int s0)], [.int 215, .int l0])) (h' := hh) rfl ?_
  by_cases hc952 : l0 = 215
  · replace h := (if_pos hc952).symm.trans h
    refine mv_E.go rfl (mi_icmp_pos hc952) ?_
    refine mv_E.rT (t := mt_73) rfl 1 (f' := (100, [some (.int l0), some (.int s0)], [.int 0])) (h' := hh) rfl ?_
    cases h
    exact mv_E.done rfl mi_zret0
  replace h := (if_neg hc952).symm.trans h
  refine mv_E.go rfl (mi_icmp_neg hc952) ?_
  refine mv_E.rT (t := mt_73) rfl 2 (f' := (92, [some (.int l0), some (.int s0)], [.int 247, .int l0])) (h' := hh) rfl ?_
  by_cases hc951 : l0 = 247
  · replace h := (if_pos hc951).symm.trans h
    refine mv_E.go rfl (mi_icmp_pos hc951) ?_
    refine mv_E.rT (t := mt_73) rfl 1 (f' := (100, [some (.int l0), some (.int s0)], [.int 0])) (h' := hh) rfl ?_
    cases h
    exact mv_E.done rfl mi_zret0
  replace h := (if_neg hc951).symm.trans h
  refine mv_E.go rfl (mi_icmp_neg hc951) ?_
  refine mv_E.rT (t := mt_73) rfl 2 (f' := (100, [some (.int l0), some (.int s0)], [.int 1])) (h' := hh) rfl ?_
  cases h
  exact mv_E.done rfl mi_zret1
def b_73_36 (l0 : Int32) : Int32 := b_73_41 l0 1
theorem tb_73_36 (L : Nat) (xs : Nat → Int32) (hh : mv_H) (l0 : Int32) (d1 : Option Int32) (ret : Int32) (h : b_73_36 l0 = ret) : mv_E (mp L xs) 73 (36, [some (.int l0), d1.map .int], []) hh ((.inl (some (.int ret)), hh)) := by
  unfold b_73_36 at h
  refine mv_E.rT (t := mt_73) rfl 2 (f' := (41, [some (.int l0), d1.map .int], [.int 1])) (h' := hh) rfl ?_
  exact tb_73_41 L xs hh l0 1 d1 _ h
def b_73_24 (l0 : Int32) : Int32 := (if l0 = 36 then b_73_36 l0 else (if ¬ l0 = 95 then b_73_41 l0 0 else b_73_36 l0))
theorem tb_73_24 (L : Nat) (xs : Nat → Int32) (hh : mv_H) (l0 : Int32) (d1 : Option Int32) (ret : Int32) (h : b_73_24 l0 = ret) : mv_E (mp L xs) 73 (24, [some (.int l0), d1.map .int], []) hh ((.inl (some (.int ret)), hh)) := by
  unfold b_73_24 at h
  refine mv_E.rT (t := mt_73) rfl 2 (f' := (27, [some (.int l0), d1.map .int], [.int 36, .int l0])) (h' := hh) rfl ?_
  by_cases hc962 : l0 = 36
  · replace h := (if_pos hc962).symm.trans h
    refine mv_E.go rfl (mi_icmp_pos hc962) ?_
    show mv_E (mp L xs) 73 (36, [some (.int l0), d1.map .int], []) hh _
    exact tb_73_36 L xs hh l0 d1 _ h
  replace h := (if_neg hc962).symm.trans h
  refine mv_E.go rfl (mi_icmp_neg hc962) ?_
  refine mv_E.rT (t := mt_73) rfl 2 (f' := (33, [some (.int l0), d1.map .int], [.int 95, .int l0])) (h' := hh) rfl ?_
  by_cases hc961 : ¬ l0 = 95
  · replace h := (if_pos hc961).symm.trans h
    refine mv_E.go rfl (mi_icmp_pos hc961) ?_
    refine mv_E.rT (t := mt_73) rfl 1 (f' := (41, [some (.int l0), d1.map .int], [.int 0])) (h' := hh) rfl ?_
    exact tb_73_41 L xs hh l0 0 d1 _ h
  replace h := (if_neg hc961).symm.trans h
  refine mv_E.go rfl (mi_icmp_neg hc961) ?_
  show mv_E (mp L xs) 73 (36, [some (.int l0), d1.map .int], []) hh _
  exact tb_73_36 L xs hh l0 d1 _ h
def b_73_12 (l0 : Int32) : Int32 := (if l0 < 97 then b_73_24 l0 else (if l0 ≤ 122 then b_73_36 l0 else b_73_24 l0))
theorem tb_73_12 (L : Nat) (xs : Nat → Int32) (hh : mv_H) (l0 : Int32) (d1 : Option Int32) (ret : Int32) (h : b_73_12 l0 = ret) : mv_E (mp L xs) 73 (12, [some (.int l0), d1.map .int], []) hh ((.inl (some (.int ret)), hh)) := by
  unfold b_73_12 at h
  refine mv_E.rT (t := mt_73) rfl 2 (f' := (15, [some (.int l0), d1.map .int], [.int 97, .int l0])) (h' := hh) rfl ?_
  by_cases hc966 : l0 < 97
  · replace h := (if_pos hc966).symm.trans h
    refine mv_E.go rfl (mi_icmp_pos hc966) ?_
    show mv_E (mp L xs) 73 (24, [some (.int l0), d1.map .int], []) hh _
    exact tb_73_24 L xs hh l0 d1 _ h
  replace h := (if_neg hc966).symm.trans h
  refine mv_E.go rfl (mi_icmp_neg hc966) ?_
  refine mv_E.rT (t := mt_73) rfl 2 (f' := (21, [some (.int l0), d1.map .int], [.int 122, .int l0])) (h' := hh) rfl ?_
  by_cases hc965 : l0 ≤ 122
  · replace h := (if_pos hc965).symm.trans h
    refine mv_E.go rfl (mi_icmp_pos hc965) ?_
    show mv_E (mp L xs) 73 (36, [some (.int l0), d1.map .int], []) hh _
    exact tb_73_36 L xs hh l0 d1 _ h
  replace h := (if_neg hc965).symm.trans h
  refine mv_E.go rfl (mi_icmp_neg hc965) ?_
  show mv_E (mp L xs) 73 (24, [some (.int l0), d1.map .int], []) hh _
  exact tb_73_24 L xs hh l0 d1 _ h
def f_73 (p0 : Int32) : Int32 := (if p0 < 65 then b_73_12 p0 else (if p0 ≤ 90 then b_73_36 p0 else b_73_12 p0))
theorem t_73 (L : Nat) (xs : Nat → Int32) {hh : mv_H} {p0 : Int32} {ret : Int32} (h : f_73 p0 = ret) : mv_E (mp L xs) 73 (0, [some (.int p0), none], []) hh ((.inl (some (.int ret)), hh)) := by
  unfold f_73 at h
  refine mv_E.rT (t := mt_73) rfl 2 (f' := (3, [some (.int p0), none], [.int 65, .int p0])) (h' := hh) rfl ?_
  by_cases hc968 : p0 < 65
  · replace h := (if_pos hc968).symm.trans h
    refine mv_E.go rfl (mi_icmp_pos hc968) ?_
    show mv_E (mp L xs) 73 (12, [some (.int p0), none], []) hh _
    exact tb_73_12 L xs hh p0 none _ h
  replace h := (if_neg hc968).symm.trans h
  refine mv_E.go rfl (mi_icmp_neg hc968) ?_
  refine mv_E.rT (t := mt_73) rfl 2 (f' := (9, [some (.int p0), none], [.int 90, .int p0])) (h' := hh) rfl ?_
  by_cases hc967 : p0 ≤ 90
  · replace h := (if_pos hc967).symm.trans h
    refine mv_E.go rfl (mi_icmp_pos hc967) ?_
    show mv_E (mp L xs) 73 (36, [some (.int p0), none], []) hh _
    exact tb_73_36 L xs hh p0 none _ h
  replace h := (if_neg hc967).symm.trans h
  refine mv_E.go rfl (mi_icmp_neg hc967) ?_
  show mv_E (mp L xs) 73 (12, [some (.int p0), none], []) hh _
  exact tb_73_12 L xs hh p0 none _ h
def f_78 (p0 : Int32) : Nat := (if p0 = 0 then 17 else (if p0 = 1 then 18 else (if p0 = 2 then 19 else (if p0 = 3 then 20 else (if p0 = 4 then 21 else (if p0 = 5 then 22 else (if p0 = 6 then 23 else (if p0 = 7 then 24 else (if p0 = 8 then 25 else (if p0 = 9 then 26 else (if p0 = 10 then 27 else (if p0 = 11 then 28 else (if p0 = 12 then 29 else (if p0 = 13 then 30 else (if p0 = 14 then 31 else (if p0 = 15 then 32 else (if p0 = 16 then 33 else (if p0 = 17 then 34 else (if p0 = 18 then 35 else (if p0 = 19 then 36 else (if p0 = 20 then 37 else (if p0 = 21 then 38 else (if p0 = 22 then 39 else (if p0 = 23 then 40 else (if p0 = 24 then 41 else (if p0 = 25 then 42 else (if p0 = 26 then 43 else (if p0 = 27 then 44 else (if p0 = 28 then 45 else (if p0 = 29 then 46 else (if p0 = 30 then 47 else (if p0 = 31 then 48 else (if p0 = 32 then 49 else (if p0 = 33 then 50 else (if p0 = 34 then 51 else (if p0 = 35 then 52 else (if p0 = 36 then 53 else (if p0 = 37 then 54 else (if p0 = 38 then 55 else (if p0 = 39 then 56 else (if p0 = 40 then 57 else (if p0 = 41 then 58 else (if p0 = 42 then 59 else (if p0 = 43 then 60 else (if p0 = 44 then 61 else 62)))))))))))))))))))))))))))))))))))))))))))))
theorem t_78 (L : Nat) (xs : Nat → Int32) {hh : mv_H} {p0 : Int32} {ret : Nat} (h : f_78 p0 = ret) : mv_E (mp L xs) 78 (0, [some (.int p0)], []) hh ((.inl (some (.retAddr ret)), hh)) := by
  unfold f_78 at h
  refine mv_E.rT (t := mt_78) rfl 1 (f' := (1, [some (.int p0)], [.int p0])) (h' := hh) rfl ?_
  have e969 : mv_sw p0 331 [(0, 196), (1, 199), (2, 202), (3, 205), (4, 208), (5, 211), (6, 214), (7, 217), (8, 220), (9, 223), (10, 226), (11, 229), (12, 232), (13, 235), (14, 238), (15, 241), (16, 244), (17, 247), (18, 250), (19, 253), (20, 256), (21, 259), (22, 262), (23, 265), (24, 268), (25, 271), (26, 274), (27, 277), (28, 280), (29, 283), (30, 286), (31, 289), (32, 292), (33, 295), (34, 298), (35, 301), (36, 304), (37, 307), (38, 310), (39, 313), (40, 316), (41, 319), (42, 322), (43, 325), (44, 328)] = mv_sw p0 331 [(0, 196), (1, 199), (2, 202), (3, 205), (4, 208), (5, 211), (6, 214), (7, 217), (8, 220), (9, 223), (10, 226), (11, 229), (12, 232), (13, 235), (14, 238), (15, 241), (16, 244), (17, 247), (18, 250), (19, 253), (20, 256), (21, 259), (22, 262), (23, 265), (24, 268), (25, 271), (26, 274), (27, 277), (28, 280), (29, 283), (30, 286), (31, 289), (32, 292), (33, 295), (34, 298), (35, 301), (36, 304), (37, 307), (38, 310), (39, 313), (40, 316), (41, 319), (42, 322), (43, 325), (44, 328)] := rfl
  by_cases hs970 : p0 = 0
  · replace h := (if_pos hs970).symm.trans h
    refine mv_E.go rfl (mi_sw_at (e969.trans (if_pos hs970))) ?_
    refine mv_E.rT (t := mt_78) rfl 1 (f' := (198, [some (.int p0)], [.retAddr 17])) (h' := hh) rfl ?_
    cases h
    exact mv_E.done rfl rfl
  replace h := (if_neg hs970).symm.trans h
  have e971 := e969.trans (if_neg hs970)
  by_cases hs972 : p0 = 1
  · replace h := (if_pos hs972).symm.trans h
    refine mv_E.go rfl (mi_sw_at (e971.trans (if_pos hs972))) ?_
    refine mv_E.rT (t := mt_78) rfl 1 (f' := (201, [some (.int p0)], [.retAddr 18])) (h' := hh) rfl ?_
    cases h
    exact mv_E.done rfl rfl
  replace h := (if_neg hs972).symm.trans h
  have e973 := e971.trans (if_neg hs972)
  by_cases hs974 : p0 = 2
  · replace h := (if_pos hs974).symm.trans h
    refine mv_E.go rfl (mi_sw_at (e973.trans (if_pos hs974))) ?_
    refine mv_E.rT (t := mt_78) rfl 1 (f' := (204, [some (.int p0)], [.retAddr 19])) (h' := hh) rfl ?_
    cases h
    exact mv_E.done rfl rfl
  replace h := (if_neg hs974).symm.trans h
  have e975 := e973.trans (if_neg hs974)
  by_cases hs976 : p0 = 3
  · replace h := (if_pos hs976).symm.trans h
    refine mv_E.go rfl (mi_sw_at (e975.trans (if_pos hs976))) ?_
    refine mv_E.rT (t := mt_78) rfl 1 (f' := (207, [some (.int p0)], [.retAddr 20])) (h' := hh) rfl ?_
    cases h
    exact mv_E.done rfl rfl
  replace h := (if_neg hs976).symm.trans h
  have e977 := e975.trans (if_neg hs976)
  by_cases hs978 : p0 = 4
  · replace h := (if_pos hs978).symm.trans h
    refine mv_E.go rfl (mi_sw_at (e977.trans (if_pos hs978))) ?_
    refine mv_E.rT (t := mt_78) rfl 1 (f' := (210, [some (.int p0)], [.retAddr 21])) (h' := hh) rfl ?_
    cases h
    exact mv_E.done rfl rfl
  replace h := (if_neg hs978).symm.trans h
  have e979 := e977.trans (if_neg hs978)
  by_cases hs980 : p0 = 5
  · replace h := (if_pos hs980).symm.trans h
    refine mv_E.go rfl (mi_sw_at (e979.trans (if_pos hs980))) ?_
    refine mv_E.rT (t := mt_78) rfl 1 (f' := (213, [some (.int p0)], [.retAddr 22])) (h' := hh) rfl ?_
    cases h
    exact mv_E.done rfl rfl
  replace h := (if_neg hs980).symm.trans h
  have e981 := e979.trans (if_neg hs980)
  by_cases hs982 : p0 = 6
  · replace h := (if_pos hs982).symm.trans h
    refine mv_E.go rfl (mi_sw_at (e981.trans (if_pos hs982))) ?_
    refine mv_E.rT (t := mt_78) rfl 1 (f' := (216, [some (.int p0)], [.retAddr 23])) (h' := hh) rfl ?_
    cases h
    exact mv_E.done rfl rfl
  replace h := (if_neg hs982).symm.trans h
  have e983 := e981.trans (if_neg hs982)
  by_cases hs984 : p0 = 7
  · replace h := (if_pos hs984).symm.trans h
    refine mv_E.go rfl (mi_sw_at (e983.trans (if_pos hs984))) ?_
    refine mv_E.rT (t := mt_78) rfl 1 (f' := (219, [some (.int p0)], [.retAddr 24])) (h' := hh) rfl ?_
    cases h
    exact mv_E.done rfl rfl
  replace h := (if_neg hs984).symm.trans h
  have e985 := e983.trans (if_neg hs984)
  by_cases hs986 : p0 = 8
  · replace h := (if_pos hs986).symm.trans h
    refine mv_E.go rfl (mi_sw_at (e985.trans (if_pos hs986))) ?_
    refine mv_E.rT (t := mt_78) rfl 1 (f' := (222, [some (.int p0)], [.retAddr 25])) (h' := hh) rfl ?_
    cases h
    exact mv_E.done rfl rfl
  replace h := (if_neg hs986).symm.trans h
  have e987 := e985.trans (if_neg hs986)
  by_cases hs988 : p0 = 9
  · replace h := (if_pos hs988).symm.trans h
    refine mv_E.go rfl (mi_sw_at (e987.trans (if_pos hs988))) ?_
    refine mv_E.rT (t := mt_78) rfl 1 (f' := (225, [some (.int p0)], [.retAddr 26])) (h' := hh) rfl ?_
    cases h
    exact mv_E.done rfl rfl
  replace h := (if_neg hs988).symm.trans h
  have e989 := e987.trans (if_neg hs988)
  by_cases hs990 : p0 = 10
  · replace h := (if_pos hs990).symm.trans h
    refine mv_E.go rfl (mi_sw_at (e989.trans (if_pos hs990))) ?_
    refine mv_E.rT (t := mt_78) rfl 1 (f' := (228, [some (.int p0)], [.retAddr 27])) (h' := hh) rfl ?_
    cases h
    exact mv_E.done rfl rfl
  replace h := (if_neg hs990).symm.trans h
  have e991 := e989.trans (if_neg hs990)
  by_cases hs992 : p0 = 11
  · replace h := (if_pos hs992).symm.trans h
    refine mv_E.go rfl (mi_sw_at (e991.trans (if_pos hs992))) ?_
    refine mv_E.rT (t := mt_78) rfl 1 (f' := (231, [some (.int p0)], [.retAddr 28])) (h' := hh) rfl ?_
    cases h
    exact mv_E.done rfl rfl
  replace h := (if_neg hs992).symm.trans h
  have e993 := e991.trans (if_neg hs992)
  by_cases hs994 : p0 = 12
  · replace h := (if_pos hs994).symm.trans h
    refine mv_E.go rfl (mi_sw_at (e993.trans (if_pos hs994))) ?_
    refine mv_E.rT (t := mt_78) rfl 1 (f' := (234, [some (.int p0)], [.retAddr 29])) (h' := hh) rfl ?_
    cases h
    exact mv_E.done rfl rfl
  replace h := (if_neg hs994).symm.trans h
  have e995 := e993.trans (if_neg hs994)
  by_cases hs996 : p0 = 13
  · replace h := (if_pos hs996).symm.trans h
    refine mv_E.go rfl (mi_sw_at (e995.trans (if_pos hs996))) ?_
    refine mv_E.rT (t := mt_78) rfl 1 (f' := (237, [some (.int p0)], [.retAddr 30])) (h' := hh) rfl ?_
    cases h
    exact mv_E.done rfl rfl
  replace h := (if_neg hs996).symm.trans h
  have e997 := e995.trans (if_neg hs996)
  by_cases hs998 : p0 = 14
  · replace h := (if_pos hs998).symm.trans h
    refine mv_E.go rfl (mi_sw_at (e997.trans (if_pos hs998))) ?_
    refine mv_E.rT (t := mt_78) rfl 1 (f' := (240, [some (.int p0)], [.retAddr 31])) (h' := hh) rfl ?_
    cases h
    exact mv_E.done rfl rfl
  replace h := (if_neg hs998).symm.trans h
  have e999 := e997.trans (if_neg hs998)
  by_cases hs1000 : p0 = 15
  · replace h := (if_pos hs1000).symm.trans h
    refine mv_E.go rfl (mi_sw_at (e999.trans (if_pos hs1000))) ?_
    refine mv_E.rT (t := mt_78) rfl 1 (f' := (243, [some (.int p0)], [.retAddr 32])) (h' := hh) rfl ?_
    cases h
    exact mv_E.done rfl rfl
  replace h := (if_neg hs1000).symm.trans h
  have e1001 := e999.trans (if_neg hs1000)
  by_cases hs1002 : p0 = 16
  · replace h := (if_pos hs1002).symm.trans h
    refine mv_E.go rfl (mi_sw_at (e1001.trans (if_pos hs1002))) ?_
    refine mv_E.rT (t := mt_78) rfl 1 (f' := (246, [some (.int p0)], [.retAddr 33])) (h' := hh) rfl ?_
    cases h
    exact mv_E.done rfl rfl
  replace h := (if_neg hs1002).symm.trans h
  have e1003 := e1001.trans (if_neg hs1002)
  by_cases hs1004 : p0 = 17
  · replace h := (if_pos hs1004).symm.trans h
    refine mv_E.go rfl (mi_sw_at (e1003.trans (if_pos hs1004))) ?_
    refine mv_E.rT (t := mt_78) rfl 1 (f' := (249, [some (.int p0)], [.retAddr 34])) (h' := hh) rfl ?_
    cases h
    exact mv_E.done rfl rfl
  replace h := (if_neg hs1004).symm.trans h
  have e1005 := e1003.trans (if_neg hs1004)
  by_cases hs1006 : p0 = 18
  · replace h := (if_pos hs1006).symm.trans h
    refine mv_E.go rfl (mi_sw_at (e1005.trans (if_pos hs1006))) ?_
    refine mv_E.rT (t := mt_78) rfl 1 (f' := (252, [some (.int p0)], [.retAddr 35])) (h' := hh) rfl ?_
    cases h
    exact mv_E.done rfl rfl
  replace h := (if_neg hs1006).symm.trans h
  have e1007 := e1005.trans (if_neg hs1006)
  by_cases hs1008 : p0 = 19
  · replace h := (if_pos hs1008).symm.trans h
    refine mv_E.go rfl (mi_sw_at (e1007.trans (if_pos hs1008))) ?_
    refine mv_E.rT (t := mt_78) rfl 1 (f' := (255, [some (.int p0)], [.retAddr 36])) (h' := hh) rfl ?_
    cases h
    exact mv_E.done rfl rfl
  replace h := (if_neg hs1008).symm.trans h
  have e1009 := e1007.trans (if_neg hs1008)
  by_cases hs1010 : p0 = 20
  · replace h := (if_pos hs1010).symm.trans h
    refine mv_E.go rfl (mi_sw_at (e1009.trans (if_pos hs1010))) ?_
    refine mv_E.rT (t := mt_78) rfl 1 (f' := (258, [some (.int p0)], [.retAddr 37])) (h' := hh) rfl ?_
    cases h
    exact mv_E.done rfl rfl
  replace h := (if_neg hs1010).symm.trans h
  have e1011 := e1009.trans (if_neg hs1010)
  by_cases hs1012 : p0 = 21
  · replace h := (if_pos hs1012).symm.trans h
    refine mv_E.go rfl (mi_sw_at (e1011.trans (if_pos hs1012))) ?_
    refine mv_E.rT (t := mt_78) rfl 1 (f' := (261, [some (.int p0)], [.retAddr 38])) (h' := hh) rfl ?_
    cases h
    exact mv_E.done rfl rfl
  replace h := (if_neg hs1012).symm.trans h
  have e1013 := e1011.trans (if_neg hs1012)
  by_cases hs1014 : p0 = 22
  · replace h := (if_pos hs1014).symm.trans h
    refine mv_E.go rfl (mi_sw_at (e1013.trans (if_pos hs1014))) ?_
    refine mv_E.rT (t := mt_78) rfl 1 (f' := (264, [some (.int p0)], [.retAddr 39])) (h' := hh) rfl ?_
    cases h
    exact mv_E.done rfl rfl
  replace h := (if_neg hs1014).symm.trans h
  have e1015 := e1013.trans (if_neg hs1014)
  by_cases hs1016 : p0 = 23
  · replace h := (if_pos hs1016).symm.trans h
    refine mv_E.go rfl (mi_sw_at (e1015.trans (if_pos hs1016))) ?_
    refine mv_E.rT (t := mt_78) rfl 1 (f' := (267, [some (.int p0)], [.retAddr 40])) (h' := hh) rfl ?_
    cases h
    exact mv_E.done rfl rfl
  replace h := (if_neg hs1016).symm.trans h
  have e1017 := e1015.trans (if_neg hs1016)
  by_cases hs1018 : p0 = 24
  · replace h := (if_pos hs1018).symm.trans h
    refine mv_E.go rfl (mi_sw_at (e1017.trans (if_pos hs1018))) ?_
    refine mv_E.rT (t := mt_78) rfl 1 (f' := (270, [some (.int p0)], [.retAddr 41])) (h' := hh) rfl ?_
    cases h
    exact mv_E.done rfl rfl
  replace h := (if_neg hs1018).symm.trans h
  have e1019 := e1017.trans (if_neg hs1018)
  by_cases hs1020 : p0 = 25
  · replace h := (if_pos hs1020).symm.trans h
    refine mv_E.go rfl (mi_sw_at (e1019.trans (if_pos hs1020))) ?_
    refine mv_E.rT (t := mt_78) rfl 1 (f' := (273, [some (.int p0)], [.retAddr 42])) (h' := hh) rfl ?_
    cases h
    exact mv_E.done rfl rfl
  replace h := (if_neg hs1020).symm.trans h
  have e1021 := e1019.trans (if_neg hs1020)
  by_cases hs1022 : p0 = 26
  · replace h := (if_pos hs1022).symm.trans h
    refine mv_E.go rfl (mi_sw_at (e1021.trans (if_pos hs1022))) ?_
    refine mv_E.rT (t := mt_78) rfl 1 (f' := (276, [some (.int p0)], [.retAddr 43])) (h' := hh) rfl ?_
    cases h
    exact mv_E.done rfl rfl
  replace h := (if_neg hs1022).symm.trans h
  have e1023 := e1021.trans (if_neg hs1022)
  by_cases hs1024 : p0 = 27
  · replace h := (if_pos hs1024).symm.trans h
    refine mv_E.go rfl (mi_sw_at (e1023.trans (if_pos hs1024))) ?_
    refine mv_E.rT (t := mt_78) rfl 1 (f' := (279, [some (.int p0)], [.retAddr 44])) (h' := hh) rfl ?_
    cases h
    exact mv_E.done rfl rfl
  replace h := (if_neg hs1024).symm.trans h
  have e1025 := e1023.trans (if_neg hs1024)
  by_cases hs1026 : p0 = 28
  · replace h := (if_pos hs1026).symm.trans h
    refine mv_E.go rfl (mi_sw_at (e1025.trans (if_pos hs1026))) ?_
    refine mv_E.rT (t := mt_78) rfl 1 (f' := (282, [some (.int p0)], [.retAddr 45])) (h' := hh) rfl ?_
    cases h
    exact mv_E.done rfl rfl
  replace h := (if_neg hs1026).symm.trans h
  have e1027 := e1025.trans (if_neg hs1026)
  by_cases hs1028 : p0 = 29
  · replace h := (if_pos hs1028).symm.trans h
    refine mv_E.go rfl (mi_sw_at (e1027.trans (if_pos hs1028))) ?_
    refine mv_E.rT (t := mt_78) rfl 1 (f' := (285, [some (.int p0)], [.retAddr 46])) (h' := hh) rfl ?_
    cases h
    exact mv_E.done rfl rfl
  replace h := (if_neg hs1028).symm.trans h
  have e1029 := e1027.trans (if_neg hs1028)
  by_cases hs1030 : p0 = 30
  · replace h := (if_pos hs1030).symm.trans h
    refine mv_E.go rfl (mi_sw_at (e1029.trans (if_pos hs1030))) ?_
    refine mv_E.rT (t := mt_78) rfl 1 (f' := (288, [some (.int p0)], [.retAddr 47])) (h' := hh) rfl ?_
    cases h
    exact mv_E.done rfl rfl
  replace h := (if_neg hs1030).symm.trans h
  have e1031 := e1029.trans (if_neg hs1030)
  by_cases hs1032 : p0 = 31
  · replace h := (if_pos hs1032).symm.trans h
    refine mv_E.go rfl (mi_sw_at (e1031.trans (if_pos hs1032))) ?_
    refine mv_E.rT (t := mt_78) rfl 1 (f' := (291, [some (.int p0)], [.retAddr 48])) (h' := hh) rfl ?_
    cases h
    exact mv_E.done rfl rfl
  replace h := (if_neg hs1032).symm.trans h
  have e1033 := e1031.trans (if_neg hs1032)
  by_cases hs1034 : p0 = 32
  · replace h := (if_pos hs1034).symm.trans h
    refine mv_E.go rfl (mi_sw_at (e1033.trans (if_pos hs1034))) ?_
    refine mv_E.rT (t := mt_78) rfl 1 (f' := (294, [some (.int p0)], [.retAddr 49])) (h' := hh) rfl ?_
    cases h
    exact mv_E.done rfl rfl
  replace h := (if_neg hs1034).symm.trans h
  have e1035 := e1033.trans (if_neg hs1034)
  by_cases hs1036 : p0 = 33
  · replace h := (if_pos hs1036).symm.trans h
    refine mv_E.go rfl (mi_sw_at (e1035.trans (if_pos hs1036))) ?_
    refine mv_E.rT (t := mt_78) rfl 1 (f' := (297, [some (.int p0)], [.retAddr 50])) (h' := hh) rfl ?_
    cases h
    exact mv_E.done rfl rfl
  replace h := (if_neg hs1036).symm.trans h
  have e1037 := e1035.trans (if_neg hs1036)
  by_cases hs1038 : p0 = 34
  · replace h := (if_pos hs1038).symm.trans h
    refine mv_E.go rfl (mi_sw_at (e1037.trans (if_pos hs1038))) ?_
    refine mv_E.rT (t := mt_78) rfl 1 (f' := (300, [some (.int p0)], [.retAddr 51])) (h' := hh) rfl ?_
    cases h
    exact mv_E.done rfl rfl
  replace h := (if_neg hs1038).symm.trans h
  have e1039 := e1037.trans (if_neg hs1038)
  by_cases hs1040 : p0 = 35
  · replace h := (if_pos hs1040).symm.trans h
    refine mv_E.go rfl (mi_sw_at (e1039.trans (if_pos hs1040))) ?_
    refine mv_E.rT (t := mt_78) rfl 1 (f' := (303, [some (.int p0)], [.retAddr 52])) (h' := hh) rfl ?_
    cases h
    exact mv_E.done rfl rfl
  replace h := (if_neg hs1040).symm.trans h
  have e1041 := e1039.trans (if_neg hs1040)
  by_cases hs1042 : p0 = 36
  · replace h := (if_pos hs1042).symm.trans h
    refine mv_E.go rfl (mi_sw_at (e1041.trans (if_pos hs1042))) ?_
    refine mv_E.rT (t := mt_78) rfl 1 (f' := (306, [some (.int p0)], [.retAddr 53])) (h' := hh) rfl ?_
    cases h
    exact mv_E.done rfl rfl
  replace h := (if_neg hs1042).symm.trans h
  have e1043 := e1041.trans (if_neg hs1042)
  by_cases hs1044 : p0 = 37
  · replace h := (if_pos hs1044).symm.trans h
    refine mv_E.go rfl (mi_sw_at (e1043.trans (if_pos hs1044))) ?_
    refine mv_E.rT (t := mt_78) rfl 1 (f' := (309, [some (.int p0)], [.retAddr 54])) (h' := hh) rfl ?_
    cases h
    exact mv_E.done rfl rfl
  replace h := (if_neg hs1044).symm.trans h
  have e1045 := e1043.trans (if_neg hs1044)
  by_cases hs1046 : p0 = 38
  · replace h := (if_pos hs1046).symm.trans h
    refine mv_E.go rfl (mi_sw_at (e1045.trans (if_pos hs1046))) ?_
    refine mv_E.rT (t := mt_78) rfl 1 (f' := (312, [some (.int p0)], [.retAddr 55])) (h' := hh) rfl ?_
    cases h
    exact mv_E.done rfl rfl
  replace h := (if_neg hs1046).symm.trans h
  have e1047 := e1045.trans (if_neg hs1046)
  by_cases hs1048 : p0 = 39
  · replace h := (if_pos hs1048).symm.trans h
    refine mv_E.go rfl (mi_sw_at (e1047.trans (if_pos hs1048))) ?_
    refine mv_E.rT (t := mt_78) rfl 1 (f' := (315, [some (.int p0)], [.retAddr 56])) (h' := hh) rfl ?_
    cases h
    exact mv_E.done rfl rfl
  replace h := (if_neg hs1048).symm.trans h
  have e1049 := e1047.trans (if_neg hs1048)
  by_cases hs1050 : p0 = 40
  · replace h := (if_pos hs1050).symm.trans h
    refine mv_E.go rfl (mi_sw_at (e1049.trans (if_pos hs1050))) ?_
    refine mv_E.rT (t := mt_78) rfl 1 (f' := (318, [some (.int p0)], [.retAddr 57])) (h' := hh) rfl ?_
    cases h
    exact mv_E.done rfl rfl
  replace h := (if_neg hs1050).symm.trans h
  have e1051 := e1049.trans (if_neg hs1050)
  by_cases hs1052 : p0 = 41
  · replace h := (if_pos hs1052).symm.trans h
    refine mv_E.go rfl (mi_sw_at (e1051.trans (if_pos hs1052))) ?_
    refine mv_E.rT (t := mt_78) rfl 1 (f' := (321, [some (.int p0)], [.retAddr 58])) (h' := hh) rfl ?_
    cases h
    exact mv_E.done rfl rfl
  replace h := (if_neg hs1052).symm.trans h
  have e1053 := e1051.trans (if_neg hs1052)
  by_cases hs1054 : p0 = 42
  · replace h := (if_pos hs1054).symm.trans h
    refine mv_E.go rfl (mi_sw_at (e1053.trans (if_pos hs1054))) ?_
    refine mv_E.rT (t := mt_78) rfl 1 (f' := (324, [some (.int p0)], [.retAddr 59])) (h' := hh) rfl ?_
    cases h
    exact mv_E.done rfl rfl
  replace h := (if_neg hs1054).symm.trans h
  have e1055 := e1053.trans (if_neg hs1054)
  by_cases hs1056 : p0 = 43
  · replace h := (if_pos hs1056).symm.trans h
    refine mv_E.go rfl (mi_sw_at (e1055.trans (if_pos hs1056))) ?_
    refine mv_E.rT (t := mt_78) rfl 1 (f' := (327, [some (.int p0)], [.retAddr 60])) (h' := hh) rfl ?_
    cases h
    exact mv_E.done rfl rfl
  replace h := (if_neg hs1056).symm.trans h
  have e1057 := e1055.trans (if_neg hs1056)
  by_cases hs1058 : p0 = 44
  · replace h := (if_pos hs1058).symm.trans h
    refine mv_E.go rfl (mi_sw_at (e1057.trans (if_pos hs1058))) ?_
    refine mv_E.rT (t := mt_78) rfl 1 (f' := (330, [some (.int p0)], [.retAddr 61])) (h' := hh) rfl ?_
    cases h
    exact mv_E.done rfl rfl
  replace h := (if_neg hs1058).symm.trans h
  have e1059 := e1057.trans (if_neg hs1058)
  refine mv_E.go rfl (mi_sw_at e1059) ?_
  refine mv_E.rT (t := mt_78) rfl 1 (f' := (333, [some (.int p0)], [.retAddr 62])) (h' := hh) rfl ?_
  cases h
  exact mv_E.done rfl rfl
