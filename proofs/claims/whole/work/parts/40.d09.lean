def f_72 (M : CS) : Option (Int32 × CS) := (if (M.1 4) < 0 then some (M.1 6, M) else (f_22 (ru (ru (ru (M.1) 3 (M.1 4)) 1 (0)) 2 (0), M.2) 1 0).bind fun r1176 => some (0, r1176.2))
theorem t_72 (L : Nat) (xs : Nat → Int32) {C M : CS} {o : Nat → Int64} {c s : Nat} {ret : Int32 × CS} (h : f_72 M = some ret) : mv_E (mp L xs) 72 (0, [some (.ref 18)], []) (HPf C M o, c, s) ((.inl (some (.int ret.1)), (HPf C ret.2 o, c, s))) := by
  unfold f_72 at h
  refine mv_E.rT (t := mt_72) rfl 2 (f' := (4, [some (.ref 18)], [.int (M.1 4)])) (h' := (HPf C M o, c, s)) rfl ?_
  by_cases hc1178 : (M.1 4) < 0
  · replace h := (if_pos hc1178).symm.trans h
    refine mv_E.go rfl (mi_if_pos hc1178) ?_
    refine mv_E.rT (t := mt_72) rfl 2 (f' := (38, [some (.ref 18)], [.int (M.1 6)])) (h' := (HPf C M o, c, s)) rfl ?_
    cases h
    exact mv_E.done rfl rfl
  replace h := (if_neg hc1178).symm.trans h
  refine mv_E.go rfl (mi_if_neg hc1178) ?_
  refine mv_E.rT (t := mt_72) rfl 13 (f' := (28, [some (.ref 18)], [.int 0, .int 1, .ref 18])) (h' := (HPf C (ru (ru (ru (M.1) 3 (M.1 4)) 1 (0)) 2 (0), M.2) o, c, s)) rfl ?_
  obtain ⟨r1176, hr1177, h⟩ := Option.bind_eq_some_iff.mp h
  refine mv_E.call (z := 22) (vs := [.ref 18, .int 1, .int 0]) (f' := (31, [some (.ref 18)], [])) (h' := (HPf C (ru (ru (ru (M.1) 3 (M.1 4)) 1 (0)) 2 (0), M.2) o, c, s)) rfl rfl rfl (t_22 L xs hr1177) (mv_okl rfl) ?_
  refine mv_E.rT (t := mt_72) rfl 2 (f' := (33, [some (.ref 18)], [.int 0])) (h' := (HPf C r1176.2 o, c, s)) rfl ?_
  cases h
  exact mv_E.done rfl rfl
def b_82_0 : Nat → CS → Option (CS)
  | 0, _ => none
  | n + 1, M => (f_66 M (M.1 5)).bind fun r1189 => (if (f_74 r1189) = 0 then some M else (b_82_0 n) (ru (M.1) 5 (((M.1 5) + 1)), M.2))
theorem tb_82_0 (L : Nat) (xs : Nat → Int32) (C : CS) (o : Nat → Int64) (c s : Nat) : ∀ (n : Nat) (M : CS)  (ret : CS), b_82_0 n M = some ret → mv_E (mp L xs) 82 (0, [some (.ref 18)], []) (HPf C M o, c, s) ((.inl none, (HPf C ret o, c, s))) := by
  intro n
  induction n with
  | zero => intro M  ret h; rw [b_82_0] at h; cases h
  | succ n ih =>
    intro M  ret h
    rw [b_82_0] at h
    refine mv_E.rT (t := mt_82) rfl 3 (f' := (5, [some (.ref 18)], [.int (M.1 5), .ref 18])) (h' := (HPf C M o, c, s)) rfl ?_
    obtain ⟨r1192, hr1193, h⟩ := Option.bind_eq_some_iff.mp h
    refine mv_E.call (z := 66) (vs := [.ref 18, .int (M.1 5)]) (f' := (8, [some (.ref 18)], [])) (h' := (HPf C M o, c, s)) rfl rfl rfl (t_66 L xs hr1193) (mv_okl rfl) ?_
    show mv_E (mp L xs) 82 (8, [some (.ref 18)], [.int r1192]) (HPf C M o, c, s) _
    refine mv_E.call (z := 74) (vs := [.int r1192]) (f' := (11, [some (.ref 18)], [])) (h' := (HPf C M o, c, s)) rfl rfl rfl (t_74 L xs rfl) (mv_okl rfl) ?_
    show mv_E (mp L xs) 82 (11, [some (.ref 18)], [.int (f_74 r1192)]) (HPf C M o, c, s) _
    by_cases hc1194 : (f_74 r1192) = 0
    · replace h := (if_pos hc1194).symm.trans h
      refine mv_E.go rfl (mi_if_pos hc1194) ?_
      show mv_E (mp L xs) 82 (27, [some (.ref 18)], []) (HPf C M o, c, s) _
      cases h
      exact mv_E.done rfl rfl
    replace h := (if_neg hc1194).symm.trans h
    refine mv_E.go rfl (mi_if_neg hc1194) ?_
    refine mv_E.rT (t := mt_82) rfl 7 (f' := (0, [some (.ref 18)], [])) (h' := (HPf C (ru (M.1) 5 (((M.1 5) + 1)), M.2) o, c, s)) rfl ?_
    exact ih (ru (M.1) 5 (((M.1 5) + 1)), M.2) _ h
def f_82 (M : CS) : Option (CS) := b_82_0 fu M
theorem t_82 (L : Nat) (xs : Nat → Int32) {C M : CS} {o : Nat → Int64} {c s : Nat} {ret : CS} (h : f_82 M = some ret) : mv_E (mp L xs) 82 (0, [some (.ref 18)], []) (HPf C M o, c, s) ((.inl none, (HPf C ret o, c, s))) := by
  unfold f_82 at h
  exact tb_82_0 L xs C o c s fu M _ h
def b_83_188 (M : CS) : Option (CS) := (f_82 M).bind fun r1205 => some r1205
theorem tb_83_188 (L : Nat) (xs : Nat → Int32) (C : CS) (o : Nat → Int64) (c s : Nat) (M : CS) (d1 : Option Int32) (ret : CS) (h : b_83_188 M = some ret) : mv_E (mp L xs) 83 (188, [some (.ref 18), d1.map .int], []) (HPf C M o, c, s) ((.inl none, (HPf C ret o, c, s))) := by
  unfold b_83_188 at h
  refine mv_E.rT (t := mt_83) rfl 1 (f' := (189, [some (.ref 18), d1.map .int], [.ref 18])) (h' := (HPf C M o, c, s)) rfl ?_
  obtain ⟨r1207, hr1208, h⟩ := Option.bind_eq_some_iff.mp h
  refine mv_E.call (z := 82) (vs := [.ref 18]) (f' := (192, [some (.ref 18), d1.map .int], [])) (h' := (HPf C M o, c, s)) rfl rfl rfl (t_82 L xs hr1208) (mv_okl rfl) ?_
  show mv_E (mp L xs) 83 (192, [some (.ref 18), d1.map .int], []) (HPf C r1207 o, c, s) _
  cases h
  exact mv_E.done rfl rfl
def b_83_166 (M : CS) : Option (CS) := (f_66 M (M.1 5)).bind fun r1203 => (if ¬ (f_74 r1203) = 0 then b_83_188 M else (f_69 M (M.1 5)).bind fun r1209 => b_83_188 r1209)
theorem tb_83_166 (L : Nat) (xs : Nat → Int32) (C : CS) (o : Nat → Int64) (c s : Nat) (M : CS) (d1 : Option Int32) (ret : CS) (h : b_83_166 M = some ret) : mv_E (mp L xs) 83 (166, [some (.ref 18), d1.map .int], []) (HPf C M o, c, s) ((.inl none, (HPf C ret o, c, s))) := by
  unfold b_83_166 at h
  refine mv_E.rT (t := mt_83) rfl 3 (f' := (171, [some (.ref 18), d1.map .int], [.int (M.1 5), .ref 18])) (h' := (HPf C M o, c, s)) rfl ?_
  obtain ⟨r1212, hr1213, h⟩ := Option.bind_eq_some_iff.mp h
  refine mv_E.call (z := 66) (vs := [.ref 18, .int (M.1 5)]) (f' := (174, [some (.ref 18), d1.map .int], [])) (h' := (HPf C M o, c, s)) rfl rfl rfl (t_66 L xs hr1213) (mv_okl rfl) ?_
  show mv_E (mp L xs) 83 (174, [some (.ref 18), d1.map .int], [.int r1212]) (HPf C M o, c, s) _
  refine mv_E.call (z := 74) (vs := [.int r1212]) (f' := (177, [some (.ref 18), d1.map .int], [])) (h' := (HPf C M o, c, s)) rfl rfl rfl (t_74 L xs rfl) (mv_okl rfl) ?_
  show mv_E (mp L xs) 83 (177, [some (.ref 18), d1.map .int], [.int (f_74 r1212)]) (HPf C M o, c, s) _
  by_cases hc1216 : ¬ (f_74 r1212) = 0
  · replace h := (if_pos hc1216).symm.trans h
    refine mv_E.go rfl (mi_if_pos hc1216) ?_
    show mv_E (mp L xs) 83 (188, [some (.ref 18), d1.map .int], []) (HPf C M o, c, s) _
    exact tb_83_188 L xs C o c s M d1 _ h
  replace h := (if_neg hc1216).symm.trans h
  refine mv_E.go rfl (mi_if_neg hc1216) ?_
  refine mv_E.rT (t := mt_83) rfl 3 (f' := (185, [some (.ref 18), d1.map .int], [.int (M.1 5), .ref 18])) (h' := (HPf C M o, c, s)) rfl ?_
  obtain ⟨r1214, hr1215, h⟩ := Option.bind_eq_some_iff.mp h
  refine mv_E.call (z := 69) (vs := [.ref 18, .int (M.1 5)]) (f' := (188, [some (.ref 18), d1.map .int], [])) (h' := (HPf C M o, c, s)) rfl rfl rfl (t_69 L xs hr1215) (mv_okl rfl) ?_
  show mv_E (mp L xs) 83 (188, [some (.ref 18), d1.map .int], []) (HPf C r1214 o, c, s) _
  exact tb_83_188 L xs C o c s r1214 d1 _ h
def b_83_156 (M : CS) : Option (CS) := b_83_166 (ru (M.1) 5 (((M.1 5) + 1)), M.2)
theorem tb_83_156 (L : Nat) (xs : Nat → Int32) (C : CS) (o : Nat → Int64) (c s : Nat) (M : CS) (d1 : Option Int32) (ret : CS) (h : b_83_156 M = some ret) : mv_E (mp L xs) 83 (156, [some (.ref 18), d1.map .int], []) (HPf C M o, c, s) ((.inl none, (HPf C ret o, c, s))) := by
  unfold b_83_156 at h
  refine mv_E.rT (t := mt_83) rfl 6 (f' := (166, [some (.ref 18), d1.map .int], [])) (h' := (HPf C (ru (M.1) 5 (((M.1 5) + 1)), M.2) o, c, s)) rfl ?_
  exact tb_83_166 L xs C o c s (ru (M.1) 5 (((M.1 5) + 1)), M.2) d1 _ h
def b_83_120 (M : CS) : Option (CS) := (f_66 (ru (M.1) 5 (((M.1 5) + 1)), M.2) ((M.1 5) + 1)).bind fun r1201 => (if r1201 = 43 then b_83_156 (ru (M.1) 5 (((M.1 5) + 1)), M.2) else (f_66 (ru (M.1) 5 (((M.1 5) + 1)), M.2) ((M.1 5) + 1)).bind fun r1217 => (if ¬ r1217 = 45 then b_83_166 (ru (M.1) 5 (((M.1 5) + 1)), M.2) else b_83_156 (ru (M.1) 5 (((M.1 5) + 1)), M.2)))
theorem tb_83_120 (L : Nat) (xs : Nat → Int32) (C : CS) (o : Nat → Int64) (c s : Nat) (M : CS) (d1 : Option Int32) (ret : CS) (h : b_83_120 M = some ret) : mv_E (mp L xs) 83 (120, [some (.ref 18), d1.map .int], []) (HPf C M o, c, s) ((.inl none, (HPf C ret o, c, s))) := by
  unfold b_83_120 at h
  refine mv_E.rT (t := mt_83) rfl 9 (f' := (135, [some (.ref 18), d1.map .int], [.int ((M.1 5) + 1), .ref 18])) (h' := (HPf C (ru (M.1) 5 (((M.1 5) + 1)), M.2) o, c, s)) rfl ?_
  obtain ⟨r1221, hr1222, h⟩ := Option.bind_eq_some_iff.mp h
  refine mv_E.call (z := 66) (vs := [.ref 18, .int ((M.1 5) + 1)]) (f' := (138, [some (.ref 18), d1.map .int], [])) (h' := (HPf C (ru (M.1) 5 (((M.1 5) + 1)), M.2) o, c, s)) rfl rfl rfl (t_66 L xs hr1222) (mv_okl rfl) ?_
  refine mv_E.rT (t := mt_83) rfl 1 (f' := (140, [some (.ref 18), d1.map .int], [.int 43, .int r1221])) (h' := (HPf C (ru (M.1) 5 (((M.1 5) + 1)), M.2) o, c, s)) rfl ?_
  by_cases hc1226 : r1221 = 43
  · replace h := (if_pos hc1226).symm.trans h
    refine mv_E.go rfl (mi_icmp_pos hc1226) ?_
    show mv_E (mp L xs) 83 (156, [some (.ref 18), d1.map .int], []) (HPf C (ru (M.1) 5 (((M.1 5) + 1)), M.2) o, c, s) _
    exact tb_83_156 L xs C o c s (ru (M.1) 5 (((M.1 5) + 1)), M.2) d1 _ h
  replace h := (if_neg hc1226).symm.trans h
  refine mv_E.go rfl (mi_icmp_neg hc1226) ?_
  refine mv_E.rT (t := mt_83) rfl 3 (f' := (148, [some (.ref 18), d1.map .int], [.int ((M.1 5) + 1), .ref 18])) (h' := (HPf C (ru (M.1) 5 (((M.1 5) + 1)), M.2) o, c, s)) rfl ?_
  obtain ⟨r1223, hr1224, h⟩ := Option.bind_eq_some_iff.mp h
  refine mv_E.call (z := 66) (vs := [.ref 18, .int ((M.1 5) + 1)]) (f' := (151, [some (.ref 18), d1.map .int], [])) (h' := (HPf C (ru (M.1) 5 (((M.1 5) + 1)), M.2) o, c, s)) rfl rfl rfl (t_66 L xs hr1224) (mv_okl rfl) ?_
  refine mv_E.rT (t := mt_83) rfl 1 (f' := (153, [some (.ref 18), d1.map .int], [.int 45, .int r1223])) (h' := (HPf C (ru (M.1) 5 (((M.1 5) + 1)), M.2) o, c, s)) rfl ?_
  by_cases hc1225 : ¬ r1223 = 45
  · replace h := (if_pos hc1225).symm.trans h
    refine mv_E.go rfl (mi_icmp_pos hc1225) ?_
    show mv_E (mp L xs) 83 (166, [some (.ref 18), d1.map .int], []) (HPf C (ru (M.1) 5 (((M.1 5) + 1)), M.2) o, c, s) _
    exact tb_83_166 L xs C o c s (ru (M.1) 5 (((M.1 5) + 1)), M.2) d1 _ h
  replace h := (if_neg hc1225).symm.trans h
  refine mv_E.go rfl (mi_icmp_neg hc1225) ?_
  show mv_E (mp L xs) 83 (156, [some (.ref 18), d1.map .int], []) (HPf C (ru (M.1) 5 (((M.1 5) + 1)), M.2) o, c, s) _
  exact tb_83_156 L xs C o c s (ru (M.1) 5 (((M.1 5) + 1)), M.2) d1 _ h
def b_83_93 (M : CS) : Option (CS) := (f_66 M (M.1 5)).bind fun r1199 => (if r1199 = 101 then b_83_120 M else (f_66 M (M.1 5)).bind fun r1227 => (if r1227 = 69 then b_83_120 M else some M))
theorem tb_83_93 (L : Nat) (xs : Nat → Int32) (C : CS) (o : Nat → Int64) (c s : Nat) (M : CS) (d1 : Option Int32) (ret : CS) (h : b_83_93 M = some ret) : mv_E (mp L xs) 83 (93, [some (.ref 18), d1.map .int], []) (HPf C M o, c, s) ((.inl none, (HPf C ret o, c, s))) := by
  unfold b_83_93 at h
  refine mv_E.rT (t := mt_83) rfl 3 (f' := (98, [some (.ref 18), d1.map .int], [.int (M.1 5), .ref 18])) (h' := (HPf C M o, c, s)) rfl ?_
  obtain ⟨r1231, hr1232, h⟩ := Option.bind_eq_some_iff.mp h
  refine mv_E.call (z := 66) (vs := [.ref 18, .int (M.1 5)]) (f' := (101, [some (.ref 18), d1.map .int], [])) (h' := (HPf C M o, c, s)) rfl rfl rfl (t_66 L xs hr1232) (mv_okl rfl) ?_
  refine mv_E.rT (t := mt_83) rfl 1 (f' := (103, [some (.ref 18), d1.map .int], [.int 101, .int r1231])) (h' := (HPf C M o, c, s)) rfl ?_
  by_cases hc1236 : r1231 = 101
  · replace h := (if_pos hc1236).symm.trans h
    refine mv_E.go rfl (mi_icmp_pos hc1236) ?_
    show mv_E (mp L xs) 83 (120, [some (.ref 18), d1.map .int], []) (HPf C M o, c, s) _
    exact tb_83_120 L xs C o c s M d1 _ h
  replace h := (if_neg hc1236).symm.trans h
  refine mv_E.go rfl (mi_icmp_neg hc1236) ?_
  refine mv_E.rT (t := mt_83) rfl 3 (f' := (111, [some (.ref 18), d1.map .int], [.int (M.1 5), .ref 18])) (h' := (HPf C M o, c, s)) rfl ?_
  obtain ⟨r1233, hr1234, h⟩ := Option.bind_eq_some_iff.mp h
  refine mv_E.call (z := 66) (vs := [.ref 18, .int (M.1 5)]) (f' := (114, [some (.ref 18), d1.map .int], [])) (h' := (HPf C M o, c, s)) rfl rfl rfl (t_66 L xs hr1234) (mv_okl rfl) ?_
  refine mv_E.rT (t := mt_83) rfl 1 (f' := (116, [some (.ref 18), d1.map .int], [.int 69, .int r1233])) (h' := (HPf C M o, c, s)) rfl ?_
  by_cases hc1235 : r1233 = 69
  · replace h := (if_pos hc1235).symm.trans h
    refine mv_E.go rfl (mi_icmp_pos hc1235) ?_
    show mv_E (mp L xs) 83 (120, [some (.ref 18), d1.map .int], []) (HPf C M o, c, s) _
    exact tb_83_120 L xs C o c s M d1 _ h
  replace h := (if_neg hc1235).symm.trans h
  refine mv_E.go rfl (mi_icmp_neg hc1235) ?_
  show mv_E (mp L xs) 83 (119, [some (.ref 18), d1.map .int], []) (HPf C M o, c, s) _
  cases h
  exact mv_E.done rfl rfl
def b_83_66 (M : CS) : Option (CS) := (f_66 M (M.1 5)).bind fun r1197 => (if ¬ r1197 = 46 then b_83_93 M else (f_82 (ru (M.1) 5 (((M.1 5) + 1)), M.2)).bind fun r1237 => b_83_93 r1237)
theorem tb_83_66 (L : Nat) (xs : Nat → Int32) (C : CS) (o : Nat → Int64) (c s : Nat) (M : CS) (d1 : Option Int32) (ret : CS) (h : b_83_66 M = some ret) : mv_E (mp L xs) 83 (66, [some (.ref 18), d1.map .int], []) (HPf C M o, c, s) ((.inl none, (HPf C ret o, c, s))) := by
  unfold b_83_66 at h
  refine mv_E.rT (t := mt_83) rfl 3 (f' := (71, [some (.ref 18), d1.map .int], [.int (M.1 5), .ref 18])) (h' := (HPf C M o, c, s)) rfl ?_
  obtain ⟨r1240, hr1241, h⟩ := Option.bind_eq_some_iff.mp h
  refine mv_E.call (z := 66) (vs := [.ref 18, .int (M.1 5)]) (f' := (74, [some (.ref 18), d1.map .int], [])) (h' := (HPf C M o, c, s)) rfl rfl rfl (t_66 L xs hr1241) (mv_okl rfl) ?_
  refine mv_E.rT (t := mt_83) rfl 1 (f' := (76, [some (.ref 18), d1.map .int], [.int 46, .int r1240])) (h' := (HPf C M o, c, s)) rfl ?_
  by_cases hc1244 : ¬ r1240 = 46
  · replace h := (if_pos hc1244).symm.trans h
    refine mv_E.go rfl (mi_icmp_pos hc1244) ?_
    show mv_E (mp L xs) 83 (93, [some (.ref 18), d1.map .int], []) (HPf C M o, c, s) _
    exact tb_83_93 L xs C o c s M d1 _ h
  replace h := (if_neg hc1244).symm.trans h
  refine mv_E.go rfl (mi_icmp_neg hc1244) ?_
  refine mv_E.rT (t := mt_83) rfl 7 (f' := (90, [some (.ref 18), d1.map .int], [.ref 18])) (h' := (HPf C (ru (M.1) 5 (((M.1 5) + 1)), M.2) o, c, s)) rfl ?_
  obtain ⟨r1242, hr1243, h⟩ := Option.bind_eq_some_iff.mp h
  refine mv_E.call (z := 82) (vs := [.ref 18]) (f' := (93, [some (.ref 18), d1.map .int], [])) (h' := (HPf C (ru (M.1) 5 (((M.1 5) + 1)), M.2) o, c, s)) rfl rfl rfl (t_82 L xs hr1243) (mv_okl rfl) ?_
  show mv_E (mp L xs) 83 (93, [some (.ref 18), d1.map .int], []) (HPf C r1242 o, c, s) _
  exact tb_83_93 L xs C o c s r1242 d1 _ h
def b_83_40 (M : CS) (l1 : Int32) : Option (CS) := (if l1 = 0 then b_83_66 M else (f_66 M (M.1 5)).bind fun r1245 => (if (f_74 r1245) = 0 then b_83_66 M else (f_69 M (M.1 5)).bind fun r1247 => b_83_66 r1247))
theorem tb_83_40 (L : Nat) (xs : Nat → Int32) (C : CS) (o : Nat → Int64) (c s : Nat) (M : CS) (l1 : Int32) (ret : CS) (h : b_83_40 M l1 = some ret) : mv_E (mp L xs) 83 (40, [some (.ref 18), some (.int l1)], []) (HPf C M o, c, s) ((.inl none, (HPf C ret o, c, s))) := by
  unfold b_83_40 at h
  refine mv_E.rT (t := mt_83) rfl 1 (f' := (41, [some (.ref 18), some (.int l1)], [.int l1])) (h' := (HPf C M o, c, s)) rfl ?_
  by_cases hc1256 : l1 = 0
  · replace h := (if_pos hc1256).symm.trans h
    refine mv_E.go rfl (mi_if_pos hc1256) ?_
    show mv_E (mp L xs) 83 (66, [some (.ref 18), some (.int l1)], []) (HPf C M o, c, s) _
    exact tb_83_66 L xs C o c s M (some l1) _ h
  replace h := (if_neg hc1256).symm.trans h
  refine mv_E.go rfl (mi_if_neg hc1256) ?_
  refine mv_E.rT (t := mt_83) rfl 3 (f' := (49, [some (.ref 18), some (.int l1)], [.int (M.1 5), .ref 18])) (h' := (HPf C M o, c, s)) rfl ?_
  obtain ⟨r1251, hr1252, h⟩ := Option.bind_eq_some_iff.mp h
  refine mv_E.call (z := 66) (vs := [.ref 18, .int (M.1 5)]) (f' := (52, [some (.ref 18), some (.int l1)], [])) (h' := (HPf C M o, c, s)) rfl rfl rfl (t_66 L xs hr1252) (mv_okl rfl) ?_
  show mv_E (mp L xs) 83 (52, [some (.ref 18), some (.int l1)], [.int r1251]) (HPf C M o, c, s) _
  refine mv_E.call (z := 74) (vs := [.int r1251]) (f' := (55, [some (.ref 18), some (.int l1)], [])) (h' := (HPf C M o, c, s)) rfl rfl rfl (t_74 L xs rfl) (mv_okl rfl) ?_
  show mv_E (mp L xs) 83 (55, [some (.ref 18), some (.int l1)], [.int (f_74 r1251)]) (HPf C M o, c, s) _
  by_cases hc1255 : (f_74 r1251) = 0
  · replace h := (if_pos hc1255).symm.trans h
    refine mv_E.go rfl (mi_if_pos hc1255) ?_
    show mv_E (mp L xs) 83 (66, [some (.ref 18), some (.int l1)], []) (HPf C M o, c, s) _
    exact tb_83_66 L xs C o c s M (some l1) _ h
  replace h := (if_neg hc1255).symm.trans h
  refine mv_E.go rfl (mi_if_neg hc1255) ?_
  refine mv_E.rT (t := mt_83) rfl 3 (f' := (63, [some (.ref 18), some (.int l1)], [.int (M.1 5), .ref 18])) (h' := (HPf C M o, c, s)) rfl ?_
  obtain ⟨r1253, hr1254, h⟩ := Option.bind_eq_some_iff.mp h
  refine mv_E.call (z := 69) (vs := [.ref 18, .int (M.1 5)]) (f' := (66, [some (.ref 18), some (.int l1)], [])) (h' := (HPf C M o, c, s)) rfl rfl rfl (t_69 L xs hr1254) (mv_okl rfl) ?_
  show mv_E (mp L xs) 83 (66, [some (.ref 18), some (.int l1)], []) (HPf C r1253 o, c, s) _
  exact tb_83_66 L xs C o c s r1253 (some l1) _ h
def b_83_18 (M : CS) (s0 : Int32) : Option (CS) := (if s0 = 0 then (f_82 M).bind fun r1195 => b_83_40 r1195 s0 else b_83_40 (ru (M.1) 5 (((M.1 5) + 1)), M.2) s0)
theorem tb_83_18 (L : Nat) (xs : Nat → Int32) (C : CS) (o : Nat → Int64) (c s : Nat) (M : CS) (s0 : Int32) (d1 : Option Int32) (ret : CS) (h : b_83_18 M s0 = some ret) : mv_E (mp L xs) 83 (18, [some (.ref 18), d1.map .int], [.int s0]) (HPf C M o, c, s) ((.inl none, (HPf C ret o, c, s))) := by
  unfold b_83_18 at h
  refine mv_E.rT (t := mt_83) rfl 2 (f' := (20, [some (.ref 18), some (.int s0)], [.int s0])) (h' := (HPf C M o, c, s)) rfl ?_
  by_cases hc1260 : s0 = 0
  · replace h := (if_pos hc1260).symm.trans h
    refine mv_E.go rfl (mi_if_pos hc1260) ?_
    refine mv_E.rT (t := mt_83) rfl 1 (f' := (37, [some (.ref 18), some (.int s0)], [.ref 18])) (h' := (HPf C M o, c, s)) rfl ?_
    obtain ⟨r1258, hr1259, h⟩ := Option.bind_eq_some_iff.mp h
    refine mv_E.call (z := 82) (vs := [.ref 18]) (f' := (40, [some (.ref 18), some (.int s0)], [])) (h' := (HPf C M o, c, s)) rfl rfl rfl (t_82 L xs hr1259) (mv_okl rfl) ?_
    show mv_E (mp L xs) 83 (40, [some (.ref 18), some (.int s0)], []) (HPf C r1258 o, c, s) _
    exact tb_83_40 L xs C o c s r1258 s0 _ h
  replace h := (if_neg hc1260).symm.trans h
  refine mv_E.go rfl (mi_if_neg hc1260) ?_
  refine mv_E.rT (t := mt_83) rfl 7 (f' := (40, [some (.ref 18), some (.int s0)], [])) (h' := (HPf C (ru (M.1) 5 (((M.1 5) + 1)), M.2) o, c, s)) rfl ?_
  exact tb_83_40 L xs C o c s (ru (M.1) 5 (((M.1 5) + 1)), M.2) s0 _ h
def f_83 (M : CS) : Option (CS) := (f_66 M (M.1 5)).bind fun r1187 => (if ¬ r1187 = 48 then b_83_18 M 0 else b_83_18 M 1)
theorem t_83 (L : Nat) (xs : Nat → Int32) {C M : CS} {o : Nat → Int64} {c s : Nat} {ret : CS} (h : f_83 M = some ret) : mv_E (mp L xs) 83 (0, [some (.ref 18), none], []) (HPf C M o, c, s) ((.inl none, (HPf C ret o, c, s))) := by
  unfold f_83 at h
  refine mv_E.rT (t := mt_83) rfl 3 (f' := (5, [some (.ref 18), none], [.int (M.1 5), .ref 18])) (h' := (HPf C M o, c, s)) rfl ?_
  obtain ⟨r1187, hr1188, h⟩ := Option.bind_eq_some_iff.mp h
  refine mv_E.call (z := 66) (vs := [.ref 18, .int (M.1 5)]) (f' := (8, [some (.ref 18), none], [])) (h' := (HPf C M o, c, s)) rfl rfl rfl (t_66 L xs hr1188) (mv_okl rfl) ?_
  refine mv_E.rT (t := mt_83) rfl 1 (f' := (10, [some (.ref 18), none], [.int 48, .int r1187])) (h' := (HPf C M o, c, s)) rfl ?_
  by_cases hc1261 : ¬ r1187 = 48
  · replace h := (if_pos hc1261).symm.trans h
    refine mv_E.go rfl (mi_icmp_pos hc1261) ?_
    refine mv_E.rT (t := mt_83) rfl 1 (f' := (18, [some (.ref 18), none], [.int 0])) (h' := (HPf C M o, c, s)) rfl ?_
    exact tb_83_18 L xs C o c s M 0 none _ h
  replace h := (if_neg hc1261).symm.trans h
  refine mv_E.go rfl (mi_icmp_neg hc1261) ?_
  refine mv_E.rT (t := mt_83) rfl 2 (f' := (18, [some (.ref 18), none], [.int 1])) (h' := (HPf C M o, c, s)) rfl ?_
  exact tb_83_18 L xs C o c s M 1 none _ h
def b_84_165 : Nat → CS → Int32 → Option (CS)
  | 0, _, _ => none
  | n + 1, M, l1 => (if (M.1 5) ≤ l1 then some M else if mv_in l1 2000 = true then (f_77 M ((M.2 0) l1.toNatClampNeg)).bind fun r1269 => (b_84_165 n) r1269 (l1 + 1) else none)
theorem tb_84_165 (L : Nat) (xs : Nat → Int32) (C : CS) (o : Nat → Int64) (c s : Nat) : ∀ (n : Nat) (M : CS) (l1 : Int32) (ret : CS), b_84_165 n M l1 = some ret → mv_E (mp L xs) 84 (165, [some (.ref 18), some (.int l1)], []) (HPf C M o, c, s) ((.inl none, (HPf C ret o, c, s))) := by
  intro n
  induction n with
  | zero => intro M l1 ret h; rw [b_84_165] at h; cases h
  | succ n ih =>
    intro M l1 ret h
    rw [b_84_165] at h
    refine mv_E.rT (t := mt_84) rfl 3 (f' := (170, [some (.ref 18), some (.int l1)], [.int (M.1 5), .int l1])) (h' := (HPf C M o, c, s)) rfl ?_
    by_cases hc1275 : (M.1 5) ≤ l1
    · replace h := (if_pos hc1275).symm.trans h
      refine mv_E.go rfl (mi_icmp_pos hc1275) ?_
      show mv_E (mp L xs) 84 (189, [some (.ref 18), some (.int l1)], []) (HPf C M o, c, s) _
      cases h
      exact mv_E.done rfl rfl
    replace h := (if_neg hc1275).symm.trans h
    refine mv_E.go rfl (mi_icmp_neg hc1275) ?_
    refine mv_E.rT (t := mt_84) rfl 4 (f' := (179, [some (.ref 18), some (.int l1)], [.int l1, .ref 19, .ref 18])) (h' := (HPf C M o, c, s)) rfl ?_
    by_cases hb1272 : mv_in l1 2000 = true
    rotate_left
    · cases (if_neg hb1272).symm.trans h
    replace h := (if_pos hb1272).symm.trans h
    refine mv_E.go rfl (mi_iald_at rfl hb1272) ?_
    show mv_E (mp L xs) 84 (180, [some (.ref 18), some (.int l1)], [.int ((M.2 0) l1.toNatClampNeg), .ref 18]) (HPf C M o, c, s) _
    obtain ⟨r1273, hr1274, h⟩ := Option.bind_eq_some_iff.mp h
    refine mv_E.call (z := 77) (vs := [.ref 18, .int ((M.2 0) l1.toNatClampNeg)]) (f' := (183, [some (.ref 18), some (.int l1)], [])) (h' := (HPf C M o, c, s)) rfl rfl rfl (t_77 L xs hr1274) (mv_okl rfl) ?_
    refine mv_E.rT (t := mt_84) rfl 2 (f' := (165, [some (.ref 18), some (.int (l1 + 1))], [])) (h' := (HPf C r1273 o, c, s)) rfl ?_
    exact ih r1273 (l1 + 1) _ h
def b_84_160 (M : CS) : Option (CS) := b_84_165 fu M (M.1 7)
theorem tb_84_160 (L : Nat) (xs : Nat → Int32) (C : CS) (o : Nat → Int64) (c s : Nat) (M : CS) (d1 : Option Int32) (ret : CS) (h : b_84_160 M = some ret) : mv_E (mp L xs) 84 (160, [some (.ref 18), d1.map .int], []) (HPf C M o, c, s) ((.inl none, (HPf C ret o, c, s))) := by
  unfold b_84_160 at h
  refine mv_E.rT (t := mt_84) rfl 3 (f' := (165, [some (.ref 18), some (.int (M.1 7))], [])) (h' := (HPf C M o, c, s)) rfl ?_
  exact tb_84_165 L xs C o c s fu M (M.1 7) _ h
def b_84_152 (M : CS) : Option (CS) := (f_69 M (M.1 5)).bind fun r1266 => b_84_160 r1266
theorem tb_84_152 (L : Nat) (xs : Nat → Int32) (C : CS) (o : Nat → Int64) (c s : Nat) (M : CS) (d1 : Option Int32) (ret : CS) (h : b_84_152 M = some ret) : mv_E (mp L xs) 84 (152, [some (.ref 18), d1.map .int], []) (HPf C M o, c, s) ((.inl none, (HPf C ret o, c, s))) := by
  unfold b_84_152 at h
  refine mv_E.rT (t := mt_84) rfl 3 (f' := (157, [some (.ref 18), d1.map .int], [.int (M.1 5), .ref 18])) (h' := (HPf C M o, c, s)) rfl ?_
  obtain ⟨r1276, hr1277, h⟩ := Option.bind_eq_some_iff.mp h
  refine mv_E.call (z := 69) (vs := [.ref 18, .int (M.1 5)]) (f' := (160, [some (.ref 18), d1.map .int], [])) (h' := (HPf C M o, c, s)) rfl rfl rfl (t_69 L xs hr1277) (mv_okl rfl) ?_
  show mv_E (mp L xs) 84 (160, [some (.ref 18), d1.map .int], []) (HPf C r1276 o, c, s) _
  exact tb_84_160 L xs C o c s r1276 d1 _ h
def b_84_111 (M : CS) : Option (CS) := (f_66 M (M.1 5)).bind fun r1264 => (if ¬ (f_73 r1264) = 0 then b_84_152 M else (f_66 M (M.1 5)).bind fun r1278 => (if ¬ (f_74 r1278) = 0 then b_84_152 M else (f_66 M (M.1 5)).bind fun r1280 => (if ¬ r1280 = 92 then b_84_160 M else b_84_152 M)))
theorem tb_84_111 (L : Nat) (xs : Nat → Int32) (C : CS) (o : Nat → Int64) (c s : Nat) (M : CS) (d1 : Option Int32) (ret : CS) (h : b_84_111 M = some ret) : mv_E (mp L xs) 84 (111, [some (.ref 18), d1.map .int], []) (HPf C M o, c, s) ((.inl none, (HPf C ret o, c, s))) := by
  unfold b_84_111 at h
  refine mv_E.rT (t := mt_84) rfl 3 (f' := (116, [some (.ref 18), d1.map .int], [.int (M.1 5), .ref 18])) (h' := (HPf C M o, c, s)) rfl ?_
  obtain ⟨r1285, hr1286, h⟩ := Option.bind_eq_some_iff.mp h
  refine mv_E.call (z := 66) (vs := [.ref 18, .int (M.1 5)]) (f' := (119, [some (.ref 18), d1.map .int], [])) (h' := (HPf C M o, c, s)) rfl rfl rfl (t_66 L xs hr1286) (mv_okl rfl) ?_
  show mv_E (mp L xs) 84 (119, [some (.ref 18), d1.map .int], [.int r1285]) (HPf C M o, c, s) _
  refine mv_E.call (z := 73) (vs := [.int r1285]) (f' := (122, [some (.ref 18), d1.map .int], [])) (h' := (HPf C M o, c, s)) rfl rfl rfl (t_73 L xs rfl) (mv_okl rfl) ?_
  show mv_E (mp L xs) 84 (122, [some (.ref 18), d1.map .int], [.int (f_73 r1285)]) (HPf C M o, c, s) _
  by_cases hc1293 : ¬ (f_73 r1285) = 0
  · replace h := (if_pos hc1293).symm.trans h
    refine mv_E.go rfl (mi_if_pos hc1293) ?_
    show mv_E (mp L xs) 84 (152, [some (.ref 18), d1.map .int], []) (HPf C M o, c, s) _
    exact tb_84_152 L xs C o c s M d1 _ h
  replace h := (if_neg hc1293).symm.trans h
  refine mv_E.go rfl (mi_if_neg hc1293) ?_
  refine mv_E.rT (t := mt_84) rfl 3 (f' := (130, [some (.ref 18), d1.map .int], [.int (M.1 5), .ref 18])) (h' := (HPf C M o, c, s)) rfl ?_
  obtain ⟨r1287, hr1288, h⟩ := Option.bind_eq_some_iff.mp h
  refine mv_E.call (z := 66) (vs := [.ref 18, .int (M.1 5)]) (f' := (133, [some (.ref 18), d1.map .int], [])) (h' := (HPf C M o, c, s)) rfl rfl rfl (t_66 L xs hr1288) (mv_okl rfl) ?_
  show mv_E (mp L xs) 84 (133, [some (.ref 18), d1.map .int], [.int r1287]) (HPf C M o, c, s) _
  refine mv_E.call (z := 74) (vs := [.int r1287]) (f' := (136, [some (.ref 18), d1.map .int], [])) (h' := (HPf C M o, c, s)) rfl rfl rfl (t_74 L xs rfl) (mv_okl rfl) ?_
  show mv_E (mp L xs) 84 (136, [some (.ref 18), d1.map .int], [.int (f_74 r1287)]) (HPf C M o, c, s) _
  by_cases hc1292 : ¬ (f_74 r1287) = 0
  · replace h := (if_pos hc1292).symm.trans h
    refine mv_E.go rfl (mi_if_pos hc1292) ?_
    show mv_E (mp L xs) 84 (152, [some (.ref 18), d1.map .int], []) (HPf C M o, c, s) _
    exact tb_84_152 L xs C o c s M d1 _ h
  replace h := (if_neg hc1292).symm.trans h
  refine mv_E.go rfl (mi_if_neg hc1292) ?_
  refine mv_E.rT (t := mt_84) rfl 3 (f' := (144, [some (.ref 18), d1.map .int], [.int (M.1 5), .ref 18])) (h' := (HPf C M o, c, s)) rfl ?_
  obtain ⟨r1289, hr1290, h⟩ := Option.bind_eq_some_iff.mp h
  refine mv_E.call (z := 66) (vs := [.ref 18, .int (M.1 5)]) (f' := (147, [some (.ref 18), d1.map .int], [])) (h' := (HPf C M o, c, s)) rfl rfl rfl (t_66 L xs hr1290) (mv_okl rfl) ?_
  refine mv_E.rT (t := mt_84) rfl 1 (f' := (149, [some (.ref 18), d1.map .int], [.int 92, .int r1289])) (h' := (HPf C M o, c, s)) rfl ?_
  by_cases hc1291 : ¬ r1289 = 92
  · replace h := (if_pos hc1291).symm.trans h
    refine mv_E.go rfl (mi_icmp_pos hc1291) ?_
    show mv_E (mp L xs) 84 (160, [some (.ref 18), d1.map .int], []) (HPf C M o, c, s) _
    exact tb_84_160 L xs C o c s M d1 _ h
  replace h := (if_neg hc1291).symm.trans h
  refine mv_E.go rfl (mi_icmp_neg hc1291) ?_
  show mv_E (mp L xs) 84 (152, [some (.ref 18), d1.map .int], []) (HPf C M o, c, s) _
  exact tb_84_152 L xs C o c s M d1 _ h
def b_84_107 (M : CS) : Option (CS) := (f_83 M).bind fun r1262 => b_84_111 r1262
theorem tb_84_107 (L : Nat) (xs : Nat → Int32) (C : CS) (o : Nat → Int64) (c s : Nat) (M : CS) (d1 : Option Int32) (ret : CS) (h : b_84_107 M = some ret) : mv_E (mp L xs) 84 (107, [some (.ref 18), d1.map .int], []) (HPf C M o, c, s) ((.inl none, (HPf C ret o, c, s))) := by
  unfold b_84_107 at h
  refine mv_E.rT (t := mt_84) rfl 1 (f' := (108, [some (.ref 18), d1.map .int], [.ref 18])) (h' := (HPf C M o, c, s)) rfl ?_
  obtain ⟨r1294, hr1295, h⟩ := Option.bind_eq_some_iff.mp h
  refine mv_E.call (z := 83) (vs := [.ref 18]) (f' := (111, [some (.ref 18), d1.map .int], [])) (h' := (HPf C M o, c, s)) rfl rfl rfl (t_83 L xs hr1295) (mv_okl rfl) ?_
  show mv_E (mp L xs) 84 (111, [some (.ref 18), d1.map .int], []) (HPf C r1294 o, c, s) _
  exact tb_84_111 L xs C o c s r1294 d1 _ h
def b_84_80 : Nat → CS → Option (CS)
  | 0, _ => none
  | n + 1, M => (f_66 M (M.1 5)).bind fun r1300 => (if (f_75 r1300) < 0 then b_84_111 M else (b_84_80 n) (ru (M.1) 5 (((M.1 5) + 1)), M.2))
theorem tb_84_80 (L : Nat) (xs : Nat → Int32) (C : CS) (o : Nat → Int64) (c s : Nat) : ∀ (n : Nat) (M : CS)  (d1 : Option Int32) (ret : CS), b_84_80 n M = some ret → mv_E (mp L xs) 84 (80, [some (.ref 18), d1.map .int], []) (HPf C M o, c, s) ((.inl none, (HPf C ret o, c, s))) := by
  intro n
  induction n with
  | zero => intro M d1 ret h; rw [b_84_80] at h; cases h
  | succ n ih =>
    intro M d1 ret h
    rw [b_84_80] at h
    refine mv_E.rT (t := mt_84) rfl 3 (f' := (85, [some (.ref 18), d1.map .int], [.int (M.1 5), .ref 18])) (h' := (HPf C M o, c, s)) rfl ?_
    obtain ⟨r1303, hr1304, h⟩ := Option.bind_eq_some_iff.mp h
    refine mv_E.call (z := 66) (vs := [.ref 18, .int (M.1 5)]) (f' := (88, [some (.ref 18), d1.map .int], [])) (h' := (HPf C M o, c, s)) rfl rfl rfl (t_66 L xs hr1304) (mv_okl rfl) ?_
    show mv_E (mp L xs) 84 (88, [some (.ref 18), d1.map .int], [.int r1303]) (HPf C M o, c, s) _
    refine mv_E.call (z := 75) (vs := [.int r1303]) (f' := (91, [some (.ref 18), d1.map .int], [])) (h' := (HPf C M o, c, s)) rfl rfl rfl (t_75 L xs rfl) (mv_okl rfl) ?_
    show mv_E (mp L xs) 84 (91, [some (.ref 18), d1.map .int], [.int (f_75 r1303)]) (HPf C M o, c, s) _
    by_cases hc1305 : (f_75 r1303) < 0
    · replace h := (if_pos hc1305).symm.trans h
      refine mv_E.go rfl (mi_if_pos hc1305) ?_
      show mv_E (mp L xs) 84 (111, [some (.ref 18), d1.map .int], []) (HPf C M o, c, s) _
      exact tb_84_111 L xs C o c s M d1 _ h
    replace h := (if_neg hc1305).symm.trans h
    refine mv_E.go rfl (mi_if_neg hc1305) ?_
    refine mv_E.rT (t := mt_84) rfl 7 (f' := (80, [some (.ref 18), d1.map .int], [])) (h' := (HPf C (ru (M.1) 5 (((M.1 5) + 1)), M.2) o, c, s)) rfl ?_
    exact ih (ru (M.1) 5 (((M.1 5) + 1)), M.2) d1 _ h
def b_84_48 (M : CS) : Option (CS) := (f_66 (ru (M.1) 5 (((M.1 5) + 2)), M.2) ((M.1 5) + 2)).bind fun r1298 => (if 0 ≤ (f_75 r1298) then b_84_80 fu (ru (M.1) 5 (((M.1 5) + 2)), M.2) else (f_69 (ru (M.1) 5 (((M.1 5) + 2)), M.2) ((M.1 5) + 2)).bind fun r1306 => b_84_80 fu r1306)
theorem tb_84_48 (L : Nat) (xs : Nat → Int32) (C : CS) (o : Nat → Int64) (c s : Nat) (M : CS) (d1 : Option Int32) (ret : CS) (h : b_84_48 M = some ret) : mv_E (mp L xs) 84 (48, [some (.ref 18), d1.map .int], []) (HPf C M o, c, s) ((.inl none, (HPf C ret o, c, s))) := by
  unfold b_84_48 at h
  refine mv_E.rT (t := mt_84) rfl 9 (f' := (63, [some (.ref 18), d1.map .int], [.int ((M.1 5) + 2), .ref 18])) (h' := (HPf C (ru (M.1) 5 (((M.1 5) + 2)), M.2) o, c, s)) rfl ?_
  obtain ⟨r1309, hr1310, h⟩ := Option.bind_eq_some_iff.mp h
  refine mv_E.call (z := 66) (vs := [.ref 18, .int ((M.1 5) + 2)]) (f' := (66, [some (.ref 18), d1.map .int], [])) (h' := (HPf C (ru (M.1) 5 (((M.1 5) + 2)), M.2) o, c, s)) rfl rfl rfl (t_66 L xs hr1310) (mv_okl rfl) ?_
  show mv_E (mp L xs) 84 (66, [some (.ref 18), d1.map .int], [.int r1309]) (HPf C (ru (M.1) 5 (((M.1 5) + 2)), M.2) o, c, s) _
  refine mv_E.call (z := 75) (vs := [.int r1309]) (f' := (69, [some (.ref 18), d1.map .int], [])) (h' := (HPf C (ru (M.1) 5 (((M.1 5) + 2)), M.2) o, c, s)) rfl rfl rfl (t_75 L xs rfl) (mv_okl rfl) ?_
  show mv_E (mp L xs) 84 (69, [some (.ref 18), d1.map .int], [.int (f_75 r1309)]) (HPf C (ru (M.1) 5 (((M.1 5) + 2)), M.2) o, c, s) _
  by_cases hc1313 : 0 ≤ (f_75 r1309)
  · replace h := (if_pos hc1313).symm.trans h
    refine mv_E.go rfl (mi_if_pos hc1313) ?_
    show mv_E (mp L xs) 84 (80, [some (.ref 18), d1.map .int], []) (HPf C (ru (M.1) 5 (((M.1 5) + 2)), M.2) o, c, s) _
    exact tb_84_80 L xs C o c s fu (ru (M.1) 5 (((M.1 5) + 2)), M.2) d1 _ h
  replace h := (if_neg hc1313).symm.trans h
  refine mv_E.go rfl (mi_if_neg hc1313) ?_
  refine mv_E.rT (t := mt_84) rfl 3 (f' := (77, [some (.ref 18), d1.map .int], [.int ((M.1 5) + 2), .ref 18])) (h' := (HPf C (ru (M.1) 5 (((M.1 5) + 2)), M.2) o, c, s)) rfl ?_
  obtain ⟨r1311, hr1312, h⟩ := Option.bind_eq_some_iff.mp h
  refine mv_E.call (z := 69) (vs := [.ref 18, .int ((M.1 5) + 2)]) (f' := (80, [some (.ref 18), d1.map .int], [])) (h' := (HPf C (ru (M.1) 5 (((M.1 5) + 2)), M.2) o, c, s)) rfl rfl rfl (t_69 L xs hr1312) (mv_okl rfl) ?_
  show mv_E (mp L xs) 84 (80, [some (.ref 18), d1.map .int], []) (HPf C r1311 o, c, s) _
  exact tb_84_80 L xs C o c s fu r1311 d1 _ h
def f_84 (M : CS) : Option (CS) := (f_66 (ru (M.1) 6 (2), M.2) (M.1 5)).bind fun r1185 => (if ¬ r1185 = 48 then b_84_107 (ru (M.1) 6 (2), M.2) else (f_66 (ru (M.1) 6 (2), M.2) ((M.1 5) + 1)).bind fun r1296 => (if r1296 = 120 then b_84_48 (ru (M.1) 6 (2), M.2) else (f_66 (ru (M.1) 6 (2), M.2) ((M.1 5) + 1)).bind fun r1314 => (if ¬ r1314 = 88 then b_84_107 (ru (M.1) 6 (2), M.2) else b_84_48 (ru (M.1) 6 (2), M.2))))
theorem t_84 (L : Nat) (xs : Nat → Int32) {C M : CS} {o : Nat → Int64} {c s : Nat} {ret : CS} (h : f_84 M = some ret) : mv_E (mp L xs) 84 (0, [some (.ref 18), none], []) (HPf C M o, c, s) ((.inl none, (HPf C ret o, c, s))) := by
  unfold f_84 at h
  refine mv_E.rT (t := mt_84) rfl 6 (f' := (10, [some (.ref 18), none], [.int (M.1 5), .ref 18])) (h' := (HPf C (ru (M.1) 6 (2), M.2) o, c, s)) rfl ?_
  obtain ⟨r1185, hr1186, h⟩ := Option.bind_eq_some_iff.mp h
  refine mv_E.call (z := 66) (vs := [.ref 18, .int (M.1 5)]) (f' := (13, [some (.ref 18), none], [])) (h' := (HPf C (ru (M.1) 6 (2), M.2) o, c, s)) rfl rfl rfl (t_66 L xs hr1186) (mv_okl rfl) ?_
  refine mv_E.rT (t := mt_84) rfl 1 (f' := (15, [some (.ref 18), none], [.int 48, .int r1185])) (h' := (HPf C (ru (M.1) 6 (2), M.2) o, c, s)) rfl ?_
  by_cases hc1318 : ¬ r1185 = 48
  · replace h := (if_pos hc1318).symm.trans h
    refine mv_E.go rfl (mi_icmp_pos hc1318) ?_
    show mv_E (mp L xs) 84 (107, [some (.ref 18), none], []) (HPf C (ru (M.1) 6 (2), M.2) o, c, s) _
    exact tb_84_107 L xs C o c s (ru (M.1) 6 (2), M.2) none _ h
  replace h := (if_neg hc1318).symm.trans h
  refine mv_E.go rfl (mi_icmp_neg hc1318) ?_
  refine mv_E.rT (t := mt_84) rfl 5 (f' := (25, [some (.ref 18), none], [.int ((M.1 5) + 1), .ref 18])) (h' := (HPf C (ru (M.1) 6 (2), M.2) o, c, s)) rfl ?_
  obtain ⟨r1296, hr1297, h⟩ := Option.bind_eq_some_iff.mp h
  refine mv_E.call (z := 66) (vs := [.ref 18, .int ((M.1 5) + 1)]) (f' := (28, [some (.ref 18), none], [])) (h' := (HPf C (ru (M.1) 6 (2), M.2) o, c, s)) rfl rfl rfl (t_66 L xs hr1297) (mv_okl rfl) ?_
  refine mv_E.rT (t := mt_84) rfl 1 (f' := (30, [some (.ref 18), none], [.int 120, .int r1296])) (h' := (HPf C (ru (M.1) 6 (2), M.2) o, c, s)) rfl ?_
  by_cases hc1317 : r1296 = 120
  · replace h := (if_pos hc1317).symm.trans h
    refine mv_E.go rfl (mi_icmp_pos hc1317) ?_
    show mv_E (mp L xs) 84 (48, [some (.ref 18), none], []) (HPf C (ru (M.1) 6 (2), M.2) o, c, s) _
    exact tb_84_48 L xs C o c s (ru (M.1) 6 (2), M.2) none _ h
  replace h := (if_neg hc1317).symm.trans h
  refine mv_E.go rfl (mi_icmp_neg hc1317) ?_
  refine mv_E.rT (t := mt_84) rfl 5 (f' := (40, [some (.ref 18), none], [.int ((M.1 5) + 1), .ref 18])) (h' := (HPf C (ru (M.1) 6 (2), M.2) o, c, s)) rfl ?_
  obtain ⟨r1314, hr1315, h⟩ := Option.bind_eq_some_iff.mp h
  refine mv_E.call (z := 66) (vs := [.ref 18, .int ((M.1 5) + 1)]) (f' := (43, [some (.ref 18), none], [])) (h' := (HPf C (ru (M.1) 6 (2), M.2) o, c, s)) rfl rfl rfl (t_66 L xs hr1315) (mv_okl rfl) ?_
  refine mv_E.rT (t := mt_84) rfl 1 (f' := (45, [some (.ref 18), none], [.int 88, .int r1314])) (h' := (HPf C (ru (M.1) 6 (2), M.2) o, c, s)) rfl ?_
  by_cases hc1316 : ¬ r1314 = 88
  · replace h := (if_pos hc1316).symm.trans h
    refine mv_E.go rfl (mi_icmp_pos hc1316) ?_
    show mv_E (mp L xs) 84 (107, [some (.ref 18), none], []) (HPf C (ru (M.1) 6 (2), M.2) o, c, s) _
    exact tb_84_107 L xs C o c s (ru (M.1) 6 (2), M.2) none _ h
  replace h := (if_neg hc1316).symm.trans h
  refine mv_E.go rfl (mi_icmp_neg hc1316) ?_
  show mv_E (mp L xs) 84 (48, [some (.ref 18), none], []) (HPf C (ru (M.1) 6 (2), M.2) o, c, s) _
  exact tb_84_48 L xs C o c s (ru (M.1) 6 (2), M.2) none _ h
def b_85_153 (M : CS) (s0 : Int32) : Option (CS) := (f_76 M (M.1 5) s0).bind fun r1336 => (f_77 r1336.2 r1336.1).bind fun r1338 => some (ru (r1338.1) 5 (((r1338.1 5) + s0)), r1338.2)
theorem tb_85_153 (L : Nat) (xs : Nat → Int32) (C : CS) (o : Nat → Int64) (c s : Nat) (M : CS) (s0 : Int32) (d1 : Option Int32) (d2 : Option Int32) (ret : CS) (h : b_85_153 M s0 = some ret) : mv_E (mp L xs) 85 (153, [some (.ref 18), d1.map .int, d2.map .int], [.int s0]) (HPf C M o, c, s) ((.inl none, (HPf C ret o, c, s))) := by
  unfold b_85_153 at h
  rcases d1 with _ | d1
  · refine mv_E.rT (t := mt_85) rfl 6 (f' := (161, [some (.ref 18), none, some (.int s0)], [.int s0, .int (M.1 5), .ref 18, .ref 18])) (h' := (HPf C M o, c, s)) rfl ?_
    obtain ⟨r1340, hr1341, h⟩ := Option.bind_eq_some_iff.mp h
    refine mv_E.call (z := 76) (vs := [.ref 18, .int (M.1 5), .int s0]) (f' := (164, [some (.ref 18), none, some (.int s0)], [.ref 18])) (h' := (HPf C M o, c, s)) rfl rfl rfl (t_76 L xs hr1341) (mv_okl rfl) ?_
    show mv_E (mp L xs) 85 (164, [some (.ref 18), none, some (.int s0)], [.int r1340.1, .ref 18]) (HPf C r1340.2 o, c, s) _
    obtain ⟨r1342, hr1343, h⟩ := Option.bind_eq_some_iff.mp h
    refine mv_E.call (z := 77) (vs := [.ref 18, .int r1340.1]) (f' := (167, [some (.ref 18), none, some (.int s0)], [])) (h' := (HPf C r1340.2 o, c, s)) rfl rfl rfl (t_77 L xs hr1343) (mv_okl rfl) ?_
    refine mv_E.rT (t := mt_85) rfl 7 (f' := (251, [some (.ref 18), none, some (.int s0)], [])) (h' := (HPf C (ru (r1342.1) 5 (((r1342.1 5) + s0)), r1342.2) o, c, s)) rfl ?_
    cases h
    exact mv_E.done rfl rfl
  · refine mv_E.rT (t := mt_85) rfl 6 (f' := (161, [some (.ref 18), some (.int d1), some (.int s0)], [.int s0, .int (M.1 5), .ref 18, .ref 18])) (h' := (HPf C M o, c, s)) rfl ?_
    obtain ⟨r1344, hr1345, h⟩ := Option.bind_eq_some_iff.mp h
    refine mv_E.call (z := 76) (vs := [.ref 18, .int (M.1 5), .int s0]) (f' := (164, [some (.ref 18), some (.int d1), some (.int s0)], [.ref 18])) (h' := (HPf C M o, c, s)) rfl rfl rfl (t_76 L xs hr1345) (mv_okl rfl) ?_
    show mv_E (mp L xs) 85 (164, [some (.ref 18), some (.int d1), some (.int s0)], [.int r1344.1, .ref 18]) (HPf C r1344.2 o, c, s) _
    obtain ⟨r1346, hr1347, h⟩ := Option.bind_eq_some_iff.mp h
    refine mv_E.call (z := 77) (vs := [.ref 18, .int r1344.1]) (f' := (167, [some (.ref 18), some (.int d1), some (.int s0)], [])) (h' := (HPf C r1344.2 o, c, s)) rfl rfl rfl (t_77 L xs hr1347) (mv_okl rfl) ?_
    refine mv_E.rT (t := mt_85) rfl 7 (f' := (251, [some (.ref 18), some (.int d1), some (.int s0)], [])) (h' := (HPf C (ru (r1346.1) 5 (((r1346.1 5) + s0)), r1346.2) o, c, s)) rfl ?_
    cases h
    exact mv_E.done rfl rfl
def b_85_142 (M : CS) (l1 : Int32) : Option (CS) := (if ¬ l1 = 120 then b_85_153 M 4 else b_85_153 M 2)
theorem tb_85_142 (L : Nat) (xs : Nat → Int32) (C : CS) (o : Nat → Int64) (c s : Nat) (M : CS) (l1 : Int32) (d2 : Option Int32) (ret : CS) (h : b_85_142 M l1 = some ret) : mv_E (mp L xs) 85 (142, [some (.ref 18), some (.int l1), d2.map .int], []) (HPf C M o, c, s) ((.inl none, (HPf C ret o, c, s))) := by
  unfold b_85_142 at h
  refine mv_E.rT (t := mt_85) rfl 2 (f' := (145, [some (.ref 18), some (.int l1), d2.map .int], [.int 120, .int l1])) (h' := (HPf C M o, c, s)) rfl ?_
  by_cases hc1349 : ¬ l1 = 120
  · replace h := (if_pos hc1349).symm.trans h
    refine mv_E.go rfl (mi_icmp_pos hc1349) ?_
    refine mv_E.rT (t := mt_85) rfl 1 (f' := (153, [some (.ref 18), some (.int l1), d2.map .int], [.int 4])) (h' := (HPf C M o, c, s)) rfl ?_
    exact tb_85_153 L xs C o c s M 4 (some l1) d2 _ h
  replace h := (if_neg hc1349).symm.trans h
  refine mv_E.go rfl (mi_icmp_neg hc1349) ?_
  refine mv_E.rT (t := mt_85) rfl 2 (f' := (153, [some (.ref 18), some (.int l1), d2.map .int], [.int 2])) (h' := (HPf C M o, c, s)) rfl ?_
  exact tb_85_153 L xs C o c s M 2 (some l1) d2 _ h
def b_85_248 (M : CS) (s0 : Int32) : Option (CS) := (f_77 M s0).bind fun r1350 => some r1350
theorem tb_85_248 (L : Nat) (xs : Nat → Int32) (C : CS) (o : Nat → Int64) (c s : Nat) (M : CS) (s0 : Int32) (d1 : Option Int32) (d2 : Option Int32) (ret : CS) (h : b_85_248 M s0 = some ret) : mv_E (mp L xs) 85 (248, [some (.ref 18), d1.map .int, d2.map .int], [.int s0, .ref 18]) (HPf C M o, c, s) ((.inl none, (HPf C ret o, c, s))) := by
  unfold b_85_248 at h
  show mv_E (mp L xs) 85 (248, [some (.ref 18), d1.map .int, d2.map .int], [.int s0, .ref 18]) (HPf C M o, c, s) _
  obtain ⟨r1352, hr1353, h⟩ := Option.bind_eq_some_iff.mp h
  refine mv_E.call (z := 77) (vs := [.ref 18, .int s0]) (f' := (251, [some (.ref 18), d1.map .int, d2.map .int], [])) (h' := (HPf C M o, c, s)) rfl rfl rfl (t_77 L xs hr1353) (mv_okl rfl) ?_
  show mv_E (mp L xs) 85 (251, [some (.ref 18), d1.map .int, d2.map .int], []) (HPf C r1352 o, c, s) _
  cases h
  exact mv_E.done rfl rfl
def b_85_122 (M : CS) : Option (CS) := (f_77 M 0).bind fun r1364 => some r1364
theorem tb_85_122 (L : Nat) (xs : Nat → Int32) (C : CS) (o : Nat → Int64) (c s : Nat) (M : CS) (d1 : Option Int32) (d2 : Option Int32) (ret : CS) (h : b_85_122 M = some ret) : mv_E (mp L xs) 85 (122, [some (.ref 18), d1.map .int, d2.map .int], []) (HPf C M o, c, s) ((.inl none, (HPf C ret o, c, s))) := by
  unfold b_85_122 at h
  refine mv_E.rT (t := mt_85) rfl 2 (f' := (124, [some (.ref 18), d1.map .int, d2.map .int], [.int 0, .ref 18])) (h' := (HPf C M o, c, s)) rfl ?_
  obtain ⟨r1366, hr1367, h⟩ := Option.bind_eq_some_iff.mp h
  refine mv_E.call (z := 77) (vs := [.ref 18, .int 0]) (f' := (127, [some (.ref 18), d1.map .int, d2.map .int], [])) (h' := (HPf C M o, c, s)) rfl rfl rfl (t_77 L xs hr1367) (mv_okl rfl) ?_
  refine mv_E.rT (t := mt_85) rfl 1 (f' := (251, [some (.ref 18), d1.map .int, d2.map .int], [])) (h' := (HPf C r1366 o, c, s)) rfl ?_
  cases h
  exact mv_E.done rfl rfl
def b_85_100 (M : CS) : Option (CS) := (f_66 M (M.1 5)).bind fun r1362 => (if (f_74 r1362) = 0 then b_85_122 M else (f_69 M (M.1 5)).bind fun r1368 => b_85_122 r1368)
theorem tb_85_100 (L : Nat) (xs : Nat → Int32) (C : CS) (o : Nat → Int64) (c s : Nat) (M : CS) (d1 : Option Int32) (d2 : Option Int32) (ret : CS) (h : b_85_100 M = some ret) : mv_E (mp L xs) 85 (100, [some (.ref 18), d1.map .int, d2.map .int], []) (HPf C M o, c, s) ((.inl none, (HPf C ret o, c, s))) := by
  unfold b_85_100 at h
  refine mv_E.rT (t := mt_85) rfl 3 (f' := (105, [some (.ref 18), d1.map .int, d2.map .int], [.int (M.1 5), .ref 18])) (h' := (HPf C M o, c, s)) rfl ?_
  obtain ⟨r1371, hr1372, h⟩ := Option.bind_eq_some_iff.mp h
  refine mv_E.call (z := 66) (vs := [.ref 18, .int (M.1 5)]) (f' := (108, [some (.ref 18), d1.map .int, d2.map .int], [])) (h' := (HPf C M o, c, s)) rfl rfl rfl (t_66 L xs hr1372) (mv_okl rfl) ?_
  show mv_E (mp L xs) 85 (108, [some (.ref 18), d1.map .int, d2.map .int], [.int r1371]) (HPf C M o, c, s) _
  refine mv_E.call (z := 74) (vs := [.int r1371]) (f' := (111, [some (.ref 18), d1.map .int, d2.map .int], [])) (h' := (HPf C M o, c, s)) rfl rfl rfl (t_74 L xs rfl) (mv_okl rfl) ?_
  show mv_E (mp L xs) 85 (111, [some (.ref 18), d1.map .int, d2.map .int], [.int (f_74 r1371)]) (HPf C M o, c, s) _
  by_cases hc1375 : (f_74 r1371) = 0
  · replace h := (if_pos hc1375).symm.trans h
    refine mv_E.go rfl (mi_if_pos hc1375) ?_
    show mv_E (mp L xs) 85 (122, [some (.ref 18), d1.map .int, d2.map .int], []) (HPf C M o, c, s) _
    exact tb_85_122 L xs C o c s M d1 d2 _ h
  replace h := (if_neg hc1375).symm.trans h
  refine mv_E.go rfl (mi_if_neg hc1375) ?_
  refine mv_E.rT (t := mt_85) rfl 3 (f' := (119, [some (.ref 18), d1.map .int, d2.map .int], [.int (M.1 5), .ref 18])) (h' := (HPf C M o, c, s)) rfl ?_
  obtain ⟨r1373, hr1374, h⟩ := Option.bind_eq_some_iff.mp h
  refine mv_E.call (z := 69) (vs := [.ref 18, .int (M.1 5)]) (f' := (122, [some (.ref 18), d1.map .int, d2.map .int], [])) (h' := (HPf C M o, c, s)) rfl rfl rfl (t_69 L xs hr1374) (mv_okl rfl) ?_
  show mv_E (mp L xs) 85 (122, [some (.ref 18), d1.map .int, d2.map .int], []) (HPf C r1373 o, c, s) _
  exact tb_85_122 L xs C o c s r1373 d1 d2 _ h
def b_85_65 (M : CS) (l1 : Int32) : Option (CS) := (if ¬ (f_68 l1) = 0 then some M else (if 0 ≤ l1 then (if (f_74 l1) = 0 then (if l1 = 120 then b_85_142 M l1 else (if ¬ l1 = 117 then (if ¬ l1 = 98 then (if ¬ l1 = 116 then (if ¬ l1 = 110 then (if ¬ l1 = 118 then (if ¬ l1 = 102 then (if ¬ l1 = 114 then b_85_248 M l1 else b_85_248 M 13) else b_85_248 M 12) else b_85_248 M 11) else b_85_248 M 10) else b_85_248 M 9) else b_85_248 M 8) else b_85_142 M l1)) else (if l1 = 48 then b_85_100 M else (f_69 M ((M.1 5) - 1)).bind fun r1376 => b_85_100 r1376)) else some M))
theorem tb_85_65 (L : Nat) (xs : Nat → Int32) (C : CS) (o : Nat → Int64) (c s : Nat) (M : CS) (l1 : Int32) (d2 : Option Int32) (ret : CS) (h : b_85_65 M l1 = some ret) : mv_E (mp L xs) 85 (65, [some (.ref 18), some (.int l1), d2.map .int], []) (HPf C M o, c, s) ((.inl none, (HPf C ret o, c, s))) := by
  unfold b_85_65 at h
  refine mv_E.rT (t := mt_85) rfl 1 (f' := (66, [some (.ref 18), some (.int l1), d2.map .int], [.int l1])) (h' := (HPf C M o, c, s)) rfl ?_
  refine mv_E.call (z := 68) (vs := [.int l1]) (f' := (69, [some (.ref 18), some (.int l1), d2.map .int], [])) (h' := (HPf C M o, c, s)) rfl rfl rfl (t_68 L xs rfl) (mv_okl rfl) ?_
  show mv_E (mp L xs) 85 (69, [some (.ref 18), some (.int l1), d2.map .int], [.int (f_68 l1)]) (HPf C M o, c, s) _
  by_cases hc1395 : ¬ (f_68 l1) = 0
  · replace h := (if_pos hc1395).symm.trans h
    refine mv_E.go rfl (mi_if_pos hc1395) ?_
    show mv_E (mp L xs) 85 (76, [some (.ref 18), some (.int l1), d2.map .int], []) (HPf C M o, c, s) _
    cases h
    exact mv_E.done rfl rfl
  replace h := (if_neg hc1395).symm.trans h
  refine mv_E.go rfl (mi_if_neg hc1395) ?_
  refine mv_E.rT (t := mt_85) rfl 1 (f' := (73, [some (.ref 18), some (.int l1), d2.map .int], [.int l1])) (h' := (HPf C M o, c, s)) rfl ?_
  by_cases hc1394 : 0 ≤ l1
  · replace h := (if_pos hc1394).symm.trans h
    refine mv_E.go rfl (mi_if_pos hc1394) ?_
    refine mv_E.rT (t := mt_85) rfl 1 (f' := (78, [some (.ref 18), some (.int l1), d2.map .int], [.int l1])) (h' := (HPf C M o, c, s)) rfl ?_
    refine mv_E.call (z := 74) (vs := [.int l1]) (f' := (81, [some (.ref 18), some (.int l1), d2.map .int], [])) (h' := (HPf C M o, c, s)) rfl rfl rfl (t_74 L xs rfl) (mv_okl rfl) ?_
    show mv_E (mp L xs) 85 (81, [some (.ref 18), some (.int l1), d2.map .int], [.int (f_74 l1)]) (HPf C M o, c, s) _
    by_cases hc1393 : (f_74 l1) = 0
    · replace h := (if_pos hc1393).symm.trans h
      refine mv_E.go rfl (mi_if_pos hc1393) ?_
      refine mv_E.rT (t := mt_85) rfl 2 (f' := (133, [some (.ref 18), some (.int l1), d2.map .int], [.int 120, .int l1])) (h' := (HPf C M o, c, s)) rfl ?_
      by_cases hc1389 : l1 = 120
      · replace h := (if_pos hc1389).symm.trans h
        refine mv_E.go rfl (mi_icmp_pos hc1389) ?_
        show mv_E (mp L xs) 85 (142, [some (.ref 18), some (.int l1), d2.map .int], []) (HPf C M o, c, s) _
        exact tb_85_142 L xs C o c s M l1 d2 _ h
      replace h := (if_neg hc1389).symm.trans h
      refine mv_E.go rfl (mi_icmp_neg hc1389) ?_
      refine mv_E.rT (t := mt_85) rfl 2 (f' := (139, [some (.ref 18), some (.int l1), d2.map .int], [.int 117, .int l1])) (h' := (HPf C M o, c, s)) rfl ?_
      by_cases hc1388 : ¬ l1 = 117
      · replace h := (if_pos hc1388).symm.trans h
        refine mv_E.go rfl (mi_icmp_pos hc1388) ?_
        refine mv_E.rT (t := mt_85) rfl 3 (f' := (184, [some (.ref 18), some (.int l1), d2.map .int], [.int 98, .int l1, .ref 18])) (h' := (HPf C M o, c, s)) rfl ?_
        by_cases hc1387 : ¬ l1 = 98
        · replace h := (if_pos hc1387).symm.trans h
          refine mv_E.go rfl (mi_icmp_pos hc1387) ?_
          refine mv_E.rT (t := mt_85) rfl 2 (f' := (195, [some (.ref 18), some (.int l1), d2.map .int], [.int 116, .int l1, .ref 18])) (h' := (HPf C M o, c, s)) rfl ?_
          by_cases hc1386 : ¬ l1 = 116
          · replace h := (if_pos hc1386).symm.trans h
            refine mv_E.go rfl (mi_icmp_pos hc1386) ?_
            refine mv_E.rT (t := mt_85) rfl 2 (f' := (206, [some (.ref 18), some (.int l1), d2.map .int], [.int 110, .int l1, .ref 18])) (h' := (HPf C M o, c, s)) rfl ?_
            by_cases hc1385 : ¬ l1 = 110
            · replace h := (if_pos hc1385).symm.trans h
              refine mv_E.go rfl (mi_icmp_pos hc1385) ?_
              refine mv_E.rT (t := mt_85) rfl 2 (f' := (217, [some (.ref 18), some (.int l1), d2.map .int], [.int 118, .int l1, .ref 18])) (h' := (HPf C M o, c, s)) rfl ?_
              by_cases hc1384 : ¬ l1 = 118
              · replace h := (if_pos hc1384).symm.trans h
                refine mv_E.go rfl (mi_icmp_pos hc1384) ?_
                refine mv_E.rT (t := mt_85) rfl 2 (f' := (228, [some (.ref 18), some (.int l1), d2.map .int], [.int 102, .int l1, .ref 18])) (h' := (HPf C M o, c, s)) rfl ?_
                by_cases hc1383 : ¬ l1 = 102
                · replace h := (if_pos hc1383).symm.trans h
                  refine mv_E.go rfl (mi_icmp_pos hc1383) ?_
                  refine mv_E.rT (t := mt_85) rfl 2 (f' := (239, [some (.ref 18), some (.int l1), d2.map .int], [.int 114, .int l1, .ref 18])) (h' := (HPf C M o, c, s)) rfl ?_
                  by_cases hc1382 : ¬ l1 = 114
                  · replace h := (if_pos hc1382).symm.trans h
                    refine mv_E.go rfl (mi_icmp_pos hc1382) ?_
                    refine mv_E.rT (t := mt_85) rfl 1 (f' := (248, [some (.ref 18), some (.int l1), d2.map .int], [.int l1, .ref 18])) (h' := (HPf C M o, c, s)) rfl ?_
                    exact tb_85_248 L xs C o c s M l1 (some l1) d2 _ h
                  replace h := (if_neg hc1382).symm.trans h
                  refine mv_E.go rfl (mi_icmp_neg hc1382) ?_
                  refine mv_E.rT (t := mt_85) rfl 2 (f' := (248, [some (.ref 18), some (.int l1), d2.map .int], [.int 13, .ref 18])) (h' := (HPf C M o, c, s)) rfl ?_
                  exact tb_85_248 L xs C o c s M 13 (some l1) d2 _ h
                replace h := (if_neg hc1383).symm.trans h
                refine mv_E.go rfl (mi_icmp_neg hc1383) ?_
                refine mv_E.rT (t := mt_85) rfl 2 (f' := (248, [some (.ref 18), some (.int l1), d2.map .int], [.int 12, .ref 18])) (h' := (HPf C M o, c, s)) rfl ?_
                exact tb_85_248 L xs C o c s M 12 (some l1) d2 _ h
              replace h := (if_neg hc1384).symm.trans h
              refine mv_E.go rfl (mi_icmp_neg hc1384) ?_
              refine mv_E.rT (t := mt_85) rfl 2 (f' := (248, [some (.ref 18), some (.int l1), d2.map .int], [.int 11, .ref 18])) (h' := (HPf C M o, c, s)) rfl ?_
              exact tb_85_248 L xs C o c s M 11 (some l1) d2 _ h
            replace h := (if_neg hc1385).symm.trans h
            refine mv_E.go rfl (mi_icmp_neg hc1385) ?_
            refine mv_E.rT (t := mt_85) rfl 2 (f' := (248, [some (.ref 18), some (.int l1), d2.map .int], [.int 10, .ref 18])) (h' := (HPf C M o, c, s)) rfl ?_
            exact tb_85_248 L xs C o c s M 10 (some l1) d2 _ h
          replace h := (if_neg hc1386).symm.trans h
          refine mv_E.go rfl (mi_icmp_neg hc1386) ?_
          refine mv_E.rT (t := mt_85) rfl 2 (f' := (248, [some (.ref 18), some (.int l1), d2.map .int], [.int 9, .ref 18])) (h' := (HPf C M o, c, s)) rfl ?_
          exact tb_85_248 L xs C o c s M 9 (some l1) d2 _ h
        replace h := (if_neg hc1387).symm.trans h
        refine mv_E.go rfl (mi_icmp_neg hc1387) ?_
        refine mv_E.rT (t := mt_85) rfl 2 (f' := (248, [some (.ref 18), some (.int l1), d2.map .int], [.int 8, .ref 18])) (h' := (HPf C M o, c, s)) rfl ?_
        exact tb_85_248 L xs C o c s M 8 (some l1) d2 _ h
      replace h := (if_neg hc1388).symm.trans h
      refine mv_E.go rfl (mi_icmp_neg hc1388) ?_
      show mv_E (mp L xs) 85 (142, [some (.ref 18), some (.int l1), d2.map .int], []) (HPf C M o, c, s) _
      exact tb_85_142 L xs C o c s M l1 d2 _ h
    replace h := (if_neg hc1393).symm.trans h
    refine mv_E.go rfl (mi_if_neg hc1393) ?_
    refine mv_E.rT (t := mt_85) rfl 2 (f' := (87, [some (.ref 18), some (.int l1), d2.map .int], [.int 48, .int l1])) (h' := (HPf C M o, c, s)) rfl ?_
    by_cases hc1392 : l1 = 48
    · replace h := (if_pos hc1392).symm.trans h
      refine mv_E.go rfl (mi_icmp_pos hc1392) ?_
      show mv_E (mp L xs) 85 (100, [some (.ref 18), some (.int l1), d2.map .int], []) (HPf C M o, c, s) _
      exact tb_85_100 L xs C o c s M (some l1) d2 _ h
    replace h := (if_neg hc1392).symm.trans h
    refine mv_E.go rfl (mi_icmp_neg hc1392) ?_
    refine mv_E.rT (t := mt_85) rfl 5 (f' := (97, [some (.ref 18), some (.int l1), d2.map .int], [.int ((M.1 5) - 1), .ref 18])) (h' := (HPf C M o, c, s)) rfl ?_
    obtain ⟨r1390, hr1391, h⟩ := Option.bind_eq_some_iff.mp h
    refine mv_E.call (z := 69) (vs := [.ref 18, .int ((M.1 5) - 1)]) (f' := (100, [some (.ref 18), some (.int l1), d2.map .int], [])) (h' := (HPf C M o, c, s)) rfl rfl rfl (t_69 L xs hr1391) (mv_okl rfl) ?_
    show mv_E (mp L xs) 85 (100, [some (.ref 18), some (.int l1), d2.map .int], []) (HPf C r1390 o, c, s) _
    exact tb_85_100 L xs C o c s r1390 (some l1) d2 _ h
  replace h := (if_neg hc1394).symm.trans h
  refine mv_E.go rfl (mi_if_neg hc1394) ?_
  show mv_E (mp L xs) 85 (76, [some (.ref 18), some (.int l1), d2.map .int], []) (HPf C M o, c, s) _
  cases h
  exact mv_E.done rfl rfl
def b_85_36 (M : CS) (l1 : Int32) : Option (CS) := (if ¬ l1 = 13 then b_85_65 M l1 else (f_66 M (M.1 5)).bind fun r1396 => (if ¬ r1396 = 10 then b_85_65 M l1 else b_85_65 (ru (M.1) 5 (((M.1 5) + 1)), M.2) l1))
theorem tb_85_36 (L : Nat) (xs : Nat → Int32) (C : CS) (o : Nat → Int64) (c s : Nat) (M : CS) (l1 : Int32) (d2 : Option Int32) (ret : CS) (h : b_85_36 M l1 = some ret) : mv_E (mp L xs) 85 (36, [some (.ref 18), some (.int l1), d2.map .int], []) (HPf C M o, c, s) ((.inl none, (HPf C ret o, c, s))) := by
  unfold b_85_36 at h
  refine mv_E.rT (t := mt_85) rfl 2 (f' := (39, [some (.ref 18), some (.int l1), d2.map .int], [.int 13, .int l1])) (h' := (HPf C M o, c, s)) rfl ?_
  by_cases hc1403 : ¬ l1 = 13
  · replace h := (if_pos hc1403).symm.trans h
    refine mv_E.go rfl (mi_icmp_pos hc1403) ?_
    show mv_E (mp L xs) 85 (65, [some (.ref 18), some (.int l1), d2.map .int], []) (HPf C M o, c, s) _
    exact tb_85_65 L xs C o c s M l1 d2 _ h
  replace h := (if_neg hc1403).symm.trans h
  refine mv_E.go rfl (mi_icmp_neg hc1403) ?_
  refine mv_E.rT (t := mt_85) rfl 3 (f' := (47, [some (.ref 18), some (.int l1), d2.map .int], [.int (M.1 5), .ref 18])) (h' := (HPf C M o, c, s)) rfl ?_
  obtain ⟨r1400, hr1401, h⟩ := Option.bind_eq_some_iff.mp h
  refine mv_E.call (z := 66) (vs := [.ref 18, .int (M.1 5)]) (f' := (50, [some (.ref 18), some (.int l1), d2.map .int], [])) (h' := (HPf C M o, c, s)) rfl rfl rfl (t_66 L xs hr1401) (mv_okl rfl) ?_
  refine mv_E.rT (t := mt_85) rfl 1 (f' := (52, [some (.ref 18), some (.int l1), d2.map .int], [.int 10, .int r1400])) (h' := (HPf C M o, c, s)) rfl ?_
  by_cases hc1402 : ¬ r1400 = 10
  · replace h := (if_pos hc1402).symm.trans h
    refine mv_E.go rfl (mi_icmp_pos hc1402) ?_
    show mv_E (mp L xs) 85 (65, [some (.ref 18), some (.int l1), d2.map .int], []) (HPf C M o, c, s) _
    exact tb_85_65 L xs C o c s M l1 d2 _ h
  replace h := (if_neg hc1402).symm.trans h
  refine mv_E.go rfl (mi_icmp_neg hc1402) ?_
  refine mv_E.rT (t := mt_85) rfl 6 (f' := (65, [some (.ref 18), some (.int l1), d2.map .int], [])) (h' := (HPf C (ru (M.1) 5 (((M.1 5) + 1)), M.2) o, c, s)) rfl ?_
  exact tb_85_65 L xs C o c s (ru (M.1) 5 (((M.1 5) + 1)), M.2) l1 d2 _ h
def f_85 (M : CS) : Option (CS) := (f_66 M (M.1 5)).bind fun r1334 => (if 0 ≤ r1334 then b_85_36 (ru (ru (M.1) 10 (1)) 5 (((M.1 5) + 1)), M.2) r1334 else (f_69 (ru (ru (M.1) 10 (1)) 5 (((M.1 5) + 1)), M.2) (M.1 1)).bind fun r1404 => b_85_36 r1404 r1334)
theorem t_85 (L : Nat) (xs : Nat → Int32) {C M : CS} {o : Nat → Int64} {c s : Nat} {ret : CS} (h : f_85 M = some ret) : mv_E (mp L xs) 85 (0, [some (.ref 18), none, none], []) (HPf C M o, c, s) ((.inl none, (HPf C ret o, c, s))) := by
  unfold f_85 at h
  refine mv_E.rT (t := mt_85) rfl 3 (f' := (5, [some (.ref 18), none, none], [.int (M.1 5), .ref 18])) (h' := (HPf C M o, c, s)) rfl ?_
  obtain ⟨r1334, hr1335, h⟩ := Option.bind_eq_some_iff.mp h
  refine mv_E.call (z := 66) (vs := [.ref 18, .int (M.1 5)]) (f' := (8, [some (.ref 18), none, none], [])) (h' := (HPf C M o, c, s)) rfl rfl rfl (t_66 L xs hr1335) (mv_okl rfl) ?_
  refine mv_E.rT (t := mt_85) rfl 11 (f' := (25, [some (.ref 18), some (.int r1334), none], [.int r1334])) (h' := (HPf C (ru (ru (M.1) 10 (1)) 5 (((M.1 5) + 1)), M.2) o, c, s)) rfl ?_
  by_cases hc1406 : 0 ≤ r1334
  · replace h := (if_pos hc1406).symm.trans h
    refine mv_E.go rfl (mi_if_pos hc1406) ?_
    show mv_E (mp L xs) 85 (36, [some (.ref 18), some (.int r1334), none], []) (HPf C (ru (ru (M.1) 10 (1)) 5 (((M.1 5) + 1)), M.2) o, c, s) _
    exact tb_85_36 L xs C o c s (ru (ru (M.1) 10 (1)) 5 (((M.1 5) + 1)), M.2) r1334 none _ h
  replace h := (if_neg hc1406).symm.trans h
  refine mv_E.go rfl (mi_if_neg hc1406) ?_
  refine mv_E.rT (t := mt_85) rfl 3 (f' := (33, [some (.ref 18), some (.int r1334), none], [.int (M.1 1), .ref 18])) (h' := (HPf C (ru (ru (M.1) 10 (1)) 5 (((M.1 5) + 1)), M.2) o, c, s)) rfl ?_
  obtain ⟨r1404, hr1405, h⟩ := Option.bind_eq_some_iff.mp h
  refine mv_E.call (z := 69) (vs := [.ref 18, .int (M.1 1)]) (f' := (36, [some (.ref 18), some (.int r1334), none], [])) (h' := (HPf C (ru (ru (M.1) 10 (1)) 5 (((M.1 5) + 1)), M.2) o, c, s)) rfl rfl rfl (t_69 L xs hr1405) (mv_okl rfl) ?_
  show mv_E (mp L xs) 85 (36, [some (.ref 18), some (.int r1334), none], []) (HPf C r1404 o, c, s) _
  exact tb_85_36 L xs C o c s r1404 r1334 none _ h
