def f_103 (C : CS) (o : Nat → Int64) : Option (Int32 × CS × (Nat → Int64) × Nat) := (f_102 C).bind fun r => match r.1 with | .inl v => some (0, r.2, o, 0) | .inr k => (bif Nat.beq k 1 then some (1, r.2, o, 1) else none)
theorem t_103 (L : Nat) (xs : Nat → Int32) {C M : CS} {o : Nat → Int64} {c s : Nat} {ret : Int32 × CS × (Nat → Int64) × Nat} (h : f_103 C o = some ret) : mv_E (mp L xs) 103 (0, [some (.ref 0), none], []) (HPf C M o, c, s) (.inl (some (.int ret.1)), (HPf ret.2.1 M ret.2.2.1, c + ret.2.2.2, s + 6 * ret.2.2.2)) := by
  unfold f_103 at h
  refine mv_E.rT (t := mt_103) rfl 1 (f' := (1, [some (.ref 0), none], [.ref 0])) (h' := (HPf C M o, c, s)) rfl ?_
  obtain ⟨⟨r, C1⟩, hr, h⟩ := Option.bind_eq_some_iff.mp h
  rcases r with v | k
  · cases h
    refine mv_E.call (z := 102) (vs := [.ref 0]) (f' := (4, [some (.ref 0), none], [])) (h' := (HPf C M o, c, s)) rfl rfl rfl (t_102 L xs hr) (mv_okl rfl) ?_
    refine mv_E.rT (t := mt_103) rfl 2 (f' := (11, [some (.ref 0), none], [.int 0])) (h' := (HPf C1 M o, c, s)) rfl ?_
    exact mv_E.done rfl rfl
  rcases k with _ | _ | k
  · cases h
  · cases h
    refine mv_E.callC (pc := 8) (i := 1) (z := 102) (vs := [.ref 0]) (f' := (4, [some (.ref 0), none], [])) (h' := (HPf C M o, c, s)) rfl rfl rfl (t_102 L xs hr) rfl (mv_okl rfl) ?_
    refine mv_E.rT (t := mt_103) rfl 1 (f' := (9, [some (.ref 0), none], [.int 1])) (h' := (HPf C1 M o, c + 1, s + 6)) rfl ?_
    exact mv_E.done rfl rfl
  · cases h
def f_110 (C : CS) (o : Nat → Int64) (p0 : Int32) : Option (Int32 × CS × (Nat → Int64) × Nat) := (f_109 C p0).bind fun r => match r.1 with | .inl v => some (0, r.2, (vp_updL o 0 v.toInt64), 0) | .inr k => (bif Nat.beq k 0 then some (1, r.2, o, 1) else (bif Nat.beq k 1 then some (2, r.2, o, 1) else none))
theorem t_110 (L : Nat) (xs : Nat → Int32) {C M : CS} {o : Nat → Int64} {c s : Nat} {p0 : Int32} {ret : Int32 × CS × (Nat → Int64) × Nat} (h : f_110 C o p0 = some ret) : mv_E (mp L xs) 110 (0, [some (.ref 0), some (.int p0), some (.ref 25), none], []) (HPf C M o, c, s) (.inl (some (.int ret.1)), (HPf ret.2.1 M ret.2.2.1, c + ret.2.2.2, s + 6 * ret.2.2.2)) := by
  unfold f_110 at h
  refine mv_E.rT (t := mt_110) rfl 4 (f' := (4, [some (.ref 0), some (.int p0), some (.ref 25), none], [.int p0, .ref 0, .int 0, .ref 25])) (h' := (HPf C M o, c, s)) rfl ?_
  obtain ⟨⟨r, C1⟩, hr, h⟩ := Option.bind_eq_some_iff.mp h
  rcases r with v | k
  · cases h
    refine mv_E.call (z := 109) (vs := [.ref 0, .int p0]) (f' := (7, [some (.ref 0), some (.int p0), some (.ref 25), none], [.int 0, .ref 25])) (h' := (HPf C M o, c, s)) rfl rfl rfl (t_109 L xs hr) (mv_okl rfl) ?_
    refine mv_E.rT (t := mt_110) rfl 4 (f' := (19, [some (.ref 0), some (.int p0), some (.ref 25), none], [.int 0])) (h' := (HPf C1 M (vp_updL o 0 v.toInt64), c, s)) rfl ?_
    exact mv_E.done rfl rfl
  rcases k with _ | _ | k
  · cases h
    refine mv_E.callC (pc := 13) (i := 3) (z := 109) (vs := [.ref 0, .int p0]) (f' := (7, [some (.ref 0), some (.int p0), some (.ref 25), none], [.int 0, .ref 25])) (h' := (HPf C M o, c, s)) rfl rfl rfl (t_109 L xs hr) rfl (mv_okl rfl) ?_
    refine mv_E.rT (t := mt_110) rfl 1 (f' := (14, [some (.ref 0), some (.int p0), some (.ref 25), none], [.int 1])) (h' := (HPf C1 M o, c + 1, s + 6)) rfl ?_
    exact mv_E.done rfl rfl
  · cases h
    refine mv_E.callC (pc := 16) (i := 3) (z := 109) (vs := [.ref 0, .int p0]) (f' := (7, [some (.ref 0), some (.int p0), some (.ref 25), none], [.int 0, .ref 25])) (h' := (HPf C M o, c, s)) rfl rfl rfl (t_109 L xs hr) rfl (mv_okl rfl) ?_
    refine mv_E.rT (t := mt_110) rfl 1 (f' := (17, [some (.ref 0), some (.int p0), some (.ref 25), none], [.int 2])) (h' := (HPf C1 M o, c + 1, s + 6)) rfl ?_
    exact mv_E.done rfl rfl
  · cases h
def f_113 (C : CS) (o : Nat → Int64) (p0 : Int32) : Option (Int32 × CS × (Nat → Int64) × Nat) := (f_112 C p0).bind fun r => match r.1 with | .inl v => some (0, r.2, (vp_updL o 0 v.toInt64), 0) | .inr k => (bif Nat.beq k 1 then some (1, r.2, o, 1) else (bif Nat.beq k 2 then some (2, r.2, o, 1) else none))
theorem t_113 (L : Nat) (xs : Nat → Int32) {C M : CS} {o : Nat → Int64} {c s : Nat} {p0 : Int32} {ret : Int32 × CS × (Nat → Int64) × Nat} (h : f_113 C o p0 = some ret) : mv_E (mp L xs) 113 (0, [some (.ref 0), some (.int p0), some (.ref 25), none], []) (HPf C M o, c, s) (.inl (some (.int ret.1)), (HPf ret.2.1 M ret.2.2.1, c + ret.2.2.2, s + 6 * ret.2.2.2)) := by
  unfold f_113 at h
  refine mv_E.rT (t := mt_113) rfl 4 (f' := (4, [some (.ref 0), some (.int p0), some (.ref 25), none], [.int p0, .ref 0, .int 0, .ref 25])) (h' := (HPf C M o, c, s)) rfl ?_
  obtain ⟨⟨r, C1⟩, hr, h⟩ := Option.bind_eq_some_iff.mp h
  rcases r with v | k
  · cases h
    refine mv_E.call (z := 112) (vs := [.ref 0, .int p0]) (f' := (7, [some (.ref 0), some (.int p0), some (.ref 25), none], [.int 0, .ref 25])) (h' := (HPf C M o, c, s)) rfl rfl rfl (t_112 L xs hr) (mv_okl rfl) ?_
    refine mv_E.rT (t := mt_113) rfl 4 (f' := (19, [some (.ref 0), some (.int p0), some (.ref 25), none], [.int 0])) (h' := (HPf C1 M (vp_updL o 0 v.toInt64), c, s)) rfl ?_
    exact mv_E.done rfl rfl
  rcases k with _ | _ | _ | k
  · cases h
  · cases h
    refine mv_E.callC (pc := 13) (i := 3) (z := 112) (vs := [.ref 0, .int p0]) (f' := (7, [some (.ref 0), some (.int p0), some (.ref 25), none], [.int 0, .ref 25])) (h' := (HPf C M o, c, s)) rfl rfl rfl (t_112 L xs hr) rfl (mv_okl rfl) ?_
    refine mv_E.rT (t := mt_113) rfl 1 (f' := (14, [some (.ref 0), some (.int p0), some (.ref 25), none], [.int 1])) (h' := (HPf C1 M o, c + 1, s + 6)) rfl ?_
    exact mv_E.done rfl rfl
  · cases h
    refine mv_E.callC (pc := 16) (i := 3) (z := 112) (vs := [.ref 0, .int p0]) (f' := (7, [some (.ref 0), some (.int p0), some (.ref 25), none], [.int 0, .ref 25])) (h' := (HPf C M o, c, s)) rfl rfl rfl (t_112 L xs hr) rfl (mv_okl rfl) ?_
    refine mv_E.rT (t := mt_113) rfl 1 (f' := (17, [some (.ref 0), some (.int p0), some (.ref 25), none], [.int 2])) (h' := (HPf C1 M o, c + 1, s + 6)) rfl ?_
    exact mv_E.done rfl rfl
  · cases h
def f_124 (C : CS) (o : Nat → Int64) : Option (Int32 × CS × (Nat → Int64) × Nat) := (f_123 C).bind fun r => match r.1 with | .inl v => some (0, r.2, (vp_updL o 0 v.toInt64), 0) | .inr k => (bif Nat.beq k 1 then some (1, r.2, o, 1) else none)
theorem t_124 (L : Nat) (xs : Nat → Int32) {C M : CS} {o : Nat → Int64} {c s : Nat} {ret : Int32 × CS × (Nat → Int64) × Nat} (h : f_124 C o = some ret) : mv_E (mp L xs) 124 (0, [some (.ref 0), some (.ref 25), none], []) (HPf C M o, c, s) (.inl (some (.int ret.1)), (HPf ret.2.1 M ret.2.2.1, c + ret.2.2.2, s + 6 * ret.2.2.2)) := by
  unfold f_124 at h
  refine mv_E.rT (t := mt_124) rfl 3 (f' := (3, [some (.ref 0), some (.ref 25), none], [.ref 0, .int 0, .ref 25])) (h' := (HPf C M o, c, s)) rfl ?_
  obtain ⟨⟨r, C1⟩, hr, h⟩ := Option.bind_eq_some_iff.mp h
  rcases r with v | k
  · cases h
    refine mv_E.call (z := 123) (vs := [.ref 0]) (f' := (6, [some (.ref 0), some (.ref 25), none], [.int 0, .ref 25])) (h' := (HPf C M o, c, s)) rfl rfl rfl (t_123 L xs hr) (mv_okl rfl) ?_
    refine mv_E.rT (t := mt_124) rfl 4 (f' := (15, [some (.ref 0), some (.ref 25), none], [.int 0])) (h' := (HPf C1 M (vp_updL o 0 v.toInt64), c, s)) rfl ?_
    exact mv_E.done rfl rfl
  rcases k with _ | _ | k
  · cases h
  · cases h
    refine mv_E.callC (pc := 12) (i := 2) (z := 123) (vs := [.ref 0]) (f' := (6, [some (.ref 0), some (.ref 25), none], [.int 0, .ref 25])) (h' := (HPf C M o, c, s)) rfl rfl rfl (t_123 L xs hr) rfl (mv_okl rfl) ?_
    refine mv_E.rT (t := mt_124) rfl 1 (f' := (13, [some (.ref 0), some (.ref 25), none], [.int 1])) (h' := (HPf C1 M o, c + 1, s + 6)) rfl ?_
    exact mv_E.done rfl rfl
  · cases h
def f_129 (C : CS) (o : Nat → Int64) : Option (Int32 × CS × (Nat → Int64) × Nat) := (f_128 C).bind fun r => match r.1 with | .inl v => some (0, r.2, (vp_updL o 0 v.toInt64), 0) | .inr k => (bif Nat.beq k 1 then some (1, r.2, o, 1) else none)
theorem t_129 (L : Nat) (xs : Nat → Int32) {C M : CS} {o : Nat → Int64} {c s : Nat} {ret : Int32 × CS × (Nat → Int64) × Nat} (h : f_129 C o = some ret) : mv_E (mp L xs) 129 (0, [some (.ref 0), some (.ref 25), none], []) (HPf C M o, c, s) (.inl (some (.int ret.1)), (HPf ret.2.1 M ret.2.2.1, c + ret.2.2.2, s + 6 * ret.2.2.2)) := by
  unfold f_129 at h
  refine mv_E.rT (t := mt_129) rfl 3 (f' := (3, [some (.ref 0), some (.ref 25), none], [.ref 0, .int 0, .ref 25])) (h' := (HPf C M o, c, s)) rfl ?_
  obtain ⟨⟨r, C1⟩, hr, h⟩ := Option.bind_eq_some_iff.mp h
  rcases r with v | k
  · cases h
    refine mv_E.call (z := 128) (vs := [.ref 0]) (f' := (6, [some (.ref 0), some (.ref 25), none], [.int 0, .ref 25])) (h' := (HPf C M o, c, s)) rfl rfl rfl (t_128 L xs hr) (mv_okl rfl) ?_
    refine mv_E.rT (t := mt_129) rfl 4 (f' := (15, [some (.ref 0), some (.ref 25), none], [.int 0])) (h' := (HPf C1 M (vp_updL o 0 v.toInt64), c, s)) rfl ?_
    exact mv_E.done rfl rfl
  rcases k with _ | _ | k
  · cases h
  · cases h
    refine mv_E.callC (pc := 12) (i := 2) (z := 128) (vs := [.ref 0]) (f' := (6, [some (.ref 0), some (.ref 25), none], [.int 0, .ref 25])) (h' := (HPf C M o, c, s)) rfl rfl rfl (t_128 L xs hr) rfl (mv_okl rfl) ?_
    refine mv_E.rT (t := mt_129) rfl 1 (f' := (13, [some (.ref 0), some (.ref 25), none], [.int 1])) (h' := (HPf C1 M o, c + 1, s + 6)) rfl ?_
    exact mv_E.done rfl rfl
  · cases h
def f_133 (C : CS) (o : Nat → Int64) (p0 : Int32) (p1 : Int32) (p2 : Int32) : Option (Int32 × CS × (Nat → Int64) × Nat) := (f_132 C p0 p1 p2).bind fun r => match r.1 with | .inl v => some (0, r.2, (vp_updL o 0 v.toInt64), 0) | .inr k => (bif Nat.beq k 2 then some (1, r.2, o, 1) else none)
theorem t_133 (L : Nat) (xs : Nat → Int32) {C M : CS} {o : Nat → Int64} {c s : Nat} {p0 : Int32} {p1 : Int32} {p2 : Int32} {ret : Int32 × CS × (Nat → Int64) × Nat} (h : f_133 C o p0 p1 p2 = some ret) : mv_E (mp L xs) 133 (0, [some (.ref 0), some (.int p0), some (.int p1), some (.int p2), some (.ref 25), none], []) (HPf C M o, c, s) (.inl (some (.int ret.1)), (HPf ret.2.1 M ret.2.2.1, c + ret.2.2.2, s + 6 * ret.2.2.2)) := by
  unfold f_133 at h
  refine mv_E.rT (t := mt_133) rfl 6 (f' := (7, [some (.ref 0), some (.int p0), some (.int p1), some (.int p2), some (.ref 25), none], [.int p2, .int p1, .int p0, .ref 0, .int 0, .ref 25])) (h' := (HPf C M o, c, s)) rfl ?_
  obtain ⟨⟨r, C1⟩, hr, h⟩ := Option.bind_eq_some_iff.mp h
  rcases r with v | k
  · cases h
    refine mv_E.call (z := 132) (vs := [.ref 0, .int p0, .int p1, .int p2]) (f' := (10, [some (.ref 0), some (.int p0), some (.int p1), some (.int p2), some (.ref 25), none], [.int 0, .ref 25])) (h' := (HPf C M o, c, s)) rfl rfl rfl (t_132 L xs hr) (mv_okl rfl) ?_
    refine mv_E.rT (t := mt_133) rfl 4 (f' := (20, [some (.ref 0), some (.int p0), some (.int p1), some (.int p2), some (.ref 25), none], [.int 0])) (h' := (HPf C1 M (vp_updL o 0 v.toInt64), c, s)) rfl ?_
    exact mv_E.done rfl rfl
  rcases k with _ | _ | _ | k
  · cases h
  · cases h
  · cases h
    refine mv_E.callC (pc := 17) (i := 5) (z := 132) (vs := [.ref 0, .int p0, .int p1, .int p2]) (f' := (10, [some (.ref 0), some (.int p0), some (.int p1), some (.int p2), some (.ref 25), none], [.int 0, .ref 25])) (h' := (HPf C M o, c, s)) rfl rfl rfl (t_132 L xs hr) rfl (mv_okl rfl) ?_
    refine mv_E.rT (t := mt_133) rfl 1 (f' := (18, [some (.ref 0), some (.int p0), some (.int p1), some (.int p2), some (.ref 25), none], [.int 1])) (h' := (HPf C1 M o, c + 1, s + 6)) rfl ?_
    exact mv_E.done rfl rfl
  · cases h
