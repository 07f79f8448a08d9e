/-! begin, next, pattern, end, place -/
theorem f63a (C : CS) : f_63 C 1 = some (.inl (C.1 3), (ru C.1 0 1, C.2)) := by
  unfold f_63
  exact if_pos (by decide : ¬ (1 : Int32) = 0)
theorem f63b (C : CS) : f_63 C 0 = some (.inr 0, (ru (ru (ru C.1 1 (C.1 12)) 0 0) 2 0, C.2)) := by
  unfold f_63
  rw [if_neg (nn (rfl : (0 : Int32) = 0))]
  rfl
theorem k63 {C : CS} {v : Int32} {r : (Int32 ⊕ Nat) × CS} (h : f_63 C v = some r) : ((f_63 C v).bind fun r549 => match r549.1 with | .inr k552 => some (.inr k552, r549.2) | .inl v551 => some (.inl v551, r549.2) : Option ((Int32 ⊕ Nat) × CS)) = some r := by
  rw [h, Option.bind_some]
  obtain ⟨a, b⟩ := r
  cases a <;> rfl
/-- from a token's scan on -/
theorem fin63 {C M C2 M2 : CS} {n lo B c d : Nat} {E F : Nat → Nat} {U V : Nat → Int32} {v w : Int32} (hB : Base C M n) (hN : Nm C M E U c) (hL : Lt C M F V d) (hc : c ≤ B) (hd : d ≤ B) (h2 : M.1 2 = 1) (h0 : M.1 0 = 0) (hlo : E c ≤ lo) (h : FIN C M n lo v w C2 M2) :
    ∃ r C', f_63 C2 v = some (r, C') ∧ Ag cd01 r w (M2.1 0) ∧ Rel C' M2 B := by
  obtain ⟨h1, h3⟩ := h
  rcases h3 with ⟨rfl, g1, g2, g3, s, a, u, g4, g5⟩ | ⟨rfl, g2, g3, g4, g5, g6⟩
  · have f1 : fr (0 :: KC) [1] C (ru C2.1 0 1, C2.2) := fr.r1 (by decide) ((h1.w (by decide) (by decide)).tr fr.pr)
    refine ⟨_, _, f63a C2, ⟨(g2.1 0 (by decide)).trans h0, g1⟩, n, E, U, c, F, V, d, hB.fr f1 g2, hN.fr f1 g2, hL.fr f1 g2, hc, hd, Or.inr ⟨rp, (g2.1 2 (by decide)).trans h2, g3, s, a, u, g5, Or.inl (by omega)⟩⟩
  · have f1 : fr (0 :: 1 :: 2 :: KC) [1] C (ru (ru (ru C2.1 1 (C2.1 12)) 0 0) 2 0, C2.2) := fr.r1 (by decide) (fr.r1 (by decide) (fr.r1 (by decide) ((h1.w (by decide) (by decide)).tr fr.pr)))
    refine ⟨_, _, f63b C2, ⟨g3, by decide⟩, 0, E, U, c, F, V, d, ⟨g6, rfl, g4, by omega, ?_, fun k hk => absurd hk (Nat.not_lt_zero k)⟩, hN.fr f1 g2, hL.fr f1 g2, hc, hd, Or.inl ⟨rfl, g5⟩⟩
    rw [f1.2 0 (by decide), g2.2 0 (by decide)]
    exact hB.2.2.2.2.1
theorem callBegin {C M : CS} {B : Nat} (h : Rel C M B) : Call cd01 (f_64 C) (f_92 M) B := by
  have h0 := h
  obtain ⟨n, E, U, c, F, V, d, h1, h2, h3, h4, h5, h6⟩ := h
  have hn := h1.2.2.2.1
  unfold f_64 f_92
  rcases h6 with ⟨t1, t2⟩ | t
  · rw [if_pos t1, t2, f22a, Option.bind_some]
    dsimp only
    rw [if_pos (rfl : (0 : Int32) = 0)]
    obtain ⟨C1, e1, f1, x1, x11, x13, x14⟩ : ∃ C1, (((f_25_12 C).bind fun r17 => (f_25_15 r17).bind fun r19 => f_26 (ru (r19.1) 1 ((-1)), r19.2)) = some C1) ∧ fr [1, 11, 12, 13, 14] [] C C1 ∧ C1.1 1 = -1 ∧ C1.1 11 = 0 ∧ C1.1 13 = 0 ∧ C1.1 14 = 0 := ⟨_, rfl, fr.r1 (by decide) (fr.r1 (by decide) (fr.r1 (by decide) (fr.r1 (by decide) (fr.r1 (by decide) fr.pr)))), rfl, rfl, rfl, rfl⟩
    obtain ⟨M1, e2, f2, y0, y2, y3, y5, y13, y14⟩ : ∃ M1, M1 = ((ru (ru (ru (ru (ru (ru M.1 0 0) 2 1) 3 (-1)) 13 0) 14 0) 5 0, M.2) : CS) ∧ fr [0, 2, 3, 5, 13, 14] [] M M1 ∧ M1.1 0 = 0 ∧ M1.1 2 = 1 ∧ M1.1 3 = -1 ∧ M1.1 5 = 0 ∧ M1.1 13 = 0 ∧ M1.1 14 = 0 := ⟨_, rfl, fr.r1 (by decide) (fr.r1 (by decide) (fr.r1 (by decide) (fr.r1 (by decide) (fr.r1 (by decide) (fr.r1 (by decide) fr.pr))))), rfl, rfl, rfl, rfl, rfl, rfl⟩
    have hb1 : Base C1 M1 n := by
      refine ⟨x1.trans y3.symm, (f1.1 2 (by decide)).trans h1.2.1, (f2.1 1 (by decide)).trans h1.2.2.1, hn, ?_, ?_⟩
      · rw [f1.2 0 (by decide), f2.2 0 (by decide)]
        exact h1.2.2.2.2.1
      · rw [f1.2 0 (by decide)]
        exact h1.2.2.2.2.2
    have hN1 : Nm C1 M1 (fun _ => 0) U 0 := by
      unfold Nm
      rw [x13, y13]
      exact ⟨⟨rfl, fun k hk => absurd hk (Nat.not_lt_zero k), fun k hk => absurd hk (Nat.not_lt_zero k)⟩, ⟨rfl, fun k hk => absurd hk (Nat.not_lt_zero k), fun k hk => absurd hk (Nat.not_lt_zero k)⟩, ⟨rfl, fun k hk => absurd hk (Nat.not_lt_zero k)⟩, Nat.zero_le _⟩
    have hL1 : Lt C1 M1 (fun _ => 0) V 0 := by
      unfold Lt
      rw [x14, y14]
      exact ⟨⟨rfl, fun k hk => absurd hk (Nat.not_lt_zero k), fun k hk => absurd hk (Nat.not_lt_zero k)⟩, ⟨rfl, fun k hk => absurd hk (Nat.not_lt_zero k), fun k hk => absurd hk (Nat.not_lt_zero k)⟩, ⟨rfl, fun k hk => absurd hk (Nat.not_lt_zero k)⟩, Nat.zero_le _⟩
    obtain ⟨v, w, C2, M2, k1, k2, k3⟩ := scan hb1.bk hb1.ck hb1.mk' (a := 0) x11 y5 (Nat.zero_le _)
    obtain ⟨r, C', j1, j2, j3⟩ := fin63 hb1 hN1 hL1 (Nat.zero_le B) (Nat.zero_le B) y2 y0 (Nat.zero_le 0) k3
    have e3 : ∀ K : CS → Option ((Int32 ⊕ Nat) × CS), ((f_25_12 C).bind fun r17 => (f_25_15 r17).bind fun r19 => (f_26 (ru (r19.1) 1 ((-1)), r19.2)).bind K) = ((f_25_12 C).bind fun r17 => (f_25_15 r17).bind fun r19 => f_26 (ru (r19.1) 1 ((-1)), r19.2)).bind K := fun _ => rfl
    rw [e3, e1, Option.bind_some, k1, Option.bind_some, ← e2, k2, Option.bind_some]
    exact ⟨r, C', w, M2, k63 j1, rfl, j2, j3⟩
  · rw [if_neg (show ¬ C.1 0 = 0 by rw [t.1]; decide), f22c M (show ¬ M.1 2 = 0 by rw [t.2.1]; decide), Option.bind_some]
    exact ⟨_, _, _, _, rfl, if_neg (by decide : ¬ (1 : Int32) = 0), ⟨rfl, by decide⟩, h0.m0 2⟩
theorem callNext {C M : CS} {B : Nat} (h : Rel C M B) : Call cd01 (f_93 C) (f_95 M) B := by
  have h0 := h
  obtain ⟨n, E, U, c, F, V, d, h1, h2, h3, h4, h5, h6⟩ := h
  have bad : b_95_16 M 0 = some (0, (ru M.1 0 2, M.2)) := by
    unfold b_95_16 b_95_21
    rw [f22c M (by decide : ¬ (1 : Int32) = 0), Option.bind_some]
    exact if_neg (by decide : ¬ (1 : Int32) = 0)
  unfold f_93 f_95
  rcases h6 with ⟨t1, t2⟩ | ⟨t1, t2, t3, s, a, u, t4, t5⟩
  · rw [if_pos t1, if_pos t2, bad]
    exact ⟨_, _, _, _, rfl, rfl, ⟨rfl, by decide⟩, h0.m0 2⟩
  · rw [if_neg (show ¬ C.1 0 = 0 by rw [t1]; decide), if_neg (show ¬ M.1 2 = 0 by rw [t2]; decide), ← t4.2.1]
    by_cases g1 : C.1 3 = 0
    · rw [if_neg (nn g1), if_neg (nn g1), bad]
      exact ⟨_, _, _, _, rfl, rfl, ⟨rfl, by decide⟩, h0.m0 2⟩
    · rw [if_pos g1, if_pos g1]
      unfold b_95_21
      rw [f22a, Option.bind_some]
      dsimp only
      rw [if_pos (rfl : (0 : Int32) = 0)]
      have hb1 : Base C (ru M.1 0 0, M.2) n := h1
      have hN1 : Nm C (ru M.1 0 0, M.2) E U c := h2
      have hL1 : Lt C (ru M.1 0 0, M.2) F V d := h3
      have hE : E c ≤ a := by
        have := t4.1
        rcases t5 with t5 | t5 <;> omega
      obtain ⟨v, w, C2, M2, k1, k2, k3⟩ := scan hb1.bk hb1.ck hb1.mk' (a := a) t4.2.2.2.1.1 t4.2.2.2.1.2 t4.1.2.1
      obtain ⟨r, C', j1, j2, j3⟩ := fin63 hb1 hN1 hL1 h4 h5 t2 rfl hE k3
      rw [k1, Option.bind_some, k2, Option.bind_some]
      exact ⟨r, C', w, M2, k63 j1, rfl, j2, j3⟩
theorem callPat {C M : CS} {B : Nat} (h : Rel C M B) : Call cd01 (f_98 C) (f_101 M) B := by
  have h0 := h
  obtain ⟨n, E, U, c, F, V, d, h1, h2, h3, h4, h5, h6⟩ := h
  have hn := h1.2.2.2.1
  have bad : b_101_27 M 0 = some (0, (ru M.1 0 2, M.2)) := by
    unfold b_101_27 b_101_32
    rw [f22c M (by decide : ¬ (1 : Int32) = 0), Option.bind_some]
    exact if_neg (by decide : ¬ (1 : Int32) = 0)
  unfold f_98 f_101
  rcases h6 with ⟨t1, t2⟩ | ⟨t1, t2, t3, s, a, u, t4, t5⟩
  · rw [if_pos t1, if_pos t2, bad]
    exact ⟨_, _, _, _, rfl, rfl, ⟨rfl, by decide⟩, h0.m0 2⟩
  · obtain ⟨q1, q3, ⟨q4, q7⟩, ⟨q11, q5⟩, q6, q7', q8, q9, qU, qV, qs⟩ := t4
    rw [if_neg (show ¬ C.1 0 = 0 by rw [t1]; decide), if_neg (show ¬ M.1 2 = 0 by rw [t2]; decide), ← q9]
    have go : ¬ C.1 9 = 0 → Call cd01 (b_98_41 C) (b_101_31 M 0) B := by
      intro g1
      obtain ⟨s4, su, sn⟩ := qs g1
      subst su
      have hE : E c ≤ s := by
        rcases t5 with t5 | t5
        · exact t5
        · have := t5.2.1
          rw [s4] at this
          exact absurd this (by decide)
      obtain ⟨M1, e2, f2, y0, y4⟩ : ∃ M1, M1 = ((ru (ru M.1 0 0) 4 (-1), M.2) : CS) ∧ fr [0, 4] [] M M1 ∧ M1.1 0 = 0 ∧ M1.1 4 = -1 := ⟨_, rfl, fr.r1 (by decide) (fr.r1 (by decide) fr.pr), rfl, rfl⟩
      have f3 : fr [] [] C C := fr.rf
      have hb1 : Base C M1 n := h1.fr f3 f2
      have hN1 : Nm C M1 E U c := h2.fr f3 f2
      have hL1 : Lt C M1 F V d := h3.fr f3 f2
      obtain ⟨v, C2, k1, k2, k3, k4⟩ := c97 hb1.bk hb1.ck q4 sn qU
      obtain ⟨M2, j1, j2, j3, j4, j5, j6⟩ := m100 hb1.bk hb1.mk' ((f2.1 7 (by decide)).trans q7) sn (by rw [y4]; decide)
      obtain ⟨p1, p2⟩ := ptS_b hb1.bk sn
      have fc : fr KC [1] C C2 := k2.w (by decide) (by decide)
      have fm : fr KM [1] M1 M2 := j2.w (by decide) (by decide)
      have key : ∃ w M3, f_72 M2 = some (w, M3) ∧ FIN C M1 n s v w C2 M3 := by
        cases hx : ptS (tv C n) n s with
        | inr p =>
          obtain ⟨rfl, g⟩ := k4 p hx
          obtain ⟨w, M3, e1, e2, e3, e4, e5, e6⟩ := f72c (p2 p hx) hn (j6 p hx) fm
          exact ⟨w, M3, e1, fc, Or.inr ⟨rfl, e2, e3, e4, e5, g.trans e6.symm⟩⟩
        | inl e =>
          obtain ⟨rfl, g3, g9, g11, g5, gU⟩ := k3 e hx
          obtain ⟨m5, mU, m4⟩ := j5 e hx
          obtain ⟨w1, w2⟩ := p1 e hx
          have l6 : C2.1 6 = C.1 6 := k2.1 6 (by decide)
          have l8 : M2.1 8 = M.1 8 := (j2.1 8 (by decide)).trans (f2.1 8 (by decide))
          have l8c : C2.1 8 = C.1 8 := k2.1 8 (by decide)
          have l10 : M2.1 10 = M.1 10 := (j2.1 10 (by decide)).trans (f2.1 10 (by decide))
          refine ⟨_, _, f72a (by rw [m4, y4]; decide), fc, Or.inl ⟨rfl, j3.trans g3.symm, fm, g5.trans g11.symm, s, e, _, Nat.le_refl s, ⟨w1, w2, by rw [tkS_l, List.length_nil]; omega⟩, g3.trans j3.symm, ⟨(k2.1 4 (by decide)).trans q4, (j2.1 7 (by decide)).trans ((f2.1 7 (by decide)).trans q7)⟩, ⟨g11, m5⟩, ⟨?_, ?_⟩, ?_, ⟨?_, ?_⟩, g9.trans j4.symm, gU, mU, fun h9 => absurd g9 h9⟩⟩
          · rw [l6, l8]; exact q6.1
          · rw [l6]; exact q6.2
          · rw [k2.1 7 (by decide), j2.1 9 (by decide), f2.1 9 (by decide)]; exact q7'
          · rw [l8c, l10]; exact q8.1
          · rw [l8c]; exact q8.2
      obtain ⟨w, M3, e5, e6⟩ := key
      obtain ⟨r, C', i1, i2, i3⟩ := fin63 hb1 hN1 hL1 h4 h5 ((f2.1 2 (by decide)).trans t2) y0 hE e6
      unfold b_98_41 b_101_31 b_101_32
      rw [f22a, Option.bind_some]
      dsimp only
      rw [if_pos (rfl : (0 : Int32) = 0), ← e2, j1, Option.bind_some, e5, Option.bind_some, k1, Option.bind_some]
      exact ⟨r, C', w, M3, k63 i1, rfl, i2, i3⟩
    by_cases g1 : C.1 9 = 22
    · rw [if_pos g1, if_pos g1]
      exact go (by rw [g1]; decide)
    · rw [if_neg g1, if_neg g1]
      by_cases g2 : C.1 9 = 52
      · rw [if_pos g2, if_pos g2]
        exact go (by rw [g2]; decide)
      · rw [if_neg g2, if_neg g2, bad]
        exact ⟨_, _, _, _, rfl, rfl, ⟨rfl, by decide⟩, h0.m0 2⟩
theorem callEnd {C M : CS} {B : Nat} (h : Rel C M B) : ∃ r C' M', f_102 C = some (r, C') ∧ f_104 M = some M' ∧ Rel C' M' B ∧ ((r = .inl 0 ∧ M'.1 0 = 0) ∨ (r = .inr 1 ∧ M'.1 0 = 1)) := by
  have h0 := h
  obtain ⟨n, E, U, c, F, V, d, h1, h2, h3, h4, h5, h6⟩ := h
  unfold f_102 f_104 b_104_13
  rcases h6 with ⟨t1, t2⟩ | ⟨t1, t2, t3⟩
  · rw [if_neg (nn t1), if_neg (nn t2), f22b, Option.bind_some]
    exact ⟨_, _, _, rfl, if_neg (by decide : ¬ (1 : Int32) = 0), h0.m0 1, Or.inr ⟨rfl, rfl⟩⟩
  · rw [if_pos (show ¬ C.1 0 = 0 by rw [t1]; decide), if_pos (show ¬ M.1 2 = 0 by rw [t2]; decide), f22a, Option.bind_some]
    have f1 : fr [0, 2] [] C (ru (ru C.1 0 0) 2 0, C.2) := fr.r1 (by decide) (fr.r1 (by decide) fr.pr)
    have f2 : fr [0, 1, 2] [] M (ru (ru (ru M.1 0 0) 2 0) 1 0, M.2) := fr.r1 (by decide) (fr.r1 (by decide) (fr.r1 (by decide) fr.pr))
    refine ⟨.inl 0, (ru (ru C.1 0 0) 2 0, C.2), (ru (ru (ru M.1 0 0) 2 0) 1 0, M.2), rfl, if_pos (rfl : (0 : Int32) = 0), ⟨0, E, U, c, F, V, d, ⟨h1.1, rfl, rfl, by omega, h1.2.2.2.2.1, fun k hk => absurd hk (Nat.not_lt_zero k)⟩, h2.fr f1 f2, h3.fr f1 f2, h4, h5, Or.inl ⟨rfl, rfl⟩⟩, Or.inl ⟨rfl, rfl⟩⟩
theorem callPlace {C M : CS} {B : Nat} (h : Rel C M B) : f_106 M = some (f_105 C, (ru M.1 0 0, M.2)) := by
  obtain ⟨n, E, U, c, F, V, d, h1, h2⟩ := h
  unfold f_106 f_105
  rw [h1.1]
