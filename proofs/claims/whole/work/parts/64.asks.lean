/-! token, unit, name, literal, text -/
theorem c107 {x : Int32} (h : x = 0 ∨ x = 1) : f_107 x = x := by
  rcases h with rfl | rfl <;> rfl
theorem TKa.of {C M C' M' : CS} {n s a : Nat} {u : List Int32} (h : TKa C M n s a u) (hc : ∀ k, k ≤ 12 → C'.1 k = C.1 k) (hm : ∀ k, k ≤ 12 → M'.1 k = M.1 k) (h1 : C'.2 1 = C.2 1) (h2 : M'.2 1 = M.2 1) : TKa C' M' n s a u := by
  unfold TKa
  rw [hc 3 (by omega), hc 4 (by omega), hc 6 (by omega), hc 7 (by omega), hc 8 (by omega), hc 9 (by omega), hc 10 (by omega), hc 11 (by omega), hm 5 (by omega), hm 6 (by omega), hm 7 (by omega), hm 8 (by omega), hm 9 (by omega), hm 10 (by omega), hm 11 (by omega), hm 12 (by omega), h1, h2]
  exact h
theorem callTok {C M : CS} {B : Nat} (h : Rel C M B) (p : Int32) : Call cd01 (f_109 C p) (f_111 M p) B := by
  have h0 := h
  obtain ⟨n, E, U, c, F, V, d, h1, h2, h3, h4, h5, h6⟩ := h
  have hn := h1.2.2.2.1
  have bad1 : b_111_10 M p = some (0, (ru M.1 0 1, M.2)) := by
    unfold b_111_10 b_111_15 b_111_33 b_111_34
    rw [if_pos (by decide : ¬ (1 : Int32) = 0), f22b, Option.bind_some]
    exact if_neg (by decide : ¬ (1 : Int32) = 0)
  have bad2 : b_111_34 M p 1 0 = some (0, (ru M.1 0 2, M.2)) := by
    unfold b_111_34
    rw [f22c M (by decide : ¬ (1 : Int32) = 0), Option.bind_some]
    exact if_neg (by decide : ¬ (1 : Int32) = 0)
  unfold f_109 f_111
  by_cases g1 : p < 0
  · rw [if_pos g1, if_pos g1, bad1]
    exact ⟨_, _, _, _, rfl, rfl, ⟨rfl, by decide⟩, h0.m0 1⟩
  · rw [if_neg g1, if_neg g1]
    by_cases g2 : p ≤ 8
    · rw [if_pos g2, if_pos g2]
      unfold b_111_15
      rw [if_neg (nn (rfl : (0 : Int32) = 0))]
      rcases h6 with ⟨t1, t2⟩ | ⟨t1, t2, t3, s, a, u, t4, t5⟩
      · rw [if_neg (nn t1), if_neg (nn t2), bad2]
        exact ⟨_, _, _, _, rfl, rfl, ⟨rfl, by decide⟩, h0.m0 2⟩
      · obtain ⟨q1, q3, ⟨q4, q7⟩, ⟨q11, q5⟩, q6, q7', q8, q9, qU, qV, qs⟩ := t4
        rw [if_pos (show ¬ C.1 0 = 0 by rw [t1]; decide), if_pos (show ¬ M.1 2 = 0 by rw [t2]; decide)]
        unfold b_111_33 b_111_34
        rw [f22a, Option.bind_some]
        dsimp only
        rw [if_pos (rfl : (0 : Int32) = 0)]
        by_cases e0 : p = 0
        · rw [if_pos e0, if_pos e0]
          exact ⟨_, _, _, _, rfl, rfl, ⟨rfl, q3.symm⟩, h0.m0 0⟩
        rw [if_neg e0, if_neg e0]
        by_cases e1 : p = 1
        · rw [if_pos e1, if_pos e1]
          exact ⟨_, _, _, _, rfl, rfl, ⟨rfl, q7.trans q4.symm⟩, h0.m0 0⟩
        rw [if_neg e1, if_neg e1]
        by_cases e2 : p = 2
        · rw [if_pos e2, if_pos e2]
          exact ⟨_, _, _, _, rfl, rfl, ⟨rfl, q5.trans (t3.trans q11).symm⟩, h0.m0 0⟩
        rw [if_neg e2, if_neg e2]
        by_cases e3 : p = 3
        · rw [if_pos e3, if_pos e3, c107 q6.2]
          exact ⟨_, _, _, _, rfl, rfl, ⟨rfl, q6.1.symm⟩, h0.m0 0⟩
        rw [if_neg e3, if_neg e3]
        by_cases e4 : p = 4
        · rw [if_pos e4, if_pos e4]
          exact ⟨_, _, _, _, rfl, rfl, ⟨rfl, q7'.symm⟩, h0.m0 0⟩
        rw [if_neg e4, if_neg e4]
        by_cases e5 : p = 5
        · rw [if_pos e5, if_pos e5, c107 q8.2]
          exact ⟨_, _, _, _, rfl, rfl, ⟨rfl, q8.1.symm⟩, h0.m0 0⟩
        rw [if_neg e5, if_neg e5]
        by_cases e6 : p = 6
        · rw [if_pos e6, if_pos e6]
          exact ⟨_, _, _, _, rfl, rfl, ⟨rfl, q9.symm⟩, h0.m0 0⟩
        rw [if_neg e6, if_neg e6]
        by_cases e7 : p = 7
        · rw [if_pos e7, if_pos e7]
          exact ⟨_, _, _, _, rfl, rfl, ⟨rfl, qV.1.trans qU.1.symm⟩, h0.m0 0⟩
        rw [if_neg e7, if_neg e7, c108 qU (by omega), Option.bind_some]
        have m6 : (ru M.1 0 0) 6 = C.1 3 := q3.symm
        have m10 : (ru M.1 0 0) 10 = C.1 8 := q8.1.symm
        by_cases x1 : C.1 3 = 3
        · rw [if_neg (nn (m6.trans x1))]
          by_cases x2 : C.1 8 = 0
          · have qV' : UR ((ru M.1 0 0, M.2).2 1) ((ru M.1 0 0, M.2).1 12) u := qV
            rw [if_neg (nn (m10.trans x2)), m79 qV' (by omega) (by decide), Option.bind_some, ← us1]
            by_cases x3 : ms_byt 10 = u
            · rw [if_pos x3, if_pos (show C.1 3 = 3 ∧ C.1 8 = 0 ∧ ms_byt 10 = u from ⟨x1, x2, x3⟩), if_neg (by decide : ¬ (1 : Int32) = 0)]
              exact ⟨_, _, _, _, rfl, rfl, ⟨rfl, by decide⟩, h0.m0 0⟩
            · rw [if_neg x3, if_neg (show ¬ (C.1 3 = 3 ∧ C.1 8 = 0 ∧ ms_byt 10 = u) from fun h9 => x3 h9.2.2), if_pos (rfl : (0 : Int32) = 0)]
              exact ⟨_, _, _, _, rfl, rfl, ⟨rfl, by decide⟩, h0.m0 0⟩
          · rw [if_pos (show ¬ (ru M.1 0 0) 10 = 0 from fun h9 => x2 (m10.symm.trans h9)), if_neg (show ¬ (C.1 3 = 3 ∧ C.1 8 = 0 ∧ ms_byt 10 = u) from fun h9 => x2 h9.2.1)]
            exact ⟨_, _, _, _, rfl, rfl, ⟨rfl, by decide⟩, h0.m0 0⟩
        · rw [if_pos (show ¬ (ru M.1 0 0) 6 = 3 from fun h9 => x1 (m6.symm.trans h9)), if_neg (show ¬ (C.1 3 = 3 ∧ C.1 8 = 0 ∧ ms_byt 10 = u) from fun h9 => x1 h9.1)]
          exact ⟨_, _, _, _, rfl, rfl, ⟨rfl, by decide⟩, h0.m0 0⟩
    · rw [if_neg g2, if_neg g2, bad1]
      exact ⟨_, _, _, _, rfl, rfl, ⟨rfl, by decide⟩, h0.m0 1⟩
def cd12 (k : Nat) : Int32 := bif Nat.beq k 1 then 1 else bif Nat.beq k 2 then 2 else 0
theorem callUnit {C M : CS} {B : Nat} (h : Rel C M B) (p : Int32) : Call cd12 (f_112 C p) (f_114 M p) B := by
  have h0 := h
  obtain ⟨n, E, U, c, F, V, d, h1, h2, h3, h4, h5, h6⟩ := h
  have hn := h1.2.2.2.1
  have bad2 : b_114_32 M p 0 = some (0, (ru M.1 0 2, M.2)) := by
    unfold b_114_32 b_114_37
    rw [f22c M (by decide : ¬ (1 : Int32) = 0), Option.bind_some]
    exact if_neg (by decide : ¬ (1 : Int32) = 0)
  unfold f_112 f_114 b_114_13
  rcases h6 with ⟨t1, t2⟩ | ⟨t1, t2, t3, s, a, u, t4, t5⟩
  · rw [if_neg (nn t1), if_neg (nn t2), if_pos t2]
    unfold b_114_36 b_114_37
    rw [f22b, Option.bind_some]
    exact ⟨_, _, _, _, rfl, if_neg (by decide : ¬ (1 : Int32) = 0), ⟨rfl, by decide⟩, h0.m0 1⟩
  · obtain ⟨q1, q3, ⟨q4, q7⟩, ⟨q11, q5⟩, q6, q7', q8, q9, qU, qV, qs⟩ := t4
    rw [if_pos (show ¬ C.1 0 = 0 by rw [t1]; decide), if_pos (show ¬ M.1 2 = 0 by rw [t2]; decide), if_neg (show ¬ M.1 2 = 0 by rw [t2]; decide)]
    by_cases g1 : p < 0
    · rw [if_pos g1, if_pos g1, bad2]
      exact ⟨_, _, _, _, rfl, rfl, ⟨rfl, by decide⟩, h0.m0 2⟩
    · obtain ⟨j, hj, rfl⟩ := nI_of g1
      rw [if_neg g1, if_neg g1, qU.1, qV.1]
      by_cases g2 : j < u.length
      · rw [if_pos (nI_lt g2 (by omega)), if_pos (nI_lt g2 (by omega)), if_pos (mv_in_nI (show j < 2000 by omega) (by decide)), nI_clamp hj, qU.2 j g2]
        unfold b_114_36 b_114_37
        rw [f22a, Option.bind_some]
        dsimp only
        rw [if_pos (rfl : (0 : Int32) = 0), if_pos (mv_in_nI (show j < 2000 by omega) (by decide)), nI_clamp hj, qV.2 j g2]
        exact ⟨_, _, _, _, rfl, rfl, ⟨rfl, rfl⟩, h0.m0 0⟩
      · rw [if_neg (nI_nlt (by omega) hj), if_neg (nI_nlt (by omega) hj), bad2]
        exact ⟨_, _, _, _, rfl, rfl, ⟨rfl, by decide⟩, h0.m0 2⟩
def cd1 (k : Nat) : Int32 := bif Nat.beq k 1 then 1 else 0
theorem k115 {C : CS} : f_115 C = if C.1 3 = 1 ∨ C.1 3 = 2 ∨ C.1 3 = 3 then 1 else 0 := by
  unfold f_115
  by_cases h1 : C.1 3 = 1
  · rw [if_pos h1, if_pos (Or.inl h1)]
  · rw [if_neg h1]
    by_cases h2 : C.1 3 = 2
    · rw [if_pos h2, if_pos (Or.inr (Or.inl h2))]
    · rw [if_neg h2]
      by_cases h3 : C.1 3 = 3
      · rw [if_neg (nn h3), if_pos (Or.inr (Or.inr h3))]
      · rw [if_pos h3, if_neg (show ¬ (C.1 3 = 1 ∨ C.1 3 = 2 ∨ C.1 3 = 3) from fun h9 => h9.elim h1 (fun h8 => h8.elim h2 h3))]
theorem r13 {x : Int32} (h1 : ¬ x < 1) (h3 : x ≤ 3) : x = 1 ∨ x = 2 ∨ x = 3 := by
  have g3 : ¬ x < 0 := fun h9 => h1 (Int32.lt_trans h9 (by decide))
  obtain ⟨q, hq, rfl⟩ := nI_of g3
  have q1 : 1 ≤ q := by
    apply Nat.le_of_not_lt
    intro h9
    exact h1 (nI_lt (b := 1) h9 (by decide))
  have q8 : q ≤ 3 := (nI_leI (b := 3) hq (by decide)).mp h3
  have : q = 1 ∨ q = 2 ∨ q = 3 := by omega
  rcases this with rfl | rfl | rfl
  · exact Or.inl rfl
  · exact Or.inr (Or.inl rfl)
  · exact Or.inr (Or.inr rfl)
theorem callName {C M : CS} {B : Nat} (h : Rel C M B) (hB : B < 1000) : Call cd1 (f_123 C) (f_126 M) (B + 1) := by
  have h0 := h.up (Nat.le_succ B)
  obtain ⟨n, E, U, c, F, V, d, h1, h2, h3, h4, h5, h6⟩ := h
  have hn := h1.2.2.2.1
  have bad : b_126_24 M = some (0, (ru M.1 0 1, M.2)) := by
    unfold b_126_24 b_126_29
    rw [f22b, Option.bind_some]
    exact if_neg (by decide : ¬ (1 : Int32) = 0)
  unfold f_123 f_126
  rcases h6 with ⟨t1, t2⟩ | ⟨t1, t2, t3, s, a, u, t4, t5⟩
  · rw [if_pos t1, if_pos t2, bad]
    exact ⟨_, _, _, _, rfl, rfl, ⟨rfl, by decide⟩, h0.m0 1⟩
  · have hT := t4
    obtain ⟨q1, q3, ⟨q4, q7⟩, ⟨q11, q5⟩, q6, q7', q8, q9, qU, qV, qs⟩ := t4
    rw [if_neg (show ¬ C.1 0 = 0 by rw [t1]; decide), if_neg (show ¬ M.1 2 = 0 by rw [t2]; decide), ← q3, k115]
    by_cases hk : C.1 3 = 1 ∨ C.1 3 = 2 ∨ C.1 3 = 3
    · rw [if_pos hk, if_pos (by decide : ¬ (1 : Int32) = 0), if_neg (show ¬ C.1 3 < 1 by rcases hk with e | e | e <;> rw [e] <;> decide), if_pos (show C.1 3 ≤ 3 by rcases hk with e | e | e <;> rw [e] <;> decide)]
      unfold b_126_29
      rw [f22a, Option.bind_some]
      dsimp only
      rw [if_pos (rfl : (0 : Int32) = 0)]
      have qV' : UR ((ru M.1 0 0, M.2).2 1) ((ru M.1 0 0, M.2).1 12) u := qV
      have hS2 : SH ((ru M.1 0 0, M.2).1 13) ((ru M.1 0 0, M.2).2 2) ((ru M.1 0 0, M.2).2 3) E U c := h2.2.1
      obtain ⟨v, e1, e2⟩ := c120l h2.1 h2.2.2.1 (by omega) h2.2.2.2 qU (by omega) c fu 0 (by omega) (by rw [fu_e]; omega) (fun i hi => absurd hi (Nat.not_lt_zero i))
      unfold f_120_12
      rw [qU.1, show b_120_12_2 fu C (nI u.length) 0 = some v from e1, Option.bind_some]
      rcases e2 with ⟨i, g1, rfl, g3, g4⟩ | ⟨rfl, g1⟩
      · rw [if_neg (nI_m1 (by omega)), show b_126_40 fu (ru M.1 0 0, M.2) 0 = some (nI i, (ru M.1 0 0, M.2)) from m126a hS2 h2.2.2.1 (by omega) h2.2.2.2 qV' (by omega) g1 g3 g4 i fu 0 (by omega) (by rw [fu_e]; omega)]
        exact ⟨_, _, _, _, rfl, rfl, ⟨rfl, rfl⟩, h0.m0 0⟩
      · have hE : E c ≤ s := by
          rcases t5 with t5 | ⟨_, _, k, k1, k2⟩
          · exact t5
          · exact absurd k2 (g1 k k1)
        obtain ⟨C', j1, j2, j3⟩ := c122 h2.1 h2.2.2.1 (by omega) qU (by omega)
        obtain ⟨M', i1, i2, i3⟩ := m126 hS2 (by omega) qV' (by omega)
        rw [if_pos rfl, show b_126_40 fu (ru M.1 0 0, M.2) 0 = some (nI c, M') from (m126b hS2 h2.2.2.1 (by omega) h2.2.2.2 qV' (by omega) g1 c fu 0 (by omega) (by rw [fu_e]; omega)).trans i1, j1, Option.bind_some]
        have i2' : fr [0, 13] [2, 3] M M' := (fr.r1 (by decide) fr.pr).tr (i2.w (by decide) (by decide))
        have hT' : TKa C' M' n s a u := TKa.of (M := (ru M.1 0 0, M.2)) hT (fun k hk => j2.1 k (by intro h9; cases h9 with | head => omega | tail _ h8 => cases h8)) (fun k hk => i2.1 k (by intro h9; cases h9 with | head => omega | tail _ h8 => cases h8)) (j2.2 1 (by decide)) (i2.2 1 (by decide))
        refine ⟨_, _, _, _, rfl, rfl, ⟨i2.1 0 (by decide), rfl⟩, n, pE E c u.length, pU E U c u, c + 1, F, V, d, h1.fr j2 i2', ⟨j3, i3, h2.2.2.1.push, ?_⟩, h3.fr j2 i2', by omega, by omega, Or.inr ⟨(j2.1 0 (by decide)).trans t1, (i2'.1 2 (by decide)).trans t2, ?_, s, a, u, hT', Or.inr ⟨?_, ?_, c, by omega, hit.push⟩⟩⟩
        · rw [pE_s]; omega
        · rw [j2.1 5 (by decide), j2.1 11 (by decide)]; exact t3
        · rw [pE_s]; omega
        · rw [j2.1 3 (by decide)]; exact hk
    · rw [if_neg hk, if_neg (nn (rfl : (0 : Int32) = 0))]
      by_cases g1 : C.1 3 < 1
      · rw [if_pos g1, bad]
        exact ⟨_, _, _, _, rfl, rfl, ⟨rfl, by decide⟩, h0.m0 1⟩
      · rw [if_neg g1]
        by_cases g2 : C.1 3 ≤ 3
        · exact absurd (r13 g1 g2) hk
        · rw [if_neg g2, bad]
          exact ⟨_, _, _, _, rfl, rfl, ⟨rfl, by decide⟩, h0.m0 1⟩
theorem k127 {C : CS} : f_127 C = if C.1 3 = 2 ∨ C.1 3 = 3 ∨ C.1 3 = 5 then 1 else 0 := by
  unfold f_127
  by_cases h1 : C.1 3 = 2
  · rw [if_pos h1, if_pos (Or.inl h1)]
  · rw [if_neg h1]
    by_cases h2 : C.1 3 = 3
    · rw [if_pos h2, if_pos (Or.inr (Or.inl h2))]
    · rw [if_neg h2]
      by_cases h3 : C.1 3 = 5
      · rw [if_neg (nn h3), if_pos (Or.inr (Or.inr h3))]
      · rw [if_pos h3, if_neg (show ¬ (C.1 3 = 2 ∨ C.1 3 = 3 ∨ C.1 3 = 5) from fun h9 => h9.elim h1 (fun h8 => h8.elim h2 h3))]
theorem callLit {C M : CS} {B : Nat} (h : Rel C M B) (hB : B < 1000) : Call cd1 (f_128 C) (f_130 M) (B + 1) := by
  have h0 := h.up (Nat.le_succ B)
  obtain ⟨n, E, U, c, F, V, d, h1, h2, h3, h4, h5, h6⟩ := h
  have hn := h1.2.2.2.1
  have bad : ∀ T, b_130_87 M T = some (0, (ru M.1 0 1, M.2)) := by
    intro T
    unfold b_130_87 b_130_92
    rw [f22b, Option.bind_some]
    exact if_neg (by decide : ¬ (1 : Int32) = 0)
  have bad2 : b_130_35 M = some (0, (ru M.1 0 1, M.2)) := by
    unfold b_130_35
    rw [m130s h3.2.1 h3.2.2.1 (by omega)]
    unfold b_130_59
    rw [if_pos (rfl : (0 : Int32) = 0)]
    exact bad _
  unfold f_128 f_130
  rcases h6 with ⟨t1, t2⟩ | ⟨t1, t2, t3, s, a, u, t4, t5⟩
  · rw [if_pos t1, if_pos t2, bad2]
    exact ⟨_, _, _, _, rfl, rfl, ⟨rfl, by decide⟩, h0.m0 1⟩
  · have hT := t4
    obtain ⟨q1, q3, ⟨q4, q7⟩, ⟨q11, q5⟩, q6, q7', q8, q9, qU, qV, qs⟩ := t4
    have e9 : (if M.1 6 = 2 then b_130_31 M else (if M.1 6 = 3 then b_130_31 M else (if ¬ M.1 6 = 5 then b_130_35 M else b_130_31 M))) = if C.1 3 = 2 ∨ C.1 3 = 3 ∨ C.1 3 = 5 then b_130_31 M else b_130_35 M := by
      rw [← q3]
      by_cases x1 : C.1 3 = 2
      · rw [if_pos x1, if_pos (Or.inl x1)]
      · rw [if_neg x1]
        by_cases x2 : C.1 3 = 3
        · rw [if_pos x2, if_pos (Or.inr (Or.inl x2))]
        · rw [if_neg x2]
          by_cases x3 : C.1 3 = 5
          · rw [if_neg (nn x3), if_pos (Or.inr (Or.inr x3))]
          · rw [if_pos x3, if_neg (show ¬ (C.1 3 = 2 ∨ C.1 3 = 3 ∨ C.1 3 = 5) from fun h9 => h9.elim x1 (fun h8 => h8.elim x2 x3))]
    rw [if_neg (show ¬ C.1 0 = 0 by rw [t1]; decide), if_neg (show ¬ M.1 2 = 0 by rw [t2]; decide), e9, k127]
    by_cases hk : C.1 3 = 2 ∨ C.1 3 = 3 ∨ C.1 3 = 5
    · rw [if_pos hk, if_pos hk, if_pos (by decide : ¬ (1 : Int32) = 0), qU.1, c121L h3.1 h3.2.2.1 (by omega) h3.2.2.2 (by omega), Option.bind_some]
      unfold b_130_31
      rw [m130s h3.2.1 h3.2.2.1 (by omega)]
      unfold b_130_59
      rw [if_neg (by decide : ¬ (1 : Int32) = 0), h3.2.1.1, if_neg (show ¬ nI d = 1024 from fun h9 => absurd ((nI_eq (b := 1024) (by omega) (by decide)).mp h9) (by omega)), qV.1, nI_add]
      by_cases g1 : F d + u.length ≤ 8192
      · rw [if_pos g1, if_pos (by decide : ¬ (1 : Int32) = 0), if_pos (show nI (F d + u.length) ≤ 8192 from nI_le (b := 8192) g1 (by decide))]
        unfold b_130_92
        rw [f22a, Option.bind_some]
        dsimp only
        rw [if_pos (rfl : (0 : Int32) = 0)]
        have qV' : UR ((ru M.1 0 0, M.2).2 1) ((ru M.1 0 0, M.2).1 12) u := qV
        have hS2 : SH ((ru M.1 0 0, M.2).1 14) ((ru M.1 0 0, M.2).2 4) ((ru M.1 0 0, M.2).2 5) F V d := h3.2.1
        obtain ⟨C', j1, j2, j3⟩ := c122L h3.1 h3.2.2.1 (by omega) qU (by omega) g1
        obtain ⟨M', i1, i2, i3⟩ := m130 hS2 (by omega) qV' (by omega) g1
        rw [i1, j1, Option.bind_some]
        have i2' : fr [0, 14] [4, 5] M M' := (fr.r1 (by decide) fr.pr).tr (i2.w (by decide) (by decide))
        have hT' : TKa C' M' n s a u := TKa.of (M := (ru M.1 0 0, M.2)) hT (fun k hk => j2.1 k (by intro h9; cases h9 with | head => omega | tail _ h8 => cases h8)) (fun k hk => i2.1 k (by intro h9; cases h9 with | head => omega | tail _ h8 => cases h8)) (j2.2 1 (by decide)) (i2.2 1 (by decide))
        refine ⟨_, _, _, _, rfl, rfl, ⟨i2.1 0 (by decide), rfl⟩, n, E, U, c, pE F d u.length, pU F V d u, d + 1, h1.fr j2 i2', h2.fr j2 i2', ⟨j3, i3, h3.2.2.1.push, ?_⟩, by omega, by omega, Or.inr ⟨(j2.1 0 (by decide)).trans t1, (i2'.1 2 (by decide)).trans t2, ?_, s, a, u, hT', ?_⟩⟩
        · rw [pE_s]; exact g1
        · rw [j2.1 5 (by decide), j2.1 11 (by decide)]; exact t3
        · rw [j2.1 3 (by decide)]; exact t5
      · rw [if_neg g1, if_neg (nn (rfl : (0 : Int32) = 0)), if_neg (show ¬ nI (F d + u.length) ≤ 8192 from nI_ge (a := 8192) (by omega) (by have := h3.2.2.2; omega)), bad]
        exact ⟨_, _, _, _, rfl, rfl, ⟨rfl, by decide⟩, h0.m0 1⟩
    · rw [if_neg hk, if_neg hk, if_neg (nn (rfl : (0 : Int32) = 0)), bad2]
      exact ⟨_, _, _, _, rfl, rfl, ⟨rfl, by decide⟩, h0.m0 1⟩
def cd2 (k : Nat) : Int32 := bif Nat.beq k 2 then 1 else 0
theorem agT (x : Option Int32) : Ag cd2 (shR x) (shV x) (shC x) := by
  cases x with
  | none => exact ⟨rfl, by decide⟩
  | some v => exact ⟨rfl, rfl⟩
theorem callText0 {C M : CS} {B : Nat} (h : Rel C M B) (hB : B < 1000) (l2 l3 : Int32) : Call cd2 (f_132 C 0 l2 l3) (f_134 M 0 l2 l3) B := by
  have h0 := h
  obtain ⟨n, E, U, c, F, V, d, h1, h2, h3, h4, h5, h6⟩ := h
  exact ⟨_, _, _, _, (if_pos (rfl : (0 : Int32) = 0)).trans (c132N h2.1 h2.2.2.1 (by omega) h2.2.2.2 l2 l3), m134N h2.2.1 h2.2.2.1 (by omega) h2.2.2.2 l2 l3, agT _, h0.m0 _⟩
theorem callText1 {C M : CS} {B : Nat} (h : Rel C M B) (hB : B < 1000) (l2 l3 : Int32) : Call cd2 (f_132 C 1 l2 l3) (f_134 M 1 l2 l3) B := by
  have h0 := h
  obtain ⟨n, E, U, c, F, V, d, h1, h2, h3, h4, h5, h6⟩ := h
  exact ⟨_, _, _, _, (if_neg (by decide : ¬ (1 : Int32) = 0)).trans (c132L h3.1 h3.2.2.1 (by omega) h3.2.2.2 l2 l3), m134L h3.2.1 h3.2.2.1 (by omega) h3.2.2.2 l2 l3, agT _, h0.m0 _⟩
