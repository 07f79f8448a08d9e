/-! which token it is -/
theorem FIN.tr {A B C M C' M' : CS} {n lo : Nat} {v w : Int32} (h1 : fr KC [1] A C) (h2 : fr KM [1] B M) (h : FIN C M n lo v w C' M') : FIN A B n lo v w C' M' := by
  obtain ⟨g1, g2⟩ := h
  refine ⟨h1.tr g1, ?_⟩
  rcases g2 with ⟨k1, k2, k3, k4⟩ | ⟨k1, k2, k3⟩
  · exact Or.inl ⟨k1, k2, h2.tr k3, k4⟩
  · exact Or.inr ⟨k1, (KMR h2).tr k2, k3⟩
theorem dName {b : Nat → Int32} {n lo s : Nat} {C M : CS} (hB : BK b n) (hP : PRE C M b n s) (hlo : lo ≤ s) (hc : ¬ f_35 (b s) = 0 ∨ b s = 92) : ∃ v w C' M', b_60_54 C = some (v, C') ∧ b_91_83 M = some (w, M') ∧ FIN C M n lo v w C' M' := by
  obtain ⟨v, C1, M1, k1, k2, k3⟩ := tName hB hP hc
  obtain ⟨w, C', M', e1, e2, e3⟩ := fin60 hP.1.2.1 hlo k3
  unfold b_60_54 b_91_83
  rw [k1, Option.bind_some, k2, Option.bind_some]
  exact ⟨v, w, C', M', e1, e2, e3⟩
theorem dNum {b : Nat → Int32} {n lo s : Nat} {C M : CS} (hB : BK b n) (hP : PRE C M b n s) (hlo : lo ≤ s) (hc : s < n) : ∃ v w C' M', b_60_94 C = some (v, C') ∧ b_91_119 M = some (w, M') ∧ FIN C M n lo v w C' M' := by
  obtain ⟨v, C1, M1, k1, k2, k3⟩ := tNum hB hP hc
  obtain ⟨w, C', M', e1, e2, e3⟩ := fin60 hP.1.2.1 hlo k3
  unfold b_60_94 b_91_119
  rw [k1, Option.bind_some, k2, Option.bind_some]
  exact ⟨v, w, C', M', e1, e2, e3⟩
theorem dText {b : Nat → Int32} {n lo s : Nat} {C M : CS} {q : Int32} (hB : BK b n) (hP : PRE C M b n s) (hlo : lo ≤ s) (hc : b s = q) (hq : q = 34 ∨ q = 39) : ∃ v w C' M', b_60_114 C q = some (v, C') ∧ b_91_138 M = some (w, M') ∧ FIN C M n lo v w C' M' := by
  obtain ⟨v, C1, M1, k1, k2, k3⟩ := tText hB hP hc (by rcases hq with rfl | rfl <;> decide) (by rcases hq with rfl | rfl <;> decide) (by rcases hq with rfl | rfl <;> decide)
  obtain ⟨w, C', M', e1, e2, e3⟩ := fin60 hP.1.2.1 hlo k3
  unfold b_60_114 b_91_138
  rw [k1, Option.bind_some, k2, Option.bind_some]
  exact ⟨v, w, C', M', e1, e2, e3⟩
theorem d102 {b : Nat → Int32} {n lo s : Nat} {C M : CS} (hB : BK b n) (hP : PRE C M b n s) (hlo : lo ≤ s) (hc : ¬ b s = -1) : ∃ v w C' M', b_60_102 C (b s) 1 = some (v, C') ∧ b_91_126 M (b s) = some (w, M') ∧ FIN C M n lo v w C' M' := by
  unfold b_60_102 b_91_126
  by_cases h1 : b s = 34
  · rw [if_pos h1, if_pos h1]
    exact dText hB hP hlo rfl (Or.inl h1)
  · rw [if_neg h1, if_neg h1]
    by_cases h2 : b s = 39
    · rw [if_neg (nn h2), if_neg (nn h2)]
      exact dText hB hP hlo rfl (Or.inr h2)
    · rw [if_pos h2, if_pos h2, if_neg hc]
      obtain ⟨v, C1, M1, k1, k2, k3⟩ := tSign hB hP
      obtain ⟨w, C', M', e1, e2, e3⟩ := fin60 hP.1.2.1 hlo k3
      rw [k1, Option.bind_some, k2, Option.bind_some]
      exact ⟨v, w, C', M', e1, e2, e3⟩
theorem dEnd {b : Nat → Int32} {n lo s : Nat} {C M : CS} (hP : PRE C M b n s) (hlo : lo ≤ s) : ∃ v w C' M', b_60_133 C 1 = some (v, C') ∧ b_91_149 (ru M.1 6 0, M.2) = some (w, M') ∧ FIN C M n lo v w C' M' := by
  obtain ⟨hK, hL, hs, ⟨c4, m7⟩, ⟨c11, m5⟩, hbad, ⟨c6, c6'⟩, ⟨c7, m9⟩, ⟨c8, m10⟩, ⟨c9, m11⟩, ⟨c10, m12⟩, c3⟩ := hP
  have ho : OUT C M n s 1 C (ru M.1 6 0, M.2) := by
    refine ⟨fr.rf, fr.r1 (by decide) fr.pr, Or.inl ⟨rfl, ?_, s, [], ⟨Nat.le_refl _, hs, Nat.le_refl _⟩, c3.trans rp.symm, ⟨c4, (rq (by decide)).trans m7⟩, ⟨c11, (rq (by decide)).trans m5⟩, ⟨c6.trans (rq (by decide)).symm, c6'⟩, c7.trans ((rq (by decide)).trans m9).symm, ⟨c8.trans ((rq (by decide)).trans m10).symm, Or.inl c8⟩, c9.trans ((rq (by decide)).trans m11).symm, ?_, ?_, fun h9 => absurd c9 h9⟩⟩
    · rw [rq (by decide)]
      exact hbad
    · rw [c10]
      exact UR.nil
    · rw [rq (by decide), m12]
      exact UR.nil
  obtain ⟨w, C', M', e1, e2, e3⟩ := fin60 hK.2.1 hlo ho
  exact ⟨1, w, C', M', e1, e2, e3⟩
theorem disp {b : Nat → Int32} {n lo s : Nat} {C M : CS} (hB : BK b n) (hP : PRE C M b n s) (hlo : lo ≤ s) : ∃ v w C' M',
    ((f_28 C (nI s)).bind fun r99 => (if ¬ (f_35 r99) = 0 then b_60_54 C else (if ¬ r99 = 92 then (if ¬ (f_38 r99) = 0 then b_60_94 C else (if ¬ r99 = 46 then b_60_102 C r99 1 else (f_28 C (nI s + 1)).bind fun r534 => (if (f_38 r534) = 0 then b_60_102 C r99 1 else b_60_94 C))) else b_60_54 C))) = some (v, C') ∧
    ((f_66 M (nI s)).bind fun r941 => (if 0 ≤ r941 then (if ¬ (f_73 r941) = 0 then b_91_83 M else (if ¬ r941 = 92 then (if ¬ (f_74 r941) = 0 then b_91_119 M else (if ¬ r941 = 46 then b_91_126 M r941 else (f_66 M (nI s + 1)).bind fun r1724 => (if (f_74 r1724) = 0 then b_91_126 M r941 else b_91_119 M))) else b_91_83 M)) else b_91_149 (ru M.1 6 0, M.2))) = some (w, M') ∧ FIN C M n lo v w C' M' := by
  have hK := hP.1
  have hL := hP.2.1
  have hs := hP.2.2.1
  have hn := hK.2.1
  rw [c28 hK (by omega), m66 hL (by omega), Option.bind_some, Option.bind_some, nI_1, c28 hK (by omega), m66 hL (by omega), Option.bind_some, Option.bind_some, e73, e74]
  by_cases h0 : n ≤ s
  · have e1 : b s = -1 := hB.2 s h0
    rw [if_neg (show ¬ 0 ≤ b s from fun h9 => absurd (hB.ge.mp h9) (by omega))]
    rw [e1, if_neg (nn z35), if_pos (by decide : ¬ (-1 : Int32) = 92), if_neg (nn z38), if_pos (by decide : ¬ (-1 : Int32) = 46)]
    unfold b_60_102
    rw [if_neg (by decide : ¬ (-1 : Int32) = 34), if_pos (by decide : ¬ (-1 : Int32) = 39), if_pos rfl]
    exact dEnd hP hlo
  · have hc : ¬ b s = -1 := fun h9 => h0 (hB.m1.mp h9)
    rw [if_pos (hB.ge.mpr (by omega))]
    by_cases h1 : f_35 (b s) = 0
    · rw [if_neg (nn h1), if_neg (nn h1)]
      by_cases h2 : b s = 92
      · rw [if_neg (nn h2), if_neg (nn h2)]
        exact dName hB hP hlo (Or.inr h2)
      · rw [if_pos h2, if_pos h2]
        by_cases h3 : f_38 (b s) = 0
        · rw [if_neg (nn h3), if_neg (nn h3)]
          by_cases h4 : b s = 46
          · rw [if_neg (nn h4), if_neg (nn h4)]
            by_cases h5 : f_38 (b (s + 1)) = 0
            · rw [if_pos h5, if_pos h5]
              exact d102 hB hP hlo hc
            · rw [if_neg h5, if_neg h5]
              exact dNum hB hP hlo (by omega)
          · rw [if_pos h4, if_pos h4]
            exact d102 hB hP hlo hc
        · rw [if_pos h3, if_pos h3]
          exact dNum hB hP hlo (by omega)
    · rw [if_pos h1, if_pos h1]
      exact dName hB hP hlo (Or.inl h1)
theorem scan {b : Nat → Int32} {n a : Nat} {C M : CS} (hB : BK b n) (hK : CK C b n) (hL : MK M b n) (ha : C.1 11 = nI a) (hm : M.1 5 = nI a) (h : a ≤ n) : ∃ v w C' M', f_60 C = some (v, C') ∧ f_91 M = some (w, M') ∧ FIN C M n a v w C' M' := by
  have hn := hK.2.1
  obtain ⟨C0, e27, f0, z3, z6, z7, z8, z9, z10⟩ : ∃ C0, f_27 C = some C0 ∧ fr [3, 4, 5, 6, 7, 8, 9, 10] [] C C0 ∧ C0.1 3 = 0 ∧ C0.1 6 = 0 ∧ C0.1 7 = -1 ∧ C0.1 8 = 0 ∧ C0.1 9 = 0 ∧ C0.1 10 = 0 := ⟨_, rfl, fr.r1 (by decide) (fr.r1 (by decide) (fr.r1 (by decide) (fr.r1 (by decide) (fr.r1 (by decide) (fr.r1 (by decide) (fr.r1 (by decide) (fr.r1 (by decide) fr.pr))))))), rfl, rfl, rfl, rfl, rfl, rfl⟩
  obtain ⟨v0, C1, k1, k2, k3, k4⟩ := c34 hB fu C0 0 a (hK.fr f0) ((f0.1 11 (by decide)).trans ha) (Nat.zero_le _) h (by rw [fu_e]; omega)
  obtain ⟨M0, e0, g0, y4, y8⟩ : ∃ M0, M0 = ((ru (ru M.1 4 (-1)) 8 0, M.2) : CS) ∧ fr [4, 8] [] M M0 ∧ M0.1 4 = -1 ∧ M0.1 8 = 0 := ⟨_, rfl, fr.r1 (by decide) (fr.r1 (by decide) fr.pr), rfl, rfl⟩
  obtain ⟨M1, j1, j2, j3, j4⟩ := m71 hB fu M0 a (-1) (hL.fr g0) ((g0.1 5 (by decide)).trans hm) h (by rw [y4]; decide) (fun h9 => absurd h9.symm (nI_m1 (by omega))) (by rw [fu_e]; omega) (fun _ => by rw [fu_e]; omega)
  rw [z6] at k3 k4
  rw [y8] at j3 j4
  have fc1 : fr KC [1] C C1 := (f0.w (by decide) (by decide)).tr (k2.w (by decide) (by decide))
  have fm1 : fr KM [1] M M1 := (g0.w (by decide) (by decide)).tr (j2.w (by decide) (by decide))
  unfold f_60 f_91 f_71 f_34
  dsimp only
  rw [e27, Option.bind_some, show b_34_2 fu C0 0 = some (v0, C1) from k1, Option.bind_some, ← e0, j1, Option.bind_some]
  dsimp only
  cases hx : skS b n fu a 0 with
  | none =>
    obtain ⟨rfl, g⟩ := k4 hx
    have t4 := j4 hx
    rw [if_neg (nn rfl), if_neg (show ¬ M1.1 4 < 0 by rw [t4]; exact nI_pos (by omega))]
    obtain ⟨w, M', e1, e2, e3, e4, e5, e6⟩ := f72c (M0 := M) (M := (ru (ru (ru (ru (ru M1.1 12 0) 9 (-1)) 10 0) 11 0) 7 (M1.1 5), M1.2)) (Nat.le_refl n) hn t4 (fr.r1 (by decide) (fr.r1 (by decide) (fr.r1 (by decide) (fr.r1 (by decide) (fr.r1 (by decide) (fm1.tr fr.pr))))))
    rw [e1, Option.bind_some]
    exact ⟨_, _, _, _, rfl, rfl, fc1, Or.inr ⟨rfl, e2, e3, e4, e5, g.trans e6.symm⟩⟩
  | some p =>
    obtain ⟨s, ln⟩ := p
    obtain ⟨rfl, g11, g6⟩ := k3 _ hx
    obtain ⟨t5, t8, t4⟩ := j3 _ hx
    obtain ⟨w1, w2, w3⟩ := skS_b hB fu a 0 _ h hx
    dsimp only at g11 g6 t5 t8 w1 w2 w3
    rw [if_pos (by decide : ¬ (1 : Int32) = 0), if_pos (show M1.1 4 < 0 by rw [t4, y4]; decide), g11, t5]
    have fc2 : fr KC [1] C (ru C1.1 4 (nI s), C1.2) := fr.r1 (by decide) (fc1.tr fr.pr)
    have fm2 : fr KM [1] M (ru (ru (ru (ru (ru M1.1 12 0) 9 (-1)) 10 0) 11 0) 7 (nI s), M1.2) := fr.r1 (by decide) (fr.r1 (by decide) (fr.r1 (by decide) (fr.r1 (by decide) (fr.r1 (by decide) (fm1.tr fr.pr)))))
    have hP : PRE (ru C1.1 4 (nI s), C1.2) (ru (ru (ru (ru (ru M1.1 12 0) 9 (-1)) 10 0) 11 0) 7 (nI s), M1.2) b n s := by
      refine ⟨hK.fr fc2, hL.fr fm2, w2, ⟨rfl, rfl⟩, ⟨g11, t5⟩, ?_, ⟨?_, ?_⟩, ⟨?_, rfl⟩, ⟨?_, rfl⟩, ⟨?_, rfl⟩, ⟨?_, rfl⟩, ?_⟩
      · show M1.1 4 < 0
        rw [t4, y4]
        decide
      · exact g6.trans t8.symm
      · show C1.1 6 = 0 ∨ C1.1 6 = 1
        rw [g6]
        exact w3
      · exact (k2.1 7 (by decide)).trans z7
      · exact (k2.1 8 (by decide)).trans z8
      · exact (k2.1 9 (by decide)).trans z9
      · exact (k2.1 10 (by decide)).trans z10
      · exact (k2.1 3 (by decide)).trans z3
    obtain ⟨v, w, C', M', e1, e2, e3⟩ := disp hB hP w1
    exact ⟨v, w, C', M', e1, e2, e3.tr fc2 fm2⟩
