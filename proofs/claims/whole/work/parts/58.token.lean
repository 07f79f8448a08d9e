/-! one token -/
def TKa (C M : CS) (n s a : Nat) (u : List Int32) : Prop := (s ≤ a ∧ a ≤ n ∧ s + u.length ≤ a) ∧ C.1 3 = M.1 6 ∧ (C.1 4 = nI s ∧ M.1 7 = nI s) ∧ (C.1 11 = nI a ∧ M.1 5 = nI a) ∧ (C.1 6 = M.1 8 ∧ (C.1 6 = 0 ∨ C.1 6 = 1)) ∧ C.1 7 = M.1 9 ∧ (C.1 8 = M.1 10 ∧ (C.1 8 = 0 ∨ C.1 8 = 1)) ∧ C.1 9 = M.1 11 ∧ UR (C.2 1) (C.1 10) u ∧ UR (M.2 1) (M.1 12) u ∧ (¬ C.1 9 = 0 → C.1 3 = 4 ∧ u = [] ∧ s < n)
theorem TKa.c5 {C M : CS} {n s a : Nat} {u : List Int32} (h : TKa C M n s a u) (x : Int32) : TKa (ru C.1 5 x, C.2) M n s a u := by
  unfold TKa
  rw [rq (by decide), rq (by decide), rq (by decide), rq (by decide), rq (by decide), rq (by decide), rq (by decide), rq (by decide)]
  exact h
def KC : List Nat := [3, 4, 5, 6, 7, 8, 9, 10, 11, 12]
def KM : List Nat := [4, 5, 6, 7, 8, 9, 10, 11, 12]
def KR : List Nat := [0, 1, 2, 3, 4, 5, 6, 7, 8, 9, 10, 11, 12]
def PRE (C M : CS) (b : Nat → Int32) (n s : Nat) : Prop := CK C b n ∧ MK M b n ∧ s ≤ n ∧ (C.1 4 = nI s ∧ M.1 7 = nI s) ∧ (C.1 11 = nI s ∧ M.1 5 = nI s) ∧ M.1 4 < 0 ∧ (C.1 6 = M.1 8 ∧ (C.1 6 = 0 ∨ C.1 6 = 1)) ∧ (C.1 7 = -1 ∧ M.1 9 = -1) ∧ (C.1 8 = 0 ∧ M.1 10 = 0) ∧ (C.1 9 = 0 ∧ M.1 11 = 0) ∧ (C.1 10 = 0 ∧ M.1 12 = 0) ∧ C.1 3 = 0
def OUT (C M : CS) (n s : Nat) (v : Int32) (C' M' : CS) : Prop := fr KC [1] C C' ∧ fr KM [1] M M' ∧ ((v = 1 ∧ M'.1 4 < 0 ∧ ∃ a u, TKa C' M' n s a u) ∨ (v = 0 ∧ ∃ p, p ≤ n ∧ C'.1 12 = nI p ∧ M'.1 4 = nI p))
theorem tName {b : Nat → Int32} {n s : Nat} {C M : CS} (hB : BK b n) (hP : PRE C M b n s) (hc : ¬ f_35 (b s) = 0 ∨ b s = 92) : ∃ v C' M', f_45 C = some (v, C') ∧ f_81 M = some M' ∧ OUT C M n s v C' M' := by
  obtain ⟨hK, hL, hs, ⟨c4, m7⟩, ⟨c11, m5⟩, hbad, ⟨c6, c6'⟩, ⟨c7, m9⟩, ⟨c8, m10⟩, ⟨c9, m11⟩, ⟨c10, m12⟩, c3⟩ := hP
  have hn := hK.2.1
  have fc : fr KC [1] C (ru C.1 3 1, C.2) := fr.r1 (by decide) fr.pr
  have fm : fr KM [1] M (ru M.1 6 1, M.2) := fr.r1 (by decide) fr.pr
  have fm' : fr [6] [1] M (ru M.1 6 1, M.2) := fr.r1 (by decide) fr.pr
  have fc' : fr [3] [1] C (ru C.1 3 1, C.2) := fr.r1 (by decide) fr.pr
  have e8 : (ru C.1 3 1, C.2).1 8 = 0 := (rq (by decide)).trans c8
  have e10 : (ru M.1 6 1, M.2).1 10 = 0 := (rq (by decide)).trans m10
  obtain ⟨v, C1, k1, k2, k3, k4⟩ := c45 hB fu (ru C.1 3 1, C.2) 0 s [] (hK.fr fc') ((rq (by decide)).trans c11) (Nat.zero_le _) hs (by rw [fu_e]; omega) (by rw [show (ru C.1 3 1, C.2).1 10 = 0 from (rq (by decide)).trans c10]; exact UR.nil) (Nat.zero_le _)
  obtain ⟨M1, j1, j2, j3, j4⟩ := m81 hB fu (ru M.1 6 1, M.2) s [] (hL.fr fm') ((rq (by decide)).trans m5) hs (by rw [fu_e]; omega) (by rw [rq (by decide)]; exact hbad) (by rw [show (ru M.1 6 1, M.2).1 12 = 0 from (rq (by decide)).trans m12]; exact UR.nil) (Nat.zero_le _) (fun _ => hc)
  rw [e8] at k3 k4
  rw [e10] at j3 j4
  obtain ⟨q1, q2⟩ := rnS_b hB fu s [] 0 hs
  refine ⟨v, C1, M1, k1, j1, fc.tr (k2.w (by decide) (by decide)), fm.tr (j2.w (by decide) (by decide)), ?_⟩
  cases hx : rnS b fu s [] 0 with
  | inr p => exact Or.inr ⟨(k4 p hx).1, p, q2 p hx, (k4 p hx).2, j4 p hx⟩
  | inl r =>
    obtain ⟨a, u, e⟩ := r
    obtain ⟨r1, r2, r3, r4, r5⟩ := k3 a u e hx
    obtain ⟨t1, t2, t3, t4, t5⟩ := j3 a u e hx
    obtain ⟨w1, w2, w3, w4⟩ := q1 a u e hx
    rw [List.length_nil] at w3
    have g3 : C1.1 3 = 1 := (k2.1 3 (by decide)).trans rp
    have g6 : M1.1 6 = 1 := (j2.1 6 (by decide)).trans rp
    have g9 : C1.1 9 = 0 := (k2.1 9 (by decide)).trans ((rq (by decide)).trans c9)
    have g11 : M1.1 11 = 0 := (j2.1 11 (by decide)).trans ((rq (by decide)).trans m11)
    have gl : C1.1 6 = C.1 6 := (k2.1 6 (by decide)).trans (rq (by decide))
    have gm : M1.1 8 = M.1 8 := (j2.1 8 (by decide)).trans (rq (by decide))
    refine Or.inl ⟨r1, ?_, a, u, ⟨w1, w2, by omega⟩, g3.trans g6.symm, ⟨(k2.1 4 (by decide)).trans ((rq (by decide)).trans c4), (j2.1 7 (by decide)).trans ((rq (by decide)).trans m7)⟩, ⟨r2, t1⟩, ⟨gl.trans (c6.trans gm.symm), ?_⟩, r5.trans t4.symm, ⟨r4.trans t3.symm, ?_⟩, g9.trans g11.symm, r3, t2, fun h9 => absurd g9 h9⟩
    · rw [t5, rq (by decide)]
      exact hbad
    · rw [gl]
      exact c6'
    · rw [r4]
      exact w4
theorem tNum {b : Nat → Int32} {n s : Nat} {C M : CS} (hB : BK b n) (hP : PRE C M b n s) (hc : s < n) : ∃ v C' M', f_51 C = some (v, C') ∧ f_84 M = some M' ∧ OUT C M n s v C' M' := by
  obtain ⟨hK, hL, hs, ⟨c4, m7⟩, ⟨c11, m5⟩, hbad, ⟨c6, c6'⟩, ⟨c7, m9⟩, ⟨c8, m10⟩, ⟨c9, m11⟩, ⟨c10, m12⟩, c3⟩ := hP
  have hn := hK.2.1
  obtain ⟨v, C1, k1, k2, k3, k4⟩ := c51 hB hK c11 c4 hc (by rw [c10]; exact UR.nil)
  obtain ⟨M1, j1, j2, j3, j4, j5⟩ := m84 hB hL m5 m7 hc hbad (by rw [m12]; exact UR.nil)
  obtain ⟨q1, q2⟩ := nuS_b hB hs
  refine ⟨v, C1, M1, k1, j1, k2.w (by decide) (by decide), j2.w (by decide) (by decide), ?_⟩
  cases hx : nuS b s with
  | inr p => exact Or.inr ⟨(k4 p hx).1, p, q2 p hx, (k4 p hx).2, j5 p hx⟩
  | inl e =>
    obtain ⟨r1, r2, r3, r4⟩ := k3 e hx
    obtain ⟨t1, t2, t3⟩ := j4 e hx
    obtain ⟨w1, w2⟩ := q1 e hx
    have g9 : C1.1 9 = 0 := (k2.1 9 (by decide)).trans c9
    have gl : C1.1 6 = C.1 6 := k2.1 6 (by decide)
    have gm : M1.1 8 = M.1 8 := j2.1 8 (by decide)
    have g8 : C1.1 8 = 0 := (k2.1 8 (by decide)).trans c8
    refine Or.inl ⟨r1, ?_, e, _, ⟨w1, w2, ?_⟩, r2.trans j3.symm, ⟨(k2.1 4 (by decide)).trans c4, (j2.1 7 (by decide)).trans m7⟩, ⟨r3, t1⟩, ⟨gl.trans (c6.trans gm.symm), ?_⟩, ((k2.1 7 (by decide)).trans c7).trans ((j2.1 9 (by decide)).trans m9).symm, ⟨g8.trans ((j2.1 10 (by decide)).trans m10).symm, Or.inl g8⟩, g9.trans ((j2.1 11 (by decide)).trans m11).symm, r4, t2, fun h9 => absurd g9 h9⟩
    · rw [t3]
      exact hbad
    · rw [tkS_l, List.length_nil]
      omega
    · rw [gl]
      exact c6'
theorem tText {b : Nat → Int32} {n s : Nat} {C M : CS} {q : Int32} (hB : BK b n) (hP : PRE C M b n s) (hc : b s = q) (hq0 : f_30 q = 0) (hq1 : 0 ≤ q) (hq2 : ¬ q = -1) : ∃ v C' M', f_56 C q = some (v, C') ∧ f_86 M = some M' ∧ OUT C M n s v C' M' := by
  obtain ⟨hK, hL, hs, ⟨c4, m7⟩, ⟨c11, m5⟩, hbad, ⟨c6, c6'⟩, ⟨c7, m9⟩, ⟨c8, m10⟩, ⟨c9, m11⟩, ⟨c10, m12⟩, c3⟩ := hP
  have hn := hK.2.1
  have hlt : s < n := lt_of hB hc hq2
  have fc : fr KC [1] C (ru (ru C.1 3 3) 11 (nI (s + 1)), C.2) := fr.r1 (by decide) (fr.r1 (by decide) fr.pr)
  have fm : fr KM [1] M (ru (ru M.1 6 3) 5 (nI (s + 1)), M.2) := fr.r1 (by decide) (fr.r1 (by decide) fr.pr)
  have fc' : fr [3, 11] [1] C (ru (ru C.1 3 3) 11 (nI (s + 1)), C.2) := fr.r1 (by decide) (fr.r1 (by decide) fr.pr)
  have fm' : fr [5, 6] [1] M (ru (ru M.1 6 3) 5 (nI (s + 1)), M.2) := fr.r1 (by decide) (fr.r1 (by decide) fr.pr)
  have e8 : (ru (ru C.1 3 3) 11 (nI (s + 1)), C.2).1 8 = 0 := (fc'.1 8 (by decide)).trans c8
  have e10 : (ru (ru M.1 6 3) 5 (nI (s + 1)), M.2).1 10 = 0 := (fm'.1 10 (by decide)).trans m10
  obtain ⟨v, C1, k1, k2, k3, k4⟩ := c56 (q := q) hB fu (ru (ru C.1 3 3) 11 (nI (s + 1)), C.2) (s + 1) [] (hK.fr fc') rp hlt (by rw [fu_e]; omega) (by rw [(fc'.1 10 (by decide)).trans c10]; exact UR.nil) (Nat.zero_le _)
  obtain ⟨M1, j1, j2, j3, j4⟩ := m86 (q := q) hB hq0 hq1 fu (ru (ru M.1 6 3) 5 (nI (s + 1)), M.2) (s + 1) [] (hL.fr fm') rp hlt (by rw [fu_e]; omega) (by rw [fm'.1 4 (by decide)]; exact hbad) (by rw [(fm'.1 12 (by decide)).trans m12]; exact UR.nil) (Nat.zero_le _)
  rw [e8] at k3 k4
  rw [e10] at j3 j4
  have hq : M.2 0 s = q := by
    rw [← hc, hL.2.2 s, if_pos hlt]
  have k1' : f_56 C q = some (v, C1) := by
    unfold f_56
    rw [c11, nI_1, k1]
  have j1' : f_86 M = some M1 := by
    unfold f_86
    rw [m5, if_pos (mv_in_nI (show s < 2000 by omega) (by decide)), nI_clamp (by omega), hq, nI_1, j1]
  obtain ⟨q1, q2⟩ := txS_b (q := q) hB fu (s + 1) [] 0 hlt
  refine ⟨v, C1, M1, k1', j1', fc.tr (k2.w (by decide) (by decide)), fm.tr (j2.w (by decide) (by decide)), ?_⟩
  cases hx : txS b n q fu (s + 1) [] 0 with
  | inr p => exact Or.inr ⟨(k4 p hx).1, p, q2 p hx, (k4 p hx).2, j4 p hx⟩
  | inl r =>
    obtain ⟨a, u, e⟩ := r
    obtain ⟨r1, r2, r3, r4⟩ := k3 a u e hx
    obtain ⟨t1, t2, t3, t4⟩ := j3 a u e hx
    obtain ⟨w1, w2, w3, w4⟩ := q1 a u e hx
    rw [List.length_nil] at w3
    have g3 : C1.1 3 = 3 := (k2.1 3 (by decide)).trans ((rq (by decide)).trans (ru_eq _ _ _))
    have g6 : M1.1 6 = 3 := (j2.1 6 (by decide)).trans ((rq (by decide)).trans (ru_eq _ _ _))
    have g9 : C1.1 9 = 0 := (k2.1 9 (by decide)).trans ((fc'.1 9 (by decide)).trans c9)
    have g11 : M1.1 11 = 0 := (j2.1 11 (by decide)).trans ((fm'.1 11 (by decide)).trans m11)
    have gl : C1.1 6 = C.1 6 := (k2.1 6 (by decide)).trans (fc'.1 6 (by decide))
    have gm : M1.1 8 = M.1 8 := (j2.1 8 (by decide)).trans (fm'.1 8 (by decide))
    have g7 : C1.1 7 = -1 := (k2.1 7 (by decide)).trans ((fc'.1 7 (by decide)).trans c7)
    have g9m : M1.1 9 = -1 := (j2.1 9 (by decide)).trans ((fm'.1 9 (by decide)).trans m9)
    refine Or.inl ⟨r1, ?_, a, u, ⟨by omega, w2, by omega⟩, g3.trans g6.symm, ⟨(k2.1 4 (by decide)).trans ((fc'.1 4 (by decide)).trans c4), (j2.1 7 (by decide)).trans ((fm'.1 7 (by decide)).trans m7)⟩, ⟨r2, t1⟩, ⟨gl.trans (c6.trans gm.symm), ?_⟩, g7.trans g9m.symm, ⟨r4.trans t3.symm, ?_⟩, g9.trans g11.symm, r3, t2, fun h9 => absurd g9 h9⟩
    · rw [t4, fm'.1 4 (by decide)]
      exact hbad
    · rw [gl]
      exact c6'
    · rw [r4]
      exact w4
theorem tSign {b : Nat → Int32} {n s : Nat} {C M : CS} (hB : BK b n) (hP : PRE C M b n s) : ∃ v C' M', f_59 C = some (v, C') ∧ f_90 M = some M' ∧ OUT C M n s v C' M' := by
  obtain ⟨hK, hL, hs, ⟨c4, m7⟩, ⟨c11, m5⟩, hbad, ⟨c6, c6'⟩, ⟨c7, m9⟩, ⟨c8, m10⟩, ⟨c9, m11⟩, ⟨c10, m12⟩, c3⟩ := hP
  have hn := hK.2.1
  obtain ⟨v, C1, k1, k2, k3, k4⟩ := c59 hK c11 hs
  obtain ⟨M1, j1, j2, j3, j4, j5⟩ := m90 hL m5 hs hbad m11
  refine ⟨v, C1, M1, k1, j1, k2.w (by decide) (by decide), j2.w (by decide) (by decide), ?_⟩
  cases hx : sgS b s with
  | none => exact Or.inr ⟨(k4 hx).1, s, hs, (k4 hx).2, j5 hx⟩
  | some k =>
    obtain ⟨r1, r2, r3, r4⟩ := k3 k hx
    obtain ⟨t1, t2, t3⟩ := j4 k hx
    obtain ⟨w1, w2⟩ := sgS_ok b s k hx
    obtain ⟨_, l1, l2, l3⟩ := ks1 k w1
    have w3 := matchS_b hB (sg k) s hs l3 w2
    have gl : C1.1 6 = C.1 6 := k2.1 6 (by decide)
    have gm : M1.1 8 = M.1 8 := j2.1 8 (by decide)
    have g8 : C1.1 8 = 0 := (k2.1 8 (by decide)).trans c8
    refine Or.inl ⟨r1, ?_, s + (sg k).length, [], ⟨by omega, w3, by rw [List.length_nil]; omega⟩, r2.trans j3.symm, ⟨(k2.1 4 (by decide)).trans c4, (j2.1 7 (by decide)).trans m7⟩, ⟨r4, t1⟩, ⟨gl.trans (c6.trans gm.symm), ?_⟩, ((k2.1 7 (by decide)).trans c7).trans ((j2.1 9 (by decide)).trans m9).symm, ⟨g8.trans ((j2.1 10 (by decide)).trans m10).symm, Or.inl g8⟩, r3.trans t2.symm, ?_, ?_, fun _ => ⟨r2, rfl, by omega⟩⟩
    · rw [t3]
      exact hbad
    · rw [gl]
      exact c6'
    · rw [k2.1 10 (by decide), c10]
      exact UR.nil
    · rw [j2.1 12 (by decide), m12]
      exact UR.nil
theorem f72a {M : CS} (h : M.1 4 < 0) : f_72 M = some (M.1 6, M) := by
  unfold f_72
  rw [if_pos h]
theorem f72b {M : CS} (h : ¬ M.1 4 < 0) : f_72 M = some (0, (ru (ru (ru (ru M.1 3 (M.1 4)) 1 0) 2 0) 0 1, M.2)) := by
  unfold f_72
  rw [if_neg h]
  rfl
def FIN (C M : CS) (n lo : Nat) (v w : Int32) (C' M' : CS) : Prop := fr KC [1] C C' ∧ ((v = 1 ∧ w = C'.1 3 ∧ fr KM [1] M M' ∧ C'.1 5 = C'.1 11 ∧ ∃ s a u, lo ≤ s ∧ TKa C' M' n s a u) ∨ (v = 0 ∧ fr KR [1] M M' ∧ M'.1 0 = 1 ∧ M'.1 1 = 0 ∧ M'.1 2 = 0 ∧ C'.1 12 = M'.1 3))
theorem KMR {M M' : CS} (h : fr KM [1] M M') : fr KR [1] M M' := h.w (by decide) (by decide)
/-- a refusal, told to the reference -/
theorem f72c {M0 M : CS} {p n : Nat} (hp : p ≤ n) (hn : n ≤ 2000) (h : M.1 4 = nI p) (hf : fr KM [1] M0 M) : ∃ w M', f_72 M = some (w, M') ∧ fr KR [1] M0 M' ∧ M'.1 0 = 1 ∧ M'.1 1 = 0 ∧ M'.1 2 = 0 ∧ M'.1 3 = nI p := by
  refine ⟨_, _, f72b (by rw [h]; exact nI_pos (by omega)), fr.r1 (by decide) (fr.r1 (by decide) (fr.r1 (by decide) (fr.r1 (by decide) (KMR hf |>.tr fr.pr)))), rp, ?_, ?_, ?_⟩
  · exact (rq (by decide)).trans ((ru_ne _ _ (by decide)).trans (ru_eq _ _ _))
  · exact (rq (by decide)).trans (ru_eq _ _ _)
  · exact (rq (by decide)).trans ((ru_ne _ _ (by decide)).trans ((ru_ne _ _ (by decide)).trans ((ru_eq _ _ _).trans h)))
theorem fin60 {C M C1 M1 : CS} {n lo s : Nat} {v : Int32} (hn : n ≤ 2000) (hlo : lo ≤ s) (h : OUT C M n s v C1 M1) : ∃ w C' M', b_60_133 C1 v = some (v, C') ∧ b_91_149 M1 = some (w, M') ∧ FIN C M n lo v w C' M' := by
  obtain ⟨h1, h2, h3⟩ := h
  unfold b_60_133 b_91_149
  have fc : fr KC [1] C (ru C1.1 5 (C1.1 11), C1.2) := h1.tr (fr.r1 (by decide) fr.pr)
  rcases h3 with ⟨rfl, g1, a, u, g2⟩ | ⟨rfl, p, g1, g2, g3⟩
  · rw [if_pos (Or.inr rfl), f72a g1, Option.bind_some]
    refine ⟨_, _, _, rfl, rfl, fc, Or.inl ⟨rfl, ?_, h2, ?_, s, a, u, hlo, g2.c5 _⟩⟩
    · exact (g2.2.1.symm).trans (rq (by decide)).symm
    · exact rp.trans (rq (by decide)).symm
  · obtain ⟨w, M', k1, k2, k3, k4, k5, k6⟩ := f72c g1 hn g3 h2
    rw [if_pos (Or.inl rfl), k1, Option.bind_some]
    exact ⟨_, _, _, rfl, rfl, fc, Or.inr ⟨rfl, k2, k3, k4, k5, ((rq (by decide)).trans g2).trans k6.symm⟩⟩
