/-! the reference's patterns -/
theorem m102 {b : Nat → Int32} {n : Nat} {k : CS → Int32 → Option CS} {M : CS} {x : Nat} {s : Int32} (hB : BK b n) (hx : M.1 5 = nI x) (hbad : M.1 4 < 0) :
    b_100_102 k M s (b x) = if b x = -1 ∨ ¬ f_30 (b x) = 0 then k (ru (ru M.1 4 (nI x)) 5 (nI (x + 1)), M.2) s else k (ru M.1 5 (nI (x + 1)), M.2) s := by
  unfold b_100_102 b_100_113 b_100_121
  rw [e68, m69 _ hbad, Option.bind_some, hx, rq (by decide), hx, nI_1]
  by_cases h1 : b x = -1
  · rw [if_pos (show b x = -1 ∨ ¬ f_30 (b x) = 0 from Or.inl h1), if_pos (hB.lt.mpr (hB.m1.mp h1))]
  · rw [if_neg (show ¬ b x < 0 from fun h9 => h1 (hB.m1.mpr (hB.lt.mp h9)))]
    by_cases h2 : f_30 (b x) = 0
    · rw [if_pos h2, if_neg (show ¬ (b x = -1 ∨ ¬ f_30 (b x) = 0) from fun h9 => h9.elim h1 (fun h8 => h8 h2))]
    · rw [if_neg h2, if_pos (show b x = -1 ∨ ¬ f_30 (b x) = 0 from Or.inr h2)]
theorem m100p {b : Nat → Int32} {n : Nat} (hB : BK b n) : ∀ (m : Nat) (M : CS) (a : Nat) (l : Int32), MK M b n → M.1 5 = nI a → a ≤ n → n + 1 < a + m → M.1 4 < 0 → (l = 0 ∨ l = 1) →
    ∃ M' x, b_100_22 m M l = b_100_134 M' ∧ fr [4, 5] [] M M' ∧ M'.1 5 = nI x ∧ x ≤ n + 2 ∧ (∀ p, patS b n m a l = .inl p → x = p ∧ M'.1 4 = M.1 4) ∧ (∀ p, patS b n m a l = .inr p → M'.1 4 = nI p) := by
  intro m
  induction m with
  | zero => intro M a l _ _ h h2; omega
  | succ m ih =>
    intro M a l hK ha h h2 hbad hl
    have hn := hK.2.1
    have stop : ∀ (M1 : CS) (s : Int32), 0 ≤ M1.1 4 → b_100_22 m M1 s = b_100_134 M1 := by
      intro M1 s h9
      obtain ⟨m', rfl⟩ : ∃ m', m = m' + 1 := ⟨m - 1, by omega⟩
      rw [b_100_22, if_pos h9]
    rw [b_100_22, patS, if_neg (Int32.not_le.mpr hbad), ha, m66 hK (by omega), Option.bind_some]
    by_cases h5 : b a = 47 ∧ l = 0
    · have hlt := lt_of hB h5.1
      rw [if_neg (nn h5.2), if_pos h5.1, if_neg (show ¬ n ≤ a by omega), if_neg (show ¬ b a = 92 from h5.1 ▸ (by decide)), if_neg (show ¬ ¬ f_30 (b a) = 0 from h5.1 ▸ (by decide)), if_pos h5]
      exact ⟨M, a, rfl, fr.rf, ha, by omega, fun p h9 => (by cases h9; exact ⟨rfl, rfl⟩), fun p h9 => (by cases h9)⟩
    · have go : (if ¬ l = 0 then b_100_46 (b_100_22 m) M l else if b a = 47 then b_100_134 M else b_100_46 (b_100_22 m) M l) = b_100_46 (b_100_22 m) M l := by
        by_cases h6 : l = 0
        · rw [if_neg (nn h6), if_neg (show ¬ b a = 47 from fun h9 => h5 ⟨h9, h6⟩)]
        · rw [if_pos h6]
      have go2 : b_100_46 (b_100_22 m) M l = b_100_76 (b_100_22 m) M (b a) (if b a = 91 then 1 else if b a = 93 then 0 else l) := by
        unfold b_100_46 b_100_71 b_100_75
        rw [ha, m66 hK (by omega), Option.bind_some]
        by_cases h6 : b a = 91
        · rw [if_pos h6, if_pos h6]
        · rw [if_neg h6, if_neg h6]
          by_cases h7 : l = 0
          · rw [if_pos h7]
            by_cases h8 : b a = 93
            · rw [if_pos h8]
            · rw [if_neg h8, h7]
          · rw [if_neg h7]
            by_cases h8 : b a = 93
            · rw [if_pos h8, if_pos h8]
            · rw [if_neg h8, if_neg h8, hl.resolve_left h7]
      rw [go, go2]
      unfold b_100_76
      by_cases h1 : b a = 92
      · have hlt := lt_of hB h1
        have f1 : fr [4, 5] [] M (ru M.1 5 (nI (a + 1)), M.2) := fr.r1 (by decide) fr.pr
        have hb1 : (ru M.1 5 (nI (a + 1)), M.2).1 4 < 0 := by
          rw [rq (by decide)]
          exact hbad
        rw [if_neg (nn h1), if_neg (show ¬ n ≤ a by omega), if_pos h1, ha, nI_1, m66 (hK.fr f1) (by omega), Option.bind_some, m102 hB rp hb1, if_neg (show ¬ b a = 91 from h1 ▸ (by decide)), if_neg (show ¬ b a = 93 from h1 ▸ (by decide))]
        dsimp only
        by_cases h3 : b (a + 1) = -1 ∨ ¬ f_30 (b (a + 1)) = 0
        · rw [if_pos h3, if_pos h3, stop _ _ (by rw [rq (by decide), ru_eq]; exact nI_pos' (by omega))]
          exact ⟨_, a + 2, rfl, fr.r1 (by decide) (fr.r1 (by decide) f1), rp, by omega, fun p h9 => (by cases h9), fun p h9 => (by cases h9; exact (rq (by decide)).trans (ru_eq _ _ _))⟩
        · have hl2 : a + 1 < n := by
            apply Nat.lt_of_not_le
            intro h9
            exact h3 (Or.inl (hB.2 _ h9))
          rw [if_neg h3, if_neg h3, ru_ru]
          have f2 : fr [4, 5] [] M (ru M.1 5 (nI (a + 1 + 1)), M.2) := fr.r1 (by decide) fr.pr
          obtain ⟨M', x, k1, k2, k3, k4, k5, k6⟩ := ih (ru M.1 5 (nI (a + 1 + 1)), M.2) (a + 2) l (hK.fr f2) rp (by omega) (by omega) (by rw [rq (by decide)]; exact hbad) hl
          exact ⟨M', x, k1, f2.tr k2, k3, k4, fun p h9 => ⟨(k5 p h9).1, (k5 p h9).2.trans (rq (by decide))⟩, k6⟩
      · rw [if_pos h1, m102 hB ha hbad]
        by_cases h0 : n ≤ a
        · have h3 : b a = -1 ∨ ¬ f_30 (b a) = 0 := Or.inl (hB.2 a h0)
          rw [if_pos h0, if_pos h3, stop _ _ (by rw [rq (by decide), ru_eq]; exact nI_pos' (by omega))]
          exact ⟨_, a + 1, rfl, fr.r1 (by decide) (fr.r1 (by decide) fr.pr), rp, by omega, fun p h9 => (by cases h9), fun p h9 => (by cases h9; exact (rq (by decide)).trans (ru_eq _ _ _))⟩
        · rw [if_neg h0, if_neg h1]
          by_cases h3 : ¬ f_30 (b a) = 0
          · rw [if_pos h3, if_pos (show b a = -1 ∨ ¬ f_30 (b a) = 0 from Or.inr h3), stop _ _ (by rw [rq (by decide), ru_eq]; exact nI_pos' (by omega))]
            exact ⟨_, a + 1, rfl, fr.r1 (by decide) (fr.r1 (by decide) fr.pr), rp, by omega, fun p h9 => (by cases h9), fun p h9 => (by cases h9; exact (rq (by decide)).trans (ru_eq _ _ _))⟩
          · rw [if_neg h3, if_neg (show ¬ (b a = -1 ∨ ¬ f_30 (b a) = 0) from fun h9 => h9.elim (fun h8 => h0 (hB.m1.mp h8)) h3), if_neg h5]
            have f2 : fr [4, 5] [] M (ru M.1 5 (nI (a + 1)), M.2) := fr.r1 (by decide) fr.pr
            obtain ⟨M', x, k1, k2, k3, k4, k5, k6⟩ := ih (ru M.1 5 (nI (a + 1)), M.2) (a + 1) (if b a = 91 then 1 else if b a = 93 then 0 else l) (hK.fr f2) rp (by omega) (by omega) (by rw [rq (by decide)]; exact hbad) (by
              by_cases h6 : b a = 91
              · rw [if_pos h6]; exact Or.inr rfl
              · rw [if_neg h6]
                by_cases h7 : b a = 93
                · rw [if_pos h7]; exact Or.inl rfl
                · rw [if_neg h7]; exact hl)
            exact ⟨M', x, k1, f2.tr k2, k3, k4, fun p h9 => ⟨(k5 p h9).1, (k5 p h9).2.trans (rq (by decide))⟩, k6⟩
theorem m216 {b : Nat → Int32} {n : Nat} : ∀ (d m : Nat) (M : CS) (k e : Nat) (u : List Int32), MK M b n → M.1 5 = nI e → e ≤ n → k + d = e → d < m → M.1 4 < 0 → UR (M.2 1) (M.1 12) u → u.length ≤ k → ∃ M', b_100_216 m M (nI k) = some M' ∧ fr [12] [1] M M' ∧ UR (M'.2 1) (M'.1 12) (tkS b d k u) := by
  intro d
  induction d with
  | zero =>
    intro m M k e u hK ha he hk hm hbad hU hu
    obtain ⟨m', rfl⟩ : ∃ m', m = m' + 1 := ⟨m - 1, by omega⟩
    have hn := hK.2.1
    rw [b_100_216, ha, if_pos (nI_le (by omega) (by omega))]
    exact ⟨M, rfl, fr.rf, hU⟩
  | succ d ih =>
    intro m M k e u hK ha he hk hm hbad hU hu
    obtain ⟨m', rfl⟩ : ∃ m', m = m' + 1 := ⟨m - 1, by omega⟩
    have hn := hK.2.1
    obtain ⟨M1, k1, k2, k3⟩ := m77 (b k) hU (by omega)
    have hbk : b k = M.2 0 k := by rw [hK.2.2 k, if_pos (by omega)]
    rw [b_100_216, ha, if_neg (nI_ge (by omega) (by omega)), if_neg (Int32.not_le.mpr hbad), if_pos (mv_in_nI (show k < 2000 by omega) (by decide)), nI_clamp (by omega), ← hbk, k1, Option.bind_some, nI_1]
    obtain ⟨M2, j1, j2, j3⟩ := ih m' M1 (k + 1) e (u ++ [b k]) (hK.fr k2) ((k2.1 5 (by decide)).trans ha) he (by omega) (by omega) (by rw [k2.1 4 (by decide)]; exact hbad) k3 (by rw [List.length_append]; show u.length + 1 ≤ k + 1; omega)
    exact ⟨M2, j1, k2.tr j2, j3⟩
theorem m144g {b : Nat → Int32} {n : Nat} (hB : BK b n) {M : CS} {x : Nat} (hK : MK M b n) (hx : M.1 5 = nI x) (h : x ≤ n + 3) : ∃ y, y ≤ n + 3 ∧ b_100_144 fu M = m100z (ru M.1 5 (nI y), M.2) := by
  have hn := hK.2.1
  by_cases h1 : x ≤ n
  · exact ⟨_, Nat.le_trans (whS_b (q := qf) hB (by decide) fu x h1).2 (by omega), m100f hB fu M x hK hx h1 (by rw [fu_e]; omega)⟩
  · refine ⟨x, h, ?_⟩
    have e1 : b x = -1 := hB.2 x (by omega)
    have e2 : ((ru M.1 5 (nI x), M.2) : CS) = M := by rw [ru_id hx]
    rw [e2, fu_e, b_100_144, hx, m66 hK (by omega), Option.bind_some, e1, e73, z35, if_neg (nn rfl), Option.bind_some, e74, z38, if_pos rfl, Option.bind_some]
    unfold m100z
    rw [hx, m66 hK (by omega), Option.bind_some, e1]
theorem m134b {b : Nat → Int32} {n : Nat} (hB : BK b n) {M : CS} {x : Nat} (hK : MK M b n) (hx : M.1 5 = nI x) (h : x ≤ n + 2) (hbad : 0 ≤ M.1 4) : ∃ M', b_100_134 M = some M' ∧ fr [5, 12] [] M M' := by
  have hn := hK.2.1
  have f1 : fr [5, 12] [] M (ru M.1 5 (nI (x + 1)), M.2) := fr.r1 (by decide) fr.pr
  obtain ⟨y, hy, e⟩ := m144g hB (hK.fr f1) rp (by omega)
  unfold b_100_134
  rw [hx, nI_1, e]
  dsimp only
  rw [ru_ru]
  have f2 : fr [5, 12] [] M (ru M.1 5 (nI y), M.2) := fr.r1 (by decide) fr.pr
  have fin : ∀ M1 : CS, fr [5, 12] [] M M1 → ∃ M', b_100_206 M1 = some M' ∧ fr [5, 12] [] M M' := by
    intro M1 h1
    have h2 : 0 ≤ M1.1 4 := by
      rw [h1.1 4 (by decide)]
      exact hbad
    unfold b_100_206
    rw [fu_e, b_100_216]
    have h3 : 0 ≤ ((ru M1.1 12 0, M1.2) : CS).1 4 := by
      rw [rq (by decide)]
      exact h2
    by_cases h4 : ((ru M1.1 12 0, M1.2) : CS).1 5 ≤ M1.1 7
    · rw [if_pos h4]
      exact ⟨_, rfl, h1.tr (fr.r1 (by decide) fr.pr)⟩
    · rw [if_neg h4, if_pos h3]
      exact ⟨_, rfl, h1.tr (fr.r1 (by decide) fr.pr)⟩
  unfold m100z
  rw [rp, m66 (hK.fr f2) (by omega), Option.bind_some]
  by_cases h5 : b y = 92
  · rw [if_neg (nn h5)]
    obtain ⟨M1, j1, j2⟩ := m69k (M := (ru M.1 5 (nI y), M.2)) (nI y) (by rw [rq (by decide)]; exact hbad)
    rw [j1, Option.bind_some]
    exact fin M1 (f2.tr (j2.w (by decide) (by decide)))
  · rw [if_pos h5]
    exact fin _ f2
theorem m100 {b : Nat → Int32} {n : Nat} (hB : BK b n) {M : CS} {s : Nat} (hK : MK M b n) (hs : M.1 7 = nI s) (h : s < n) (hbad : M.1 4 < 0) :
    ∃ M', f_100 M = some M' ∧ fr [4, 5, 6, 11, 12] [1] M M' ∧ M'.1 6 = 5 ∧ M'.1 11 = 0 ∧ (∀ e, ptS b n s = .inl e → M'.1 5 = nI e ∧ UR (M'.2 1) (M'.1 12) (tkS b (e - s) s []) ∧ M'.1 4 = M.1 4) ∧ (∀ p, ptS b n s = .inr p → M'.1 4 = nI p) := by
  have hn := hK.2.1
  have f1 : fr [4, 5, 6, 11, 12] [1] M (ru (ru (ru M.1 6 5) 11 0) 5 (nI (s + 1)), M.2) := fr.r1 (by decide) (fr.r1 (by decide) (fr.r1 (by decide) fr.pr))
  have hb1 : (ru (ru (ru M.1 6 5) 11 0) 5 (nI (s + 1)), M.2).1 4 = M.1 4 := (rq (by decide)).trans ((ru_ne _ _ (by decide)).trans (ru_ne _ _ (by decide)))
  obtain ⟨M1, x, k1, k2, k3, k4, k5, k6⟩ := m100p hB fu (ru (ru (ru M.1 6 5) 11 0) 5 (nI (s + 1)), M.2) (s + 1) 0 (hK.fr f1) rp (by omega) (by rw [fu_e]; omega) (by rw [hb1]; exact hbad) (Or.inl rfl)
  have hp := patS_b hB fu (s + 1) 0 (by omega)
  have f2 : fr [4, 5, 6, 11, 12] [1] M M1 := f1.tr (k2.w (by decide) (by decide))
  have h6 : M1.1 6 = 5 := (k2.1 6 (by decide)).trans ((rq (by decide)).trans ((ru_ne _ _ (by decide)).trans (ru_eq _ _ _)))
  have h11 : M1.1 11 = 0 := (k2.1 11 (by decide)).trans ((rq (by decide)).trans (ru_eq _ _ _))
  have h7 : M1.1 7 = nI s := (f2.1 7 (by decide)).trans hs
  have hK1 := hK.fr f2
  unfold f_100 ptS
  rw [hs, nI_1, k1]
  cases hx : patS b n fu (s + 1) 0 with
  | inr p =>
    have g := k6 p hx
    obtain ⟨M2, j1, j2⟩ := m134b hB hK1 k3 k4 (by rw [g]; exact nI_pos' (by have := hp.2 p hx; omega))
    exact ⟨M2, j1, f2.tr (j2.w (by decide) (by decide)), (j2.1 6 (by decide)).trans h6, (j2.1 11 (by decide)).trans h11, fun e h9 => (by cases h9), fun q h9 => (by cases h9; exact (j2.1 4 (by decide)).trans g)⟩
  | inl p =>
    obtain ⟨rfl, g⟩ := k5 p hx
    have hp1 := hp.1 x hx
    have hw := whS_b (q := qf) hB (by decide) fu (x + 1) (by omega)
    have f3 : fr [4, 5, 6, 11, 12] [1] M (ru M1.1 5 (nI (x + 1)), M1.2) := f2.tr (fr.r1 (by decide) fr.pr)
    unfold b_100_134
    rw [k3, nI_1, m100f hB fu (ru M1.1 5 (nI (x + 1)), M1.2) (x + 1) (hK.fr f3) rp (by omega) (by rw [fu_e]; omega)]
    dsimp only
    rw [ru_ru]
    generalize whS qf b fu (x + 1) = e at hw ⊢
    have f4 : fr [4, 5, 6, 11, 12] [1] M (ru M1.1 5 (nI e), M1.2) := f2.tr (fr.r1 (by decide) fr.pr)
    have hb4 : (ru M1.1 5 (nI e), M1.2).1 4 = M.1 4 := (rq (by decide)).trans (g.trans hb1)
    unfold m100z
    rw [rp, m66 (hK.fr f4) (by omega), Option.bind_some]
    by_cases h5 : b e = 92
    · rw [if_neg (nn h5), if_pos h5, m69 _ (by rw [hb4]; exact hbad), Option.bind_some]
      unfold b_100_206
      dsimp only
      rw [fu_e, b_100_216]
      have h8 : 0 ≤ ((ru (ru (ru M1.1 5 (nI e)) 4 (nI e)) 12 0, M1.2) : CS).1 4 := by
        rw [rq (by decide), ru_eq]
        exact nI_pos' (by omega)
      have f5 : fr [4, 5, 6, 11, 12] [1] M (ru (ru (ru M1.1 5 (nI e)) 4 (nI e)) 12 0, M1.2) := fr.r1 (by decide) (fr.r1 (by decide) f4)
      have e6 : ((ru (ru (ru M1.1 5 (nI e)) 4 (nI e)) 12 0, M1.2) : CS).1 6 = 5 := (rq (by decide)).trans ((ru_ne _ _ (by decide)).trans ((ru_ne _ _ (by decide)).trans h6))
      have e11 : ((ru (ru (ru M1.1 5 (nI e)) 4 (nI e)) 12 0, M1.2) : CS).1 11 = 0 := (rq (by decide)).trans ((ru_ne _ _ (by decide)).trans ((ru_ne _ _ (by decide)).trans h11))
      have e4 : ((ru (ru (ru M1.1 5 (nI e)) 4 (nI e)) 12 0, M1.2) : CS).1 4 = nI e := (rq (by decide)).trans (ru_eq _ _ _)
      rw [if_pos h8, ite_self]
      exact ⟨_, rfl, f5, e6, e11, fun e h9 => (by cases h9), fun q h9 => (by cases h9; exact e4)⟩
    · rw [if_pos h5, if_neg h5]
      unfold b_100_206
      dsimp only
      have f5 : fr [4, 5, 6, 11, 12] [1] M (ru (ru M1.1 5 (nI e)) 12 0, M1.2) := fr.r1 (by decide) f4
      have hU5 : UR ((ru (ru M1.1 5 (nI e)) 12 0, M1.2).2 1) ((ru (ru M1.1 5 (nI e)) 12 0, M1.2).1 12) [] := by
        rw [rp]
        exact UR.nil
      have e5 : (ru (ru M1.1 5 (nI e)) 12 0, M1.2).1 5 = nI e := (rq (by decide)).trans (ru_eq _ _ _)
      have e4 : (ru (ru M1.1 5 (nI e)) 12 0, M1.2).1 4 = M.1 4 := (rq (by decide)).trans hb4
      obtain ⟨M6, j1, j2, j3⟩ := m216 (b := b) (n := n) (e - s) fu (ru (ru M1.1 5 (nI e)) 12 0, M1.2) s e [] (hK.fr f5) e5 hw.2 (by omega) (by rw [fu_e]; omega) (by rw [e4]; exact hbad) hU5 (Nat.zero_le _)
      rw [ru_ne _ _ (by decide : 7 ≠ 5), h7, j1]
      refine ⟨M6, rfl, f5.tr (j2.w (by decide) (by decide)), ?_, ?_, ?_, fun q h9 => (by cases h9)⟩
      · exact (j2.1 6 (by decide)).trans ((rq (by decide)).trans ((ru_ne _ _ (by decide)).trans h6))
      · exact (j2.1 11 (by decide)).trans ((rq (by decide)).trans ((ru_ne _ _ (by decide)).trans h11))
      · intro e' h9
        cases h9
        exact ⟨(j2.1 5 (by decide)).trans e5, j3, (j2.1 4 (by decide)).trans e4⟩
