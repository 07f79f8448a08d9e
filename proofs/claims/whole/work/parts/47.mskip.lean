/-! the reference skips the same -/
theorem skS_s {b : Nat → Int32} {n : Nat} (hB : BK b n) (hn : n ≤ 2000) : ∀ m m' a ln, a ≤ n → n < a + m → n < a + m' → skS b n m a ln = skS b n m' a ln := by
  intro m
  induction m with
  | zero => intro m' a ln h h1; omega
  | succ m ih =>
    intro m' a ln h h1 h2
    cases m' with
    | zero => omega
    | succ m' =>
      rw [skS, skS]
      by_cases h9 : f_29 (b a) = 0
      · rw [if_neg (nn h9), if_neg (nn h9)]
        by_cases h0 : f_30 (b a) = 0
        · rw [if_neg (nn h0), if_neg (nn h0)]
          by_cases hL : b a = 47 ∧ b (a + 1) = 47
          · rw [if_pos hL, if_pos hL]
            have w1 := whS_1 (q := ql) (m := fu) hB (by decide) (by rw [hL.1]; decide : ql (b a) = true) (by rw [fu_e]; omega)
            have w2 := whS_b (q := ql) hB (by decide) fu a h
            exact ih m' _ ln w2.2 (by omega) (by omega)
          · rw [if_neg hL, if_neg hL]
            by_cases hS : b a = 47 ∧ b (a + 1) = 42
            · rw [if_pos hS, if_pos hS]
              cases hb : bcS b n fu (a + 2) ln with
              | none => rfl
              | some p =>
                have bb := bcS_b hB _ _ _ _ hb
                rw [Option.bind_some, Option.bind_some]
                exact ih m' _ _ bb.2.1 (by omega) (by omega)
            · rw [if_neg hS, if_neg hS]
        · have := lt_of30 hB h0
          rw [if_pos h0, if_pos h0]
          exact ih m' _ _ (by omega) (by omega) (by omega)
      · have := lt_of29 hB h9
        rw [if_pos h9, if_pos h9]
        exact ih m' _ _ (by omega) (by omega) (by omega)
theorem sk_eq {b : Nat → Int32} {n : Nat} (hB : BK b n) (hn : n ≤ 2000) {a : Nat} (ha : a ≤ n) (ln : Int32) : skS b n fu a ln = if ¬ f_29 (b a) = 0 then skS b n fu (a + 1) ln else if ¬ f_30 (b a) = 0 then skS b n fu (a + 1) 1
    else if b a = 47 ∧ b (a + 1) = 47 then skS b n fu (whS ql b fu a) ln else if b a = 47 ∧ b (a + 1) = 42 then (bcS b n fu (a + 2) ln).bind (fun p => skS b n fu p.1 p.2) else some (a, ln) := by
  have e : skS b n fu a ln = skS b n 5001 a ln := skS_s hB hn _ _ _ _ ha (by rw [fu_e]; omega) (by omega)
  rw [e, skS]
  rfl
theorem blk_l {c : Int32} (h : ¬ f_29 c = 0) : f_30 c = 0 := by
  unfold f_29 at h
  unfold f_30
  by_cases h1 : c = 9
  · rw [h1]; rfl
  · by_cases h2 : c = 11
    · rw [h2]; rfl
    · by_cases h3 : c = 12
      · rw [h3]; rfl
      · by_cases h4 : c = 32
        · rw [h4]; rfl
        · by_cases h5 : c = 160
          · rw [h5]; rfl
          · simp [h1, h2, h3, h4, h5] at h
def blS (b : Nat → Int32) : Nat → Nat → Int32 → Nat × Int32
  | 0, a, ln => (a, ln)
  | m + 1, a, ln => if ¬ f_29 (b a) = 0 then blS b m (a + 1) ln else if ¬ f_30 (b a) = 0 then blS b m (a + 1) 1 else (a, ln)
theorem blS_p {b : Nat → Int32} {n : Nat} (hB : BK b n) (hn : n ≤ 2000) : ∀ m a ln, a ≤ n → n < a + m → a ≤ (blS b m a ln).1 ∧ (blS b m a ln).1 ≤ n ∧ skS b n fu a ln = skS b n fu (blS b m a ln).1 (blS b m a ln).2 ∧ f_29 (b (blS b m a ln).1) = 0 ∧ f_30 (b (blS b m a ln).1) = 0 := by
  intro m
  induction m with
  | zero => intro a ln h h1; omega
  | succ m ih =>
    intro a ln h h1
    rw [blS]
    by_cases h9 : f_29 (b a) = 0
    · rw [if_neg (nn h9)]
      by_cases h0 : f_30 (b a) = 0
      · rw [if_neg (nn h0)]
        exact ⟨Nat.le_refl _, h, rfl, h9, h0⟩
      · have hl := lt_of30 hB h0
        rw [if_pos h0]
        have := ih (a + 1) 1 (by omega) (by omega)
        refine ⟨by omega, this.2.1, ?_, this.2.2.2⟩
        rw [sk_eq hB hn h, if_neg (nn h9), if_pos h0]
        exact this.2.2.1
    · have hl := lt_of29 hB h9
      rw [if_pos h9]
      have := ih (a + 1) ln (by omega) (by omega)
      refine ⟨by omega, this.2.1, ?_, this.2.2.2⟩
      rw [sk_eq hB hn h, if_pos h9]
      exact this.2.2.1
theorem m71i {b : Nat → Int32} {n : Nat} (hB : BK b n) (k : CS → Int32 → Option CS) : ∀ (m : Nat) (M : CS) (a : Nat) (l1 : Int32), MK M b n → M.1 5 = nI a → a ≤ n → n < a + m →
    ∃ M', b_71_27 k m M l1 = ((f_70 M' (M'.1 5)).bind fun r => k (ru r.2.1 5 r.1, r.2.2) l1) ∧ fr [5, 8] [] M M' ∧ M'.1 5 = nI (blS b m a (M.1 8)).1 ∧ M'.1 8 = (blS b m a (M.1 8)).2 := by
  intro m
  induction m with
  | zero => intro M a l1 _ _ h h2; omega
  | succ m ih =>
    intro M a l1 hK ha h h2
    have hn := hK.2.1
    rw [b_71_27, blS, ha, m66 hK (by omega), Option.bind_some, Option.bind_some, e67, e68]
    unfold b_71_55 b_71_79
    by_cases h9 : f_29 (b a) = 0
    · rw [if_neg (nn h9), if_neg (nn h9)]
      by_cases h0 : f_30 (b a) = 0
      · rw [if_pos h0, if_neg (nn h0)]
        exact ⟨M, by rw [ha], fr.rf, ha, rfl⟩
      · have hl := lt_of30 hB h0
        have hb : b a = M.2 0 a := by rw [hK.2.2 a, if_pos hl]
        rw [if_neg h0, if_pos h0, ha, if_pos (mv_in_nI (show a < 2000 by omega) (by decide)), nI_clamp (by omega), ← hb, e68, if_neg h0, nI_1]
        have f1 : fr [5, 8] [] M (ru (ru M.1 8 1) 5 (nI (a + 1)), M.2) := fr.r1 (by decide) (fr.r1 (by decide) fr.pr)
        obtain ⟨M', e1, e2, e3, e4⟩ := ih (ru (ru M.1 8 1) 5 (nI (a + 1)), M.2) (a + 1) l1 (hK.fr f1) rp (by omega) (by omega)
        rw [rq (by decide), ru_eq] at e3 e4
        exact ⟨M', e1, f1.tr e2, e3, e4⟩
    · have hl := lt_of29 hB h9
      have hb : b a = M.2 0 a := by rw [hK.2.2 a, if_pos hl]
      rw [if_pos h9, if_pos h9, ha, if_pos (mv_in_nI (show a < 2000 by omega) (by decide)), nI_clamp (by omega), ← hb, e68, if_pos (blk_l h9), nI_1]
      have f1 : fr [5, 8] [] M (ru (ru M.1 8 (M.1 8)) 5 (nI (a + 1)), M.2) := fr.r1 (by decide) (fr.r1 (by decide) fr.pr)
      obtain ⟨M', e1, e2, e3, e4⟩ := ih (ru (ru M.1 8 (M.1 8)) 5 (nI (a + 1)), M.2) (a + 1) l1 (hK.fr f1) rp (by omega) (by omega)
      rw [rq (by decide), ru_eq] at e3 e4
      exact ⟨M', e1, f1.tr e2, e3, e4⟩
theorem m70b {b : Nat → Int32} {n : Nat} : ∀ (m : Nat) (M : CS) (a : Nat), MK M b n → a ≤ n → n < a + m → M.1 4 < 0 →
    ∃ p M', b_70_70 m M (nI a) = some (p, M') ∧ fr [4, 8] [] M M' ∧ (∀ q, bcS b n m a (M.1 8) = some q → p = nI q.1 ∧ M'.1 8 = q.2 ∧ M'.1 4 = M.1 4) ∧ (bcS b n m a (M.1 8) = none → M'.1 4 = nI n) := by
  intro m
  induction m with
  | zero => intro M a _ h h2; omega
  | succ m ih =>
    intro M a hK h h2 hbad
    have hn := hK.2.1
    rw [b_70_70, bcS, hK.1]
    unfold b_70_131 b_70_101 b_70_122
    by_cases hle : n ≤ a
    · have : a = n := by omega
      subst this
      rw [if_pos (Int32.le_refl _), if_pos hle, hK.1, if_neg (nn rfl), m69 _ hbad, Option.bind_some]
      exact ⟨_, _, rfl, fr.r1 (by decide) fr.pr, fun q h9 => (by cases h9), fun _ => rp⟩
    · have hlt : a < n := by omega
      have hb : b a = M.2 0 a := by rw [hK.2.2 a, if_pos hlt]
      have hin : mv_in (nI a) 2000 = true := mv_in_nI (by omega) (by decide)
      rw [if_neg (nI_ge hlt (by omega)), if_neg hle, if_pos hin, nI_clamp (by omega), ← hb, nI_1, m66 hK (by omega), Option.bind_some, if_pos hin, e68]
      have key : ∃ p M', (if f_30 (b a) = 0 then b_70_70 m (ru M.1 8 (M.1 8), M.2) (nI (a + 1)) else b_70_70 m (ru M.1 8 1, M.2) (nI (a + 1))) = some (p, M') ∧ fr [4, 8] [] M M' ∧ (∀ q, bcS b n m (a + 1) (if f_30 (b a) = 0 then M.1 8 else 1) = some q → p = nI q.1 ∧ M'.1 8 = q.2 ∧ M'.1 4 = M.1 4) ∧ (bcS b n m (a + 1) (if f_30 (b a) = 0 then M.1 8 else 1) = none → M'.1 4 = nI n) := by
        by_cases h0 : f_30 (b a) = 0
        · rw [if_pos h0, if_pos h0]
          have f1 : fr [4, 8] [] M (ru M.1 8 (M.1 8), M.2) := fr.r1 (by decide) fr.pr
          obtain ⟨p, M', e1, e2, e3, e4⟩ := ih (ru M.1 8 (M.1 8), M.2) (a + 1) (hK.fr f1) (by omega) (by omega) (by rw [rq (by decide)]; exact hbad)
          rw [rp, rq (by decide)] at e3
          rw [rp] at e4
          exact ⟨p, M', e1, f1.tr e2, e3, e4⟩
        · rw [if_neg h0, if_neg h0]
          have f1 : fr [4, 8] [] M (ru M.1 8 1, M.2) := fr.r1 (by decide) fr.pr
          obtain ⟨p, M', e1, e2, e3, e4⟩ := ih (ru M.1 8 1, M.2) (a + 1) (hK.fr f1) (by omega) (by omega) (by rw [rq (by decide)]; exact hbad)
          rw [rp, rq (by decide)] at e3
          rw [rp] at e4
          exact ⟨p, M', e1, f1.tr e2, e3, e4⟩
      by_cases hS : b a = 42
      · rw [if_neg (nn hS)]
        by_cases h7 : b (a + 1) = 47
        · have hp1 : b a = 42 ∧ b (a + 1) = 47 := ⟨hS, h7⟩
          rw [if_pos h7, if_pos hp1]
          have hne : ¬ nI a = M.1 1 := by
            rw [hK.1, nI_eq (by omega) (by omega)]
            omega
          rw [if_pos hne, nI_2]
          refine ⟨_, _, rfl, fr.rf, fun q h9 => ?_, fun h9 => (by cases h9)⟩
          cases h9
          exact ⟨rfl, rfl, rfl⟩
        · have hn1 : ¬ (b a = 42 ∧ b (a + 1) = 47) := fun h => h7 h.2
          rw [if_neg h7, if_neg hn1]
          exact key
      · have hn1 : ¬ (b a = 42 ∧ b (a + 1) = 47) := fun h => hS h.1
        rw [if_pos hS, if_neg hn1]
        exact key
theorem m71 {b : Nat → Int32} {n : Nat} (hB : BK b n) : ∀ (m : Nat) (M : CS) (a : Nat) (l1 : Int32), MK M b n → M.1 5 = nI a → a ≤ n → M.1 4 < 0 → (l1 = nI a → skS b n fu a (M.1 8) = some (a, M.1 8)) → 1 ≤ m → (¬ l1 = nI a → n - a + 2 ≤ m) →
    ∃ M', b_71_7 m M l1 = some M' ∧ fr [4, 5, 8] [] M M' ∧ (∀ p, skS b n fu a (M.1 8) = some p → M'.1 5 = nI p.1 ∧ M'.1 8 = p.2 ∧ M'.1 4 = M.1 4) ∧ (skS b n fu a (M.1 8) = none → M'.1 4 = nI n) := by
  intro m
  induction m with
  | zero => intro M a l1 _ _ h _ _ h1; omega
  | succ m ih =>
    intro M a l1 hK ha h hbad hst _ hm
    have hn := hK.2.1
    rw [b_71_7, ha]
    by_cases he : l1 = nI a
    · rw [if_pos he]
      refine ⟨M, rfl, fr.rf, fun p hp => ?_, fun hp => ?_⟩
      · rw [hst he] at hp
        cases hp
        exact ⟨ha, rfl, rfl⟩
      · rw [hst he] at hp
        cases hp
    · have hm := hm he
      have h4 : ¬ (0 : Int32) ≤ M.1 4 := fun h9 => absurd hbad (Int32.not_lt.mpr h9)
      rw [if_neg he, if_neg h4]
      obtain ⟨M1, e1, e2, e3, e4⟩ := m71i hB (b_71_7 m) fu M a (nI a) hK ha h (by rw [fu_e]; omega)
      obtain ⟨g1, g2, g3, g4, g5⟩ := blS_p hB hn fu a (M.1 8) h (by rw [fu_e]; omega)
      rw [e1, g3]
      generalize blS b fu a (M.1 8) = q at e3 e4 g1 g2 g3 g4 g5 ⊢
      obtain ⟨a1, ln1⟩ := q
      dsimp only at e3 e4 g1 g2 g3 g4 g5 ⊢
      have hK1 := hK.fr e2
      have hb1 : M1.1 4 = M.1 4 := e2.1 4 (by decide)
      have e2' : fr [4, 5, 8] [] M M1 := e2.w (by decide) (by decide)
      rw [e3]
      have hsk := sk_eq hB hn g2 ln1
      rw [if_neg (nn g4), if_neg (nn g5)] at hsk
      unfold f_70
      rw [m66 hK1 (by omega), Option.bind_some]
      -- where it goes on behind a comment, or not
      have go : ∀ (M2 : CS) (a2 : Nat) (ln2 : Int32), fr [4, 5, 8] [] M M2 → M2.1 5 = nI a2 → M2.1 8 = ln2 → M2.1 4 = M.1 4 → a ≤ a2 → a2 ≤ n → (a2 = a → skS b n fu a2 ln2 = some (a2, ln2)) → skS b n fu a1 ln1 = skS b n fu a2 ln2 →
          ∃ M', b_71_7 m M2 (nI a) = some M' ∧ fr [4, 5, 8] [] M M' ∧ (∀ p, skS b n fu a1 ln1 = some p → M'.1 5 = nI p.1 ∧ M'.1 8 = p.2 ∧ M'.1 4 = M.1 4) ∧ (skS b n fu a1 ln1 = none → M'.1 4 = nI n) := by
        intro M2 a2 ln2 k1 k2 k3 k4 k5 k6 k7 k8
        obtain ⟨M', j1, j2, j3, j4⟩ := ih M2 a2 (nI a) (hK.fr k1) k2 k6 (by rw [k4]; exact hbad) (fun h9 => by
          rw [nI_eq (by omega) (by omega)] at h9
          rw [k3]
          exact k7 h9.symm) (by omega) (fun h9 => by
          rw [nI_eq (by omega) (by omega)] at h9
          omega)
        rw [k3, k4] at j3
        rw [k3] at j4
        rw [k8]
        exact ⟨M', j1, k1.tr j2, j3, j4⟩
      have f2 : ∀ v, fr [4, 5, 8] [] M (ru M1.1 5 v, M1.2) := fun v => e2'.tr (fr.r1 (by decide) fr.pr)
      by_cases h7 : b a1 = 47
      · rw [if_pos h7, nI_1, m66 hK1 (by omega), Option.bind_some]
        by_cases hL : b (a1 + 1) = 47
        · rw [if_neg (nn hL), nI_2]
          have hl := lt_of hB hL
          have w0 := whS_1 (q := ql) (m := fu) hB (by decide) (by rw [h7]; decide : ql (b a1) = true) (by rw [fu_e]; omega)
          have w1 := whS_1 (q := ql) (m := fu) hB (by decide) (by rw [hL]; decide : ql (b (a1 + 1)) = true) (by rw [fu_e]; omega)
          have w2 := whS_b (q := ql) hB (by decide) fu a1 (by omega)
          rw [m70l hB fu M1 (a1 + 2) hK1 (by omega) (by rw [fu_e]; omega), Option.bind_some]
          dsimp only
          rw [show a1 + 2 = a1 + 1 + 1 from rfl, ← w1.2.1, ← w0.2.1]
          have hp1 : b a1 = 47 ∧ b (a1 + 1) = 47 := ⟨h7, hL⟩
          rw [if_pos hp1] at hsk
          exact go (ru M1.1 5 (nI (whS ql b fu a1)), M1.2) (whS ql b fu a1) ln1 (f2 _) rp ((rq (by decide)).trans e4) ((rq (by decide)).trans hb1) (by omega) w2.2 (fun h9 => by omega) hsk
        · rw [if_pos hL, Option.bind_some]
          by_cases hS : b (a1 + 1) = 42
          · rw [if_pos hS, nI_2]
            have hl := lt_of hB hS
            obtain ⟨p, M2, k1, k2, k3, k4⟩ := m70b fu M1 (a1 + 2) hK1 (by omega) (by rw [fu_e]; omega) (by rw [hb1]; exact hbad)
            rw [k1, Option.bind_some]
            dsimp only
            rw [e4] at k3 k4
            have hn1 : ¬ (b a1 = 47 ∧ b (a1 + 1) = 47) := fun h => hL h.2
            have hp2 : b a1 = 47 ∧ b (a1 + 1) = 42 := ⟨h7, hS⟩
            rw [if_neg hn1, if_pos hp2] at hsk
            have k2' : fr [4, 5, 8] [] M M2 := e2'.tr (k2.w (by decide) (by decide))
            have k5 : ∀ v, fr [4, 5, 8] [] M (ru M2.1 5 v, M2.2) := fun v => k2'.tr (fr.r1 (by decide) fr.pr)
            cases hb : bcS b n fu (a1 + 2) ln1 with
            | none =>
              have j := k4 hb
              rw [hb, Option.bind_none] at hsk
              rw [hsk]
              have hz : b_71_7 m (ru M2.1 5 p, M2.2) (nI a) = some (ru M2.1 5 p, M2.2) := by
                cases m with
                | zero => omega
                | succ m =>
                  rw [b_71_7]
                  dsimp only
                  have h0 : (0 : Int32) ≤ ru M2.1 5 p 4 := by
                    rw [ru_ne _ _ (by decide), j]
                    exact nI_pos' (by omega)
                  by_cases h8 : nI a = ru M2.1 5 p 5
                  · rw [if_pos h8]
                  · rw [if_neg h8, if_pos h0]
              exact ⟨_, hz, k5 p, fun q h9 => (by cases h9), fun _ => (rq (by decide)).trans j⟩
            | some q =>
              obtain ⟨j1, j2, j3⟩ := k3 q hb
              have bb := bcS_b hB _ _ _ _ hb
              rw [hb, Option.bind_some] at hsk
              rw [j1]
              exact go (ru M2.1 5 (nI q.1), M2.2) q.1 q.2 (k5 _) rp ((rq (by decide)).trans j2) ((rq (by decide)).trans (j3.trans hb1)) (by omega) bb.2.1 (fun h9 => by omega) hsk
          · rw [if_neg hS, Option.bind_some]
            dsimp only
            have hn1 : ¬ (b a1 = 47 ∧ b (a1 + 1) = 47) := fun h => hL h.2
            have hn2 : ¬ (b a1 = 47 ∧ b (a1 + 1) = 42) := fun h => hS h.2
            rw [if_neg hn1, if_neg hn2] at hsk
            exact go (ru M1.1 5 (nI a1), M1.2) a1 ln1 (f2 _) rp ((rq (by decide)).trans e4) ((rq (by decide)).trans hb1) g1 g2 (fun _ => hsk) rfl
      · rw [if_neg h7, Option.bind_some]
        dsimp only
        have hn1 : ¬ (b a1 = 47 ∧ b (a1 + 1) = 47) := fun h => h7 h.1
        have hn2 : ¬ (b a1 = 47 ∧ b (a1 + 1) = 42) := fun h => h7 h.1
        rw [if_neg hn1, if_neg hn2] at hsk
        exact go (ru M1.1 5 (nI a1), M1.2) a1 ln1 (f2 _) rp ((rq (by decide)).trans e4) ((rq (by decide)).trans hb1) g1 g2 (fun _ => hsk) rfl
