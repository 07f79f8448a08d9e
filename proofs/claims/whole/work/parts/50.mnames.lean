/-! the reference's names -/
theorem m81w {M : CS} {u : List Int32} (hU : UR (M.2 1) (M.1 12) u) (hu : u.length ≤ 2000) : b_81_174 M = some (ru M.1 9 (wc u 45 0), M.2) := by
  unfold b_81_174
  rw [m80 hU hu, Option.bind_some]
theorem m81x {m : Nat} {M : CS} {u : List Int32} {l1 : Int32} (hU : UR (M.2 1) (M.1 12) u) (hu : u.length ≤ 2000) (h : l1 = 0 ∨ 0 ≤ M.1 4) : b_81_7 (m + 1) M l1 = some (ru M.1 9 (wc u 45 0), M.2) := by
  rw [b_81_7, m81w hU hu]
  by_cases h9 : l1 = 0
  · rw [if_pos h9]
  · rcases h with h | h
    · exact absurd h h9
    · rw [if_neg h9, if_pos h]
theorem m81a {k : CS → Int32 → Option CS} {M : CS} {u : List Int32} {l1 : Int32} {a : Nat} (v : Int32) (ha : M.1 5 = nI a) (hU : UR (M.2 1) (M.1 12) u) (hu : u.length < 2000) : ∃ M', b_81_106 k M l1 v = k M' l1 ∧ fr [5, 10, 12] [1] M M' ∧ M'.1 5 = nI (a + 6) ∧ M'.1 10 = 1 ∧ UR (M'.2 1) (M'.1 12) (u ++ [v]) := by
  obtain ⟨M1, e1, e2, e3⟩ := m77 v hU hu
  unfold b_81_106 b_81_171
  rw [e1, Option.bind_some, (e2.1 5 (by decide)).trans ha, nI_6]
  refine ⟨_, rfl, (e2.w (by decide) (by decide)).tr (fr.r1 (by decide) (fr.r1 (by decide) fr.pr)), rp, (rq (by decide)).trans (ru_eq _ _ _), ?_⟩
  rw [rq (by decide), ru_ne _ _ (by decide)]
  exact e3
theorem m81 {b : Nat → Int32} {n : Nat} (hB : BK b n) : ∀ (m : Nat) (M : CS) (a : Nat) (u : List Int32), MK M b n → M.1 5 = nI a → a ≤ n → n + 1 < a + m → M.1 4 < 0 → UR (M.2 1) (M.1 12) u → u.length ≤ a → (u.length = 0 → ¬ f_35 (b a) = 0 ∨ b a = 92) →
    ∃ M', b_81_7 m M 1 = some M' ∧ fr [4, 5, 9, 10, 12] [1] M M' ∧ (∀ a' u' e', rnS b m a u (M.1 10) = .inl (a', u', e') → M'.1 5 = nI a' ∧ UR (M'.2 1) (M'.1 12) u' ∧ M'.1 10 = e' ∧ M'.1 9 = wc u' 45 0 ∧ M'.1 4 = M.1 4) ∧ (∀ p, rnS b m a u (M.1 10) = .inr p → M'.1 4 = nI p) := by
  intro m
  induction m with
  | zero => intro M a u _ _ h h2; omega
  | succ m ih =>
    intro M a u hK ha h h2 hbad hU hu h0
    have hn := hK.2.1
    have h4 : ¬ (0 : Int32) ≤ M.1 4 := fun h9 => absurd hbad (Int32.not_lt.mpr h9)
    rw [b_81_7, rnS, if_neg (by decide), if_neg h4, ha, m66 hK (by omega), Option.bind_some, e73, e74]
    by_cases h92 : b a = 92
    · have hlt := lt_of hB h92
      rw [if_neg (nn h92), if_pos h92, nI_1, m66 hK (by omega), Option.bind_some]
      -- what comes behind a fault
      have bad : ∀ (M1 : CS) (p : Nat) (v : Int32), fr [4, 5, 9, 10, 12] [1] M M1 → M1.1 5 = nI a → M1.1 4 = nI p → p < 2 ^ 31 → UR (M1.2 1) (M1.1 12) u → ∃ M', b_81_106 (b_81_7 m) M1 1 v = some M' ∧ fr [4, 5, 9, 10, 12] [1] M M' ∧ M'.1 4 = nI p := by
        intro M1 p v k1 k2 k3 k4 k5
        obtain ⟨M2, j1, j2, j3, j4, j5⟩ := m81a (k := b_81_7 m) (l1 := 1) v k2 k5 (by omega)
        have j6 : M2.1 4 = nI p := (j2.1 4 (by decide)).trans k3
        cases m with
        | zero => omega
        | succ m =>
          rw [j1, m81x j5 (by simp; omega) (Or.inr (by rw [j6]; exact nI_pos' k4))]
          exact ⟨_, rfl, (k1.tr (j2.w (by decide) (by decide))).tr (fr.r1 (by decide) fr.pr), (rq (by decide)).trans j6⟩
      by_cases h117 : b (a + 1) = 117
      · have hl1 := lt_of hB h117
        rw [if_pos h117, if_pos h117]
        unfold b_81_58 b_81_98
        rw [ha, nI_2]
        obtain ⟨v, M1, e1, e2, e3, e4⟩ := m76 hB (s := a + 2) (D := 4) (by omega) 4 fu M (a + 2) 0 hK hbad (by omega) rfl (by rw [fu_e]; omega)
        unfold f_76
        rw [show b_76_5 fu M (nI (a + 2)) 4 0 (nI (a + 2)) = some (v, M1) from e1, Option.bind_some]
        dsimp only
        have f1 : fr [4, 5, 9, 10, 12] [1] M M1 := e2.w (by decide) (by decide)
        have hU1 : UR (M1.2 1) (M1.1 12) u := by
          rw [e2.1 12 (by decide), e2.2 1 (by decide)]
          exact hU
        have ha1 : M1.1 5 = nI a := (e2.1 5 (by decide)).trans ha
        cases hx : hxS b 4 (a + 2) 0 with
        | inr p =>
          have g := e4 p hx
          have hp := (hxS_b hB 4 (a + 2) 0 (by omega)).2 p hx
          rw [if_pos (by rw [g]; exact nI_pos' (by omega))]
          obtain ⟨M', j1, j2, j3⟩ := bad M1 p v f1 ha1 g (by omega) hU1
          exact ⟨M', j1, j2, fun a' u' e' h9 => (by cases h9), fun q h9 => (by cases h9; exact j3)⟩
        | inl w =>
          obtain ⟨rfl, g⟩ := e3 w hx
          have hw := (hxS_b hB 4 (a + 2) 0 (by omega)).1 w hx
          dsimp only
          have h4' : ¬ (0 : Int32) ≤ M1.1 4 := by rw [g]; exact h4
          rw [if_neg h4', hU1.1, e73, e74]
          have fail : (if u.length = 0 then f_35 (nI w) else f_39 (nI w)) = 0 → ∃ M', ((f_69 M1 (M1.1 5)).bind fun r => b_81_106 (b_81_7 m) r 1 (nI w)) = some M' ∧ fr [4, 5, 9, 10, 12] [1] M M' ∧ M'.1 4 = nI a := by
            intro _
            rw [m69 _ (by rw [g]; exact hbad), Option.bind_some, ha1]
            exact bad (ru M1.1 4 (nI a), M1.2) a (nI w) (f1.tr (fr.r1 (by decide) fr.pr)) ((rq (by decide)).trans ha1) rp (by omega) (by rw [rq (by decide)]; exact hU1)
          have good : ¬ (if u.length = 0 then f_35 (nI w) else f_39 (nI w)) = 0 → ∃ M', b_81_106 (b_81_7 m) M1 1 (nI w) = some M' ∧ fr [4, 5, 9, 10, 12] [1] M M' ∧ (∀ a' u' e', rnS b m (a + 6) (u ++ [nI w]) 1 = .inl (a', u', e') → M'.1 5 = nI a' ∧ UR (M'.2 1) (M'.1 12) u' ∧ M'.1 10 = e' ∧ M'.1 9 = wc u' 45 0 ∧ M'.1 4 = M.1 4) ∧ (∀ p, rnS b m (a + 6) (u ++ [nI w]) 1 = .inr p → M'.1 4 = nI p) := by
            intro _
            obtain ⟨M2, j1, j2, j3, j4, j5⟩ := m81a (k := b_81_7 m) (l1 := 1) (nI w) ha1 hU1 (by omega)
            have f2 : fr [4, 5, 9, 10, 12] [1] M M2 := f1.tr (j2.w (by decide) (by decide))
            have j6 : M2.1 4 = M.1 4 := (j2.1 4 (by decide)).trans g
            obtain ⟨M3, i1, i2, i3, i4⟩ := ih M2 (a + 6) (u ++ [nI w]) (hK.fr f2) j3 (by omega) (by omega) (by rw [j6]; exact hbad) j5 (by simp; omega) (fun h9 => by simp at h9)
            rw [j4, j6] at i3
            rw [j4] at i4
            exact ⟨M3, by rw [j1]; exact i1, f2.tr i2, i3, i4⟩
          by_cases hz : (if u.length = 0 then f_35 (nI w) else f_39 (nI w)) = 0
          · rw [if_pos hz]
            obtain ⟨M', j1, j2, j3⟩ := fail hz
            have h35 : f_35 (nI w) = 0 := by
              by_cases hu0 : u.length = 0
              · rw [if_pos hu0] at hz; exact hz
              · rw [if_neg hu0] at hz; exact ((e39 _).mp hz).1
            rw [if_neg (nn h35)]
            refine ⟨M', ?_, j2, fun a' u' e' h9 => (by cases h9), fun q h9 => (by cases h9; exact j3)⟩
            by_cases hu0 : u.length = 0
            · have : nI u.length = 0 := by rw [hu0]; rfl
              rw [if_pos this]
              exact j1
            · have : ¬ nI u.length = 0 := nI_ne0 (by omega) (by omega)
              rw [if_neg hu0] at hz
              rw [if_neg this, if_neg (nn ((e39 _).mp hz).2)]
              exact j1
          · rw [if_neg hz]
            obtain ⟨M', j1, j2, j3, j4⟩ := good hz
            refine ⟨M', ?_, j2, j3, j4⟩
            by_cases h35 : f_35 (nI w) = 0
            · rw [if_neg (nn h35)]
              by_cases hu0 : u.length = 0
              · rw [if_pos hu0] at hz
                exact absurd h35 hz
              · have : ¬ nI u.length = 0 := nI_ne0 (by omega) (by omega)
                rw [if_neg hu0] at hz
                have h38 : ¬ f_38 (nI w) = 0 := fun h9 => hz ((e39 _).mpr ⟨h35, h9⟩)
                rw [if_neg this, if_pos h38]
                exact j1
            · rw [if_pos h35]
              exact j1
      · rw [if_neg h117, if_neg h117, m69 _ hbad, Option.bind_some]
        unfold b_81_58 f_76
        have e9 : (4999 : Nat) + 1 = fu := rfl
        rw [← e9, m76k (by rw [rp]; exact nI_pos' (by omega)), Option.bind_some]
        dsimp only
        rw [if_pos (by rw [ru_eq]; exact nI_pos' (by omega))]
        obtain ⟨M', j1, j2, j3⟩ := bad (ru M.1 4 (nI (a + 1)), M.2) (a + 1) 0 (fr.r1 (by decide) fr.pr) ((rq (by decide)).trans ha) rp (by omega) (by rw [rq (by decide)]; exact hU)
        exact ⟨M', j1, j2, fun a' u' e' h9 => (by cases h9), fun q h9 => (by cases h9; exact j3)⟩
    · rw [if_pos h92, if_neg h92]
      unfold b_81_151 b_81_169 b_81_171
      have add : ¬ f_39 (b a) = 0 → ∃ M', ((f_77 M (b a)).bind fun r => b_81_7 m (ru r.1 5 (r.1 5 + 1), r.2) 1) = some M' ∧ fr [4, 5, 9, 10, 12] [1] M M' ∧ (∀ a' u' e', rnS b m (a + 1) (u ++ [b a]) (M.1 10) = .inl (a', u', e') → M'.1 5 = nI a' ∧ UR (M'.2 1) (M'.1 12) u' ∧ M'.1 10 = e' ∧ M'.1 9 = wc u' 45 0 ∧ M'.1 4 = M.1 4) ∧ (∀ p, rnS b m (a + 1) (u ++ [b a]) (M.1 10) = .inr p → M'.1 4 = nI p) := by
        intro h39
        have hlt := lt_of39 hB h39
        obtain ⟨M1, k1, k2, k3⟩ := m77 (b a) hU (by omega)
        rw [k1, Option.bind_some, (k2.1 5 (by decide)).trans ha, nI_1]
        have f1 : fr [4, 5, 9, 10, 12] [1] M (ru M1.1 5 (nI (a + 1)), M1.2) := (k2.w (by decide) (by decide)).tr (fr.r1 (by decide) fr.pr)
        have h5 : (ru M1.1 5 (nI (a + 1)), M1.2).1 4 = M.1 4 := (rq (by decide)).trans (k2.1 4 (by decide))
        obtain ⟨M2, j1, j2, j3, j4⟩ := ih (ru M1.1 5 (nI (a + 1)), M1.2) (a + 1) (u ++ [b a]) (hK.fr f1) rp (by omega) (by omega) (by rw [h5]; exact hbad) (by rw [rq (by decide)]; exact k3) (by simp; omega) (fun h9 => by simp at h9)
        rw [h5, rq (by decide), k2.1 10 (by decide)] at j3
        rw [rq (by decide), k2.1 10 (by decide)] at j4
        exact ⟨M2, j1, f1.tr j2, j3, j4⟩
      have stop : f_39 (b a) = 0 → ∃ M', b_81_7 m M 0 = some M' ∧ fr [4, 5, 9, 10, 12] [1] M M' ∧ (∀ a' u' e', (Sum.inl (a, u, M.1 10) : (Nat × List Int32 × Int32) ⊕ Nat) = .inl (a', u', e') → M'.1 5 = nI a' ∧ UR (M'.2 1) (M'.1 12) u' ∧ M'.1 10 = e' ∧ M'.1 9 = wc u' 45 0 ∧ M'.1 4 = M.1 4) ∧ (∀ p, (Sum.inl (a, u, M.1 10) : (Nat × List Int32 × Int32) ⊕ Nat) = .inr p → M'.1 4 = nI p) := by
        intro _
        cases m with
        | zero => omega
        | succ m =>
          rw [m81x hU (by omega) (Or.inl rfl)]
          refine ⟨_, rfl, fr.r1 (by decide) fr.pr, fun a' u' e' h9 => ?_, fun q h9 => (by cases h9)⟩
          cases h9
          refine ⟨(rq (by decide)).trans ha, ?_, rq (by decide), rp, rq (by decide)⟩
          rw [rq (by decide)]
          exact hU
      by_cases h39 : f_39 (b a) = 0
      · obtain ⟨g1, g2⟩ := (e39 _).mp h39
        rw [if_pos h39, if_neg (nn g1), if_pos g2]
        by_cases hm0 : M.1 12 ≤ 0
        · rw [if_pos hm0]; exact stop h39
        · rw [if_neg hm0]; exact stop h39
      · rw [if_neg h39]
        by_cases h35 : f_35 (b a) = 0
        · have h38 : ¬ f_38 (b a) = 0 := fun h9 => h39 ((e39 _).mpr ⟨h35, h9⟩)
          have hu0 : ¬ u.length = 0 := by
            intro h9
            rcases h0 h9 with h | h
            · exact h h35
            · exact h92 h
          rw [if_neg (nn h35), hU.1, if_neg (nI_nle (by omega) (by omega)), if_neg h38]
          exact add h39
        · rw [if_pos h35]
          exact add h39
