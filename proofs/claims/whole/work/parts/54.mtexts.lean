/-! the reference's texts -/
theorem m85h {b : Nat → Int32} {n : Nat} (hB : BK b n) {M : CS} {a : Nat} {u : List Int32} {D : Nat} (hD : D ≤ 4) (hK : MK M b n) (ha : M.1 5 = nI (a + 1)) (h : a < n) (hbad : M.1 4 < 0) (hU : UR (M.2 1) (M.1 12) u) (hu : u.length < 2000) :
    ∃ M', b_85_153 M (nI D) = some M' ∧ fr [4, 5, 12] [1] M M' ∧ M'.1 5 = nI (a + 1 + D) ∧ (∀ w, hxS b D (a + 1) 0 = .inl w → UR (M'.2 1) (M'.1 12) (u ++ [nI w]) ∧ M'.1 4 = M.1 4) ∧ (∀ p, hxS b D (a + 1) 0 = .inr p → M'.1 4 = nI p) := by
  have hn := hK.2.1
  obtain ⟨v, M1, e1, e2, e3, e4⟩ := m76 hB (s := a + 1) (D := D) (by omega) D fu M (a + 1) 0 hK hbad (by omega) rfl (by rw [fu_e]; omega)
  unfold b_85_153 f_76
  rw [ha, show b_76_5 fu M (nI (a + 1)) (nI D) 0 (nI (a + 1)) = some (v, M1) from e1, Option.bind_some]
  dsimp only
  have hU1 : UR (M1.2 1) (M1.1 12) u := by
    rw [e2.1 12 (by decide), e2.2 1 (by decide)]
    exact hU
  obtain ⟨M2, j1, j2, j3⟩ := m77 v hU1 hu
  have h5 : M2.1 5 = nI (a + 1) := (j2.1 5 (by decide)).trans ((e2.1 5 (by decide)).trans ha)
  rw [j1, Option.bind_some, h5, nI_add]
  have f2 : fr [4, 5, 12] [1] M M2 := (e2.w (by decide) (by decide)).tr (j2.w (by decide) (by decide))
  refine ⟨_, rfl, fr.r1 (by decide) f2, rp, fun w h9 => ?_, fun p h9 => ?_⟩
  · obtain ⟨rfl, g⟩ := e3 w h9
    refine ⟨?_, (rq (by decide)).trans ((j2.1 4 (by decide)).trans g)⟩
    rw [rq (by decide)]
    exact j3
  · exact (rq (by decide)).trans ((j2.1 4 (by decide)).trans (e4 p h9))
theorem m85 {b : Nat → Int32} {n : Nat} (hB : BK b n) {M : CS} {a : Nat} {u : List Int32} (hK : MK M b n) (ha : M.1 5 = nI a) (h : a ≤ n) (hbad : M.1 4 < 0) (hU : UR (M.2 1) (M.1 12) u) (hu : u.length < 2000) :
    ∃ M' x, f_85 M = some M' ∧ fr [4, 5, 10, 12] [1] M M' ∧ M'.1 5 = nI x ∧ x < 2 ^ 31 ∧ M'.1 10 = 1 ∧ (∀ y us, esS b a = .inl (y, us) → x = y ∧ UR (M'.2 1) (M'.1 12) (u ++ us) ∧ M'.1 4 = M.1 4) ∧ (∀ p, esS b a = .inr p → M'.1 4 = nI p) := by
  have hn := hK.2.1
  have f0 : fr [4, 5, 10, 12] [1] M (ru M.1 10 1, M.2) := fr.r1 (by decide) fr.pr
  have f1 : fr [4, 5, 10, 12] [1] M (ru (ru M.1 10 1) 5 (nI (a + 1)), M.2) := fr.r1 (by decide) f0
  have hK1 := hK.fr f1
  have h4 : (ru (ru M.1 10 1) 5 (nI (a + 1)), M.2).1 4 = M.1 4 := (rq (by decide)).trans (ru_ne _ _ (by decide))
  have h10 : (ru (ru M.1 10 1) 5 (nI (a + 1)), M.2).1 10 = 1 := (rq (by decide)).trans (ru_eq _ _ _)
  have hU1 : UR ((ru (ru M.1 10 1) 5 (nI (a + 1)), M.2).2 1) ((ru (ru M.1 10 1) 5 (nI (a + 1)), M.2).1 12) u := by
    rw [rq (by decide), ru_ne _ _ (by decide)]
    exact hU
  unfold f_85 esS
  rw [ha, m66 hK (by omega), Option.bind_some, nI_1]
  by_cases h1 : b a = -1
  · have h0 : ¬ (0 : Int32) ≤ b a := by rw [h1]; decide
    have he : n ≤ a := hB.m1.mp h1
    have : a = n := by omega
    subst this
    rw [if_neg h0, if_pos h1, m69 _ (by rw [h4]; exact hbad), Option.bind_some, h1]
    unfold b_85_36 b_85_65
    rw [if_pos (show ¬ (-1 : Int32) = 13 by decide), if_neg (show ¬ ¬ f_68 (-1) = 0 by decide), if_neg (show ¬ (0 : Int32) ≤ -1 by decide)]
    refine ⟨_, a + 1, rfl, fr.r1 (by decide) f1, (rq (by decide)).trans rp, by omega, (rq (by decide)).trans h10, fun y us h9 => (by cases h9), fun p h9 => ?_⟩
    cases h9
    rw [rp, hK.1]
  · have hl : a < n := by
      apply Nat.lt_of_not_le
      intro h9
      exact h1 (hB.2 a h9)
    have h0 : (0 : Int32) ≤ b a := hB.1 a hl
    rw [if_pos h0, if_neg h1]
    -- one unit more
    have add : ∀ (v : Int32) (M1 : CS), fr [4, 5, 10, 12] [1] M M1 → M1.1 5 = nI (a + 1) → M1.1 10 = 1 → UR (M1.2 1) (M1.1 12) u → ∃ M', f_77 M1 v = some M' ∧ fr [4, 5, 10, 12] [1] M M' ∧ M'.1 5 = nI (a + 1) ∧ M'.1 10 = 1 ∧ UR (M'.2 1) (M'.1 12) (u ++ [v]) ∧ M'.1 4 = M1.1 4 := by
      intro v M1 k1 k2 k3 k4
      obtain ⟨M2, j1, j2, j3⟩ := m77 v k4 hu
      exact ⟨M2, j1, k1.tr (j2.w (by decide) (by decide)), (j2.1 5 (by decide)).trans k2, (j2.1 10 (by decide)).trans k3, j3, j2.1 4 (by decide)⟩
    unfold b_85_36
    by_cases h3 : f_30 (b a) = 0
    · have h13 : ¬ b a = 13 := by
        intro h9
        rw [h9] at h3
        exact absurd h3 (by decide)
      rw [if_pos h13]
      unfold b_85_65
      rw [e68, if_neg (nn h3), if_pos h0, e74]
      by_cases h2 : f_38 (b a) = 0
      · rw [if_pos h2, if_neg (nn h2), if_neg (nn h3)]
        have hex : ∀ D, D ≤ 4 → ∃ M' x, b_85_153 (ru (ru M.1 10 1) 5 (nI (a + 1)), M.2) (nI D) = some M' ∧ fr [4, 5, 10, 12] [1] M M' ∧ M'.1 5 = nI x ∧ x < 2 ^ 31 ∧ M'.1 10 = 1 ∧ (∀ y us, (match hxS b D (a + 1) 0 with | .inr p => .inr p | .inl w => .inl (a + 1 + D, [nI w]) : (Nat × List Int32) ⊕ Nat) = .inl (y, us) → x = y ∧ UR (M'.2 1) (M'.1 12) (u ++ us) ∧ M'.1 4 = M.1 4) ∧ (∀ p, (match hxS b D (a + 1) 0 with | .inr p => .inr p | .inl w => .inl (a + 1 + D, [nI w]) : (Nat × List Int32) ⊕ Nat) = .inr p → M'.1 4 = nI p) := by
          intro D hD
          obtain ⟨M1, e1, e2, e3, e4, e5⟩ := m85h hB hD hK1 rp hl (by rw [h4]; exact hbad) hU1 hu
          rw [h4] at e4
          refine ⟨M1, a + 1 + D, e1, f1.tr (e2.w (by decide) (by decide)), e3, by omega, (e2.1 10 (by decide)).trans h10, fun y us h9 => ?_, fun p h9 => ?_⟩
          · cases hx : hxS b D (a + 1) 0 with
            | inr p => rw [hx] at h9; cases h9
            | inl w => rw [hx] at h9; cases h9; exact ⟨rfl, e4 w hx⟩
          · cases hx : hxS b D (a + 1) 0 with
            | inr p => rw [hx] at h9; cases h9; exact e5 p hx
            | inl w => rw [hx] at h9; cases h9
        unfold b_85_142
        by_cases h5 : b a = 120
        · rw [if_pos h5, if_pos h5, if_neg (nn h5)]
          exact hex 2 (by decide)
        · rw [if_neg h5, if_neg h5, if_pos h5]
          by_cases h6 : b a = 117
          · rw [if_neg (nn h6), if_pos h6]
            exact hex 4 (by decide)
          · rw [if_pos h6, if_neg h6]
            have key : ∀ v : Int32, v = f_54 (b a) → ∃ M' x, b_85_248 (ru (ru M.1 10 1) 5 (nI (a + 1)), M.2) v = some M' ∧ fr [4, 5, 10, 12] [1] M M' ∧ M'.1 5 = nI x ∧ x < 2 ^ 31 ∧ M'.1 10 = 1 ∧ (∀ y us, (.inl (a + 1, [f_54 (b a)]) : (Nat × List Int32) ⊕ Nat) = .inl (y, us) → x = y ∧ UR (M'.2 1) (M'.1 12) (u ++ us) ∧ M'.1 4 = M.1 4) ∧ (∀ p, (.inl (a + 1, [f_54 (b a)]) : (Nat × List Int32) ⊕ Nat) = .inr p → M'.1 4 = nI p) := by
              intro v hv
              subst hv
              obtain ⟨M2, j1, j2, j3, j4, j5, j6⟩ := add (f_54 (b a)) _ f1 rp h10 hU1
              unfold b_85_248
              rw [j1, Option.bind_some]
              exact ⟨M2, a + 1, rfl, j2, j3, by omega, j4, fun y us h9 => (by cases h9; exact ⟨rfl, j5, j6.trans h4⟩), fun p h9 => (by cases h9)⟩
            by_cases t1 : b a = 98
            · rw [if_neg (nn t1)]; exact key 8 (by rw [t1]; rfl)
            · rw [if_pos t1]
              by_cases t2 : b a = 116
              · rw [if_neg (nn t2)]; exact key 9 (by rw [t2]; rfl)
              · rw [if_pos t2]
                by_cases t3 : b a = 110
                · rw [if_neg (nn t3)]; exact key 10 (by rw [t3]; rfl)
                · rw [if_pos t3]
                  by_cases t4 : b a = 118
                  · rw [if_neg (nn t4)]; exact key 11 (by rw [t4]; rfl)
                  · rw [if_pos t4]
                    by_cases t5 : b a = 102
                    · rw [if_neg (nn t5)]; exact key 12 (by rw [t5]; rfl)
                    · rw [if_pos t5]
                      by_cases t6 : b a = 114
                      · rw [if_neg (nn t6)]; exact key 13 (by rw [t6]; rfl)
                      · rw [if_pos t6]
                        exact key (b a) (by unfold f_54; rw [if_neg t1, if_neg t5, if_neg t3, if_neg t6, if_neg t2, if_neg t4])
      · rw [if_neg h2, if_pos h2]
        -- behind a digit
        have zero : ∀ (M1 : CS) (q : Nat), fr [4, 5, 10, 12] [1] M M1 → M1.1 5 = nI (a + 1) → M1.1 10 = 1 → UR (M1.2 1) (M1.1 12) u → (M1.1 4 < 0 ∨ M1.1 4 = nI q) → q < 2 ^ 31 → ∃ M', b_85_100 M1 = some M' ∧ fr [4, 5, 10, 12] [1] M M' ∧ M'.1 5 = nI (a + 1) ∧ M'.1 10 = 1 ∧ UR (M'.2 1) (M'.1 12) (u ++ [0]) ∧ (f_38 (b (a + 1)) = 0 → M'.1 4 = M1.1 4) ∧ (¬ f_38 (b (a + 1)) = 0 → (M1.1 4 < 0 → M'.1 4 = nI (a + 1)) ∧ (¬ M1.1 4 < 0 → M'.1 4 = M1.1 4)) := by
          intro M1 q k1 k2 k3 k4 k5 k6
          unfold b_85_100 b_85_122
          rw [k2, m66 (hK.fr k1) (by omega), Option.bind_some, e74]
          by_cases t : f_38 (b (a + 1)) = 0
          · rw [if_pos t]
            obtain ⟨M2, j1, j2, j3, j4, j5, j6⟩ := add 0 M1 k1 k2 k3 k4
            rw [j1, Option.bind_some]
            exact ⟨M2, rfl, j2, j3, j4, j5, fun _ => j6, fun h9 => absurd t h9⟩
          · rw [if_neg t]
            obtain ⟨M2, i1, i2, i3, i4⟩ := m69x (M := M1) (a + 1) (by omega) q k5 k6
            rw [i1, Option.bind_some]
            obtain ⟨M3, j1, j2, j3, j4, j5, j6⟩ := add 0 M2 (k1.tr (i2.w (by decide) (by decide))) ((i2.1 5 (by decide)).trans k2) ((i2.1 10 (by decide)).trans k3) (by rw [i2.1 12 (by decide), i2.2 1 (by decide)]; exact k4)
            rw [j1, Option.bind_some]
            exact ⟨M3, rfl, j2, j3, j4, j5, fun h9 => absurd h9 t, fun _ => ⟨fun h9 => j6.trans (i3 h9), fun h9 => j6.trans (i4 h9)⟩⟩
        by_cases h5 : b a = 48
        · rw [if_pos h5, if_pos h5]
          obtain ⟨M', j1, j2, j3, j4, j5, j6, j7⟩ := zero _ 0 f1 rp h10 hU1 (Or.inl (by rw [h4]; exact hbad)) (by omega)
          rw [h4] at j6 j7
          refine ⟨M', a + 1, j1, j2, j3, by omega, j4, fun y us h9 => ?_, fun p h9 => ?_⟩
          · by_cases t : f_38 (b (a + 1)) = 0
            · rw [if_pos t] at h9; cases h9; exact ⟨rfl, j5, j6 t⟩
            · rw [if_neg t] at h9; cases h9
          · by_cases t : f_38 (b (a + 1)) = 0
            · rw [if_pos t] at h9; cases h9
            · rw [if_neg t] at h9; cases h9; exact (j7 t).1 hbad
        · rw [if_neg h5, if_neg h5, rp, nI_pred, m69 _ (by rw [h4]; exact hbad), Option.bind_some]
          have f2 : fr [4, 5, 10, 12] [1] M (ru (ru (ru M.1 10 1) 5 (nI (a + 1))) 4 (nI a), M.2) := fr.r1 (by decide) f1
          obtain ⟨M', j1, j2, j3, j4, j5, j6, j7⟩ := zero _ a f2 ((rq (by decide)).trans (ru_eq _ _ _)) ((rq (by decide)).trans h10) (by rw [rq (by decide)]; exact hU1) (Or.inr rp) (by omega)
          rw [rp] at j6 j7
          refine ⟨M', a + 1, j1, j2, j3, by omega, j4, fun y us h9 => (by cases h9), fun p h9 => ?_⟩
          cases h9
          by_cases t : f_38 (b (a + 1)) = 0
          · exact j6 t
          · exact (j7 t).2 (nI_pos (by omega))
    · have h2 : f_38 (b a) = 0 := by
        by_cases t : b a = 10
        · rw [t]; decide
        · by_cases t2 : b a = 13
          · rw [t2]; decide
          · unfold f_30 at h3
            rw [if_neg t, if_pos t2] at h3
            exact absurd rfl h3
      rw [if_neg (nn h2), if_pos h3]
      have key : ∀ (x : Nat), x < 2 ^ 31 → ∃ M' y, b_85_65 (ru (ru M.1 10 1) 5 (nI x), M.2) (b a) = some M' ∧ fr [4, 5, 10, 12] [1] M M' ∧ M'.1 5 = nI y ∧ y < 2 ^ 31 ∧ M'.1 10 = 1 ∧ (∀ z us, (.inl (x, []) : (Nat × List Int32) ⊕ Nat) = .inl (z, us) → y = z ∧ UR (M'.2 1) (M'.1 12) (u ++ us) ∧ M'.1 4 = M.1 4) ∧ (∀ p, (.inl (x, []) : (Nat × List Int32) ⊕ Nat) = .inr p → M'.1 4 = nI p) := by
        intro x hx
        unfold b_85_65
        rw [e68, if_pos h3]
        refine ⟨_, x, rfl, fr.r1 (by decide) f0, rp, hx, (rq (by decide)).trans (ru_eq _ _ _), fun z us h9 => ?_, fun p h9 => (by cases h9)⟩
        cases h9
        refine ⟨rfl, ?_, (rq (by decide)).trans (ru_ne _ _ (by decide))⟩
        rw [rq (by decide), ru_ne _ _ (by decide), List.append_nil]
        exact hU
      by_cases h13 : b a = 13
      · rw [if_neg (nn h13), rp, m66 hK1 (by omega), Option.bind_some, nI_1]
        dsimp only
        rw [ru_ru]
        by_cases ht : b (a + 1) = 10
        · rw [if_neg (nn ht), if_pos (show b a = 13 ∧ b (a + 1) = 10 from ⟨h13, ht⟩)]
          exact key (a + 2) (by omega)
        · rw [if_pos ht, if_neg (show ¬ (b a = 13 ∧ b (a + 1) = 10) from fun h => ht h.2)]
          exact key (a + 1) (by omega)
      · rw [if_pos h13, if_neg (show ¬ (b a = 13 ∧ b (a + 1) = 10) from fun h => h13 h.1)]
        exact key (a + 1) (by omega)
theorem m86 {b : Nat → Int32} {n : Nat} {q : Int32} (hB : BK b n) (hq0 : f_30 q = 0) (hq1 : 0 ≤ q) : ∀ (m : Nat) (M : CS) (a : Nat) (u : List Int32), MK M b n → M.1 5 = nI a → a ≤ n → n + 1 < a + m → M.1 4 < 0 → UR (M.2 1) (M.1 12) u → u.length ≤ a →
    ∃ M', b_86_25 m M q = some M' ∧ fr [4, 5, 10, 12] [1] M M' ∧ (∀ x u' e', txS b n q m a u (M.1 10) = .inl (x, u', e') → M'.1 5 = nI x ∧ UR (M'.2 1) (M'.1 12) u' ∧ M'.1 10 = e' ∧ M'.1 4 = M.1 4) ∧ (∀ p, txS b n q m a u (M.1 10) = .inr p → M'.1 4 = nI p) := by
  intro m
  induction m with
  | zero => intro M a u _ _ h h2; omega
  | succ m ih =>
    intro M a u hK ha h h2 hbad hU hu
    have hn := hK.2.1
    have h4 : ¬ (0 : Int32) ≤ M.1 4 := fun h9 => absurd hbad (Int32.not_lt.mpr h9)
    -- behind a fault it ends
    have bad : ∀ (M1 : CS) (x p : Nat), fr [4, 5, 10, 12] [1] M M1 → M1.1 5 = nI x → x < 2 ^ 31 → M1.1 4 = nI p → p < 2 ^ 31 → ∃ M', b_86_25 m M1 q = some M' ∧ fr [4, 5, 10, 12] [1] M M' ∧ M'.1 4 = nI p := by
      intro M1 x p k1 k2 k3 k4 k5
      cases m with
      | zero => omega
      | succ m =>
        rw [b_86_25, k2, m66 (hK.fr k1) k3, Option.bind_some]
        unfold b_86_116
        have h0 : (0 : Int32) ≤ M1.1 4 := by rw [k4]; exact nI_pos' k5
        have e : (if b x = q then some (ru M1.1 5 (M1.1 5 + 1), M1.2) else if 0 ≤ M1.1 4 then some (ru M1.1 5 (M1.1 5 + 1), M1.2) else (some (b x)).bind fun r => if r < 0 then b_86_64 (b_86_25 m) M1 q else if f_68 r = 0 then (if ¬ r = 92 then (f_77 M1 r).bind fun r2 => b_86_113 (b_86_25 m) (ru r2.1 5 (r2.1 5 + 1), r2.2) q else (f_85 (ru M1.1 5 (nI x + 1), M1.2)).bind fun r2 => b_86_113 (b_86_25 m) r2 q) else b_86_64 (b_86_25 m) M1 q) = some (ru M1.1 5 (M1.1 5 + 1), M1.2) := by
          by_cases t : b x = q
          · rw [if_pos t]
          · rw [if_neg t, if_pos h0]
        exact ⟨_, e, k1.tr (fr.r1 (by decide) fr.pr), (rq (by decide)).trans k4⟩
    have fail : ∃ M', ((f_69 M (M.1 5)).bind fun r => b_86_25 m r q) = some M' ∧ fr [4, 5, 10, 12] [1] M M' ∧ M'.1 4 = nI a := by
      rw [m69 _ hbad, Option.bind_some, ha]
      exact bad (ru M.1 4 (nI a), M.2) a a (fr.r1 (by decide) fr.pr) ((rq (by decide)).trans ha) (by omega) rp (by omega)
    rw [b_86_25, txS]
    unfold b_86_64 b_86_113 b_86_116
    rw [ha, m66 hK (by omega), Option.bind_some, Option.bind_some, if_neg h4, e68, nI_1]
    rw [ha] at fail
    by_cases hle : n ≤ a
    · have hb := hB.2 a hle
      have hq2 : ¬ b a = q := by
        rw [hb]
        intro h9
        rw [← h9] at hq1
        exact absurd hq1 (by decide)
      rw [if_neg hq2, if_pos (show b a < 0 by rw [hb]; decide), if_pos hle]
      obtain ⟨M', j1, j2, j3⟩ := fail
      exact ⟨M', j1, j2, fun x u' e' h9 => (by cases h9), fun p h9 => (by cases h9; exact j3)⟩
    · have hlt : a < n := by omega
      have hge : ¬ b a < 0 := Int32.not_lt.mpr (hB.1 a hlt)
      rw [if_neg hle]
      have f1 : fr [4, 5, 10, 12] [1] M (ru M.1 5 (nI (a + 1)), M.2) := fr.r1 (by decide) fr.pr
      by_cases h3 : f_30 (b a) = 0
      · rw [if_pos h3, if_neg (nn h3)]
        by_cases hq : b a = q
        · rw [if_pos hq, if_pos hq]
          refine ⟨_, rfl, f1, fun x u' e' h9 => ?_, fun p h9 => (by cases h9)⟩
          cases h9
          refine ⟨rp, ?_, rq (by decide), rq (by decide)⟩
          rw [rq (by decide)]
          exact hU
        · rw [if_neg hq, if_neg hq, if_neg hge]
          by_cases h92 : b a = 92
          · rw [if_neg (nn h92), if_pos h92]
            obtain ⟨M1, x, e1, e2, e3, e4, e5, e6, e7⟩ := m85 hB (hK.fr f1) rp (by omega) (by rw [rq (by decide)]; exact hbad) (by rw [rq (by decide)]; exact hU) (show u.length < 2000 by omega)
            rw [rq (by decide)] at e6
            have f2 := f1.tr e2
            rw [e1, Option.bind_some]
            cases hx : esS b (a + 1) with
            | inr p =>
              have bb := (esS_b hB (show a + 1 ≤ n by omega)).2 p hx
              obtain ⟨M', j1, j2, j3⟩ := bad M1 x p f2 e3 e4 (e7 p hx) (by omega)
              exact ⟨M', j1, j2, fun x u' e' h9 => (by cases h9), fun p h9 => (by cases h9; exact j3)⟩
            | inl r =>
              obtain ⟨y, us⟩ := r
              obtain ⟨rfl, g1, g2⟩ := e6 y us hx
              have bb := (esS_b hB (show a + 1 ≤ n by omega)).1 x us hx
              dsimp only
              obtain ⟨M2, j1, j2, j3, j4⟩ := ih M1 x (u ++ us) (hK.fr f2) e3 bb.2.1 (by omega) (by rw [g2]; exact hbad) g1 (by rw [List.length_append]; omega)
              rw [e5, g2] at j3
              rw [e5] at j4
              exact ⟨M2, j1, f2.tr j2, j3, j4⟩
          · rw [if_pos h92, if_neg h92]
            obtain ⟨M1, k1, k2, k3⟩ := m77 (b a) hU (by omega)
            rw [k1, Option.bind_some, (k2.1 5 (by decide)).trans ha, nI_1]
            have f2 : fr [4, 5, 10, 12] [1] M (ru M1.1 5 (nI (a + 1)), M1.2) := (k2.w (by decide) (by decide)).tr (fr.r1 (by decide) fr.pr)
            have g4 : (ru M1.1 5 (nI (a + 1)), M1.2).1 4 = M.1 4 := (rq (by decide)).trans (k2.1 4 (by decide))
            obtain ⟨M2, j1, j2, j3, j4⟩ := ih (ru M1.1 5 (nI (a + 1)), M1.2) (a + 1) (u ++ [b a]) (hK.fr f2) rp (by omega) (by omega) (by rw [g4]; exact hbad) (by rw [rq (by decide)]; exact k3) (by simp; omega)
            rw [g4, rq (by decide), k2.1 10 (by decide)] at j3
            rw [rq (by decide), k2.1 10 (by decide)] at j4
            exact ⟨M2, j1, f2.tr j2, j3, j4⟩
      · have hq2 : ¬ b a = q := by
          intro h9
          rw [h9] at h3
          exact h3 hq0
        rw [if_neg hq2, if_neg hge, if_neg h3, if_pos h3]
        obtain ⟨M', j1, j2, j3⟩ := fail
        exact ⟨M', j1, j2, fun x u' e' h9 => (by cases h9), fun p h9 => (by cases h9; exact j3)⟩
