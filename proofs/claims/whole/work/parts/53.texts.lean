/-! texts -/
/-- what stands behind a backslash, from a on -/
def esS (b : Nat → Int32) (a : Nat) : (Nat × List Int32) ⊕ Nat :=
  if b a = -1 then .inr a
  else if ¬ f_38 (b a) = 0 then (if b a = 48 then (if f_38 (b (a + 1)) = 0 then .inl (a + 1, [0]) else .inr (a + 1)) else .inr a)
  else if ¬ f_30 (b a) = 0 then .inl (if b a = 13 ∧ b (a + 1) = 10 then a + 2 else a + 1, [])
  else if b a = 120 then (match hxS b 2 (a + 1) 0 with | .inr p => .inr p | .inl w => .inl (a + 3, [nI w]))
  else if b a = 117 then (match hxS b 4 (a + 1) 0 with | .inr p => .inr p | .inl w => .inl (a + 5, [nI w]))
  else .inl (a + 1, [f_54 (b a)])
theorem esS_b {b : Nat → Int32} {n a : Nat} (hB : BK b n) (h : a ≤ n) : (∀ x us, esS b a = .inl (x, us) → a + 1 ≤ x ∧ x ≤ n ∧ us.length ≤ 1) ∧ ∀ p, esS b a = .inr p → p ≤ n := by
  unfold esS
  by_cases h1 : b a = -1
  · rw [if_pos h1]; exact ⟨fun x us h => (by cases h), fun p h9 => (by cases h9; exact h)⟩
  · have hl : a < n := by
      apply Nat.lt_of_not_le
      intro h9
      exact h1 (hB.2 a h9)
    rw [if_neg h1]
    by_cases h2 : f_38 (b a) = 0
    · rw [if_neg (nn h2)]
      by_cases h3 : f_30 (b a) = 0
      · rw [if_neg (nn h3)]
        by_cases h4 : b a = 120
        · rw [if_pos h4]
          cases hx : hxS b 2 (a + 1) 0 with
          | inr p => exact ⟨fun x us h => (by cases h), fun q h9 => (by cases h9; exact ((hxS_b hB 2 (a + 1) 0 (by omega)).2 p hx).2)⟩
          | inl w =>
            have := (hxS_b hB 2 (a + 1) 0 (by omega)).1 w hx
            exact ⟨fun x us h => (by cases h; exact ⟨by omega, by omega, by simp⟩), fun q h9 => (by cases h9)⟩
        · rw [if_neg h4]
          by_cases h5 : b a = 117
          · rw [if_pos h5]
            cases hx : hxS b 4 (a + 1) 0 with
            | inr p => exact ⟨fun x us h => (by cases h), fun q h9 => (by cases h9; exact ((hxS_b hB 4 (a + 1) 0 (by omega)).2 p hx).2)⟩
            | inl w =>
              have := (hxS_b hB 4 (a + 1) 0 (by omega)).1 w hx
              exact ⟨fun x us h => (by cases h; exact ⟨by omega, by omega, by simp⟩), fun q h9 => (by cases h9)⟩
          · rw [if_neg h5]
            exact ⟨fun x us h => (by cases h; exact ⟨by omega, by omega, by simp⟩), fun q h9 => (by cases h9)⟩
      · rw [if_pos h3]
        by_cases h4 : b a = 13 ∧ b (a + 1) = 10
        · have := lt_of hB h4.2
          rw [if_pos h4]
          exact ⟨fun x us h => (by cases h; exact ⟨by omega, by omega, by simp⟩), fun q h9 => (by cases h9)⟩
        · rw [if_neg h4]
          exact ⟨fun x us h => (by cases h; exact ⟨by omega, by omega, by simp⟩), fun q h9 => (by cases h9)⟩
    · rw [if_pos h2]
      by_cases h3 : b a = 48
      · rw [if_pos h3]
        by_cases h4 : f_38 (b (a + 1)) = 0
        · rw [if_pos h4]
          exact ⟨fun x us h => (by cases h; exact ⟨by omega, by omega, by simp⟩), fun q h9 => (by cases h9)⟩
        · rw [if_neg h4]; exact ⟨fun x us h => (by cases h), fun p h9 => (by cases h9; omega)⟩
      · rw [if_neg h3]; exact ⟨fun x us h => (by cases h), fun p h9 => (by cases h9; exact h)⟩
theorem c55 {b : Nat → Int32} {n : Nat} (hB : BK b n) {C : CS} {a : Nat} {u : List Int32} (hK : CK C b n) (ha : C.1 11 = nI a) (h : a ≤ n) (hU : UR (C.2 1) (C.1 10) u) (hu : u.length < 2000) :
    ∃ v C', f_55 C = some (v, C') ∧ fr [8, 10, 11, 12] [1] C C' ∧ C'.1 8 = 1 ∧ (∀ x us, esS b a = .inl (x, us) → v = 1 ∧ C'.1 11 = nI x ∧ UR (C'.2 1) (C'.1 10) (u ++ us)) ∧ (∀ p, esS b a = .inr p → v = 0 ∧ C'.1 12 = nI p) := by
  have hn := hK.2.1
  have f0 : fr [8, 10, 11, 12] [1] C (ru C.1 8 1, C.2) := fr.r1 (by decide) fr.pr
  have f1 : fr [8, 10, 11, 12] [1] C (ru (ru C.1 8 1) 11 (nI (a + 1)), C.2) := fr.r1 (by decide) f0
  have hK0 := hK.fr f0
  have hK1 := hK.fr f1
  have ha0 : (ru C.1 8 1, C.2).1 11 = nI a := (rq (by decide)).trans ha
  have hU1 : UR ((ru (ru C.1 8 1) 11 (nI (a + 1)), C.2).2 1) ((ru (ru C.1 8 1) 11 (nI (a + 1)), C.2).1 10) u := by
    rw [rq (by decide), ru_ne _ _ (by decide)]
    exact hU
  have h81 : (ru (ru C.1 8 1) 11 (nI (a + 1)), C.2).1 8 = 1 := (rq (by decide)).trans (ru_eq _ _ _)
  -- a unit more
  have add : ∀ (v : Int32) (C1 : CS) (x : Nat), fr [8, 10, 11, 12] [1] C C1 → C1.1 8 = 1 → C1.1 11 = nI x → UR (C1.2 1) (C1.1 10) u → ∃ C', f_40 C1 v = some C' ∧ fr [8, 10, 11, 12] [1] C C' ∧ C'.1 8 = 1 ∧ C'.1 11 = nI x ∧ UR (C'.2 1) (C'.1 10) (u ++ [v]) := by
    intro v C1 x k1 k2 k3 k4
    obtain ⟨C2, j1, j2, j3⟩ := c40 v k4 hu
    exact ⟨C2, j1, k1.tr (j2.w (by decide) (by decide)), (j2.1 8 (by decide)).trans k2, (j2.1 11 (by decide)).trans k3, j3⟩
  unfold f_55 esS
  rw [ha, c28 hK0 (by omega), Option.bind_some, nI_1, rf32]
  by_cases h1 : b a = -1
  · rw [if_neg (nn h1), if_pos h1]
    exact ⟨_, _, rfl, fr.r1 (by decide) f0, (rq (by decide)).trans rp, fun x us h9 => (by cases h9), fun p h9 => (by cases h9; exact ⟨rfl, rp⟩)⟩
  · have hl : a < n := by
      apply Nat.lt_of_not_le
      intro h9
      exact h1 (hB.2 a h9)
    rw [if_pos h1, if_neg h1]
    by_cases h2 : f_38 (b a) = 0
    · rw [if_pos h2, if_neg (nn h2)]
      by_cases h3 : f_30 (b a) = 0
      · rw [if_pos h3, if_neg (nn h3)]
        -- two or four digits
        have hex : ∀ D, D ≤ 4 → ∃ v C', b_55_94 (ru (ru C.1 8 1) 11 (nI (a + 1)), C.2) (nI D) = some (v, C') ∧ fr [8, 10, 11, 12] [1] C C' ∧ C'.1 8 = 1 ∧ (∀ w, hxS b D (a + 1) 0 = .inl w → v = 1 ∧ C'.1 11 = nI (a + 1 + D) ∧ UR (C'.2 1) (C'.1 10) (u ++ [nI w])) ∧ (∀ p, hxS b D (a + 1) 0 = .inr p → v = 0 ∧ C'.1 12 = nI p) := by
          intro D hD
          obtain ⟨v, C1, e1, e2, e3, e4⟩ := c37 hB hD D fu (ru (ru C.1 8 1) 11 (nI (a + 1)), C.2) (a + 1) 0 0 hK1 rp (by omega) (by omega) (by rw [fu_e]; omega)
          unfold b_55_94 f_37
          rw [show b_37_4 fu (ru (ru C.1 8 1) 11 (nI (a + 1)), C.2) (nI D) 0 0 = some (v, C1) from e1, Option.bind_some]
          dsimp only
          have f2 := f1.tr (e2.w (by decide) (by decide) : fr [8, 10, 11, 12] [1] _ _)
          have h82 : C1.1 8 = 1 := (e2.1 8 (by decide)).trans h81
          cases hx : hxS b D (a + 1) 0 with
          | inr p =>
            obtain ⟨rfl, g⟩ := e4 p hx
            rw [if_neg (nn rfl)]
            exact ⟨_, _, rfl, f2, h82, fun w h9 => (by cases h9), fun q h9 => (by cases h9; exact ⟨rfl, g⟩)⟩
          | inl w =>
            obtain ⟨rfl, g⟩ := e3 w hx
            have hw := (hxS_b hB D (a + 1) 0 (by omega)).1 w hx
            have hp : (16 : Nat) ^ D ≤ 16 ^ 4 := Nat.pow_le_pow_right (by decide) hD
            rw [if_pos (nI_m1 (by omega))]
            have hU2 : UR (C1.2 1) (C1.1 10) u := by
              rw [e2.1 10 (by decide), e2.2 1 (by decide)]
              exact hU1
            obtain ⟨C2, j1, j2, j3, j4, j5⟩ := add (nI w) C1 (a + 1 + D) f2 h82 g hU2
            rw [j1, Option.bind_some]
            exact ⟨_, _, rfl, j2, j3, fun w' h9 => (by cases h9; exact ⟨rfl, j4, j5⟩), fun q h9 => (by cases h9)⟩
        unfold b_55_82
        by_cases h4 : b a = 120
        · rw [if_pos h4, if_pos h4, if_neg (nn h4)]
          obtain ⟨v, C', k1, k2, k3, k4, k5⟩ := hex 2 (by decide)
          refine ⟨v, C', k1, k2, k3, ?_, ?_⟩
          · intro x us h9
            cases hx : hxS b 2 (a + 1) 0 with
            | inr p => rw [hx] at h9; cases h9
            | inl w => rw [hx] at h9; cases h9; exact k4 w hx
          · intro p h9
            cases hx : hxS b 2 (a + 1) 0 with
            | inr p => rw [hx] at h9; cases h9; exact k5 p hx
            | inl w => rw [hx] at h9; cases h9
        · rw [if_neg h4, if_neg h4, if_pos h4]
          by_cases h5 : b a = 117
          · rw [if_neg (nn h5), if_pos h5]
            obtain ⟨v, C', k1, k2, k3, k4, k5⟩ := hex 4 (by decide)
            refine ⟨v, C', k1, k2, k3, ?_, ?_⟩
            · intro x us h9
              cases hx : hxS b 4 (a + 1) 0 with
              | inr p => rw [hx] at h9; cases h9
              | inl w => rw [hx] at h9; cases h9; exact k4 w hx
            · intro p h9
              cases hx : hxS b 4 (a + 1) 0 with
              | inr p => rw [hx] at h9; cases h9; exact k5 p hx
              | inl w => rw [hx] at h9; cases h9
          · rw [if_pos h5, if_neg h5]
            obtain ⟨C2, j1, j2, j3, j4, j5⟩ := add (f_54 (b a)) _ (a + 1) f1 h81 rp hU1
            rw [j1, Option.bind_some]
            exact ⟨_, _, rfl, j2, j3, fun x us h9 => (by cases h9; exact ⟨rfl, j4, j5⟩), fun q h9 => (by cases h9)⟩
      · rw [if_neg h3, if_pos h3]
        unfold f_53
        rw [rp, c28 hK1 (by omega), Option.bind_some, nI_1]
        by_cases h4 : b a = 13
        · rw [if_neg (nn h4)]
          by_cases h5 : b (a + 1) = 10
          · rw [if_neg (nn h5), if_pos (show b a = 13 ∧ b (a + 1) = 10 from ⟨h4, h5⟩), Option.bind_some]
            dsimp only
            rw [ru_ru]
            refine ⟨_, _, rfl, fr.r1 (by decide) f0, (rq (by decide)).trans (ru_eq _ _ _), fun x us h9 => ?_, fun q h9 => (by cases h9)⟩
            cases h9
            refine ⟨rfl, rp, ?_⟩
            rw [rq (by decide), ru_ne _ _ (by decide), List.append_nil]
            exact hU
          · rw [if_pos h5, if_neg (show ¬ (b a = 13 ∧ b (a + 1) = 10) from fun h => h5 h.2), Option.bind_some]
            refine ⟨_, _, rfl, f1, h81, fun x us h9 => ?_, fun q h9 => (by cases h9)⟩
            cases h9
            exact ⟨rfl, rp, by rw [List.append_nil]; exact hU1⟩
        · rw [if_pos h4, if_neg (show ¬ (b a = 13 ∧ b (a + 1) = 10) from fun h => h4 h.1), Option.bind_some]
          refine ⟨_, _, rfl, f1, h81, fun x us h9 => ?_, fun q h9 => (by cases h9)⟩
          cases h9
          exact ⟨rfl, rp, by rw [List.append_nil]; exact hU1⟩
    · rw [if_neg h2, if_pos h2]
      unfold f_52
      rw [ha0, c28 hK0 (by omega), Option.bind_some, nI_1, c28 hK1 (by omega), Option.bind_some, rf32, rf32]
      by_cases h3 : b a = 48
      · rw [if_pos h3, if_pos h3]
        by_cases h4 : f_38 (b (a + 1)) = 0
        · rw [if_pos h4, if_pos h4]
          obtain ⟨C2, j1, j2, j3, j4, j5⟩ := add 0 _ (a + 1) f1 h81 rp hU1
          rw [j1, Option.bind_some, Option.bind_some, if_pos (Or.inr rfl)]
          exact ⟨_, _, rfl, j2, j3, fun x us h9 => (by cases h9; exact ⟨rfl, j4, j5⟩), fun q h9 => (by cases h9)⟩
        · rw [if_neg h4, if_neg h4, Option.bind_some, if_pos (Or.inl rfl)]
          exact ⟨_, _, rfl, fr.r1 (by decide) f1, (rq (by decide)).trans h81, fun x us h9 => (by cases h9), fun q h9 => (by cases h9; exact ⟨rfl, rp⟩)⟩
      · rw [if_neg h3, if_neg h3, Option.bind_some, if_pos (Or.inl rfl)]
        exact ⟨_, _, rfl, fr.r1 (by decide) f0, (rq (by decide)).trans rp, fun x us h9 => (by cases h9), fun q h9 => (by cases h9; exact ⟨rfl, rp⟩)⟩
/-- a text's inside -/
def txS (b : Nat → Int32) (n : Nat) (q : Int32) : Nat → Nat → List Int32 → Int32 → (Nat × List Int32 × Int32) ⊕ Nat
  | 0, a, _, _ => .inr a
  | m + 1, a, u, e => if n ≤ a then .inr a else if ¬ f_30 (b a) = 0 then .inr a else if b a = q then .inl (a + 1, u, e)
    else if b a = 92 then (match esS b (a + 1) with | .inr p => .inr p | .inl (x, us) => txS b n q m x (u ++ us) 1) else txS b n q m (a + 1) (u ++ [b a]) e
theorem c56 {b : Nat → Int32} {n : Nat} {q : Int32} (hB : BK b n) : ∀ (m : Nat) (C : CS) (a : Nat) (u : List Int32), CK C b n → C.1 11 = nI a → a ≤ n → n < a + m → UR (C.2 1) (C.1 10) u → u.length ≤ a →
    ∃ v C', b_56_18 m C q = some (v, C') ∧ fr [8, 10, 11, 12] [1] C C' ∧ (∀ x u' e', txS b n q m a u (C.1 8) = .inl (x, u', e') → v = 1 ∧ C'.1 11 = nI x ∧ UR (C'.2 1) (C'.1 10) u' ∧ C'.1 8 = e') ∧ (∀ p, txS b n q m a u (C.1 8) = .inr p → v = 0 ∧ C'.1 12 = nI p) := by
  intro m
  induction m with
  | zero => intro C a u _ _ h h2; omega
  | succ m ih =>
    intro C a u hK ha h h2 hU hu
    have hn := hK.2.1
    rw [b_56_18, txS, c19 hK, ha, rf32]
    by_cases hle : n ≤ a
    · rw [if_pos (nI_le hle (by omega)), if_pos hle]
      exact ⟨_, _, rfl, fr.r1 (by decide) fr.pr, fun x u' e' h9 => (by cases h9), fun p h9 => (by cases h9; exact ⟨rfl, rp⟩)⟩
    · have hlt : a < n := by omega
      have f1 : fr [8, 10, 11, 12] [1] C (ru C.1 11 (nI (a + 1)), C.2) := fr.r1 (by decide) fr.pr
      have hU1 : UR ((ru C.1 11 (nI (a + 1)), C.2).2 1) ((ru C.1 11 (nI (a + 1)), C.2).1 10) u := by
        rw [rq (by decide)]
        exact hU
      rw [if_neg (nI_ge hlt (by omega)), if_neg hle, c28 hK (by omega), Option.bind_some, nI_1]
      unfold b_56_103
      by_cases h3 : f_30 (b a) = 0
      · rw [if_pos h3, if_neg (nn h3)]
        by_cases hq : b a = q
        · rw [if_neg (nn hq), if_pos hq]
          refine ⟨_, _, rfl, f1, fun x u' e' h9 => ?_, fun p h9 => (by cases h9)⟩
          cases h9
          exact ⟨rfl, rp, hU1, rq (by decide)⟩
        · rw [if_pos hq, if_neg hq]
          by_cases h92 : b a = 92
          · rw [if_pos h92, if_pos h92]
            obtain ⟨v, C1, e1, e2, e3, e4, e5⟩ := c55 hB (hK.fr f1) rp (by omega) hU1 (by omega)
            have f2 := f1.tr e2
            rw [e1, Option.bind_some]
            dsimp only
            cases hx : esS b (a + 1) with
            | inr p =>
              obtain ⟨rfl, g⟩ := e5 p hx
              rw [if_neg (nn rfl)]
              exact ⟨_, _, rfl, f2, fun x u' e' h9 => (by cases h9), fun p h9 => (by cases h9; exact ⟨rfl, g⟩)⟩
            | inl r =>
              obtain ⟨x, us⟩ := r
              obtain ⟨rfl, g1, g2⟩ := e4 x us hx
              have bb := (esS_b hB (show a + 1 ≤ n by omega)).1 x us hx
              rw [if_pos (by decide)]
              dsimp only
              obtain ⟨v, C2, j1, j2, j3, j4⟩ := ih C1 x (u ++ us) (hK.fr f2) g1 bb.2.1 (by omega) g2 (by rw [List.length_append]; omega)
              rw [e3] at j3 j4
              exact ⟨v, C2, j1, f2.tr j2, j3, j4⟩
          · rw [if_neg h92, if_neg h92]
            obtain ⟨C1, k1, k2, k3⟩ := c40 (b a) hU1 (by omega)
            have f2 := f1.tr (k2.w (by decide) (by decide) : fr [8, 10, 11, 12] [1] _ _)
            rw [k1, Option.bind_some]
            obtain ⟨v, C2, j1, j2, j3, j4⟩ := ih C1 (a + 1) (u ++ [b a]) (hK.fr f2) ((k2.1 11 (by decide)).trans rp) (by omega) (by omega) k3 (by simp; omega)
            rw [k2.1 8 (by decide), rq (by decide)] at j3 j4
            exact ⟨v, C2, j1, f2.tr j2, j3, j4⟩
      · rw [if_neg h3, if_pos h3]
        exact ⟨_, _, rfl, fr.r1 (by decide) fr.pr, fun x u' e' h9 => (by cases h9), fun p h9 => (by cases h9; exact ⟨rfl, rp⟩)⟩
