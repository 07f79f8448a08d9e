/-! what the scans leave -/
theorem rnS_b {b : Nat → Int32} {n : Nat} (hB : BK b n) : ∀ m a u e, a ≤ n → (∀ a' u' e', rnS b m a u e = .inl (a', u', e') → a ≤ a' ∧ a' ≤ n ∧ u'.length + a ≤ u.length + a' ∧ (e' = e ∨ e' = 1)) ∧ ∀ p, rnS b m a u e = .inr p → p ≤ n := by
  intro m
  induction m with
  | zero =>
    intro a u e h
    rw [rnS]
    exact ⟨fun a' u' e' h9 => (by cases h9; exact ⟨Nat.le_refl _, h, Nat.le_refl _, Or.inl rfl⟩), fun p h9 => (by cases h9)⟩
  | succ m ih =>
    intro a u e h
    rw [rnS]
    by_cases h1 : b a = 92
    · have hl := lt_of hB h1
      rw [if_pos h1]
      by_cases h2 : b (a + 1) = 117
      · have hl2 := lt_of hB h2
        rw [if_pos h2]
        cases hx : hxS b 4 (a + 2) 0 with
        | inr p =>
          exact ⟨fun a' u' e' h9 => (by cases h9), fun q h9 => (by cases h9; exact ((hxS_b hB 4 (a + 2) 0 (by omega)).2 p hx).2)⟩
        | inl w =>
          have hw := ((hxS_b hB 4 (a + 2) 0 (by omega)).1 w hx).1
          dsimp only
          by_cases h3 : (if u.length = 0 then f_35 (nI w) else f_39 (nI w)) = 0
          · rw [if_pos h3]
            exact ⟨fun a' u' e' h9 => (by cases h9), fun q h9 => (by cases h9; exact h)⟩
          · rw [if_neg h3]
            obtain ⟨k1, k2⟩ := ih (a + 6) (u ++ [nI w]) 1 (by omega)
            refine ⟨fun a' u' e' h9 => ?_, k2⟩
            obtain ⟨j1, j2, j3, j4⟩ := k1 a' u' e' h9
            rw [List.length_append] at j3
            have : [nI w].length = 1 := rfl
            exact ⟨by omega, j2, by omega, j4.elim Or.inr Or.inr⟩
      · rw [if_neg h2]
        exact ⟨fun a' u' e' h9 => (by cases h9), fun q h9 => (by cases h9; exact hl)⟩
    · rw [if_neg h1]
      by_cases h2 : f_39 (b a) = 0
      · rw [if_pos h2]
        exact ⟨fun a' u' e' h9 => (by cases h9; exact ⟨Nat.le_refl _, h, Nat.le_refl _, Or.inl rfl⟩), fun p h9 => (by cases h9)⟩
      · have hl := lt_of39 hB h2
        rw [if_neg h2]
        obtain ⟨k1, k2⟩ := ih (a + 1) (u ++ [b a]) e (by omega)
        refine ⟨fun a' u' e' h9 => ?_, k2⟩
        obtain ⟨j1, j2, j3, j4⟩ := k1 a' u' e' h9
        rw [List.length_append] at j3
        have : [b a].length = 1 := rfl
        exact ⟨by omega, j2, by omega, j4⟩
theorem txS_b {b : Nat → Int32} {n : Nat} {q : Int32} (hB : BK b n) : ∀ m a u e, a ≤ n → (∀ x u' e', txS b n q m a u e = .inl (x, u', e') → a + 1 ≤ x ∧ x ≤ n ∧ u'.length + a ≤ u.length + x ∧ (e' = e ∨ e' = 1)) ∧ ∀ p, txS b n q m a u e = .inr p → p ≤ n := by
  intro m
  induction m with
  | zero =>
    intro a u e h
    rw [txS]
    exact ⟨fun a' u' e' h9 => (by cases h9), fun p h9 => (by cases h9; exact h)⟩
  | succ m ih =>
    intro a u e h
    rw [txS]
    by_cases h0 : n ≤ a
    · rw [if_pos h0]
      exact ⟨fun a' u' e' h9 => (by cases h9), fun p h9 => (by cases h9; exact h)⟩
    · rw [if_neg h0]
      by_cases h1 : ¬ f_30 (b a) = 0
      · rw [if_pos h1]
        exact ⟨fun a' u' e' h9 => (by cases h9), fun p h9 => (by cases h9; exact h)⟩
      · rw [if_neg h1]
        by_cases h2 : b a = q
        · rw [if_pos h2]
          exact ⟨fun a' u' e' h9 => (by cases h9; exact ⟨Nat.le_refl _, by omega, by omega, Or.inl rfl⟩), fun p h9 => (by cases h9)⟩
        · rw [if_neg h2]
          by_cases h3 : b a = 92
          · rw [if_pos h3]
            cases hx : esS b (a + 1) with
            | inr p => exact ⟨fun a' u' e' h9 => (by cases h9), fun q h9 => (by cases h9; exact (esS_b hB (by omega)).2 p hx)⟩
            | inl r =>
              obtain ⟨x, us⟩ := r
              obtain ⟨g1, g2, g3⟩ := (esS_b hB (by omega)).1 x us hx
              dsimp only
              obtain ⟨k1, k2⟩ := ih x (u ++ us) 1 (by omega)
              refine ⟨fun a' u' e' h9 => ?_, k2⟩
              obtain ⟨j1, j2, j3, j4⟩ := k1 a' u' e' h9
              rw [List.length_append] at j3
              exact ⟨by omega, j2, by omega, j4.elim Or.inr Or.inr⟩
          · rw [if_neg h3]
            obtain ⟨k1, k2⟩ := ih (a + 1) (u ++ [b a]) e (by omega)
            refine ⟨fun a' u' e' h9 => ?_, k2⟩
            obtain ⟨j1, j2, j3, j4⟩ := k1 a' u' e' h9
            rw [List.length_append] at j3
            have : [b a].length = 1 := rfl
            exact ⟨by omega, j2, by omega, j4⟩
theorem skS_b {b : Nat → Int32} {n : Nat} (hB : BK b n) : ∀ m a ln p, a ≤ n → skS b n m a ln = some p → a ≤ p.1 ∧ p.1 ≤ n ∧ (p.2 = ln ∨ p.2 = 1) := by
  intro m
  induction m with
  | zero =>
    intro a ln p h h9
    rw [skS] at h9
    cases h9
    exact ⟨Nat.le_refl _, h, Or.inl rfl⟩
  | succ m ih =>
    intro a ln p h h9
    rw [skS] at h9
    by_cases h1 : ¬ f_29 (b a) = 0
    · have hl := lt_of29 hB h1
      rw [if_pos h1] at h9
      have := ih (a + 1) ln p (by omega) h9
      exact ⟨by omega, this.2⟩
    · rw [if_neg h1] at h9
      by_cases h2 : ¬ f_30 (b a) = 0
      · have hl := lt_of30 hB h2
        rw [if_pos h2] at h9
        have := ih (a + 1) 1 p (by omega) h9
        exact ⟨by omega, this.2.1, this.2.2.elim Or.inr Or.inr⟩
      · rw [if_neg h2] at h9
        by_cases h3 : b a = 47 ∧ b (a + 1) = 47
        · rw [if_pos h3] at h9
          have hw := whS_b (q := ql) hB (by decide) fu a h
          have := ih _ ln p hw.2 h9
          exact ⟨by omega, this.2⟩
        · rw [if_neg h3] at h9
          by_cases h4 : b a = 47 ∧ b (a + 1) = 42
          · rw [if_pos h4] at h9
            cases hx : bcS b n fu (a + 2) ln with
            | none => rw [hx] at h9; cases h9
            | some q =>
              rw [hx, Option.bind_some] at h9
              have hq := bcS_b hB fu (a + 2) ln q hx
              have := ih q.1 q.2 p hq.2.1 h9
              refine ⟨by omega, this.2.1, ?_⟩
              rcases this.2.2 with h5 | h5
              · rcases hq.2.2 with h6 | h6
                · exact Or.inl (h5.trans h6)
                · exact Or.inr (h5.trans h6)
              · exact Or.inr h5
          · rw [if_neg h4] at h9
            cases h9
            exact ⟨Nat.le_refl _, h, Or.inl rfl⟩
/-- the body of a pattern, from a on: where its end stands -/
def patS (b : Nat → Int32) (n : Nat) : Nat → Nat → Int32 → Nat ⊕ Nat
  | 0, a, _ => .inr a
  | m + 1, a, l => if n ≤ a then .inr a else if b a = 92 then (if b (a + 1) = -1 ∨ ¬ f_30 (b (a + 1)) = 0 then .inr (a + 1) else patS b n m (a + 2) l)
    else if ¬ f_30 (b a) = 0 then .inr a else if b a = 47 ∧ l = 0 then .inl a else patS b n m (a + 1) (if b a = 91 then 1 else if b a = 93 then 0 else l)
theorem patS_b {b : Nat → Int32} {n : Nat} (hB : BK b n) : ∀ m a l, a ≤ n → (∀ p, patS b n m a l = .inl p → a ≤ p ∧ p < n) ∧ ∀ p, patS b n m a l = .inr p → p ≤ n := by
  intro m
  induction m with
  | zero =>
    intro a l h
    rw [patS]
    exact ⟨fun p h9 => (by cases h9), fun p h9 => (by cases h9; exact h)⟩
  | succ m ih =>
    intro a l h
    rw [patS]
    by_cases h0 : n ≤ a
    · rw [if_pos h0]
      exact ⟨fun p h9 => (by cases h9), fun p h9 => (by cases h9; exact h)⟩
    · rw [if_neg h0]
      by_cases h1 : b a = 92
      · rw [if_pos h1]
        by_cases h2 : b (a + 1) = -1 ∨ ¬ f_30 (b (a + 1)) = 0
        · rw [if_pos h2]
          exact ⟨fun p h9 => (by cases h9), fun p h9 => (by cases h9; omega)⟩
        · rw [if_neg h2]
          have hl : a + 1 < n := by
            apply Nat.lt_of_not_le
            intro h9
            exact h2 (Or.inl (hB.2 _ h9))
          obtain ⟨k1, k2⟩ := ih (a + 2) l (by omega)
          exact ⟨fun p h9 => ⟨by have := k1 p h9; omega, (k1 p h9).2⟩, k2⟩
      · rw [if_neg h1]
        by_cases h2 : ¬ f_30 (b a) = 0
        · rw [if_pos h2]
          exact ⟨fun p h9 => (by cases h9), fun p h9 => (by cases h9; omega)⟩
        · rw [if_neg h2]
          by_cases h3 : b a = 47 ∧ l = 0
          · rw [if_pos h3]
            exact ⟨fun p h9 => (by cases h9; omega), fun p h9 => (by cases h9)⟩
          · rw [if_neg h3]
            obtain ⟨k1, k2⟩ := ih (a + 1) (if b a = 91 then 1 else if b a = 93 then 0 else l) (by omega)
            exact ⟨fun p h9 => ⟨by have := k1 p h9; omega, (k1 p h9).2⟩, k2⟩
theorem c96 {b : Nat → Int32} {n : Nat} (hB : BK b n) : ∀ (m : Nat) (C : CS) (a : Nat) (l : Int32), CK C b n → C.1 11 = nI a → a ≤ n → n < a + m →
    ∃ v C', b_96_2 m C l = some (v, C') ∧ fr [11, 12] [] C C' ∧ (∀ p, patS b n m a l = .inl p → v = 1 ∧ C'.1 11 = nI p) ∧ (∀ p, patS b n m a l = .inr p → v = 0 ∧ C'.1 12 = nI p) := by
  intro m
  induction m with
  | zero => intro C a l _ _ h h2; omega
  | succ m ih =>
    intro C a l hK ha h h2
    have hn := hK.2.1
    have f1 : fr [11, 12] [] C (ru C.1 11 (nI (a + 1)), C.2) := fr.r1 (by decide) fr.pr
    rw [b_96_2, patS, c19 hK, ha]
    by_cases h0 : n ≤ a
    · rw [if_pos (nI_le h0 (by omega)), if_pos h0, rf32]
      exact ⟨_, _, rfl, fr.r1 (by decide) fr.pr, fun p h9 => (by cases h9), fun p h9 => (by cases h9; exact ⟨rfl, rp⟩)⟩
    · rw [if_neg (nI_ge (by omega) (by omega)), if_neg h0, c28 hK (by omega), Option.bind_some]
      by_cases h1 : b a = 92
      · rw [if_neg (nn h1), if_pos h1]
        unfold b_96_39
        rw [if_neg (by decide : ¬ (1 : Int32) = 0), ha, nI_1, c28 (hK.fr f1) (by omega), Option.bind_some]
        unfold b_96_66 b_96_78
        by_cases h3 : b (a + 1) = -1
        · rw [if_pos h3, if_pos (show b (a + 1) = -1 ∨ ¬ f_30 (b (a + 1)) = 0 from Or.inl h3), rf32, rp]
          exact ⟨_, _, rfl, fr.r1 (by decide) f1, fun p h9 => (by cases h9), fun p h9 => (by cases h9; exact ⟨rfl, rp⟩)⟩
        · rw [if_neg h3]
          by_cases h4 : f_30 (b (a + 1)) = 0
          · have hl : a + 1 < n := by
              apply Nat.lt_of_not_le
              intro h9
              exact h3 (hB.2 _ h9)
            rw [if_pos h4, if_neg (show ¬ (b (a + 1) = -1 ∨ ¬ f_30 (b (a + 1)) = 0) from fun h9 => h9.elim h3 (fun h8 => h8 h4)), if_pos (by decide : ¬ (1 : Int32) = 0)]
            unfold b_96_103 b_96_131
            rw [if_pos (by decide : ¬ (1 : Int32) = 0), rp, nI_1]
            dsimp only
            rw [ru_ru]
            have f2 : fr [11, 12] [] C (ru C.1 11 (nI (a + 2)), C.2) := fr.r1 (by decide) fr.pr
            obtain ⟨v, C', k1, k2, k3, k4⟩ := ih (ru C.1 11 (nI (a + 2)), C.2) (a + 2) l (hK.fr f2) rp (by omega) (by omega)
            exact ⟨v, C', k1, f2.tr k2, k3, k4⟩
          · rw [if_neg h4, if_pos (show b (a + 1) = -1 ∨ ¬ f_30 (b (a + 1)) = 0 from Or.inr h4), rf32, rp]
            exact ⟨_, _, rfl, fr.r1 (by decide) f1, fun p h9 => (by cases h9), fun p h9 => (by cases h9; exact ⟨rfl, rp⟩)⟩
      · rw [if_pos h1, if_neg h1]
        unfold b_96_39
        rw [if_pos rfl]
        unfold b_96_66 b_96_78
        rw [if_neg (show ¬ b a = -1 from fun h9 => h0 (hB.m1.mp h9))]
        by_cases h4 : f_30 (b a) = 0
        · rw [if_pos h4, if_neg (nn h4), if_neg (nn (rfl : (0 : Int32) = 0))]
          have key : b_96_103 (b_96_2 m) C l (b a) 0 = b_96_2 m (ru C.1 11 (nI (a + 1)), C.2) (if b a = 91 then 1 else if b a = 93 then 0 else l) := by
            unfold b_96_103 b_96_119 b_96_130 b_96_131
            rw [if_neg (nn (rfl : (0 : Int32) = 0)), ha, nI_1]
            by_cases h5 : b a = 91
            · rw [if_pos h5, if_neg (nn h5), if_pos h5]
            · rw [if_neg h5, if_pos h5, if_neg h5]
              by_cases h6 : b a = 93
              · rw [if_neg (nn h6), if_pos h6]
              · rw [if_pos h6, if_neg h6]
          obtain ⟨v, C', k1, k2, k3, k4⟩ := ih (ru C.1 11 (nI (a + 1)), C.2) (a + 1) (if b a = 91 then 1 else if b a = 93 then 0 else l) (hK.fr f1) rp (by omega) (by omega)
          by_cases h5 : b a = 47
          · rw [if_neg (nn h5)]
            by_cases h6 : l = 0
            · rw [if_neg (nn h6), if_pos ⟨h5, h6⟩]
              exact ⟨_, _, rfl, fr.rf, fun p h9 => (by cases h9; exact ⟨rfl, ha⟩), fun p h9 => (by cases h9)⟩
            · rw [if_pos h6, if_neg (show ¬ (b a = 47 ∧ l = 0) from fun h9 => h6 h9.2), key]
              exact ⟨v, C', k1, f1.tr k2, k3, k4⟩
          · rw [if_pos h5, if_neg (show ¬ (b a = 47 ∧ l = 0) from fun h9 => h5 h9.1), key]
            exact ⟨v, C', k1, f1.tr k2, k3, k4⟩
        · rw [if_neg h4, if_pos h4, ha, rf32]
          exact ⟨_, _, rfl, fr.r1 (by decide) fr.pr, fun p h9 => (by cases h9), fun p h9 => (by cases h9; exact ⟨rfl, rp⟩)⟩
def ptS (b : Nat → Int32) (n s : Nat) : Nat ⊕ Nat := match patS b n fu (s + 1) 0 with
  | .inr p => .inr p
  | .inl p => if b (whS qf b fu (p + 1)) = 92 then .inr (whS qf b fu (p + 1)) else .inl (whS qf b fu (p + 1))
theorem ptS_b {b : Nat → Int32} {n s : Nat} (hB : BK b n) (h : s < n) : (∀ e, ptS b n s = .inl e → s ≤ e ∧ e ≤ n) ∧ ∀ p, ptS b n s = .inr p → p ≤ n := by
  have hp := patS_b hB fu (s + 1) 0 (by omega)
  unfold ptS
  cases hx : patS b n fu (s + 1) 0 with
  | inr p => exact ⟨fun e h9 => (by cases h9), fun q h9 => (by cases h9; exact hp.2 p hx)⟩
  | inl p =>
    have h1 := hp.1 p hx
    have hw := whS_b (q := qf) hB (by decide) fu (p + 1) (by omega)
    dsimp only
    by_cases h2 : b (whS qf b fu (p + 1)) = 92
    · rw [if_pos h2]
      exact ⟨fun e h9 => (by cases h9), fun q h9 => (by cases h9; exact hw.2)⟩
    · rw [if_neg h2]
      exact ⟨fun e h9 => (by cases h9; omega), fun q h9 => (by cases h9)⟩
theorem c97 {b : Nat → Int32} {n : Nat} (hB : BK b n) {C : CS} {s : Nat} (hK : CK C b n) (hs : C.1 4 = nI s) (h : s < n) (hU : UR (C.2 1) (C.1 10) []) :
    ∃ v C', f_97 C = some (v, C') ∧ fr [3, 5, 9, 10, 11, 12] [1] C C' ∧ (∀ e, ptS b n s = .inl e → v = 1 ∧ C'.1 3 = 5 ∧ C'.1 9 = 0 ∧ C'.1 11 = nI e ∧ C'.1 5 = nI e ∧ UR (C'.2 1) (C'.1 10) (tkS b (e - s) s [])) ∧ (∀ p, ptS b n s = .inr p → v = 0 ∧ C'.1 12 = nI p) := by
  have hn := hK.2.1
  have f1 : fr [3, 5, 9, 10, 11, 12] [1] C (ru (ru (ru C.1 3 5) 9 0) 11 (nI (s + 1)), C.2) := fr.r1 (by decide) (fr.r1 (by decide) (fr.r1 (by decide) fr.pr))
  obtain ⟨v, C1, k1, k2, k3, k4⟩ := c96 hB fu (ru (ru (ru C.1 3 5) 9 0) 11 (nI (s + 1)), C.2) (s + 1) 0 (hK.fr f1) rp (by omega) (by rw [fu_e]; omega)
  have hp := patS_b hB fu (s + 1) 0 (by omega)
  have f2 : fr [3, 5, 9, 10, 11, 12] [1] C C1 := f1.tr (k2.w (by decide) (by decide))
  have h3 : C1.1 3 = 5 := (k2.1 3 (by decide)).trans ((rq (by decide)).trans ((ru_ne _ _ (by decide)).trans (ru_eq _ _ _)))
  have h9' : C1.1 9 = 0 := (k2.1 9 (by decide)).trans ((rq (by decide)).trans (ru_eq _ _ _))
  have h4 : C1.1 4 = nI s := (f2.1 4 (by decide)).trans hs
  have hU1 : UR (C1.2 1) (C1.1 10) [] := by
    rw [k2.1 10 (by decide), k2.2 1 (by decide), rq (by decide), ru_ne _ _ (by decide), ru_ne _ _ (by decide)]
    exact hU
  unfold f_97 f_96 ptS
  rw [hs, nI_1, k1, Option.bind_some]
  dsimp only
  cases hx : patS b n fu (s + 1) 0 with
  | inr p =>
    obtain ⟨rfl, g⟩ := k4 p hx
    rw [if_neg (nn rfl)]
    exact ⟨_, _, rfl, f2, fun e h9 => (by cases h9), fun q h9 => (by cases h9; exact ⟨rfl, g⟩)⟩
  | inl p =>
    obtain ⟨rfl, g⟩ := k3 p hx
    have hp1 := hp.1 p hx
    have hw := whS_b (q := qf) hB (by decide) fu (p + 1) (by omega)
    have f3 : fr [3, 5, 9, 10, 11, 12] [1] C (ru C1.1 11 (nI (p + 1)), C1.2) := f2.tr (fr.r1 (by decide) fr.pr)
    rw [if_pos (by decide : ¬ (1 : Int32) = 0), g, nI_1, c97f hB fu (ru C1.1 11 (nI (p + 1)), C1.2) (p + 1) (hK.fr f3) rp (by omega) (by rw [fu_e]; omega)]
    dsimp only
    rw [ru_ru]
    generalize whS qf b fu (p + 1) = e at hw ⊢
    have f4 : fr [3, 5, 9, 10, 11, 12] [1] C (ru C1.1 11 (nI e), C1.2) := f2.tr (fr.r1 (by decide) fr.pr)
    have hK4 := hK.fr f4
    unfold b_97_92
    rw [rp, c28 hK4 (by omega), Option.bind_some]
    by_cases h5 : b e = 92
    · rw [if_neg (nn h5), if_pos h5, rf32]
      exact ⟨_, _, rfl, f4.tr (fr.r1 (by decide) fr.pr), fun e h9 => (by cases h9), fun q h9 => (by cases h9; exact ⟨rfl, rp⟩)⟩
    · rw [if_pos h5, if_neg h5]
      have hU4 : UR ((ru C1.1 11 (nI e), C1.2).2 1) ((ru C1.1 11 (nI e), C1.2).1 10) [] := by
        rw [rq (by decide)]
        exact hU1
      obtain ⟨C5, j1, j2, j3⟩ := c50 (b := b) (n := n) (e - s) fu (ru C1.1 11 (nI e), C1.2) s e [] hK4 rp hw.2 (by omega) (by rw [fu_e]; omega) hU4 (Nat.zero_le _)
      unfold f_50
      rw [show (ru C1.1 11 (nI e), C1.2).1 4 = nI s from (rq (by decide)).trans h4, j1, Option.bind_some]
      have g11 : C5.1 11 = nI e := (j2.1 11 (by decide)).trans rp
      refine ⟨_, _, rfl, f4.tr (fr.r1 (by decide) (fr.tr (j2.w (by decide) (by decide)) fr.pr)), ?_, fun q h9 => (by cases h9)⟩
      intro e' h9
      cases h9
      refine ⟨rfl, ?_, ?_, ?_, ?_, ?_⟩
      · exact (rq (by decide)).trans ((j2.1 3 (by decide)).trans ((rq (by decide)).trans h3))
      · exact (rq (by decide)).trans ((j2.1 9 (by decide)).trans ((rq (by decide)).trans h9'))
      · exact (rq (by decide)).trans g11
      · exact rp.trans g11
      · rw [rq (by decide)]
        exact j3
