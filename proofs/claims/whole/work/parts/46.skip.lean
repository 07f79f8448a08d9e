/-! blanks, line ends, comments -/
theorem nn {P : Prop} (h : P) : ¬ ¬ P := fun k => k h
theorem whS_s {q : Int32 → Bool} {b : Nat → Int32} {n : Nat} (hB : BK b n) (hq : q (-1) = false) : ∀ m m' a, a ≤ n → n < a + m → n < a + m' → whS q b m a = whS q b m' a := by
  intro m
  induction m with
  | zero => intro m' a h h1; omega
  | succ m ih =>
    intro m' a h h1 h2
    cases m' with
    | zero => omega
    | succ m' =>
      rw [whS, whS]
      by_cases hc : q (b a) = true
      · have : a < n := by
          apply Nat.lt_of_not_le
          intro h9
          rw [hB.2 a h9, hq] at hc
          cases hc
        rw [if_pos hc, if_pos hc]
        exact ih m' (a + 1) (by omega) (by omega) (by omega)
      · rw [if_neg hc, if_neg hc]
theorem whS_1 {q : Int32 → Bool} {b : Nat → Int32} {n m a : Nat} (hB : BK b n) (hq : q (-1) = false) (hc : q (b a) = true) (h : n < a + m) : a < n ∧ whS q b m a = whS q b m (a + 1) ∧ a + 1 ≤ whS q b m a := by
  have hlt : a < n := by
    apply Nat.lt_of_not_le
    intro h9
    rw [hB.2 a h9, hq] at hc
    cases hc
  cases m with
  | zero => omega
  | succ m =>
    have e : whS q b (m + 1) a = whS q b (m + 1) (a + 1) := by
      rw [whS, if_pos hc]
      exact whS_s hB hq m (m + 1) (a + 1) (by omega) (by omega) (by omega)
    refine ⟨hlt, e, ?_⟩
    rw [e]
    exact (whS_b hB hq _ _ (by omega)).1
theorem fu_e : fu = 5000 := rfl
theorem rf32 (C : CS) (p : Int32) : ((f_32 C p).bind fun r => if r.1 = 0 ∨ r.1 = 1 then some (r.1, r.2) else none) = some (0, (ru C.1 12 p, C.2)) := by
  unfold f_32
  rfl
def bcS (b : Nat → Int32) (n : Nat) : Nat → Nat → Int32 → Option (Nat × Int32)
  | 0, _, _ => none
  | m + 1, a, ln => if n ≤ a then none else if b a = 42 ∧ b (a + 1) = 47 then some (a + 2, ln) else bcS b n m (a + 1) (if f_30 (b a) = 0 then ln else 1)
theorem bcS_b {b : Nat → Int32} {n : Nat} (hB : BK b n) : ∀ m a ln p, bcS b n m a ln = some p → a + 2 ≤ p.1 ∧ p.1 ≤ n ∧ (p.2 = ln ∨ p.2 = 1) := by
  intro m
  induction m with
  | zero => intro a ln p h; cases h
  | succ m ih =>
    intro a ln p h
    rw [bcS] at h
    by_cases h1 : n ≤ a
    · rw [if_pos h1] at h; cases h
    · rw [if_neg h1] at h
      by_cases h2 : b a = 42 ∧ b (a + 1) = 47
      · rw [if_pos h2] at h
        cases h
        have : a + 1 < n := by
          apply Nat.lt_of_not_le
          intro h9
          have := h2.2
          rw [hB.2 _ h9] at this
          exact absurd this (by decide)
        exact ⟨Nat.le_refl _, by omega, Or.inl rfl⟩
      · rw [if_neg h2] at h
        have := ih _ _ _ h
        refine ⟨by omega, this.2.1, ?_⟩
        by_cases h3 : f_30 (b a) = 0
        · rw [if_pos h3] at this; exact this.2.2
        · rw [if_neg h3] at this
          rcases this.2.2 with h4 | h4 <;> exact Or.inr h4
theorem c33 {b : Nat → Int32} {n : Nat} : ∀ (m : Nat) (C : CS) (a : Nat), CK C b n → C.1 11 = nI a → a ≤ n → n < a + m →
    ∃ v C', b_33_10 m C = some (v, C') ∧ fr [6, 11, 12] [] C C' ∧ (∀ p, bcS b n m a (C.1 6) = some p → v = 1 ∧ C'.1 11 = nI p.1 ∧ C'.1 6 = p.2) ∧ (bcS b n m a (C.1 6) = none → v = 0 ∧ C'.1 12 = nI n) := by
  intro m
  induction m with
  | zero => intro C a _ _ h h2; omega
  | succ m ih =>
    intro C a hK ha h h2
    have hn := hK.2.1
    rw [b_33_10, bcS, c19 hK, ha]
    by_cases hle : n ≤ a
    · rw [if_pos (nI_le hle (by omega)), if_pos hle, rf32]
      have : a = n := by omega
      subst this
      exact ⟨_, _, rfl, fr.r1 (by decide) fr.pr, fun p h9 => (by cases h9), fun _ => ⟨rfl, rp⟩⟩
    · have hlt : a < n := by omega
      rw [if_neg (nI_ge hlt (by omega)), if_neg hle, c28 hK (by omega), Option.bind_some, nI_1, c28 hK (by omega), Option.bind_some]
      have key : ¬ (b a = 42 ∧ b (a + 1) = 47) → ∃ v C', b_33_72 (b_33_10 m) C (b a) = some (v, C') ∧ fr [6, 11, 12] [] C C' ∧ (∀ p, bcS b n m (a + 1) (if f_30 (b a) = 0 then C.1 6 else 1) = some p → v = 1 ∧ C'.1 11 = nI p.1 ∧ C'.1 6 = p.2) ∧ (bcS b n m (a + 1) (if f_30 (b a) = 0 then C.1 6 else 1) = none → v = 0 ∧ C'.1 12 = nI n) := by
        intro _
        unfold b_33_72 b_33_87
        by_cases h3 : f_30 (b a) = 0
        · rw [if_pos h3, if_pos h3, ha, nI_1]
          have f1 : fr [6, 11, 12] [] C (ru C.1 11 (nI (a + 1)), C.2) := fr.r1 (by decide) fr.pr
          obtain ⟨v, C', e1, e2, e3, e4⟩ := ih (ru C.1 11 (nI (a + 1)), C.2) (a + 1) (hK.fr f1) rp (by omega) (by omega)
          rw [rq (by decide)] at e3 e4
          exact ⟨v, C', e1, f1.tr e2, e3, e4⟩
        · rw [if_neg h3, if_neg h3]
          dsimp only
          rw [ru_ne _ _ (by decide), ha, nI_1]
          have f1 : fr [6, 11, 12] [] C (ru (ru C.1 6 1) 11 (nI (a + 1)), C.2) := fr.r1 (by decide) (fr.r1 (by decide) fr.pr)
          obtain ⟨v, C', e1, e2, e3, e4⟩ := ih (ru (ru C.1 6 1) 11 (nI (a + 1)), C.2) (a + 1) (hK.fr f1) rp (by omega) (by omega)
          rw [rq (by decide), ru_eq] at e3 e4
          exact ⟨v, C', e1, f1.tr e2, e3, e4⟩
      by_cases h2 : b a = 42 ∧ b (a + 1) = 47
      · rw [if_pos h2, if_neg (nn h2.1), if_neg (nn h2.2), nI_2]
        refine ⟨_, _, rfl, fr.r1 (by decide) fr.pr, fun p h9 => ?_, fun h9 => (by cases h9)⟩
        cases h9
        exact ⟨rfl, rp, rq (by decide)⟩
      · rw [if_neg h2]
        by_cases h4 : b a = 42
        · rw [if_neg (nn h4), if_pos (fun h9 => h2 ⟨h4, h9⟩)]
          exact key h2
        · rw [if_pos h4]
          exact key h2
def skS (b : Nat → Int32) (n : Nat) : Nat → Nat → Int32 → Option (Nat × Int32)
  | 0, a, ln => some (a, ln)
  | m + 1, a, ln => if ¬ f_29 (b a) = 0 then skS b n m (a + 1) ln else if ¬ f_30 (b a) = 0 then skS b n m (a + 1) 1
    else if b a = 47 ∧ b (a + 1) = 47 then skS b n m (whS ql b fu a) ln else if b a = 47 ∧ b (a + 1) = 42 then (bcS b n fu (a + 2) ln).bind (fun p => skS b n m p.1 p.2) else some (a, ln)
theorem lt_of29 {b : Nat → Int32} {n a : Nat} (hB : BK b n) (h : ¬ f_29 (b a) = 0) : a < n := by
  apply Nat.lt_of_not_le
  intro h9
  rw [hB.2 a h9] at h
  exact h z29
theorem lt_of30 {b : Nat → Int32} {n a : Nat} (hB : BK b n) (h : ¬ f_30 (b a) = 0) : a < n := by
  apply Nat.lt_of_not_le
  intro h9
  rw [hB.2 a h9] at h
  exact h z30
theorem lt_of {b : Nat → Int32} {n a : Nat} {c : Int32} (hB : BK b n) (h : b a = c) (hc : ¬ c = -1 := by decide) : a < n := by
  apply Nat.lt_of_not_le
  intro h9
  rw [hB.2 a h9] at h
  exact hc h.symm
theorem c34 {b : Nat → Int32} {n : Nat} (hB : BK b n) : ∀ (m : Nat) (C : CS) (r a : Nat), CK C b n → C.1 11 = nI a → r ≤ a → a ≤ n → n < r + m →
    ∃ v C', b_34_2 m C (nI r) = some (v, C') ∧ fr [6, 11, 12] [] C C' ∧ (∀ p, skS b n m a (C.1 6) = some p → v = 1 ∧ C'.1 11 = nI p.1 ∧ C'.1 6 = p.2) ∧ (skS b n m a (C.1 6) = none → v = 0 ∧ C'.1 12 = nI n) := by
  intro m
  induction m with
  | zero => intro C r a _ _ h h2; omega
  | succ m ih =>
    intro C r a hK ha hr h h2
    have hn := hK.2.1
    rw [b_34_2, skS, c19 hK, ha]
    by_cases hle : n ≤ r
    · have e : a = n := by omega
      rw [if_pos (nI_le hle (by omega)), hB.2 a (by omega)]
      simp only [z29, z30, not_true_eq_false, if_false]
      rw [if_neg (by rintro ⟨h9, -⟩; exact absurd h9 (by decide)), if_neg (by rintro ⟨h9, -⟩; exact absurd h9 (by decide))]
      refine ⟨_, _, rfl, fr.rf, fun p h9 => ?_, fun h9 => (by cases h9)⟩
      cases h9
      exact ⟨rfl, ha, rfl⟩
    · rw [if_neg (nI_ge (by omega) (by omega)), c28 hK (by omega), Option.bind_some, nI_1, c28 hK (by omega), Option.bind_some]
      unfold b_34_106 b_34_129
      by_cases h9 : f_29 (b a) = 0
      · rw [if_pos h9, if_neg (nn h9)]
        by_cases h0 : f_30 (b a) = 0
        · rw [if_pos h0, if_neg (nn h0)]
          by_cases h7 : b a = 47
          · rw [if_neg (nn h7), if_neg (nn h7)]
            by_cases hL : b (a + 1) = 47
            · rw [if_neg (nn hL), if_pos ⟨h7, hL⟩]
              unfold f_31
              rw [c31 hB fu C a hK ha h (by rw [fu_e]; omega), Option.bind_some]
              have hq : ql (b a) = true := by rw [h7]; decide
              have w1 := whS_1 (q := ql) (m := fu) hB (by decide) hq (by rw [fu_e]; omega)
              have w2 := whS_b (q := ql) hB (by decide) fu a h
              have f1 : fr [6, 11, 12] [] C (ru C.1 11 (nI (whS ql b fu a)), C.2) := fr.r1 (by decide) fr.pr
              obtain ⟨v, C', e1, e2, e3, e4⟩ := ih (ru C.1 11 (nI (whS ql b fu a)), C.2) (r + 1) (whS ql b fu a) (hK.fr f1) rp (by omega) w2.2 (by omega)
              rw [rq (by decide)] at e3 e4
              rw [nI_1]
              exact ⟨v, C', e1, f1.tr e2, e3, e4⟩
            · have hn1 : ¬ (b a = 47 ∧ b (a + 1) = 47) := fun h => hL h.2
              rw [if_pos hL, if_neg hn1]
              by_cases hS : b (a + 1) = 42
              · rw [if_neg (nn hS), if_pos ⟨h7, hS⟩]
                unfold f_33
                rw [ha, nI_2]
                have f0 : fr [6, 11, 12] [] C (ru C.1 11 (nI (a + 2)), C.2) := fr.r1 (by decide) fr.pr
                have hl1 := lt_of hB hS
                obtain ⟨v, C', e1, e2, e3, e4⟩ := c33 fu (ru C.1 11 (nI (a + 2)), C.2) (a + 2) (hK.fr f0) rp (by omega) (by rw [fu_e]; omega)
                rw [rq (by decide)] at e3 e4
                rw [e1, Option.bind_some]
                dsimp only
                cases hb : bcS b n fu (a + 2) (C.1 6) with
                | none =>
                  obtain ⟨rfl, g⟩ := e4 hb
                  rw [if_neg (nn rfl)]
                  exact ⟨_, _, rfl, f0.tr e2, fun p h9 => (by cases h9), fun _ => ⟨rfl, g⟩⟩
                | some p =>
                  obtain ⟨rfl, g1, g2⟩ := e3 p hb
                  have bb := bcS_b hB _ _ _ _ hb
                  rw [if_pos (by decide), Option.bind_some, nI_1]
                  obtain ⟨v, C2, k1, k2, k3, k4⟩ := ih C' (r + 1) p.1 (hK.fr (f0.tr e2)) g1 (by omega) bb.2.1 (by omega)
                  rw [g2] at k3 k4
                  exact ⟨v, C2, k1, (f0.tr e2).tr k2, k3, k4⟩
              · have hn2 : ¬ (b a = 47 ∧ b (a + 1) = 42) := fun h => hS h.2
                rw [if_pos hS, if_neg hn2]
                refine ⟨_, _, rfl, fr.rf, fun p h9 => ?_, fun h9 => (by cases h9)⟩
                cases h9
                exact ⟨rfl, ha, rfl⟩
          · have hn1 : ¬ (b a = 47 ∧ b (a + 1) = 47) := fun h => h7 h.1
            have hn2 : ¬ (b a = 47 ∧ b (a + 1) = 42) := fun h => h7 h.1
            rw [if_pos h7, if_pos h7, if_neg hn1, if_neg hn2]
            refine ⟨_, _, rfl, fr.rf, fun p h9 => ?_, fun h9 => (by cases h9)⟩
            cases h9
            exact ⟨rfl, ha, rfl⟩
        · have hlt := lt_of30 hB h0
          rw [if_neg h0, if_pos h0, nI_1]
          have f1 : fr [6, 11, 12] [] C (ru (ru C.1 6 1) 11 (nI (a + 1)), C.2) := fr.r1 (by decide) (fr.r1 (by decide) fr.pr)
          obtain ⟨v, C', e1, e2, e3, e4⟩ := ih (ru (ru C.1 6 1) 11 (nI (a + 1)), C.2) (r + 1) (a + 1) (hK.fr f1) rp (by omega) (by omega) (by omega)
          rw [rq (by decide), ru_eq] at e3 e4
          exact ⟨v, C', e1, f1.tr e2, e3, e4⟩
      · have hlt := lt_of29 hB h9
        rw [if_neg h9, if_pos h9, nI_1]
        have f1 : fr [6, 11, 12] [] C (ru C.1 11 (nI (a + 1)), C.2) := fr.r1 (by decide) fr.pr
        obtain ⟨v, C', e1, e2, e3, e4⟩ := ih (ru C.1 11 (nI (a + 1)), C.2) (r + 1) (a + 1) (hK.fr f1) rp (by omega) (by omega) (by omega)
        rw [rq (by decide)] at e3 e4
        exact ⟨v, C', e1, f1.tr e2, e3, e4⟩
