/-! numbers -/
/-- bytes as units -/
def tkS (b : Nat → Int32) : Nat → Nat → List Int32 → List Int32
  | 0, _, u => u
  | d + 1, k, u => tkS b d (k + 1) (u ++ [b k])
theorem tkS_l (b : Nat → Int32) : ∀ d k u, (tkS b d k u).length = u.length + d := by
  intro d
  induction d with
  | zero => intro k u; rfl
  | succ d ih => intro k u; rw [tkS, ih]; simp; omega
theorem c50 {b : Nat → Int32} {n : Nat} : ∀ (d m : Nat) (C : CS) (k e : Nat) (u : List Int32), CK C b n → C.1 11 = nI e → e ≤ n → k + d = e → d < m → UR (C.2 1) (C.1 10) u → u.length ≤ k → ∃ C', b_50_8 m C (nI k) = some C' ∧ fr [10] [1] C C' ∧ UR (C'.2 1) (C'.1 10) (tkS b d k u) := by
  intro d
  induction d with
  | zero =>
    intro m C k e u hK he hn hk hm hU hu
    have hn2 := hK.2.1
    cases m with
    | zero => omega
    | succ m =>
      rw [b_50_8, he, if_pos (nI_le (by omega) (by omega))]
      exact ⟨C, rfl, fr.rf, hU⟩
  | succ d ih =>
    intro m C k e u hK he hn hk hm hU hu
    have hn2 := hK.2.1
    cases m with
    | zero => omega
    | succ m =>
      obtain ⟨C1, k1, k2, k3⟩ := c40 (b k) hU (by omega)
      rw [b_50_8, he, if_neg (nI_ge (by omega) (by omega)), c28 hK (by omega), Option.bind_some, k1, Option.bind_some, nI_1]
      obtain ⟨C2, j1, j2, j3⟩ := ih m C1 (k + 1) e (u ++ [b k]) (hK.fr k2) ((k2.1 11 (by decide)).trans he) hn (by omega) (by omega) k3 (by simp; omega)
      exact ⟨C2, j1, k2.tr j2, j3⟩
theorem m84t {b : Nat → Int32} {n : Nat} : ∀ (d m : Nat) (M : CS) (k e : Nat) (u : List Int32), MK M b n → M.1 5 = nI e → e ≤ n → k + d = e → d < m → UR (M.2 1) (M.1 12) u → u.length ≤ k → ∃ M', b_84_165 m M (nI k) = some M' ∧ fr [12] [1] M M' ∧ UR (M'.2 1) (M'.1 12) (tkS b d k u) := by
  intro d
  induction d with
  | zero =>
    intro m M k e u hK he hn hk hm hU hu
    have hn2 := hK.2.1
    cases m with
    | zero => omega
    | succ m =>
      rw [b_84_165, he, if_pos (nI_le (by omega) (by omega))]
      exact ⟨M, rfl, fr.rf, hU⟩
  | succ d ih =>
    intro m M k e u hK he hn hk hm hU hu
    have hn2 := hK.2.1
    cases m with
    | zero => omega
    | succ m =>
      obtain ⟨M1, k1, k2, k3⟩ := m77 (b k) hU (by omega)
      have hb : M.2 0 k = b k := by rw [hK.2.2 k, if_pos (by omega)]
      rw [b_84_165, he, if_neg (nI_ge (by omega) (by omega)), if_pos (mv_in_nI (show k < 2000 by omega) (by decide)), nI_clamp (by omega), hb, k1, Option.bind_some, nI_1]
      obtain ⟨M2, j1, j2, j3⟩ := ih m M1 (k + 1) e (u ++ [b k]) (hK.fr k2) ((k2.1 5 (by decide)).trans he) hn (by omega) (by omega) k3 (by simp; omega)
      exact ⟨M2, j1, k2.tr j2, j3⟩
/-- an exponent, if there is one -/
def exS (b : Nat → Int32) (a : Nat) : Nat ⊕ Nat := if b a = 101 ∨ b a = 69 then (if f_38 (b (if b (a + 1) = 43 ∨ b (a + 1) = 45 then a + 2 else a + 1)) = 0 then .inr (if b (a + 1) = 43 ∨ b (a + 1) = 45 then a + 2 else a + 1) else .inl (whS qd b fu (if b (a + 1) = 43 ∨ b (a + 1) = 45 then a + 2 else a + 1))) else .inl a
def p1S (b : Nat → Int32) (a : Nat) : Nat := if b a = 48 then a + 1 else whS qd b fu a
def p2S (b : Nat → Int32) (a : Nat) : Nat := if b (p1S b a) = 46 then whS qd b fu (p1S b a + 1) else p1S b a
def hexS (b : Nat → Int32) (a : Nat) : Prop := b a = 48 ∧ (b (a + 1) = 120 ∨ b (a + 1) = 88)
theorem p1S_b {b : Nat → Int32} {n a : Nat} (hB : BK b n) (h : a ≤ n) : a ≤ p1S b a ∧ p1S b a ≤ n := by
  unfold p1S
  by_cases h1 : b a = 48
  · have := lt_of hB h1
    rw [if_pos h1]; omega
  · rw [if_neg h1]; exact whS_b hB (by decide) _ _ h
theorem p2S_b {b : Nat → Int32} {n a : Nat} (hB : BK b n) (h : a ≤ n) : a ≤ p2S b a ∧ p2S b a ≤ n := by
  unfold p2S
  have h1 := p1S_b hB h
  by_cases h2 : b (p1S b a) = 46
  · have := lt_of hB h2
    have := whS_b (q := qd) hB (by decide) fu (p1S b a + 1) (by omega)
    rw [if_pos h2]; omega
  · rw [if_neg h2]; exact h1
theorem exS_b {b : Nat → Int32} {n a : Nat} (hB : BK b n) (h : a ≤ n) : (∀ e, exS b a = .inl e → a ≤ e ∧ e ≤ n) ∧ ∀ p, exS b a = .inr p → a ≤ p ∧ p ≤ n := by
  unfold exS
  by_cases h1 : b a = 101 ∨ b a = 69
  · rw [if_pos h1]
    have hl : a < n := by rcases h1 with h1 | h1 <;> exact lt_of hB h1
    have h4 : a ≤ (if b (a + 1) = 43 ∨ b (a + 1) = 45 then a + 2 else a + 1) ∧ (if b (a + 1) = 43 ∨ b (a + 1) = 45 then a + 2 else a + 1) ≤ n := by
      by_cases h2 : b (a + 1) = 43 ∨ b (a + 1) = 45
      · have : a + 1 < n := by rcases h2 with h2 | h2 <;> exact lt_of hB h2
        rw [if_pos h2]; omega
      · rw [if_neg h2]; omega
    generalize (if b (a + 1) = 43 ∨ b (a + 1) = 45 then a + 2 else a + 1) = x at h4 ⊢
    by_cases h3 : f_38 (b x) = 0
    · rw [if_pos h3]
      exact ⟨fun e h => (by cases h), fun p h => (by cases h; exact h4)⟩
    · rw [if_neg h3]
      have := whS_b (q := qd) hB (by decide) fu x h4.2
      exact ⟨fun e h => (by cases h; omega), fun p h => (by cases h)⟩
  · rw [if_neg h1]
    exact ⟨fun e h9 => (by cases h9; exact ⟨Nat.le_refl _, h⟩), fun p h => (by cases h)⟩
def cN (C : CS) : Nat ⊕ Nat → Option (Int32 × CS)
  | .inl e => some (1, (ru C.1 11 (nI e), C.2))
  | .inr p => some (0, (ru (ru C.1 11 (nI p)) 12 (nI p), C.2))
theorem cN_r (C : CS) (x : Int32) (r : Nat ⊕ Nat) : cN (ru C.1 11 x, C.2) r = cN C r := by
  cases r with
  | inl e => unfold cN; dsimp only; rw [ru_ru]
  | inr p => unfold cN; dsimp only; rw [ru_ru]
theorem cN_1 (C : CS) (r : Nat ⊕ Nat) : ((cN C r).bind fun r => if r.1 = 0 ∨ r.1 = 1 then some (r.1, r.2) else none) = cN C r := by
  cases r with
  | inl e => rfl
  | inr p => rfl
theorem c48 {b : Nat → Int32} {n : Nat} (hB : BK b n) {C : CS} {a : Nat} (hK : CK C b n) (ha : C.1 11 = nI a) (h : a ≤ n) : f_48 C = cN C (exS b a) := by
  have hn := hK.2.1
  unfold f_48 exS b_48_26 b_48_60
  rw [ha, c28 hK (by omega), Option.bind_some, nI_1]
  have f1 : fr [11] [] C (ru C.1 11 (nI (a + 1)), C.2) := fr.r1 (by decide) fr.pr
  -- behind the sign
  have k70 : ∀ x, x ≤ n → b_48_70 (ru C.1 11 (nI x), C.2) = cN C (if f_38 (b x) = 0 then .inr x else .inl (whS qd b fu x)) := by
    intro x hx
    have f2 : fr [11] [] C (ru C.1 11 (nI x), C.2) := fr.r1 (by decide) fr.pr
    unfold b_48_70
    rw [rp, c28 (hK.fr f2) (by omega), Option.bind_some]
    by_cases h3 : f_38 (b x) = 0
    · rw [if_neg (nn h3), if_pos h3, rf32]
      rfl
    · rw [if_pos h3, if_neg h3]
      unfold f_47
      rw [c47 hB fu _ x (hK.fr f2) rp hx (by rw [fu_e]; omega), Option.bind_some]
      unfold cN
      dsimp only
      rw [ru_ru]
  have main : ∀ (hl : a < n), ((f_28 (ru C.1 11 (nI (a + 1)), C.2) (nI (a + 1))).bind fun r => if r = 43 then b_48_70 (ru (ru C.1 11 (nI (a + 1))) 11 ((ru C.1 11 (nI (a + 1))) 11 + 1), C.2) else (if ¬ r = 45 then b_48_70 (ru C.1 11 (nI (a + 1)), C.2) else b_48_70 (ru (ru C.1 11 (nI (a + 1))) 11 ((ru C.1 11 (nI (a + 1))) 11 + 1), C.2))) =
      cN C (if f_38 (b (if b (a + 1) = 43 ∨ b (a + 1) = 45 then a + 2 else a + 1)) = 0 then .inr (if b (a + 1) = 43 ∨ b (a + 1) = 45 then a + 2 else a + 1) else .inl (whS qd b fu (if b (a + 1) = 43 ∨ b (a + 1) = 45 then a + 2 else a + 1))) := by
    intro hl
    rw [c28 (hK.fr f1) (by omega), Option.bind_some, ru_eq, nI_1, ru_ru]
    by_cases h2 : b (a + 1) = 43
    · have := lt_of hB h2
      rw [if_pos h2, if_pos (Or.inl h2)]
      exact k70 (a + 2) (by omega)
    · rw [if_neg h2]
      by_cases h3 : b (a + 1) = 45
      · have := lt_of hB h3
        rw [if_neg (nn h3), if_pos (Or.inr h3)]
        exact k70 (a + 2) (by omega)
      · have h4 : ¬ (b (a + 1) = 43 ∨ b (a + 1) = 45) := by
          rintro (h | h)
          · exact h2 h
          · exact h3 h
        rw [if_pos h3, if_neg h4]
        exact k70 (a + 1) (by omega)
  by_cases h1 : b a = 101
  · rw [if_pos h1, if_pos (Or.inl h1)]
    exact main (lt_of hB h1)
  · rw [if_neg h1]
    by_cases h2 : b a = 69
    · rw [if_pos h2, if_pos (Or.inr h2)]
      exact main (lt_of hB h2)
    · have h4 : ¬ (b a = 101 ∨ b a = 69) := by
        rintro (h | h)
        · exact h1 h
        · exact h2 h
      rw [if_neg h2, if_neg h4]
      unfold cN
      dsimp only
      rw [ru_id ha]
theorem c49 {b : Nat → Int32} {n : Nat} (hB : BK b n) {C : CS} {a : Nat} (hK : CK C b n) (ha : C.1 11 = nI a) (h : a ≤ n) : f_49 C = cN C (exS b (p2S b a)) := by
  have hn := hK.2.1
  have fx : ∀ x, fr [11] [] C (ru C.1 11 (nI x), C.2) := fun x => fr.r1 (by decide) fr.pr
  have k63 : ∀ x, x ≤ n → b_49_63 (ru C.1 11 (nI x), C.2) = cN C (exS b x) := by
    intro x hx
    unfold b_49_63
    rw [c48 hB (hK.fr (fx x)) rp hx, cN_1, cN_r]
  have k33 : ∀ x, x ≤ n → b_49_33 (ru C.1 11 (nI x), C.2) = cN C (exS b (if b x = 46 then whS qd b fu (x + 1) else x)) := by
    intro x hx
    unfold b_49_33
    rw [rp, c28 (hK.fr (fx x)) (by omega), Option.bind_some]
    by_cases h1 : b x = 46
    · have hl := lt_of hB h1
      rw [if_neg (nn h1), if_pos h1, nI_1]
      dsimp only
      rw [ru_ru]
      unfold f_47
      rw [c47 hB fu _ (x + 1) (hK.fr (fx (x + 1))) rp (by omega) (by rw [fu_e]; omega), Option.bind_some]
      dsimp only
      rw [ru_ru]
      exact k63 _ (whS_b hB (by decide) _ _ (by omega)).2
    · rw [if_pos h1, if_neg h1]
      exact k63 x hx
  unfold f_49 p2S p1S
  rw [ha, c28 hK (by omega), Option.bind_some]
  by_cases h1 : b a = 48
  · have hl := lt_of hB h1
    rw [if_neg (nn h1), if_pos h1, nI_1]
    exact k33 (a + 1) (by omega)
  · rw [if_pos h1, if_neg h1]
    unfold f_47
    rw [c47 hB fu C a hK ha h (by rw [fu_e]; omega), Option.bind_some]
    exact k33 _ (whS_b hB (by decide) _ _ h).2
/-- a number from a on: where it ends, or where it fails -/
def nuS (b : Nat → Int32) (a : Nat) : Nat ⊕ Nat :=
  match (if b a = 48 ∧ (b (a + 1) = 120 ∨ b (a + 1) = 88) then (if f_36 (b (a + 2)) = -1 then .inr (a + 2) else .inl (whS qh b fu (a + 2))) else exS b (p2S b a) : Nat ⊕ Nat) with
  | .inr p => .inr p
  | .inl e => if f_39 (b e) = 0 ∧ ¬ b e = 92 then .inl e else .inr e
theorem nuS_b {b : Nat → Int32} {n a : Nat} (hB : BK b n) (h : a ≤ n) : (∀ e, nuS b a = .inl e → a ≤ e ∧ e ≤ n) ∧ ∀ p, nuS b a = .inr p → p ≤ n := by
  have key : ∀ r : Nat ⊕ Nat, (∀ e, r = .inl e → a ≤ e ∧ e ≤ n) → (∀ p, r = .inr p → p ≤ n) → (∀ e, (match r with | .inr p => .inr p | .inl e => if f_39 (b e) = 0 ∧ ¬ b e = 92 then .inl e else .inr e : Nat ⊕ Nat) = .inl e → a ≤ e ∧ e ≤ n) ∧ ∀ p, (match r with | .inr p => .inr p | .inl e => if f_39 (b e) = 0 ∧ ¬ b e = 92 then .inl e else .inr e : Nat ⊕ Nat) = .inr p → p ≤ n := by
    intro r h1 h2
    cases r with
    | inr p => exact ⟨fun e h => (by cases h), fun q h => (by cases h; exact h2 p rfl)⟩
    | inl e =>
      dsimp only
      by_cases h3 : f_39 (b e) = 0 ∧ ¬ b e = 92
      · rw [if_pos h3]; exact ⟨fun e h => (by cases h; exact h1 _ rfl), fun q h => (by cases h)⟩
      · rw [if_neg h3]; exact ⟨fun e h => (by cases h), fun q h => (by cases h; exact (h1 _ rfl).2)⟩
  unfold nuS
  apply key
  · intro e
    by_cases h1 : b a = 48 ∧ (b (a + 1) = 120 ∨ b (a + 1) = 88)
    · have hl : a + 1 < n := by rcases h1.2 with h2 | h2 <;> exact lt_of hB h2
      rw [if_pos h1]
      by_cases h3 : f_36 (b (a + 2)) = -1
      · rw [if_pos h3]; exact fun h => (by cases h)
      · rw [if_neg h3]
        have := whS_b (q := qh) hB (by decide) fu (a + 2) (by omega)
        exact fun h => (by cases h; omega)
    · rw [if_neg h1]
      intro h9
      have := (exS_b hB (p2S_b hB h).2).1 e h9
      have := p2S_b hB h
      omega
  · intro p
    by_cases h1 : b a = 48 ∧ (b (a + 1) = 120 ∨ b (a + 1) = 88)
    · have hl : a + 1 < n := by rcases h1.2 with h2 | h2 <;> exact lt_of hB h2
      rw [if_pos h1]
      by_cases h3 : f_36 (b (a + 2)) = -1
      · rw [if_pos h3]; exact fun h => (by cases h; omega)
      · rw [if_neg h3]; exact fun h => (by cases h)
    · rw [if_neg h1]
      intro h9
      exact ((exS_b hB (p2S_b hB h).2).2 p h9).2
theorem c51 {b : Nat → Int32} {n : Nat} (hB : BK b n) {C : CS} {a : Nat} (hK : CK C b n) (ha : C.1 11 = nI a) (hf : C.1 4 = nI a) (h : a < n) (hU : UR (C.2 1) (C.1 10) []) :
    ∃ v C', f_51 C = some (v, C') ∧ fr [3, 10, 11, 12] [1] C C' ∧ (∀ e, nuS b a = .inl e → v = 1 ∧ C'.1 3 = 2 ∧ C'.1 11 = nI e ∧ UR (C'.2 1) (C'.1 10) (tkS b (e - a) a [])) ∧ (∀ p, nuS b a = .inr p → v = 0 ∧ C'.1 12 = nI p) := by
  have hn := hK.2.1
  have f0 : fr [3, 10, 11, 12] [1] C (ru C.1 3 2, C.2) := fr.r1 (by decide) fr.pr
  have hK0 := hK.fr f0
  have ha0 : (ru C.1 3 2, C.2).1 11 = nI a := (rq (by decide)).trans ha
  have key : ∀ r : Nat ⊕ Nat, (∀ e, r = .inl e → a ≤ e ∧ e ≤ n) → ∃ v C', ((cN (ru C.1 3 2, C.2) r).bind fun r => b_51_71 r.2 r.1) = some (v, C') ∧ fr [3, 10, 11, 12] [1] C C' ∧ (∀ e, (match r with | .inr p => .inr p | .inl e => if f_39 (b e) = 0 ∧ ¬ b e = 92 then .inl e else .inr e : Nat ⊕ Nat) = .inl e → v = 1 ∧ C'.1 3 = 2 ∧ C'.1 11 = nI e ∧ UR (C'.2 1) (C'.1 10) (tkS b (e - a) a [])) ∧ (∀ p, (match r with | .inr p => .inr p | .inl e => if f_39 (b e) = 0 ∧ ¬ b e = 92 then .inl e else .inr e : Nat ⊕ Nat) = .inr p → v = 0 ∧ C'.1 12 = nI p) := by
    intro r hr
    cases r with
    | inr p =>
      unfold cN b_51_71
      rw [Option.bind_some, if_neg (nn rfl)]
      exact ⟨_, _, rfl, fr.r1 (by decide) (fr.r1 (by decide) f0), fun e h => (by cases h), fun q h => (by cases h; exact ⟨rfl, rp⟩)⟩
    | inl e =>
      have he := hr e rfl
      have f1 : fr [3, 10, 11, 12] [1] C (ru (ru C.1 3 2) 11 (nI e), C.2) := fr.r1 (by decide) f0
      unfold cN b_51_71 b_51_106
      rw [Option.bind_some, if_pos (show ¬ (1 : Int32) = 0 by decide)]
      dsimp only
      rw [ru_eq, c28 (hK.fr f1) (by omega), Option.bind_some, rf32]
      by_cases h39 : f_39 (b e) = 0
      · rw [if_neg (nn h39)]
        by_cases h92 : b e = 92
        · have h3 : ¬ (f_39 (b e) = 0 ∧ ¬ b e = 92) := fun h => h.2 h92
          rw [if_neg (nn h92), if_neg h3]
          exact ⟨_, _, rfl, fr.r1 (by decide) f1, fun e h => (by cases h), fun q h => (by cases h; exact ⟨rfl, rp⟩)⟩
        · rw [if_pos h92, if_pos ⟨h39, h92⟩]
          unfold f_50
          rw [show (ru (ru C.1 3 2) 11 (nI e), C.2).1 4 = nI a from (rq (by decide)).trans ((ru_ne _ _ (by decide)).trans hf)]
          obtain ⟨C2, j1, j2, j3⟩ := c50 (e - a) fu (ru (ru C.1 3 2) 11 (nI e), C.2) a e [] (hK.fr f1) rp he.2 (by omega) (by rw [fu_e]; omega) (by rw [rq (by decide), ru_ne _ _ (by decide)]; exact hU) (Nat.zero_le _)
          rw [j1, Option.bind_some]
          refine ⟨_, _, rfl, f1.tr (j2.w (by decide) (by decide)), fun e' h => ?_, fun q h => (by cases h)⟩
          cases h
          exact ⟨rfl, (j2.1 3 (by decide)).trans ((rq (by decide)).trans (ru_eq _ _ _)), (j2.1 11 (by decide)).trans rp, j3⟩
      · have h3 : ¬ (f_39 (b e) = 0 ∧ ¬ b e = 92) := fun h => h39 h.1
        rw [if_pos h39, if_neg h3]
        exact ⟨_, _, rfl, fr.r1 (by decide) f1, fun e h => (by cases h), fun q h => (by cases h; exact ⟨rfl, rp⟩)⟩
  unfold f_51 b_51_54 b_51_50 b_51_55
  rw [ha, nI_1, c28 hK0 (by omega), Option.bind_some, c28 hK0 (by omega), Option.bind_some, if_pos (show (0 : Int32) = 0 from rfl), if_neg (show ¬ (1 : Int32) = 0 by decide)]
  have dec : ¬ (b a = 48 ∧ (b (a + 1) = 120 ∨ b (a + 1) = 88)) → ∃ v C', ((f_49 (ru C.1 3 2, C.2)).bind fun r => b_51_71 r.2 r.1) = some (v, C') ∧ fr [3, 10, 11, 12] [1] C C' ∧ (∀ e, nuS b a = .inl e → v = 1 ∧ C'.1 3 = 2 ∧ C'.1 11 = nI e ∧ UR (C'.2 1) (C'.1 10) (tkS b (e - a) a [])) ∧ (∀ p, nuS b a = .inr p → v = 0 ∧ C'.1 12 = nI p) := by
    intro hne
    rw [c49 hB hK0 ha0 (by omega)]
    unfold nuS
    rw [if_neg hne]
    have p2 := p2S_b hB (Nat.le_of_lt h)
    exact key _ (fun e h9 => by have := (exS_b hB p2.2).1 e h9; omega)
  have hex : (b a = 48 ∧ (b (a + 1) = 120 ∨ b (a + 1) = 88)) → ∃ v C', ((f_46 (ru C.1 3 2, C.2)).bind fun r => b_51_71 r.2 r.1) = some (v, C') ∧ fr [3, 10, 11, 12] [1] C C' ∧ (∀ e, nuS b a = .inl e → v = 1 ∧ C'.1 3 = 2 ∧ C'.1 11 = nI e ∧ UR (C'.2 1) (C'.1 10) (tkS b (e - a) a [])) ∧ (∀ p, nuS b a = .inr p → v = 0 ∧ C'.1 12 = nI p) := by
    intro hx
    have hl : a + 1 < n := by rcases hx.2 with h2 | h2 <;> exact lt_of hB h2
    have f2 : fr [3, 10, 11, 12] [1] C (ru (ru C.1 3 2) 11 (nI (a + 2)), C.2) := fr.r1 (by decide) f0
    have e46 : f_46 (ru C.1 3 2, C.2) = cN (ru C.1 3 2, C.2) (if f_36 (b (a + 2)) = -1 then .inr (a + 2) else .inl (whS qh b fu (a + 2))) := by
      unfold f_46
      rw [ha0, nI_2, c28 (hK.fr f2) (by omega), Option.bind_some, rf32]
      by_cases h3 : f_36 (b (a + 2)) = -1
      · rw [if_neg (nn h3), if_pos h3]
        rfl
      · rw [if_pos h3, if_neg h3, c46 hB fu _ (a + 2) (hK.fr f2) rp (by omega) (by rw [fu_e]; omega)]
        unfold cN
        dsimp only
        rw [ru_ru]
    rw [e46]
    unfold nuS
    rw [if_pos hx]
    refine key _ (fun e h9 => ?_)
    by_cases h3 : f_36 (b (a + 2)) = -1
    · rw [if_pos h3] at h9; cases h9
    · rw [if_neg h3] at h9
      cases h9
      have := whS_b (q := qh) hB (by decide) fu (a + 2) (by omega)
      omega
  by_cases h48 : b a = 48
  · rw [if_neg (nn h48)]
    by_cases h120 : b (a + 1) = 120
    · rw [if_pos h120]; exact hex ⟨h48, Or.inl h120⟩
    · rw [if_neg h120]
      by_cases h88 : b (a + 1) = 88
      · rw [if_neg (nn h88)]; exact hex ⟨h48, Or.inr h88⟩
      · rw [if_pos h88]
        refine dec ?_
        rintro ⟨-, h | h⟩
        · exact h120 h
        · exact h88 h
  · rw [if_pos h48]
    exact dec (fun h => h48 h.1)
