/-! the reference's numbers -/
theorem whS_0 {q : Int32 → Bool} {b : Nat → Int32} {m a : Nat} (h : q (b a) = false) : whS q b m a = a := by
  cases m with
  | zero => rfl
  | succ m => rw [whS, if_neg (by rw [h]; decide)]
theorem m82u {b : Nat → Int32} {n : Nat} (hB : BK b n) {M : CS} {a : Nat} (hK : MK M b n) (ha : M.1 5 = nI a) (h : a ≤ n) : f_82 M = some (ru M.1 5 (nI (whS qd b fu a)), M.2) := by
  have hn := hK.2.1
  exact m82 hB fu M a hK ha h (by rw [fu_e]; omega)
/-- a fault, be it the first or not -/
theorem m69x {M : CS} (p : Nat) (hp : p < 2 ^ 31) (q : Nat) (h : M.1 4 < 0 ∨ M.1 4 = nI q) (hq : q < 2 ^ 31) : ∃ M', f_69 M (nI p) = some M' ∧ fr [4] [] M M' ∧ (M.1 4 < 0 → M'.1 4 = nI p) ∧ (¬ M.1 4 < 0 → M'.1 4 = M.1 4) := by
  rcases h with h | h
  · rw [m69 _ h]
    exact ⟨_, rfl, fr.r1 (by decide) fr.pr, fun _ => rp, fun h9 => absurd h h9⟩
  · have h0 : (0 : Int32) ≤ M.1 4 := by rw [h]; exact nI_pos' hq
    obtain ⟨M', e1, e2⟩ := m69k (nI p) h0
    exact ⟨M', e1, e2.w (by decide) (by decide), fun h9 => absurd h9 (Int32.not_lt.mpr h0), fun _ => e2.1 4 (by decide)⟩
/-- an exponent in the reference: e where it stands behind it -/
theorem m83x {b : Nat → Int32} {n : Nat} (hB : BK b n) {M : CS} {a : Nat} (hK : MK M b n) (ha : M.1 5 = nI a) (h : a ≤ n) (hbad : M.1 4 < 0 ∨ M.1 4 = nI a) :
    ∃ M' e, b_83_93 M = some M' ∧ fr [4, 5] [] M M' ∧ M'.1 5 = nI e ∧ a ≤ e ∧ e ≤ n ∧ (∀ x, exS b a = .inl x → e = x ∧ M'.1 4 = M.1 4) ∧ (∀ p, exS b a = .inr p → e = p ∧ (M.1 4 < 0 → M'.1 4 = nI p) ∧ (¬ M.1 4 < 0 → M'.1 4 = M.1 4)) := by
  have hn := hK.2.1
  unfold b_83_93 exS
  rw [ha, m66 hK (by omega), Option.bind_some, Option.bind_some]
  have fx : ∀ x, fr [4, 5] [] M (ru M.1 5 (nI x), M.2) := fun x => fr.r1 (by decide) fr.pr
  have k166 : ∀ x, a ≤ x → x ≤ n → ∃ M' e, b_83_166 (ru M.1 5 (nI x), M.2) = some M' ∧ fr [4, 5] [] M M' ∧ M'.1 5 = nI e ∧ a ≤ e ∧ e ≤ n ∧ (∀ y, (if f_38 (b x) = 0 then .inr x else .inl (whS qd b fu x) : Nat ⊕ Nat) = .inl y → e = y ∧ M'.1 4 = M.1 4) ∧ (∀ p, (if f_38 (b x) = 0 then .inr x else .inl (whS qd b fu x) : Nat ⊕ Nat) = .inr p → e = p ∧ (M.1 4 < 0 → M'.1 4 = nI p) ∧ (¬ M.1 4 < 0 → M'.1 4 = M.1 4)) := by
    intro x hx0 hx
    unfold b_83_166 b_83_188
    rw [rp, m66 (hK.fr (fx x)) (by omega), Option.bind_some, e74]
    by_cases h3 : f_38 (b x) = 0
    · rw [if_neg (nn h3), if_pos h3]
      obtain ⟨M1, e1, e2, e3, e4⟩ := m69x (M := (ru M.1 5 (nI x), M.2)) x (by omega) a (by rw [rq (by decide)]; exact hbad) (by omega)
      rw [rq (by decide)] at e3 e4
      rw [e1, Option.bind_some]
      have f1 := (fx x).tr (e2.w (by decide) (by decide))
      have h5 : M1.1 5 = nI x := (e2.1 5 (by decide)).trans rp
      rw [m82u hB (hK.fr f1) h5 hx, Option.bind_some, whS_0 (by unfold qd; rw [h3]; rfl), ru_id h5]
      exact ⟨_, x, rfl, f1, h5, hx0, hx, fun y h9 => (by cases h9), fun p h9 => (by cases h9; exact ⟨rfl, e3, e4⟩)⟩
    · rw [if_pos h3, if_neg h3, m82u hB (hK.fr (fx x)) rp hx, Option.bind_some]
      dsimp only
      rw [ru_ru]
      have w := whS_b (q := qd) hB (by decide) fu x hx
      exact ⟨_, _, rfl, fx _, rp, by omega, w.2, fun y h9 => (by cases h9; exact ⟨rfl, rq (by decide)⟩), fun p h9 => (by cases h9)⟩
  have main : a < n → ∃ M' e, b_83_120 M = some M' ∧ fr [4, 5] [] M M' ∧ M'.1 5 = nI e ∧ a ≤ e ∧ e ≤ n ∧ (∀ y, (if f_38 (b (if b (a + 1) = 43 ∨ b (a + 1) = 45 then a + 2 else a + 1)) = 0 then .inr (if b (a + 1) = 43 ∨ b (a + 1) = 45 then a + 2 else a + 1) else .inl (whS qd b fu (if b (a + 1) = 43 ∨ b (a + 1) = 45 then a + 2 else a + 1)) : Nat ⊕ Nat) = .inl y → e = y ∧ M'.1 4 = M.1 4) ∧ (∀ p, (if f_38 (b (if b (a + 1) = 43 ∨ b (a + 1) = 45 then a + 2 else a + 1)) = 0 then .inr (if b (a + 1) = 43 ∨ b (a + 1) = 45 then a + 2 else a + 1) else .inl (whS qd b fu (if b (a + 1) = 43 ∨ b (a + 1) = 45 then a + 2 else a + 1)) : Nat ⊕ Nat) = .inr p → e = p ∧ (M.1 4 < 0 → M'.1 4 = nI p) ∧ (¬ M.1 4 < 0 → M'.1 4 = M.1 4)) := by
    intro hl
    unfold b_83_120 b_83_156
    rw [ha, nI_1, m66 (hK.fr (fx (a + 1))) (by omega), Option.bind_some, Option.bind_some, rp, nI_1]
    dsimp only
    rw [ru_ru]
    by_cases h2 : b (a + 1) = 43
    · have := lt_of hB h2
      rw [if_pos h2, if_pos (show b (a + 1) = 43 ∨ b (a + 1) = 45 from Or.inl h2)]
      exact k166 (a + 2) (by omega) (by omega)
    · rw [if_neg h2]
      by_cases h3 : b (a + 1) = 45
      · have := lt_of hB h3
        rw [if_neg (nn h3), if_pos (show b (a + 1) = 43 ∨ b (a + 1) = 45 from Or.inr h3)]
        exact k166 (a + 2) (by omega) (by omega)
      · have h4 : ¬ (b (a + 1) = 43 ∨ b (a + 1) = 45) := by
          rintro (h | h)
          · exact h2 h
          · exact h3 h
        rw [if_pos h3, if_neg h4]
        exact k166 (a + 1) (by omega) (by omega)
  by_cases h1 : b a = 101
  · rw [if_pos h1, if_pos (show b a = 101 ∨ b a = 69 from Or.inl h1)]
    exact main (lt_of hB h1)
  · rw [if_neg h1]
    by_cases h2 : b a = 69
    · rw [if_pos h2, if_pos (show b a = 101 ∨ b a = 69 from Or.inr h2)]
      exact main (lt_of hB h2)
    · have h4 : ¬ (b a = 101 ∨ b a = 69) := by
        rintro (h | h)
        · exact h1 h
        · exact h2 h
      rw [if_neg h2, if_neg h4]
      exact ⟨M, a, rfl, fr.rf, ha, Nat.le_refl _, h, fun x h9 => (by cases h9; exact ⟨rfl, rfl⟩), fun p h9 => (by cases h9)⟩
theorem m83 {b : Nat → Int32} {n : Nat} (hB : BK b n) {M : CS} {a : Nat} (hK : MK M b n) (ha : M.1 5 = nI a) (h : a ≤ n) (hbad : M.1 4 < 0) :
    ∃ M' e, f_83 M = some M' ∧ fr [4, 5] [] M M' ∧ M'.1 5 = nI e ∧ a ≤ e ∧ e ≤ n ∧ ((b a = 48 ∧ ¬ f_38 (b (a + 1)) = 0) → e = a + 1 ∧ M'.1 4 = nI (a + 1)) ∧ (¬ (b a = 48 ∧ ¬ f_38 (b (a + 1)) = 0) → (∀ x, exS b (p2S b a) = .inl x → e = x ∧ M'.1 4 = M.1 4) ∧ (∀ p, exS b (p2S b a) = .inr p → e = p ∧ M'.1 4 = nI p)) := by
  have hn := hK.2.1
  have fx : ∀ x, fr [4, 5] [] M (ru M.1 5 (nI x), M.2) := fun x => fr.r1 (by decide) fr.pr
  -- behind the first digits
  have k66 : ∀ x, a ≤ x → x ≤ n → ∃ M' e, b_83_66 (ru M.1 5 (nI x), M.2) = some M' ∧ fr [4, 5] [] M M' ∧ M'.1 5 = nI e ∧ a ≤ e ∧ e ≤ n ∧ (∀ y, exS b (if b x = 46 then whS qd b fu (x + 1) else x) = .inl y → e = y ∧ M'.1 4 = M.1 4) ∧ (∀ p, exS b (if b x = 46 then whS qd b fu (x + 1) else x) = .inr p → e = p ∧ M'.1 4 = nI p) := by
    intro x hx0 hx
    unfold b_83_66
    rw [rp, m66 (hK.fr (fx x)) (by omega), Option.bind_some]
    have go : ∀ y, a ≤ y → y ≤ n → ∃ M' e, b_83_93 (ru M.1 5 (nI y), M.2) = some M' ∧ fr [4, 5] [] M M' ∧ M'.1 5 = nI e ∧ a ≤ e ∧ e ≤ n ∧ (∀ z, exS b y = .inl z → e = z ∧ M'.1 4 = M.1 4) ∧ (∀ p, exS b y = .inr p → e = p ∧ M'.1 4 = nI p) := by
      intro y hy0 hy
      obtain ⟨M', e, k1, k2, k3, k4, k5, k6, k7⟩ := m83x hB (M := (ru M.1 5 (nI y), M.2)) (hK.fr (fx y)) rp hy (Or.inl (by rw [rq (by decide)]; exact hbad))
      rw [rq (by decide)] at k6 k7
      exact ⟨M', e, k1, (fx y).tr k2, k3, by omega, k5, k6, fun p h9 => ⟨(k7 p h9).1, (k7 p h9).2.1 hbad⟩⟩
    by_cases h1 : b x = 46
    · have hl := lt_of hB h1
      rw [if_neg (nn h1), if_pos h1, nI_1]
      dsimp only
      rw [ru_ru, m82u hB (hK.fr (fx (x + 1))) rp (by omega), Option.bind_some]
      dsimp only
      rw [ru_ru]
      have w := whS_b (q := qd) hB (by decide) fu (x + 1) (by omega)
      exact go _ (by omega) w.2
    · rw [if_pos h1, if_neg h1]
      exact go x hx0 hx
  unfold f_83 b_83_18 b_83_40
  rw [ha, m66 hK (by omega), Option.bind_some, if_pos (show (0 : Int32) = 0 from rfl), if_neg (show ¬ (1 : Int32) = 0 by decide)]
  by_cases h1 : b a = 48
  · have hl := lt_of hB h1
    rw [if_neg (nn h1), nI_1, rp, m66 (hK.fr (fx (a + 1))) (by omega), Option.bind_some, e74, if_neg (show ¬ (1 : Int32) = 0 by decide)]
    have e2 : p2S b a = if b (a + 1) = 46 then whS qd b fu (a + 1 + 1) else a + 1 := by unfold p2S p1S; rw [if_pos h1]
    by_cases h2 : f_38 (b (a + 1)) = 0
    · rw [if_pos h2]
      obtain ⟨M', e, k1, k2, k3, k4, k5, k6, k7⟩ := k66 (a + 1) (by omega) (by omega)
      rw [e2]
      exact ⟨M', e, k1, k2, k3, k4, k5, fun h9 => absurd h2 h9.2, fun _ => ⟨k6, k7⟩⟩
    · rw [if_neg h2, m69 _ (by rw [rq (by decide)]; exact hbad), Option.bind_some]
      -- a digit stands there: nothing more is read
      have f2 : fr [4, 5] [] M (ru (ru M.1 5 (nI (a + 1))) 4 (nI (a + 1)), M.2) := fr.r1 (by decide) (fx (a + 1))
      have hK2 := hK.fr f2
      have h5 : (ru (ru M.1 5 (nI (a + 1))) 4 (nI (a + 1)), M.2).1 5 = nI (a + 1) := (rq (by decide)).trans (ru_eq _ _ _)
      have n46 : ¬ b (a + 1) = 46 := fun h9 => h2 (by rw [h9]; decide)
      unfold b_83_66
      rw [h5, m66 hK2 (by omega), Option.bind_some, if_pos n46]
      obtain ⟨M', e, k1, k2, k3, k4, k5, k6, k7⟩ := m83x hB hK2 h5 (by omega) (Or.inr rp)
      have hx : exS b (a + 1) = .inl (a + 1) := by
        unfold exS
        have : ¬ (b (a + 1) = 101 ∨ b (a + 1) = 69) := by
          rintro (h | h) <;> exact h2 (by rw [h]; decide)
        rw [if_neg this]
      obtain ⟨rfl, k8⟩ := k6 _ hx
      exact ⟨M', a + 1, k1, f2.tr k2, k3, by omega, k5, fun _ => ⟨rfl, k8.trans rp⟩, fun h9 => absurd ⟨h1, h2⟩ h9⟩
  · rw [if_pos h1, m82u hB hK ha h, Option.bind_some, if_pos (show (0 : Int32) = 0 from rfl)]
    have e2 : p2S b a = if b (whS qd b fu a) = 46 then whS qd b fu (whS qd b fu a + 1) else whS qd b fu a := by unfold p2S p1S; rw [if_neg h1]
    have w := whS_b (q := qd) hB (by decide) fu a h
    obtain ⟨M', e, k1, k2, k3, k4, k5, k6, k7⟩ := k66 _ w.1 w.2
    rw [e2]
    exact ⟨M', e, k1, k2, k3, k4, k5, fun h9 => absurd h9.1 h1, fun _ => ⟨k6, k7⟩⟩
theorem m84e {b : Nat → Int32} {n : Nat} {M : CS} {a e : Nat} (hK : MK M b n) (ha : M.1 7 = nI a) (he : M.1 5 = nI e) (h : a ≤ e) (h2 : e ≤ n) (hU : UR (M.2 1) (M.1 12) []) (q : Nat) (hbad : M.1 4 < 0 ∨ M.1 4 = nI q) (hq : q < 2 ^ 31) :
    ∃ M', b_84_111 M = some M' ∧ fr [4, 12] [1] M M' ∧ UR (M'.2 1) (M'.1 12) (tkS b (e - a) a []) ∧ ((f_39 (b e) = 0 ∧ ¬ b e = 92) → M'.1 4 = M.1 4) ∧ (¬ (f_39 (b e) = 0 ∧ ¬ b e = 92) → (M.1 4 < 0 → M'.1 4 = nI e) ∧ (¬ M.1 4 < 0 → M'.1 4 = M.1 4)) := by
  have hn := hK.2.1
  have fin : ∀ M1 : CS, fr [4, 12] [1] M M1 → M1.1 12 = M.1 12 → M1.2 1 = M.2 1 → ∃ M', b_84_160 M1 = some M' ∧ fr [4, 12] [1] M M' ∧ UR (M'.2 1) (M'.1 12) (tkS b (e - a) a []) ∧ M'.1 4 = M1.1 4 := by
    intro M1 k1 k2 k3
    unfold b_84_160
    rw [(k1.1 7 (by decide)).trans ha]
    obtain ⟨M2, j1, j2, j3⟩ := m84t (e - a) fu M1 a e [] (hK.fr k1) ((k1.1 5 (by decide)).trans he) h2 (by omega) (by rw [fu_e]; omega) (by rw [k2, k3]; exact hU) (Nat.zero_le _)
    exact ⟨M2, j1, k1.tr (j2.w (by decide) (by decide)), j3, j2.1 4 (by decide)⟩
  have bad : ¬ (f_39 (b e) = 0 ∧ ¬ b e = 92) → ∃ M', b_84_152 M = some M' ∧ fr [4, 12] [1] M M' ∧ UR (M'.2 1) (M'.1 12) (tkS b (e - a) a []) ∧ (M.1 4 < 0 → M'.1 4 = nI e) ∧ (¬ M.1 4 < 0 → M'.1 4 = M.1 4) := by
    intro _
    unfold b_84_152
    obtain ⟨M1, e1, e2, e3, e4⟩ := m69x (M := M) e (by omega) q hbad hq
    rw [he, e1, Option.bind_some]
    obtain ⟨M2, j1, j2, j3, j4⟩ := fin M1 (e2.w (by decide) (by decide)) (e2.1 12 (by decide)) (e2.2 1 (by decide))
    exact ⟨M2, j1, j2, j3, fun h9 => j4.trans (e3 h9), fun h9 => j4.trans (e4 h9)⟩
  unfold b_84_111
  rw [he, m66 hK (by omega), Option.bind_some, Option.bind_some, Option.bind_some, e73, e74]
  by_cases h35 : f_35 (b e) = 0
  · rw [if_neg (nn h35)]
    by_cases h38 : f_38 (b e) = 0
    · rw [if_neg (nn h38)]
      by_cases h92 : b e = 92
      · have h3 : ¬ (f_39 (b e) = 0 ∧ ¬ b e = 92) := fun h => h.2 h92
        rw [if_neg (nn h92)]
        obtain ⟨M', j1, j2, j3, j4⟩ := bad h3
        exact ⟨M', j1, j2, j3, fun h9 => absurd h9 h3, fun _ => j4⟩
      · rw [if_pos h92]
        obtain ⟨M', j1, j2, j3, j4⟩ := fin M fr.rf rfl rfl
        exact ⟨M', j1, j2, j3, fun _ => j4, fun h9 => absurd ⟨(e39 _).mpr ⟨h35, h38⟩, h92⟩ h9⟩
    · have h3 : ¬ (f_39 (b e) = 0 ∧ ¬ b e = 92) := fun h => h38 ((e39 _).mp h.1).2
      rw [if_pos h38]
      obtain ⟨M', j1, j2, j3, j4⟩ := bad h3
      exact ⟨M', j1, j2, j3, fun h9 => absurd h9 h3, fun _ => j4⟩
  · have h3 : ¬ (f_39 (b e) = 0 ∧ ¬ b e = 92) := fun h => h35 ((e39 _).mp h.1).1
    rw [if_pos h35]
    obtain ⟨M', j1, j2, j3, j4⟩ := bad h3
    exact ⟨M', j1, j2, j3, fun h9 => absurd h9 h3, fun _ => j4⟩
theorem m84 {b : Nat → Int32} {n : Nat} (hB : BK b n) {M : CS} {a : Nat} (hK : MK M b n) (ha : M.1 5 = nI a) (hf : M.1 7 = nI a) (h : a < n) (hbad : M.1 4 < 0) (hU : UR (M.2 1) (M.1 12) []) :
    ∃ M', f_84 M = some M' ∧ fr [4, 5, 6, 12] [1] M M' ∧ M'.1 6 = 2 ∧ (∀ e, nuS b a = .inl e → M'.1 5 = nI e ∧ UR (M'.2 1) (M'.1 12) (tkS b (e - a) a []) ∧ M'.1 4 = M.1 4) ∧ (∀ p, nuS b a = .inr p → M'.1 4 = nI p) := by
  have hn := hK.2.1
  have f0 : fr [4, 5, 6, 12] [1] M (ru M.1 6 2, M.2) := fr.r1 (by decide) fr.pr
  have hK0 := hK.fr f0
  have ha0 : (ru M.1 6 2, M.2).1 5 = nI a := (rq (by decide)).trans ha
  have hb0 : (ru M.1 6 2, M.2).1 4 = M.1 4 := rq (by decide)
  -- what stands behind the number
  have fin : ∀ (M1 : CS) (e : Nat) (q : Nat), fr [4, 5] [] (ru M.1 6 2, M.2) M1 → M1.1 5 = nI e → a ≤ e → e ≤ n → (M1.1 4 < 0 ∨ M1.1 4 = nI q) → q < 2 ^ 31 → ∃ M', b_84_111 M1 = some M' ∧ fr [4, 5, 6, 12] [1] M M' ∧ M'.1 6 = 2 ∧ M'.1 5 = nI e ∧ UR (M'.2 1) (M'.1 12) (tkS b (e - a) a []) ∧ ((f_39 (b e) = 0 ∧ ¬ b e = 92) → M'.1 4 = M1.1 4) ∧ (¬ (f_39 (b e) = 0 ∧ ¬ b e = 92) → (M1.1 4 < 0 → M'.1 4 = nI e) ∧ (¬ M1.1 4 < 0 → M'.1 4 = M1.1 4)) := by
    intro M1 e q k1 k2 k3 k4 k5 k6
    have k1' : fr [4, 5, 6, 12] [1] M M1 := f0.tr (k1.w (by decide) (by decide))
    have hU1 : UR (M1.2 1) (M1.1 12) [] := by
      rw [k1.1 12 (by decide), rq (by decide), k1.2 1 (by decide)]
      exact hU
    obtain ⟨M', j1, j2, j3, j4, j5⟩ := m84e (hK.fr k1') ((k1.1 7 (by decide)).trans ((rq (by decide)).trans hf)) k2 k3 k4 hU1 q k5 k6
    exact ⟨M', j1, k1'.tr (j2.w (by decide) (by decide)), (j2.1 6 (by decide)).trans ((k1.1 6 (by decide)).trans rp), (j2.1 5 (by decide)).trans k2, j3, j4, j5⟩
  have dec : ¬ (b a = 48 ∧ (b (a + 1) = 120 ∨ b (a + 1) = 88)) → ∃ M', b_84_107 (ru M.1 6 2, M.2) = some M' ∧ fr [4, 5, 6, 12] [1] M M' ∧ M'.1 6 = 2 ∧ (∀ e, nuS b a = .inl e → M'.1 5 = nI e ∧ UR (M'.2 1) (M'.1 12) (tkS b (e - a) a []) ∧ M'.1 4 = M.1 4) ∧ (∀ p, nuS b a = .inr p → M'.1 4 = nI p) := by
    intro hne
    obtain ⟨M1, e, k1, k2, k3, k4, k5, k6, k7⟩ := m83 hB hK0 ha0 (by omega) (by rw [hb0]; exact hbad)
    rw [hb0] at k7
    unfold b_84_107 nuS
    rw [k1, Option.bind_some, if_neg hne]
    by_cases hz : b a = 48 ∧ ¬ f_38 (b (a + 1)) = 0
    · obtain ⟨rfl, g⟩ := k6 hz
      have hl := lt_of hB hz.1
      have e2 : p2S b a = a + 1 := by
        unfold p2S p1S
        have : ¬ b (a + 1) = 46 := fun h9 => hz.2 (by rw [h9]; decide)
        rw [if_pos hz.1, if_neg this]
      have hx : exS b (a + 1) = .inl (a + 1) := by
        unfold exS
        have : ¬ (b (a + 1) = 101 ∨ b (a + 1) = 69) := by
          rintro (h | h) <;> exact hz.2 (by rw [h]; decide)
        rw [if_neg this]
      have h39 : ¬ (f_39 (b (a + 1)) = 0 ∧ ¬ b (a + 1) = 92) := fun h9 => hz.2 ((e39 _).mp h9.1).2
      obtain ⟨M', j1, j2, j3, j4, j5, j6, j7⟩ := fin M1 (a + 1) (a + 1) k2 k3 k4 k5 (Or.inr g) (by omega)
      have h0 : ¬ M1.1 4 < 0 := by rw [g]; exact nI_pos (by omega)
      rw [e2, hx]
      dsimp only
      rw [if_neg h39]
      exact ⟨M', j1, j2, j3, fun e h9 => (by cases h9), fun p h9 => (by cases h9; exact ((j7 h39).2 h0).trans g)⟩
    · obtain ⟨g1, g2⟩ := k7 hz
      cases hx : exS b (p2S b a) with
      | inr p =>
        obtain ⟨rfl, g⟩ := g2 p hx
        obtain ⟨M', j1, j2, j3, j4, j5, j6, j7⟩ := fin M1 e e k2 k3 k4 k5 (Or.inr g) (by omega)
        have h0 : ¬ M1.1 4 < 0 := by rw [g]; exact nI_pos (by omega)
        refine ⟨M', j1, j2, j3, fun e h9 => (by cases h9), fun q h9 => ?_⟩
        cases h9
        by_cases h39 : f_39 (b e) = 0 ∧ ¬ b e = 92
        · exact (j6 h39).trans g
        · exact ((j7 h39).2 h0).trans g
      | inl x =>
        obtain ⟨rfl, g⟩ := g1 x hx
        have hlt : M1.1 4 < 0 := by rw [g]; exact hbad
        obtain ⟨M', j1, j2, j3, j4, j5, j6, j7⟩ := fin M1 e 0 k2 k3 k4 k5 (Or.inl hlt) (by omega)
        dsimp only
        by_cases h39 : f_39 (b e) = 0 ∧ ¬ b e = 92
        · rw [if_pos h39]
          exact ⟨M', j1, j2, j3, fun y h9 => (by cases h9; exact ⟨j4, j5, (j6 h39).trans g⟩), fun q h9 => (by cases h9)⟩
        · rw [if_neg h39]
          exact ⟨M', j1, j2, j3, fun y h9 => (by cases h9), fun q h9 => (by cases h9; exact (j7 h39).1 hlt)⟩
  have hex : (b a = 48 ∧ (b (a + 1) = 120 ∨ b (a + 1) = 88)) → ∃ M', b_84_48 (ru M.1 6 2, M.2) = some M' ∧ fr [4, 5, 6, 12] [1] M M' ∧ M'.1 6 = 2 ∧ (∀ e, nuS b a = .inl e → M'.1 5 = nI e ∧ UR (M'.2 1) (M'.1 12) (tkS b (e - a) a []) ∧ M'.1 4 = M.1 4) ∧ (∀ p, nuS b a = .inr p → M'.1 4 = nI p) := by
    intro hx
    have hl : a + 1 < n := by rcases hx.2 with h2 | h2 <;> exact lt_of hB h2
    have f2 : fr [4, 5] [] (ru M.1 6 2, M.2) (ru (ru M.1 6 2) 5 (nI (a + 2)), M.2) := fr.r1 (by decide) fr.pr
    unfold b_84_48 nuS
    rw [ha0, nI_2, m66 (hK0.fr f2) (by omega), Option.bind_some, if_pos hx, e75]
    by_cases h3 : f_36 (b (a + 2)) = -1
    · have h0 : ¬ (0 : Int32) ≤ f_36 (b (a + 2)) := fun h9 => ((hexn _).mp h9) h3
      rw [if_neg h0, if_pos h3, m69 _ (by rw [rq (by decide), hb0]; exact hbad), Option.bind_some]
      have f3 : fr [4, 5] [] (ru M.1 6 2, M.2) (ru (ru (ru M.1 6 2) 5 (nI (a + 2))) 4 (nI (a + 2)), M.2) := fr.r1 (by decide) f2
      have h5 : (ru (ru (ru M.1 6 2) 5 (nI (a + 2))) 4 (nI (a + 2)), M.2).1 5 = nI (a + 2) := (rq (by decide)).trans (ru_eq _ _ _)
      rw [m84h hB fu _ (a + 2) (hK0.fr f3) h5 (by omega) (by rw [fu_e]; omega), whS_0 (by unfold qh; rw [h3]; rfl), ru_id h5]
      obtain ⟨M', j1, j2, j3, j4, j5, j6, j7⟩ := fin _ (a + 2) (a + 2) f3 h5 (by omega) (by omega) (Or.inr rp) (by omega)
      rw [rp] at j6 j7
      refine ⟨M', j1, j2, j3, fun e h9 => (by cases h9), fun q h9 => ?_⟩
      cases h9
      by_cases h39 : f_39 (b (a + 2)) = 0 ∧ ¬ b (a + 2) = 92
      · exact j6 h39
      · exact (j7 h39).2 (nI_pos (by omega))
    · have h0 : (0 : Int32) ≤ f_36 (b (a + 2)) := (hexn _).mpr h3
      rw [if_pos h0, if_neg h3, m84h hB fu _ (a + 2) (hK0.fr f2) rp (by omega) (by rw [fu_e]; omega)]
      dsimp only
      rw [ru_ru]
      have w := whS_b (q := qh) hB (by decide) fu (a + 2) (by omega)
      generalize whS qh b fu (a + 2) = e at w ⊢
      have f3 : fr [4, 5] [] (ru M.1 6 2, M.2) (ru (ru M.1 6 2) 5 (nI e), M.2) := fr.r1 (by decide) fr.pr
      have h4 : (ru (ru M.1 6 2) 5 (nI e), M.2).1 4 = M.1 4 := (rq (by decide)).trans (ru_ne _ _ (by decide))
      have hlt : (ru (ru M.1 6 2) 5 (nI e), M.2).1 4 < 0 := by rw [h4]; exact hbad
      obtain ⟨M', j1, j2, j3, j4, j5, j6, j7⟩ := fin _ e 0 f3 rp (by omega) w.2 (Or.inl hlt) (by omega)
      by_cases h39 : f_39 (b e) = 0 ∧ ¬ b e = 92
      · rw [if_pos h39]
        exact ⟨M', j1, j2, j3, fun y h9 => (by cases h9; exact ⟨j4, j5, (j6 h39).trans h4⟩), fun q h9 => (by cases h9)⟩
      · rw [if_neg h39]
        exact ⟨M', j1, j2, j3, fun y h9 => (by cases h9), fun q h9 => (by cases h9; exact (j7 h39).1 hlt)⟩
  unfold f_84
  rw [ha, m66 hK0 (by omega), Option.bind_some, nI_1, m66 hK0 (by omega), Option.bind_some, Option.bind_some]
  by_cases h48 : b a = 48
  · rw [if_neg (nn h48)]
    by_cases h120 : b (a + 1) = 120
    · rw [if_pos h120]; exact hex ⟨h48, Or.inl h120⟩
    · rw [if_neg h120]
      by_cases h88 : b (a + 1) = 88
      · rw [if_neg (nn h88)]; exact hex ⟨h48, Or.inr h88⟩
      · rw [if_pos h88]
        refine dec ?_
        rintro ⟨-, h | h⟩
        · exact h120 h
        · exact h88 h
  · rw [if_pos h48]
    exact dec (fun h => h48 h.1)
