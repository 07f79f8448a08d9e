/-! escapes by number; names -/
theorem hexd {c : Int32} (h : ¬ f_36 c = -1) : ∃ d : Nat, d ≤ 15 ∧ f_36 c = nI d := by
  rcases hexr c with h1 | ⟨h1, h2⟩
  · exact absurd h1 h
  · obtain ⟨j, hj, e⟩ := nI_of (Int32.not_lt.mpr h1)
    refine ⟨j, ?_, e⟩
    rw [e] at h2
    exact (nI_leI hj (by decide : 15 < 2 ^ 31)).mp h2
theorem nI_mul (a b : Nat) : nI a * nI b = nI (a * b) := (Int32.ofNat_mul a b).symm
/-- j digits from a on: their value, or where it fails -/
def hxS (b : Nat → Int32) : Nat → Nat → Nat → Nat ⊕ Nat
  | 0, _, w => .inl w
  | j + 1, a, w => if f_36 (b a) = -1 then .inr a else hxS b j (a + 1) (w * 16 + (f_36 (b a)).toNatClampNeg)
theorem lt_of36 {b : Nat → Int32} {n a : Nat} (hB : BK b n) (h : ¬ f_36 (b a) = -1) : a < n := by
  apply Nat.lt_of_not_le
  intro h9
  rw [hB.2 a h9] at h
  exact h z36
theorem hxS_b {b : Nat → Int32} {n : Nat} (hB : BK b n) : ∀ j a w, a ≤ n → (∀ w', hxS b j a w = .inl w' → a + j ≤ n ∧ w' < (w + 1) * 16 ^ j) ∧ ∀ p, hxS b j a w = .inr p → a ≤ p ∧ p ≤ n := by
  intro j
  induction j with
  | zero =>
    intro a w h
    refine ⟨fun w' e => ?_, fun p e => by cases e⟩
    cases e
    exact ⟨h, by omega⟩
  | succ j ih =>
    intro a w h
    rw [hxS]
    by_cases hc : f_36 (b a) = -1
    · rw [if_pos hc]
      refine ⟨fun w' e => (by cases e), fun p e => ?_⟩
      cases e
      exact ⟨Nat.le_refl _, h⟩
    · rw [if_neg hc]
      have hl := lt_of36 hB hc
      obtain ⟨d, hd, e⟩ := hexd hc
      rw [e, nI_clamp (by omega)]
      have := ih (a + 1) (w * 16 + d) (by omega)
      refine ⟨fun w' e => ?_, fun p e => ?_⟩
      · have t := this.1 w' e
        refine ⟨by omega, Nat.lt_of_lt_of_le t.2 ?_⟩
        rw [Nat.pow_succ, Nat.mul_comm (16 ^ j) 16, ← Nat.mul_assoc]
        exact Nat.mul_le_mul_right _ (by omega)
      · have t := this.2 p e
        omega
theorem c37 {b : Nat → Int32} {n : Nat} (hB : BK b n) {D : Nat} (hD : D ≤ 4) : ∀ (j m : Nat) (C : CS) (a k w : Nat), CK C b n → C.1 11 = nI a → a ≤ n → k + j = D → j < m →
    ∃ v C', b_37_4 m C (nI D) (nI w) (nI k) = some (v, C') ∧ fr [11, 12] [] C C' ∧ (∀ w', hxS b j a w = .inl w' → v = nI w' ∧ C'.1 11 = nI (a + j)) ∧ (∀ p, hxS b j a w = .inr p → v = -1 ∧ C'.1 12 = nI p) := by
  intro j
  induction j with
  | zero =>
    intro m C a k w hK ha h hk hm
    cases m with
    | zero => omega
    | succ m =>
      rw [b_37_4, if_pos (nI_le (by omega) (by omega))]
      refine ⟨_, _, rfl, fr.rf, fun w' e => ?_, fun p e => by cases e⟩
      cases e
      exact ⟨rfl, ha⟩
  | succ j ih =>
    intro m C a k w hK ha h hk hm
    have hn := hK.2.1
    cases m with
    | zero => omega
    | succ m =>
      rw [b_37_4, if_neg (nI_ge (by omega) (by omega)), ha, c28 hK (by omega), Option.bind_some, hxS]
      by_cases hc : f_36 (b a) = -1
      · rw [if_neg (nn hc), if_pos hc]
        unfold f_32
        rw [Option.bind_some]
        refine ⟨_, _, rfl, fr.r1 (by decide) fr.pr, fun w' e => (by cases e), fun p e => ?_⟩
        cases e
        exact ⟨rfl, rp⟩
      · have hl := lt_of36 hB hc
        obtain ⟨d, hd, e⟩ := hexd hc
        rw [if_pos hc, if_neg hc, e, nI_clamp (by omega), nI_1, nI_1, show (16 : Int32) = nI 16 from rfl, nI_mul, nI_add]
        have f1 : fr [11, 12] [] C (ru C.1 11 (nI (a + 1)), C.2) := fr.r1 (by decide) fr.pr
        obtain ⟨v, C', e1, e2, e3, e4⟩ := ih m (ru C.1 11 (nI (a + 1)), C.2) (a + 1) (k + 1) (w * 16 + d) (hK.fr f1) rp (by omega) (by omega) (by omega)
        refine ⟨v, C', e1, f1.tr e2, fun w' h9 => ?_, e4⟩
        have := e3 w' h9
        rw [Nat.add_assoc, Nat.add_comm 1 j] at this
        exact this
theorem m76k {m : Nat} {M : CS} {l1 l2 l3 l4 : Int32} (h : 0 ≤ M.1 4) : b_76_5 (m + 1) M l1 l2 l3 l4 = some (l3, M) := by
  rw [b_76_5]
  by_cases h9 : l1 + l2 ≤ l4
  · rw [if_pos h9]
  · rw [if_neg h9, if_pos h]
theorem m76 {b : Nat → Int32} {n : Nat} (hB : BK b n) {s D : Nat} (hs : s + D < 2 ^ 31) : ∀ (j m : Nat) (M : CS) (a w : Nat), MK M b n → M.1 4 < 0 → a ≤ n → a + j = s + D → j + 1 < m →
    ∃ v M', b_76_5 m M (nI s) (nI D) (nI w) (nI a) = some (v, M') ∧ fr [4] [] M M' ∧ (∀ w', hxS b j a w = .inl w' → v = nI w' ∧ M'.1 4 = M.1 4) ∧ (∀ p, hxS b j a w = .inr p → M'.1 4 = nI p) := by
  intro j
  induction j with
  | zero =>
    intro m M a w hK hb h hk hm
    cases m with
    | zero => omega
    | succ m =>
      rw [b_76_5, nI_add, if_pos (nI_le (by omega) (by omega))]
      refine ⟨_, _, rfl, fr.rf, fun w' e => ?_, fun p e => by cases e⟩
      cases e
      exact ⟨rfl, rfl⟩
  | succ j ih =>
    intro m M a w hK hb h hk hm
    have hn := hK.2.1
    cases m with
    | zero => omega
    | succ m =>
      have h4 : ¬ (0 : Int32) ≤ M.1 4 := fun h9 => absurd hb (Int32.not_lt.mpr h9)
      rw [b_76_5, nI_add, if_neg (nI_ge (by omega) (by omega)), if_neg h4, m66 hK (by omega), Option.bind_some, hxS, e75]
      unfold b_76_51 b_76_54
      by_cases hc : f_36 (b a) = -1
      · have h0 : ¬ (0 : Int32) ≤ f_36 (b a) := fun h9 => ((hexn _).mp h9) hc
        rw [if_neg h0, if_pos hc, hK.1]
        have key : ((f_69 M (nI a)).bind fun r => (f_66 r (nI a)).bind fun r1 => b_76_5 m r (nI s) (nI D) (16 * nI w + f_75 r1) (nI a + 1)) = some (16 * nI w + f_75 (b a), (ru M.1 4 (nI a), M.2)) := by
          have f1 : fr [4] [] M (ru M.1 4 (nI a), M.2) := fr.r1 (by decide) fr.pr
          rw [m69 _ hb, Option.bind_some, m66 (hK.fr f1) (by omega), Option.bind_some]
          cases m with
          | zero => omega
          | succ m => exact m76k (by rw [rp]; exact nI_pos' (by omega))
        by_cases hle : n ≤ a
        · have : a = n := by omega
          subst this
          rw [if_pos (Int32.le_refl _), key]
          refine ⟨_, _, rfl, fr.r1 (by decide) fr.pr, fun w' e => (by cases e), fun p e => ?_⟩
          cases e
          exact rp
        · rw [if_neg (nI_ge (by omega) (by omega)), key]
          refine ⟨_, _, rfl, fr.r1 (by decide) fr.pr, fun w' e => (by cases e), fun p e => ?_⟩
          cases e
          exact rp
      · have h0 : (0 : Int32) ≤ f_36 (b a) := (hexn _).mpr hc
        have hl := lt_of36 hB hc
        obtain ⟨d, hd, e⟩ := hexd hc
        rw [if_pos h0, if_neg hc, m66 hK (by omega), Option.bind_some, e75, e, nI_clamp (by omega), nI_1, show (16 : Int32) = nI 16 from rfl, nI_mul, nI_add, Nat.mul_comm 16 w]
        exact ih m M (a + 1) (w * 16 + d) hK hb (by omega) (by omega) (by omega)
/-- a name from a on, u read, e: escaped -/
def rnS (b : Nat → Int32) : Nat → Nat → List Int32 → Int32 → (Nat × List Int32 × Int32) ⊕ Nat
  | 0, a, u, e => .inl (a, u, e)
  | m + 1, a, u, e => if b a = 92 then (if b (a + 1) = 117 then (match hxS b 4 (a + 2) 0 with
      | .inr p => .inr p
      | .inl w => if (if u.length = 0 then f_35 (nI w) else f_39 (nI w)) = 0 then .inr a else rnS b m (a + 6) (u ++ [nI w]) 1) else .inr (a + 1))
    else if f_39 (b a) = 0 then .inl (a, u, e) else rnS b m (a + 1) (u ++ [b a]) e
theorem lt_of39 {b : Nat → Int32} {n a : Nat} (hB : BK b n) (h : ¬ f_39 (b a) = 0) : a < n := by
  apply Nat.lt_of_not_le
  intro h9
  rw [hB.2 a h9] at h
  exact h z39
/-- an end of a name in the class -/
theorem c45e {b : Nat → Int32} {n : Nat} {C : CS} {a : Nat} {u : List Int32} (_ : CK C b n) (ha : C.1 11 = nI a) (hU : UR (C.2 1) (C.1 10) u) (hu : u.length ≤ 2000) : ∃ C', b_45_79 C = some (1, C') ∧ fr [7, 8, 10, 11, 12] [1] C C' ∧ C'.1 11 = nI a ∧ UR (C'.2 1) (C'.1 10) u ∧ C'.1 8 = C.1 8 ∧ C'.1 7 = wc u 45 0 := by
  unfold b_45_79
  rw [c44 hU hu, Option.bind_some]
  refine ⟨_, rfl, fr.r1 (by decide) fr.pr, (rq (by decide)).trans ha, ?_, rq (by decide), rp⟩
  rw [rq (by decide)]
  exact hU
theorem c41 {b : Nat → Int32} {n : Nat} (hB : BK b n) {C : CS} {a : Nat} {u : List Int32} (hK : CK C b n) (ha : C.1 11 = nI a) (hlt : a < n) (hU : UR (C.2 1) (C.1 10) u) (hu : u.length ≤ a) :
    ∃ v C', f_41 C = some (v, C') ∧ fr [8, 10, 11, 12] [1] C C' ∧ (b (a + 1) = 117 → (∀ w, hxS b 4 (a + 2) 0 = .inl w → ¬ (if u.length = 0 then f_35 (nI w) else f_39 (nI w)) = 0 → v = 1 ∧ C'.1 11 = nI (a + 6) ∧ UR (C'.2 1) (C'.1 10) (u ++ [nI w]) ∧ C'.1 8 = 1) ∧
      (∀ w, hxS b 4 (a + 2) 0 = .inl w → (if u.length = 0 then f_35 (nI w) else f_39 (nI w)) = 0 → v = 0 ∧ C'.1 12 = nI a) ∧ (∀ p, hxS b 4 (a + 2) 0 = .inr p → v = 0 ∧ C'.1 12 = nI p)) ∧ (¬ b (a + 1) = 117 → v = 0 ∧ C'.1 12 = nI (a + 1)) := by
  have hn := hK.2.1
  unfold f_41
  rw [ha, nI_1]
  have f1 : fr [8, 10, 11, 12] [1] C (ru (ru C.1 8 1) 11 (nI (a + 1)), C.2) := fr.r1 (by decide) (fr.r1 (by decide) fr.pr)
  rw [c28 (hK.fr f1) (by omega), Option.bind_some]
  by_cases h1 : b (a + 1) = 117
  · have hl1 := lt_of hB h1
    rw [if_pos h1, nI_1]
    have f2 : fr [8, 10, 11, 12] [1] C (ru (ru C.1 8 1) 11 (nI (a + 1 + 1)), C.2) := fr.r1 (by decide) (fr.r1 (by decide) fr.pr)
    obtain ⟨v, C1, e1, e2, e3, e4⟩ := c37 hB (D := 4) (by decide) 4 fu (ru (ru C.1 8 1) 11 (nI (a + 1 + 1)), C.2) (a + 2) 0 0 (hK.fr f2) rp (by omega) rfl (by rw [fu_e]; omega)
    unfold f_37
    rw [show b_37_4 fu (ru (ru C.1 8 1) 11 (nI (a + 1 + 1)), C.2) 4 0 0 = some (v, C1) from e1, Option.bind_some]
    dsimp only
    have f3 := f2.tr (e2.w (by decide) (by decide) : fr [8, 10, 11, 12] [1] _ _)
    cases hx : hxS b 4 (a + 2) 0 with
    | inr p =>
      obtain ⟨rfl, g⟩ := e4 p hx
      rw [if_neg (nn rfl)]
      exact ⟨_, _, rfl, f3, fun _ => ⟨fun w e => (by cases e), fun w e => (by cases e), fun q e => (by cases e; exact ⟨rfl, g⟩)⟩, fun h9 => absurd h1 h9⟩
    | inl w =>
      obtain ⟨rfl, g⟩ := e3 w hx
      have hw := ((hxS_b hB 4 (a + 2) 0 (by omega)).1 w hx)
      have h10 : C1.1 10 = nI u.length := ((e2.1 10 (by decide)).trans (rq (by decide))).trans ((ru_ne _ _ (by decide)).trans hU.1)
      have hU1 : UR (C1.2 1) (C1.1 10) u := ⟨h10, by rw [e2.2 1 (by decide)]; exact hU.2⟩
      have h8 : C1.1 8 = 1 := (e2.1 8 (by decide)).trans ((rq (by decide)).trans (ru_eq _ _ _))
      rw [if_pos (nI_m1 (by omega))]
      have key : ∀ s0 : Int32, s0 = (if u.length = 0 then f_35 (nI w) else f_39 (nI w)) → ∃ v C', b_41_92 C1 (nI a) (nI w) s0 = some (v, C') ∧ fr [8, 10, 11, 12] [1] C C' ∧ (¬ (if u.length = 0 then f_35 (nI w) else f_39 (nI w)) = 0 → v = 1 ∧ C'.1 11 = nI (a + 6) ∧ UR (C'.2 1) (C'.1 10) (u ++ [nI w]) ∧ C'.1 8 = 1) ∧ ((if u.length = 0 then f_35 (nI w) else f_39 (nI w)) = 0 → v = 0 ∧ C'.1 12 = nI a) := by
        intro s0 hs0
        unfold b_41_92
        rw [← hs0]
        by_cases hz : s0 = 0
        · rw [if_neg (nn hz), rf32]
          exact ⟨_, _, rfl, f3.tr (fr.r1 (by decide) fr.pr), fun h9 => absurd hz h9, fun _ => ⟨rfl, rp⟩⟩
        · obtain ⟨C2, k1, k2, k3⟩ := c40 (nI w) hU1 (by omega)
          rw [if_pos hz, k1, Option.bind_some]
          exact ⟨_, _, rfl, f3.tr (k2.w (by decide) (by decide)), fun _ => ⟨rfl, (k2.1 11 (by decide)).trans g, k3, (k2.1 8 (by decide)).trans h8⟩, fun h9 => absurd h9 hz⟩
      rw [h10]
      by_cases hu0 : u.length = 0
      · have : nI u.length = 0 := by rw [hu0]; rfl
        rw [if_neg (nn this)]
        obtain ⟨v, C', k1, k2, k3, k4⟩ := key (f_35 (nI w)) (by rw [if_pos hu0])
        exact ⟨v, C', k1, k2, fun _ => ⟨fun w' e h9 => (by cases e; exact k3 h9), fun w' e h9 => (by cases e; exact k4 h9), fun q e => (by cases e)⟩, fun h9 => absurd h1 h9⟩
      · have : ¬ nI u.length = 0 := nI_ne0 (by omega) (by omega)
        rw [if_pos this]
        obtain ⟨v, C', k1, k2, k3, k4⟩ := key (f_39 (nI w)) (by rw [if_neg hu0])
        exact ⟨v, C', k1, k2, fun _ => ⟨fun w' e h9 => (by cases e; exact k3 h9), fun w' e h9 => (by cases e; exact k4 h9), fun q e => (by cases e)⟩, fun h9 => absurd h1 h9⟩
  · rw [if_neg h1, rf32]
    exact ⟨_, _, rfl, f1.tr (fr.r1 (by decide) fr.pr), fun h9 => absurd h9 h1, fun _ => ⟨rfl, rp⟩⟩
theorem c45 {b : Nat → Int32} {n : Nat} (hB : BK b n) : ∀ (m : Nat) (C : CS) (r a : Nat) (u : List Int32), CK C b n → C.1 11 = nI a → r ≤ a → a ≤ n → n < r + m → UR (C.2 1) (C.1 10) u → u.length ≤ a →
    ∃ v C', b_45_10 m C (nI r) = some (v, C') ∧ fr [7, 8, 10, 11, 12] [1] C C' ∧ (∀ a' u' e', rnS b m a u (C.1 8) = .inl (a', u', e') → v = 1 ∧ C'.1 11 = nI a' ∧ UR (C'.2 1) (C'.1 10) u' ∧ C'.1 8 = e' ∧ C'.1 7 = wc u' 45 0) ∧ (∀ p, rnS b m a u (C.1 8) = .inr p → v = 0 ∧ C'.1 12 = nI p) := by
  intro m
  induction m with
  | zero => intro C r a u _ _ h h2; omega
  | succ m ih =>
    intro C r a u hK ha hr h h2 hU hu
    have hn := hK.2.1
    rw [b_45_10, rnS, c19 hK, ha]
    by_cases hle : n ≤ r
    · have e : a = n := by omega
      have h92 : ¬ b a = 92 := by rw [hB.2 a (by omega)]; decide
      have h39 : f_39 (b a) = 0 := by rw [hB.2 a (by omega)]; exact z39
      rw [if_pos (nI_le hle (by omega)), if_neg h92, if_pos h39]
      obtain ⟨C', k1, k2, k3, k4, k5, k6⟩ := c45e hK ha hU (by omega)
      refine ⟨_, _, k1, k2, fun a' u' e' h9 => ?_, fun p h9 => by cases h9⟩
      cases h9
      exact ⟨rfl, k3, k4, k5, k6⟩
    · rw [if_neg (nI_ge (by omega) (by omega)), c28 hK (by omega), Option.bind_some]
      unfold b_45_73
      by_cases h92 : b a = 92
      · have hlt := lt_of hB h92
        rw [if_neg (nn h92), if_pos h92]
        obtain ⟨v, C1, e1, e2, e3, e4⟩ := c41 hB hK ha hlt hU hu
        rw [e1, Option.bind_some]
        dsimp only
        have e2' : fr [7, 8, 10, 11, 12] [1] C C1 := e2.w (by decide) (by decide)
        by_cases h117 : b (a + 1) = 117
        · rw [if_pos h117]
          obtain ⟨g1, g2, g3⟩ := e3 h117
          cases hx : hxS b 4 (a + 2) 0 with
          | inr p =>
            obtain ⟨rfl, g⟩ := g3 p hx
            rw [if_neg (nn rfl)]
            exact ⟨_, _, rfl, e2', fun a' u' e' h9 => (by cases h9), fun q h9 => (by cases h9; exact ⟨rfl, g⟩)⟩
          | inl w =>
            dsimp only
            have hl1 := lt_of hB h117
            have hw := ((hxS_b hB 4 (a + 2) 0 (by omega)).1 w hx)
            by_cases hz : (if u.length = 0 then f_35 (nI w) else f_39 (nI w)) = 0
            · obtain ⟨rfl, g⟩ := g2 w hx hz
              rw [if_neg (nn rfl), if_pos hz]
              exact ⟨_, _, rfl, e2', fun a' u' e' h9 => (by cases h9), fun q h9 => (by cases h9; exact ⟨rfl, g⟩)⟩
            · obtain ⟨rfl, k1, k2, k3⟩ := g1 w hx hz
              rw [if_pos (by decide), if_neg hz, nI_1]
              obtain ⟨v, C2, j1, j2, j3, j4⟩ := ih C1 (r + 1) (a + 6) (u ++ [nI w]) (hK.fr e2') k1 (by omega) (by omega) (by omega) k2 (by simp; omega)
              rw [k3] at j3 j4
              exact ⟨v, C2, j1, e2'.tr j2, j3, j4⟩
        · rw [if_neg h117]
          obtain ⟨rfl, g⟩ := e4 h117
          rw [if_neg (nn rfl)]
          exact ⟨_, _, rfl, e2', fun a' u' e' h9 => (by cases h9), fun q h9 => (by cases h9; exact ⟨rfl, g⟩)⟩
      · rw [if_pos h92, if_neg h92]
        by_cases h39 : f_39 (b a) = 0
        · rw [if_pos h39, if_pos h39]
          obtain ⟨C', k1, k2, k3, k4, k5, k6⟩ := c45e hK ha hU (by omega)
          refine ⟨_, _, k1, k2, fun a' u' e' h9 => ?_, fun p h9 => by cases h9⟩
          cases h9
          exact ⟨rfl, k3, k4, k5, k6⟩
        · have hlt := lt_of39 hB h39
          rw [if_neg h39, if_neg h39]
          obtain ⟨C1, k1, k2, k3⟩ := c40 (b a) hU (by omega)
          rw [k1, Option.bind_some, (k2.1 11 (by decide)).trans ha, nI_1, nI_1]
          have f1 : fr [7, 8, 10, 11, 12] [1] C (ru C1.1 11 (nI (a + 1)), C1.2) := (k2.w (by decide) (by decide)).tr (fr.r1 (by decide) fr.pr)
          obtain ⟨v, C2, j1, j2, j3, j4⟩ := ih (ru C1.1 11 (nI (a + 1)), C1.2) (r + 1) (a + 1) (u ++ [b a]) (hK.fr f1) rp (by omega) (by omega) (by omega) (by rw [rq (by decide)]; exact k3) (by simp; omega)
          rw [rq (by decide), k2.1 8 (by decide)] at j3 j4
          exact ⟨v, C2, j1, f1.tr j2, j3, j4⟩
