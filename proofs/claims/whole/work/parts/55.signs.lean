/-! signs -/
def sg (k : Nat) : List Int32 := ((ms_byt 1).drop (kst_11 k).toNatClampNeg).take (kst_11 (k + 1) - kst_11 k - 1).toNatClampNeg
theorem ks1 : ∀ k, k < 48 → kst_11 (k + 1) - kst_11 k - 1 = nI (sg k).length ∧ 1 ≤ (sg k).length ∧ (sg k).length ≤ 4 ∧ ∀ c ∈ sg k, ¬ c = -1 := by decide +kernel
theorem ks2 : ∀ k, k < 48 → ∀ j, j < (sg k).length → sok 1 (kst_11 k + nI j) = true ∧ sc 1 (kst_11 k + nI j) = (sg k).getD j 0 := by decide +kernel
def kz (z : Nat) : Nat := (ms_sgn.filter (fun x => decide (x < nI z))).length
def mr (z : Nat) : Bool := Nat.blt 32 z && Nat.blt z 54
theorem km1 : ∀ z, z < 75 → 1 ≤ z → f_88 (nI z) < 101 ∧ (ms_byt (f_88 (nI z))).length ≤ 4 ∧ ((kz (z + 1) = kz z + 1 ∧ kz z < 48 ∧ ms_sgn.getD (kz z) 0 = nI z ∧ ms_byt (f_88 (nI z)) ++ (if mr z = true then [61] else []) = sg (kz z) ∧ ¬ (ms_byt (f_88 (nI z))).length = 0) ∨ (kz (z + 1) = kz z ∧ (ms_byt (f_88 (nI z))).length = 0)) := by decide +kernel
theorem km2 : kz 1 = 0 ∧ kz 75 = 48 := by decide +kernel
def matchS (b : Nat → Int32) : List Int32 → Nat → Bool
  | [], _ => true
  | c :: r, a => decide (c = b a) && matchS b r (a + 1)
theorem matchS_app (b : Nat → Int32) : ∀ (l r : List Int32) (a : Nat), matchS b (l ++ r) a = (matchS b l a && matchS b r (a + l.length))
  | [], r, a => by simp [matchS]
  | c :: l, r, a => by
    rw [List.cons_append, matchS, matchS, matchS_app b l r (a + 1), List.length_cons, Bool.and_assoc, Nat.add_assoc, Nat.add_comm 1 l.length]
theorem matchS_b {b : Nat → Int32} {n : Nat} (hB : BK b n) : ∀ (l : List Int32) (a : Nat), a ≤ n → (∀ c ∈ l, ¬ c = -1) → matchS b l a = true → a + l.length ≤ n
  | [], a, h, _, _ => by simpa using h
  | c :: l, a, h, hc, hm => by
    rw [matchS, Bool.and_eq_true, decide_eq_true_eq] at hm
    have hl : a < n := lt_of hB hm.1.symm (hc c List.mem_cons_self)
    have := matchS_b hB l (a + 1) (by omega) (fun x hx => hc x (List.mem_cons_of_mem _ hx)) hm.2
    rw [List.length_cons]
    omega
def lenO : Option Nat → Nat
  | none => 0
  | some k => (sg k).length
def idxO : Option Nat → Int32
  | none => -1
  | some k => nI k
def numO : Option Nat → Int32
  | none => 0
  | some k => ms_sgn.getD k 0
/-- the longest of those from k on -/
def sgF (b : Nat → Int32) (a : Nat) : Nat → Nat → Option Nat → Option Nat
  | 0, _, w => w
  | j + 1, k, w => sgF b a j (k + 1) (if lenO w < (sg k).length ∧ matchS b (sg k) a = true then some k else w)
def wok (w : Option Nat) (b : Nat → Int32) (a : Nat) : Prop := ∀ k, w = some k → k < 48 ∧ matchS b (sg k) a = true
theorem sgF_ok (b : Nat → Int32) (a : Nat) : ∀ j k w, k + j = 48 → wok w b a → wok (sgF b a j k w) b a := by
  intro j
  induction j with
  | zero => intro k w _ h; exact h
  | succ j ih =>
    intro k w hk h
    rw [sgF]
    refine ih (k + 1) _ (by omega) ?_
    by_cases hc : lenO w < (sg k).length ∧ matchS b (sg k) a = true
    · rw [if_pos hc]
      intro k' e
      cases e
      exact ⟨by omega, hc.2⟩
    · rw [if_neg hc]; exact h
theorem c42s (C : CS) {w : Option Nat} (hw : ∀ k, w = some k → k < 48) : f_42_9 C (idxO w) = some (nI (lenO w)) := by
  cases w with
  | none =>
    unfold f_42_9 idxO lenO
    rw [if_pos (by decide)]
    rfl
  | some k =>
    have hk := hw k rfl
    unfold f_42_9
    show (if nI k < 0 then _ else _) = _
    have h1 : ¬ ((49 : Int32) - 1) ≤ nI k := nI_ge (b := 48) hk (by decide)
    rw [if_neg (nI_pos (by omega))]
    show (if ((49 : Int32) - 1) ≤ nI k then _ else _) = _
    rw [if_neg h1]
    show (if mv_in (nI k + 1) 49 = true then if mv_in (nI k) 49 = true then some (kst_11 (nI k + 1).toNatClampNeg - kst_11 (nI k).toNatClampNeg - 1) else none else none) = _
    rw [nI_1, if_pos (mv_in_nI (show k + 1 < 49 by omega) (by decide)), if_pos (mv_in_nI (show k < 49 by omega) (by decide)), nI_clamp (by omega), nI_clamp (by omega), (ks1 k hk).1]
    rfl
theorem c57l {b : Nat → Int32} {n : Nat} {C : CS} {a k : Nat} (hK : CK C b n) (ha : a ≤ n) (hk : k < 48) : ∀ (d m j : Nat), j + d = (sg k).length → d < m → b_57_9_10 m C (nI k) (nI a) (nI (sg k).length) (nI j) = some (if matchS b ((sg k).drop j) (a + j) = true then 1 else 0) := by
  intro d
  have hn := hK.2.1
  have hlt := (ks1 k hk).2.2.1
  induction d with
  | zero =>
    intro m j hj hm
    cases m with
    | zero => omega
    | succ m =>
      rw [b_57_9_10, if_pos (nI_le (by omega) (by omega)), List.drop_eq_nil_of_le (by omega)]
      rfl
  | succ d ih =>
    intro m j hj hm
    cases m with
    | zero => omega
    | succ m =>
      have t := ks2 k hk j (by omega)
      have hd : (sg k).drop j = (sg k).getD j 0 :: (sg k).drop (j + 1) := by
        rw [List.drop_eq_getElem_cons (by omega), List.getD_eq_getElem?_getD, List.getElem?_eq_getElem (by omega)]
        rfl
      rw [b_57_9_10, if_neg (nI_ge (show j < (sg k).length by omega) (by omega)), if_pos (mv_in_nI (show k < 49 by omega) (by decide)), nI_clamp (show k < 2 ^ 31 by omega), if_pos t.1, nI_add, c28 hK (by omega), Option.bind_some, t.2, hd, matchS, nI_1]
      by_cases he : (sg k).getD j 0 = b (a + j)
      · rw [if_pos he, ih m (j + 1) (by omega) (by omega), decide_eq_true he, Bool.true_and]
        rfl
      · rw [if_neg he, decide_eq_false he, Bool.false_and]
        rfl
theorem c57 {b : Nat → Int32} {n : Nat} {C : CS} {a k : Nat} (hK : CK C b n) (ha : a ≤ n) (hk : k < 48) : f_57_9 C (nI k) (nI a) = some (if matchS b (sg k) a = true then 1 else 0) := by
  unfold f_57_9
  have e := c42s C (w := some k) (fun k' h => by cases h; exact hk)
  have hlt := (ks1 k hk).2.2.1
  rw [show f_42_9 C (nI k) = some (nI (sg k).length) from e, Option.bind_some]
  have := c57l hK ha hk (sg k).length fu 0 (by omega) (by rw [fu_e]; omega)
  rw [List.drop_zero, Nat.add_zero] at this
  exact this
theorem c58l {b : Nat → Int32} {n : Nat} {C : CS} {a : Nat} (hK : CK C b n) (ha : a ≤ n) : ∀ (j m k : Nat) (w : Option Nat), k + j = 48 → j < m → (∀ i, w = some i → i < 48) → b_58_9_5 m C (nI a) (idxO w) (nI k) = some (idxO (sgF b a j k w)) := by
  intro j
  induction j with
  | zero =>
    intro m k w hk hm hw
    cases m with
    | zero => omega
    | succ m =>
      have h1 : ((49 : Int32) - 1) ≤ nI k := nI_le (a := 48) (by omega) (by omega)
      rw [b_58_9_5, if_pos h1, sgF]
  | succ j ih =>
    intro m k w hk hm hw
    cases m with
    | zero => omega
    | succ m =>
      have h1 : ¬ ((49 : Int32) - 1) ≤ nI k := nI_ge (b := 48) (by omega) (by decide)
      have hlk := (ks1 k (by omega)).2.2.1
      have hlw : lenO w ≤ 4 := by
        cases w with
        | none => exact Nat.zero_le _
        | some i => exact (ks1 i (hw i rfl)).2.2.1
      have e1 := c42s C (w := some k) (fun k' h => by cases h; omega)
      rw [b_58_9_5, if_neg h1, show f_42_9 C (nI k) = some (nI (sg k).length) from e1, Option.bind_some, c42s C hw, Option.bind_some, c57 hK ha (show k < 48 by omega), Option.bind_some, sgF]
      unfold b_58_9_45
      rw [nI_1]
      by_cases hl : lenO w < (sg k).length
      · rw [if_neg (nI_ge hl (by omega))]
        by_cases hm1 : matchS b (sg k) a = true
        · rw [if_pos hm1, if_neg (show ¬ (1 : Int32) = 0 by decide), if_pos (show lenO w < (sg k).length ∧ matchS b (sg k) a = true from ⟨hl, hm1⟩)]
          exact ih m (k + 1) (some k) (by omega) (by omega) (fun i h => by cases h; omega)
        · rw [if_neg hm1, if_pos (show (0 : Int32) = 0 from rfl), if_neg (show ¬ (lenO w < (sg k).length ∧ matchS b (sg k) a = true) from fun h => hm1 h.2)]
          exact ih m (k + 1) w (by omega) (by omega) hw
      · rw [if_pos (nI_le (by omega) (by omega)), if_neg (show ¬ (lenO w < (sg k).length ∧ matchS b (sg k) a = true) from fun h => hl h.1)]
        exact ih m (k + 1) w (by omega) (by omega) hw
def sgS (b : Nat → Int32) (a : Nat) : Option Nat := sgF b a 48 0 none
theorem sgS_ok (b : Nat → Int32) (a : Nat) : wok (sgS b a) b a := sgF_ok b a 48 0 none rfl (fun k h => by cases h)
theorem c59 {b : Nat → Int32} {n : Nat} {C : CS} {a : Nat} (hK : CK C b n) (ha : C.1 11 = nI a) (h : a ≤ n) :
    ∃ v C', f_59 C = some (v, C') ∧ fr [3, 9, 11, 12] [] C C' ∧ (∀ k, sgS b a = some k → v = 1 ∧ C'.1 3 = 4 ∧ C'.1 9 = ms_sgn.getD k 0 ∧ C'.1 11 = nI (a + (sg k).length)) ∧ (sgS b a = none → v = 0 ∧ C'.1 12 = nI a) := by
  have hn := hK.2.1
  have e58 : f_58_9 C (nI a) = some (idxO (sgS b a)) := c58l hK h 48 fu 0 none rfl (by decide) (fun i h => by cases h)
  unfold f_59 b_59_28
  rw [ha, e58, Option.bind_some, rf32]
  have ho := sgS_ok b a
  cases hs : sgS b a with
  | none =>
    rw [if_pos (show idxO none < 0 by decide)]
    exact ⟨_, _, rfl, fr.r1 (by decide) fr.pr, fun k h9 => (by cases h9), fun _ => ⟨rfl, rp⟩⟩
  | some k =>
    obtain ⟨hk, hm⟩ := ho k hs
    rw [show idxO (some k) = nI k from rfl, if_neg (nI_pos (by omega)), if_pos (show nI k < 48 from nI_lt (b := 48) hk (by decide)), if_pos (mv_in_nI hk (by decide)), nI_clamp (by omega)]
    have e := c42s (ru (ru C.1 3 4) 9 (ms_sgn.getD k 0), C.2) (w := some k) (fun k' h => by cases h; exact hk)
    rw [show f_42_9 (ru (ru C.1 3 4) 9 (ms_sgn.getD k 0), C.2) (nI k) = some (nI (sg k).length) from e, Option.bind_some, nI_add]
    refine ⟨_, _, rfl, fr.r1 (by decide) (fr.r1 (by decide) (fr.r1 (by decide) fr.pr)), fun k' h9 => ?_, fun h9 => (by cases h9)⟩
    cases h9
    exact ⟨rfl, (rq (by decide)).trans ((ru_ne _ _ (by decide)).trans (ru_eq _ _ _)), (rq (by decide)).trans (ru_eq _ _ _), rp⟩
theorem m89l {b : Nat → Int32} {n : Nat} {M : CS} {a q : Nat} {s0 : Int32} {eq : Bool} (hK : MK M b n) (ha : M.1 5 = nI a) (h : a ≤ n) (hq : q < 101) (hl4 : (ms_byt q).length ≤ 4) (hl0 : ¬ (ms_byt q).length = 0) (hs0 : s0 = if eq = true then 1 else 0) : ∀ (d m j : Nat), j + d = (ms_byt q).length → d < m → b_89_32 m M s0 q (nI (ms_byt q).length) (nI j) = some (if matchS b ((ms_byt q).drop j ++ (if eq = true then [61] else [])) (a + j) = true then nI ((ms_byt q).length + (if eq = true then 1 else 0)) else 0) := by
  intro d
  have hn := hK.2.1
  induction d with
  | zero =>
    intro m j hj hm
    have hjl : j = (ms_byt q).length := by omega
    cases m with
    | zero => omega
    | succ m =>
      subst hjl
      rw [b_89_32, if_pos (Int32.le_refl _), if_neg (nI_ne0 (by omega) (by omega)), List.drop_eq_nil_of_le (by omega), List.nil_append, ha, nI_add, m66 hK (by omega), Option.bind_some]
      unfold b_89_94
      cases eq with
      | false =>
        subst hs0
        rfl
      | true =>
        subst hs0
        rw [if_pos rfl, if_neg (show ¬ (1 : Int32) = 0 by decide), if_neg (show ¬ (1 : Int32) = 0 by decide), if_pos rfl, if_pos rfl, matchS, matchS, Bool.and_true, nI_1]
        by_cases he : b (a + (ms_byt q).length) = 61
        · rw [if_pos he, if_pos (decide_eq_true he.symm)]
        · rw [if_neg he, if_neg (by rw [decide_eq_true_eq]; exact fun h => he h.symm)]
  | succ d ih =>
    intro m j hj hm
    cases m with
    | zero => omega
    | succ m =>
      have hs : sok q (nI j) = true := by
        unfold sok
        rw [show Nat.blt q 101 = true from Nat.ble_eq_true_of_le hq, mv_in_nI (by omega) (by omega)]
        rfl
      have hsc : sc q (nI j) = (ms_byt q).getD j 0 := by
        unfold sc
        rw [nI_clamp (by omega)]
      have hd : (ms_byt q).drop j = (ms_byt q).getD j 0 :: (ms_byt q).drop (j + 1) := by
        rw [List.drop_eq_getElem_cons (by omega), List.getD_eq_getElem?_getD, List.getElem?_eq_getElem (by omega)]
        rfl
      rw [b_89_32, if_neg (nI_ge (show j < (ms_byt q).length by omega) (by omega)), ha, nI_add, m66 hK (by omega), Option.bind_some, if_pos hs, hsc, hd, List.cons_append, matchS, nI_1]
      by_cases he : b (a + j) = (ms_byt q).getD j 0
      · rw [if_pos he, ih m (j + 1) (by omega) (by omega), decide_eq_true he.symm, Bool.true_and]
        rfl
      · rw [if_neg he, decide_eq_false (fun h => he h.symm), Bool.false_and]
        rfl
theorem m89 {b : Nat → Int32} {n : Nat} {M : CS} {a z : Nat} (hK : MK M b n) (ha : M.1 5 = nI a) (h : a ≤ n) (hz : z < 75) (hz1 : 1 ≤ z) :
    (kz (z + 1) = kz z + 1 ∧ kz z < 48 ∧ ms_sgn.getD (kz z) 0 = nI z ∧ f_89 M (nI z) = some (if matchS b (sg (kz z)) a = true then nI (sg (kz z)).length else 0)) ∨ (kz (z + 1) = kz z ∧ f_89 M (nI z) = some 0) := by
  have hn := hK.2.1
  obtain ⟨g1, g2, g3⟩ := km1 z hz hz1
  have e89 : f_89 M (nI z) = b_89_17 M (nI z) (if mr z = true then 1 else 0) := by
    unfold f_89 b_89_16
    by_cases t1 : z ≤ 32
    · have : mr z = false := by
        unfold mr
        rw [show Nat.blt 32 z = false from by
          cases h9 : Nat.blt 32 z with
          | false => rfl
          | true => have := Nat.le_of_ble_eq_true h9; omega]
        rfl
      rw [if_pos (show nI z ≤ 32 from nI_le (b := 32) t1 (by decide)), this]
      rfl
    · rw [if_neg (show ¬ nI z ≤ 32 from nI_ge (a := 32) (by omega) (by omega))]
      by_cases t2 : 54 ≤ z
      · have : mr z = false := by
          unfold mr
          rw [show Nat.blt z 54 = false from by
            cases h9 : Nat.blt z 54 with
            | false => rfl
            | true => have := Nat.le_of_ble_eq_true h9; omega, Bool.and_false]
        rw [if_pos (show 54 ≤ nI z from nI_le (a := 54) t2 (by omega)), this]
        rfl
      · have : mr z = true := by
          unfold mr
          rw [show Nat.blt 32 z = true from Nat.ble_eq_true_of_le (by omega), show Nat.blt z 54 = true from Nat.ble_eq_true_of_le (by omega)]
          rfl
        rw [if_neg (show ¬ 54 ≤ nI z from nI_ge (b := 54) (by omega) (by decide)), this]
        rfl
  rw [e89]
  unfold b_89_17
  rw [if_pos (show Nat.blt (f_88 (nI z)) 101 = true from Nat.ble_eq_true_of_le g1)]
  rcases g3 with ⟨k1, k2, k3, k4, k5⟩ | ⟨k1, k2⟩
  · left
    refine ⟨k1, k2, k3, ?_⟩
    have := m89l (eq := mr z) hK ha h g1 g2 k5 rfl (ms_byt (f_88 (nI z))).length fu 0 (by omega) (by rw [fu_e]; omega)
    rw [List.drop_zero, Nat.add_zero, k4] at this
    have hlen : (ms_byt (f_88 (nI z))).length + (if mr z = true then 1 else 0) = (sg (kz z)).length := by
      rw [← k4, List.length_append]
      cases mr z <;> rfl
    rw [hlen] at this
    exact this
  · right
    refine ⟨k1, ?_⟩
    have : sl (f_88 (nI z)) = 0 := by
      unfold sl
      rw [k2]
      rfl
    rw [this, fu_e, b_89_32, if_pos (Int32.le_refl _), if_pos rfl]
theorem m90l {b : Nat → Int32} {n : Nat} {a : Nat} (h : a ≤ n) : ∀ (d m z : Nat) (M : CS) (w : Option Nat), MK M b n → M.1 5 = nI a → M.1 4 < 0 → z + d = 75 → 1 ≤ z → d < m → kz z ≤ 48 → M.1 11 = numO w → (∀ i, w = some i → i < 48) →
    ∃ M', b_90_9 m M (nI (lenO w)) (nI z) = some M' ∧ fr [4, 5, 11] [] M M' ∧ (∀ k, sgF b a (48 - kz z) (kz z) w = some k → M'.1 5 = nI (a + (sg k).length) ∧ M'.1 11 = ms_sgn.getD k 0 ∧ M'.1 4 = M.1 4) ∧ (sgF b a (48 - kz z) (kz z) w = none → M'.1 4 = nI a) := by
  intro d
  induction d with
  | zero =>
    intro m z M w hK ha hbad hz hz1 hm hkz hw hwi
    have hn := hK.2.1
    cases m with
    | zero => omega
    | succ m =>
      have hz75 : z = 75 := by omega
      subst hz75
      rw [km2.2, b_90_9, if_pos (show (75 : Int32) ≤ nI 75 by decide)]
      show ∃ M', (if ¬ nI (lenO w) = 0 then _ else _) = some M' ∧ _ ∧ (∀ k, w = some k → _) ∧ (w = none → _)
      unfold b_90_56
      cases w with
      | none =>
        rw [if_neg (nn (show nI (lenO none) = 0 from rfl)), m69 _ hbad, Option.bind_some]
        refine ⟨_, rfl, fr.r1 (by decide) (fr.r1 (by decide) fr.pr), fun k h9 => (by cases h9), fun _ => ?_⟩
        exact (rq (by decide)).trans (rp.trans ha)
      | some k =>
        have hk := ks1 k (hwi k rfl)
        rw [if_pos (show ¬ nI (lenO (some k)) = 0 from nI_ne0 hk.2.1 (Nat.lt_of_le_of_lt hk.2.2.1 (by decide))), ha]
        refine ⟨_, rfl, fr.r1 (by decide) fr.pr, fun k' h9 => ?_, fun h9 => (by cases h9)⟩
        cases h9
        exact ⟨by rw [rp]; exact nI_add _ _, (rq (by decide)).trans hw, rq (by decide)⟩
  | succ d ih =>
    intro m z M w hK ha hbad hz hz1 hm hkz hw hwi
    have hn := hK.2.1
    cases m with
    | zero => omega
    | succ m =>
      have hlw : lenO w ≤ 4 := by
        cases w with
        | none => exact Nat.zero_le _
        | some i => exact (ks1 i (hwi i rfl)).2.2.1
      rw [b_90_9, if_neg (show ¬ 75 ≤ nI z from nI_ge (b := 75) (by omega) (by decide))]
      unfold b_90_38
      rw [nI_1]
      rcases m89 hK ha h (by omega) hz1 with ⟨k1, k2, k3, k4⟩ | ⟨k1, k2⟩
      · rw [k4, Option.bind_some, Option.bind_some]
        have hlk := ks1 (kz z) k2
        have e48 : 48 - kz z = (48 - kz (z + 1)) + 1 := by omega
        rw [e48, sgF, ← k1]
        by_cases hm1 : matchS b (sg (kz z)) a = true
        · rw [if_pos hm1]
          by_cases hl : lenO w < (sg (kz z)).length
          · rw [if_pos (nI_lt hl (by omega)), if_pos (show lenO w < (sg (kz z)).length ∧ matchS b (sg (kz z)) a = true from ⟨hl, hm1⟩)]
            have f1 : fr [4, 5, 11] [] M (ru M.1 11 (nI z), M.2) := fr.r1 (by decide) fr.pr
            obtain ⟨M', j1, j2, j3, j4⟩ := ih m (z + 1) (ru M.1 11 (nI z), M.2) (some (kz z)) (hK.fr f1) ((rq (by decide)).trans ha) (by rw [rq (by decide)]; exact hbad) (by omega) (by omega) (by omega) (by omega) (rp.trans k3.symm) (fun i h9 => by cases h9; exact k2)
            rw [rq (by decide)] at j3
            exact ⟨M', j1, f1.tr j2, j3, j4⟩
          · rw [if_neg (nI_nlt (by omega) (by omega)), if_neg (show ¬ (lenO w < (sg (kz z)).length ∧ matchS b (sg (kz z)) a = true) from fun h => hl h.1)]
            exact ih m (z + 1) M w hK ha hbad (by omega) (by omega) (by omega) (by omega) hw hwi
        · rw [if_neg hm1, if_neg (show ¬ nI (lenO w) < 0 from nI_pos (by omega)), if_neg (show ¬ (lenO w < (sg (kz z)).length ∧ matchS b (sg (kz z)) a = true) from fun h => hm1 h.2)]
          exact ih m (z + 1) M w hK ha hbad (by omega) (by omega) (by omega) (by omega) hw hwi
      · rw [k2, Option.bind_some, if_neg (show ¬ nI (lenO w) < 0 from nI_pos (by omega)), ← k1]
        exact ih m (z + 1) M w hK ha hbad (by omega) (by omega) (by omega) (by omega) hw hwi
theorem m90 {b : Nat → Int32} {n : Nat} {M : CS} {a : Nat} (hK : MK M b n) (ha : M.1 5 = nI a) (h : a ≤ n) (hbad : M.1 4 < 0) (hs : M.1 11 = 0) :
    ∃ M', f_90 M = some M' ∧ fr [4, 5, 6, 11] [] M M' ∧ M'.1 6 = 4 ∧ (∀ k, sgS b a = some k → M'.1 5 = nI (a + (sg k).length) ∧ M'.1 11 = ms_sgn.getD k 0 ∧ M'.1 4 = M.1 4) ∧ (sgS b a = none → M'.1 4 = nI a) := by
  have f0 : fr [4, 5, 6, 11] [] M (ru M.1 6 4, M.2) := fr.r1 (by decide) fr.pr
  obtain ⟨M', j1, j2, j3, j4⟩ := m90l h 74 fu 1 (ru M.1 6 4, M.2) none (hK.fr f0) ((rq (by decide)).trans ha) (by rw [rq (by decide)]; exact hbad) rfl (by decide) (by decide) (by rw [km2.1]; decide) ((rq (by decide)).trans hs) (fun i h9 => by cases h9)
  rw [km2.1, rq (by decide)] at j3
  rw [km2.1] at j4
  exact ⟨M', j1, f0.tr (j2.w (by decide) (by decide)), (j2.1 6 (by decide)).trans rp, j3, j4⟩
