/-! the language's words -/
def wW (k : Nat) : List Int32 := ms_byt (17 + k)
theorem kw1 : ∀ k, k < 45 → kst_8 (k + 1) - kst_8 k - 1 = nI (wW k).length ∧ (wW k).length < 20 := by decide +kernel
theorem kw2 : ∀ k, k < 45 → ∀ j, j < (wW k).length → sok 0 (kst_8 k + nI j) = true ∧ sc 0 (kst_8 k + nI j) = (wW k).getD j 0 := by decide +kernel
theorem kw3 : ∀ i, i < 45 → ∀ j, j < 45 → wW i = wW j → i = j := by decide +kernel
theorem kw4 : ∀ k, k < 45 → f_78 (nI k) = 17 + k := by decide +kernel
theorem list_eq {u w : List Int32} (hl : u.length = w.length) (h : ∀ j, j < u.length → u.getD j 0 = w.getD j 0) : u = w := by
  apply List.ext_getElem hl
  intro j h1 h2
  have := h j h1
  rw [List.getD_eq_getElem?_getD, List.getD_eq_getElem?_getD, List.getElem?_eq_getElem h1, List.getElem?_eq_getElem h2] at this
  exact this
theorem c42 (C : CS) {k : Nat} (hk : k < 45) : f_42_6 C (nI k) = some (nI (wW k).length) := by
  unfold f_42_6
  have h1 : ¬ ((46 : Int32) - 1) ≤ nI k := nI_ge (b := 45) hk (by decide)
  rw [if_neg (nI_pos (by omega)), if_neg h1, nI_1, if_pos (mv_in_nI (show k + 1 < 46 by omega) (by decide)), if_pos (mv_in_nI (show k < 46 by omega) (by decide)), nI_clamp (by omega), nI_clamp (by omega), (kw1 k hk).1]
theorem c43l {C : CS} {u : List Int32} {k : Nat} (hU : UR (C.2 1) (C.1 10) u) (hk : k < 45) (hl : (wW k).length = u.length) : ∀ (d m j : Nat), j + d = u.length → d < m → (∀ i, i < j → (wW k).getD i 0 = u.getD i 0) → b_43_6_19 m C (nI k) (nI u.length) (nI j) = some (if wW k = u then 1 else 0) := by
  intro d
  have hlt := (kw1 k hk).2
  induction d with
  | zero =>
    intro m j hj hm hp
    cases m with
    | zero => omega
    | succ m =>
      rw [b_43_6_19, if_pos (nI_le (by omega) (by omega)), if_pos (list_eq hl (fun i hi => hp i (by omega)))]
  | succ d ih =>
    intro m j hj hm hp
    cases m with
    | zero => omega
    | succ m =>
      have t := kw2 k hk j (by omega)
      rw [b_43_6_19, if_neg (nI_ge (show j < u.length by omega) (by omega)), if_pos (mv_in_nI (show k < 46 by omega) (by decide)), nI_clamp (show k < 2 ^ 31 by omega), if_pos t.1, if_pos (mv_in_nI (show j < 2000 by omega) (by decide)), nI_clamp (show j < 2 ^ 31 by omega), t.2, hU.2 j (by omega)]
      by_cases he : (wW k).getD j 0 = u.getD j 0
      · rw [if_pos he, nI_1]
        exact ih m (j + 1) (by omega) (by omega) (fun i hi => by
          by_cases h9 : i = j
          · rw [h9]; exact he
          · exact hp i (by omega))
      · rw [if_neg he, if_neg (fun h9 => he (by rw [h9]))]
theorem c43 {C : CS} {u : List Int32} {k : Nat} (hU : UR (C.2 1) (C.1 10) u) (hu : u.length ≤ 2000) (hk : k < 45) : f_43_6 C (nI k) = some (if wW k = u then 1 else 0) := by
  unfold f_43_6
  have hlt := (kw1 k hk).2
  rw [c42 C hk, Option.bind_some, hU.1]
  by_cases hl : (wW k).length = u.length
  · rw [if_pos (by rw [hl]), hl]
    exact c43l hU hk hl u.length fu 0 (by omega) (by rw [fu_e]; omega) (fun i hi => absurd hi (Nat.not_lt_zero _))
  · have h1 : ¬ nI (wW k).length = nI u.length := by
      rw [nI_eq (by omega) (by omega)]
      exact hl
    rw [if_neg h1, if_neg (fun h9 => hl (by rw [h9]))]
/-- the number of the word, or -1 -/
def wc (u : List Int32) : Nat → Nat → Int32
  | 0, _ => -1
  | j + 1, k => if wW k = u then nI k else wc u j (k + 1)
theorem c44l {C : CS} {u : List Int32} (hU : UR (C.2 1) (C.1 10) u) (hu : u.length ≤ 2000) : ∀ (j m k : Nat), k + j = 45 → j < m → b_44_6_2 m C (nI k) = some (wc u j k) := by
  intro j
  induction j with
  | zero =>
    intro m k hk hm
    cases m with
    | zero => omega
    | succ m =>
      have h1 : ((46 : Int32) - 1) ≤ nI k := nI_le (a := 45) (by omega) (by omega)
      rw [b_44_6_2, if_pos h1, wc]
  | succ j ih =>
    intro m k hk hm
    cases m with
    | zero => omega
    | succ m =>
      have h1 : ¬ ((46 : Int32) - 1) ≤ nI k := nI_ge (b := 45) (by omega) (by decide)
      rw [b_44_6_2, if_neg h1, c43 hU hu (by omega), Option.bind_some, wc]
      by_cases he : wW k = u
      · rw [if_pos he, if_pos he, if_neg (by decide)]
      · rw [if_neg he, if_neg he, if_pos rfl, nI_1]
        exact ih m (k + 1) (by omega) (by omega)
theorem c44 {C : CS} {u : List Int32} (hU : UR (C.2 1) (C.1 10) u) (hu : u.length ≤ 2000) : f_44_6 C = some (wc u 45 0) := c44l hU hu 45 fu 0 rfl (by decide)
theorem m79l {M : CS} {u : List Int32} {q : Nat} (hU : UR (M.2 1) (M.1 12) u) (hu : u.length ≤ 2000) (hq : q < 101) (hl : (ms_byt q).length = u.length) : ∀ (d m j : Nat), j + d = u.length → d + 1 < m → (∀ i, i < j → (ms_byt q).getD i 0 = u.getD i 0) → b_79_19 m M q 1 (nI j) = some (if ms_byt q = u then 1 else 0) := by
  intro d
  have hlt := (sc_all q hq).1
  induction d with
  | zero =>
    intro m j hj hm hp
    cases m with
    | zero => omega
    | succ m =>
      rw [b_79_19, hU.1, if_pos (nI_le (by omega) (by omega)), if_pos (Or.inr rfl), if_pos (list_eq hl (fun i hi => hp i (by omega)))]
  | succ d ih =>
    intro m j hj hm hp
    cases m with
    | zero => omega
    | succ m =>
      have hs : sok q (nI j) = true := by
        unfold sok
        rw [show Nat.blt q 101 = true from Nat.ble_eq_true_of_le hq, mv_in_nI (by omega) (by omega)]
        rfl
      have hsc : sc q (nI j) = (ms_byt q).getD j 0 := by
        unfold sc
        rw [nI_clamp (by omega)]
      rw [b_79_19, hU.1, if_neg (nI_ge (show j < u.length by omega) (by omega)), if_neg (by decide), if_pos hs, if_pos (mv_in_nI (show j < 2000 by omega) (by decide)), nI_clamp (show j < 2 ^ 31 by omega), hsc, hU.2 j (by omega)]
      unfold b_79_50
      rw [nI_1]
      by_cases he : (ms_byt q).getD j 0 = u.getD j 0
      · rw [if_neg (nn he)]
        exact ih m (j + 1) (by omega) (by omega) (fun i hi => by
          by_cases h9 : i = j
          · rw [h9]; exact he
          · exact hp i (by omega))
      · rw [if_pos he, if_neg (fun h9 => he (by rw [h9]))]
        cases m with
        | zero => omega
        | succ m =>
          rw [b_79_19]
          by_cases h9 : M.1 12 ≤ nI (j + 1)
          · rw [if_pos h9, if_pos (Or.inl rfl)]
          · rw [if_neg h9, if_pos rfl, if_pos (Or.inl rfl)]
theorem m79 {M : CS} {u : List Int32} {q : Nat} (hU : UR (M.2 1) (M.1 12) u) (hu : u.length ≤ 2000) (hq : q < 101) : f_79 M q = some (if ms_byt q = u then 1 else 0) := by
  unfold f_79 b_79_16
  have hlt := (sc_all q hq).1
  rw [if_pos (show Nat.blt q 101 = true from Nat.ble_eq_true_of_le hq), hU.1]
  by_cases hl : (ms_byt q).length = u.length
  · have h1 : sl q = nI u.length := by
      unfold sl
      rw [hl]
      rfl
    rw [if_neg (nn h1)]
    exact m79l hU hu hq hl u.length fu 0 (by omega) (by rw [fu_e]; omega) (fun i hi => absurd hi (Nat.not_lt_zero _))
  · have h1 : ¬ sl q = nI u.length := by
      unfold sl
      intro h9
      exact hl ((nI_eq (by omega) (by omega)).mp h9)
    rw [if_pos h1, if_neg (fun h9 => hl (by rw [h9]))]
    rw [fu_e, b_79_19]
    by_cases h9 : M.1 12 ≤ 0
    · rw [if_pos h9, if_pos (Or.inl rfl)]
    · rw [if_neg h9, if_pos rfl, if_pos (Or.inl rfl)]
theorem wc_m1 {u : List Int32} : ∀ (j k : Nat), k + j ≤ 45 → (∀ i, k ≤ i → i < k + j → ¬ wW i = u) → wc u j k = -1 := by
  intro j
  induction j with
  | zero => intro k _ _; rfl
  | succ j ih =>
    intro k hk h
    rw [wc, if_neg (h k (Nat.le_refl _) (by omega))]
    exact ih (k + 1) (by omega) (fun i h1 h2 => h i (by omega) (by omega))
theorem m80l {M : CS} {u : List Int32} (hU : UR (M.2 1) (M.1 12) u) (hu : u.length ≤ 2000) : ∀ (j m k : Nat) (w : Int32), k + j = 45 → j < m → b_80_4 m M w (nI k) = some (if wc u j k = -1 then w else wc u j k) := by
  intro j
  induction j with
  | zero =>
    intro m k w hk hm
    cases m with
    | zero => omega
    | succ m =>
      have h1 : (45 : Int32) ≤ nI k := nI_le (a := 45) (by omega) (by omega)
      rw [b_80_4, if_pos h1, wc, if_pos rfl]
  | succ j ih =>
    intro m k w hk hm
    cases m with
    | zero => omega
    | succ m =>
      have h1 : ¬ (45 : Int32) ≤ nI k := nI_ge (b := 45) (by omega) (by decide)
      rw [b_80_4, if_neg h1, kw4 k (by omega), m79 hU hu (by omega), Option.bind_some, wc]
      unfold b_80_26
      rw [nI_1]
      by_cases he : wW k = u
      · rw [if_pos he, if_pos (show ms_byt (17 + k) = u from he), if_neg (by decide), ih m (k + 1) (nI k) (by omega) (by omega)]
        rw [if_pos (wc_m1 j (k + 1) (by omega) (fun i h2 h3 h4 => by
          have := kw3 i (by omega) k (by omega) (h4.trans he.symm)
          omega)), if_neg (nI_m1 (by omega))]
      · rw [if_neg he, if_neg (show ¬ ms_byt (17 + k) = u from he), if_pos rfl]
        exact ih m (k + 1) w (by omega) (by omega)
theorem m80 {M : CS} {u : List Int32} (hU : UR (M.2 1) (M.1 12) u) (hu : u.length ≤ 2000) : f_80 M = some (wc u 45 0) := by
  unfold f_80
  rw [show (0 : Int32) = nI 0 from rfl, m80l hU hu 45 fu 0 (-1) rfl (by decide)]
  by_cases h : wc u 45 0 = -1
  · rw [if_pos h, h]
  · rw [if_neg h]
/-! 'use strict' -/
theorem us1 : ms_byt 10 = ms_byt 100 := by decide +kernel
theorem c108l {C : CS} {u : List Int32} (hU : UR (C.2 1) (C.1 10) u) (hl : (ms_byt 10).length = u.length) : ∀ (d m j : Nat), j + d = u.length → d < m → (∀ i, i < j → (ms_byt 10).getD i 0 = u.getD i 0) → b_108_31 m C (nI j) = some (if ms_byt 10 = u then 1 else 0) := by
  intro d
  have hlt := (sc_all 10 (by decide)).1
  induction d with
  | zero =>
    intro m j hj hm hp
    cases m with
    | zero => omega
    | succ m =>
      rw [b_108_31, hU.1, if_pos (nI_le (by omega) (by omega)), if_pos (list_eq hl (fun i hi => hp i (by omega)))]
  | succ d ih =>
    intro m j hj hm hp
    cases m with
    | zero => omega
    | succ m =>
      have hs : sok 10 (nI j) = true := by
        unfold sok
        rw [show Nat.blt 10 101 = true from rfl, mv_in_nI (by omega) (by omega)]
        rfl
      have hsc : sc 10 (nI j) = (ms_byt 10).getD j 0 := by
        unfold sc
        rw [nI_clamp (by omega)]
      rw [b_108_31, hU.1, if_neg (nI_ge (show j < u.length by omega) (by omega)), if_pos (mv_in_nI (show j < 2000 by omega) (by decide)), if_pos hs, nI_clamp (show j < 2 ^ 31 by omega), hsc, hU.2 j (by omega)]
      by_cases he : (ms_byt 10).getD j 0 = u.getD j 0
      · rw [if_pos he.symm, nI_1]
        exact ih m (j + 1) (by omega) (by omega) (fun i hi => by
          by_cases h9 : i = j
          · rw [h9]; exact he
          · exact hp i (by omega))
      · rw [if_neg (fun h9 => he h9.symm), if_neg (fun h9 => he (by rw [h9]))]
theorem c108 {C : CS} {u : List Int32} (hU : UR (C.2 1) (C.1 10) u) (hu : u.length ≤ 2000) : f_108 C = some (if C.1 3 = 3 ∧ C.1 8 = 0 ∧ ms_byt 10 = u then 1 else 0) := by
  unfold f_108
  have hlt := (sc_all 10 (by decide)).1
  by_cases h3 : C.1 3 = 3
  · rw [if_neg (nn h3)]
    by_cases h8 : C.1 8 = 0
    · rw [if_neg (nn h8), hU.1]
      by_cases hl : (ms_byt 10).length = u.length
      · have h1 : nI u.length = sl 10 := by
          unfold sl
          rw [hl]
          rfl
        rw [if_pos h1, show (0 : Int32) = nI 0 from rfl, c108l hU hl u.length fu 0 (by omega) (by rw [fu_e]; omega) (fun i hi => absurd hi (Nat.not_lt_zero _))]
        by_cases he : ms_byt 10 = u
        · rw [if_pos he, if_pos ⟨h3, h8, he⟩]
        · rw [if_neg he, if_neg (fun h => he h.2.2)]
          rfl
      · have h1 : ¬ nI u.length = sl 10 := by
          unfold sl
          intro h9
          exact hl ((nI_eq (by omega) (by omega)).mp h9.symm)
        rw [if_neg h1, if_neg (fun h => hl (by rw [h.2.2]))]
    · rw [if_pos h8, if_neg (fun h => h8 h.2.1)]
  · rw [if_pos h3, if_neg (fun h => h3 h.1)]
