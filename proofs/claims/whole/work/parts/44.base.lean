/-! THE PURE PART: words of state -/
theorem ru_eq {β : Type} (f : Nat → β) (k : Nat) (v : β) : ru f k v k = v := by
  unfold ru
  rw [Nat.beq_refl]
  rfl
theorem ru_ne {β : Type} (f : Nat → β) {j k : Nat} (v : β) (h : j ≠ k) : ru f k v j = f j := by
  unfold ru
  cases hb : Nat.beq j k with
  | false => rfl
  | true => exact absurd (Nat.eq_of_beq_eq_true hb) h
/-- only these registers and these arrays may have changed -/
def fr (ks as : List Nat) (C C' : CS) : Prop := (∀ k, k ∉ ks → C'.1 k = C.1 k) ∧ ∀ k, k ∉ as → C'.2 k = C.2 k
theorem fr.rf {ks as : List Nat} {C : CS} : fr ks as C C := ⟨fun _ _ => rfl, fun _ _ => rfl⟩
theorem fr.tr {ks as : List Nat} {A B C : CS} (h : fr ks as A B) (h2 : fr ks as B C) : fr ks as A C := ⟨fun k hk => (h2.1 k hk).trans (h.1 k hk), fun k hk => (h2.2 k hk).trans (h.2 k hk)⟩
theorem fr.w {ks as ks' as' : List Nat} {A B : CS} (h : fr ks as A B) (h1 : ∀ k ∈ ks, k ∈ ks') (h2 : ∀ k ∈ as, k ∈ as') : fr ks' as' A B := ⟨fun k hk => h.1 k (fun h9 => hk (h1 k h9)), fun k hk => h.2 k (fun h9 => hk (h2 k h9))⟩
theorem fr.r1 {ks as : List Nat} {A : CS} {r : Nat → Int32} {α : Nat → Nat → Int32} {i : Nat} {v : Int32} (hi : i ∈ ks) (h : fr ks as A (r, α)) : fr ks as A (ru r i v, α) :=
  ⟨fun k hk => (ru_ne r v (fun h9 => hk (by rw [h9]; exact hi))).trans (h.1 k hk), h.2⟩
theorem fr.a1 {ks as : List Nat} {A : CS} {r : Nat → Int32} {α : Nat → Nat → Int32} {i : Nat} {v : Nat → Int32} (hi : i ∈ as) (h : fr ks as A (r, α)) : fr ks as A (r, ru α i v) :=
  ⟨h.1, fun k hk => (ru_ne α v (fun h9 => hk (by rw [h9]; exact hi))).trans (h.2 k hk)⟩
theorem fr.pr {ks as : List Nat} {A : CS} : fr ks as A (A.1, A.2) := ⟨fun _ _ => rfl, fun _ _ => rfl⟩
theorem nI_2 (a : Nat) : nI a + 2 = nI (a + 2) := nI_add a 2
theorem nI_6 (a : Nat) : nI a + 6 = nI (a + 6) := nI_add a 6
theorem nI_m1 {a : Nat} (h : a < 2 ^ 31) : ¬ nI a = -1 := by
  intro e
  have := congrArg Int32.toInt e
  rw [nI_toInt h] at this
  rw [show (-1 : Int32).toInt = -1 from rfl] at this
  omega
/-- the text as it is looked at -/
def CK (C : CS) (b : Nat → Int32) (n : Nat) : Prop := C.1 2 = nI n ∧ n ≤ 2000 ∧ ∀ k, b k = if k < n then C.2 0 k else -1
def MK (M : CS) (b : Nat → Int32) (n : Nat) : Prop := M.1 1 = nI n ∧ n ≤ 2000 ∧ ∀ k, b k = if k < n then M.2 0 k else -1
theorem CK.of {C C' : CS} {b : Nat → Int32} {n : Nat} (h : CK C b n) (h1 : C'.1 2 = C.1 2) (h2 : C'.2 0 = C.2 0) : CK C' b n := ⟨h1.trans h.1, h.2.1, by rw [h2]; exact h.2.2⟩
theorem MK.of {C C' : CS} {b : Nat → Int32} {n : Nat} (h : MK C b n) (h1 : C'.1 1 = C.1 1) (h2 : C'.2 0 = C.2 0) : MK C' b n := ⟨h1.trans h.1, h.2.1, by rw [h2]; exact h.2.2⟩
theorem CK.fr {C C' : CS} {b : Nat → Int32} {n : Nat} {ks as : List Nat} (h : CK C b n) (hf : fr ks as C C') (h1 : 2 ∉ ks := by decide) (h2 : 0 ∉ as := by decide) : CK C' b n := h.of (hf.1 2 h1) (hf.2 0 h2)
theorem MK.fr {C C' : CS} {b : Nat → Int32} {n : Nat} {ks as : List Nat} (h : MK C b n) (hf : fr ks as C C') (h1 : 1 ∉ ks := by decide) (h2 : 0 ∉ as := by decide) : MK C' b n := h.of (hf.1 1 h1) (hf.2 0 h2)
theorem c19 {C : CS} {b : Nat → Int32} {n : Nat} (h : CK C b n) : f_19 C = nI n := h.1
theorem c28 {C : CS} {b : Nat → Int32} {n k : Nat} (h : CK C b n) (hk : k < 2 ^ 31) : f_28 C (nI k) = some (b k) := by
  unfold f_28
  have hn : n < 2 ^ 31 := Nat.lt_of_le_of_lt h.2.1 (by decide)
  rw [if_neg (nI_pos hk), h.1, h.2.2 k]
  by_cases hkn : k < n
  · rw [if_neg (nI_ge hkn hn), if_pos (mv_in_nI (Nat.lt_of_lt_of_le hkn h.2.1) (by decide)), nI_clamp hk, if_pos hkn]
  · rw [if_pos (nI_le (Nat.le_of_not_lt hkn) hk), if_neg hkn]
theorem m66 {C : CS} {b : Nat → Int32} {n k : Nat} (h : MK C b n) (hk : k < 2 ^ 31) : f_66 C (nI k) = some (b k) := by
  unfold f_66
  have hn : n < 2 ^ 31 := Nat.lt_of_le_of_lt h.2.1 (by decide)
  rw [h.1, h.2.2 k]
  by_cases hkn : k < n
  · rw [if_neg (nI_ge hkn hn), if_pos (mv_in_nI (Nat.lt_of_lt_of_le hkn h.2.1) (by decide)), nI_clamp hk, if_pos hkn]
  · rw [if_pos (nI_le (Nat.le_of_not_lt hkn) hk), if_neg hkn]
/-- behind the end nothing stands; what stands is no number below 0 -/
def BK (b : Nat → Int32) (n : Nat) : Prop := (∀ k, k < n → 0 ≤ b k) ∧ ∀ k, n ≤ k → b k = -1
theorem BK.lt {b : Nat → Int32} {n k : Nat} (h : BK b n) : b k < 0 ↔ n ≤ k := by
  constructor
  · intro h9
    apply Nat.le_of_not_lt
    intro hk
    exact absurd h9 (Int32.not_lt.mpr (h.1 k hk))
  · intro hk
    rw [h.2 k hk]
    decide
theorem BK.m1 {b : Nat → Int32} {n k : Nat} (h : BK b n) : b k = -1 ↔ n ≤ k := by
  constructor
  · intro h9
    apply Nat.le_of_not_lt
    intro hk
    have := h.1 k hk
    rw [h9] at this
    exact absurd this (by decide)
  · exact h.2 k
theorem BK.ge {b : Nat → Int32} {n k : Nat} (h : BK b n) : 0 ≤ b k ↔ k < n := by
  constructor
  · intro h9
    apply Nat.lt_of_not_le
    intro hk
    rw [h.2 k hk] at h9
    exact absurd h9 (by decide)
  · exact h.1 k
/-! the kinds of units: class and reference say the same -/
theorem e67 : f_67 = f_29 := rfl
theorem e68 : f_68 = f_30 := rfl
theorem e74 : f_74 = f_38 := rfl
theorem e73 : f_73 = f_35 := by
  funext x
  unfold f_73 f_35 b_73_12 b_35_12 b_73_24 b_35_24 b_73_36 b_73_41
  by_cases h1 : x < 65
  · have h2 : x < 97 := Int32.lt_trans h1 (by decide)
    simp only [h1, h2, if_true]
    by_cases h3 : x = 36
    · simp [h3]
    · by_cases h4 : x = 95
      · simp [h4]
      · simp [h3, h4]
  · by_cases h2 : x ≤ 90
    · have h3 : x < 97 := Int32.lt_of_le_of_lt h2 (by decide)
      simp [h1, h2, h3]
    · by_cases h3 : x < 97
      · by_cases h5 : x = 36
        · simp [h5] at h1
        · by_cases h6 : x = 95
          · simp [h6]
          · simp [h1, h2, h3, h5, h6]
      · by_cases h4 : x ≤ 122
        · simp [h1, h2, h3, h4]
        · by_cases h5 : x = 36
          · simp [h5] at h1
          · by_cases h6 : x = 95
            · simp [h6] at h3
            · simp [h1, h2, h3, h4, h5, h6]
theorem e75 : f_75 = f_36 := by
  funext x
  unfold f_75 f_36 b_36_17 b_75_36 b_36_37 f_74
  by_cases h1 : x < 48
  · simp [h1]
  · by_cases h2 : 57 < x
    · simp [h1, h2]
    · simp [h1, h2]
theorem z30 : f_30 (-1) = 0 := by decide
theorem z29 : f_29 (-1) = 0 := by decide
theorem z38 : f_38 (-1) = 0 := by decide
theorem z35 : f_35 (-1) = 0 := by decide
theorem z36 : f_36 (-1) = -1 := by decide
theorem e39 (c : Int32) : f_39 c = 0 ↔ f_35 c = 0 ∧ f_38 c = 0 := by
  unfold f_39
  by_cases h1 : f_35 c = 0
  · by_cases h2 : f_38 c = 0
    · simp [h1, h2]
    · simp [h1, h2]
  · simp [h1]
theorem z39 : f_39 (-1) = 0 := by decide
theorem hexr (c : Int32) : f_36 c = -1 ∨ (0 ≤ f_36 c ∧ f_36 c ≤ 15) := by
  unfold f_36 b_36_17 b_36_37
  have sub : ∀ (c k : Int32) (K : Nat), k = nI K → K < 1000 → ∀ d : Nat, d < 1000 → ¬ c < k → ¬ nI (K + d) < c → ∃ j, j ≤ d ∧ c = nI (K + j) := by
    intro c k K hk hK d hd h1 h2
    subst hk
    have h0 : ¬ c < 0 := by
      intro h9
      exact h1 (Int32.lt_of_lt_of_le h9 (nI_pos' (by omega)))
    obtain ⟨j, hj, rfl⟩ := nI_of h0
    rw [nI_ltI hj (by omega)] at h1
    rw [nI_ltI (by omega) hj] at h2
    exact ⟨j - K, by omega, by congr 1; omega⟩
  have sm : ∀ (K j : Nat), nI (K + j) - nI K = nI j := by
    intro K j
    rw [← nI_add, Int32.add_comm, Int32.add_sub_cancel]
  by_cases h1 : c < 48
  · have h2 : c < 97 := Int32.lt_trans h1 (by decide)
    have h3 : c < 65 := Int32.lt_trans h1 (by decide)
    simp [h1, h2, h3]
  · by_cases h2 : 57 < c
    · by_cases h3 : c < 97
      · by_cases h4 : c < 65
        · simp [h1, h2, h3, h4]
        · by_cases h5 : 70 < c
          · simp [h1, h2, h3, h4, h5]
          · simp only [h1, h2, h3, h4, h5, if_true, if_false]
            obtain ⟨j, hj, rfl⟩ := sub c 65 65 rfl (by decide) 5 (by decide) h4 h5
            right
            rw [show (65 : Int32) = nI 65 from rfl, sm, show (10 : Int32) = nI 10 from rfl, nI_add]
            exact ⟨nI_pos' (by omega), (nI_le (a := j + 10) (b := 15) (by omega) (by decide) : nI (j + 10) ≤ nI 15)⟩
      · by_cases h4 : 102 < c
        · have h5 : ¬ c < 65 := by
            intro h9
            exact h3 (Int32.lt_trans h9 (by decide))
          have h6 : 70 < c := Int32.lt_trans (by decide) h4
          simp [h1, h2, h3, h4, h5, h6]
        · simp only [h1, h2, h3, h4, if_true, if_false]
          obtain ⟨j, hj, rfl⟩ := sub c 97 97 rfl (by decide) 5 (by decide) h3 h4
          right
          rw [show (97 : Int32) = nI 97 from rfl, sm, show (10 : Int32) = nI 10 from rfl, nI_add]
          exact ⟨nI_pos' (by omega), (nI_le (a := j + 10) (b := 15) (by omega) (by decide) : nI (j + 10) ≤ nI 15)⟩
    · simp only [h1, h2, if_false]
      obtain ⟨j, hj, rfl⟩ := sub c 48 48 rfl (by decide) 9 (by decide) h1 h2
      right
      rw [show (48 : Int32) = nI 48 from rfl, sm]
      exact ⟨nI_pos' (by omega), (nI_le (a := j) (b := 15) (by omega) (by decide) : nI j ≤ nI 15)⟩
theorem hexn (c : Int32) : 0 ≤ f_36 c ↔ ¬ f_36 c = -1 := by
  rcases hexr c with h | h
  · rw [h]; decide
  · refine ⟨fun _ h9 => ?_, fun _ => h.1⟩
    rw [h9] at h
    exact absurd h.1 (by decide)
/-- a row of units in an array -/
def UR (a : Nat → Int32) (s : Int32) (u : List Int32) : Prop := s = nI u.length ∧ ∀ j, j < u.length → a j = u.getD j 0
theorem UR.nil {a : Nat → Int32} : UR a 0 [] := ⟨rfl, fun _ h => absurd h (Nat.not_lt_zero _)⟩
theorem UR.push {a : Nat → Int32} {s : Int32} {u : List Int32} {v : Int32} (h : UR a s u) (hl : u.length < 2000) : UR (upd a s.toNatClampNeg v) (s + 1) (u ++ [v]) := by
  obtain ⟨h1, h2⟩ := h
  subst h1
  rw [nI_clamp (by omega), nI_1]
  refine ⟨by simp, fun j hj => ?_⟩
  rw [List.length_append] at hj
  simp only [List.length_cons, List.length_nil] at hj
  unfold upd
  by_cases hjl : j = u.length
  · rw [if_pos hjl, List.getD_eq_getElem?_getD, List.getElem?_append_right (by omega), hjl]
    simp
  · rw [if_neg hjl, h2 j (by omega), List.getD_eq_getElem?_getD, List.getD_eq_getElem?_getD, List.getElem?_append_left (by omega)]
theorem c40 {C : CS} {u : List Int32} (v : Int32) (h : UR (C.2 1) (C.1 10) u) (hl : u.length < 2000) : ∃ C', f_40 C v = some C' ∧ fr [10] [1] C C' ∧ UR (C'.2 1) (C'.1 10) (u ++ [v]) := by
  refine ⟨(ru C.1 10 (C.1 10 + 1), ru C.2 1 (upd (C.2 1) (C.1 10).toNatClampNeg v)), ?_, fr.a1 (by decide) (fr.r1 (by decide) fr.pr), ?_⟩
  · unfold f_40
    have h9 : ¬ (2000 : Int32) ≤ nI u.length := nI_ge hl (by decide)
    rw [h.1, if_neg h9, if_pos (mv_in_nI hl (by decide))]
  · dsimp only
    rw [ru_eq, ru_eq]
    exact h.push hl
theorem m77 {C : CS} {u : List Int32} (v : Int32) (h : UR (C.2 1) (C.1 12) u) (hl : u.length < 2000) : ∃ C', f_77 C v = some C' ∧ fr [12] [1] C C' ∧ UR (C'.2 1) (C'.1 12) (u ++ [v]) := by
  refine ⟨(ru C.1 12 (C.1 12 + 1), ru C.2 1 (upd (C.2 1) (C.1 12).toNatClampNeg v)), ?_, fr.a1 (by decide) (fr.r1 (by decide) fr.pr), ?_⟩
  · unfold f_77
    rw [h.1, if_pos (mv_in_nI hl (by decide))]
  · dsimp only
    rw [ru_eq, ru_eq]
    exact h.push hl
/-- the reference's first fault stays -/
theorem m69 {M : CS} (p : Int32) (h : M.1 4 < 0) : f_69 M p = some (ru M.1 4 p, M.2) := by
  unfold f_69
  rw [if_neg (fun h9 => absurd h (Int32.not_lt.mpr h9))]
theorem m69k {M : CS} (p : Int32) (h : 0 ≤ M.1 4) : ∃ M', f_69 M p = some M' ∧ fr [] [] M M' := by
  refine ⟨(ru M.1 4 (M.1 4), M.2), ?_, ⟨fun k _ => ?_, fun _ _ => rfl⟩⟩
  · unfold f_69
    rw [if_pos h]
  · by_cases hk : k = 4
    · subst hk; exact ru_eq M.1 4 (M.1 4)
    · exact ru_ne _ _ hk
