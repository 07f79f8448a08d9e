/-! shelves -/
theorem nI_sub {a b : Nat} (h : b ≤ a) : nI a - nI b = nI (a - b) := by
  have h1 := nI_add (a - b) b
  rw [Nat.sub_add_cancel h] at h1
  rw [← h1, Int32.add_sub_cancel]
def SH (cnt : Int32) (ends units : Nat → Int32) (E : Nat → Nat) (U : Nat → Int32) (c : Nat) : Prop := cnt = nI c ∧ (∀ k, k < c → ends k = nI (E (k + 1))) ∧ ∀ j, j < E c → units j = U j
def EM (E : Nat → Nat) (c : Nat) : Prop := E 0 = 0 ∧ ∀ k, k < c → E k ≤ E (k + 1)
theorem EM.le {E : Nat → Nat} {c : Nat} (h : EM E c) {k : Nat} : ∀ d, k + d ≤ c → E k ≤ E (k + d)
  | 0, _ => Nat.le_refl _
  | d + 1, hd => Nat.le_trans (EM.le h d (by omega)) (h.2 (k + d) (by omega))
theorem EM.top {E : Nat → Nat} {c k : Nat} (h : EM E c) (hk : k ≤ c) : E k ≤ E c := by
  have := h.le (k := k) (c - k) (by omega)
  rw [Nat.add_sub_cancel' hk] at this
  exact this
def hit (E : Nat → Nat) (U : Nat → Int32) (u : List Int32) (k : Nat) : Prop := E (k + 1) - E k = u.length ∧ ∀ j, j < u.length → U (E k + j) = u.getD j 0
def pE (E : Nat → Nat) (c l : Nat) : Nat → Nat := fun k => if k ≤ c then E k else E c + l
def pU (E : Nat → Nat) (U : Nat → Int32) (c : Nat) (u : List Int32) : Nat → Int32 := fun j => if j < E c then U j else u.getD (j - E c) 0
theorem pE_c {E : Nat → Nat} {c l : Nat} : pE E c l c = E c := if_pos (Nat.le_refl c)
theorem pE_s {E : Nat → Nat} {c l : Nat} : pE E c l (c + 1) = E c + l := if_neg (by omega)
theorem pE_lt {E : Nat → Nat} {c l k : Nat} (h : k ≤ c) : pE E c l k = E k := if_pos h
theorem EM.push {E : Nat → Nat} {c l : Nat} (h : EM E c) : EM (pE E c l) (c + 1) := by
  refine ⟨(pE_lt (Nat.zero_le c)).trans h.1, ?_⟩
  intro k hk
  by_cases h1 : k = c
  · subst h1
    rw [pE_c, pE_s]
    omega
  · rw [pE_lt (by omega), pE_lt (by omega)]
    exact h.2 k (by omega)
theorem hit.push {E : Nat → Nat} {U : Nat → Int32} {c : Nat} {u : List Int32} : hit (pE E c u.length) (pU E U c u) u c := by
  refine ⟨?_, ?_⟩
  · rw [pE_c, pE_s]
    omega
  · intro j hj
    rw [pE_c]
    unfold pU
    rw [if_neg (by omega), Nat.add_sub_cancel_left]
theorem SH.push {cnt : Int32} {ends units units' : Nat → Int32} {E : Nat → Nat} {U : Nat → Int32} {c : Nat} {u : List Int32} (h : SH cnt ends units E U c) (hc : c < 2 ^ 31) (h1 : ∀ j, j < E c → units' j = units j) (h2 : ∀ j, j < u.length → units' (E c + j) = u.getD j 0) : SH (cnt + 1) (upd ends cnt.toNatClampNeg (nI (E c + u.length))) units' (pE E c u.length) (pU E U c u) (c + 1) := by
  refine ⟨?_, ?_, ?_⟩
  · rw [h.1, nI_1]
  · intro k hk
    unfold upd
    rw [h.1, nI_clamp hc]
    by_cases h3 : k = c
    · subst h3
      rw [if_pos rfl, pE_s]
    · rw [if_neg h3, pE_lt (by omega), h.2.1 k (by omega)]
  · intro j hj
    rw [pE_s] at hj
    unfold pU
    by_cases h3 : j < E c
    · rw [if_pos h3, h1 j h3, h.2.2 j h3]
    · rw [if_neg h3]
      have := h2 (j - E c) (by omega)
      rw [Nat.add_sub_cancel' (by omega)] at this
      exact this
/-! the class's names -/
theorem c117 {C : CS} {E : Nat → Nat} {U : Nat → Int32} {c k : Nat} (hS : SH (C.1 13) (C.2 3) (C.2 2) E U c) (hE : EM E c) (hc : c < 1000) (hk : k ≤ c) : f_117_12 C (nI k) = some (nI (E k)) := by
  unfold f_117_12
  by_cases h0 : k = 0
  · subst h0
    rw [if_pos (by decide), hE.1]
    rfl
  · obtain ⟨j, rfl⟩ : ∃ j, k = j + 1 := ⟨k - 1, by omega⟩
    rw [if_neg (show ¬ nI (j + 1) < 1 from nI_nlt (b := 1) (by omega) (by omega)), hS.1, if_neg (nI_nlt hk (by omega)), nI_pred, if_pos (mv_in_nI (show j < 2000 by omega) (by decide)), nI_clamp (by omega), hS.2.1 j (by omega)]
theorem c118 {C : CS} {E : Nat → Nat} {U : Nat → Int32} {c k : Nat} (hS : SH (C.1 13) (C.2 3) (C.2 2) E U c) (hE : EM E c) (hc : c < 1000) (hk : k < c) : f_118_12 C (nI k) = some (nI (E (k + 1) - E k)) := by
  unfold f_118_12 f_116_12
  rw [if_neg (nI_pos (by omega)), hS.1, if_neg (nI_ge hk (by omega)), if_neg (by decide : ¬ (1 : Int32) = 0), if_pos (mv_in_nI (show k < 2000 by omega) (by decide)), c117 hS hE hc (by omega), Option.bind_some, nI_clamp (by omega), hS.2.1 k hk, nI_sub (hE.2 k hk)]
theorem c119l {C : CS} {E : Nat → Nat} {U : Nat → Int32} {c k : Nat} {u : List Int32} (hS : SH (C.1 13) (C.2 3) (C.2 2) E U c) (hT : E c ≤ 2000) (hU : UR (C.2 1) (C.1 10) u) (hk : E k + u.length ≤ E c) : ∀ (d m j : Nat), j + d = u.length → d < m → (∀ i, i < j → U (E k + i) = u.getD i 0) →
    ∃ v, b_119_12_10 m C (nI u.length) (nI (E k)) (nI j) = some v ∧ ((v = 1 ∧ ∀ i, i < u.length → U (E k + i) = u.getD i 0) ∨ (v = 0 ∧ ¬ ∀ i, i < u.length → U (E k + i) = u.getD i 0)) := by
  intro d
  induction d with
  | zero =>
    intro m j hj hm hi
    obtain ⟨m', rfl⟩ : ∃ m', m = m' + 1 := ⟨m - 1, by omega⟩
    rw [b_119_12_10, if_pos (nI_le (by omega) (by omega))]
    exact ⟨1, rfl, Or.inl ⟨rfl, fun i h => hi i (by omega)⟩⟩
  | succ d ih =>
    intro m j hj hm hi
    obtain ⟨m', rfl⟩ : ∃ m', m = m' + 1 := ⟨m - 1, by omega⟩
    rw [b_119_12_10, if_neg (nI_ge (by omega) (by omega)), if_neg (show ¬ (2000 : Int32) ≤ nI j from nI_ge (b := 2000) (by omega) (by decide)), nI_add, if_neg (show ¬ (2000 : Int32) ≤ nI (E k + j) from nI_ge (b := 2000) (by omega) (by decide)), if_pos (mv_in_nI (show E k + j < 2000 by omega) (by decide)), if_pos (mv_in_nI (show j < 2000 by omega) (by decide)), nI_clamp (by omega), nI_clamp (by omega), hS.2.2 (E k + j) (by omega), hU.2 j (by omega)]
    by_cases h1 : U (E k + j) = u.getD j 0
    · rw [if_pos h1, nI_1]
      refine ih m' (j + 1) (by omega) (by omega) (fun i h => ?_)
      by_cases h2 : i = j
      · rw [h2]; exact h1
      · exact hi i (by omega)
    · rw [if_neg h1]
      exact ⟨0, rfl, Or.inr ⟨rfl, fun h9 => h1 (h9 j (by omega))⟩⟩
theorem c120l {C : CS} {E : Nat → Nat} {U : Nat → Int32} {c : Nat} {u : List Int32} (hS : SH (C.1 13) (C.2 3) (C.2 2) E U c) (hE : EM E c) (hc : c < 1000) (hT : E c ≤ 2000) (hU : UR (C.2 1) (C.1 10) u) (hu : u.length ≤ 2000) : ∀ (d m k : Nat), k + d = c → d < m → (∀ i, i < k → ¬ hit E U u i) →
    ∃ v, b_120_12_2 m C (nI u.length) (nI k) = some v ∧ ((∃ i, i < c ∧ v = nI i ∧ hit E U u i ∧ ∀ j, j < i → ¬ hit E U u j) ∨ (v = -1 ∧ ∀ i, i < c → ¬ hit E U u i)) := by
  intro d
  induction d with
  | zero =>
    intro m k hk hm hi
    obtain ⟨m', rfl⟩ : ∃ m', m = m' + 1 := ⟨m - 1, by omega⟩
    rw [b_120_12_2, hS.1, if_pos (nI_le (by omega) (by omega))]
    exact ⟨-1, rfl, Or.inr ⟨rfl, fun i h => hi i (by omega)⟩⟩
  | succ d ih =>
    intro m k hk hm hi
    obtain ⟨m', rfl⟩ : ∃ m', m = m' + 1 := ⟨m - 1, by omega⟩
    have hk1 := hE.top (k := k + 1) (by omega)
    have hk2 := hE.2 k (by omega)
    have next : ¬ hit E U u k → ∃ v, b_120_12_2 m' C (nI u.length) (nI (k + 1)) = some v ∧ ((∃ i, i < c ∧ v = nI i ∧ hit E U u i ∧ ∀ j, j < i → ¬ hit E U u j) ∨ (v = -1 ∧ ∀ i, i < c → ¬ hit E U u i)) := by
      intro h0
      refine ih m' (k + 1) (by omega) (by omega) (fun i h => ?_)
      by_cases h2 : i = k
      · rw [h2]; exact h0
      · exact hi i (by omega)
    rw [b_120_12_2, hS.1, if_neg (nI_ge (by omega) (by omega)), c118 hS hE hc (by omega), Option.bind_some]
    unfold b_120_12_31
    rw [nI_1]
    by_cases h1 : E (k + 1) - E k = u.length
    · rw [h1, if_neg (nn rfl)]
      unfold f_119_12
      rw [c117 hS hE hc (by omega), Option.bind_some]
      obtain ⟨v, e1, e2⟩ := c119l hS hT hU (k := k) (by omega) u.length fu 0 (by omega) (by rw [fu_e]; omega) (fun i h => absurd h (Nat.not_lt_zero i))
      rw [show b_119_12_10 fu C (nI u.length) (nI (E k)) 0 = some v from e1, Option.bind_some]
      rcases e2 with ⟨rfl, e3⟩ | ⟨rfl, e3⟩
      · rw [if_neg (by decide : ¬ (1 : Int32) = 0)]
        exact ⟨_, rfl, Or.inl ⟨k, by omega, rfl, ⟨h1, e3⟩, hi⟩⟩
      · rw [if_pos rfl]
        exact next (fun h9 => e3 h9.2)
    · rw [if_pos (show ¬ nI (E (k + 1) - E k) = nI u.length from fun h9 => h1 ((nI_eq (by omega) (by omega)).mp h9))]
      exact next (fun h9 => h1 h9.1)
theorem c122 {C : CS} {E : Nat → Nat} {U : Nat → Int32} {c : Nat} {u : List Int32} (hS : SH (C.1 13) (C.2 3) (C.2 2) E U c) (hE : EM E c) (hc : c < 1000) (hU : UR (C.2 1) (C.1 10) u) (hT : E c + u.length ≤ 2000) :
    ∃ C', f_122_12 C (nI u.length) = some (nI c, C') ∧ fr [13] [2, 3] C C' ∧ SH (C'.1 13) (C'.2 3) (C'.2 2) (pE E c u.length) (pU E U c u) (c + 1) := by
  have e1 : f_121_12 C (nI u.length) = some 1 := by
    unfold f_121_12
    rw [hS.1, if_neg (show ¬ (2000 : Int32) ≤ nI c from nI_ge (b := 2000) (by omega) (by decide)), c117 hS hE hc (Nat.le_refl c), Option.bind_some, show (2000 : Int32) - nI (E c) = nI (2000 - E c) from nI_sub (a := 2000) (by omega), if_neg (nI_nlt (by omega) (by omega))]
  have hc1 : C.1 13 = nI c := hS.1
  unfold f_122_12
  rw [if_neg (nI_pos (by omega)), if_neg (show ¬ (2000 : Int32) < nI u.length from nI_nlt (a := 2000) (by omega) (by decide)), e1, Option.bind_some, if_pos (by decide : ¬ (1 : Int32) = 0), show f_117_12 C (C.1 13) = some (nI (E c)) by rw [hc1]; exact c117 hS hE hc (Nat.le_refl c), Option.bind_some, nI_clamp (by omega), nI_clamp (by omega)]
  have e0 : (0 : Int32).toNatClampNeg = 0 := by decide
  rw [e0, if_pos ⟨⟨by decide, nI_pos (by omega), nI_pos (by omega)⟩, by omega, by omega⟩, if_pos (show mv_in (C.1 13) 2000 = true by rw [hc1]; exact mv_in_nI (show c < 2000 by omega) (by decide)), nI_add]
  refine ⟨_, by rw [show C.1 13 + 1 - 1 = nI c by rw [hc1, nI_1, nI_pred]], fr.r1 (by decide) (fr.a1 (by decide) (fr.a1 (by decide) fr.pr)), ?_⟩
  have := hS.push (units' := va_cpy (C.2 1) (C.2 2) 0 (E c) u.length) (u := u) (by omega) (fun j hj => by unfold va_cpy; rw [if_neg (by omega)]) (fun j hj => by unfold va_cpy; rw [if_pos ⟨by omega, by omega⟩, Nat.zero_add, Nat.add_sub_cancel_left, hU.2 j hj])
  exact this
/-! the reference's names -/
theorem m125l {M : CS} {E : Nat → Nat} {U : Nat → Int32} {c k : Nat} {u : List Int32} (hS : SH (M.1 13) (M.2 2) (M.2 3) E U c) (hT : E c ≤ 2000) (hU : UR (M.2 1) (M.1 12) u) (hk : E k + u.length ≤ E c) : ∀ (d m j : Nat), j + d = u.length → d + 1 < m → (∀ i, i < j → U (E k + i) = u.getD i 0) →
    ∃ v, b_125_41 m M (nI (E k)) 1 (nI j) = some v ∧ ((v = 1 ∧ ∀ i, i < u.length → U (E k + i) = u.getD i 0) ∨ (v = 0 ∧ ¬ ∀ i, i < u.length → U (E k + i) = u.getD i 0)) := by
  intro d
  induction d with
  | zero =>
    intro m j hj hm hi
    obtain ⟨m', rfl⟩ : ∃ m', m = m' + 1 := ⟨m - 1, by omega⟩
    rw [b_125_41, hU.1, if_pos (nI_le (by omega) (by omega)), if_pos (show (1 : Int32) = 0 ∨ (1 : Int32) = 1 from Or.inr rfl)]
    exact ⟨1, rfl, Or.inl ⟨rfl, fun i h => hi i (by omega)⟩⟩
  | succ d ih =>
    intro m j hj hm hi
    obtain ⟨m', rfl⟩ : ∃ m', m = m' + 1 + 1 := ⟨m - 2, by omega⟩
    rw [b_125_41, hU.1, if_neg (nI_ge (by omega) (by omega)), if_neg (by decide : ¬ (1 : Int32) = 0), nI_add, if_pos (mv_in_nI (show E k + j < 2000 by omega) (by decide)), if_pos (mv_in_nI (show j < 2000 by omega) (by decide)), nI_clamp (by omega), nI_clamp (by omega), hS.2.2 (E k + j) (by omega), hU.2 j (by omega)]
    unfold b_125_78
    rw [nI_1]
    by_cases h1 : U (E k + j) = u.getD j 0
    · rw [if_neg (nn h1)]
      refine ih (m' + 1) (j + 1) (by omega) (by omega) (fun i h => ?_)
      by_cases h2 : i = j
      · rw [h2]; exact h1
      · exact hi i (by omega)
    · rw [if_pos h1, b_125_41, if_pos (Or.inl rfl : (0 : Int32) = 0 ∨ (0 : Int32) = 1), if_pos (rfl : (0 : Int32) = 0), ite_self]
      exact ⟨0, rfl, Or.inr ⟨rfl, fun h9 => h1 (h9 j (by omega))⟩⟩
theorem m125e {M : CS} {E : Nat → Nat} {U : Nat → Int32} {c k : Nat} (hS : SH (M.1 13) (M.2 2) (M.2 3) E U c) (hE : EM E c) (hc : c < 1000) (hk : k ≤ c) : (if ¬ nI k = 0 then (if mv_in (nI k - 1) 1000 = true then some ((M.2 2) (nI k - 1).toNatClampNeg) else none) else some 0) = some (nI (E k)) := by
  by_cases h0 : k = 0
  · subst h0
    rw [if_neg (nn (show nI 0 = (0 : Int32) from rfl)), hE.1]
    rfl
  · obtain ⟨j, rfl⟩ : ∃ j, k = j + 1 := ⟨k - 1, by omega⟩
    rw [if_pos (show ¬ nI (j + 1) = 0 from fun h9 => absurd ((nI_eq (b := 0) (by omega) (by decide)).mp h9) (by omega)), nI_pred, if_pos (mv_in_nI (show j < 1000 by omega) (by decide)), nI_clamp (by omega), hS.2.1 j (by omega)]
theorem m125 {M : CS} {E : Nat → Nat} {U : Nat → Int32} {c k : Nat} {u : List Int32} (hS : SH (M.1 13) (M.2 2) (M.2 3) E U c) (hE : EM E c) (hc : c < 1000) (hT : E c ≤ 2000) (hU : UR (M.2 1) (M.1 12) u) (hu : u.length ≤ 2000) (hk : k < c) : ∃ v, f_125 M (nI k) = some v ∧ ((v = 1 ∧ hit E U u k) ∨ (v = 0 ∧ ¬ hit E U u k)) := by
  have hk1 := hE.top (k := k + 1) (by omega)
  have hk2 := hE.2 k (by omega)
  have e1 : f_125 M (nI k) = b_125_16 M (nI k) (nI (E k)) := by
    have h := m125e hS hE hc (Nat.le_of_lt hk)
    unfold f_125
    by_cases h0 : nI k = 0
    · rw [if_neg (nn h0)] at h ⊢
      rw [Option.some.inj h]
    · rw [if_pos h0] at h ⊢
      by_cases h1 : mv_in (nI k - 1) 1000 = true
      · rw [if_pos h1] at h ⊢
        rw [Option.some.inj h]
      · rw [if_neg h1] at h
        cases h
  rw [e1]
  unfold b_125_16 b_125_37
  rw [if_pos (mv_in_nI (show k < 1000 by omega) (by decide)), nI_clamp (by omega), hS.2.1 k hk, nI_sub hk2, hU.1]
  by_cases h1 : E (k + 1) - E k = u.length
  · rw [h1, if_neg (nn rfl)]
    obtain ⟨v, g1, g2⟩ := m125l hS hT hU (k := k) (by omega) u.length fu 0 (by omega) (by rw [fu_e]; omega) (fun i h => absurd h (Nat.not_lt_zero i))
    refine ⟨v, g1, ?_⟩
    rcases g2 with ⟨g3, g4⟩ | ⟨g3, g4⟩
    · exact Or.inl ⟨g3, h1, g4⟩
    · exact Or.inr ⟨g3, fun h9 => g4 h9.2⟩
  · rw [if_pos (show ¬ nI (E (k + 1) - E k) = nI u.length from fun h9 => h1 ((nI_eq (by omega) (by omega)).mp h9)), fu_e, b_125_41, if_pos (Or.inl rfl : (0 : Int32) = 0 ∨ (0 : Int32) = 1), if_pos (rfl : (0 : Int32) = 0), ite_self]
    exact ⟨0, rfl, Or.inr ⟨rfl, fun h9 => h1 h9.1⟩⟩
theorem m126a {M : CS} {E : Nat → Nat} {U : Nat → Int32} {c k : Nat} {u : List Int32} (hS : SH (M.1 13) (M.2 2) (M.2 3) E U c) (hE : EM E c) (hc : c < 1000) (hT : E c ≤ 2000) (hU : UR (M.2 1) (M.1 12) u) (hu : u.length ≤ 2000) (hk : k < c) (h1 : hit E U u k) (h2 : ∀ j, j < k → ¬ hit E U u j) : ∀ (d m i : Nat), i + d = k → d < m → b_126_40 m M (nI i) = some (nI k, M) := by
  intro d
  induction d with
  | zero =>
    intro m i hi hm
    obtain ⟨m', rfl⟩ : ∃ m', m = m' + 1 := ⟨m - 1, by omega⟩
    obtain rfl : i = k := by omega
    obtain ⟨v, e1, e2⟩ := m125 hS hE hc hT hU hu hk
    rw [b_126_40, hS.1, if_neg (nI_ge hk (by omega)), e1, Option.bind_some]
    rcases e2 with ⟨rfl, _⟩ | ⟨_, e3⟩
    · rw [if_neg (by decide)]
    · exact absurd h1 e3
  | succ d ih =>
    intro m i hi hm
    obtain ⟨m', rfl⟩ : ∃ m', m = m' + 1 := ⟨m - 1, by omega⟩
    obtain ⟨v, e1, e2⟩ := m125 hS hE hc hT hU hu (k := i) (by omega)
    rw [b_126_40, hS.1, if_neg (nI_ge (by omega) (by omega)), e1, Option.bind_some]
    rcases e2 with ⟨_, e3⟩ | ⟨rfl, e3⟩
    · exact absurd e3 (h2 i (by omega))
    · rw [if_pos rfl, nI_1]
      exact ih m' (i + 1) (by omega) (by omega)
theorem m126b {M : CS} {E : Nat → Nat} {U : Nat → Int32} {c : Nat} {u : List Int32} (hS : SH (M.1 13) (M.2 2) (M.2 3) E U c) (hE : EM E c) (hc : c < 1000) (hT : E c ≤ 2000) (hU : UR (M.2 1) (M.1 12) u) (hu : u.length ≤ 2000) (h2 : ∀ j, j < c → ¬ hit E U u j) : ∀ (d m i : Nat), i + d = c → d < m → b_126_40 m M (nI i) = b_126_86 M (nI (E c)) := by
  intro d
  induction d with
  | zero =>
    intro m i hi hm
    obtain ⟨m', rfl⟩ : ∃ m', m = m' + 1 := ⟨m - 1, by omega⟩
    obtain rfl : i = c := by omega
    have h := m125e hS hE hc (Nat.le_refl i)
    rw [b_126_40, hS.1, if_pos (nI_le (Nat.le_refl i) (by omega))]
    by_cases h0 : nI i = 0
    · rw [if_neg (nn h0)] at h ⊢
      rw [Option.some.inj h]
    · rw [if_pos h0] at h ⊢
      by_cases h1 : mv_in (nI i - 1) 1000 = true
      · rw [if_pos h1] at h ⊢
        rw [Option.some.inj h]
      · rw [if_neg h1] at h
        cases h
  | succ d ih =>
    intro m i hi hm
    obtain ⟨m', rfl⟩ : ∃ m', m = m' + 1 := ⟨m - 1, by omega⟩
    obtain ⟨v, e1, e2⟩ := m125 hS hE hc hT hU hu (k := i) (by omega)
    rw [b_126_40, hS.1, if_neg (nI_ge (by omega) (by omega)), e1, Option.bind_some]
    rcases e2 with ⟨_, e3⟩ | ⟨rfl, e3⟩
    · exact absurd e3 (h2 i (by omega))
    · rw [if_pos rfl, nI_1]
      exact ih m' (i + 1) (by omega) (by omega)
theorem m126l {u : List Int32} {T c : Nat} (hT : T + u.length ≤ 2000) (hc : c < 1000) : ∀ (d m j : Nat) (M : CS), j + d = u.length → d < m → UR (M.2 1) (M.1 12) u → M.1 13 = nI c → (∀ i, i < j → M.2 3 (T + i) = u.getD i 0) →
    ∃ X, b_126_89 m M (nI T) (nI j) = some (nI c, (ru M.1 13 (M.1 13 + 1), ru (ru M.2 3 X) 2 (upd (M.2 2) (M.1 13).toNatClampNeg (nI (T + u.length))))) ∧ (∀ i, i < T → X i = M.2 3 i) ∧ ∀ i, i < u.length → X (T + i) = u.getD i 0 := by
  intro d
  induction d with
  | zero =>
    intro m j M hj hm hU h13 hi
    obtain ⟨m', rfl⟩ : ∃ m', m = m' + 1 := ⟨m - 1, by omega⟩
    refine ⟨M.2 3, ?_, fun _ _ => rfl, fun i h => hi i (by omega)⟩
    rw [b_126_89, hU.1, if_pos (nI_le (by omega) (by omega)), if_pos (show mv_in (M.1 13) 1000 = true by rw [h13]; exact mv_in_nI hc (by decide)), ru_id (rfl : M.2 3 = M.2 3), nI_add, show M.1 13 + 1 - 1 = nI c by rw [h13, nI_1, nI_pred]]
  | succ d ih =>
    intro m j M hj hm hU h13 hi
    obtain ⟨m', rfl⟩ : ∃ m', m = m' + 1 := ⟨m - 1, by omega⟩
    have hU' : UR ((ru M.2 3 (upd (M.2 3) (T + j) (u.getD j 0))) 1) (M.1 12) u := by
      rw [ru_ne _ _ (by decide)]
      exact hU
    obtain ⟨X, e1, e2, e3⟩ := ih m' (j + 1) (M.1, ru M.2 3 (upd (M.2 3) (T + j) (u.getD j 0))) (by omega) (by omega) hU' h13 (by
      intro i h
      show (ru M.2 3 (upd (M.2 3) (T + j) (u.getD j 0))) 3 (T + i) = _
      rw [ru_eq]
      unfold upd
      by_cases h2 : i = j
      · rw [h2, if_pos rfl]
      · rw [if_neg (by omega)]
        exact hi i (by omega))
    refine ⟨X, ?_, ?_, e3⟩
    · rw [b_126_89, hU.1, if_neg (nI_ge (by omega) (by omega)), if_pos (mv_in_nI (show j < 2000 by omega) (by decide)), nI_add, if_pos (mv_in_nI (show T + j < 2000 by omega) (by decide)), nI_clamp (by omega), nI_clamp (by omega), hU.2 j (by omega), nI_1, e1]
      dsimp only
      rw [ru_ru, ru_ne _ _ (by decide : 2 ≠ 3)]
    · intro i h
      rw [e2 i h]
      show (ru M.2 3 (upd (M.2 3) (T + j) (u.getD j 0))) 3 i = _
      rw [ru_eq]
      unfold upd
      rw [if_neg (by omega)]
theorem m126 {M : CS} {E : Nat → Nat} {U : Nat → Int32} {c : Nat} {u : List Int32} (hS : SH (M.1 13) (M.2 2) (M.2 3) E U c) (hc : c < 1000) (hU : UR (M.2 1) (M.1 12) u) (hT : E c + u.length ≤ 2000) :
    ∃ M', b_126_86 M (nI (E c)) = some (nI c, M') ∧ fr [13] [2, 3] M M' ∧ SH (M'.1 13) (M'.2 2) (M'.2 3) (pE E c u.length) (pU E U c u) (c + 1) := by
  obtain ⟨X, e1, e2, e3⟩ := m126l hT hc u.length fu 0 M (by omega) (by rw [fu_e]; omega) hU hS.1 (fun i h => absurd h (Nat.not_lt_zero i))
  exact ⟨_, e1, fr.r1 (by decide) (fr.a1 (by decide) (fr.a1 (by decide) fr.pr)), hS.push (by omega) e2 e3⟩
