/-! literals; what a shelf tells -/
theorem m1s {l : Int32} (h1 : ¬ l < -1) (h2 : ¬ l = -1) : ¬ l < 0 := by
  intro h
  rw [Int32.lt_iff_toInt_lt] at h1 h
  have h3 : (-1 : Int32).toInt = -1 := by decide
  have h4 : (0 : Int32).toInt = 0 := by decide
  rw [h3] at h1
  rw [h4] at h
  exact h2 (Int32.toInt_inj.mp (by rw [h3]; omega))
theorem c117L {C : CS} {E : Nat → Nat} {U : Nat → Int32} {c k : Nat} (hS : SH (C.1 14) (C.2 5) (C.2 4) E U c) (hE : EM E c) (hc : c < 1000) (hk : k ≤ c) : f_117_15 C (nI k) = some (nI (E k)) := by
  unfold f_117_15
  by_cases h0 : k = 0
  · subst h0
    rw [if_pos (by decide), hE.1]
    rfl
  · obtain ⟨j, rfl⟩ : ∃ j, k = j + 1 := ⟨k - 1, by omega⟩
    rw [if_neg (show ¬ nI (j + 1) < 1 from nI_nlt (b := 1) (by omega) (by omega)), hS.1, if_neg (nI_nlt hk (by omega)), nI_pred, if_pos (mv_in_nI (show j < 1024 by omega) (by decide)), nI_clamp (by omega), hS.2.1 j (by omega)]
theorem c118L {C : CS} {E : Nat → Nat} {U : Nat → Int32} {c k : Nat} (hS : SH (C.1 14) (C.2 5) (C.2 4) E U c) (hE : EM E c) (hc : c < 1000) (hk : k < c) : f_118_15 C (nI k) = some (nI (E (k + 1) - E k)) := by
  unfold f_118_15 f_116_15
  rw [if_neg (nI_pos (by omega)), hS.1, if_neg (nI_ge hk (by omega)), if_neg (by decide : ¬ (1 : Int32) = 0), if_pos (mv_in_nI (show k < 1024 by omega) (by decide)), c117L hS hE hc (by omega), Option.bind_some, nI_clamp (by omega), hS.2.1 k hk, nI_sub (hE.2 k hk)]
theorem c121L {C : CS} {E : Nat → Nat} {U : Nat → Int32} {c l : Nat} (hS : SH (C.1 14) (C.2 5) (C.2 4) E U c) (hE : EM E c) (hc : c < 1000) (hT : E c ≤ 8192) (hl : l ≤ 2000) : f_121_15 C (nI l) = some (if E c + l ≤ 8192 then 1 else 0) := by
  unfold f_121_15
  rw [hS.1, if_neg (show ¬ (1024 : Int32) ≤ nI c from nI_ge (b := 1024) (by omega) (by decide)), c117L hS hE hc (Nat.le_refl c), Option.bind_some, show (8192 : Int32) - nI (E c) = nI (8192 - E c) from nI_sub (a := 8192) (by omega)]
  by_cases h : E c + l ≤ 8192
  · rw [if_pos h, if_neg (nI_nlt (by omega) (by omega))]
  · rw [if_neg h, if_pos (nI_lt (by omega) (by omega))]
theorem c122L {C : CS} {E : Nat → Nat} {U : Nat → Int32} {c : Nat} {u : List Int32} (hS : SH (C.1 14) (C.2 5) (C.2 4) E U c) (hE : EM E c) (hc : c < 1000) (hU : UR (C.2 1) (C.1 10) u) (hu : u.length ≤ 2000) (hT : E c + u.length ≤ 8192) :
    ∃ C', f_122_15 C (nI u.length) = some (nI c, C') ∧ fr [14] [4, 5] C C' ∧ SH (C'.1 14) (C'.2 5) (C'.2 4) (pE E c u.length) (pU E U c u) (c + 1) := by
  have e1 : f_121_15 C (nI u.length) = some 1 := by
    rw [c121L hS hE hc (by omega) hu, if_pos hT]
  have hc1 : C.1 14 = nI c := hS.1
  unfold f_122_15
  rw [if_neg (nI_pos (by omega)), if_neg (show ¬ (2000 : Int32) < nI u.length from nI_nlt (a := 2000) (by omega) (by decide)), e1, Option.bind_some, if_pos (by decide : ¬ (1 : Int32) = 0), show f_117_15 C (C.1 14) = some (nI (E c)) by rw [hc1]; exact c117L hS hE hc (Nat.le_refl c), Option.bind_some, nI_clamp (by omega), nI_clamp (by omega)]
  have e0 : (0 : Int32).toNatClampNeg = 0 := by decide
  rw [e0, if_pos ⟨⟨by decide, nI_pos (by omega), nI_pos (by omega)⟩, by omega, by omega⟩, if_pos (show mv_in (C.1 14) 1024 = true by rw [hc1]; exact mv_in_nI (show c < 1024 by omega) (by decide)), nI_add]
  refine ⟨_, by rw [show C.1 14 + 1 - 1 = nI c by rw [hc1, nI_1, nI_pred]], fr.r1 (by decide) (fr.a1 (by decide) (fr.a1 (by decide) fr.pr)), ?_⟩
  have := hS.push (units' := va_cpy (C.2 1) (C.2 4) 0 (E c) u.length) (u := u) (by omega) (fun j hj => by unfold va_cpy; rw [if_neg (by omega)]) (fun j hj => by unfold va_cpy; rw [if_pos ⟨by omega, by omega⟩, Nat.zero_add, Nat.add_sub_cancel_left, hU.2 j hj])
  exact this
theorem m130e {M : CS} {E : Nat → Nat} {U : Nat → Int32} {c k : Nat} (hS : SH (M.1 14) (M.2 4) (M.2 5) E U c) (hE : EM E c) (hc : c < 1000) (hk : k ≤ c) : (if ¬ nI k = 0 then (if mv_in (nI k - 1) 1024 = true then some ((M.2 4) (nI k - 1).toNatClampNeg) else none) else some 0) = some (nI (E k)) := by
  by_cases h0 : k = 0
  · subst h0
    rw [if_neg (nn (show nI 0 = (0 : Int32) from rfl)), hE.1]
    rfl
  · obtain ⟨j, rfl⟩ : ∃ j, k = j + 1 := ⟨k - 1, by omega⟩
    rw [if_pos (show ¬ nI (j + 1) = 0 from fun h9 => absurd ((nI_eq (b := 0) (by omega) (by decide)).mp h9) (by omega)), nI_pred, if_pos (mv_in_nI (show j < 1024 by omega) (by decide)), nI_clamp (by omega), hS.2.1 j (by omega)]
theorem m130l {u : List Int32} {T c : Nat} (hT : T + u.length ≤ 8192) (hu : u.length ≤ 2000) (hc : c < 1000) : ∀ (d m j : Nat) (M : CS), j + d = u.length → d < m → UR (M.2 1) (M.1 12) u → M.1 14 = nI c → (∀ i, i < j → M.2 5 (T + i) = u.getD i 0) →
    ∃ X, b_130_103 m M (nI T) (nI j) = some (nI c, (ru M.1 14 (M.1 14 + 1), ru (ru M.2 5 X) 4 (upd (M.2 4) (M.1 14).toNatClampNeg (nI (T + u.length))))) ∧ (∀ i, i < T → X i = M.2 5 i) ∧ ∀ i, i < u.length → X (T + i) = u.getD i 0 := by
  intro d
  induction d with
  | zero =>
    intro m j M hj hm hU h13 hi
    obtain ⟨m', rfl⟩ : ∃ m', m = m' + 1 := ⟨m - 1, by omega⟩
    refine ⟨M.2 5, ?_, fun _ _ => rfl, fun i h => hi i (by omega)⟩
    rw [b_130_103, hU.1, if_pos (nI_le (by omega) (by omega)), if_pos (show mv_in (M.1 14) 1024 = true by rw [h13]; exact mv_in_nI (show c < 1024 by omega) (by decide)), ru_id (rfl : M.2 5 = M.2 5), nI_add, show M.1 14 + 1 - 1 = nI c by rw [h13, nI_1, nI_pred]]
  | succ d ih =>
    intro m j M hj hm hU h13 hi
    obtain ⟨m', rfl⟩ : ∃ m', m = m' + 1 := ⟨m - 1, by omega⟩
    have hU' : UR ((ru M.2 5 (upd (M.2 5) (T + j) (u.getD j 0))) 1) (M.1 12) u := by
      rw [ru_ne _ _ (by decide)]
      exact hU
    obtain ⟨X, e1, e2, e3⟩ := ih m' (j + 1) (M.1, ru M.2 5 (upd (M.2 5) (T + j) (u.getD j 0))) (by omega) (by omega) hU' h13 (by
      intro i h
      show (ru M.2 5 (upd (M.2 5) (T + j) (u.getD j 0))) 5 (T + i) = _
      rw [ru_eq]
      unfold upd
      by_cases h2 : i = j
      · rw [h2, if_pos rfl]
      · rw [if_neg (by omega)]
        exact hi i (by omega))
    refine ⟨X, ?_, ?_, e3⟩
    · rw [b_130_103, hU.1, if_neg (nI_ge (by omega) (by omega)), if_pos (mv_in_nI (show j < 2000 by omega) (by decide)), nI_add, if_pos (mv_in_nI (show T + j < 8192 by omega) (by decide)), nI_clamp (by omega), nI_clamp (by omega), hU.2 j (by omega), nI_1, e1]
      dsimp only
      rw [ru_ru, ru_ne _ _ (by decide : 4 ≠ 5)]
    · intro i h
      rw [e2 i h]
      show (ru M.2 5 (upd (M.2 5) (T + j) (u.getD j 0))) 5 i = _
      rw [ru_eq]
      unfold upd
      rw [if_neg (by omega)]
theorem m130 {M : CS} {E : Nat → Nat} {U : Nat → Int32} {c : Nat} {u : List Int32} (hS : SH (M.1 14) (M.2 4) (M.2 5) E U c) (hc : c < 1000) (hU : UR (M.2 1) (M.1 12) u) (hu : u.length ≤ 2000) (hT : E c + u.length ≤ 8192) :
    ∃ M', b_130_103 fu M (nI (E c)) 0 = some (nI c, M') ∧ fr [14] [4, 5] M M' ∧ SH (M'.1 14) (M'.2 4) (M'.2 5) (pE E c u.length) (pU E U c u) (c + 1) := by
  obtain ⟨X, e1, e2, e3⟩ := m130l hT hu hc u.length fu 0 M (by omega) (by rw [fu_e]; omega) hU hS.1 (fun i h => absurd h (Nat.not_lt_zero i))
  exact ⟨_, e1, fr.r1 (by decide) (fr.a1 (by decide) (fr.a1 (by decide) fr.pr)), hS.push (by omega) e2 e3⟩
theorem m130s {M : CS} {E : Nat → Nat} {U : Nat → Int32} {c : Nat} (hS : SH (M.1 14) (M.2 4) (M.2 5) E U c) (hE : EM E c) (hc : c < 1000) (s : Int32) : b_130_36 M s = b_130_59 M s (nI (E c)) := by
  have h := m130e hS hE hc (Nat.le_refl c)
  unfold b_130_36
  rw [hS.1]
  by_cases h0 : nI c = 0
  · rw [if_neg (nn h0)] at h ⊢
    rw [Option.some.inj h]
  · rw [if_pos h0] at h ⊢
    by_cases h1 : mv_in (nI c - 1) 1024 = true
    · rw [if_pos h1] at h ⊢
      rw [Option.some.inj h]
    · rw [if_neg h1] at h
      cases h
/-- what text() tells of a shelf -/
def shT (E : Nat → Nat) (U : Nat → Int32) (c : Nat) (l2 l3 : Int32) : Option Int32 :=
  if l2 < 0 then none else if nI c ≤ l2 then none else if l3 < -1 then none
  else if ¬ l3 < nI (E (l2.toNatClampNeg + 1) - E l2.toNatClampNeg) then none
  else if l3 = -1 then some (nI (E (l2.toNatClampNeg + 1) - E l2.toNatClampNeg)) else some (U (E l2.toNatClampNeg + l3.toNatClampNeg))
def shR : Option Int32 → Int32 ⊕ Nat
  | none => .inr 2
  | some v => .inl v
def shV : Option Int32 → Int32
  | none => 0
  | some v => v
def shC : Option Int32 → Int32
  | none => 1
  | some _ => 0
theorem f22a (M : CS) : f_22 M 0 0 = some (0, (ru M.1 0 0, M.2)) := rfl
theorem f22b (M : CS) (x : Int32) : f_22 M 1 x = some (1, (ru M.1 0 1, M.2)) := rfl
theorem f22c (M : CS) {x : Int32} (h : ¬ x = 0) : f_22 M 0 x = some (1, (ru M.1 0 2, M.2)) := by
  unfold f_22
  rw [if_pos rfl, if_neg h]
  rfl
theorem c132N {C : CS} {E : Nat → Nat} {U : Nat → Int32} {c : Nat} (hS : SH (C.1 13) (C.2 3) (C.2 2) E U c) (hE : EM E c) (hc : c < 1000) (hT : E c ≤ 2000) (l2 l3 : Int32) : b_132_15 C l2 l3 = some (shR (shT E U c l2 l3), C) := by
  unfold b_132_15 f_116_12 shT
  by_cases h1 : l2 < 0
  · rw [if_pos h1, if_pos h1, if_neg (nn (rfl : (0 : Int32) = 0))]
    rfl
  · obtain ⟨k, hk, rfl⟩ := nI_of h1
    rw [if_neg h1, if_neg h1, hS.1, nI_clamp hk]
    by_cases h2 : c ≤ k
    · rw [if_pos (nI_le h2 hk), if_pos (nI_le h2 hk), if_neg (nn (rfl : (0 : Int32) = 0))]
      rfl
    · have hkc : k < c := by omega
      have hk1 := hE.top (k := k + 1) (by omega)
      have hk2 := hE.2 k hkc
      rw [if_neg (nI_ge hkc (by omega)), if_neg (nI_ge hkc (by omega)), if_pos (by decide : ¬ (1 : Int32) = 0)]
      by_cases h3 : l3 < -1
      · rw [if_pos h3, if_pos h3]
        rfl
      · rw [if_neg h3, if_neg h3, c118 hS hE hc hkc, Option.bind_some]
        by_cases h4 : l3 < nI (E (k + 1) - E k)
        · rw [if_pos h4, if_neg (nn h4)]
          by_cases h5 : l3 = -1
          · rw [if_neg (nn h5), if_pos h5, Option.bind_some]
            rfl
          · obtain ⟨j, hj, rfl⟩ := nI_of (m1s h3 h5)
            have h6 : j < E (k + 1) - E k := (nI_ltI hj (by omega)).mp h4
            rw [if_pos h5, if_neg h5]
            unfold f_131_12
            rw [if_neg (nI_pos hj), c118 hS hE hc hkc, Option.bind_some, if_neg (nI_ge h6 (by omega)), c117 hS hE hc (by omega), Option.bind_some, nI_add, if_pos (mv_in_nI (show E k + j < 2000 by omega) (by decide)), nI_clamp (by omega), nI_clamp hj, hS.2.2 _ (by omega), Option.bind_some]
            rfl
        · rw [if_neg h4, if_pos h4]
          rfl
theorem m134N {M : CS} {E : Nat → Nat} {U : Nat → Int32} {c : Nat} (hS : SH (M.1 13) (M.2 2) (M.2 3) E U c) (hE : EM E c) (hc : c < 1000) (hT : E c ≤ 2000) (l2 l3 : Int32) : f_134 M 0 l2 l3 = some (shV (shT E U c l2 l3), (ru M.1 0 (shC (shT E U c l2 l3)), M.2)) := by
  have bad : ∀ l4 l5 : Int32, b_134_118 M 0 l3 l4 l5 = some (0, (ru M.1 0 1, M.2)) := by
    intro l4 l5
    unfold b_134_118 b_134_123
    rw [f22b, Option.bind_some]
    exact if_neg (by decide : ¬ (1 : Int32) = 0)
  have bad2 : b_134_23 M 0 l2 l3 = some (0, (ru M.1 0 1, M.2)) := by
    unfold b_134_23 b_134_28 b_134_39 b_134_66 b_134_99
    rw [if_pos (by decide : ¬ (1 : Int32) = 0), if_neg (by decide : ¬ (1 : Int32) = 0), if_pos (by decide : ¬ (1 : Int32) = 0)]
    exact bad _ _
  unfold f_134 shT
  by_cases h1 : l2 < 0
  · rw [if_pos h1, if_pos h1]
    exact bad2
  · obtain ⟨k, hk, rfl⟩ := nI_of h1
    rw [if_neg h1, if_neg h1, if_pos (rfl : (0 : Int32) = 0), hS.1, nI_clamp hk]
    unfold b_134_20
    by_cases h2 : c ≤ k
    · rw [if_pos (nI_le h2 hk), if_neg (nI_nlt h2 hk)]
      exact bad2
    · have hkc : k < c := by omega
      have hk1 := hE.top (k := k + 1) (by omega)
      have hk2 := hE.2 k hkc
      have e1 : b_134_28 M 0 (nI k) l3 0 = b_134_66 M 0 (nI k) l3 0 (nI (E k)) := by
        have h := m125e hS hE hc (Nat.le_of_lt hkc)
        unfold b_134_28 b_134_39
        rw [if_neg (nn (rfl : (0 : Int32) = 0)), if_pos (rfl : (0 : Int32) = 0)]
        by_cases h0 : nI k = 0
        · rw [if_neg (nn h0)] at h ⊢
          rw [Option.some.inj h]
        · rw [if_pos h0] at h ⊢
          by_cases h1 : mv_in (nI k - 1) 1000 = true
          · rw [if_pos h1] at h ⊢
            rw [Option.some.inj h]
          · rw [if_neg h1] at h
            cases h
      rw [if_neg (nI_ge hkc (by omega)), if_pos (nI_lt hkc (by omega)), e1]
      unfold b_134_66 b_134_96 b_134_99
      rw [if_pos (rfl : (0 : Int32) = 0), if_pos (rfl : (0 : Int32) = 0), if_pos (mv_in_nI (show k < 1000 by omega) (by decide)), nI_clamp hk, hS.2.1 k hkc, nI_sub hk2, if_neg (nn (rfl : (0 : Int32) = 0))]
      by_cases h3 : l3 < -1
      · rw [if_pos h3, if_pos h3]
        exact bad _ _
      · rw [if_neg h3, if_neg h3]
        by_cases h4 : l3 < nI (E (k + 1) - E k)
        · rw [if_pos h4, if_neg (nn h4)]
          unfold b_134_123
          rw [f22a, Option.bind_some, if_pos (rfl : (0 : Int32) = 0)]
          by_cases h5 : l3 = -1
          · rw [if_pos h5, if_neg (show ¬ 0 ≤ l3 from h5 ▸ (by decide))]
            rfl
          · have h8 := m1s h3 h5
            obtain ⟨j, hj, rfl⟩ := nI_of h8
            have h6 : j < E (k + 1) - E k := (nI_ltI hj (by omega)).mp h4
            rw [if_neg h5, if_pos (nI_pos' hj), if_pos (rfl : (0 : Int32) = 0), nI_add, if_pos (mv_in_nI (show E k + j < 2000 by omega) (by decide)), nI_clamp (by omega), nI_clamp hj, hS.2.2 _ (by omega)]
            rfl
        · rw [if_neg h4, if_pos h4]
          exact bad _ _
theorem c132L {C : CS} {E : Nat → Nat} {U : Nat → Int32} {c : Nat} (hS : SH (C.1 14) (C.2 5) (C.2 4) E U c) (hE : EM E c) (hc : c < 1000) (hT : E c ≤ 8192) (l2 l3 : Int32) : b_132_15_1 C l2 l3 = some (shR (shT E U c l2 l3), C) := by
  unfold b_132_15_1 f_116_15 shT
  by_cases h1 : l2 < 0
  · rw [if_pos h1, if_pos h1, if_neg (nn (rfl : (0 : Int32) = 0))]
    rfl
  · obtain ⟨k, hk, rfl⟩ := nI_of h1
    rw [if_neg h1, if_neg h1, hS.1, nI_clamp hk]
    by_cases h2 : c ≤ k
    · rw [if_pos (nI_le h2 hk), if_pos (nI_le h2 hk), if_neg (nn (rfl : (0 : Int32) = 0))]
      rfl
    · have hkc : k < c := by omega
      have hk1 := hE.top (k := k + 1) (by omega)
      have hk2 := hE.2 k hkc
      rw [if_neg (nI_ge hkc (by omega)), if_neg (nI_ge hkc (by omega)), if_pos (by decide : ¬ (1 : Int32) = 0)]
      by_cases h3 : l3 < -1
      · rw [if_pos h3, if_pos h3]
        rfl
      · rw [if_neg h3, if_neg h3, c118L hS hE hc hkc, Option.bind_some]
        by_cases h4 : l3 < nI (E (k + 1) - E k)
        · rw [if_pos h4, if_neg (nn h4)]
          by_cases h5 : l3 = -1
          · rw [if_neg (nn h5), if_pos h5, Option.bind_some]
            rfl
          · obtain ⟨j, hj, rfl⟩ := nI_of (m1s h3 h5)
            have h6 : j < E (k + 1) - E k := (nI_ltI hj (by omega)).mp h4
            rw [if_pos h5, if_neg h5]
            unfold f_131_15
            rw [if_neg (nI_pos hj), c118L hS hE hc hkc, Option.bind_some, if_neg (nI_ge h6 (by omega)), c117L hS hE hc (by omega), Option.bind_some, nI_add, if_pos (mv_in_nI (show E k + j < 8192 by omega) (by decide)), nI_clamp (by omega), nI_clamp hj, hS.2.2 _ (by omega), Option.bind_some]
            rfl
        · rw [if_neg h4, if_pos h4]
          rfl
theorem m134L {M : CS} {E : Nat → Nat} {U : Nat → Int32} {c : Nat} (hS : SH (M.1 14) (M.2 4) (M.2 5) E U c) (hE : EM E c) (hc : c < 1000) (hT : E c ≤ 8192) (l2 l3 : Int32) : f_134 M 1 l2 l3 = some (shV (shT E U c l2 l3), (ru M.1 0 (shC (shT E U c l2 l3)), M.2)) := by
  have bad : ∀ l4 l5 : Int32, b_134_118 M 1 l3 l4 l5 = some (0, (ru M.1 0 1, M.2)) := by
    intro l4 l5
    unfold b_134_118 b_134_123
    rw [f22b, Option.bind_some]
    exact if_neg (by decide : ¬ (1 : Int32) = 0)
  have bad2 : b_134_23 M 1 l2 l3 = some (0, (ru M.1 0 1, M.2)) := by
    unfold b_134_23 b_134_28 b_134_39 b_134_66 b_134_99
    rw [if_pos (by decide : ¬ (1 : Int32) = 0), if_neg (by decide : ¬ (1 : Int32) = 0), if_pos (by decide : ¬ (1 : Int32) = 0)]
    exact bad _ _
  unfold f_134 shT
  by_cases h1 : l2 < 0
  · rw [if_pos h1, if_pos h1]
    exact bad2
  · obtain ⟨k, hk, rfl⟩ := nI_of h1
    rw [if_neg h1, if_neg h1, if_neg (by decide : ¬ (1 : Int32) = 0), hS.1, nI_clamp hk]
    unfold b_134_20
    by_cases h2 : c ≤ k
    · rw [if_pos (nI_le h2 hk), if_neg (nI_nlt h2 hk)]
      exact bad2
    · have hkc : k < c := by omega
      have hk1 := hE.top (k := k + 1) (by omega)
      have hk2 := hE.2 k hkc
      have e1 : b_134_28 M 1 (nI k) l3 0 = b_134_66 M 1 (nI k) l3 0 (nI (E k)) := by
        have h := m130e hS hE hc (Nat.le_of_lt hkc)
        unfold b_134_28 b_134_39
        rw [if_neg (nn (rfl : (0 : Int32) = 0)), if_neg (by decide : ¬ (1 : Int32) = 0)]
        by_cases h0 : nI k = 0
        · rw [if_neg (nn h0)] at h ⊢
          rw [Option.some.inj h]
        · rw [if_pos h0] at h ⊢
          by_cases h1 : mv_in (nI k - 1) 1024 = true
          · rw [if_pos h1] at h ⊢
            rw [Option.some.inj h]
          · rw [if_neg h1] at h
            cases h
      rw [if_neg (nI_ge hkc (by omega)), if_pos (nI_lt hkc (by omega)), e1]
      unfold b_134_66 b_134_96 b_134_99
      rw [if_pos (rfl : (0 : Int32) = 0), if_neg (by decide : ¬ (1 : Int32) = 0), if_pos (mv_in_nI (show k < 1024 by omega) (by decide)), nI_clamp hk, hS.2.1 k hkc, nI_sub hk2, if_neg (nn (rfl : (0 : Int32) = 0))]
      by_cases h3 : l3 < -1
      · rw [if_pos h3, if_pos h3]
        exact bad _ _
      · rw [if_neg h3, if_neg h3]
        by_cases h4 : l3 < nI (E (k + 1) - E k)
        · rw [if_pos h4, if_neg (nn h4)]
          unfold b_134_123
          rw [f22a, Option.bind_some, if_pos (rfl : (0 : Int32) = 0)]
          by_cases h5 : l3 = -1
          · rw [if_pos h5, if_neg (show ¬ 0 ≤ l3 from h5 ▸ (by decide))]
            rfl
          · have h8 := m1s h3 h5
            obtain ⟨j, hj, rfl⟩ := nI_of h8
            have h6 : j < E (k + 1) - E k := (nI_ltI hj (by omega)).mp h4
            rw [if_neg h5, if_pos (nI_pos' hj), if_neg (by decide : ¬ (1 : Int32) = 0), nI_add, if_pos (mv_in_nI (show E k + j < 8192 by omega) (by decide)), nI_clamp (by omega), nI_clamp hj, hS.2.2 _ (by omega)]
            rfl
        · rw [if_neg h4, if_pos h4]
          exact bad _ _
