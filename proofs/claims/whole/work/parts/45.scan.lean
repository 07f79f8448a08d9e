/-! simple scans -/
theorem rp {r : Nat → Int32} {α : Nat → Nat → Int32} {k : Nat} {v : Int32} : ((ru r k v, α) : CS).1 k = v := ru_eq r k v
theorem rq {r : Nat → Int32} {α : Nat → Nat → Int32} {k j : Nat} {v : Int32} (h : j ≠ k) : ((ru r k v, α) : CS).1 j = r j := ru_ne r v h
theorem ru_id {β : Type} {f : Nat → β} {k : Nat} {v : β} (h : f k = v) : ru f k v = f := by
  funext j
  by_cases hj : j = k
  · subst hj; rw [ru_eq]; exact h.symm
  · exact ru_ne f v hj
theorem ru_ru {β : Type} (f : Nat → β) (k : Nat) (v w : β) : ru (ru f k v) k w = ru f k w := by
  funext j
  by_cases hj : j = k
  · subst hj; rw [ru_eq, ru_eq]
  · rw [ru_ne _ _ hj, ru_ne _ _ hj, ru_ne _ _ hj]
/-- while q holds -/
def whS (q : Int32 → Bool) (b : Nat → Int32) : Nat → Nat → Nat
  | 0, a => a
  | m + 1, a => if q (b a) = true then whS q b m (a + 1) else a
theorem whS_b {q : Int32 → Bool} {b : Nat → Int32} {n : Nat} (hB : BK b n) (hq : q (-1) = false) : ∀ m a, a ≤ n → a ≤ whS q b m a ∧ whS q b m a ≤ n := by
  intro m
  induction m with
  | zero => intro a h; exact ⟨Nat.le_refl _, h⟩
  | succ m ih =>
    intro a h
    rw [whS]
    by_cases hc : q (b a) = true
    · rw [if_pos hc]
      have : a < n := by
        apply Nat.lt_of_not_le
        intro h9
        rw [hB.2 a h9, hq] at hc
        cases hc
      have := ih (a + 1) (by omega)
      omega
    · rw [if_neg hc]; exact ⟨Nat.le_refl _, h⟩
/-- and there it ends -/
theorem whS_e {q : Int32 → Bool} {b : Nat → Int32} {n : Nat} (hB : BK b n) (hq : q (-1) = false) : ∀ m a, a ≤ n → n < a + m → q (b (whS q b m a)) = false := by
  intro m
  induction m with
  | zero => intro a h h2; omega
  | succ m ih =>
    intro a h h2
    rw [whS]
    by_cases hc : q (b a) = true
    · rw [if_pos hc]
      have : a < n := by
        apply Nat.lt_of_not_le
        intro h9
        rw [hB.2 a h9, hq] at hc
        cases hc
      exact ih (a + 1) (by omega) (by omega)
    · rw [if_neg hc]; simpa using hc
def qd (c : Int32) : Bool := !(decide (f_38 c = 0))
def qh (c : Int32) : Bool := !(decide (f_36 c = -1))
def qf (c : Int32) : Bool := !(decide (f_39 c = 0))
def ql (c : Int32) : Bool := decide (f_30 c = 0) && !(decide (c = -1))
theorem qd_t {c : Int32} : qd c = true ↔ ¬ f_38 c = 0 := by simp [qd]
theorem qh_t {c : Int32} : qh c = true ↔ ¬ f_36 c = -1 := by simp [qh]
theorem qf_t {c : Int32} : qf c = true ↔ ¬ f_39 c = 0 := by simp [qf]
theorem ql_t {c : Int32} : ql c = true ↔ f_30 c = 0 ∧ ¬ c = -1 := by simp [ql]
theorem c47 {b : Nat → Int32} {n : Nat} (hB : BK b n) : ∀ (m : Nat) (C : CS) (a : Nat), CK C b n → C.1 11 = nI a → a ≤ n → n < a + m → b_47_0 m C = some (ru C.1 11 (nI (whS qd b m a)), C.2) := by
  intro m
  induction m with
  | zero => intro C a _ _ h h2; omega
  | succ m ih =>
    intro C a hK ha h h2
    have hn := hK.2.1
    rw [b_47_0, whS, c19 hK, ha]
    by_cases hc : qd (b a) = true
    · have hlt : a < n := by
        apply Nat.lt_of_not_le
        intro h9
        rw [hB.2 a h9] at hc
        exact absurd hc (by decide)
      rw [if_neg (nI_ge hlt (by omega)), c28 hK (by omega), if_pos hc, Option.bind_some, if_neg (qd_t.mp hc), nI_1]
      rw [ih (ru C.1 11 (nI (a + 1)), C.2) (a + 1) (hK.fr (fr.r1 (ks := [11]) (as := []) (by decide) fr.pr)) rp (by omega) (by omega)]
      dsimp only
      rw [ru_ru]
    · rw [if_neg hc, ru_id ha]
      by_cases hle : nI n ≤ nI a
      · rw [if_pos hle]
      · rw [if_neg hle, c28 hK (by omega), Option.bind_some, if_pos (Decidable.of_not_not (fun h9 => hc (qd_t.mpr h9)))]
theorem m82 {b : Nat → Int32} {n : Nat} (hB : BK b n) : ∀ (m : Nat) (C : CS) (a : Nat), MK C b n → C.1 5 = nI a → a ≤ n → n < a + m → b_82_0 m C = some (ru C.1 5 (nI (whS qd b m a)), C.2) := by
  intro m
  induction m with
  | zero => intro C a _ _ h h2; omega
  | succ m ih =>
    intro C a hK ha h h2
    have hn := hK.2.1
    rw [b_82_0, whS, ha, m66 hK (by omega), Option.bind_some, e74]
    by_cases hc : qd (b a) = true
    · have hlt : a < n := by
        apply Nat.lt_of_not_le
        intro h9
        rw [hB.2 a h9] at hc
        exact absurd hc (by decide)
      rw [if_pos hc, if_neg (qd_t.mp hc), nI_1]
      rw [ih (ru C.1 5 (nI (a + 1)), C.2) (a + 1) (hK.fr (fr.r1 (ks := [5]) (as := []) (by decide) fr.pr)) rp (by omega) (by omega)]
      dsimp only
      rw [ru_ru]
    · rw [if_neg hc, ru_id ha, if_pos (Decidable.of_not_not (fun h9 => hc (qd_t.mpr h9)))]
theorem c46 {b : Nat → Int32} {n : Nat} (hB : BK b n) : ∀ (m : Nat) (C : CS) (a : Nat), CK C b n → C.1 11 = nI a → a ≤ n → n < a + m → b_46_37 m C = some (1, (ru C.1 11 (nI (whS qh b m a)), C.2)) := by
  intro m
  induction m with
  | zero => intro C a _ _ h h2; omega
  | succ m ih =>
    intro C a hK ha h h2
    have hn := hK.2.1
    rw [b_46_37, whS, c19 hK, ha]
    by_cases hc : qh (b a) = true
    · have hlt : a < n := by
        apply Nat.lt_of_not_le
        intro h9
        rw [hB.2 a h9] at hc
        exact absurd hc (by decide)
      rw [if_neg (nI_ge hlt (by omega)), c28 hK (by omega), if_pos hc, Option.bind_some, if_neg (qh_t.mp hc), nI_1]
      rw [ih (ru C.1 11 (nI (a + 1)), C.2) (a + 1) (hK.fr (fr.r1 (ks := [11]) (as := []) (by decide) fr.pr)) rp (by omega) (by omega)]
      dsimp only
      rw [ru_ru]
    · rw [if_neg hc, ru_id ha]
      by_cases hle : nI n ≤ nI a
      · rw [if_pos hle]
      · rw [if_neg hle, c28 hK (by omega), Option.bind_some, if_pos (Decidable.of_not_not (fun h9 => hc (qh_t.mpr h9)))]
theorem m84h {b : Nat → Int32} {n : Nat} (hB : BK b n) : ∀ (m : Nat) (C : CS) (a : Nat), MK C b n → C.1 5 = nI a → a ≤ n → n < a + m → b_84_80 m C = b_84_111 (ru C.1 5 (nI (whS qh b m a)), C.2) := by
  intro m
  induction m with
  | zero => intro C a _ _ h h2; omega
  | succ m ih =>
    intro C a hK ha h h2
    have hn := hK.2.1
    rw [b_84_80, whS, ha, m66 hK (by omega), Option.bind_some, e75]
    by_cases hc : qh (b a) = true
    · have hlt : a < n := by
        apply Nat.lt_of_not_le
        intro h9
        rw [hB.2 a h9] at hc
        exact absurd hc (by decide)
      have h9 : ¬ f_36 (b a) < 0 := Int32.not_lt.mpr ((hexn _).mpr (qh_t.mp hc))
      rw [if_pos hc, if_neg h9, nI_1]
      rw [ih (ru C.1 5 (nI (a + 1)), C.2) (a + 1) (hK.fr (fr.r1 (ks := [5]) (as := []) (by decide) fr.pr)) rp (by omega) (by omega)]
      dsimp only
      rw [ru_ru]
    · have h9 : f_36 (b a) = -1 := Decidable.of_not_not (fun h9 => hc (qh_t.mpr h9))
      rw [if_neg hc, ru_id ha, if_pos (by rw [h9]; decide)]
theorem c31 {b : Nat → Int32} {n : Nat} (hB : BK b n) : ∀ (m : Nat) (C : CS) (a : Nat), CK C b n → C.1 11 = nI a → a ≤ n → n < a + m → b_31_0 m C = some (ru C.1 11 (nI (whS ql b m a)), C.2) := by
  intro m
  induction m with
  | zero => intro C a _ _ h h2; omega
  | succ m ih =>
    intro C a hK ha h h2
    have hn := hK.2.1
    rw [b_31_0, whS, c19 hK, ha]
    by_cases hc : ql (b a) = true
    · have hlt : a < n := by
        apply Nat.lt_of_not_le
        intro h9
        rw [hB.2 a h9] at hc
        exact absurd hc (by decide)
      rw [if_neg (nI_ge hlt (by omega)), c28 hK (by omega), if_pos hc, Option.bind_some, if_neg (fun h9 => h9 (ql_t.mp hc).1), nI_1]
      rw [ih (ru C.1 11 (nI (a + 1)), C.2) (a + 1) (hK.fr (fr.r1 (ks := [11]) (as := []) (by decide) fr.pr)) rp (by omega) (by omega)]
      dsimp only
      rw [ru_ru]
    · rw [if_neg hc, ru_id ha]
      by_cases hle : nI n ≤ nI a
      · rw [if_pos hle]
      · rw [if_neg hle, c28 hK (by omega), Option.bind_some]
        have hlt : a < n := by
          apply Nat.lt_of_not_le
          intro h9
          exact hle (nI_le h9 (by omega))
        have h1 : ¬ b a = -1 := fun h9 => absurd (hB.m1.mp h9) (by omega)
        rw [if_pos (fun h9 => hc (ql_t.mpr ⟨h9, h1⟩))]
theorem m70l {b : Nat → Int32} {n : Nat} (hB : BK b n) : ∀ (m : Nat) (C : CS) (a : Nat), MK C b n → a ≤ n → n < a + m → b_70_28 m C (nI a) = some (nI (whS ql b m a), C) := by
  intro m
  induction m with
  | zero => intro C a _ h h2; omega
  | succ m ih =>
    intro C a hK h h2
    have hn := hK.2.1
    rw [b_70_28, whS, hK.1]
    by_cases hlt : a < n
    · have hb : b a = C.2 0 a := by rw [hK.2.2 a, if_pos hlt]
      have h1 : ¬ b a = -1 := fun h9 => absurd (hB.m1.mp h9) (by omega)
      rw [if_neg (nI_ge hlt (by omega)), if_pos (mv_in_nI (show a < 2000 by omega) (by decide)), nI_clamp (by omega), ← hb, e68]
      by_cases hc : ql (b a) = true
      · rw [if_pos hc, if_neg (fun h9 => h9 (ql_t.mp hc).1), nI_1]
        exact ih C (a + 1) hK (by omega) (by omega)
      · rw [if_neg hc, if_pos (fun h9 => hc (ql_t.mpr ⟨h9, h1⟩))]
    · rw [if_pos (nI_le (by omega) (by omega)), if_neg]
      rw [hB.2 a (by omega)]
      decide
theorem c97f {b : Nat → Int32} {n : Nat} (hB : BK b n) : ∀ (m : Nat) (C : CS) (a : Nat), CK C b n → C.1 11 = nI a → a ≤ n → n < a + m → b_97_48 m C = b_97_92 (ru C.1 11 (nI (whS qf b m a)), C.2) := by
  intro m
  induction m with
  | zero => intro C a _ _ h h2; omega
  | succ m ih =>
    intro C a hK ha h h2
    have hn := hK.2.1
    rw [b_97_48, whS, c19 hK, ha]
    by_cases hc : qf (b a) = true
    · have hlt : a < n := by
        apply Nat.lt_of_not_le
        intro h9
        rw [hB.2 a h9] at hc
        exact absurd hc (by decide)
      rw [if_neg (nI_ge hlt (by omega)), c28 hK (by omega), if_pos hc, Option.bind_some, if_neg (qf_t.mp hc), nI_1]
      rw [ih (ru C.1 11 (nI (a + 1)), C.2) (a + 1) (hK.fr (fr.r1 (ks := [11]) (as := []) (by decide) fr.pr)) rp (by omega) (by omega)]
      dsimp only
      rw [ru_ru]
    · rw [if_neg hc, ru_id ha]
      by_cases hle : nI n ≤ nI a
      · rw [if_pos hle]
      · rw [if_neg hle, c28 hK (by omega), Option.bind_some, if_pos (Decidable.of_not_not (fun h9 => hc (qf_t.mpr h9)))]
/-- behind the flags of a pattern -/
def m100z (M : CS) : Option CS := (f_66 M (M.1 5)).bind fun c => if ¬ c = 92 then b_100_206 M else (f_69 M (M.1 5)).bind fun M' => b_100_206 M'
theorem m100f {b : Nat → Int32} {n : Nat} (hB : BK b n) : ∀ (m : Nat) (C : CS) (a : Nat), MK C b n → C.1 5 = nI a → a ≤ n → n < a + m → b_100_144 m C = m100z (ru C.1 5 (nI (whS qf b m a)), C.2) := by
  intro m
  induction m with
  | zero => intro C a _ _ h h2; omega
  | succ m ih =>
    intro C a hK ha h h2
    have hn := hK.2.1
    rw [b_100_144, whS, ha, m66 hK (by omega), Option.bind_some, e73, e74, Option.bind_some]
    unfold b_100_172
    by_cases hc : qf (b a) = true
    · have hlt : a < n := by
        apply Nat.lt_of_not_le
        intro h9
        rw [hB.2 a h9] at hc
        exact absurd hc (by decide)
      have key : b_100_144 m (ru C.1 5 (C.1 5 + 1), C.2) = m100z (ru C.1 5 (nI (whS qf b m (a + 1))), C.2) := by
        rw [ha, nI_1, ih (ru C.1 5 (nI (a + 1)), C.2) (a + 1) (hK.fr (fr.r1 (ks := [5]) (as := []) (by decide) fr.pr)) rp (by omega) (by omega)]
        dsimp only
        rw [ru_ru]
      rw [if_pos hc]
      by_cases h5 : f_35 (b a) = 0
      · have h8 : ¬ f_38 (b a) = 0 := fun h9 => (qf_t.mp hc) ((e39 _).mpr ⟨h5, h9⟩)
        rw [if_neg (fun h9 => h9 h5), if_neg h8]
        exact key
      · rw [if_pos h5]
        exact key
    · have h9 := (e39 _).mp (Decidable.of_not_not (fun h9 => hc (qf_t.mpr h9)))
      rw [if_neg hc, ru_id ha, if_neg (fun h => h h9.1), if_pos h9.2]
      unfold m100z
      rw [ha]
      have e : ((C.1, C.2) : CS) = C := rfl
      rw [e, m66 hK (by omega)]
