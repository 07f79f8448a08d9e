/-! bytes out of a long -/
theorem bytB (X : BitVec 64) (s : Nat) (hs : s ≤ 56) : (X >>> s).signExtend 32 &&& 255#32 = ((X.sshiftRight s) &&& 255#64).signExtend 32 := by
  apply BitVec.eq_of_getLsbD_eq
  intro i hi
  have m32 : ∀ i, i < 32 → (255#32).getLsbD i = decide (i < 8) := by decide
  have m64 : ∀ i, i < 32 → (255#64).getLsbD i = decide (i < 8) := by decide
  rw [BitVec.getLsbD_and, BitVec.getLsbD_signExtend, BitVec.getLsbD_signExtend, if_pos (show i < 64 by omega), if_pos (show i < 64 by omega), BitVec.getLsbD_and, BitVec.getLsbD_ushiftRight, BitVec.getLsbD_sshiftRight, m32 i hi, m64 i hi]
  by_cases h8 : i < 8
  · have h1 : s + i < 64 := by omega
    have h2 : ¬ 64 ≤ i := by omega
    simp [hi, h8, h1, h2]
  · simp [h8]
theorem byt (x : Int64) {l : Nat} (h : l < 8) : (lus x (8 * nI l)).toInt32 &&& 255 = ((lsr x (8 * nI l)) &&& 255).toInt32 := by
  have A : ∀ l, l < 8 → ((8 * nI l).toInt64.toUInt64 &&& Int64.toUInt64 63) = UInt64.ofNat (8 * l) := by decide
  have B : ∀ l, l < 8 → ((8 * nI l).toInt64 &&& 63) = Int64.ofNat (8 * l) := by decide
  have S : ∀ l, l < 8 → ((Int64.ofNat (8 * l)).toBitVec.smod 64).toNat = 8 * l := by decide
  have R : ∀ l, l < 8 → ((UInt64.ofNat (8 * l)).toBitVec % 64).toNat = 8 * l := by decide
  have L1 : (lus x (8 * nI l)).toBitVec = x.toBitVec >>> (8 * l) := by
    unfold lus
    rw [A l h]
    show x.toBitVec >>> ((UInt64.ofNat (8 * l)).toBitVec % 64).toNat = _
    rw [R l h]
  have L2 : (lsr x (8 * nI l)).toBitVec = x.toBitVec.sshiftRight (8 * l) := by
    unfold lsr
    rw [B l h]
    show x.toBitVec.sshiftRight ((Int64.ofNat (8 * l)).toBitVec.smod 64).toNat = _
    rw [S l h]
  apply Int32.toBitVec_inj.mp
  show (lus x (8 * nI l)).toBitVec.signExtend 32 &&& 255#32 = ((lsr x (8 * nI l)).toBitVec &&& 255#64).signExtend 32
  rw [L1, L2]
  exact bytB _ _ (by omega)
theorem byt0 (x : Int32) : 0 ≤ x &&& 255 := by
  obtain ⟨j, h1, h2⟩ := pk_andE x (m := 255) 8 (by decide)
  rw [h2]
  exact nI_pos' (by omega)
/-! class and reference side by side -/
def Base (C M : CS) (n : Nat) : Prop := C.1 1 = M.1 3 ∧ C.1 2 = nI n ∧ M.1 1 = nI n ∧ n ≤ 2000 ∧ C.2 0 = M.2 0 ∧ (∀ k, k < n → 0 ≤ C.2 0 k)
def Nm (C M : CS) (E : Nat → Nat) (U : Nat → Int32) (c : Nat) : Prop := SH (C.1 13) (C.2 3) (C.2 2) E U c ∧ SH (M.1 13) (M.2 2) (M.2 3) E U c ∧ EM E c ∧ E c ≤ 2000
def Lt (C M : CS) (E : Nat → Nat) (U : Nat → Int32) (c : Nat) : Prop := SH (C.1 14) (C.2 5) (C.2 4) E U c ∧ SH (M.1 14) (M.2 4) (M.2 5) E U c ∧ EM E c ∧ E c ≤ 8192
def TKb (C M : CS) (n : Nat) (E : Nat → Nat) (U : Nat → Int32) (c : Nat) : Prop := C.1 0 = 1 ∧ M.1 2 = 1 ∧ C.1 5 = C.1 11 ∧ ∃ s a u, TKa C M n s a u ∧ (E c ≤ s ∨ (E c ≤ a ∧ (C.1 3 = 1 ∨ C.1 3 = 2 ∨ C.1 3 = 3) ∧ ∃ k, k < c ∧ hit E U u k))
def Rel (C M : CS) (B : Nat) : Prop := ∃ n E U c F V d, Base C M n ∧ Nm C M E U c ∧ Lt C M F V d ∧ c ≤ B ∧ d ≤ B ∧ ((C.1 0 = 0 ∧ M.1 2 = 0) ∨ TKb C M n E U c)
theorem Rel.m0 {C M : CS} {B : Nat} (h : Rel C M B) (x : Int32) : Rel C (ru M.1 0 x, M.2) B := h
theorem Rel.up {C M : CS} {B B' : Nat} (h : Rel C M B) (hB : B ≤ B') : Rel C M B' := by
  obtain ⟨n, E, U, c, F, V, d, h1, h2, h3, h4, h5, h6⟩ := h
  exact ⟨n, E, U, c, F, V, d, h1, h2, h3, Nat.le_trans h4 hB, Nat.le_trans h5 hB, h6⟩
def tv (C : CS) (n : Nat) : Nat → Int32 := fun k => if k < n then C.2 0 k else -1
theorem Base.bk {C M : CS} {n : Nat} (h : Base C M n) : BK (tv C n) n := by
  refine ⟨?_, ?_⟩
  · intro k hk
    unfold tv
    rw [if_pos hk]
    exact h.2.2.2.2.2 k hk
  · intro k hk
    unfold tv
    rw [if_neg (by omega)]
theorem Base.ck {C M : CS} {n : Nat} (h : Base C M n) : CK C (tv C n) n := ⟨h.2.1, h.2.2.2.1, fun _ => rfl⟩
theorem Base.mk' {C M : CS} {n : Nat} (h : Base C M n) : MK M (tv C n) n := ⟨h.2.2.1, h.2.2.2.1, fun k => by unfold tv; rw [h.2.2.2.2.1]⟩
theorem Nm.fr {C M C' M' : CS} {E : Nat → Nat} {U : Nat → Int32} {c : Nat} {ks as ks' as' : List Nat} (h : Nm C M E U c) (hf : fr ks as C C') (hg : fr ks' as' M M') (h1 : 13 ∉ ks := by decide) (h2 : 3 ∉ as := by decide) (h3 : 2 ∉ as := by decide) (h4 : 13 ∉ ks' := by decide) (h5 : 2 ∉ as' := by decide) (h6 : 3 ∉ as' := by decide) : Nm C' M' E U c := by
  unfold Nm
  rw [hf.1 _ h1, hf.2 _ h2, hf.2 _ h3, hg.1 _ h4, hg.2 _ h5, hg.2 _ h6]
  exact h
theorem Lt.fr {C M C' M' : CS} {E : Nat → Nat} {U : Nat → Int32} {c : Nat} {ks as ks' as' : List Nat} (h : Lt C M E U c) (hf : fr ks as C C') (hg : fr ks' as' M M') (h1 : 14 ∉ ks := by decide) (h2 : 5 ∉ as := by decide) (h3 : 4 ∉ as := by decide) (h4 : 14 ∉ ks' := by decide) (h5 : 4 ∉ as' := by decide) (h6 : 5 ∉ as' := by decide) : Lt C' M' E U c := by
  unfold Lt
  rw [hf.1 _ h1, hf.2 _ h2, hf.2 _ h3, hg.1 _ h4, hg.2 _ h5, hg.2 _ h6]
  exact h
theorem Base.fr {C M C' M' : CS} {n : Nat} {ks as ks' as' : List Nat} (h : Base C M n) (hf : fr ks as C C') (hg : fr ks' as' M M') (h1 : 1 ∉ ks := by decide) (h2 : 2 ∉ ks := by decide) (h3 : 0 ∉ as := by decide) (h4 : 1 ∉ ks' := by decide) (h5 : 3 ∉ ks' := by decide) (h6 : 0 ∉ as' := by decide) : Base C' M' n := by
  unfold Base
  rw [hf.1 _ h1, hf.1 _ h2, hf.2 _ h3, hg.1 _ h4, hg.1 _ h5, hg.2 _ h6]
  exact h
/-- the class's answer and the reference's -/
def Ag (cd : Nat → Int32) (r : Int32 ⊕ Nat) (w t : Int32) : Prop := match r with
  | .inl v => t = 0 ∧ w = v
  | .inr k => t = cd k ∧ ¬ cd k = 0
def Call (cd : Nat → Int32) (F : Option ((Int32 ⊕ Nat) × CS)) (G : Option (Int32 × CS)) (B : Nat) : Prop := ∃ r C' w M', F = some (r, C') ∧ G = some (w, M') ∧ Ag cd r w (M'.1 0) ∧ Rel C' M' B
def cd01 (k : Nat) : Int32 := bif Nat.beq k 0 then 1 else bif Nat.beq k 1 then 2 else 0
theorem feedl {x : Int64} {B : Nat} : ∀ (d m n : Nat) (C M : CS) (l : Int32), l + 1 = nI d → d ≤ 8 → n + d ≤ 2000 → d < m → Base C M n →
    ∃ C' M', b_20_64 m C x l = some (.inl (nI (n + d)), C') ∧ b_23_63 m M x l = some (nI (n + d), M') ∧ fr [2] [0] C C' ∧ fr [1] [0] M M' ∧ Base C' M' (n + d) := by
  intro d
  induction d with
  | zero =>
    intro m n C M l hl hd hn hm hb
    obtain ⟨m', rfl⟩ : ∃ m', m = m' + 1 := ⟨m - 1, by omega⟩
    have e : l = -1 := by
      have h1 : l + 1 - 1 = nI 0 - 1 := by rw [hl]
      rw [Int32.add_sub_cancel] at h1
      rw [h1]
      decide
    rw [b_20_64, b_23_63, e, if_pos (by decide), if_pos (by decide)]
    unfold f_19
    rw [hb.2.1, hb.2.2.1]
    exact ⟨C, M, rfl, rfl, fr.rf, fr.rf, hb⟩
  | succ d ih =>
    intro m n C M l hl hd hn hm hb
    obtain ⟨m', rfl⟩ : ∃ m', m = m' + 1 := ⟨m - 1, by omega⟩
    have e : l = nI d := by
      have h1 : l + 1 - 1 = nI (d + 1) - 1 := by rw [hl]
      rw [Int32.add_sub_cancel, nI_pred] at h1
      exact h1
    subst e
    rw [b_20_64, b_23_63, if_neg (nI_pos (by omega)), if_neg (nI_pos (by omega)), ← byt x (show d < 8 by omega), hb.2.2.1, if_pos (mv_in_nI (show n < 2000 by omega) (by decide))]
    unfold f_18
    rw [hb.2.1, if_neg (show ¬ (2000 : Int32) ≤ nI n from nI_ge (b := 2000) (by omega) (by decide)), if_pos (mv_in_nI (show n < 2000 by omega) (by decide)), Option.bind_some, nI_clamp (by omega), nI_1]
    have hx := byt0 (lus x (8 * nI d)).toInt32
    generalize (lus x (8 * nI d)).toInt32 &&& 255 = y at hx ⊢
    have hb' : Base (ru C.1 2 (nI (n + 1)), ru C.2 0 (upd (C.2 0) n y)) (ru M.1 1 (nI (n + 1)), ru M.2 0 (upd (M.2 0) n y)) (n + 1) := by
      refine ⟨?_, rp, rp, by omega, ?_, ?_⟩
      · rw [rq (by decide), rq (by decide)]
        exact hb.1
      · show (ru C.2 0 (upd (C.2 0) n y)) 0 = (ru M.2 0 (upd (M.2 0) n y)) 0
        rw [ru_eq, ru_eq, hb.2.2.2.2.1]
      · intro k hk
        show 0 ≤ (ru C.2 0 (upd (C.2 0) n y)) 0 k
        rw [ru_eq]
        unfold upd
        by_cases h3 : k = n
        · rw [if_pos h3]; exact hx
        · rw [if_neg h3]; exact hb.2.2.2.2.2 k (by omega)
    obtain ⟨C', M', k1, k2, k3, k4, k5⟩ := ih m' (n + 1) (ru C.1 2 (nI (n + 1)), ru C.2 0 (upd (C.2 0) n y)) (ru M.1 1 (nI (n + 1)), ru M.2 0 (upd (M.2 0) n y)) (nI d + -1) (by rw [Int32.add_assoc]; exact Int32.add_zero _) (by omega) (by omega) (by omega) hb'
    rw [show n + 1 + d = n + (d + 1) by omega] at k1 k2 k5
    exact ⟨C', M', k1, k2, (fr.r1 (by decide) (fr.a1 (by decide) fr.pr)).tr k3, (fr.r1 (by decide) (fr.a1 (by decide) fr.pr)).tr k4, k5⟩
theorem callFeed {C M : CS} {B : Nat} (h : Rel C M B) (x : Int64) (p : Int32) : Call cd01 (f_20 C x p) (f_23 M x p) B := by
  have h0 := h
  obtain ⟨n, E, U, c, F, V, d, h1, h2, h3, h4, h5, h6⟩ := h
  have hn := h1.2.2.2.1
  have bad1 : b_23_11 M x p = some (0, (ru M.1 0 1, M.2)) := by
    unfold b_23_11 b_23_16 b_23_49 b_23_50
    rw [if_pos (by decide : ¬ (1 : Int32) = 0), f22b, Option.bind_some]
    exact if_neg (by decide : ¬ (1 : Int32) = 0)
  have bad2 : b_23_45 M x p 0 = some (0, (ru M.1 0 2, M.2)) := by
    unfold b_23_45 b_23_50
    rw [f22c M (by decide : ¬ (1 : Int32) = 0), Option.bind_some]
    exact if_neg (by decide : ¬ (1 : Int32) = 0)
  unfold f_20 f_23
  by_cases g1 : p < 1
  · rw [if_pos g1, if_pos g1, bad1]
    exact ⟨_, _, _, _, rfl, rfl, ⟨rfl, by decide⟩, h0.m0 1⟩
  · rw [if_neg g1, if_neg g1]
    by_cases g2 : p ≤ 8
    · rw [if_pos g2, if_pos g2]
      unfold b_23_16
      rw [if_neg (nn (rfl : (0 : Int32) = 0))]
      have g3 : ¬ p < 0 := fun h9 => g1 (Int32.lt_trans h9 (by decide))
      obtain ⟨q, hq, rfl⟩ := nI_of g3
      have q1 : 1 ≤ q := by
        apply Nat.le_of_not_lt
        intro h9
        exact g1 (nI_lt (b := 1) h9 (by decide))
      have q8 : q ≤ 8 := (nI_leI (b := 8) hq (by decide)).mp g2
      rcases h6 with ⟨t1, t2⟩ | t
      · rw [if_pos t1, if_neg (nn t2)]
        have e17 : f_17 C (nI q) = if n + q ≤ 2000 then 1 else 0 := by
          unfold f_17
          rw [h1.2.1, show (2000 : Int32) - nI n = nI (2000 - n) from nI_sub (a := 2000) (by omega)]
          by_cases g4 : n + q ≤ 2000
          · rw [if_pos g4, if_neg (nI_nlt (by omega) (by omega))]
          · rw [if_neg g4, if_pos (nI_lt (by omega) (by omega))]
        rw [e17, h1.2.2.1, nI_add]
        by_cases g4 : n + q ≤ 2000
        · rw [if_pos g4, if_pos (by decide : ¬ (1 : Int32) = 0), if_pos (show nI (n + q) ≤ 2000 from nI_le (b := 2000) g4 (by decide))]
          unfold b_23_49 b_23_50
          rw [f22a, Option.bind_some]
          obtain ⟨q', rfl⟩ : ∃ q', q = q' + 1 := ⟨q - 1, by omega⟩
          obtain ⟨C', M', k1, k2, k3, k4, k5⟩ := feedl (x := x) (B := B) (q' + 1) fu n C (ru M.1 0 0, M.2) (nI (q' + 1) - 1) (by rw [nI_pred, nI_1]) q8 g4 (by rw [fu_e]; omega) h1
          refine ⟨_, C', _, M', k1, (if_pos (rfl : (0 : Int32) = 0)).trans k2, ⟨k4.1 0 (by decide), rfl⟩, n + (q' + 1), E, U, c, F, V, d, k5, Nm.fr (M := (ru M.1 0 0, M.2)) h2 k3 k4, Lt.fr (M := (ru M.1 0 0, M.2)) h3 k3 k4, h4, h5, Or.inl ⟨(k3.1 0 (by decide)).trans t1, (k4.1 2 (by decide)).trans t2⟩⟩
        · rw [if_neg g4, if_neg (nn (rfl : (0 : Int32) = 0)), if_neg (show ¬ nI (n + q) ≤ 2000 from nI_ge (a := 2000) (by omega) (by omega)), bad2]
          exact ⟨_, _, _, _, rfl, rfl, ⟨rfl, by decide⟩, h0.m0 2⟩
      · rw [if_neg (show ¬ C.1 0 = 0 by rw [t.1]; decide), if_pos (show ¬ M.1 2 = 0 by rw [t.2.1]; decide), bad2]
        exact ⟨_, _, _, _, rfl, rfl, ⟨rfl, by decide⟩, h0.m0 2⟩
    · rw [if_neg g2, if_neg g2, bad1]
      exact ⟨_, _, _, _, rfl, rfl, ⟨rfl, by decide⟩, h0.m0 1⟩
