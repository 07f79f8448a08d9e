/-! the law's loop -/
def LSt (F : Option (Int32 × CS × (Nat → Int64) × Nat)) (G : Option (Int32 × CS)) (B : Nat) : Prop := ∃ t C' o' e w M', F = some (t, C', o', e) ∧ G = some (w, M') ∧ e ≤ 1 ∧ M'.1 0 = t ∧ (t = 0 → o' 0 = w.toInt64) ∧ Rel C' M' B
theorem up0 (o : Nat → Int64) (x : Int64) : vp_updL o 0 x 0 = x := if_pos rfl
theorem w01 {F : Option ((Int32 ⊕ Nat) × CS)} {G : Option (Int32 × CS)} {B : Nat} (h : Call cd01 F G B) (o : Nat → Int64) : LSt (F.bind fun r => match r.1 with | .inl v => some (0, r.2, (vp_updL o 0 v.toInt64), 0) | .inr k => (bif Nat.beq k 0 then some (1, r.2, o, 1) else (bif Nat.beq k 1 then some (2, r.2, o, 1) else none))) G B := by
  obtain ⟨r, C', w, M', rfl, rfl, ha, hr⟩ := h
  match r, ha with
  | .inl v, ha => exact ⟨0, C', vp_updL o 0 v.toInt64, 0, w, M', rfl, rfl, by omega, ha.1, fun _ => (up0 _ _).trans (by rw [ha.2]), hr⟩
  | .inr 0, ha => exact ⟨1, C', o, 1, w, M', rfl, rfl, by omega, ha.1, fun h9 => absurd h9 (by decide), hr⟩
  | .inr 1, ha => exact ⟨2, C', o, 1, w, M', rfl, rfl, by omega, ha.1, fun h9 => absurd h9 (by decide), hr⟩
  | .inr (k + 2), ha => exact absurd rfl ha.2
theorem w12 {F : Option ((Int32 ⊕ Nat) × CS)} {G : Option (Int32 × CS)} {B : Nat} (h : Call cd12 F G B) (o : Nat → Int64) : LSt (F.bind fun r => match r.1 with | .inl v => some (0, r.2, (vp_updL o 0 v.toInt64), 0) | .inr k => (bif Nat.beq k 1 then some (1, r.2, o, 1) else (bif Nat.beq k 2 then some (2, r.2, o, 1) else none))) G B := by
  obtain ⟨r, C', w, M', rfl, rfl, ha, hr⟩ := h
  match r, ha with
  | .inl v, ha => exact ⟨0, C', vp_updL o 0 v.toInt64, 0, w, M', rfl, rfl, by omega, ha.1, fun _ => (up0 _ _).trans (by rw [ha.2]), hr⟩
  | .inr 0, ha => exact absurd rfl ha.2
  | .inr 1, ha => exact ⟨1, C', o, 1, w, M', rfl, rfl, by omega, ha.1, fun h9 => absurd h9 (by decide), hr⟩
  | .inr 2, ha => exact ⟨2, C', o, 1, w, M', rfl, rfl, by omega, ha.1, fun h9 => absurd h9 (by decide), hr⟩
  | .inr (k + 3), ha => exact absurd rfl ha.2
theorem w1 {F : Option ((Int32 ⊕ Nat) × CS)} {G : Option (Int32 × CS)} {B : Nat} (h : Call cd1 F G B) (o : Nat → Int64) : LSt (F.bind fun r => match r.1 with | .inl v => some (0, r.2, (vp_updL o 0 v.toInt64), 0) | .inr k => (bif Nat.beq k 1 then some (1, r.2, o, 1) else none)) G B := by
  obtain ⟨r, C', w, M', rfl, rfl, ha, hr⟩ := h
  match r, ha with
  | .inl v, ha => exact ⟨0, C', vp_updL o 0 v.toInt64, 0, w, M', rfl, rfl, by omega, ha.1, fun _ => (up0 _ _).trans (by rw [ha.2]), hr⟩
  | .inr 0, ha => exact absurd rfl ha.2
  | .inr 1, ha => exact ⟨1, C', o, 1, w, M', rfl, rfl, by omega, ha.1, fun h9 => absurd h9 (by decide), hr⟩
  | .inr (k + 2), ha => exact absurd rfl ha.2
theorem w2 {F : Option ((Int32 ⊕ Nat) × CS)} {G : Option (Int32 × CS)} {B : Nat} (h : Call cd2 F G B) (o : Nat → Int64) : LSt (F.bind fun r => match r.1 with | .inl v => some (0, r.2, (vp_updL o 0 v.toInt64), 0) | .inr k => (bif Nat.beq k 2 then some (1, r.2, o, 1) else none)) G B := by
  obtain ⟨r, C', w, M', rfl, rfl, ha, hr⟩ := h
  match r, ha with
  | .inl v, ha => exact ⟨0, C', vp_updL o 0 v.toInt64, 0, w, M', rfl, rfl, by omega, ha.1, fun _ => (up0 _ _).trans (by rw [ha.2]), hr⟩
  | .inr 0, ha => exact absurd rfl ha.2
  | .inr 1, ha => exact absurd rfl ha.2
  | .inr 2, ha => exact ⟨1, C', o, 1, w, M', rfl, rfl, by omega, ha.1, fun h9 => absurd h9 (by decide), hr⟩
  | .inr (k + 3), ha => exact absurd rfl ha.2
theorem cmp0 (x : Int64) : lg_cmp x x = 0 := by
  unfold lg_cmp
  rw [if_neg (Int64.lt_irrefl), if_pos rfl]
theorem gfin {F : Option (Int32 × CS × (Nat → Int64) × Nat)} {G : Option (Int32 × CS)} {B : Nat} (h : LSt F G B) (k : CS → CS → (Nat → Int64) → Nat → Nat → Option (Int32 × CS × CS × (Nat → Int64) × Nat × Nat)) (cc ss : Nat) :
    ∃ C' M' o' e, e ≤ 1 ∧ Rel C' M' B ∧ (F.bind fun r => G.bind fun q => (if (f_24 q.2) = r.1 then (if ¬ r.1 = 0 then k r.2.1 q.2 r.2.2.1 (cc + r.2.2.2) (ss + 6 * r.2.2.2) else (if (lg_cmp (r.2.2.1 0) (Int32.toInt64 q.1)) = 0 then k r.2.1 q.2 r.2.2.1 (cc + r.2.2.2) (ss + 6 * r.2.2.2) else some (0, r.2.1, q.2, r.2.2.1, (cc + r.2.2.2), (ss + 6 * r.2.2.2)))) else some (0, r.2.1, q.2, r.2.2.1, (cc + r.2.2.2), (ss + 6 * r.2.2.2)))) = k C' M' o' (cc + e) (ss + 6 * e) := by
  obtain ⟨t, C', o', e, w, M', rfl, rfl, h1, h2, h3, h4⟩ := h
  refine ⟨C', M', o', e, h1, h4, ?_⟩
  rw [Option.bind_some, Option.bind_some]
  dsimp only
  rw [if_pos (show f_24 M' = t from h2)]
  by_cases h5 : t = 0
  · rw [if_neg (nn h5), if_pos (show lg_cmp (o' 0) w.toInt64 = 0 by rw [h3 h5]; exact cmp0 _)]
  · rw [if_pos h5]
theorem bnd {α β : Type} {F : Option α} {f g : α → Option β} (h : ∀ r, f r = g r) : F.bind f = F.bind g := by
  rw [funext h]
theorem lawc {L j : Nat} (hL : L ≤ 2048) (hj : 4 * j ≤ L) : (Int32.ofNat L - 4 < nI (4 * j)) ↔ L < 4 * j + 4 := by
  by_cases h : 4 ≤ L
  · rw [show Int32.ofNat L - 4 = nI (L - 4) from nI_sub (b := 4) h, nI_ltI (by omega) (by omega)]
    omega
  · have hj0 : j = 0 := by omega
    subst hj0
    have : ∀ L, L < 4 → Int32.ofNat L - 4 < nI (4 * 0) := by decide
    exact ⟨fun _ => by omega, fun _ => this L (by omega)⟩
theorem nI_3 (a : Nat) : nI a + 3 = nI (a + 3) := nI_add a 3
theorem nI_4 (a : Nat) : nI a + 4 = nI (a + 4) := nI_add a 4
theorem law_ok {L : Nat} {xs : Nat → Int32} (hL : L ≤ 2048) : ∀ (m j : Nat) (C M : CS) (o : Nat → Int64) (cc ss : Nat), 4 * j ≤ L → L < 4 * j + 4 * m → Rel C M j →
    ∃ r : CS × CS × (Nat → Int64) × Nat × Nat, lawL L xs m C M o cc ss (nI (4 * j)) = some (1, r) ∧ r.2.2.2.1 ≤ cc + m ∧ r.2.2.2.2 ≤ ss + 6 * m := by
  intro m
  induction m with
  | zero => intro j C M o cc ss h1 h2; omega
  | succ m ih =>
    intro j C M o cc ss h1 h2 hR
    rw [lawL]
    by_cases h3 : L < 4 * j + 4
    · rw [if_pos ((lawc hL h1).mpr h3)]
      exact ⟨_, rfl, by show cc ≤ _; omega, by show ss ≤ _; omega⟩
    · have m0 : mv_in (nI (4 * j)) L = true := mv_in_nI (by omega) (by omega)
      have m1 : mv_in (nI (4 * j) + 1) L = true := by rw [nI_1]; exact mv_in_nI (by omega) (by omega)
      have m2 : mv_in (nI (4 * j) + 2) L = true := by rw [nI_2]; exact mv_in_nI (by omega) (by omega)
      have m3 : mv_in (nI (4 * j) + 3) L = true := by rw [nI_3]; exact mv_in_nI (by omega) (by omega)
      have hR1 : Rel C M (j + 1) := hR.up (Nat.le_succ j)
      have go : ∀ (C' M' : CS) (o' : Nat → Int64) (e : Nat), e ≤ 1 → Rel C' M' (j + 1) → ∃ r : CS × CS × (Nat → Int64) × Nat × Nat, lawL L xs m C' M' o' (cc + e) (ss + 6 * e) (nI (4 * j) + 4) = some (1, r) ∧ r.2.2.2.1 ≤ cc + (m + 1) ∧ r.2.2.2.2 ≤ ss + 6 * (m + 1) := by
        intro C' M' o' e he hr
        rw [nI_4]
        obtain ⟨r, k1, k2, k3⟩ := ih (j + 1) C' M' o' (cc + e) (ss + 6 * e) (by omega) (by omega) hr
        exact ⟨r, k1, by omega, by omega⟩
      have st : ∀ {F : Option (Int32 × CS × (Nat → Int64) × Nat)} {G : Option (Int32 × CS)}, LSt F G (j + 1) → ∃ r : CS × CS × (Nat → Int64) × Nat × Nat, (F.bind fun r => G.bind fun q => (if (f_24 q.2) = r.1 then (if ¬ r.1 = 0 then lawL L xs m r.2.1 q.2 r.2.2.1 (cc + r.2.2.2) (ss + 6 * r.2.2.2) (nI (4 * j) + 4) else (if (lg_cmp (r.2.2.1 0) (Int32.toInt64 q.1)) = 0 then lawL L xs m r.2.1 q.2 r.2.2.1 (cc + r.2.2.2) (ss + 6 * r.2.2.2) (nI (4 * j) + 4) else some (0, r.2.1, q.2, r.2.2.1, (cc + r.2.2.2), (ss + 6 * r.2.2.2)))) else some (0, r.2.1, q.2, r.2.2.1, (cc + r.2.2.2), (ss + 6 * r.2.2.2)))) = some (1, r) ∧ r.2.2.2.1 ≤ cc + (m + 1) ∧ r.2.2.2.2 ≤ ss + 6 * (m + 1) := by
        intro F G hs
        obtain ⟨C', M', o', e, e1, e2, e3⟩ := gfin hs (fun C M o cc ss => lawL L xs m C M o cc ss (nI (4 * j) + 4)) cc ss
        obtain ⟨r, k1, k2, k3⟩ := go C' M' o' e e1 e2
        exact ⟨r, e3.trans k1, k2, k3⟩
      rw [if_neg (fun h9 => h3 ((lawc hL h1).mp h9)), if_pos m0]
      have hj : j < 1000 := by omega
      generalize xs (nI (4 * j)).toNatClampNeg &&& 15 = y
      by_cases y0 : y = 0
      · rw [if_pos y0]
        obtain ⟨r, k1, k2, k3⟩ := st (w01 (callFeed hR1 ((lsl (Int32.toInt64 (xs (nI (4 * j) + 1).toNatClampNeg)) 32) ||| ((Int32.toInt64 (xs (nI (4 * j) + 2).toNatClampNeg)) &&& 4294967295)) (xs (nI (4 * j) + 3).toNatClampNeg)) o)
        exact ⟨r, (if_pos m1).trans ((if_pos m2).trans ((if_pos m3).trans ((bnd fun r => (if_pos m1).trans ((if_pos m2).trans (if_pos m3))).trans k1))), k2, k3⟩
      rw [if_neg y0]
      by_cases y1 : y = 1
      · rw [if_pos y1]
        exact st (w01 (callBegin hR1) o)
      rw [if_neg y1]
      by_cases y2 : y = 2
      · rw [if_pos y2]
        exact st (w01 (callNext hR1) o)
      rw [if_neg y2]
      by_cases y3 : y = 3
      · rw [if_pos y3]
        exact st (w01 (callPat hR1) o)
      rw [if_neg y3]
      by_cases y4 : y = 4
      · rw [if_pos y4]
        obtain ⟨r, C', M', e1, e2, e3, e4⟩ := callEnd hR1
        unfold g_4 f_103
        rw [e1, e2, Option.bind_some]
        rcases e4 with ⟨rfl, e5⟩ | ⟨rfl, e5⟩
        · obtain ⟨r, k1, k2, k3⟩ := go C' M' o 0 (by omega) e3
          exact ⟨r, (if_pos (show f_24 M' = 0 from e5)).trans k1, k2, k3⟩
        · obtain ⟨r, k1, k2, k3⟩ := go C' M' o 1 (by omega) e3
          exact ⟨r, (if_pos (show f_24 M' = 1 from e5)).trans k1, k2, k3⟩
      rw [if_neg y4]
      by_cases y5 : y = 5
      · rw [if_pos y5]
        obtain ⟨r, k1, k2, k3⟩ := go C (ru M.1 0 0, M.2) o 0 (by omega) (hR1.m0 0)
        unfold g_5
        rw [callPlace hR1, Option.bind_some]
        exact ⟨r, (if_pos rfl).trans k1, k2, k3⟩
      rw [if_neg y5]
      by_cases y6 : y = 6
      · rw [if_pos y6]
        obtain ⟨r, k1, k2, k3⟩ := st (w01 (callTok hR1 (xs (nI (4 * j) + 1).toNatClampNeg)) o)
        exact ⟨r, (if_pos m1).trans ((bnd fun r => if_pos m1).trans k1), k2, k3⟩
      rw [if_neg y6]
      by_cases y7 : y = 7
      · rw [if_pos y7]
        obtain ⟨r, k1, k2, k3⟩ := st (w12 (callUnit hR1 (xs (nI (4 * j) + 1).toNatClampNeg)) o)
        exact ⟨r, (if_pos m1).trans ((bnd fun r => if_pos m1).trans k1), k2, k3⟩
      rw [if_neg y7]
      by_cases y8 : y = 8
      · rw [if_pos y8]
        exact st (w1 (callName hR hj) o)
      rw [if_neg y8]
      by_cases y9 : y = 9
      · rw [if_pos y9]
        exact st (w1 (callLit hR hj) o)
      rw [if_neg y9]
      by_cases y10 : y = 10
      · rw [if_pos y10]
        unfold g_10
        rw [if_pos m1]
        by_cases z : xs (nI (4 * j) + 1).toNatClampNeg = 0
        · rw [if_pos z]
          obtain ⟨r, k1, k2, k3⟩ := st (w2 (callText0 hR1 (by omega) (xs (nI (4 * j) + 2).toNatClampNeg) (xs (nI (4 * j) + 3).toNatClampNeg)) o)
          exact ⟨r, (if_pos m2).trans ((if_pos m3).trans ((bnd fun r => (if_pos m1).trans ((if_pos z).trans ((if_pos m2).trans (if_pos m3)))).trans k1)), k2, k3⟩
        · rw [if_neg z]
          obtain ⟨r, k1, k2, k3⟩ := st (w2 (callText1 hR1 (by omega) (xs (nI (4 * j) + 2).toNatClampNeg) (xs (nI (4 * j) + 3).toNatClampNeg)) o)
          exact ⟨r, (if_pos m2).trans ((if_pos m3).trans ((bnd fun r => (if_pos m1).trans ((if_neg z).trans ((if_pos m2).trans (if_pos m3)))).trans k1)), k2, k3⟩
      rw [if_neg y10]
      obtain ⟨r, k1, k2, k3⟩ := go C M o 0 (by omega) hR1
      exact ⟨r, k1, k2, k3⟩
theorem rel0 : Rel (ini_C, fun _ _ => 0) (ini_M, fun _ _ => 0) 0 := by
  refine ⟨0, fun _ => 0, fun _ => 0, 0, fun _ => 0, fun _ => 0, 0, ⟨rfl, rfl, rfl, by omega, rfl, fun k hk => absurd hk (Nat.not_lt_zero k)⟩, ⟨⟨rfl, fun k hk => absurd hk (Nat.not_lt_zero k), fun k hk => absurd hk (Nat.not_lt_zero k)⟩, ⟨rfl, fun k hk => absurd hk (Nat.not_lt_zero k), fun k hk => absurd hk (Nat.not_lt_zero k)⟩, ⟨rfl, fun k hk => absurd hk (Nat.not_lt_zero k)⟩, Nat.zero_le _⟩, ⟨⟨rfl, fun k hk => absurd hk (Nat.not_lt_zero k), fun k hk => absurd hk (Nat.not_lt_zero k)⟩, ⟨rfl, fun k hk => absurd hk (Nat.not_lt_zero k), fun k hk => absurd hk (Nat.not_lt_zero k)⟩, ⟨rfl, fun k hk => absurd hk (Nat.not_lt_zero k)⟩, Nat.zero_le _⟩, Nat.le_refl 0, Nat.le_refl 0, Or.inl ⟨rfl, rfl⟩⟩
theorem law_run (L : Nat) (xs : Nat → Int32) (hL : L ≤ 2048) : lw_Run L xs := by
  obtain ⟨r, e1, e2, e3⟩ := law_ok (xs := xs) hL fu 0 (ini_C, fun _ _ => 0) (ini_M, fun _ _ => 0) (fun _ => 0) 26 34000 (by omega) (by rw [fu_e]; omega) rel0
  rw [fu_e] at e2 e3
  exact ⟨_, tc_law L xs (t_lawL L xs fu _ _ _ 26 34000 0 none none (1, r) e1), by show r.2.2.2.1 ≤ _; omega, by show r.2.2.2.2 ≤ _; omega⟩
