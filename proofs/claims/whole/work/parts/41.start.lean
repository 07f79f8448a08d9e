/-! THE LAW'S START: what stands outside the world, out of the Statement's words -/
def mg_blk (i : Nat) : List Cond :=
  [.exactly (.string (ms_own i) (ms_idx i)) "java/lang/String", .eq (.field (.string (ms_own i) (ms_idx i)) "java/lang/String" "coder" "B") (.int 0), .arrayOf (.field (.string (ms_own i) (ms_idx i)) "java/lang/String" "value" "[B") .byte,
   .eq (.length (.field (.string (ms_own i) (ms_idx i)) "java/lang/String" "value" "[B")) (.int (Int32.ofNat (ms_byt i).length))] ++
  (List.range (ms_byt i).length).map (fun j => .eq (.elem (.field (.string (ms_own i) (ms_idx i)) "java/lang/String" "value" "[B") (.int (Int32.ofNat j))) (.int ((ms_byt i).getD j 0)))
theorem mg_flat : (flatC (Jvm.Cond.and given_1 narrow_1)).drop 89 = (List.range 101).flatMap mg_blk ++ [.eq (.string "TokenScanner$Token" 41) (.string "TokenScannerModel" 344)] := by decide +kernel
theorem mg_flat2 : ((flatC (Jvm.Cond.and given_1 narrow_1)).drop 12).take 50 = .arrayOf (.static "TokenScanner" "SIGN_NUMBERS" "[I") .int :: .eq (.length (.static "TokenScanner" "SIGN_NUMBERS" "[I")) (.int (Int32.ofNat 48)) :: (List.range 48).map (fun j => .eq (.elem (.static "TokenScanner" "SIGN_NUMBERS" "[I") (.int (Int32.ofNat j))) (.int (ms_sgn.getD j 0))) := by decide +kernel
theorem mg_inB {i : Nat} (hi : i < 101) {w : Cond} (hw : w ∈ mg_blk i) : w ∈ flatC (Jvm.Cond.and given_1 narrow_1) := by
  apply List.mem_of_mem_drop (i := 89)
  rw [mg_flat]
  exact List.mem_append_left _ (List.mem_flatMap.mpr ⟨i, List.mem_range.mpr hi, hw⟩)
theorem mg_inS {w : Cond} (hw : w ∈ Cond.arrayOf (.static "TokenScanner" "SIGN_NUMBERS" "[I") .int :: .eq (.length (.static "TokenScanner" "SIGN_NUMBERS" "[I")) (.int (Int32.ofNat 48)) :: (List.range 48).map (fun j => Cond.eq (.elem (.static "TokenScanner" "SIGN_NUMBERS" "[I") (.int (Int32.ofNat j))) (.int (ms_sgn.getD j 0)))) : w ∈ flatC (Jvm.Cond.and given_1 narrow_1) := by
  apply List.mem_of_mem_drop (i := 12)
  apply List.mem_of_mem_take (i := 50)
  rw [mg_flat2]
  exact hw
theorem mg_refs : ∀ i, i < 101 → Cond.stringRef (ms_own i) (ms_idx i) (ms_txt i) ∈ lw_tbl := by decide +kernel
theorem mg_lens : ∀ i, i < 101 → (ms_byt i).length < 2 ^ 31 := fun i hi => Nat.lt_trans (sc_all i hi).1 (by decide)
theorem mg_str {args : Array Value} {s : State} {A : Nat → Prop} (hgv : (Jvm.Cond.and given_1 narrow_1).before args s = true) (hts : ∀ w ∈ lw_tbl, w.before args s = true) (hA : ∀ a : Nat, a < s.heap.size → ¬ A a) :
    ∃ ad : Nat → Nat × Nat, ∀ i, i < 101 → va_O "java/lang/String" (ad i).1 A s s.heap ∧ va_OF "java/lang/String" "coder" "B" (.int 0) (ad i).1 A s s.heap ∧ va_OF "java/lang/String" "value" "[B" (.ref (ad i).2) (ad i).1 A s s.heap ∧ va_T .byte (ad i).2 (ms_byt i).length (fun j => .int ((ms_byt i).getD j 0)) A s s.heap ∧ vk_R (ms_own i) (ms_idx i) (ms_txt i) (ad i).1 s := by
  have hs := flat_of_before _ hgv
  have h0 : ∀ i : Nat, ∃ q : Nat × Nat, i < 101 → va_O "java/lang/String" q.1 A s s.heap ∧ va_OF "java/lang/String" "coder" "B" (.int 0) q.1 A s s.heap ∧ va_OF "java/lang/String" "value" "[B" (.ref q.2) q.1 A s s.heap ∧ va_T .byte q.2 (ms_byt i).length (fun j => .int ((ms_byt i).getD j 0)) A s s.heap ∧ vk_R (ms_own i) (ms_idx i) (ms_txt i) q.1 s := by
    intro i
    by_cases hi : i < 101
    · have g1 := hs _ (mg_inB hi (w := .exactly (.string (ms_own i) (ms_idx i)) "java/lang/String") (by unfold mg_blk; simp))
      have g2 := hs _ (mg_inB hi (w := .eq (.field (.string (ms_own i) (ms_idx i)) "java/lang/String" "coder" "B") (.int 0)) (by unfold mg_blk; simp))
      have g3 := hs _ (mg_inB hi (w := .arrayOf (.field (.string (ms_own i) (ms_idx i)) "java/lang/String" "value" "[B") .byte) (by unfold mg_blk; simp))
      have g4 := hs _ (mg_inB hi (w := .eq (.length (.field (.string (ms_own i) (ms_idx i)) "java/lang/String" "value" "[B")) (.int (Int32.ofNat (ms_byt i).length))) (by unfold mg_blk; simp))
      have g5 : ∀ j, j < (ms_byt i).length → (Cond.eq (.elem (.field (.string (ms_own i) (ms_idx i)) "java/lang/String" "value" "[B") (.int (Int32.ofNat j))) (.int ((ms_byt i).getD j 0))).before args s = true := fun j hj => hs _ (mg_inB hi (by
        unfold mg_blk
        exact List.mem_append_right _ (List.mem_map.mpr ⟨j, List.mem_range.mpr hj, rfl⟩)))
      obtain ⟨a, c, cA, kA, q1, q2, q3, q4, q5, q6, -⟩ := Cond.exactly_spec (args := args) (first := s) (o := none) (s := s) (idx := []) (t := .string (ms_own i) (ms_idx i)) (cls := "java/lang/String") g1
      obtain ⟨t, ht, hT⟩ := va_Tof (f := fun j => .int ((ms_byt i).getD j 0)) (A := A) (mg_lens i hi) g3 (va_eqt g4) (fun j hj => va_eqt (g5 j hj)) hA
      exact ⟨(a, t), fun _ => ⟨⟨cA, q3, q5, by rw [q6]; exact q2, hA a (Array.getElem?_eq_some_iff.mp q3).1⟩, vk_OFof q1 (va_eqt g2) hA, vk_OFof q1 ht hA, hT, vk_R.of (hts _ (mg_refs i hi)) q1⟩⟩
    · exact ⟨(0, 0), fun h => absurd h hi⟩
  obtain ⟨ad, had⟩ := Classical.axiomOfChoice h0
  exact ⟨ad, had⟩
def mg_sd (ad : Nat → Nat × Nat) (fm : Option Nat) (sg b : Nat) : Nat → Option Nat := fun k => bif Nat.blt k 101 then some (ad k).1 else bif Nat.blt k 301 then some (ad (k - 200)).2 else bif Nat.beq k 400 then fm else bif Nat.beq k 401 then some sg else some b
theorem mg_sd1 {ad : Nat → Nat × Nat} {fm : Option Nat} {sg b i : Nat} (hi : i < 101) : mg_sd ad fm sg b i = some (ad i).1 := by
  unfold mg_sd
  rw [show Nat.blt i 101 = true from Nat.ble_eq_true_of_le hi]
  rfl
theorem mg_sd2 {ad : Nat → Nat × Nat} {fm : Option Nat} {sg b i : Nat} (hi : i < 101) : mg_sd ad fm sg b (200 + i) = some (ad i).2 := by
  unfold mg_sd
  rw [show Nat.blt (200 + i) 101 = false from by
    cases h : Nat.blt (200 + i) 101 with
    | false => rfl
    | true => have := Nat.le_of_ble_eq_true h; omega, show Nat.blt (200 + i) 301 = true from Nat.ble_eq_true_of_le (by omega), Nat.add_sub_cancel_left]
  rfl
theorem mg_start {s : State} {b L : Nat} {xs : Nat → Int32} {A : Nat → Prop} (hgv : (Jvm.Cond.and given_1 narrow_1).before #[Value.ref b] s = true) (hts : ∀ w ∈ lw_tbl, w.before #[Value.ref b] s = true) (hX : va_X b L xs s s.heap) (hA : ∀ a : Nat, a < s.heap.size → ¬ A a) : ∃ sd : Nat → Option Nat, sd 402 = some b ∧ mg_Ph L xs sd A s s.heap := by
  have hs := flat_of_before _ hgv
  obtain ⟨ad, had⟩ := mg_str hgv hts hA
  have w1 : (Cond.eq (.static "java/lang/String" "COMPACT_STRINGS" "Z") (.int 1)).before #[Value.ref b] s = true := hs _ (by decide +kernel)
  have z1 := va_Zof (A := A) (hts (.laysStatic "java/lang/String" "COMPACT_STRINGS" "Z") (by decide +kernel)) (hts (.initialized "java/lang/String") (by decide +kernel)) (va_eqt w1) hA
  have w2 : (Cond.isRef (.static "jdk/internal/util/Preconditions" "SIOOBE_FORMATTER" "Ljava/util/function/BiFunction;")).before #[Value.ref b] s = true := hs _ (by decide +kernel)
  have z2 := va_Zqof (A := A) (hts (.laysStatic "jdk/internal/util/Preconditions" "SIOOBE_FORMATTER" "Ljava/util/function/BiFunction;") (by decide +kernel)) (hts (.initialized "jdk/internal/util/Preconditions") (by decide +kernel)) w2 hA
  have z2' : ∃ fm : Option Nat, va_Z "jdk/internal/util/Preconditions" "SIOOBE_FORMATTER" "Ljava/util/function/BiFunction;" (va_rf fm) A s s.heap := by
    rcases z2 with h | ⟨t, h⟩
    · exact ⟨none, h⟩
    · exact ⟨some t, h⟩
  obtain ⟨fm, z2⟩ := z2'
  have w3 := hs _ (mg_inS (w := .arrayOf (.static "TokenScanner" "SIGN_NUMBERS" "[I") .int) (by simp))
  have w4 := hs _ (mg_inS (w := .eq (.length (.static "TokenScanner" "SIGN_NUMBERS" "[I")) (.int (Int32.ofNat 48))) (by simp))
  have w5 : ∀ j, j < 48 → (Cond.eq (.elem (.static "TokenScanner" "SIGN_NUMBERS" "[I") (.int (Int32.ofNat j))) (.int (ms_sgn.getD j 0))).before #[Value.ref b] s = true := fun j hj => hs _ (mg_inS (List.mem_cons_of_mem _ (List.mem_cons_of_mem _ (List.mem_map.mpr ⟨j, List.mem_range.mpr hj, rfl⟩))))
  obtain ⟨sg, hsg, hT⟩ := va_Tof (f := fun j => .int (ms_sgn.getD j 0)) (A := A) (by decide) w3 (va_eqt w4) (fun j hj => va_eqt (w5 j hj)) hA
  have z3 := va_Zref (A := A) (hts (.laysStatic "TokenScanner" "SIGN_NUMBERS" "[I") (by decide +kernel)) (hts (.initialized "TokenScanner") (by decide +kernel)) hsg hA
  have x1 := mz_L.of (A := A) (hts (.laysStatic Bundle.tN "UNASSIGNED_STACK" Bundle.steD) (by decide +kernel)) (hs (.isRef (.static Bundle.tN "UNASSIGNED_STACK" Bundle.steD)) (by decide +kernel)) hA
  have x2 := mz_L.of (A := A) (hts (.laysStatic Bundle.tN "SUPPRESSED_SENTINEL" Bundle.listD) (by decide +kernel)) (hs (.isRef (.static Bundle.tN "SUPPRESSED_SENTINEL" Bundle.listD)) (by decide +kernel)) hA
  have n1 : va_Nc "java/lang/IllegalStateException" "java/lang/IllegalArgumentException" s := va_Nc.of (hs (.not (.castable "java/lang/IllegalStateException" "java/lang/IllegalArgumentException")) (by decide +kernel))
  have n2 : va_Nc "java/lang/IndexOutOfBoundsException" "java/lang/IllegalStateException" s := va_Nc.of (hs (.not (.castable "java/lang/IndexOutOfBoundsException" "java/lang/IllegalStateException")) (by decide +kernel))
  refine ⟨mg_sd ad fm sg b, rfl, fun i hi => ?_, z1, z2, ⟨sg, rfl, z3, hT⟩, ⟨b, rfl, ?_⟩, ⟨x1, x2⟩, n1, n2⟩
  · obtain ⟨k1, k2, k3, k4, k5⟩ := had i hi
    exact ⟨(ad i).1, (ad i).2, mg_sd1 hi, mg_sd2 hi, k1, k2, k3, k4, k5⟩
  · obtain ⟨scr, h1, h2, h3, h4, h5⟩ := hX
    exact ⟨scr, h1, h2, h3, Nat.le_of_eq h4.symm, by rw [h4], h5, hA b (Array.getElem?_eq_some_iff.mp h1).1⟩
theorem mg_known {s : State} {args : Array Value} (hts : ∀ w ∈ mg_G, w.before args s = true) : ∃ (D : va_G) (cA : Nat → ClassId), va_K D mf_cl (mv_tys cA [.int, .long]) s := by
  have h0 : ∀ c : Nat, ∃ q : ClassId × (Nat → Nat), ∀ k, mf_cl[c]? = some k → u_Kn s k.1 k.2.1 k.2.2 q.1 q.2 := by
    intro c
    match c with
    | 0 => obtain ⟨a, i, h⟩ := u_known hts mf_i0 (hts _ hw_23); exact ⟨(a, i), fun k e => by cases e; exact h⟩
    | 1 => obtain ⟨a, i, h⟩ := u_known hts mf_i1 (hts _ hw_31); exact ⟨(a, i), fun k e => by cases e; exact h⟩
    | 2 => obtain ⟨a, i, h⟩ := u_known hts mf_i2 (hts _ hw_45); exact ⟨(a, i), fun k e => by cases e; exact h⟩
    | 3 => obtain ⟨a, i, h⟩ := u_known hts mf_i3 (hts _ hw_98); exact ⟨(a, i), fun k e => by cases e; exact h⟩
    | 4 => obtain ⟨a, i, h⟩ := u_known hts mf_i4 (hts _ hw_104); exact ⟨(a, i), fun k e => by cases e; exact h⟩
    | 5 => obtain ⟨a, i, h⟩ := u_known hts mf_i5 (hts _ hw_204); exact ⟨(a, i), fun k e => by cases e; exact h⟩
    | 6 => obtain ⟨a, i, h⟩ := u_known hts mf_i6 (hts _ hw_662); exact ⟨(a, i), fun k e => by cases e; exact h⟩
    | c + 7 => exact ⟨(0, fun _ => 0), fun k e => by cases e⟩
  obtain ⟨q, hq⟩ := Classical.axiomOfChoice h0
  obtain ⟨c1, k1, comp1, a1, b1, d1⟩ := Cond.arrayClass_spec (hts _ hw_43)
  obtain ⟨c2, k2, comp2, a2, b2, d2⟩ := Cond.arrayClass_spec (hts _ hw_975)
  refine ⟨(fun c => (q c).1, fun c => (q c).2), fun i => bif Nat.beq i 0 then c1 else c2, fun c k e => hq c k e, fun k x e => ?_⟩
  match k, e with
  | 0, e => cases e; exact ⟨fun n z => ⟨fun k h => (by cases h), k1, b1, comp1, d1⟩, a1⟩
  | 1, e => cases e; exact ⟨fun n z => ⟨fun k h => (by cases h), k2, b2, comp2, d2⟩, a2⟩
  | k + 2, e => cases e
theorem sbn_forget {s t : State} {Ls : List Loc} {c n c' n' : Nat} (h : s.sameButNew t Ls c n) (hL : ∀ z ∈ Ls, s.heap.size ≤ z.base) (hc : c ≤ c') (hn : n ≤ n') : s.sameButNew t [] c' n' := by
  obtain ⟨h1, h2, h3, h4, h5, h6⟩ := h
  refine ⟨h1, h2, Nat.le_trans h3 (Nat.add_le_add_left hc _), h4, Nat.le_trans h5 hn, fun a c0 ha => ?_⟩
  obtain ⟨c', g1, g2, g3, g4⟩ := h6 a c0 ha
  refine ⟨c', g1, g2, g3, fun i _ => g4 i (fun hm => ?_)⟩
  have := hL _ hm
  have h9 : a < s.heap.size := (Array.getElem?_eq_some_iff.mp ha).1
  exact absurd this (Nat.not_le.mpr h9)
