/-! texts -/
def sl (q : Nat) : Int32 := Int32.ofNat (ms_byt q).length
def sc (q : Nat) (i : Int32) : Int32 := (ms_byt q).getD i.toNatClampNeg 0
def sok (q : Nat) (i : Int32) : Bool := Nat.blt q 101 && mv_in i (ms_byt q).length
theorem mg_tS_at {q : Nat} (hq : Nat.blt q 101 = true) : mg_tS (200 + q) = some ((ms_byt q).length, fun j => (ms_byt q).getD j 0) := by
  unfold mg_tS
  rw [Nat.add_sub_cancel_left, hq]
  have : Nat.ble 200 (200 + q) = true := Nat.ble_eq_true_of_le (Nat.le_add_right _ _)
  rw [this]
  rfl
theorem mg_fV_at {q : Nat} (hq : Nat.blt q 101 = true) : mg_fV q = some (.retAddr (200 + q)) := by
  unfold mg_fV
  rw [hq]
  rfl
theorem mg_fC_at {q : Nat} (hq : Nat.blt q 101 = true) : mg_fC q = some (.int 0) := by
  unfold mg_fC
  rw [hq]
  rfl
theorem sc_all : ∀ q, q < 101 → (ms_byt q).length < 1000 ∧ ∀ b ∈ ms_byt q, (((b &&& 255).toUInt32 % 65536).toInt32) = b ∧ vp_nar .char b = b := by decide +kernel
theorem sc_mem {q : Nat} {i : Int32} (h : sok q i = true) : sc q i ∈ ms_byt q := by
  unfold sok mv_in at h
  simp only [Bool.and_eq_true, decide_eq_true_eq] at h
  unfold sc
  rw [List.getD_eq_getElem?_getD, List.getElem?_eq_getElem h.2.2]
  exact List.getElem_mem _
theorem t_2 (L : Nat) (xs : Nat → Int32) {hh : mv_H} {q : Nat} (hq : Nat.blt q 101 = true) : mv_E (mp L xs) 2 (0, [some (.retAddr q)], []) hh (.inl (some (.int 0)), hh) := by
  refine mv_E.rT (t := mt_2) rfl 1 (f' := (3, [some (.retAddr q)], [.int 1])) (h' := hh) rfl ?_
  refine mv_E.go rfl (mi_if_neg (by decide)) ?_
  refine mv_E.rT (t := mt_2) rfl 1 (f' := (7, [some (.retAddr q)], [.retAddr q])) (h' := hh) rfl ?_
  refine mv_E.go rfl (mi_getS_at (mg_fC_at hq)) ?_
  refine mv_E.rT (t := mt_2) rfl 1 (f' := (14, [some (.retAddr q)], [.int 0])) (h' := hh) rfl ?_
  exact mv_E.done rfl (mi_nret_at (by decide))
theorem t_4 (L : Nat) (xs : Nat → Int32) {hh : mv_H} {q : Nat} (hq : Nat.blt q 101 = true) : mv_E (mp L xs) 4 (0, [some (.retAddr q)], []) hh (.inl (some (.int 1)), hh) := by
  refine mv_E.rT (t := mt_4) rfl 1 (f' := (3, [some (.retAddr q)], [.int 1])) (h' := hh) rfl ?_
  refine mv_E.go rfl (mi_if_neg (by decide)) ?_
  refine mv_E.rT (t := mt_4) rfl 1 (f' := (7, [some (.retAddr q)], [.retAddr q])) (h' := hh) rfl ?_
  refine mv_E.go rfl (mi_getS_at (mg_fC_at hq)) ?_
  refine mv_E.go rfl (mi_if_neg (by decide)) ?_
  refine mv_E.rT (t := mt_4) rfl 2 (f' := (18, [some (.retAddr q)], [.int 1])) (h' := hh) rfl ?_
  exact mv_E.done rfl mi_zret1
theorem t_len (L : Nat) (xs : Nat → Int32) {hh : mv_H} {q : Nat} (hq : Nat.blt q 101 = true) : mv_E (mp L xs) 3 (0, [some (.retAddr q)], []) hh (.inl (some (.int (sl q))), hh) := by
  refine mv_E.rT (t := mt_3) rfl 1 (f' := (1, [some (.retAddr q)], [.retAddr q])) (h' := hh) rfl ?_
  refine mv_E.go rfl (mi_getS_at (mg_fV_at hq)) ?_
  refine mv_E.go rfl (mi_tlen_at (mg_tS_at hq)) ?_
  refine mv_E.rT (t := mt_3) rfl 1 (f' := (6, [some (.retAddr q)], [.retAddr q, .int (sl q)])) (h' := hh) rfl ?_
  refine mv_E.call (z := 2) (vs := [.retAddr q]) (f' := (9, [some (.retAddr q)], [.int (sl q)])) (h' := hh) rfl (mi_callK_at rfl hq rfl rfl) rfl (t_2 L xs hq) (by unfold mv_ok; simp) ?_
  refine mv_E.rT (t := mt_3) rfl 1 (f' := (10, [some (.retAddr q)], [.int (sl q >>> (0 &&& 31))])) (h' := hh) rfl ?_
  have e : sl q >>> ((0 : Int32) &&& 31) = sl q := by rw [show ((0 : Int32) &&& 31) = 0 from rfl]; exact Int32.shiftRight_zero
  rw [e]
  exact mv_E.done rfl rfl
theorem t_5 (L : Nat) (xs : Nat → Int32) {hh : mv_H} {i n : Int32} (h0 : ¬ i < 0) (h1 : i < n) : mv_E (mp L xs) 5 (0, [some (.int i), some (.int n), some (.retAddr 400)], []) hh (.inl (some (.int i)), hh) := by
  refine mv_E.rT (t := mt_5) rfl 1 (f' := (1, [some (.int i), some (.int n), some (.retAddr 400)], [.int i])) (h' := hh) rfl ?_
  refine mv_E.go rfl (mi_if_neg h0) ?_
  refine mv_E.rT (t := mt_5) rfl 2 (f' := (6, [some (.int i), some (.int n), some (.retAddr 400)], [.int n, .int i])) (h' := hh) rfl ?_
  refine mv_E.go rfl (mi_icmp_pos h1) ?_
  refine mv_E.rT (t := mt_5) rfl 1 (f' := (17, [some (.int i), some (.int n), some (.retAddr 400)], [.int i])) (h' := hh) rfl ?_
  exact mv_E.done rfl rfl
theorem mv_okr {h : mv_H} {f : mv_F} : mv_ok h h f = true := by unfold mv_ok; simp
theorem t_6 (L : Nat) (xs : Nat → Int32) {hh : mv_H} {i n : Int32} (h0 : ¬ i < 0) (h1 : i < n) : mv_E (mp L xs) 6 (0, [some (.int i), some (.int n)], []) hh (.inl none, hh) := by
  refine mv_E.rT (t := mt_6) rfl 3 (f' := (5, [some (.int i), some (.int n)], [.retAddr 400, .int n, .int i])) (h' := hh) rfl ?_
  refine mv_E.call (z := 5) (vs := [.int i, .int n, .retAddr 400]) (f' := (8, [some (.int i), some (.int n)], [])) (h' := hh) rfl rfl rfl (t_5 L xs h0 h1) mv_okr ?_
  refine mv_E.rT (t := mt_6) rfl 1 (f' := (9, [some (.int i), some (.int n)], [])) (h' := hh) rfl ?_
  exact mv_E.done rfl rfl
theorem mv_in_lt {i : Int32} {n : Nat} (h : mv_in i n = true) (hn : n < 2 ^ 31) : ¬ i < 0 ∧ i < Int32.ofNat n := by
  unfold mv_in at h
  simp only [Bool.and_eq_true, Bool.not_eq_true', decide_eq_false_iff_not, decide_eq_true_eq] at h
  refine ⟨h.1, ?_⟩
  have h0 : (0 : Int32) ≤ i := Int32.not_lt.mp h.1
  rw [Int32.lt_iff_toInt_lt, Int32.toInt_ofNat_of_lt hn]
  have : (i.toNatClampNeg : Int) = i.toInt := Int32.cast_toNatClampNeg i h0
  omega
theorem t_7 (L : Nat) (xs : Nat → Int32) {hh : mv_H} {q : Nat} {i : Int32} (h : sok q i = true) : mv_E (mp L xs) 7 (0, [some (.retAddr (200 + q)), some (.int i)], []) hh (.inl (some (.int (sc q i))), hh) := by
  have hm := sc_mem h
  unfold sok at h
  simp only [Bool.and_eq_true] at h
  obtain ⟨hq, hi⟩ := h
  have hall := sc_all q (Nat.le_of_ble_eq_true hq)
  obtain ⟨k0, k1⟩ := mv_in_lt hi (Nat.lt_trans hall.1 (by decide))
  obtain ⟨b1, b2⟩ := hall.2 _ hm
  refine mv_E.rT (t := mt_7) rfl 2 (f' := (2, [some (.retAddr (200 + q)), some (.int i)], [.retAddr (200 + q), .int i])) (h' := hh) rfl ?_
  refine mv_E.go rfl (mi_tlen_at (mg_tS_at hq)) ?_
  refine mv_E.call (z := 6) (vs := [.int i, .int (sl q)]) (f' := (6, [some (.retAddr (200 + q)), some (.int i)], [])) (h' := hh) rfl rfl rfl (t_6 L xs k0 k1) mv_okr ?_
  refine mv_E.rT (t := mt_7) rfl 2 (f' := (8, [some (.retAddr (200 + q)), some (.int i)], [.int i, .retAddr (200 + q)])) (h' := hh) rfl ?_
  refine mv_E.go rfl (mi_tld_at (mg_tS_at hq) hi) ?_
  refine mv_E.rT (t := mt_7) rfl 3 (f' := (14, [some (.retAddr (200 + q)), some (.int i)], [.int (((sc q i &&& 255).toUInt32 % 65536).toInt32)])) (h' := hh) rfl ?_
  rw [b1]
  exact mv_E.done rfl (mi_nret_at b2)
theorem t_char (L : Nat) (xs : Nat → Int32) {hh : mv_H} {q : Nat} {i : Int32} (h : sok q i = true) : mv_E (mp L xs) 8 (0, [some (.retAddr q), some (.int i)], []) hh (.inl (some (.int (sc q i))), hh) := by
  have hm := sc_mem h
  have hq : Nat.blt q 101 = true := by
    unfold sok at h
    simp only [Bool.and_eq_true] at h
    exact h.1
  obtain ⟨b1, b2⟩ := (sc_all q (Nat.le_of_ble_eq_true hq)).2 _ hm
  refine mv_E.rT (t := mt_8) rfl 1 (f' := (1, [some (.retAddr q), some (.int i)], [.retAddr q])) (h' := hh) rfl ?_
  refine mv_E.call (z := 4) (vs := [.retAddr q]) (f' := (4, [some (.retAddr q), some (.int i)], [])) (h' := hh) rfl (mi_callK_at rfl hq rfl rfl) rfl (t_4 L xs hq) mv_okr ?_
  refine mv_E.go rfl (mi_if_neg (by decide)) ?_
  refine mv_E.rT (t := mt_8) rfl 1 (f' := (8, [some (.retAddr q), some (.int i)], [.retAddr q])) (h' := hh) rfl ?_
  refine mv_E.go rfl (mi_getS_at (mg_fV_at hq)) ?_
  refine mv_E.rT (t := mt_8) rfl 1 (f' := (12, [some (.retAddr q), some (.int i)], [.int i, .retAddr (200 + q)])) (h' := hh) rfl ?_
  refine mv_E.call (z := 7) (vs := [.retAddr (200 + q), .int i]) (f' := (15, [some (.retAddr q), some (.int i)], [])) (h' := hh) rfl rfl rfl (t_7 L xs h) mv_okr ?_
  exact mv_E.done rfl (mi_nret_at b2)
