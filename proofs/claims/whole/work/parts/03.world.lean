/-! THE SMALL MACHINE AND THE MACHINE: places are addresses (as), things outside have theirs (sd), kinds of arrays their classes (cA) -/
def mv_v (as : List Nat) (sd : Nat → Option Nat) : Value → Value
  | .ref q => .ref (as.getD q 0)
  | .retAddr k => va_rf (sd k)
  | v => v
theorem mv_v_cat (as : List Nat) (sd : Nat → Option Nat) (v : Value) : (mv_v as sd v).category = v.category := by
  cases v with
  | retAddr k => show (va_rf (sd k)).category = 1; cases sd k <;> rfl
  | _ => rfl
def mv_c (as : List Nat) (sd : Nat → Option Nat) (cA : Nat → ClassId) : mv_C → va_E
  | .inl a => .inl (cA a.1, a.2)
  | .inr o => .inr (o.1, o.2.map (mv_v as sd))
def mv_w (as : List Nat) (sd : Nat → Option Nat) (cA : Nat → ClassId) (h : List mv_C) : va_W := List.zipWith (fun a x => (a, mv_c as sd cA x)) as h
theorem mv_getD {as : List Nat} {k : Nat} (hk : k < as.length) : as[k]? = some (as.getD k 0) := by
  rw [List.getD_eq_getElem?_getD, List.getElem?_eq_getElem hk]; rfl
theorem mv_w_at {as : List Nat} {sd : Nat → Option Nat} {cA : Nat → ClassId} {h : List mv_C} {k : Nat} {x : mv_C} (hl : as.length = h.length) (hk : h[k]? = some x) : (mv_w as sd cA h)[k]? = some (as.getD k 0, mv_c as sd cA x) := by
  have hlt : k < h.length := (List.getElem?_eq_some_iff.mp hk).1
  have ha := mv_getD (as := as) (k := k) (by omega)
  unfold mv_w
  rw [List.getElem?_zipWith, ha, hk]
theorem mv_w_len {as : List Nat} {sd : Nat → Option Nat} {cA : Nat → ClassId} {h : List mv_C} (hl : as.length = h.length) : (mv_w as sd cA h).length = h.length := by
  unfold mv_w; rw [List.length_zipWith]; omega
theorem mv_w_set {as : List Nat} {sd : Nat → Option Nat} {cA : Nat → ClassId} {h : List mv_C} (hl : as.length = h.length) (k : Nat) (x : mv_C) : mv_w as sd cA (h.set k x) = (mv_w as sd cA h).set k (as.getD k 0, mv_c as sd cA x) := by
  apply List.ext_getElem?
  intro i
  by_cases hi : i < h.length
  · by_cases hik : k = i
    · subst hik
      rw [mv_w_at (x := x) (by rw [List.length_set]; exact hl) (by rw [List.getElem?_set_self hi]), List.getElem?_set_self (by rw [mv_w_len hl]; exact hi)]
    · rw [List.getElem?_set_ne hik, mv_w_at (x := h[i]) (by rw [List.length_set]; exact hl) (by rw [List.getElem?_set_ne hik, List.getElem?_eq_getElem hi]), mv_w_at hl (List.getElem?_eq_getElem hi)]
  · rw [List.getElem?_eq_none (by rw [mv_w_len (by rw [List.length_set]; exact hl), List.length_set]; omega), List.getElem?_eq_none (by rw [List.length_set, mv_w_len hl]; omega)]
theorem mv_v_app {as : List Nat} {t : List Nat} {sd : Nat → Option Nat} {v : Value} (h : mv_wv as.length v = true) : mv_v (as ++ t) sd v = mv_v as sd v := by
  cases v with
  | ref q =>
    have hq : q < as.length := by simpa [mv_wv] using h
    simp only [mv_v, List.getD_eq_getElem?_getD, List.getElem?_append_left hq]
  | _ => rfl
theorem mv_s_app {as : List Nat} {t : List Nat} {sd : Nat → Option Nat} : ∀ {st : List Value}, mv_ws as.length st = true → st.map (mv_v (as ++ t) sd) = st.map (mv_v as sd)
  | [], _ => rfl
  | v :: r, h => by
    simp only [mv_ws, Bool.and_eq_true] at h
    simp only [List.map_cons, mv_v_app h.1, mv_s_app h.2]
theorem mv_c_app {as : List Nat} {t : List Nat} {sd : Nat → Option Nat} {cA : Nat → ClassId} {x : mv_C} (h : mv_wc as.length x = true) : mv_c (as ++ t) sd cA x = mv_c as sd cA x := by
  cases x with
  | inl a => rfl
  | inr o => simp only [mv_c, mv_s_app (show mv_ws as.length o.2 = true from h)]
theorem mv_wh_at {n : Nat} : ∀ {h : List mv_C} {k : Nat} {x : mv_C}, mv_wh n h = true → h[k]? = some x → mv_wc n x = true
  | [], _, _, _, e => by simp at e
  | y :: r, 0, x, hw, e => by
    simp only [mv_wh, Bool.and_eq_true] at hw
    simp only [List.getElem?_cons_zero, Option.some.injEq] at e
    rw [← e]; exact hw.1
  | y :: r, k + 1, x, hw, e => by
    simp only [mv_wh, Bool.and_eq_true] at hw
    simp only [List.getElem?_cons_succ] at e
    exact mv_wh_at hw.2 e
/-- a new cell -/
theorem mv_w_push {as : List Nat} {sd : Nat → Option Nat} {cA : Nat → ClassId} {h : List mv_C} (hl : as.length = h.length) (q : Nat) (x : mv_C) (hw : mv_wh h.length h = true) (hx : mv_wc h.length x = true) : mv_w (as ++ [q]) sd cA (h ++ [x]) = mv_w as sd cA h ++ [(q, mv_c as sd cA x)] := by
  rw [← hl] at hw hx
  apply List.ext_getElem?
  intro i
  rcases Nat.lt_trichotomy i h.length with hi | hi | hi
  · rw [List.getElem?_append_left (by rw [mv_w_len hl]; exact hi), mv_w_at hl (List.getElem?_eq_getElem hi)]
    rw [mv_w_at (x := h[i]) (by simp [hl]) (by rw [List.getElem?_append_left hi, List.getElem?_eq_getElem hi])]
    rw [mv_c_app (mv_wh_at hw (List.getElem?_eq_getElem hi)), List.getD_eq_getElem?_getD, List.getElem?_append_left (by omega), ← List.getD_eq_getElem?_getD]
  · subst hi
    rw [List.getElem?_append_right (by rw [mv_w_len hl]; exact Nat.le_refl _), mv_w_len hl, Nat.sub_self]
    rw [mv_w_at (x := x) (by simp [hl]) (by simp), mv_c_app hx, ← hl]
    simp
  · rw [List.getElem?_eq_none (by rw [mv_w_len (by simp [hl])]; simp; omega), List.getElem?_eq_none (by simp [mv_w_len hl]; omega)]
/-- the locals -/
def mv_L (as : List Nat) (sd : Nat → Option Nat) (ls : Array Slot) (nL : Nat) (L : List (Option Value)) : Prop := L.length = nL ∧ ls.size = nL ∧ lv_wf ls ∧ ∀ (i : Nat) (v : Value), L[i]? = some (some v) → ls[i]? = some (.val (mv_v as sd v))
def mv_al (as : List Nat) (sd : Nat → Option Nat) (L : List (Option Value)) : List (Nat × Value) := (List.range L.length).filterMap (fun i => (L.getD i none).map (fun v => (i, mv_v as sd v)))
theorem mv_al_mem {as : List Nat} {sd : Nat → Option Nat} {L : List (Option Value)} {i : Nat} {v : Value} (h : L[i]? = some (some v)) : (i, mv_v as sd v) ∈ mv_al as sd L := by
  refine List.mem_filterMap.mpr ⟨i, List.mem_range.mpr (List.getElem?_eq_some_iff.mp h).1, ?_⟩
  rw [List.getD_eq_getElem?_getD, h]; rfl
theorem mv_L.has {as : List Nat} {sd : Nat → Option Nat} {ls : Array Slot} {nL : Nat} {L : List (Option Value)} (h : mv_L as sd ls nL L) : lv_has ls nL (mv_al as sd L) := by
  refine ⟨h.2.1, h.2.2.1, fun q hq => ?_⟩
  obtain ⟨i, hi, e⟩ := List.mem_filterMap.mp hq
  have hi := List.mem_range.mp hi
  cases hv : L.getD i none with
  | none => rw [hv] at e; cases e
  | some v =>
    rw [hv] at e
    cases e
    refine h.2.2.2 i v ?_
    rw [List.getD_eq_getElem?_getD, List.getElem?_eq_getElem hi] at hv
    rw [List.getElem?_eq_getElem hi]
    exact congrArg some hv
theorem mv_cl_len (L : List (Option Value)) (i : Nat) : (mv_cl L i).length = L.length := by
  cases i with
  | zero => rfl
  | succ j =>
    unfold mv_cl
    dsimp only
    split <;> simp
theorem mv_cl_at {L : List (Option Value)} {i j : Nat} {w : Value} (h : (mv_cl L i)[j]? = some (some w)) : L[j]? = some (some w) ∧ ¬ (j + 1 = i ∧ w.category = 2) := by
  cases i with
  | zero => exact ⟨h, fun q => by omega⟩
  | succ k =>
    unfold mv_cl at h
    dsimp only at h
    split at h
    · by_cases hjk : k = j
      · subst hjk
        by_cases hl : k < L.length
        · rw [List.getElem?_set_self hl] at h; cases h
        · rw [List.getElem?_eq_none (by simpa using hl)] at h; cases h
      · rw [List.getElem?_set_ne hjk] at h
        exact ⟨h, fun q => hjk (by omega)⟩
    · by_cases hjk : k = j
      · subst hjk
        by_cases hl : k < L.length
        · rw [List.getElem?_set_self hl] at h; cases h
        · rw [List.getElem?_eq_none (by simpa using hl)] at h; cases h
      · rw [List.getElem?_set_ne hjk] at h
        exact ⟨h, fun q => hjk (by omega)⟩
    · rename_i h1 h2
      refine ⟨h, fun q => ?_⟩
      have hjk : j = k := by omega
      subst hjk
      cases w with
      | long z => exact h1 z h
      | double z => exact h2 z h
      | _ => simp [Value.category] at q
theorem mv_L.st1 {as : List Nat} {sd : Nat → Option Nat} {ls' : Array Slot} {nL : Nat} {L : List (Option Value)} {i : Nat} {v : Value} (hL : L.length = nL)
    (h : lv_has ls' nL ((i, mv_v as sd v) :: (mv_al as sd L).filter (fun q => !(q.1 == i) && !(q.1 + 1 == i && q.2.category == 2)))) : mv_L as sd ls' nL (mv_st1 L i v) := by
  refine ⟨by unfold mv_st1; rw [List.length_set, mv_cl_len, hL], h.1, h.2.1, fun j w hj => ?_⟩
  unfold mv_st1 at hj
  by_cases hij : i = j
  · subst hij
    by_cases hl : i < (mv_cl L i).length
    · rw [List.getElem?_set_self hl] at hj
      cases hj
      exact h.2.2 _ List.mem_cons_self
    · rw [List.getElem?_eq_none (by simpa using hl)] at hj; cases hj
  · rw [List.getElem?_set_ne hij] at hj
    obtain ⟨h1, h2⟩ := mv_cl_at hj
    refine h.2.2 (j, mv_v as sd w) (List.mem_cons_of_mem _ (List.mem_filter.mpr ⟨mv_al_mem h1, ?_⟩))
    rw [mv_v_cat]
    have a1 : (j == i) = false := by simpa using fun q => hij q.symm
    have a2 : (j + 1 == i && w.category == 2) = false := by
      cases hb : (j + 1 == i && w.category == 2) with
      | false => rfl
      | true => simp at hb; exact absurd hb h2
    rw [a1, a2]; rfl
theorem mv_L.st2 {as : List Nat} {sd : Nat → Option Nat} {ls' : Array Slot} {nL : Nat} {L : List (Option Value)} {i : Nat} {v : Value} (hL : L.length = nL)
    (h : lv_has ls' nL ((i, mv_v as sd v) :: (mv_al as sd L).filter (fun q => !(q.1 == i) && (!(q.1 == i + 1) && !(q.1 + 1 == i && q.2.category == 2))))) : mv_L as sd ls' nL (mv_st2 L i v) := by
  refine ⟨by unfold mv_st2; rw [List.length_set, List.length_set, mv_cl_len, hL], h.1, h.2.1, fun j w hj => ?_⟩
  unfold mv_st2 at hj
  by_cases hij1 : i + 1 = j
  · subst hij1
    by_cases hl : i + 1 < ((mv_cl L i).set i (some v)).length
    · rw [List.getElem?_set_self hl] at hj; cases hj
    · rw [List.getElem?_eq_none (by simpa using hl)] at hj; cases hj
  · rw [List.getElem?_set_ne hij1] at hj
    by_cases hij : i = j
    · subst hij
      by_cases hl : i < (mv_cl L i).length
      · rw [List.getElem?_set_self hl] at hj
        cases hj
        exact h.2.2 _ List.mem_cons_self
      · rw [List.getElem?_eq_none (by simpa using hl)] at hj; cases hj
    · rw [List.getElem?_set_ne hij] at hj
      obtain ⟨h1, h2⟩ := mv_cl_at hj
      refine h.2.2 (j, mv_v as sd w) (List.mem_cons_of_mem _ (List.mem_filter.mpr ⟨mv_al_mem h1, ?_⟩))
      rw [mv_v_cat]
      have a1 : (j == i) = false := by simpa using fun q => hij q.symm
      have a3 : (j == i + 1) = false := by simpa using fun q => hij1 q.symm
      have a2 : (j + 1 == i && w.category == 2) = false := by
        cases hb : (j + 1 == i && w.category == 2) with
        | false => rfl
        | true => simp at hb; exact absurd hb h2
      rw [a1, a2, a3]; rfl
theorem mv_L.app {as t : List Nat} {sd : Nat → Option Nat} {ls : Array Slot} {nL : Nat} : ∀ {L : List (Option Value)}, mv_L as sd ls nL L → mv_wl as.length L = true → mv_L (as ++ t) sd ls nL L := by
  intro L h hw
  refine ⟨h.1, h.2.1, h.2.2.1, fun i v hi => ?_⟩
  rw [mv_v_app]
  · exact h.2.2.2 i v hi
  · clear h
    induction L generalizing i with
    | nil => simp at hi
    | cons a r ih =>
      cases i with
      | zero =>
        simp only [List.getElem?_cons_zero, Option.some.injEq] at hi
        subst hi
        simp only [mv_wl, Bool.and_eq_true] at hw
        exact hw.1
      | succ i =>
        simp only [List.getElem?_cons_succ] at hi
        cases a with
        | none => exact ih hw i hi
        | some a => simp only [mv_wl, Bool.and_eq_true] at hw; exact ih hw.2 i hi
theorem mv_L.forget {as : List Nat} {sd : Nat → Option Nat} {ls : Array Slot} {nL : Nat} {L : List (Option Value)} (h : mv_L as sd ls nL L) (i : Nat) : mv_L as sd ls nL (L.set i none) := by
  refine ⟨by rw [List.length_set]; exact h.1, h.2.1, h.2.2.1, fun j v hj => ?_⟩
  by_cases hij : i = j
  · subst hij
    by_cases hl : i < L.length
    · rw [List.getElem?_set_self hl] at hj; cases hj
    · rw [List.getElem?_eq_none (by simpa using hl)] at hj; cases hj
  · rw [List.getElem?_set_ne hij] at hj
    exact h.2.2.2 j v hj
