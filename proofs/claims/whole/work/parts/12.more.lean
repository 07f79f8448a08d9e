/-! the steps only make cells -/
theorem mv_bif {α : Type} {b : Bool} {a : α} {r : α} (e : (bif b then some a else none) = some r) : a = r := by
  cases b with
  | true => exact Option.some.inj e
  | false => cases e
theorem mi_pure_mn (len : Nat) (t : List Value → Option (List Value)) : mv_Mn (mi_pure len t) := by
  intro f h r e
  unfold mi_pure at e
  (repeat' split at e) <;> first | (cases e; exact ⟨Nat.le_refl _, Nat.le_refl _⟩) | (cases e; exact ⟨Nat.le_succ _, Nat.le_add_right _ _⟩) | cases e
theorem mi_iload_mn (len i : Nat) : mv_Mn (mi_iload len i) := by
  intro f h r e
  unfold mi_iload at e
  (repeat' split at e) <;> first | (cases e; exact ⟨Nat.le_refl _, Nat.le_refl _⟩) | (cases e; exact ⟨Nat.le_succ _, Nat.le_add_right _ _⟩) | cases e
theorem mi_lload_mn (len i : Nat) : mv_Mn (mi_lload len i) := by
  intro f h r e
  unfold mi_lload at e
  (repeat' split at e) <;> first | (cases e; exact ⟨Nat.le_refl _, Nat.le_refl _⟩) | (cases e; exact ⟨Nat.le_succ _, Nat.le_add_right _ _⟩) | cases e
theorem mi_aload_mn (len i : Nat) : mv_Mn (mi_aload len i) := by
  intro f h r e
  unfold mi_aload at e
  (repeat' split at e) <;> first | (cases e; exact ⟨Nat.le_refl _, Nat.le_refl _⟩) | (cases e; exact ⟨Nat.le_succ _, Nat.le_add_right _ _⟩) | cases e
theorem mi_istore_mn (len i : Nat) : mv_Mn (mi_istore len i) := by
  intro f h r e
  unfold mi_istore at e
  (repeat' split at e) <;> first | (cases e; exact ⟨Nat.le_refl _, Nat.le_refl _⟩) | (cases e; exact ⟨Nat.le_succ _, Nat.le_add_right _ _⟩) | cases e
theorem mi_lstore_mn (len i : Nat) : mv_Mn (mi_lstore len i) := by
  intro f h r e
  unfold mi_lstore at e
  (repeat' split at e) <;> first | (cases e; exact ⟨Nat.le_refl _, Nat.le_refl _⟩) | (cases e; exact ⟨Nat.le_succ _, Nat.le_add_right _ _⟩) | cases e
theorem mi_astore_mn (len i : Nat) : mv_Mn (mi_astore len i) := by
  intro f h r e
  unfold mi_astore at e
  (repeat' split at e) <;> first | (cases e; exact ⟨Nat.le_refl _, Nat.le_refl _⟩) | (cases e; exact ⟨Nat.le_succ _, Nat.le_add_right _ _⟩) | cases e
theorem mi_iinc_mn (i : Nat) (n : Int32) : mv_Mn (mi_iinc i n) := by
  intro f h r e
  unfold mi_iinc at e
  (repeat' split at e) <;> first | (cases e; exact ⟨Nat.le_refl _, Nat.le_refl _⟩) | (cases e; exact ⟨Nat.le_succ _, Nat.le_add_right _ _⟩) | cases e
theorem mi_goto_mn (t : Nat) : mv_Mn (mi_goto t) := by
  intro f h r e
  unfold mi_goto at e
  (repeat' split at e) <;> first | (cases e; exact ⟨Nat.le_refl _, Nat.le_refl _⟩) | (cases e; exact ⟨Nat.le_succ _, Nat.le_add_right _ _⟩) | cases e
theorem mi_if_mn (b : Int32 → Prop) [DecidablePred b] (t : Nat) : mv_Mn (mi_if b t) := by
  intro f h r e
  unfold mi_if at e
  (repeat' split at e) <;> first | (cases e; exact ⟨Nat.le_refl _, Nat.le_refl _⟩) | (cases e; exact ⟨Nat.le_succ _, Nat.le_add_right _ _⟩) | cases e
theorem mi_icmp_mn (b : Int32 → Int32 → Prop) [∀ x y, Decidable (b x y)] (t : Nat) : mv_Mn (mi_icmp b t) := by
  intro f h r e
  unfold mi_icmp at e
  (repeat' split at e) <;> first | (cases e; exact ⟨Nat.le_refl _, Nat.le_refl _⟩) | (cases e; exact ⟨Nat.le_succ _, Nat.le_add_right _ _⟩) | cases e
theorem mi_sw_mn (ks : List (Int32 × Nat)) (d : Nat) : mv_Mn (mi_sw ks d) := by
  intro f h r e
  unfold mi_sw at e
  (repeat' split at e) <;> first | (cases e; exact ⟨Nat.le_refl _, Nat.le_refl _⟩) | (cases e; exact ⟨Nat.le_succ _, Nat.le_add_right _ _⟩) | cases e
theorem mi_iret_mn  : mv_Mn (mi_iret ) := by
  intro f h r e
  unfold mi_iret at e
  (repeat' split at e) <;> first | (cases e; exact ⟨Nat.le_refl _, Nat.le_refl _⟩) | (cases e; exact ⟨Nat.le_succ _, Nat.le_add_right _ _⟩) | cases e
theorem mi_zret_mn  : mv_Mn (mi_zret ) := by
  intro f h r e
  unfold mi_zret at e
  (repeat' split at e) <;> first | (cases e; exact ⟨Nat.le_refl _, Nat.le_refl _⟩) | (cases e; exact ⟨Nat.le_succ _, Nat.le_add_right _ _⟩) | cases e
theorem mi_vret_mn  : mv_Mn (mi_vret ) := by
  intro f h r e
  unfold mi_vret at e
  (repeat' split at e) <;> first | (cases e; exact ⟨Nat.le_refl _, Nat.le_refl _⟩) | (cases e; exact ⟨Nat.le_succ _, Nat.le_add_right _ _⟩) | cases e
theorem mi_aret_mn  : mv_Mn (mi_aret ) := by
  intro f h r e
  unfold mi_aret at e
  (repeat' split at e) <;> first | (cases e; exact ⟨Nat.le_refl _, Nat.le_refl _⟩) | (cases e; exact ⟨Nat.le_succ _, Nat.le_add_right _ _⟩) | cases e
theorem mi_get_mn (ci k : Nat) : mv_Mn (mi_get ci k) := by
  intro f h r e
  unfold mi_get at e
  split at e
  · split at e
    · rename_i cj fs hq
      cases hb : Nat.beq cj ci with
      | false => rw [hb] at e; cases e
      | true =>
        rw [hb, cond_true] at e
        split at e
        · cases e; exact ⟨Nat.le_refl _, Nat.le_refl _⟩
        · cases e
    · cases e
  · cases e
theorem mi_iald_mn  : mv_Mn (mi_iald ) := by
  intro f h r e
  unfold mi_iald at e
  (repeat' split at e) <;> first | (cases e; exact ⟨Nat.le_refl _, Nat.le_refl _⟩) | (cases e; exact ⟨Nat.le_succ _, Nat.le_add_right _ _⟩) | cases e
theorem mi_iast_mn  : mv_Mn (mi_iast ) := by
  intro f h r e
  unfold mi_iast at e
  (repeat' split at e) <;> first | (cases e; exact ⟨Nat.le_refl _, Nat.le_refl _⟩) | (cases e; exact ⟨Nat.le_succ _, Nat.le_add_right _ _⟩) | cases e
theorem mi_lald_mn  : mv_Mn (mi_lald ) := by
  intro f h r e
  unfold mi_lald at e
  (repeat' split at e) <;> first | (cases e; exact ⟨Nat.le_refl _, Nat.le_refl _⟩) | (cases e; exact ⟨Nat.le_succ _, Nat.le_add_right _ _⟩) | cases e
theorem mi_last_mn  : mv_Mn (mi_last ) := by
  intro f h r e
  unfold mi_last at e
  (repeat' split at e) <;> first | (cases e; exact ⟨Nat.le_refl _, Nat.le_refl _⟩) | (cases e; exact ⟨Nat.le_succ _, Nat.le_add_right _ _⟩) | cases e
theorem mi_throw_mn (k : Nat) : mv_Mn (mi_throw k) := by
  intro f h r e
  unfold mi_throw at e
  (repeat' split at e) <;> first | (cases e; exact ⟨Nat.le_refl _, Nat.le_refl _⟩) | (cases e; exact ⟨Nat.le_succ _, Nat.le_add_right _ _⟩) | cases e
theorem mi_obj_mn  : mv_Mn (mi_obj ) := by
  intro f h r e
  unfold mi_obj at e
  (repeat' split at e) <;> first | (cases e; exact ⟨Nat.le_refl _, Nat.le_refl _⟩) | (cases e; exact ⟨Nat.le_succ _, Nat.le_add_right _ _⟩) | cases e
theorem mi_put_mn (ci k : Nat) (ty : FieldType) : mv_Mn (mi_put ci k ty) := by
  intro f h r e
  unfold mi_put at e
  (try (repeat' split at e)) <;> first | (have e := mv_bif e; subst e; first | exact ⟨Nat.le_refl _, Nat.le_refl _⟩ | exact ⟨Nat.le_add_right _ _, Nat.le_add_right _ _⟩) | cases e
theorem mi_alen_mn (t : Nat) : mv_Mn (mi_alen t) := by
  intro f h r e
  unfold mi_alen at e
  (try (repeat' split at e)) <;> first | (have e := mv_bif e; subst e; first | exact ⟨Nat.le_refl _, Nat.le_refl _⟩ | exact ⟨Nat.le_add_right _ _, Nat.le_add_right _ _⟩) | cases e
theorem mi_callV_mn (ci z n : Nat) : mv_Mn (mi_callV ci z n) := by
  intro f h r e
  unfold mi_callV at e
  (try (repeat' split at e)) <;> first | (have e := mv_bif e; subst e; first | exact ⟨Nat.le_refl _, Nat.le_refl _⟩ | exact ⟨Nat.le_add_right _ _, Nat.le_add_right _ _⟩) | cases e
theorem mi_callI_mn (z n : Nat) : mv_Mn (mi_callI z n) := by
  intro f h r e
  unfold mi_callI at e
  (try (repeat' split at e)) <;> first | (have e := mv_bif e; subst e; first | exact ⟨Nat.le_refl _, Nat.le_refl _⟩ | exact ⟨Nat.le_add_right _ _, Nat.le_add_right _ _⟩) | cases e
theorem mi_callK_mn (b : Nat → Bool) (z n : Nat) : mv_Mn (mi_callK b z n) := by
  intro f h r e
  unfold mi_callK at e
  (try (repeat' split at e)) <;> first | (have e := mv_bif e; subst e; first | exact ⟨Nat.le_refl _, Nat.le_refl _⟩ | exact ⟨Nat.le_add_right _ _, Nat.le_add_right _ _⟩) | cases e
theorem mi_callS_mn (z n : Nat) : mv_Mn (mi_callS z n) := by
  intro f h r e
  unfold mi_callS at e
  (try (repeat' split at e)) <;> first | (have e := mv_bif e; subst e; first | exact ⟨Nat.le_refl _, Nat.le_refl _⟩ | exact ⟨Nat.le_add_right _ _, Nat.le_add_right _ _⟩) | cases e
theorem mi_new_mn (ci : Nat) (fs : List Value) : mv_Mn (mi_new ci fs) := by
  intro f h r e
  unfold mi_new at e
  (try (repeat' split at e)) <;> first | (have e := mv_bif e; subst e; first | exact ⟨Nat.le_refl _, Nat.le_refl _⟩ | exact ⟨Nat.le_add_right _ _, Nat.le_add_right _ _⟩) | cases e
theorem mi_newa_mn (t : Nat) (z : (Nat → Int32) ⊕ (Nat → Int64) ⊕ (Nat → UInt32) ⊕ (Nat → UInt64) ⊕ (Nat → Option Nat)) : mv_Mn (mi_newa t z) := by
  intro f h r e
  unfold mi_newa at e
  (try (repeat' split at e)) <;> first | (have e := mv_bif e; subst e; first | exact ⟨Nat.le_refl _, Nat.le_refl _⟩ | exact ⟨Nat.le_add_right _ _, Nat.le_add_right _ _⟩) | cases e
/-! switches -/
theorem mn_lookup {g : mv_Gp} {y pc len d : Nat} {dflt : Int} {ps : Array (Int × Int)} {ks : List (Int32 × Nat)} (hd : decode (g.M y).cc pc = .ok (.lookupswitch dflt ps, len)) (hp : (ps.toList.zip (ps.toList.drop 1)).all (fun (a, next) => a.1 < next.1) = true) (hdf : (pc : Int) + dflt = (d : Int))
    (hk : ps.toList.map (fun q => (q.1, (pc : Int) + q.2)) = ks.map (fun q => (q.1.toInt, ((q.2 : Nat) : Int)))) : mv_Snd g y pc (mi_sw ks d) := by
  have key : ∀ (x : Int32) (l : List (Int × Int)) (ks : List (Int32 × Nat)), l.map (fun q => (q.1, (pc : Int) + q.2)) = ks.map (fun q => (q.1.toInt, ((q.2 : Nat) : Int))) → (pc : Int) + Op.lookupswitch.offset l dflt x.toInt = ((mv_sw x d ks : Nat) : Int) := by
    intro x l
    induction l with
    | nil =>
      intro ks e
      cases ks with
      | nil => exact hdf
      | cons _ _ => cases e
    | cons a r ih =>
      intro ks e
      cases ks with
      | nil => cases e
      | cons b ks =>
        simp only [List.map_cons, List.cons.injEq, Prod.mk.injEq] at e
        obtain ⟨⟨e1, e2⟩, e3⟩ := e
        obtain ⟨a1, a2⟩ := a
        rw [Op.lookupswitch.offset_cons]
        dsimp only at e1 e2
        by_cases hx : x = b.1
        · subst hx
          rw [if_pos e1]
          simp only [mv_sw, if_pos]
          exact e2
        · rw [if_neg (fun q => hx (Int32.toInt_inj.mp (by rw [← q]; exact e1)))]
          simp only [mv_sw, if_neg hx]
          exact ih ks e3
  intro x hX L stk h r e hr c1 c2 c3 c4 as H locs ls hw hl
  unfold mi_sw at e
  dsimp only at e
  split at e
  · rename_i v st
    cases e
    exact lv_lookup hX.1.1 hX.1.2.1 hd hp rfl (key v ps.toList ks hk) (hr.2.2 c1 c2 hr.1 hr.2.1 as H locs ls hw hl)
  · cases e
/-- a table from lo on, with n places -/
def mv_tab1 (lo : Int) (pc : Nat) : List Int → List (Int × Int)
  | [] => []
  | o :: r => (lo, (pc : Int) + o) :: mv_tab1 (lo + 1) pc r
theorem mn_table {g : mv_Gp} {y pc len d : Nat} {dflt lo hi : Int} {offs : Array Int} {ks : List (Int32 × Nat)} (hd : decode (g.M y).cc pc = .ok (.tableswitch dflt lo hi offs, len)) (hdf : (pc : Int) + dflt = (d : Int)) (hhi : hi - lo + 1 = (offs.toList.length : Int))
    (hk : mv_tab1 lo pc offs.toList = ks.map (fun q => (q.1.toInt, ((q.2 : Nat) : Int)))) : mv_Snd g y pc (mi_sw ks d) := by
  have key : ∀ (x : Int32) (l : List Int) (lo : Int) (ks : List (Int32 × Nat)), mv_tab1 lo pc l = ks.map (fun q => (q.1.toInt, ((q.2 : Nat) : Int))) →
      (x.toInt < lo ∨ lo + l.length ≤ x.toInt → mv_sw x d ks = d) ∧ (¬ x.toInt < lo → x.toInt < lo + l.length → ∃ off, l[(x.toInt - lo).toNat]? = some off ∧ (pc : Int) + off = ((mv_sw x d ks : Nat) : Int)) := by
    intro x l
    induction l with
    | nil =>
      intro lo ks e
      cases ks with
      | nil => exact ⟨fun _ => rfl, fun h1 h2 => absurd h2 (by simp; omega)⟩
      | cons _ _ => cases e
    | cons a r ih =>
      intro lo ks e
      cases ks with
      | nil => cases e
      | cons b ks =>
        simp only [mv_tab1, List.map_cons, List.cons.injEq, Prod.mk.injEq] at e
        obtain ⟨⟨e1, e2⟩, e3⟩ := e
        obtain ⟨i1, i2⟩ := ih (lo + 1) ks e3
        simp only [List.length_cons]
        by_cases hx : x = b.1
        · subst hx
          refine ⟨fun h9 => absurd h9 (by omega), fun _ _ => ⟨a, ?_, ?_⟩⟩
          · rw [show (b.1.toInt - lo).toNat = 0 by omega]; rfl
          · simp only [mv_sw, if_pos]; exact e2
        · have hne : x.toInt ≠ lo := fun q => hx (Int32.toInt_inj.mp (by rw [q]; exact e1))
          simp only [mv_sw, if_neg hx]
          refine ⟨fun h9 => i1 (by omega), fun h1 h2 => ?_⟩
          obtain ⟨off, o1, o2⟩ := i2 (by omega) (by omega)
          refine ⟨off, ?_, o2⟩
          rw [show (x.toInt - lo).toNat = (x.toInt - (lo + 1)).toNat + 1 by omega, List.getElem?_cons_succ]
          exact o1
  intro x hX L stk h r e hr c1 c2 c3 c4 as H locs ls hw hl
  unfold mi_sw at e
  dsimp only at e
  split at e
  · rename_i v st
    cases e
    obtain ⟨k1, k2⟩ := key v offs.toList lo ks hk
    have hG := hr.2.2 c1 c2 hr.1 hr.2.1 as H locs ls hw hl
    by_cases hv : v.toInt < lo ∨ hi < v.toInt
    · rw [k1 (by omega)] at hG
      exact lv_tableOut hX.1.1 hX.1.2.1 hd hv hdf hG
    · obtain ⟨off, o1, o2⟩ := k2 (fun q => hv (Or.inl q)) (by omega)
      exact lv_tableIn hX.1.1 hX.1.2.1 hd (fun q => hv (Or.inl q)) (fun q => hv (Or.inr q)) (by rw [← Array.getElem?_toList]; exact o1) o2 hG
  · cases e
