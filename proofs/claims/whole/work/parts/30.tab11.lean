theorem dd_92_0 : decode prog_9_method_32_code 0 = .ok (.aload_n 0, 1) := by decide +kernel
theorem dd_92_1 : decode prog_9_method_32_code 1 = .ok (.iconst 0, 1) := by decide +kernel
theorem dd_92_2 : decode prog_9_method_32_code 2 = .ok (.aload_n 0, 1) := by decide +kernel
theorem dd_92_3 : decode prog_9_method_32_code 3 = .ok (.getfield 35, 3) := by decide +kernel
theorem dd_92_6 : decode prog_9_method_32_code 6 = .ok (.invokevirtual 42, 3) := by decide +kernel
theorem dd_92_9 : decode prog_9_method_32_code 9 = .ok (.ifCond .eq 5, 3) := by decide +kernel
theorem dd_92_12 : decode prog_9_method_32_code 12 = .ok (.iconst 0, 1) := by decide +kernel
theorem dd_92_13 : decode prog_9_method_32_code 13 = .ok (.ireturn, 1) := by decide +kernel
theorem dd_92_14 : decode prog_9_method_32_code 14 = .ok (.aload_n 0, 1) := by decide +kernel
theorem dd_92_15 : decode prog_9_method_32_code 15 = .ok (.iconst 1, 1) := by decide +kernel
theorem dd_92_16 : decode prog_9_method_32_code 16 = .ok (.putfield 35, 3) := by decide +kernel
theorem dd_92_19 : decode prog_9_method_32_code 19 = .ok (.aload_n 0, 1) := by decide +kernel
theorem dd_92_20 : decode prog_9_method_32_code 20 = .ok (.iconst (-1), 1) := by decide +kernel
theorem dd_92_21 : decode prog_9_method_32_code 21 = .ok (.putfield 13, 3) := by decide +kernel
theorem dd_92_24 : decode prog_9_method_32_code 24 = .ok (.aload_n 0, 1) := by decide +kernel
theorem dd_92_25 : decode prog_9_method_32_code 25 = .ok (.iconst 0, 1) := by decide +kernel
theorem dd_92_26 : decode prog_9_method_32_code 26 = .ok (.putfield 332, 3) := by decide +kernel
theorem dd_92_29 : decode prog_9_method_32_code 29 = .ok (.aload_n 0, 1) := by decide +kernel
theorem dd_92_30 : decode prog_9_method_32_code 30 = .ok (.iconst 0, 1) := by decide +kernel
theorem dd_92_31 : decode prog_9_method_32_code 31 = .ok (.putfield 335, 3) := by decide +kernel
theorem dd_92_34 : decode prog_9_method_32_code 34 = .ok (.aload_n 0, 1) := by decide +kernel
theorem dd_92_35 : decode prog_9_method_32_code 35 = .ok (.iconst 0, 1) := by decide +kernel
theorem dd_92_36 : decode prog_9_method_32_code 36 = .ok (.putfield 72, 3) := by decide +kernel
theorem dd_92_39 : decode prog_9_method_32_code 39 = .ok (.aload_n 0, 1) := by decide +kernel
theorem dd_92_40 : decode prog_9_method_32_code 40 = .ok (.invokevirtual 338, 3) := by decide +kernel
theorem dd_92_43 : decode prog_9_method_32_code 43 = .ok (.ireturn, 1) := by decide +kernel
def mt_92 : Nat → Option mv_S := mt_n 21 (mt_n 12 (mt_n 3 (mt_n 1 (mt_l 0 (mi_aload 1 0)) (mt_n 2 (mt_l 1 (mi_pure 1 (mo_push (.int 0)))) (mt_l 2 (mi_aload 1 0)))) (mt_n 6 (mt_l 3 (mi_get 6 3)) (mt_n 9 (mt_l 6 (mi_callV 6 22 3)) (mt_l 9 (mi_if (fun x : Int32 => x = 0) 14))))) (mt_n 15 (mt_n 13 (mt_l 12 (mi_pure 1 (mo_push (.int 0)))) (mt_n 14 (mt_l 13 (mi_iret)) (mt_l 14 (mi_aload 1 0)))) (mt_n 19 (mt_n 16 (mt_l 15 (mi_pure 1 (mo_push (.int 1)))) (mt_l 16 (mi_put 6 3 (.boolean)))) (mt_n 20 (mt_l 19 (mi_aload 1 0)) (mt_l 20 (mi_pure 1 (mo_push (.int (-1))))))))) (mt_n 31 (mt_n 26 (mt_n 24 (mt_l 21 (mi_put 6 4 (.int))) (mt_n 25 (mt_l 24 (mi_aload 1 0)) (mt_l 25 (mi_pure 1 (mo_push (.int 0)))))) (mt_n 29 (mt_l 26 (mi_put 6 15 (.int))) (mt_n 30 (mt_l 29 (mi_aload 1 0)) (mt_l 30 (mi_pure 1 (mo_push (.int 0))))))) (mt_n 36 (mt_n 34 (mt_l 31 (mi_put 6 18 (.int))) (mt_n 35 (mt_l 34 (mi_aload 1 0)) (mt_l 35 (mi_pure 1 (mo_push (.int 0)))))) (mt_n 40 (mt_n 39 (mt_l 36 (mi_put 6 6 (.int))) (mt_l 39 (mi_aload 1 0))) (mt_n 43 (mt_l 40 (mi_callV 6 91 1)) (mt_l 43 (mi_iret))))))
theorem ms_92 (L : Nat) (xs : Nat → Int32) : mt_ok (mg L xs) 92 (mt_92) := mt_ok.n (mt_ok.n (mt_ok.n (mt_ok.n (mt_ok.l (mn_aload_n (k := 0) dd_92_0 rfl) (mi_aload_mn 1 0)) (mt_ok.n (mt_ok.l (mn_iconst dd_92_1 (by decide)) (mi_pure_mn 1 _)) (mt_ok.l (mn_aload_n (k := 0) dd_92_2 rfl) (mi_aload_mn 1 0)))) (mt_ok.n (mt_ok.l (mn_get (C := "TokenScannerModel") (T := mf_T6) (N := 21) dd_92_3 rfl (Nat.le_of_ble_eq_true rfl) mf_i6 hw_670) (mi_get_mn 6 3)) (mt_ok.n (mt_ok.l (mn_callV (y := 92) (pc := 6) (z := 22) (mg_Ok L xs) (C := "TokenScannerModel") (T0 := mf_T6) (N := 21) dd_92_6 rfl (mv_Hn.none rfl (fun _ => rfl)) (mc_92_22 L xs) hw_739 hw_741 hs_26 mq_22.1) (mi_callV_mn 6 22 3)) (mt_ok.l (mn_if_eq dd_92_9 (by decide)) (mi_if_mn _ _))))) (mt_ok.n (mt_ok.n (mt_ok.l (mn_iconst dd_92_12 (by decide)) (mi_pure_mn 1 _)) (mt_ok.n (mt_ok.l (mn_iret dd_92_13 rfl) (mi_iret_mn)) (mt_ok.l (mn_aload_n (k := 0) dd_92_14 rfl) (mi_aload_mn 1 0)))) (mt_ok.n (mt_ok.n (mt_ok.l (mn_iconst dd_92_15 (by decide)) (mi_pure_mn 1 _)) (mt_ok.l (mn_put (C := "TokenScannerModel") (T := mf_T6) (N := 21) (host := "") mf_y6 dd_92_16 rfl (Nat.le_of_ble_eq_true rfl) mf_i6 mf_o6 mf_n6 hw_670 rfl (by decide +kernel)) (mi_put_mn 6 3 _))) (mt_ok.n (mt_ok.l (mn_aload_n (k := 0) dd_92_19 rfl) (mi_aload_mn 1 0)) (mt_ok.l (mn_iconst dd_92_20 (by decide)) (mi_pure_mn 1 _)))))) (mt_ok.n (mt_ok.n (mt_ok.n (mt_ok.l (mn_put (C := "TokenScannerModel") (T := mf_T6) (N := 21) (host := "") mf_y6 dd_92_21 rfl (Nat.le_of_ble_eq_true rfl) mf_i6 mf_o6 mf_n6 hw_671 rfl (by decide +kernel)) (mi_put_mn 6 4 _)) (mt_ok.n (mt_ok.l (mn_aload_n (k := 0) dd_92_24 rfl) (mi_aload_mn 1 0)) (mt_ok.l (mn_iconst dd_92_25 (by decide)) (mi_pure_mn 1 _)))) (mt_ok.n (mt_ok.l (mn_put (C := "TokenScannerModel") (T := mf_T6) (N := 21) (host := "") mf_y6 dd_92_26 rfl (Nat.le_of_ble_eq_true rfl) mf_i6 mf_o6 mf_n6 hw_682 rfl (by decide +kernel)) (mi_put_mn 6 15 _)) (mt_ok.n (mt_ok.l (mn_aload_n (k := 0) dd_92_29 rfl) (mi_aload_mn 1 0)) (mt_ok.l (mn_iconst dd_92_30 (by decide)) (mi_pure_mn 1 _))))) (mt_ok.n (mt_ok.n (mt_ok.l (mn_put (C := "TokenScannerModel") (T := mf_T6) (N := 21) (host := "") mf_y6 dd_92_31 rfl (Nat.le_of_ble_eq_true rfl) mf_i6 mf_o6 mf_n6 hw_685 rfl (by decide +kernel)) (mi_put_mn 6 18 _)) (mt_ok.n (mt_ok.l (mn_aload_n (k := 0) dd_92_34 rfl) (mi_aload_mn 1 0)) (mt_ok.l (mn_iconst dd_92_35 (by decide)) (mi_pure_mn 1 _)))) (mt_ok.n (mt_ok.n (mt_ok.l (mn_put (C := "TokenScannerModel") (T := mf_T6) (N := 21) (host := "") mf_y6 dd_92_36 rfl (Nat.le_of_ble_eq_true rfl) mf_i6 mf_o6 mf_n6 hw_673 rfl (by decide +kernel)) (mi_put_mn 6 6 _)) (mt_ok.l (mn_aload_n (k := 0) dd_92_39 rfl) (mi_aload_mn 1 0))) (mt_ok.n (mt_ok.l (mn_callV (y := 92) (pc := 40) (z := 91) (mg_Ok L xs) (C := "TokenScannerModel") (T0 := mf_T6) (N := 21) dd_92_40 rfl (mv_Hn.none rfl (fun _ => rfl)) (mc_92_91 L xs) hw_748 hw_750 hs_27 mq_91.1) (mi_callV_mn 6 91 1)) (mt_ok.l (mn_iret dd_92_43 rfl) (mi_iret_mn))))))
theorem dd_93_0 : decode prog_1_method_4_code 0 = .ok (.aload_n 0, 1) := by decide +kernel
theorem dd_93_1 : decode prog_1_method_4_code 1 = .ok (.getfield 44, 3) := by decide +kernel
theorem dd_93_4 : decode prog_1_method_4_code 4 = .ok (.ifCond .eq 13, 3) := by decide +kernel
theorem dd_93_7 : decode prog_1_method_4_code 7 = .ok (.aload_n 0, 1) := by decide +kernel
theorem dd_93_8 : decode prog_1_method_4_code 8 = .ok (.getfield 19, 3) := by decide +kernel
theorem dd_93_11 : decode prog_1_method_4_code 11 = .ok (.getfield 92, 3) := by decide +kernel
theorem dd_93_14 : decode prog_1_method_4_code 14 = .ok (.ifCond .ne 13, 3) := by decide +kernel
theorem dd_93_17 : decode prog_1_method_4_code 17 = .ok (.new 59, 3) := by decide +kernel
theorem dd_93_20 : decode prog_1_method_4_code 20 = .ok (.dup, 1) := by decide +kernel
theorem dd_93_21 : decode prog_1_method_4_code 21 = .ok (.ldc 95, 2) := by decide +kernel
theorem dd_93_23 : decode prog_1_method_4_code 23 = .ok (.invokespecial 63, 3) := by decide +kernel
theorem dd_93_26 : decode prog_1_method_4_code 26 = .ok (.athrow, 1) := by decide +kernel
theorem dd_93_27 : decode prog_1_method_4_code 27 = .ok (.aload_n 0, 1) := by decide +kernel
theorem dd_93_28 : decode prog_1_method_4_code 28 = .ok (.aload_n 0, 1) := by decide +kernel
theorem dd_93_29 : decode prog_1_method_4_code 29 = .ok (.getfield 28, 3) := by decide +kernel
theorem dd_93_32 : decode prog_1_method_4_code 32 = .ok (.invokevirtual 84, 3) := by decide +kernel
theorem dd_93_35 : decode prog_1_method_4_code 35 = .ok (.invokevirtual 88, 3) := by decide +kernel
theorem dd_93_38 : decode prog_1_method_4_code 38 = .ok (.ireturn, 1) := by decide +kernel
def mt_93 : Nat → Option mv_S := mt_n 17 (mt_n 7 (mt_n 1 (mt_l 0 (mi_aload 1 0)) (mt_n 4 (mt_l 1 (mi_get 0 5)) (mt_l 4 (mi_if (fun x : Int32 => x = 0) 17)))) (mt_n 11 (mt_n 8 (mt_l 7 (mi_aload 1 0)) (mt_l 8 (mi_get 0 1))) (mt_n 14 (mt_l 11 (mi_get 2 0)) (mt_l 14 (mi_if (fun x : Int32 => ¬ x = 0) 27))))) (mt_n 29 (mt_n 27 (mt_l 17 (mi_throw 1)) (mt_n 28 (mt_l 27 (mi_aload 1 0)) (mt_l 28 (mi_aload 1 0)))) (mt_n 35 (mt_n 32 (mt_l 29 (mi_get 0 2)) (mt_l 32 (mi_callV 3 60 1))) (mt_n 38 (mt_l 35 (mi_callV 0 63 2)) (mt_l 38 (mi_iret)))))
theorem ms_93 (L : Nat) (xs : Nat → Int32) : mt_ok (mg L xs) 93 (mt_93) := mt_ok.n (mt_ok.n (mt_ok.n (mt_ok.l (mn_aload_n (k := 0) dd_93_0 rfl) (mi_aload_mn 1 0)) (mt_ok.n (mt_ok.l (mn_get (C := "TokenScanner") (T := mf_T0) (N := 7) dd_93_1 rfl (Nat.le_of_ble_eq_true rfl) mf_i0 hw_227) (mi_get_mn 0 5)) (mt_ok.l (mn_if_eq dd_93_4 (by decide)) (mi_if_mn _ _)))) (mt_ok.n (mt_ok.n (mt_ok.l (mn_aload_n (k := 0) dd_93_7 rfl) (mi_aload_mn 1 0)) (mt_ok.l (mn_get (C := "TokenScanner") (T := mf_T0) (N := 7) dd_93_8 rfl (Nat.le_of_ble_eq_true rfl) mf_i0 hw_223) (mi_get_mn 0 1))) (mt_ok.n (mt_ok.l (mn_getN (C := "TokenScanner$Token") (T := mf_T2) (N := 9) dd_93_11 rfl (Nat.le_of_ble_eq_true rfl) mf_i2 hw_52) (mi_get_mn 2 0)) (mt_ok.l (mn_if_ne dd_93_14 (by decide)) (mi_if_mn _ _))))) (mt_ok.n (mt_ok.n (mt_ok.l (mn_throw (y := 93) (pc := 17) (k := 1) (mg_Ok L xs) (ik := 59) (is := 95) (ic := 63) (sk := 6) (text := ms_txt 6) (names := ["java/lang/RuntimeException", "java/lang/Exception"]) dd_93_17 dd_93_20 dd_93_21 dd_93_23 dd_93_26 mg_ft1 mg_ftn hw_324 hw_19 (mg_pR 6 (by decide)) ha_63_1 mg_pX rfl (Nat.le_of_ble_eq_true rfl) (Nat.le_of_ble_eq_true rfl)) (mi_throw_mn 1)) (mt_ok.n (mt_ok.l (mn_aload_n (k := 0) dd_93_27 rfl) (mi_aload_mn 1 0)) (mt_ok.l (mn_aload_n (k := 0) dd_93_28 rfl) (mi_aload_mn 1 0)))) (mt_ok.n (mt_ok.n (mt_ok.l (mn_get (C := "TokenScanner") (T := mf_T0) (N := 7) dd_93_29 rfl (Nat.le_of_ble_eq_true rfl) mf_i0 hw_224) (mi_get_mn 0 2)) (mt_ok.l (mn_callV (y := 93) (pc := 32) (z := 60) (mg_Ok L xs) (C := "TokenScanner$Reader") (T0 := mf_T3) (N := 6) dd_93_32 rfl (mv_Hn.none rfl (fun _ => rfl)) (mc_93_60 L xs) hw_368 hw_369 hw_370 mq_60.1) (mi_callV_mn 3 60 1))) (mt_ok.n (mt_ok.l (mn_callV (y := 93) (pc := 35) (z := 63) (mg_Ok L xs) (C := "TokenScanner") (T0 := mf_T0) (N := 7) dd_93_35 rfl (mv_Hn.none rfl (fun _ => rfl)) (mc_93_63 L xs) hw_504 hw_506 hs_21 mq_63.1) (mi_callV_mn 0 63 2)) (mt_ok.l (mn_iret dd_93_38 rfl) (mi_iret_mn)))))
theorem dd_94_0 : decode method_5_code 0 = .ok (.aload_n 1, 1) := by decide +kernel
theorem dd_94_1 : decode method_5_code 1 = .ok (.iconst 0, 1) := by decide +kernel
theorem dd_94_2 : decode method_5_code 2 = .ok (.aload_n 0, 1) := by decide +kernel
theorem dd_94_3 : decode method_5_code 3 = .ok (.invokevirtual 21, 3) := by decide +kernel
theorem dd_94_6 : decode method_5_code 6 = .ok (.i2l, 1) := by decide +kernel
theorem dd_94_7 : decode method_5_code 7 = .ok (.lastore, 1) := by decide +kernel
theorem dd_94_8 : decode method_5_code 8 = .ok (.goto 9, 3) := by decide +kernel
theorem dd_94_11 : decode method_5_code 11 = .ok (.astore_n 2, 1) := by decide +kernel
theorem dd_94_12 : decode method_5_code 12 = .ok (.iconst 1, 1) := by decide +kernel
theorem dd_94_13 : decode method_5_code 13 = .ok (.ireturn, 1) := by decide +kernel
theorem dd_94_14 : decode method_5_code 14 = .ok (.astore_n 2, 1) := by decide +kernel
theorem dd_94_15 : decode method_5_code 15 = .ok (.iconst 2, 1) := by decide +kernel
theorem dd_94_16 : decode method_5_code 16 = .ok (.ireturn, 1) := by decide +kernel
theorem dd_94_17 : decode method_5_code 17 = .ok (.iconst 0, 1) := by decide +kernel
theorem dd_94_18 : decode method_5_code 18 = .ok (.ireturn, 1) := by decide +kernel
def mt_94 : Nat → Option mv_S := mt_n 8 (mt_n 3 (mt_n 1 (mt_l 0 (mi_aload 1 1)) (mt_n 2 (mt_l 1 (mi_pure 1 (mo_push (.int 0)))) (mt_l 2 (mi_aload 1 0)))) (mt_n 6 (mt_l 3 (mi_callV 0 93 1)) (mt_n 7 (mt_l 6 (mi_pure 1 mo_i2l)) (mt_l 7 (mi_last))))) (mt_n 15 (mt_n 12 (mt_l 8 (mi_goto 17)) (mt_n 13 (mt_l 12 (mi_pure 1 (mo_push (.int 1)))) (mt_l 13 (mi_iret)))) (mt_n 17 (mt_n 16 (mt_l 15 (mi_pure 1 (mo_push (.int 2)))) (mt_l 16 (mi_iret))) (mt_n 18 (mt_l 17 (mi_pure 1 (mo_push (.int 0)))) (mt_l 18 (mi_iret)))))
theorem mh_94 {L : Nat} {xs : Nat → Int32} : mv_Hn (mg L xs) 94 3 := by
  have hb : ∀ k, (mg L xs).X 94 3 k = ((bif Nat.beq k 0 then some (some (12, 2)) else (bif Nat.beq k 1 then some (some (15, 2)) else none)) : Option (Option (Nat × Nat))) := fun k => rfl
  refine ⟨fun k pc9 i9 e => ?_, fun k e => ?_⟩ <;> rw [hb] at e
  · cases b0 : Nat.beq k 0 with
    | true =>
      rw [b0, cond_true] at e
      have hk := Nat.eq_of_beq_eq_true b0
      subst hk
      cases e
      exact ⟨[], [(0, 8, 14, 15)], (0, 8, 11, 13), "java/lang/IllegalArgumentException", rfl, (fun z hz => by cases hz), by decide, by decide, hw_251, hw_259, (Nat.le_of_ble_eq_true rfl), Or.inl ⟨2, rfl, dd_94_11, rfl⟩⟩
    | false =>
      rw [b0, cond_false] at e
      cases b1 : Nat.beq k 1 with
      | true =>
        rw [b1, cond_true] at e
        have hk := Nat.eq_of_beq_eq_true b1
        subst hk
        cases e
        exact ⟨[(0, 8, 11, 13)], [], (0, 8, 14, 15), "java/lang/IllegalStateException", rfl, (fun z hz => by
          rcases List.mem_singleton.mp hz with rfl
          exact Or.inr ⟨by decide, "java/lang/IllegalArgumentException", hw_251, mg_pN0⟩), by decide, by decide, hw_252, hw_326, (Nat.le_of_ble_eq_true rfl), Or.inl ⟨2, rfl, dd_94_14, rfl⟩⟩
      | false =>
        rw [b1, cond_false] at e
        cases e
  · cases b0 : Nat.beq k 0 with
    | true =>
      rw [b0, cond_true] at e
      cases e
    | false =>
      rw [b0, cond_false] at e
      cases b1 : Nat.beq k 1 with
      | true =>
        rw [b1, cond_true] at e
        cases e
      | false =>
        rw [b1, cond_false] at e
        cases e
theorem ms_94 (L : Nat) (xs : Nat → Int32) : mt_ok (mg L xs) 94 (mt_94) := mt_ok.n (mt_ok.n (mt_ok.n (mt_ok.l (mn_aload_n (k := 1) dd_94_0 rfl) (mi_aload_mn 1 1)) (mt_ok.n (mt_ok.l (mn_iconst dd_94_1 (by decide)) (mi_pure_mn 1 _)) (mt_ok.l (mn_aload_n (k := 0) dd_94_2 rfl) (mi_aload_mn 1 0)))) (mt_ok.n (mt_ok.l (mn_callV (y := 94) (pc := 3) (z := 93) (mg_Ok L xs) (C := "TokenScanner") (T0 := mf_T0) (N := 7) dd_94_3 rfl mh_94 (mc_94_93 L xs) hw_520 hw_521 hw_522 mq_93.1) (mi_callV_mn 0 93 1)) (mt_ok.n (mt_ok.l (mn_i2l dd_94_6) (mi_pure_mn 1 _)) (mt_ok.l (mn_last dd_94_7 rfl) (mi_last_mn))))) (mt_ok.n (mt_ok.n (mt_ok.l (mn_goto dd_94_8 (by decide)) (mi_goto_mn 17)) (mt_ok.n (mt_ok.l (mn_iconst dd_94_12 (by decide)) (mi_pure_mn 1 _)) (mt_ok.l (mn_iret dd_94_13 rfl) (mi_iret_mn)))) (mt_ok.n (mt_ok.n (mt_ok.l (mn_iconst dd_94_15 (by decide)) (mi_pure_mn 1 _)) (mt_ok.l (mn_iret dd_94_16 rfl) (mi_iret_mn))) (mt_ok.n (mt_ok.l (mn_iconst dd_94_17 (by decide)) (mi_pure_mn 1 _)) (mt_ok.l (mn_iret dd_94_18 rfl) (mi_iret_mn)))))
theorem dd_95_0 : decode prog_9_method_33_code 0 = .ok (.aload_n 0, 1) := by decide +kernel
theorem dd_95_1 : decode prog_9_method_33_code 1 = .ok (.iconst 0, 1) := by decide +kernel
theorem dd_95_2 : decode prog_9_method_33_code 2 = .ok (.aload_n 0, 1) := by decide +kernel
theorem dd_95_3 : decode prog_9_method_33_code 3 = .ok (.getfield 35, 3) := by decide +kernel
theorem dd_95_6 : decode prog_9_method_33_code 6 = .ok (.ifCond .eq 10, 3) := by decide +kernel
theorem dd_95_9 : decode prog_9_method_33_code 9 = .ok (.aload_n 0, 1) := by decide +kernel
theorem dd_95_10 : decode prog_9_method_33_code 10 = .ok (.getfield 84, 3) := by decide +kernel
theorem dd_95_13 : decode prog_9_method_33_code 13 = .ok (.ifCond .ne 7, 3) := by decide +kernel
theorem dd_95_16 : decode prog_9_method_33_code 16 = .ok (.iconst 1, 1) := by decide +kernel
theorem dd_95_17 : decode prog_9_method_33_code 17 = .ok (.goto 4, 3) := by decide +kernel
theorem dd_95_20 : decode prog_9_method_33_code 20 = .ok (.iconst 0, 1) := by decide +kernel
theorem dd_95_21 : decode prog_9_method_33_code 21 = .ok (.invokevirtual 42, 3) := by decide +kernel
theorem dd_95_24 : decode prog_9_method_33_code 24 = .ok (.ifCond .eq 5, 3) := by decide +kernel
theorem dd_95_27 : decode prog_9_method_33_code 27 = .ok (.iconst 0, 1) := by decide +kernel
theorem dd_95_28 : decode prog_9_method_33_code 28 = .ok (.ireturn, 1) := by decide +kernel
theorem dd_95_29 : decode prog_9_method_33_code 29 = .ok (.aload_n 0, 1) := by decide +kernel
theorem dd_95_30 : decode prog_9_method_33_code 30 = .ok (.invokevirtual 338, 3) := by decide +kernel
theorem dd_95_33 : decode prog_9_method_33_code 33 = .ok (.ireturn, 1) := by decide +kernel
def mt_95 : Nat → Option mv_S := mt_n 17 (mt_n 6 (mt_n 2 (mt_n 1 (mt_l 0 (mi_aload 1 0)) (mt_l 1 (mi_pure 1 (mo_push (.int 0))))) (mt_n 3 (mt_l 2 (mi_aload 1 0)) (mt_l 3 (mi_get 6 3)))) (mt_n 10 (mt_n 9 (mt_l 6 (mi_if (fun x : Int32 => x = 0) 16)) (mt_l 9 (mi_aload 1 0))) (mt_n 13 (mt_l 10 (mi_get 6 7)) (mt_n 16 (mt_l 13 (mi_if (fun x : Int32 => ¬ x = 0) 20)) (mt_l 16 (mi_pure 1 (mo_push (.int 1)))))))) (mt_n 27 (mt_n 21 (mt_n 20 (mt_l 17 (mi_goto 21)) (mt_l 20 (mi_pure 1 (mo_push (.int 0))))) (mt_n 24 (mt_l 21 (mi_callV 6 22 3)) (mt_l 24 (mi_if (fun x : Int32 => x = 0) 29)))) (mt_n 29 (mt_n 28 (mt_l 27 (mi_pure 1 (mo_push (.int 0)))) (mt_l 28 (mi_iret))) (mt_n 30 (mt_l 29 (mi_aload 1 0)) (mt_n 33 (mt_l 30 (mi_callV 6 91 1)) (mt_l 33 (mi_iret))))))
theorem ms_95 (L : Nat) (xs : Nat → Int32) : mt_ok (mg L xs) 95 (mt_95) := mt_ok.n (mt_ok.n (mt_ok.n (mt_ok.n (mt_ok.l (mn_aload_n (k := 0) dd_95_0 rfl) (mi_aload_mn 1 0)) (mt_ok.l (mn_iconst dd_95_1 (by decide)) (mi_pure_mn 1 _))) (mt_ok.n (mt_ok.l (mn_aload_n (k := 0) dd_95_2 rfl) (mi_aload_mn 1 0)) (mt_ok.l (mn_get (C := "TokenScannerModel") (T := mf_T6) (N := 21) dd_95_3 rfl (Nat.le_of_ble_eq_true rfl) mf_i6 hw_670) (mi_get_mn 6 3)))) (mt_ok.n (mt_ok.n (mt_ok.l (mn_if_eq dd_95_6 (by decide)) (mi_if_mn _ _)) (mt_ok.l (mn_aload_n (k := 0) dd_95_9 rfl) (mi_aload_mn 1 0))) (mt_ok.n (mt_ok.l (mn_get (C := "TokenScannerModel") (T := mf_T6) (N := 21) dd_95_10 rfl (Nat.le_of_ble_eq_true rfl) mf_i6 hw_674) (mi_get_mn 6 7)) (mt_ok.n (mt_ok.l (mn_if_ne dd_95_13 (by decide)) (mi_if_mn _ _)) (mt_ok.l (mn_iconst dd_95_16 (by decide)) (mi_pure_mn 1 _)))))) (mt_ok.n (mt_ok.n (mt_ok.n (mt_ok.l (mn_goto dd_95_17 (by decide)) (mi_goto_mn 21)) (mt_ok.l (mn_iconst dd_95_20 (by decide)) (mi_pure_mn 1 _))) (mt_ok.n (mt_ok.l (mn_callV (y := 95) (pc := 21) (z := 22) (mg_Ok L xs) (C := "TokenScannerModel") (T0 := mf_T6) (N := 21) dd_95_21 rfl (mv_Hn.none rfl (fun _ => rfl)) (mc_95_22 L xs) hw_739 hw_741 hs_26 mq_22.1) (mi_callV_mn 6 22 3)) (mt_ok.l (mn_if_eq dd_95_24 (by decide)) (mi_if_mn _ _)))) (mt_ok.n (mt_ok.n (mt_ok.l (mn_iconst dd_95_27 (by decide)) (mi_pure_mn 1 _)) (mt_ok.l (mn_iret dd_95_28 rfl) (mi_iret_mn))) (mt_ok.n (mt_ok.l (mn_aload_n (k := 0) dd_95_29 rfl) (mi_aload_mn 1 0)) (mt_ok.n (mt_ok.l (mn_callV (y := 95) (pc := 30) (z := 91) (mg_Ok L xs) (C := "TokenScannerModel") (T0 := mf_T6) (N := 21) dd_95_30 rfl (mv_Hn.none rfl (fun _ => rfl)) (mc_95_91 L xs) hw_748 hw_750 hs_27 mq_91.1) (mi_callV_mn 6 91 1)) (mt_ok.l (mn_iret dd_95_33 rfl) (mi_iret_mn))))))
theorem dd_96_0 : decode prog_2_method_23_code 0 = .ok (.iconst 0, 1) := by decide +kernel
theorem dd_96_1 : decode prog_2_method_23_code 1 = .ok (.istore_n 1, 1) := by decide +kernel
theorem dd_96_2 : decode prog_2_method_23_code 2 = .ok (.aload_n 0, 1) := by decide +kernel
theorem dd_96_3 : decode prog_2_method_23_code 3 = .ok (.getfield 27, 3) := by decide +kernel
theorem dd_96_6 : decode prog_2_method_23_code 6 = .ok (.aload_n 0, 1) := by decide +kernel
theorem dd_96_7 : decode prog_2_method_23_code 7 = .ok (.getfield 34, 3) := by decide +kernel
theorem dd_96_10 : decode prog_2_method_23_code 10 = .ok (.invokevirtual 92, 3) := by decide +kernel
theorem dd_96_13 : decode prog_2_method_23_code 13 = .ok (.if_icmp .ge 131, 3) := by decide +kernel
theorem dd_96_16 : decode prog_2_method_23_code 16 = .ok (.aload_n 0, 1) := by decide +kernel
theorem dd_96_17 : decode prog_2_method_23_code 17 = .ok (.getfield 34, 3) := by decide +kernel
theorem dd_96_20 : decode prog_2_method_23_code 20 = .ok (.aload_n 0, 1) := by decide +kernel
theorem dd_96_21 : decode prog_2_method_23_code 21 = .ok (.getfield 27, 3) := by decide +kernel
theorem dd_96_24 : decode prog_2_method_23_code 24 = .ok (.invokevirtual 54, 3) := by decide +kernel
theorem dd_96_27 : decode prog_2_method_23_code 27 = .ok (.istore_n 2, 1) := by decide +kernel
theorem dd_96_28 : decode prog_2_method_23_code 28 = .ok (.iload_n 2, 1) := by decide +kernel
theorem dd_96_29 : decode prog_2_method_23_code 29 = .ok (.bipush 92, 2) := by decide +kernel
theorem dd_96_31 : decode prog_2_method_23_code 31 = .ok (.if_icmp .ne 7, 3) := by decide +kernel
theorem dd_96_34 : decode prog_2_method_23_code 34 = .ok (.iconst 1, 1) := by decide +kernel
theorem dd_96_35 : decode prog_2_method_23_code 35 = .ok (.goto 4, 3) := by decide +kernel
theorem dd_96_38 : decode prog_2_method_23_code 38 = .ok (.iconst 0, 1) := by decide +kernel
theorem dd_96_39 : decode prog_2_method_23_code 39 = .ok (.istore_n 3, 1) := by decide +kernel
theorem dd_96_40 : decode prog_2_method_23_code 40 = .ok (.iload_n 3, 1) := by decide +kernel
theorem dd_96_41 : decode prog_2_method_23_code 41 = .ok (.ifCond .eq 25, 3) := by decide +kernel
theorem dd_96_44 : decode prog_2_method_23_code 44 = .ok (.aload_n 0, 1) := by decide +kernel
theorem dd_96_45 : decode prog_2_method_23_code 45 = .ok (.dup, 1) := by decide +kernel
theorem dd_96_46 : decode prog_2_method_23_code 46 = .ok (.getfield 27, 3) := by decide +kernel
theorem dd_96_49 : decode prog_2_method_23_code 49 = .ok (.iconst 1, 1) := by decide +kernel
theorem dd_96_50 : decode prog_2_method_23_code 50 = .ok (.iadd, 1) := by decide +kernel
theorem dd_96_51 : decode prog_2_method_23_code 51 = .ok (.putfield 27, 3) := by decide +kernel
theorem dd_96_54 : decode prog_2_method_23_code 54 = .ok (.aload_n 0, 1) := by decide +kernel
theorem dd_96_55 : decode prog_2_method_23_code 55 = .ok (.getfield 34, 3) := by decide +kernel
theorem dd_96_58 : decode prog_2_method_23_code 58 = .ok (.aload_n 0, 1) := by decide +kernel
theorem dd_96_59 : decode prog_2_method_23_code 59 = .ok (.getfield 27, 3) := by decide +kernel
theorem dd_96_62 : decode prog_2_method_23_code 62 = .ok (.invokevirtual 54, 3) := by decide +kernel
theorem dd_96_65 : decode prog_2_method_23_code 65 = .ok (.istore_n 2, 1) := by decide +kernel
theorem dd_96_66 : decode prog_2_method_23_code 66 = .ok (.iload_n 2, 1) := by decide +kernel
theorem dd_96_67 : decode prog_2_method_23_code 67 = .ok (.iconst (-1), 1) := by decide +kernel
theorem dd_96_68 : decode prog_2_method_23_code 68 = .ok (.if_icmp .eq 10, 3) := by decide +kernel
theorem dd_96_71 : decode prog_2_method_23_code 71 = .ok (.iload_n 2, 1) := by decide +kernel
theorem dd_96_72 : decode prog_2_method_23_code 72 = .ok (.invokestatic 108, 3) := by decide +kernel
theorem dd_96_75 : decode prog_2_method_23_code 75 = .ok (.ifCond .eq 12, 3) := by decide +kernel
theorem dd_96_78 : decode prog_2_method_23_code 78 = .ok (.aload_n 0, 1) := by decide +kernel
theorem dd_96_79 : decode prog_2_method_23_code 79 = .ok (.aload_n 0, 1) := by decide +kernel
theorem dd_96_80 : decode prog_2_method_23_code 80 = .ok (.getfield 27, 3) := by decide +kernel
theorem dd_96_83 : decode prog_2_method_23_code 83 = .ok (.invokevirtual 99, 3) := by decide +kernel
theorem dd_96_86 : decode prog_2_method_23_code 86 = .ok (.ireturn, 1) := by decide +kernel
theorem dd_96_87 : decode prog_2_method_23_code 87 = .ok (.iload_n 3, 1) := by decide +kernel
theorem dd_96_88 : decode prog_2_method_23_code 88 = .ok (.ifCond .ne 15, 3) := by decide +kernel
theorem dd_96_91 : decode prog_2_method_23_code 91 = .ok (.iload_n 2, 1) := by decide +kernel
theorem dd_96_92 : decode prog_2_method_23_code 92 = .ok (.bipush 47, 2) := by decide +kernel
theorem dd_96_94 : decode prog_2_method_23_code 94 = .ok (.if_icmp .ne 9, 3) := by decide +kernel
theorem dd_96_97 : decode prog_2_method_23_code 97 = .ok (.iload_n 1, 1) := by decide +kernel
theorem dd_96_98 : decode prog_2_method_23_code 98 = .ok (.ifCond .ne 5, 3) := by decide +kernel
theorem dd_96_101 : decode prog_2_method_23_code 101 = .ok (.iconst 1, 1) := by decide +kernel
theorem dd_96_102 : decode prog_2_method_23_code 102 = .ok (.ireturn, 1) := by decide +kernel
theorem dd_96_103 : decode prog_2_method_23_code 103 = .ok (.iload_n 3, 1) := by decide +kernel
theorem dd_96_104 : decode prog_2_method_23_code 104 = .ok (.ifCond .ne 27, 3) := by decide +kernel
theorem dd_96_107 : decode prog_2_method_23_code 107 = .ok (.iload_n 2, 1) := by decide +kernel
theorem dd_96_108 : decode prog_2_method_23_code 108 = .ok (.bipush 91, 2) := by decide +kernel
theorem dd_96_110 : decode prog_2_method_23_code 110 = .ok (.if_icmp .eq 9, 3) := by decide +kernel
theorem dd_96_113 : decode prog_2_method_23_code 113 = .ok (.iload_n 2, 1) := by decide +kernel
theorem dd_96_114 : decode prog_2_method_23_code 114 = .ok (.bipush 93, 2) := by decide +kernel
theorem dd_96_116 : decode prog_2_method_23_code 116 = .ok (.if_icmp .ne 15, 3) := by decide +kernel
theorem dd_96_119 : decode prog_2_method_23_code 119 = .ok (.iload_n 2, 1) := by decide +kernel
theorem dd_96_120 : decode prog_2_method_23_code 120 = .ok (.bipush 91, 2) := by decide +kernel
theorem dd_96_122 : decode prog_2_method_23_code 122 = .ok (.if_icmp .ne 7, 3) := by decide +kernel
theorem dd_96_125 : decode prog_2_method_23_code 125 = .ok (.iconst 1, 1) := by decide +kernel
theorem dd_96_126 : decode prog_2_method_23_code 126 = .ok (.goto 4, 3) := by decide +kernel
theorem dd_96_129 : decode prog_2_method_23_code 129 = .ok (.iconst 0, 1) := by decide +kernel
theorem dd_96_130 : decode prog_2_method_23_code 130 = .ok (.istore_n 1, 1) := by decide +kernel
theorem dd_96_131 : decode prog_2_method_23_code 131 = .ok (.aload_n 0, 1) := by decide +kernel
theorem dd_96_132 : decode prog_2_method_23_code 132 = .ok (.dup, 1) := by decide +kernel
theorem dd_96_133 : decode prog_2_method_23_code 133 = .ok (.getfield 27, 3) := by decide +kernel
theorem dd_96_136 : decode prog_2_method_23_code 136 = .ok (.iconst 1, 1) := by decide +kernel
theorem dd_96_137 : decode prog_2_method_23_code 137 = .ok (.iadd, 1) := by decide +kernel
theorem dd_96_138 : decode prog_2_method_23_code 138 = .ok (.putfield 27, 3) := by decide +kernel
theorem dd_96_141 : decode prog_2_method_23_code 141 = .ok (.goto (-139), 3) := by decide +kernel
theorem dd_96_144 : decode prog_2_method_23_code 144 = .ok (.aload_n 0, 1) := by decide +kernel
theorem dd_96_145 : decode prog_2_method_23_code 145 = .ok (.aload_n 0, 1) := by decide +kernel
theorem dd_96_146 : decode prog_2_method_23_code 146 = .ok (.getfield 27, 3) := by decide +kernel
theorem dd_96_149 : decode prog_2_method_23_code 149 = .ok (.invokevirtual 99, 3) := by decide +kernel
theorem dd_96_152 : decode prog_2_method_23_code 152 = .ok (.ireturn, 1) := by decide +kernel
def mt_96 : Nat → Option mv_S := mt_n 78 (mt_n 39 (mt_n 20 (mt_n 7 (mt_n 2 (mt_n 1 (mt_l 0 (mi_pure 1 (mo_push (.int 0)))) (mt_l 1 (mi_istore 1 1))) (mt_n 3 (mt_l 2 (mi_aload 1 0)) (mt_n 6 (mt_l 3 (mi_get 3 4)) (mt_l 6 (mi_aload 1 0))))) (mt_n 13 (mt_n 10 (mt_l 7 (mi_get 3 0)) (mt_l 10 (mi_callV 1 19 1))) (mt_n 16 (mt_l 13 (mi_icmp (fun x y : Int32 => y ≤ x) 144)) (mt_n 17 (mt_l 16 (mi_aload 1 0)) (mt_l 17 (mi_get 3 0)))))) (mt_n 29 (mt_n 24 (mt_n 21 (mt_l 20 (mi_aload 1 0)) (mt_l 21 (mi_get 3 4))) (mt_n 27 (mt_l 24 (mi_callV 1 28 2)) (mt_n 28 (mt_l 27 (mi_istore 1 2)) (mt_l 28 (mi_iload 1 2))))) (mt_n 34 (mt_n 31 (mt_l 29 (mi_pure 2 (mo_push (.int 92)))) (mt_l 31 (mi_icmp (fun x y : Int32 => ¬ x = y) 38))) (mt_n 35 (mt_l 34 (mi_pure 1 (mo_push (.int 1)))) (mt_n 38 (mt_l 35 (mi_goto 39)) (mt_l 38 (mi_pure 1 (mo_push (.int 0))))))))) (mt_n 55 (mt_n 46 (mt_n 41 (mt_n 40 (mt_l 39 (mi_istore 1 3)) (mt_l 40 (mi_iload 1 3))) (mt_n 44 (mt_l 41 (mi_if (fun x : Int32 => x = 0) 66)) (mt_n 45 (mt_l 44 (mi_aload 1 0)) (mt_l 45 (mi_pure 1 mo_dup))))) (mt_n 50 (mt_n 49 (mt_l 46 (mi_get 3 4)) (mt_l 49 (mi_pure 1 (mo_push (.int 1))))) (mt_n 51 (mt_l 50 (mi_pure 1 (mo_ii (fun x y => x + y)))) (mt_n 54 (mt_l 51 (mi_put 3 4 (.int))) (mt_l 54 (mi_aload 1 0)))))) (mt_n 66 (mt_n 59 (mt_n 58 (mt_l 55 (mi_get 3 0)) (mt_l 58 (mi_aload 1 0))) (mt_n 62 (mt_l 59 (mi_get 3 4)) (mt_n 65 (mt_l 62 (mi_callV 1 28 2)) (mt_l 65 (mi_istore 1 2))))) (mt_n 71 (mt_n 67 (mt_l 66 (mi_iload 1 2)) (mt_n 68 (mt_l 67 (mi_pure 1 (mo_push (.int (-1))))) (mt_l 68 (mi_icmp (fun x y : Int32 => x = y) 78)))) (mt_n 72 (mt_l 71 (mi_iload 1 2)) (mt_n 75 (mt_l 72 (mi_callS 30 1)) (mt_l 75 (mi_if (fun x : Int32 => x = 0) 87)))))))) (mt_n 114 (mt_n 97 (mt_n 87 (mt_n 80 (mt_n 79 (mt_l 78 (mi_aload 1 0)) (mt_l 79 (mi_aload 1 0))) (mt_n 83 (mt_l 80 (mi_get 3 4)) (mt_n 86 (mt_l 83 (mi_callV 3 32 2)) (mt_l 86 (mi_zret))))) (mt_n 91 (mt_n 88 (mt_l 87 (mi_iload 1 3)) (mt_l 88 (mi_if (fun x : Int32 => ¬ x = 0) 103))) (mt_n 92 (mt_l 91 (mi_iload 1 2)) (mt_n 94 (mt_l 92 (mi_pure 2 (mo_push (.int 47)))) (mt_l 94 (mi_icmp (fun x y : Int32 => ¬ x = y) 103)))))) (mt_n 104 (mt_n 101 (mt_n 98 (mt_l 97 (mi_iload 1 1)) (mt_l 98 (mi_if (fun x : Int32 => ¬ x = 0) 103))) (mt_n 102 (mt_l 101 (mi_pure 1 (mo_push (.int 1)))) (mt_n 103 (mt_l 102 (mi_zret)) (mt_l 103 (mi_iload 1 3))))) (mt_n 108 (mt_n 107 (mt_l 104 (mi_if (fun x : Int32 => ¬ x = 0) 131)) (mt_l 107 (mi_iload 1 2))) (mt_n 110 (mt_l 108 (mi_pure 2 (mo_push (.int 91)))) (mt_n 113 (mt_l 110 (mi_icmp (fun x y : Int32 => x = y) 119)) (mt_l 113 (mi_iload 1 2))))))) (mt_n 132 (mt_n 125 (mt_n 119 (mt_n 116 (mt_l 114 (mi_pure 2 (mo_push (.int 93)))) (mt_l 116 (mi_icmp (fun x y : Int32 => ¬ x = y) 131))) (mt_n 120 (mt_l 119 (mi_iload 1 2)) (mt_n 122 (mt_l 120 (mi_pure 2 (mo_push (.int 91)))) (mt_l 122 (mi_icmp (fun x y : Int32 => ¬ x = y) 129))))) (mt_n 129 (mt_n 126 (mt_l 125 (mi_pure 1 (mo_push (.int 1)))) (mt_l 126 (mi_goto 130))) (mt_n 130 (mt_l 129 (mi_pure 1 (mo_push (.int 0)))) (mt_n 131 (mt_l 130 (mi_istore 1 1)) (mt_l 131 (mi_aload 1 0)))))) (mt_n 141 (mt_n 136 (mt_n 133 (mt_l 132 (mi_pure 1 mo_dup)) (mt_l 133 (mi_get 3 4))) (mt_n 137 (mt_l 136 (mi_pure 1 (mo_push (.int 1)))) (mt_n 138 (mt_l 137 (mi_pure 1 (mo_ii (fun x y => x + y)))) (mt_l 138 (mi_put 3 4 (.int)))))) (mt_n 146 (mt_n 144 (mt_l 141 (mi_goto 2)) (mt_n 145 (mt_l 144 (mi_aload 1 0)) (mt_l 145 (mi_aload 1 0)))) (mt_n 149 (mt_l 146 (mi_get 3 4)) (mt_n 152 (mt_l 149 (mi_callV 3 32 2)) (mt_l 152 (mi_zret))))))))
theorem ms_96 (L : Nat) (xs : Nat → Int32) : mt_ok (mg L xs) 96 (mt_96) := mt_ok.n (mt_ok.n (mt_ok.n (mt_ok.n (mt_ok.n (mt_ok.n (mt_ok.l (mn_iconst dd_96_0 (by decide)) (mi_pure_mn 1 _)) (mt_ok.l (mn_istore_n (k := 1) dd_96_1 rfl (Nat.le_of_ble_eq_true rfl)) (mi_istore_mn 1 1))) (mt_ok.n (mt_ok.l (mn_aload_n (k := 0) dd_96_2 rfl) (mi_aload_mn 1 0)) (mt_ok.n (mt_ok.l (mn_get (C := "TokenScanner$Reader") (T := mf_T3) (N := 6) dd_96_3 rfl (Nat.le_of_ble_eq_true rfl) mf_i3 hw_187) (mi_get_mn 3 4)) (mt_ok.l (mn_aload_n (k := 0) dd_96_6 rfl) (mi_aload_mn 1 0))))) (mt_ok.n (mt_ok.n (mt_ok.l (mn_get (C := "TokenScanner$Reader") (T := mf_T3) (N := 6) dd_96_7 rfl (Nat.le_of_ble_eq_true rfl) mf_i3 hw_183) (mi_get_mn 3 0)) (mt_ok.l (mn_callV (y := 96) (pc := 10) (z := 19) (mg_Ok L xs) (C := "TokenScanner$Source") (T0 := mf_T1) (N := 2) dd_96_10 rfl (mv_Hn.none rfl (fun _ => rfl)) (mc_96_19 L xs) hw_380 hw_350 hw_351 mq_19.1) (mi_callV_mn 1 19 1))) (mt_ok.n (mt_ok.l (mn_icmp_ge dd_96_13 (by decide)) (mi_icmp_mn _ _)) (mt_ok.n (mt_ok.l (mn_aload_n (k := 0) dd_96_16 rfl) (mi_aload_mn 1 0)) (mt_ok.l (mn_get (C := "TokenScanner$Reader") (T := mf_T3) (N := 6) dd_96_17 rfl (Nat.le_of_ble_eq_true rfl) mf_i3 hw_183) (mi_get_mn 3 0)))))) (mt_ok.n (mt_ok.n (mt_ok.n (mt_ok.l (mn_aload_n (k := 0) dd_96_20 rfl) (mi_aload_mn 1 0)) (mt_ok.l (mn_get (C := "TokenScanner$Reader") (T := mf_T3) (N := 6) dd_96_21 rfl (Nat.le_of_ble_eq_true rfl) mf_i3 hw_187) (mi_get_mn 3 4))) (mt_ok.n (mt_ok.l (mn_callV (y := 96) (pc := 24) (z := 28) (mg_Ok L xs) (C := "TokenScanner$Source") (T0 := mf_T1) (N := 2) dd_96_24 rfl (mv_Hn.none rfl (fun _ => rfl)) (mc_96_28 L xs) hw_381 hw_382 hw_383 mq_28.1) (mi_callV_mn 1 28 2)) (mt_ok.n (mt_ok.l (mn_istore_n (k := 2) dd_96_27 rfl (Nat.le_of_ble_eq_true rfl)) (mi_istore_mn 1 2)) (mt_ok.l (mn_iload_n (k := 2) dd_96_28 rfl) (mi_iload_mn 1 2))))) (mt_ok.n (mt_ok.n (mt_ok.l (mn_bipush dd_96_29 (by decide)) (mi_pure_mn 2 _)) (mt_ok.l (mn_icmp_ne dd_96_31 (by decide)) (mi_icmp_mn _ _))) (mt_ok.n (mt_ok.l (mn_iconst dd_96_34 (by decide)) (mi_pure_mn 1 _)) (mt_ok.n (mt_ok.l (mn_goto dd_96_35 (by decide)) (mi_goto_mn 39)) (mt_ok.l (mn_iconst dd_96_38 (by decide)) (mi_pure_mn 1 _))))))) (mt_ok.n (mt_ok.n (mt_ok.n (mt_ok.n (mt_ok.l (mn_istore_n (k := 3) dd_96_39 rfl (Nat.le_of_ble_eq_true rfl)) (mi_istore_mn 1 3)) (mt_ok.l (mn_iload_n (k := 3) dd_96_40 rfl) (mi_iload_mn 1 3))) (mt_ok.n (mt_ok.l (mn_if_eq dd_96_41 (by decide)) (mi_if_mn _ _)) (mt_ok.n (mt_ok.l (mn_aload_n (k := 0) dd_96_44 rfl) (mi_aload_mn 1 0)) (mt_ok.l (mn_dup dd_96_45) (mi_pure_mn 1 _))))) (mt_ok.n (mt_ok.n (mt_ok.l (mn_get (C := "TokenScanner$Reader") (T := mf_T3) (N := 6) dd_96_46 rfl (Nat.le_of_ble_eq_true rfl) mf_i3 hw_187) (mi_get_mn 3 4)) (mt_ok.l (mn_iconst dd_96_49 (by decide)) (mi_pure_mn 1 _))) (mt_ok.n (mt_ok.l (mn_iadd dd_96_50) (mi_pure_mn 1 _)) (mt_ok.n (mt_ok.l (mn_put (C := "TokenScanner$Reader") (T := mf_T3) (N := 6) (host := "") mf_y3 dd_96_51 rfl (Nat.le_of_ble_eq_true rfl) mf_i3 mf_o3 mf_n3 hw_187 rfl (by decide +kernel)) (mi_put_mn 3 4 _)) (mt_ok.l (mn_aload_n (k := 0) dd_96_54 rfl) (mi_aload_mn 1 0)))))) (mt_ok.n (mt_ok.n (mt_ok.n (mt_ok.l (mn_get (C := "TokenScanner$Reader") (T := mf_T3) (N := 6) dd_96_55 rfl (Nat.le_of_ble_eq_true rfl) mf_i3 hw_183) (mi_get_mn 3 0)) (mt_ok.l (mn_aload_n (k := 0) dd_96_58 rfl) (mi_aload_mn 1 0))) (mt_ok.n (mt_ok.l (mn_get (C := "TokenScanner$Reader") (T := mf_T3) (N := 6) dd_96_59 rfl (Nat.le_of_ble_eq_true rfl) mf_i3 hw_187) (mi_get_mn 3 4)) (mt_ok.n (mt_ok.l (mn_callV (y := 96) (pc := 62) (z := 28) (mg_Ok L xs) (C := "TokenScanner$Source") (T0 := mf_T1) (N := 2) dd_96_62 rfl (mv_Hn.none rfl (fun _ => rfl)) (mc_96_28 L xs) hw_381 hw_382 hw_383 mq_28.1) (mi_callV_mn 1 28 2)) (mt_ok.l (mn_istore_n (k := 2) dd_96_65 rfl (Nat.le_of_ble_eq_true rfl)) (mi_istore_mn 1 2))))) (mt_ok.n (mt_ok.n (mt_ok.l (mn_iload_n (k := 2) dd_96_66 rfl) (mi_iload_mn 1 2)) (mt_ok.n (mt_ok.l (mn_iconst dd_96_67 (by decide)) (mi_pure_mn 1 _)) (mt_ok.l (mn_icmp_eq dd_96_68 (by decide)) (mi_icmp_mn _ _)))) (mt_ok.n (mt_ok.l (mn_iload_n (k := 2) dd_96_71 rfl) (mi_iload_mn 1 2)) (mt_ok.n (mt_ok.l (mn_callS (y := 96) (pc := 72) (z := 30) (mg_Ok L xs) dd_96_72 (mv_Hn.none rfl (fun _ => rfl)) (mc_96_30 L xs) hw_388 hw_389 mq_30.1) (mi_callS_mn 30 1)) (mt_ok.l (mn_if_eq dd_96_75 (by decide)) (mi_if_mn _ _)))))))) (mt_ok.n (mt_ok.n (mt_ok.n (mt_ok.n (mt_ok.n (mt_ok.l (mn_aload_n (k := 0) dd_96_78 rfl) (mi_aload_mn 1 0)) (mt_ok.l (mn_aload_n (k := 0) dd_96_79 rfl) (mi_aload_mn 1 0))) (mt_ok.n (mt_ok.l (mn_get (C := "TokenScanner$Reader") (T := mf_T3) (N := 6) dd_96_80 rfl (Nat.le_of_ble_eq_true rfl) mf_i3 hw_187) (mi_get_mn 3 4)) (mt_ok.n (mt_ok.l (mn_callV (y := 96) (pc := 83) (z := 32) (mg_Ok L xs) (C := "TokenScanner$Reader") (T0 := mf_T3) (N := 6) dd_96_83 rfl (mv_Hn.none rfl (fun _ => rfl)) (mc_96_32 L xs) hw_399 hw_401 hs_4 mq_32.1) (mi_callV_mn 3 32 2)) (mt_ok.l (mn_zret dd_96_86 rfl) (mi_zret_mn))))) (mt_ok.n (mt_ok.n (mt_ok.l (mn_iload_n (k := 3) dd_96_87 rfl) (mi_iload_mn 1 3)) (mt_ok.l (mn_if_ne dd_96_88 (by decide)) (mi_if_mn _ _))) (mt_ok.n (mt_ok.l (mn_iload_n (k := 2) dd_96_91 rfl) (mi_iload_mn 1 2)) (mt_ok.n (mt_ok.l (mn_bipush dd_96_92 (by decide)) (mi_pure_mn 2 _)) (mt_ok.l (mn_icmp_ne dd_96_94 (by decide)) (mi_icmp_mn _ _)))))) (mt_ok.n (mt_ok.n (mt_ok.n (mt_ok.l (mn_iload_n (k := 1) dd_96_97 rfl) (mi_iload_mn 1 1)) (mt_ok.l (mn_if_ne dd_96_98 (by decide)) (mi_if_mn _ _))) (mt_ok.n (mt_ok.l (mn_iconst dd_96_101 (by decide)) (mi_pure_mn 1 _)) (mt_ok.n (mt_ok.l (mn_zret dd_96_102 rfl) (mi_zret_mn)) (mt_ok.l (mn_iload_n (k := 3) dd_96_103 rfl) (mi_iload_mn 1 3))))) (mt_ok.n (mt_ok.n (mt_ok.l (mn_if_ne dd_96_104 (by decide)) (mi_if_mn _ _)) (mt_ok.l (mn_iload_n (k := 2) dd_96_107 rfl) (mi_iload_mn 1 2))) (mt_ok.n (mt_ok.l (mn_bipush dd_96_108 (by decide)) (mi_pure_mn 2 _)) (mt_ok.n (mt_ok.l (mn_icmp_eq dd_96_110 (by decide)) (mi_icmp_mn _ _)) (mt_ok.l (mn_iload_n (k := 2) dd_96_113 rfl) (mi_iload_mn 1 2))))))) (mt_ok.n (mt_ok.n (mt_ok.n (mt_ok.n (mt_ok.l (mn_bipush dd_96_114 (by decide)) (mi_pure_mn 2 _)) (mt_ok.l (mn_icmp_ne dd_96_116 (by decide)) (mi_icmp_mn _ _))) (mt_ok.n (mt_ok.l (mn_iload_n (k := 2) dd_96_119 rfl) (mi_iload_mn 1 2)) (mt_ok.n (mt_ok.l (mn_bipush dd_96_120 (by decide)) (mi_pure_mn 2 _)) (mt_ok.l (mn_icmp_ne dd_96_122 (by decide)) (mi_icmp_mn _ _))))) (mt_ok.n (mt_ok.n (mt_ok.l (mn_iconst dd_96_125 (by decide)) (mi_pure_mn 1 _)) (mt_ok.l (mn_goto dd_96_126 (by decide)) (mi_goto_mn 130))) (mt_ok.n (mt_ok.l (mn_iconst dd_96_129 (by decide)) (mi_pure_mn 1 _)) (mt_ok.n (mt_ok.l (mn_istore_n (k := 1) dd_96_130 rfl (Nat.le_of_ble_eq_true rfl)) (mi_istore_mn 1 1)) (mt_ok.l (mn_aload_n (k := 0) dd_96_131 rfl) (mi_aload_mn 1 0)))))) (mt_ok.n (mt_ok.n (mt_ok.n (mt_ok.l (mn_dup dd_96_132) (mi_pure_mn 1 _)) (mt_ok.l (mn_get (C := "TokenScanner$Reader") (T := mf_T3) (N := 6) dd_96_133 rfl (Nat.le_of_ble_eq_true rfl) mf_i3 hw_187) (mi_get_mn 3 4))) (mt_ok.n (mt_ok.l (mn_iconst dd_96_136 (by decide)) (mi_pure_mn 1 _)) (mt_ok.n (mt_ok.l (mn_iadd dd_96_137) (mi_pure_mn 1 _)) (mt_ok.l (mn_put (C := "TokenScanner$Reader") (T := mf_T3) (N := 6) (host := "") mf_y3 dd_96_138 rfl (Nat.le_of_ble_eq_true rfl) mf_i3 mf_o3 mf_n3 hw_187 rfl (by decide +kernel)) (mi_put_mn 3 4 _))))) (mt_ok.n (mt_ok.n (mt_ok.l (mn_goto dd_96_141 (by decide)) (mi_goto_mn 2)) (mt_ok.n (mt_ok.l (mn_aload_n (k := 0) dd_96_144 rfl) (mi_aload_mn 1 0)) (mt_ok.l (mn_aload_n (k := 0) dd_96_145 rfl) (mi_aload_mn 1 0)))) (mt_ok.n (mt_ok.l (mn_get (C := "TokenScanner$Reader") (T := mf_T3) (N := 6) dd_96_146 rfl (Nat.le_of_ble_eq_true rfl) mf_i3 hw_187) (mi_get_mn 3 4)) (mt_ok.n (mt_ok.l (mn_callV (y := 96) (pc := 149) (z := 32) (mg_Ok L xs) (C := "TokenScanner$Reader") (T0 := mf_T3) (N := 6) dd_96_149 rfl (mv_Hn.none rfl (fun _ => rfl)) (mc_96_32 L xs) hw_399 hw_401 hs_4 mq_32.1) (mi_callV_mn 3 32 2)) (mt_ok.l (mn_zret dd_96_152 rfl) (mi_zret_mn))))))))
theorem dd_97_0 : decode prog_2_method_4_code 0 = .ok (.aload_n 0, 1) := by decide +kernel
theorem dd_97_1 : decode prog_2_method_4_code 1 = .ok (.getfield 38, 3) := by decide +kernel
theorem dd_97_4 : decode prog_2_method_4_code 4 = .ok (.iconst 5, 1) := by decide +kernel
theorem dd_97_5 : decode prog_2_method_4_code 5 = .ok (.putfield 83, 3) := by decide +kernel
theorem dd_97_8 : decode prog_2_method_4_code 8 = .ok (.aload_n 0, 1) := by decide +kernel
theorem dd_97_9 : decode prog_2_method_4_code 9 = .ok (.getfield 38, 3) := by decide +kernel
theorem dd_97_12 : decode prog_2_method_4_code 12 = .ok (.iconst 0, 1) := by decide +kernel
theorem dd_97_13 : decode prog_2_method_4_code 13 = .ok (.putfield 86, 3) := by decide +kernel
theorem dd_97_16 : decode prog_2_method_4_code 16 = .ok (.aload_n 0, 1) := by decide +kernel
theorem dd_97_17 : decode prog_2_method_4_code 17 = .ok (.aload_n 0, 1) := by decide +kernel
theorem dd_97_18 : decode prog_2_method_4_code 18 = .ok (.getfield 38, 3) := by decide +kernel
theorem dd_97_21 : decode prog_2_method_4_code 21 = .ok (.getfield 51, 3) := by decide +kernel
theorem dd_97_24 : decode prog_2_method_4_code 24 = .ok (.iconst 1, 1) := by decide +kernel
theorem dd_97_25 : decode prog_2_method_4_code 25 = .ok (.iadd, 1) := by decide +kernel
theorem dd_97_26 : decode prog_2_method_4_code 26 = .ok (.putfield 27, 3) := by decide +kernel
theorem dd_97_29 : decode prog_2_method_4_code 29 = .ok (.aload_n 0, 1) := by decide +kernel
theorem dd_97_30 : decode prog_2_method_4_code 30 = .ok (.invokevirtual 89, 3) := by decide +kernel
theorem dd_97_33 : decode prog_2_method_4_code 33 = .ok (.ifCond .ne 5, 3) := by decide +kernel
theorem dd_97_36 : decode prog_2_method_4_code 36 = .ok (.iconst 0, 1) := by decide +kernel
theorem dd_97_37 : decode prog_2_method_4_code 37 = .ok (.ireturn, 1) := by decide +kernel
theorem dd_97_38 : decode prog_2_method_4_code 38 = .ok (.aload_n 0, 1) := by decide +kernel
theorem dd_97_39 : decode prog_2_method_4_code 39 = .ok (.dup, 1) := by decide +kernel
theorem dd_97_40 : decode prog_2_method_4_code 40 = .ok (.getfield 27, 3) := by decide +kernel
theorem dd_97_43 : decode prog_2_method_4_code 43 = .ok (.iconst 1, 1) := by decide +kernel
theorem dd_97_44 : decode prog_2_method_4_code 44 = .ok (.iadd, 1) := by decide +kernel
theorem dd_97_45 : decode prog_2_method_4_code 45 = .ok (.putfield 27, 3) := by decide +kernel
theorem dd_97_48 : decode prog_2_method_4_code 48 = .ok (.aload_n 0, 1) := by decide +kernel
theorem dd_97_49 : decode prog_2_method_4_code 49 = .ok (.getfield 27, 3) := by decide +kernel
theorem dd_97_52 : decode prog_2_method_4_code 52 = .ok (.aload_n 0, 1) := by decide +kernel
theorem dd_97_53 : decode prog_2_method_4_code 53 = .ok (.getfield 34, 3) := by decide +kernel
theorem dd_97_56 : decode prog_2_method_4_code 56 = .ok (.invokevirtual 92, 3) := by decide +kernel
theorem dd_97_59 : decode prog_2_method_4_code 59 = .ok (.if_icmp .ge 33, 3) := by decide +kernel
theorem dd_97_62 : decode prog_2_method_4_code 62 = .ok (.aload_n 0, 1) := by decide +kernel
theorem dd_97_63 : decode prog_2_method_4_code 63 = .ok (.getfield 34, 3) := by decide +kernel
theorem dd_97_66 : decode prog_2_method_4_code 66 = .ok (.aload_n 0, 1) := by decide +kernel
theorem dd_97_67 : decode prog_2_method_4_code 67 = .ok (.getfield 27, 3) := by decide +kernel
theorem dd_97_70 : decode prog_2_method_4_code 70 = .ok (.invokevirtual 54, 3) := by decide +kernel
theorem dd_97_73 : decode prog_2_method_4_code 73 = .ok (.invokestatic 96, 3) := by decide +kernel
theorem dd_97_76 : decode prog_2_method_4_code 76 = .ok (.ifCond .eq 16, 3) := by decide +kernel
theorem dd_97_79 : decode prog_2_method_4_code 79 = .ok (.aload_n 0, 1) := by decide +kernel
theorem dd_97_80 : decode prog_2_method_4_code 80 = .ok (.dup, 1) := by decide +kernel
theorem dd_97_81 : decode prog_2_method_4_code 81 = .ok (.getfield 27, 3) := by decide +kernel
theorem dd_97_84 : decode prog_2_method_4_code 84 = .ok (.iconst 1, 1) := by decide +kernel
theorem dd_97_85 : decode prog_2_method_4_code 85 = .ok (.iadd, 1) := by decide +kernel
theorem dd_97_86 : decode prog_2_method_4_code 86 = .ok (.putfield 27, 3) := by decide +kernel
theorem dd_97_89 : decode prog_2_method_4_code 89 = .ok (.goto (-41), 3) := by decide +kernel
theorem dd_97_92 : decode prog_2_method_4_code 92 = .ok (.aload_n 0, 1) := by decide +kernel
theorem dd_97_93 : decode prog_2_method_4_code 93 = .ok (.getfield 34, 3) := by decide +kernel
theorem dd_97_96 : decode prog_2_method_4_code 96 = .ok (.aload_n 0, 1) := by decide +kernel
theorem dd_97_97 : decode prog_2_method_4_code 97 = .ok (.getfield 27, 3) := by decide +kernel
theorem dd_97_100 : decode prog_2_method_4_code 100 = .ok (.invokevirtual 54, 3) := by decide +kernel
theorem dd_97_103 : decode prog_2_method_4_code 103 = .ok (.bipush 92, 2) := by decide +kernel
theorem dd_97_105 : decode prog_2_method_4_code 105 = .ok (.if_icmp .ne 12, 3) := by decide +kernel
theorem dd_97_108 : decode prog_2_method_4_code 108 = .ok (.aload_n 0, 1) := by decide +kernel
theorem dd_97_109 : decode prog_2_method_4_code 109 = .ok (.aload_n 0, 1) := by decide +kernel
theorem dd_97_110 : decode prog_2_method_4_code 110 = .ok (.getfield 27, 3) := by decide +kernel
theorem dd_97_113 : decode prog_2_method_4_code 113 = .ok (.invokevirtual 99, 3) := by decide +kernel
theorem dd_97_116 : decode prog_2_method_4_code 116 = .ok (.ireturn, 1) := by decide +kernel
theorem dd_97_117 : decode prog_2_method_4_code 117 = .ok (.aload_n 0, 1) := by decide +kernel
theorem dd_97_118 : decode prog_2_method_4_code 118 = .ok (.invokevirtual 102, 3) := by decide +kernel
theorem dd_97_121 : decode prog_2_method_4_code 121 = .ok (.aload_n 0, 1) := by decide +kernel
theorem dd_97_122 : decode prog_2_method_4_code 122 = .ok (.getfield 38, 3) := by decide +kernel
theorem dd_97_125 : decode prog_2_method_4_code 125 = .ok (.aload_n 0, 1) := by decide +kernel
theorem dd_97_126 : decode prog_2_method_4_code 126 = .ok (.getfield 27, 3) := by decide +kernel
theorem dd_97_129 : decode prog_2_method_4_code 129 = .ok (.putfield 80, 3) := by decide +kernel
theorem dd_97_132 : decode prog_2_method_4_code 132 = .ok (.iconst 1, 1) := by decide +kernel
theorem dd_97_133 : decode prog_2_method_4_code 133 = .ok (.ireturn, 1) := by decide +kernel
def mt_97 : Nat → Option mv_S := mt_n 63 (mt_n 30 (mt_n 16 (mt_n 8 (mt_n 4 (mt_n 1 (mt_l 0 (mi_aload 1 0)) (mt_l 1 (mi_get 3 1))) (mt_n 5 (mt_l 4 (mi_pure 1 (mo_push (.int 5)))) (mt_l 5 (mi_put 2 0 (.int))))) (mt_n 12 (mt_n 9 (mt_l 8 (mi_aload 1 0)) (mt_l 9 (mi_get 3 1))) (mt_n 13 (mt_l 12 (mi_pure 1 (mo_push (.int 0)))) (mt_l 13 (mi_put 2 6 (.int)))))) (mt_n 24 (mt_n 18 (mt_n 17 (mt_l 16 (mi_aload 1 0)) (mt_l 17 (mi_aload 1 0))) (mt_n 21 (mt_l 18 (mi_get 3 1)) (mt_l 21 (mi_get 2 1)))) (mt_n 26 (mt_n 25 (mt_l 24 (mi_pure 1 (mo_push (.int 1)))) (mt_l 25 (mi_pure 1 (mo_ii (fun x y => x + y))))) (mt_n 29 (mt_l 26 (mi_put 3 4 (.int))) (mt_l 29 (mi_aload 1 0)))))) (mt_n 44 (mt_n 38 (mt_n 36 (mt_n 33 (mt_l 30 (mi_callV 3 96 1)) (mt_l 33 (mi_if (fun x : Int32 => ¬ x = 0) 38))) (mt_n 37 (mt_l 36 (mi_pure 1 (mo_push (.int 0)))) (mt_l 37 (mi_zret)))) (mt_n 40 (mt_n 39 (mt_l 38 (mi_aload 1 0)) (mt_l 39 (mi_pure 1 mo_dup))) (mt_n 43 (mt_l 40 (mi_get 3 4)) (mt_l 43 (mi_pure 1 (mo_push (.int 1))))))) (mt_n 52 (mt_n 48 (mt_n 45 (mt_l 44 (mi_pure 1 (mo_ii (fun x y => x + y)))) (mt_l 45 (mi_put 3 4 (.int)))) (mt_n 49 (mt_l 48 (mi_aload 1 0)) (mt_l 49 (mi_get 3 4)))) (mt_n 56 (mt_n 53 (mt_l 52 (mi_aload 1 0)) (mt_l 53 (mi_get 3 0))) (mt_n 59 (mt_l 56 (mi_callV 1 19 1)) (mt_n 62 (mt_l 59 (mi_icmp (fun x y : Int32 => y ≤ x) 92)) (mt_l 62 (mi_aload 1 0)))))))) (mt_n 100 (mt_n 81 (mt_n 73 (mt_n 67 (mt_n 66 (mt_l 63 (mi_get 3 0)) (mt_l 66 (mi_aload 1 0))) (mt_n 70 (mt_l 67 (mi_get 3 4)) (mt_l 70 (mi_callV 1 28 2)))) (mt_n 79 (mt_n 76 (mt_l 73 (mi_callS 39 1)) (mt_l 76 (mi_if (fun x : Int32 => x = 0) 92))) (mt_n 80 (mt_l 79 (mi_aload 1 0)) (mt_l 80 (mi_pure 1 mo_dup))))) (mt_n 89 (mt_n 85 (mt_n 84 (mt_l 81 (mi_get 3 4)) (mt_l 84 (mi_pure 1 (mo_push (.int 1))))) (mt_n 86 (mt_l 85 (mi_pure 1 (mo_ii (fun x y => x + y)))) (mt_l 86 (mi_put 3 4 (.int))))) (mt_n 93 (mt_n 92 (mt_l 89 (mi_goto 48)) (mt_l 92 (mi_aload 1 0))) (mt_n 96 (mt_l 93 (mi_get 3 0)) (mt_n 97 (mt_l 96 (mi_aload 1 0)) (mt_l 97 (mi_get 3 4))))))) (mt_n 117 (mt_n 109 (mt_n 105 (mt_n 103 (mt_l 100 (mi_callV 1 28 2)) (mt_l 103 (mi_pure 2 (mo_push (.int 92))))) (mt_n 108 (mt_l 105 (mi_icmp (fun x y : Int32 => ¬ x = y) 117)) (mt_l 108 (mi_aload 1 0)))) (mt_n 113 (mt_n 110 (mt_l 109 (mi_aload 1 0)) (mt_l 110 (mi_get 3 4))) (mt_n 116 (mt_l 113 (mi_callV 3 32 2)) (mt_l 116 (mi_zret))))) (mt_n 125 (mt_n 121 (mt_n 118 (mt_l 117 (mi_aload 1 0)) (mt_l 118 (mi_callV 3 50 1))) (mt_n 122 (mt_l 121 (mi_aload 1 0)) (mt_l 122 (mi_get 3 1)))) (mt_n 129 (mt_n 126 (mt_l 125 (mi_aload 1 0)) (mt_l 126 (mi_get 3 4))) (mt_n 132 (mt_l 129 (mi_put 2 2 (.int))) (mt_n 133 (mt_l 132 (mi_pure 1 (mo_push (.int 1)))) (mt_l 133 (mi_zret))))))))
theorem ms_97 (L : Nat) (xs : Nat → Int32) : mt_ok (mg L xs) 97 (mt_97) := mt_ok.n (mt_ok.n (mt_ok.n (mt_ok.n (mt_ok.n (mt_ok.n (mt_ok.l (mn_aload_n (k := 0) dd_97_0 rfl) (mi_aload_mn 1 0)) (mt_ok.l (mn_get (C := "TokenScanner$Reader") (T := mf_T3) (N := 6) dd_97_1 rfl (Nat.le_of_ble_eq_true rfl) mf_i3 hw_184) (mi_get_mn 3 1))) (mt_ok.n (mt_ok.l (mn_iconst dd_97_4 (by decide)) (mi_pure_mn 1 _)) (mt_ok.l (mn_putN (C := "TokenScanner$Token") (T := mf_T2) (N := 9) mf_y2 dd_97_5 rfl (Nat.le_of_ble_eq_true rfl) mf_i2 mf_o2 mf_n2 hw_51 rfl (by decide +kernel)) (mi_put_mn 2 0 _)))) (mt_ok.n (mt_ok.n (mt_ok.l (mn_aload_n (k := 0) dd_97_8 rfl) (mi_aload_mn 1 0)) (mt_ok.l (mn_get (C := "TokenScanner$Reader") (T := mf_T3) (N := 6) dd_97_9 rfl (Nat.le_of_ble_eq_true rfl) mf_i3 hw_184) (mi_get_mn 3 1))) (mt_ok.n (mt_ok.l (mn_iconst dd_97_12 (by decide)) (mi_pure_mn 1 _)) (mt_ok.l (mn_putN (C := "TokenScanner$Token") (T := mf_T2) (N := 9) mf_y2 dd_97_13 rfl (Nat.le_of_ble_eq_true rfl) mf_i2 mf_o2 mf_n2 hw_69 rfl (by decide +kernel)) (mi_put_mn 2 6 _))))) (mt_ok.n (mt_ok.n (mt_ok.n (mt_ok.l (mn_aload_n (k := 0) dd_97_16 rfl) (mi_aload_mn 1 0)) (mt_ok.l (mn_aload_n (k := 0) dd_97_17 rfl) (mi_aload_mn 1 0))) (mt_ok.n (mt_ok.l (mn_get (C := "TokenScanner$Reader") (T := mf_T3) (N := 6) dd_97_18 rfl (Nat.le_of_ble_eq_true rfl) mf_i3 hw_184) (mi_get_mn 3 1)) (mt_ok.l (mn_getN (C := "TokenScanner$Token") (T := mf_T2) (N := 9) dd_97_21 rfl (Nat.le_of_ble_eq_true rfl) mf_i2 hw_54) (mi_get_mn 2 1)))) (mt_ok.n (mt_ok.n (mt_ok.l (mn_iconst dd_97_24 (by decide)) (mi_pure_mn 1 _)) (mt_ok.l (mn_iadd dd_97_25) (mi_pure_mn 1 _))) (mt_ok.n (mt_ok.l (mn_put (C := "TokenScanner$Reader") (T := mf_T3) (N := 6) (host := "") mf_y3 dd_97_26 rfl (Nat.le_of_ble_eq_true rfl) mf_i3 mf_o3 mf_n3 hw_187 rfl (by decide +kernel)) (mi_put_mn 3 4 _)) (mt_ok.l (mn_aload_n (k := 0) dd_97_29 rfl) (mi_aload_mn 1 0)))))) (mt_ok.n (mt_ok.n (mt_ok.n (mt_ok.n (mt_ok.l (mn_callV (y := 97) (pc := 30) (z := 96) (mg_Ok L xs) (C := "TokenScanner$Reader") (T0 := mf_T3) (N := 6) dd_97_30 rfl (mv_Hn.none rfl (fun _ => rfl)) (mc_97_96 L xs) hw_537 hw_539 hs_23 mq_96.1) (mi_callV_mn 3 96 1)) (mt_ok.l (mn_if_ne dd_97_33 (by decide)) (mi_if_mn _ _))) (mt_ok.n (mt_ok.l (mn_iconst dd_97_36 (by decide)) (mi_pure_mn 1 _)) (mt_ok.l (mn_zret dd_97_37 rfl) (mi_zret_mn)))) (mt_ok.n (mt_ok.n (mt_ok.l (mn_aload_n (k := 0) dd_97_38 rfl) (mi_aload_mn 1 0)) (mt_ok.l (mn_dup dd_97_39) (mi_pure_mn 1 _))) (mt_ok.n (mt_ok.l (mn_get (C := "TokenScanner$Reader") (T := mf_T3) (N := 6) dd_97_40 rfl (Nat.le_of_ble_eq_true rfl) mf_i3 hw_187) (mi_get_mn 3 4)) (mt_ok.l (mn_iconst dd_97_43 (by decide)) (mi_pure_mn 1 _))))) (mt_ok.n (mt_ok.n (mt_ok.n (mt_ok.l (mn_iadd dd_97_44) (mi_pure_mn 1 _)) (mt_ok.l (mn_put (C := "TokenScanner$Reader") (T := mf_T3) (N := 6) (host := "") mf_y3 dd_97_45 rfl (Nat.le_of_ble_eq_true rfl) mf_i3 mf_o3 mf_n3 hw_187 rfl (by decide +kernel)) (mi_put_mn 3 4 _))) (mt_ok.n (mt_ok.l (mn_aload_n (k := 0) dd_97_48 rfl) (mi_aload_mn 1 0)) (mt_ok.l (mn_get (C := "TokenScanner$Reader") (T := mf_T3) (N := 6) dd_97_49 rfl (Nat.le_of_ble_eq_true rfl) mf_i3 hw_187) (mi_get_mn 3 4)))) (mt_ok.n (mt_ok.n (mt_ok.l (mn_aload_n (k := 0) dd_97_52 rfl) (mi_aload_mn 1 0)) (mt_ok.l (mn_get (C := "TokenScanner$Reader") (T := mf_T3) (N := 6) dd_97_53 rfl (Nat.le_of_ble_eq_true rfl) mf_i3 hw_183) (mi_get_mn 3 0))) (mt_ok.n (mt_ok.l (mn_callV (y := 97) (pc := 56) (z := 19) (mg_Ok L xs) (C := "TokenScanner$Source") (T0 := mf_T1) (N := 2) dd_97_56 rfl (mv_Hn.none rfl (fun _ => rfl)) (mc_97_19 L xs) hw_380 hw_350 hw_351 mq_19.1) (mi_callV_mn 1 19 1)) (mt_ok.n (mt_ok.l (mn_icmp_ge dd_97_59 (by decide)) (mi_icmp_mn _ _)) (mt_ok.l (mn_aload_n (k := 0) dd_97_62 rfl) (mi_aload_mn 1 0)))))))) (mt_ok.n (mt_ok.n (mt_ok.n (mt_ok.n (mt_ok.n (mt_ok.l (mn_get (C := "TokenScanner$Reader") (T := mf_T3) (N := 6) dd_97_63 rfl (Nat.le_of_ble_eq_true rfl) mf_i3 hw_183) (mi_get_mn 3 0)) (mt_ok.l (mn_aload_n (k := 0) dd_97_66 rfl) (mi_aload_mn 1 0))) (mt_ok.n (mt_ok.l (mn_get (C := "TokenScanner$Reader") (T := mf_T3) (N := 6) dd_97_67 rfl (Nat.le_of_ble_eq_true rfl) mf_i3 hw_187) (mi_get_mn 3 4)) (mt_ok.l (mn_callV (y := 97) (pc := 70) (z := 28) (mg_Ok L xs) (C := "TokenScanner$Source") (T0 := mf_T1) (N := 2) dd_97_70 rfl (mv_Hn.none rfl (fun _ => rfl)) (mc_97_28 L xs) hw_381 hw_382 hw_383 mq_28.1) (mi_callV_mn 1 28 2)))) (mt_ok.n (mt_ok.n (mt_ok.l (mn_callS (y := 97) (pc := 73) (z := 39) (mg_Ok L xs) dd_97_73 (mv_Hn.none rfl (fun _ => rfl)) (mc_97_39 L xs) hw_421 hw_422 mq_39.1) (mi_callS_mn 39 1)) (mt_ok.l (mn_if_eq dd_97_76 (by decide)) (mi_if_mn _ _))) (mt_ok.n (mt_ok.l (mn_aload_n (k := 0) dd_97_79 rfl) (mi_aload_mn 1 0)) (mt_ok.l (mn_dup dd_97_80) (mi_pure_mn 1 _))))) (mt_ok.n (mt_ok.n (mt_ok.n (mt_ok.l (mn_get (C := "TokenScanner$Reader") (T := mf_T3) (N := 6) dd_97_81 rfl (Nat.le_of_ble_eq_true rfl) mf_i3 hw_187) (mi_get_mn 3 4)) (mt_ok.l (mn_iconst dd_97_84 (by decide)) (mi_pure_mn 1 _))) (mt_ok.n (mt_ok.l (mn_iadd dd_97_85) (mi_pure_mn 1 _)) (mt_ok.l (mn_put (C := "TokenScanner$Reader") (T := mf_T3) (N := 6) (host := "") mf_y3 dd_97_86 rfl (Nat.le_of_ble_eq_true rfl) mf_i3 mf_o3 mf_n3 hw_187 rfl (by decide +kernel)) (mi_put_mn 3 4 _)))) (mt_ok.n (mt_ok.n (mt_ok.l (mn_goto dd_97_89 (by decide)) (mi_goto_mn 48)) (mt_ok.l (mn_aload_n (k := 0) dd_97_92 rfl) (mi_aload_mn 1 0))) (mt_ok.n (mt_ok.l (mn_get (C := "TokenScanner$Reader") (T := mf_T3) (N := 6) dd_97_93 rfl (Nat.le_of_ble_eq_true rfl) mf_i3 hw_183) (mi_get_mn 3 0)) (mt_ok.n (mt_ok.l (mn_aload_n (k := 0) dd_97_96 rfl) (mi_aload_mn 1 0)) (mt_ok.l (mn_get (C := "TokenScanner$Reader") (T := mf_T3) (N := 6) dd_97_97 rfl (Nat.le_of_ble_eq_true rfl) mf_i3 hw_187) (mi_get_mn 3 4))))))) (mt_ok.n (mt_ok.n (mt_ok.n (mt_ok.n (mt_ok.l (mn_callV (y := 97) (pc := 100) (z := 28) (mg_Ok L xs) (C := "TokenScanner$Source") (T0 := mf_T1) (N := 2) dd_97_100 rfl (mv_Hn.none rfl (fun _ => rfl)) (mc_97_28 L xs) hw_381 hw_382 hw_383 mq_28.1) (mi_callV_mn 1 28 2)) (mt_ok.l (mn_bipush dd_97_103 (by decide)) (mi_pure_mn 2 _))) (mt_ok.n (mt_ok.l (mn_icmp_ne dd_97_105 (by decide)) (mi_icmp_mn _ _)) (mt_ok.l (mn_aload_n (k := 0) dd_97_108 rfl) (mi_aload_mn 1 0)))) (mt_ok.n (mt_ok.n (mt_ok.l (mn_aload_n (k := 0) dd_97_109 rfl) (mi_aload_mn 1 0)) (mt_ok.l (mn_get (C := "TokenScanner$Reader") (T := mf_T3) (N := 6) dd_97_110 rfl (Nat.le_of_ble_eq_true rfl) mf_i3 hw_187) (mi_get_mn 3 4))) (mt_ok.n (mt_ok.l (mn_callV (y := 97) (pc := 113) (z := 32) (mg_Ok L xs) (C := "TokenScanner$Reader") (T0 := mf_T3) (N := 6) dd_97_113 rfl (mv_Hn.none rfl (fun _ => rfl)) (mc_97_32 L xs) hw_399 hw_401 hs_4 mq_32.1) (mi_callV_mn 3 32 2)) (mt_ok.l (mn_zret dd_97_116 rfl) (mi_zret_mn))))) (mt_ok.n (mt_ok.n (mt_ok.n (mt_ok.l (mn_aload_n (k := 0) dd_97_117 rfl) (mi_aload_mn 1 0)) (mt_ok.l (mn_callV (y := 97) (pc := 118) (z := 50) (mg_Ok L xs) (C := "TokenScanner$Reader") (T0 := mf_T3) (N := 6) dd_97_118 rfl (mv_Hn.none rfl (fun _ => rfl)) (mc_97_50 L xs) hw_465 hw_467 hs_14 mq_50.1) (mi_callV_mn 3 50 1))) (mt_ok.n (mt_ok.l (mn_aload_n (k := 0) dd_97_121 rfl) (mi_aload_mn 1 0)) (mt_ok.l (mn_get (C := "TokenScanner$Reader") (T := mf_T3) (N := 6) dd_97_122 rfl (Nat.le_of_ble_eq_true rfl) mf_i3 hw_184) (mi_get_mn 3 1)))) (mt_ok.n (mt_ok.n (mt_ok.l (mn_aload_n (k := 0) dd_97_125 rfl) (mi_aload_mn 1 0)) (mt_ok.l (mn_get (C := "TokenScanner$Reader") (T := mf_T3) (N := 6) dd_97_126 rfl (Nat.le_of_ble_eq_true rfl) mf_i3 hw_187) (mi_get_mn 3 4))) (mt_ok.n (mt_ok.l (mn_putN (C := "TokenScanner$Token") (T := mf_T2) (N := 9) mf_y2 dd_97_129 rfl (Nat.le_of_ble_eq_true rfl) mf_i2 mf_o2 mf_n2 hw_57 rfl (by decide +kernel)) (mi_put_mn 2 2 _)) (mt_ok.n (mt_ok.l (mn_iconst dd_97_132 (by decide)) (mi_pure_mn 1 _)) (mt_ok.l (mn_zret dd_97_133 rfl) (mi_zret_mn))))))))
theorem dd_98_0 : decode prog_1_method_5_code 0 = .ok (.aload_n 0, 1) := by decide +kernel
theorem dd_98_1 : decode prog_1_method_5_code 1 = .ok (.getfield 44, 3) := by decide +kernel
theorem dd_98_4 : decode prog_1_method_5_code 4 = .ok (.ifCond .eq 27, 3) := by decide +kernel
theorem dd_98_7 : decode prog_1_method_5_code 7 = .ok (.aload_n 0, 1) := by decide +kernel
theorem dd_98_8 : decode prog_1_method_5_code 8 = .ok (.getfield 19, 3) := by decide +kernel
theorem dd_98_11 : decode prog_1_method_5_code 11 = .ok (.getfield 97, 3) := by decide +kernel
theorem dd_98_14 : decode prog_1_method_5_code 14 = .ok (.bipush 22, 2) := by decide +kernel
theorem dd_98_16 : decode prog_1_method_5_code 16 = .ok (.if_icmp .eq 25, 3) := by decide +kernel
theorem dd_98_19 : decode prog_1_method_5_code 19 = .ok (.aload_n 0, 1) := by decide +kernel
theorem dd_98_20 : decode prog_1_method_5_code 20 = .ok (.getfield 19, 3) := by decide +kernel
theorem dd_98_23 : decode prog_1_method_5_code 23 = .ok (.getfield 97, 3) := by decide +kernel
theorem dd_98_26 : decode prog_1_method_5_code 26 = .ok (.bipush 52, 2) := by decide +kernel
theorem dd_98_28 : decode prog_1_method_5_code 28 = .ok (.if_icmp .eq 13, 3) := by decide +kernel
theorem dd_98_31 : decode prog_1_method_5_code 31 = .ok (.new 59, 3) := by decide +kernel
theorem dd_98_34 : decode prog_1_method_5_code 34 = .ok (.dup, 1) := by decide +kernel
theorem dd_98_35 : decode prog_1_method_5_code 35 = .ok (.ldc 100, 2) := by decide +kernel
theorem dd_98_37 : decode prog_1_method_5_code 37 = .ok (.invokespecial 63, 3) := by decide +kernel
theorem dd_98_40 : decode prog_1_method_5_code 40 = .ok (.athrow, 1) := by decide +kernel
theorem dd_98_41 : decode prog_1_method_5_code 41 = .ok (.aload_n 0, 1) := by decide +kernel
theorem dd_98_42 : decode prog_1_method_5_code 42 = .ok (.aload_n 0, 1) := by decide +kernel
theorem dd_98_43 : decode prog_1_method_5_code 43 = .ok (.getfield 28, 3) := by decide +kernel
theorem dd_98_46 : decode prog_1_method_5_code 46 = .ok (.invokevirtual 102, 3) := by decide +kernel
theorem dd_98_49 : decode prog_1_method_5_code 49 = .ok (.invokevirtual 88, 3) := by decide +kernel
theorem dd_98_52 : decode prog_1_method_5_code 52 = .ok (.ireturn, 1) := by decide +kernel
def mt_98 : Nat → Option mv_S := mt_n 23 (mt_n 11 (mt_n 4 (mt_n 1 (mt_l 0 (mi_aload 1 0)) (mt_l 1 (mi_get 0 5))) (mt_n 7 (mt_l 4 (mi_if (fun x : Int32 => x = 0) 31)) (mt_n 8 (mt_l 7 (mi_aload 1 0)) (mt_l 8 (mi_get 0 1))))) (mt_n 16 (mt_n 14 (mt_l 11 (mi_get 2 6)) (mt_l 14 (mi_pure 2 (mo_push (.int 22))))) (mt_n 19 (mt_l 16 (mi_icmp (fun x y : Int32 => x = y) 41)) (mt_n 20 (mt_l 19 (mi_aload 1 0)) (mt_l 20 (mi_get 0 1)))))) (mt_n 42 (mt_n 28 (mt_n 26 (mt_l 23 (mi_get 2 6)) (mt_l 26 (mi_pure 2 (mo_push (.int 52))))) (mt_n 31 (mt_l 28 (mi_icmp (fun x y : Int32 => x = y) 41)) (mt_n 41 (mt_l 31 (mi_throw 1)) (mt_l 41 (mi_aload 1 0))))) (mt_n 46 (mt_n 43 (mt_l 42 (mi_aload 1 0)) (mt_l 43 (mi_get 0 2))) (mt_n 49 (mt_l 46 (mi_callV 3 97 1)) (mt_n 52 (mt_l 49 (mi_callV 0 63 2)) (mt_l 52 (mi_iret))))))
theorem ms_98 (L : Nat) (xs : Nat → Int32) : mt_ok (mg L xs) 98 (mt_98) := mt_ok.n (mt_ok.n (mt_ok.n (mt_ok.n (mt_ok.l (mn_aload_n (k := 0) dd_98_0 rfl) (mi_aload_mn 1 0)) (mt_ok.l (mn_get (C := "TokenScanner") (T := mf_T0) (N := 7) dd_98_1 rfl (Nat.le_of_ble_eq_true rfl) mf_i0 hw_227) (mi_get_mn 0 5))) (mt_ok.n (mt_ok.l (mn_if_eq dd_98_4 (by decide)) (mi_if_mn _ _)) (mt_ok.n (mt_ok.l (mn_aload_n (k := 0) dd_98_7 rfl) (mi_aload_mn 1 0)) (mt_ok.l (mn_get (C := "TokenScanner") (T := mf_T0) (N := 7) dd_98_8 rfl (Nat.le_of_ble_eq_true rfl) mf_i0 hw_223) (mi_get_mn 0 1))))) (mt_ok.n (mt_ok.n (mt_ok.l (mn_getN (C := "TokenScanner$Token") (T := mf_T2) (N := 9) dd_98_11 rfl (Nat.le_of_ble_eq_true rfl) mf_i2 hw_70) (mi_get_mn 2 6)) (mt_ok.l (mn_bipush dd_98_14 (by decide)) (mi_pure_mn 2 _))) (mt_ok.n (mt_ok.l (mn_icmp_eq dd_98_16 (by decide)) (mi_icmp_mn _ _)) (mt_ok.n (mt_ok.l (mn_aload_n (k := 0) dd_98_19 rfl) (mi_aload_mn 1 0)) (mt_ok.l (mn_get (C := "TokenScanner") (T := mf_T0) (N := 7) dd_98_20 rfl (Nat.le_of_ble_eq_true rfl) mf_i0 hw_223) (mi_get_mn 0 1)))))) (mt_ok.n (mt_ok.n (mt_ok.n (mt_ok.l (mn_getN (C := "TokenScanner$Token") (T := mf_T2) (N := 9) dd_98_23 rfl (Nat.le_of_ble_eq_true rfl) mf_i2 hw_70) (mi_get_mn 2 6)) (mt_ok.l (mn_bipush dd_98_26 (by decide)) (mi_pure_mn 2 _))) (mt_ok.n (mt_ok.l (mn_icmp_eq dd_98_28 (by decide)) (mi_icmp_mn _ _)) (mt_ok.n (mt_ok.l (mn_throw (y := 98) (pc := 31) (k := 1) (mg_Ok L xs) (ik := 59) (is := 100) (ic := 63) (sk := 7) (text := ms_txt 7) (names := ["java/lang/RuntimeException", "java/lang/Exception"]) dd_98_31 dd_98_34 dd_98_35 dd_98_37 dd_98_40 mg_ft1 mg_ftn hw_324 hw_19 (mg_pR 7 (by decide)) ha_63_1 mg_pX rfl (Nat.le_of_ble_eq_true rfl) (Nat.le_of_ble_eq_true rfl)) (mi_throw_mn 1)) (mt_ok.l (mn_aload_n (k := 0) dd_98_41 rfl) (mi_aload_mn 1 0))))) (mt_ok.n (mt_ok.n (mt_ok.l (mn_aload_n (k := 0) dd_98_42 rfl) (mi_aload_mn 1 0)) (mt_ok.l (mn_get (C := "TokenScanner") (T := mf_T0) (N := 7) dd_98_43 rfl (Nat.le_of_ble_eq_true rfl) mf_i0 hw_224) (mi_get_mn 0 2))) (mt_ok.n (mt_ok.l (mn_callV (y := 98) (pc := 46) (z := 97) (mg_Ok L xs) (C := "TokenScanner$Reader") (T0 := mf_T3) (N := 6) dd_98_46 rfl (mv_Hn.none rfl (fun _ => rfl)) (mc_98_97 L xs) hw_533 hw_534 hw_535 mq_97.1) (mi_callV_mn 3 97 1)) (mt_ok.n (mt_ok.l (mn_callV (y := 98) (pc := 49) (z := 63) (mg_Ok L xs) (C := "TokenScanner") (T0 := mf_T0) (N := 7) dd_98_49 rfl (mv_Hn.none rfl (fun _ => rfl)) (mc_98_63 L xs) hw_504 hw_506 hs_21 mq_63.1) (mi_callV_mn 0 63 2)) (mt_ok.l (mn_iret dd_98_52 rfl) (mi_iret_mn))))))
theorem dd_99_0 : decode method_6_code 0 = .ok (.aload_n 1, 1) := by decide +kernel
theorem dd_99_1 : decode method_6_code 1 = .ok (.iconst 0, 1) := by decide +kernel
theorem dd_99_2 : decode method_6_code 2 = .ok (.aload_n 0, 1) := by decide +kernel
theorem dd_99_3 : decode method_6_code 3 = .ok (.invokevirtual 24, 3) := by decide +kernel
theorem dd_99_6 : decode method_6_code 6 = .ok (.i2l, 1) := by decide +kernel
theorem dd_99_7 : decode method_6_code 7 = .ok (.lastore, 1) := by decide +kernel
theorem dd_99_8 : decode method_6_code 8 = .ok (.goto 9, 3) := by decide +kernel
theorem dd_99_11 : decode method_6_code 11 = .ok (.astore_n 2, 1) := by decide +kernel
theorem dd_99_12 : decode method_6_code 12 = .ok (.iconst 1, 1) := by decide +kernel
theorem dd_99_13 : decode method_6_code 13 = .ok (.ireturn, 1) := by decide +kernel
theorem dd_99_14 : decode method_6_code 14 = .ok (.astore_n 2, 1) := by decide +kernel
theorem dd_99_15 : decode method_6_code 15 = .ok (.iconst 2, 1) := by decide +kernel
theorem dd_99_16 : decode method_6_code 16 = .ok (.ireturn, 1) := by decide +kernel
theorem dd_99_17 : decode method_6_code 17 = .ok (.iconst 0, 1) := by decide +kernel
theorem dd_99_18 : decode method_6_code 18 = .ok (.ireturn, 1) := by decide +kernel
def mt_99 : Nat → Option mv_S := mt_n 8 (mt_n 3 (mt_n 1 (mt_l 0 (mi_aload 1 1)) (mt_n 2 (mt_l 1 (mi_pure 1 (mo_push (.int 0)))) (mt_l 2 (mi_aload 1 0)))) (mt_n 6 (mt_l 3 (mi_callV 0 98 1)) (mt_n 7 (mt_l 6 (mi_pure 1 mo_i2l)) (mt_l 7 (mi_last))))) (mt_n 15 (mt_n 12 (mt_l 8 (mi_goto 17)) (mt_n 13 (mt_l 12 (mi_pure 1 (mo_push (.int 1)))) (mt_l 13 (mi_iret)))) (mt_n 17 (mt_n 16 (mt_l 15 (mi_pure 1 (mo_push (.int 2)))) (mt_l 16 (mi_iret))) (mt_n 18 (mt_l 17 (mi_pure 1 (mo_push (.int 0)))) (mt_l 18 (mi_iret)))))
theorem mh_99 {L : Nat} {xs : Nat → Int32} : mv_Hn (mg L xs) 99 3 := by
  have hb : ∀ k, (mg L xs).X 99 3 k = ((bif Nat.beq k 0 then some (some (12, 2)) else (bif Nat.beq k 1 then some (some (15, 2)) else none)) : Option (Option (Nat × Nat))) := fun k => rfl
  refine ⟨fun k pc9 i9 e => ?_, fun k e => ?_⟩ <;> rw [hb] at e
  · cases b0 : Nat.beq k 0 with
    | true =>
      rw [b0, cond_true] at e
      have hk := Nat.eq_of_beq_eq_true b0
      subst hk
      cases e
      exact ⟨[], [(0, 8, 14, 15)], (0, 8, 11, 13), "java/lang/IllegalArgumentException", rfl, (fun z hz => by cases hz), by decide, by decide, hw_251, hw_259, (Nat.le_of_ble_eq_true rfl), Or.inl ⟨2, rfl, dd_99_11, rfl⟩⟩
    | false =>
      rw [b0, cond_false] at e
      cases b1 : Nat.beq k 1 with
      | true =>
        rw [b1, cond_true] at e
        have hk := Nat.eq_of_beq_eq_true b1
        subst hk
        cases e
        exact ⟨[(0, 8, 11, 13)], [], (0, 8, 14, 15), "java/lang/IllegalStateException", rfl, (fun z hz => by
          rcases List.mem_singleton.mp hz with rfl
          exact Or.inr ⟨by decide, "java/lang/IllegalArgumentException", hw_251, mg_pN0⟩), by decide, by decide, hw_252, hw_326, (Nat.le_of_ble_eq_true rfl), Or.inl ⟨2, rfl, dd_99_14, rfl⟩⟩
      | false =>
        rw [b1, cond_false] at e
        cases e
  · cases b0 : Nat.beq k 0 with
    | true =>
      rw [b0, cond_true] at e
      cases e
    | false =>
      rw [b0, cond_false] at e
      cases b1 : Nat.beq k 1 with
      | true =>
        rw [b1, cond_true] at e
        cases e
      | false =>
        rw [b1, cond_false] at e
        cases e
theorem ms_99 (L : Nat) (xs : Nat → Int32) : mt_ok (mg L xs) 99 (mt_99) := mt_ok.n (mt_ok.n (mt_ok.n (mt_ok.l (mn_aload_n (k := 1) dd_99_0 rfl) (mi_aload_mn 1 1)) (mt_ok.n (mt_ok.l (mn_iconst dd_99_1 (by decide)) (mi_pure_mn 1 _)) (mt_ok.l (mn_aload_n (k := 0) dd_99_2 rfl) (mi_aload_mn 1 0)))) (mt_ok.n (mt_ok.l (mn_callV (y := 99) (pc := 3) (z := 98) (mg_Ok L xs) (C := "TokenScanner") (T0 := mf_T0) (N := 7) dd_99_3 rfl mh_99 (mc_99_98 L xs) hw_528 hw_529 hw_530 mq_98.1) (mi_callV_mn 0 98 1)) (mt_ok.n (mt_ok.l (mn_i2l dd_99_6) (mi_pure_mn 1 _)) (mt_ok.l (mn_last dd_99_7 rfl) (mi_last_mn))))) (mt_ok.n (mt_ok.n (mt_ok.l (mn_goto dd_99_8 (by decide)) (mi_goto_mn 17)) (mt_ok.n (mt_ok.l (mn_iconst dd_99_12 (by decide)) (mi_pure_mn 1 _)) (mt_ok.l (mn_iret dd_99_13 rfl) (mi_iret_mn)))) (mt_ok.n (mt_ok.n (mt_ok.l (mn_iconst dd_99_15 (by decide)) (mi_pure_mn 1 _)) (mt_ok.l (mn_iret dd_99_16 rfl) (mi_iret_mn))) (mt_ok.n (mt_ok.l (mn_iconst dd_99_17 (by decide)) (mi_pure_mn 1 _)) (mt_ok.l (mn_iret dd_99_18 rfl) (mi_iret_mn)))))
