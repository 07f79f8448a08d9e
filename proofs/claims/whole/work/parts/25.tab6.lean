theorem dd_61_0 : decode prog_4_method_4_code 0 = .ok (.aload_n 0, 1) := by decide +kernel
theorem dd_61_1 : decode prog_4_method_4_code 1 = .ok (.iconst 0, 1) := by decide +kernel
theorem dd_61_2 : decode prog_4_method_4_code 2 = .ok (.putfield 15, 3) := by decide +kernel
theorem dd_61_5 : decode prog_4_method_4_code 5 = .ok (.return_, 1) := by decide +kernel
def mt_61 : Nat → Option mv_S := mt_n 2 (mt_n 1 (mt_l 0 (mi_aload 1 0)) (mt_l 1 (mi_pure 1 (mo_push (.int 0))))) (mt_n 5 (mt_l 2 (mi_put 1 1 (.int))) (mt_l 5 (mi_vret)))
theorem ms_61 (L : Nat) (xs : Nat → Int32) : mt_ok (mg L xs) 61 (mt_61) := mt_ok.n (mt_ok.n (mt_ok.l (mn_aload_n (k := 0) dd_61_0 rfl) (mi_aload_mn 1 0)) (mt_ok.l (mn_iconst dd_61_1 (by decide)) (mi_pure_mn 1 _))) (mt_ok.n (mt_ok.l (mn_put (C := "TokenScanner$Source") (T := mf_T1) (N := 2) (host := "") mf_y1 dd_61_2 rfl (Nat.le_of_ble_eq_true rfl) mf_i1 mf_o1 mf_n1 hw_37 rfl (by decide +kernel)) (mi_put_mn 1 1 _)) (mt_ok.l (mn_vret dd_61_5 rfl) (mi_vret_mn)))
theorem dd_62_0 : decode prog_1_method_14_code 0 = .ok (.aload_n 0, 1) := by decide +kernel
theorem dd_62_1 : decode prog_1_method_14_code 1 = .ok (.iconst 0, 1) := by decide +kernel
theorem dd_62_2 : decode prog_1_method_14_code 2 = .ok (.putfield 44, 3) := by decide +kernel
theorem dd_62_5 : decode prog_1_method_14_code 5 = .ok (.aload_n 0, 1) := by decide +kernel
theorem dd_62_6 : decode prog_1_method_14_code 6 = .ok (.getfield 10, 3) := by decide +kernel
theorem dd_62_9 : decode prog_1_method_14_code 9 = .ok (.invokevirtual 181, 3) := by decide +kernel
theorem dd_62_12 : decode prog_1_method_14_code 12 = .ok (.return_, 1) := by decide +kernel
def mt_62 : Nat → Option mv_S := mt_n 5 (mt_n 1 (mt_l 0 (mi_aload 1 0)) (mt_n 2 (mt_l 1 (mi_pure 1 (mo_push (.int 0)))) (mt_l 2 (mi_put 0 5 (.boolean))))) (mt_n 9 (mt_n 6 (mt_l 5 (mi_aload 1 0)) (mt_l 6 (mi_get 0 0))) (mt_n 12 (mt_l 9 (mi_callV 1 61 1)) (mt_l 12 (mi_vret))))
theorem ms_62 (L : Nat) (xs : Nat → Int32) : mt_ok (mg L xs) 62 (mt_62) := mt_ok.n (mt_ok.n (mt_ok.l (mn_aload_n (k := 0) dd_62_0 rfl) (mi_aload_mn 1 0)) (mt_ok.n (mt_ok.l (mn_iconst dd_62_1 (by decide)) (mi_pure_mn 1 _)) (mt_ok.l (mn_put (C := "TokenScanner") (T := mf_T0) (N := 7) (host := "") mf_y0 dd_62_2 rfl (Nat.le_of_ble_eq_true rfl) mf_i0 mf_o0 mf_n0 hw_227 rfl (by decide +kernel)) (mi_put_mn 0 5 _)))) (mt_ok.n (mt_ok.n (mt_ok.l (mn_aload_n (k := 0) dd_62_5 rfl) (mi_aload_mn 1 0)) (mt_ok.l (mn_get (C := "TokenScanner") (T := mf_T0) (N := 7) dd_62_6 rfl (Nat.le_of_ble_eq_true rfl) mf_i0 hw_222) (mi_get_mn 0 0))) (mt_ok.n (mt_ok.l (mn_callV (y := 62) (pc := 9) (z := 61) (mg_Ok L xs) (C := "TokenScanner$Source") (T0 := mf_T1) (N := 2) dd_62_9 rfl (mv_Hn.none rfl (fun _ => rfl)) (mc_62_61 L xs) hw_512 hw_513 hw_514 mq_61.1) (mi_callV_mn 1 61 1)) (mt_ok.l (mn_vret dd_62_12 rfl) (mi_vret_mn))))
theorem dd_63_0 : decode prog_1_method_13_code 0 = .ok (.iload_n 1, 1) := by decide +kernel
theorem dd_63_1 : decode prog_1_method_13_code 1 = .ok (.ifCond .ne 28, 3) := by decide +kernel
theorem dd_63_4 : decode prog_1_method_13_code 4 = .ok (.aload_n 0, 1) := by decide +kernel
theorem dd_63_5 : decode prog_1_method_13_code 5 = .ok (.aload_n 0, 1) := by decide +kernel
theorem dd_63_6 : decode prog_1_method_13_code 6 = .ok (.getfield 28, 3) := by decide +kernel
theorem dd_63_9 : decode prog_1_method_13_code 9 = .ok (.getfield 178, 3) := by decide +kernel
theorem dd_63_12 : decode prog_1_method_13_code 12 = .ok (.putfield 48, 3) := by decide +kernel
theorem dd_63_15 : decode prog_1_method_13_code 15 = .ok (.aload_n 0, 1) := by decide +kernel
theorem dd_63_16 : decode prog_1_method_13_code 16 = .ok (.invokevirtual 107, 3) := by decide +kernel
theorem dd_63_19 : decode prog_1_method_13_code 19 = .ok (.new 52, 3) := by decide +kernel
theorem dd_63_22 : decode prog_1_method_13_code 22 = .ok (.dup, 1) := by decide +kernel
theorem dd_63_23 : decode prog_1_method_13_code 23 = .ok (.ldc 179, 2) := by decide +kernel
theorem dd_63_25 : decode prog_1_method_13_code 25 = .ok (.invokespecial 56, 3) := by decide +kernel
theorem dd_63_28 : decode prog_1_method_13_code 28 = .ok (.athrow, 1) := by decide +kernel
theorem dd_63_29 : decode prog_1_method_13_code 29 = .ok (.aload_n 0, 1) := by decide +kernel
theorem dd_63_30 : decode prog_1_method_13_code 30 = .ok (.iconst 1, 1) := by decide +kernel
theorem dd_63_31 : decode prog_1_method_13_code 31 = .ok (.putfield 44, 3) := by decide +kernel
theorem dd_63_34 : decode prog_1_method_13_code 34 = .ok (.aload_n 0, 1) := by decide +kernel
theorem dd_63_35 : decode prog_1_method_13_code 35 = .ok (.getfield 19, 3) := by decide +kernel
theorem dd_63_38 : decode prog_1_method_13_code 38 = .ok (.getfield 92, 3) := by decide +kernel
theorem dd_63_41 : decode prog_1_method_13_code 41 = .ok (.ireturn, 1) := by decide +kernel
def mt_63 : Nat → Option mv_S := mt_n 16 (mt_n 6 (mt_n 4 (mt_n 1 (mt_l 0 (mi_iload 1 1)) (mt_l 1 (mi_if (fun x : Int32 => ¬ x = 0) 29))) (mt_n 5 (mt_l 4 (mi_aload 1 0)) (mt_l 5 (mi_aload 1 0)))) (mt_n 12 (mt_n 9 (mt_l 6 (mi_get 0 2)) (mt_l 9 (mi_get 3 5))) (mt_n 15 (mt_l 12 (mi_put 0 6 (.int))) (mt_l 15 (mi_aload 1 0))))) (mt_n 31 (mt_n 29 (mt_n 19 (mt_l 16 (mi_callV 0 62 1)) (mt_l 19 (mi_throw 0))) (mt_n 30 (mt_l 29 (mi_aload 1 0)) (mt_l 30 (mi_pure 1 (mo_push (.int 1)))))) (mt_n 35 (mt_n 34 (mt_l 31 (mi_put 0 5 (.boolean))) (mt_l 34 (mi_aload 1 0))) (mt_n 38 (mt_l 35 (mi_get 0 1)) (mt_n 41 (mt_l 38 (mi_get 2 0)) (mt_l 41 (mi_iret))))))
theorem ms_63 (L : Nat) (xs : Nat → Int32) : mt_ok (mg L xs) 63 (mt_63) := mt_ok.n (mt_ok.n (mt_ok.n (mt_ok.n (mt_ok.l (mn_iload_n (k := 1) dd_63_0 rfl) (mi_iload_mn 1 1)) (mt_ok.l (mn_if_ne dd_63_1 (by decide)) (mi_if_mn _ _))) (mt_ok.n (mt_ok.l (mn_aload_n (k := 0) dd_63_4 rfl) (mi_aload_mn 1 0)) (mt_ok.l (mn_aload_n (k := 0) dd_63_5 rfl) (mi_aload_mn 1 0)))) (mt_ok.n (mt_ok.n (mt_ok.l (mn_get (C := "TokenScanner") (T := mf_T0) (N := 7) dd_63_6 rfl (Nat.le_of_ble_eq_true rfl) mf_i0 hw_224) (mi_get_mn 0 2)) (mt_ok.l (mn_getN (C := "TokenScanner$Reader") (T := mf_T3) (N := 6) dd_63_9 rfl (Nat.le_of_ble_eq_true rfl) mf_i3 hw_189) (mi_get_mn 3 5))) (mt_ok.n (mt_ok.l (mn_put (C := "TokenScanner") (T := mf_T0) (N := 7) (host := "") mf_y0 dd_63_12 rfl (Nat.le_of_ble_eq_true rfl) mf_i0 mf_o0 mf_n0 hw_228 rfl (by decide +kernel)) (mi_put_mn 0 6 _)) (mt_ok.l (mn_aload_n (k := 0) dd_63_15 rfl) (mi_aload_mn 1 0))))) (mt_ok.n (mt_ok.n (mt_ok.n (mt_ok.l (mn_callV (y := 63) (pc := 16) (z := 62) (mg_Ok L xs) (C := "TokenScanner") (T0 := mf_T0) (N := 7) dd_63_16 rfl (mv_Hn.none rfl (fun _ => rfl)) (mc_63_62 L xs) hw_508 hw_510 hs_22 mq_62.1) (mi_callV_mn 0 62 1)) (mt_ok.l (mn_throw (y := 63) (pc := 19) (k := 0) (mg_Ok L xs) (ik := 52) (is := 179) (ic := 56) (sk := 5) (text := ms_txt 5) (names := ["java/lang/RuntimeException", "java/lang/Exception"]) dd_63_19 dd_63_22 dd_63_23 dd_63_25 dd_63_28 mg_ft0 mg_ftn hw_257 hw_18 (mg_pR 5 (by decide)) ha_56_0 mg_pX rfl (Nat.le_of_ble_eq_true rfl) (Nat.le_of_ble_eq_true rfl)) (mi_throw_mn 0))) (mt_ok.n (mt_ok.l (mn_aload_n (k := 0) dd_63_29 rfl) (mi_aload_mn 1 0)) (mt_ok.l (mn_iconst dd_63_30 (by decide)) (mi_pure_mn 1 _)))) (mt_ok.n (mt_ok.n (mt_ok.l (mn_put (C := "TokenScanner") (T := mf_T0) (N := 7) (host := "") mf_y0 dd_63_31 rfl (Nat.le_of_ble_eq_true rfl) mf_i0 mf_o0 mf_n0 hw_227 rfl (by decide +kernel)) (mi_put_mn 0 5 _)) (mt_ok.l (mn_aload_n (k := 0) dd_63_34 rfl) (mi_aload_mn 1 0))) (mt_ok.n (mt_ok.l (mn_get (C := "TokenScanner") (T := mf_T0) (N := 7) dd_63_35 rfl (Nat.le_of_ble_eq_true rfl) mf_i0 hw_223) (mi_get_mn 0 1)) (mt_ok.n (mt_ok.l (mn_getN (C := "TokenScanner$Token") (T := mf_T2) (N := 9) dd_63_38 rfl (Nat.le_of_ble_eq_true rfl) mf_i2 hw_52) (mi_get_mn 2 0)) (mt_ok.l (mn_iret dd_63_41 rfl) (mi_iret_mn))))))
theorem dd_64_0 : decode prog_1_method_3_code 0 = .ok (.aload_n 0, 1) := by decide +kernel
theorem dd_64_1 : decode prog_1_method_3_code 1 = .ok (.getfield 44, 3) := by decide +kernel
theorem dd_64_4 : decode prog_1_method_3_code 4 = .ok (.ifCond .eq 13, 3) := by decide +kernel
theorem dd_64_7 : decode prog_1_method_3_code 7 = .ok (.new 59, 3) := by decide +kernel
theorem dd_64_10 : decode prog_1_method_3_code 10 = .ok (.dup, 1) := by decide +kernel
theorem dd_64_11 : decode prog_1_method_3_code 11 = .ok (.ldc 61, 2) := by decide +kernel
theorem dd_64_13 : decode prog_1_method_3_code 13 = .ok (.invokespecial 63, 3) := by decide +kernel
theorem dd_64_16 : decode prog_1_method_3_code 16 = .ok (.athrow, 1) := by decide +kernel
theorem dd_64_17 : decode prog_1_method_3_code 17 = .ok (.aload_n 0, 1) := by decide +kernel
theorem dd_64_18 : decode prog_1_method_3_code 18 = .ok (.getfield 37, 3) := by decide +kernel
theorem dd_64_21 : decode prog_1_method_3_code 21 = .ok (.invokevirtual 78, 3) := by decide +kernel
theorem dd_64_24 : decode prog_1_method_3_code 24 = .ok (.aload_n 0, 1) := by decide +kernel
theorem dd_64_25 : decode prog_1_method_3_code 25 = .ok (.getfield 41, 3) := by decide +kernel
theorem dd_64_28 : decode prog_1_method_3_code 28 = .ok (.invokevirtual 78, 3) := by decide +kernel
theorem dd_64_31 : decode prog_1_method_3_code 31 = .ok (.aload_n 0, 1) := by decide +kernel
theorem dd_64_32 : decode prog_1_method_3_code 32 = .ok (.iconst (-1), 1) := by decide +kernel
theorem dd_64_33 : decode prog_1_method_3_code 33 = .ok (.putfield 48, 3) := by decide +kernel
theorem dd_64_36 : decode prog_1_method_3_code 36 = .ok (.aload_n 0, 1) := by decide +kernel
theorem dd_64_37 : decode prog_1_method_3_code 37 = .ok (.getfield 28, 3) := by decide +kernel
theorem dd_64_40 : decode prog_1_method_3_code 40 = .ok (.invokevirtual 81, 3) := by decide +kernel
theorem dd_64_43 : decode prog_1_method_3_code 43 = .ok (.aload_n 0, 1) := by decide +kernel
theorem dd_64_44 : decode prog_1_method_3_code 44 = .ok (.aload_n 0, 1) := by decide +kernel
theorem dd_64_45 : decode prog_1_method_3_code 45 = .ok (.getfield 28, 3) := by decide +kernel
theorem dd_64_48 : decode prog_1_method_3_code 48 = .ok (.invokevirtual 84, 3) := by decide +kernel
theorem dd_64_51 : decode prog_1_method_3_code 51 = .ok (.invokevirtual 88, 3) := by decide +kernel
theorem dd_64_54 : decode prog_1_method_3_code 54 = .ok (.ireturn, 1) := by decide +kernel
def mt_64 : Nat → Option mv_S := mt_n 32 (mt_n 18 (mt_n 4 (mt_n 1 (mt_l 0 (mi_aload 1 0)) (mt_l 1 (mi_get 0 5))) (mt_n 7 (mt_l 4 (mi_if (fun x : Int32 => x = 0) 17)) (mt_n 17 (mt_l 7 (mi_throw 1)) (mt_l 17 (mi_aload 1 0))))) (mt_n 25 (mt_n 21 (mt_l 18 (mi_get 0 3)) (mt_n 24 (mt_l 21 (mi_callV 5 25 1)) (mt_l 24 (mi_aload 1 0)))) (mt_n 28 (mt_l 25 (mi_get 0 4)) (mt_n 31 (mt_l 28 (mi_callV 5 25 1)) (mt_l 31 (mi_aload 1 0)))))) (mt_n 43 (mt_n 36 (mt_n 33 (mt_l 32 (mi_pure 1 (mo_push (.int (-1))))) (mt_l 33 (mi_put 0 6 (.int)))) (mt_n 37 (mt_l 36 (mi_aload 1 0)) (mt_n 40 (mt_l 37 (mi_get 0 2)) (mt_l 40 (mi_callV 3 26 1))))) (mt_n 48 (mt_n 44 (mt_l 43 (mi_aload 1 0)) (mt_n 45 (mt_l 44 (mi_aload 1 0)) (mt_l 45 (mi_get 0 2)))) (mt_n 51 (mt_l 48 (mi_callV 3 60 1)) (mt_n 54 (mt_l 51 (mi_callV 0 63 2)) (mt_l 54 (mi_iret))))))
theorem ms_64 (L : Nat) (xs : Nat → Int32) : mt_ok (mg L xs) 64 (mt_64) := mt_ok.n (mt_ok.n (mt_ok.n (mt_ok.n (mt_ok.l (mn_aload_n (k := 0) dd_64_0 rfl) (mi_aload_mn 1 0)) (mt_ok.l (mn_get (C := "TokenScanner") (T := mf_T0) (N := 7) dd_64_1 rfl (Nat.le_of_ble_eq_true rfl) mf_i0 hw_227) (mi_get_mn 0 5))) (mt_ok.n (mt_ok.l (mn_if_eq dd_64_4 (by decide)) (mi_if_mn _ _)) (mt_ok.n (mt_ok.l (mn_throw (y := 64) (pc := 7) (k := 1) (mg_Ok L xs) (ik := 59) (is := 61) (ic := 63) (sk := 3) (text := ms_txt 3) (names := ["java/lang/RuntimeException", "java/lang/Exception"]) dd_64_7 dd_64_10 dd_64_11 dd_64_13 dd_64_16 mg_ft1 mg_ftn hw_324 hw_19 (mg_pR 3 (by decide)) ha_63_1 mg_pX rfl (Nat.le_of_ble_eq_true rfl) (Nat.le_of_ble_eq_true rfl)) (mi_throw_mn 1)) (mt_ok.l (mn_aload_n (k := 0) dd_64_17 rfl) (mi_aload_mn 1 0))))) (mt_ok.n (mt_ok.n (mt_ok.l (mn_get (C := "TokenScanner") (T := mf_T0) (N := 7) dd_64_18 rfl (Nat.le_of_ble_eq_true rfl) mf_i0 hw_225) (mi_get_mn 0 3)) (mt_ok.n (mt_ok.l (mn_callV (y := 64) (pc := 21) (z := 25) (mg_Ok L xs) (C := "TokenScanner$Shelf") (T0 := mf_T5) (N := 3) dd_64_21 rfl (mv_Hn.none rfl (fun _ => rfl)) (mc_64_25 L xs) hw_360 hw_361 hw_362 mq_25.1) (mi_callV_mn 5 25 1)) (mt_ok.l (mn_aload_n (k := 0) dd_64_24 rfl) (mi_aload_mn 1 0)))) (mt_ok.n (mt_ok.l (mn_get (C := "TokenScanner") (T := mf_T0) (N := 7) dd_64_25 rfl (Nat.le_of_ble_eq_true rfl) mf_i0 hw_226) (mi_get_mn 0 4)) (mt_ok.n (mt_ok.l (mn_callV (y := 64) (pc := 28) (z := 25) (mg_Ok L xs) (C := "TokenScanner$Shelf") (T0 := mf_T5) (N := 3) dd_64_28 rfl (mv_Hn.none rfl (fun _ => rfl)) (mc_64_25 L xs) hw_360 hw_361 hw_362 mq_25.1) (mi_callV_mn 5 25 1)) (mt_ok.l (mn_aload_n (k := 0) dd_64_31 rfl) (mi_aload_mn 1 0)))))) (mt_ok.n (mt_ok.n (mt_ok.n (mt_ok.l (mn_iconst dd_64_32 (by decide)) (mi_pure_mn 1 _)) (mt_ok.l (mn_put (C := "TokenScanner") (T := mf_T0) (N := 7) (host := "") mf_y0 dd_64_33 rfl (Nat.le_of_ble_eq_true rfl) mf_i0 mf_o0 mf_n0 hw_228 rfl (by decide +kernel)) (mi_put_mn 0 6 _))) (mt_ok.n (mt_ok.l (mn_aload_n (k := 0) dd_64_36 rfl) (mi_aload_mn 1 0)) (mt_ok.n (mt_ok.l (mn_get (C := "TokenScanner") (T := mf_T0) (N := 7) dd_64_37 rfl (Nat.le_of_ble_eq_true rfl) mf_i0 hw_224) (mi_get_mn 0 2)) (mt_ok.l (mn_callV (y := 64) (pc := 40) (z := 26) (mg_Ok L xs) (C := "TokenScanner$Reader") (T0 := mf_T3) (N := 6) dd_64_40 rfl (mv_Hn.none rfl (fun _ => rfl)) (mc_64_26 L xs) hw_364 hw_365 hw_366 mq_26.1) (mi_callV_mn 3 26 1))))) (mt_ok.n (mt_ok.n (mt_ok.l (mn_aload_n (k := 0) dd_64_43 rfl) (mi_aload_mn 1 0)) (mt_ok.n (mt_ok.l (mn_aload_n (k := 0) dd_64_44 rfl) (mi_aload_mn 1 0)) (mt_ok.l (mn_get (C := "TokenScanner") (T := mf_T0) (N := 7) dd_64_45 rfl (Nat.le_of_ble_eq_true rfl) mf_i0 hw_224) (mi_get_mn 0 2)))) (mt_ok.n (mt_ok.l (mn_callV (y := 64) (pc := 48) (z := 60) (mg_Ok L xs) (C := "TokenScanner$Reader") (T0 := mf_T3) (N := 6) dd_64_48 rfl (mv_Hn.none rfl (fun _ => rfl)) (mc_64_60 L xs) hw_368 hw_369 hw_370 mq_60.1) (mi_callV_mn 3 60 1)) (mt_ok.n (mt_ok.l (mn_callV (y := 64) (pc := 51) (z := 63) (mg_Ok L xs) (C := "TokenScanner") (T0 := mf_T0) (N := 7) dd_64_51 rfl (mv_Hn.none rfl (fun _ => rfl)) (mc_64_63 L xs) hw_504 hw_506 hs_21 mq_63.1) (mi_callV_mn 0 63 2)) (mt_ok.l (mn_iret dd_64_54 rfl) (mi_iret_mn))))))
theorem dd_65_0 : decode method_4_code 0 = .ok (.aload_n 1, 1) := by decide +kernel
theorem dd_65_1 : decode method_4_code 1 = .ok (.iconst 0, 1) := by decide +kernel
theorem dd_65_2 : decode method_4_code 2 = .ok (.aload_n 0, 1) := by decide +kernel
theorem dd_65_3 : decode method_4_code 3 = .ok (.invokevirtual 17, 3) := by decide +kernel
theorem dd_65_6 : decode method_4_code 6 = .ok (.i2l, 1) := by decide +kernel
theorem dd_65_7 : decode method_4_code 7 = .ok (.lastore, 1) := by decide +kernel
theorem dd_65_8 : decode method_4_code 8 = .ok (.goto 9, 3) := by decide +kernel
theorem dd_65_11 : decode method_4_code 11 = .ok (.astore_n 2, 1) := by decide +kernel
theorem dd_65_12 : decode method_4_code 12 = .ok (.iconst 1, 1) := by decide +kernel
theorem dd_65_13 : decode method_4_code 13 = .ok (.ireturn, 1) := by decide +kernel
theorem dd_65_14 : decode method_4_code 14 = .ok (.astore_n 2, 1) := by decide +kernel
theorem dd_65_15 : decode method_4_code 15 = .ok (.iconst 2, 1) := by decide +kernel
theorem dd_65_16 : decode method_4_code 16 = .ok (.ireturn, 1) := by decide +kernel
theorem dd_65_17 : decode method_4_code 17 = .ok (.iconst 0, 1) := by decide +kernel
theorem dd_65_18 : decode method_4_code 18 = .ok (.ireturn, 1) := by decide +kernel
def mt_65 : Nat → Option mv_S := mt_n 8 (mt_n 3 (mt_n 1 (mt_l 0 (mi_aload 1 1)) (mt_n 2 (mt_l 1 (mi_pure 1 (mo_push (.int 0)))) (mt_l 2 (mi_aload 1 0)))) (mt_n 6 (mt_l 3 (mi_callV 0 64 1)) (mt_n 7 (mt_l 6 (mi_pure 1 mo_i2l)) (mt_l 7 (mi_last))))) (mt_n 15 (mt_n 12 (mt_l 8 (mi_goto 17)) (mt_n 13 (mt_l 12 (mi_pure 1 (mo_push (.int 1)))) (mt_l 13 (mi_iret)))) (mt_n 17 (mt_n 16 (mt_l 15 (mi_pure 1 (mo_push (.int 2)))) (mt_l 16 (mi_iret))) (mt_n 18 (mt_l 17 (mi_pure 1 (mo_push (.int 0)))) (mt_l 18 (mi_iret)))))
theorem mh_65 {L : Nat} {xs : Nat → Int32} : mv_Hn (mg L xs) 65 3 := by
  have hb : ∀ k, (mg L xs).X 65 3 k = ((bif Nat.beq k 0 then some (some (12, 2)) else (bif Nat.beq k 1 then some (some (15, 2)) else none)) : Option (Option (Nat × Nat))) := fun k => rfl
  refine ⟨fun k pc9 i9 e => ?_, fun k e => ?_⟩ <;> rw [hb] at e
  · cases b0 : Nat.beq k 0 with
    | true =>
      rw [b0, cond_true] at e
      have hk := Nat.eq_of_beq_eq_true b0
      subst hk
      cases e
      exact ⟨[], [(0, 8, 14, 15)], (0, 8, 11, 13), "java/lang/IllegalArgumentException", rfl, (fun z hz => by cases hz), by decide, by decide, hw_251, hw_259, (Nat.le_of_ble_eq_true rfl), Or.inl ⟨2, rfl, dd_65_11, rfl⟩⟩
    | false =>
      rw [b0, cond_false] at e
      cases b1 : Nat.beq k 1 with
      | true =>
        rw [b1, cond_true] at e
        have hk := Nat.eq_of_beq_eq_true b1
        subst hk
        cases e
        exact ⟨[(0, 8, 11, 13)], [], (0, 8, 14, 15), "java/lang/IllegalStateException", rfl, (fun z hz => by
          rcases List.mem_singleton.mp hz with rfl
          exact Or.inr ⟨by decide, "java/lang/IllegalArgumentException", hw_251, mg_pN0⟩), by decide, by decide, hw_252, hw_326, (Nat.le_of_ble_eq_true rfl), Or.inl ⟨2, rfl, dd_65_14, rfl⟩⟩
      | false =>
        rw [b1, cond_false] at e
        cases e
  · cases b0 : Nat.beq k 0 with
    | true =>
      rw [b0, cond_true] at e
      cases e
    | false =>
      rw [b0, cond_false] at e
      cases b1 : Nat.beq k 1 with
      | true =>
        rw [b1, cond_true] at e
        cases e
      | false =>
        rw [b1, cond_false] at e
        cases e
theorem ms_65 (L : Nat) (xs : Nat → Int32) : mt_ok (mg L xs) 65 (mt_65) := mt_ok.n (mt_ok.n (mt_ok.n (mt_ok.l (mn_aload_n (k := 1) dd_65_0 rfl) (mi_aload_mn 1 1)) (mt_ok.n (mt_ok.l (mn_iconst dd_65_1 (by decide)) (mi_pure_mn 1 _)) (mt_ok.l (mn_aload_n (k := 0) dd_65_2 rfl) (mi_aload_mn 1 0)))) (mt_ok.n (mt_ok.l (mn_callV (y := 65) (pc := 3) (z := 64) (mg_Ok L xs) (C := "TokenScanner") (T0 := mf_T0) (N := 7) dd_65_3 rfl mh_65 (mc_65_64 L xs) hw_356 hw_357 hw_358 mq_64.1) (mi_callV_mn 0 64 1)) (mt_ok.n (mt_ok.l (mn_i2l dd_65_6) (mi_pure_mn 1 _)) (mt_ok.l (mn_last dd_65_7 rfl) (mi_last_mn))))) (mt_ok.n (mt_ok.n (mt_ok.l (mn_goto dd_65_8 (by decide)) (mi_goto_mn 17)) (mt_ok.n (mt_ok.l (mn_iconst dd_65_12 (by decide)) (mi_pure_mn 1 _)) (mt_ok.l (mn_iret dd_65_13 rfl) (mi_iret_mn)))) (mt_ok.n (mt_ok.n (mt_ok.l (mn_iconst dd_65_15 (by decide)) (mi_pure_mn 1 _)) (mt_ok.l (mn_iret dd_65_16 rfl) (mi_iret_mn))) (mt_ok.n (mt_ok.l (mn_iconst dd_65_17 (by decide)) (mi_pure_mn 1 _)) (mt_ok.l (mn_iret dd_65_18 rfl) (mi_iret_mn)))))
theorem dd_66_0 : decode prog_9_method_5_code 0 = .ok (.iload_n 1, 1) := by decide +kernel
theorem dd_66_1 : decode prog_9_method_5_code 1 = .ok (.aload_n 0, 1) := by decide +kernel
theorem dd_66_2 : decode prog_9_method_5_code 2 = .ok (.getfield 39, 3) := by decide +kernel
theorem dd_66_5 : decode prog_9_method_5_code 5 = .ok (.if_icmp .ge 12, 3) := by decide +kernel
theorem dd_66_8 : decode prog_9_method_5_code 8 = .ok (.aload_n 0, 1) := by decide +kernel
theorem dd_66_9 : decode prog_9_method_5_code 9 = .ok (.getfield 7, 3) := by decide +kernel
theorem dd_66_12 : decode prog_9_method_5_code 12 = .ok (.iload_n 1, 1) := by decide +kernel
theorem dd_66_13 : decode prog_9_method_5_code 13 = .ok (.iaload, 1) := by decide +kernel
theorem dd_66_14 : decode prog_9_method_5_code 14 = .ok (.goto 4, 3) := by decide +kernel
theorem dd_66_17 : decode prog_9_method_5_code 17 = .ok (.iconst (-1), 1) := by decide +kernel
theorem dd_66_18 : decode prog_9_method_5_code 18 = .ok (.ireturn, 1) := by decide +kernel
def mt_66 : Nat → Option mv_S := mt_n 9 (mt_n 2 (mt_n 1 (mt_l 0 (mi_iload 1 1)) (mt_l 1 (mi_aload 1 0))) (mt_n 5 (mt_l 2 (mi_get 6 2)) (mt_n 8 (mt_l 5 (mi_icmp (fun x y : Int32 => y ≤ x) 17)) (mt_l 8 (mi_aload 1 0))))) (mt_n 14 (mt_n 12 (mt_l 9 (mi_get 6 1)) (mt_n 13 (mt_l 12 (mi_iload 1 1)) (mt_l 13 (mi_iald)))) (mt_n 17 (mt_l 14 (mi_goto 18)) (mt_n 18 (mt_l 17 (mi_pure 1 (mo_push (.int (-1))))) (mt_l 18 (mi_iret)))))
theorem ms_66 (L : Nat) (xs : Nat → Int32) : mt_ok (mg L xs) 66 (mt_66) := mt_ok.n (mt_ok.n (mt_ok.n (mt_ok.l (mn_iload_n (k := 1) dd_66_0 rfl) (mi_iload_mn 1 1)) (mt_ok.l (mn_aload_n (k := 0) dd_66_1 rfl) (mi_aload_mn 1 0))) (mt_ok.n (mt_ok.l (mn_get (C := "TokenScannerModel") (T := mf_T6) (N := 21) dd_66_2 rfl (Nat.le_of_ble_eq_true rfl) mf_i6 hw_669) (mi_get_mn 6 2)) (mt_ok.n (mt_ok.l (mn_icmp_ge dd_66_5 (by decide)) (mi_icmp_mn _ _)) (mt_ok.l (mn_aload_n (k := 0) dd_66_8 rfl) (mi_aload_mn 1 0))))) (mt_ok.n (mt_ok.n (mt_ok.l (mn_get (C := "TokenScannerModel") (T := mf_T6) (N := 21) dd_66_9 rfl (Nat.le_of_ble_eq_true rfl) mf_i6 hw_668) (mi_get_mn 6 1)) (mt_ok.n (mt_ok.l (mn_iload_n (k := 1) dd_66_12 rfl) (mi_iload_mn 1 1)) (mt_ok.l (mn_iald dd_66_13 rfl) (mi_iald_mn)))) (mt_ok.n (mt_ok.l (mn_goto dd_66_14 (by decide)) (mi_goto_mn 18)) (mt_ok.n (mt_ok.l (mn_iconst dd_66_17 (by decide)) (mi_pure_mn 1 _)) (mt_ok.l (mn_iret dd_66_18 rfl) (mi_iret_mn)))))
theorem dd_67_0 : decode prog_9_method_10_code 0 = .ok (.iload_n 0, 1) := by decide +kernel
theorem dd_67_1 : decode prog_9_method_10_code 1 = .ok (.bipush 9, 2) := by decide +kernel
theorem dd_67_3 : decode prog_9_method_10_code 3 = .ok (.if_icmp .eq 28, 3) := by decide +kernel
theorem dd_67_6 : decode prog_9_method_10_code 6 = .ok (.iload_n 0, 1) := by decide +kernel
theorem dd_67_7 : decode prog_9_method_10_code 7 = .ok (.bipush 11, 2) := by decide +kernel
theorem dd_67_9 : decode prog_9_method_10_code 9 = .ok (.if_icmp .eq 22, 3) := by decide +kernel
theorem dd_67_12 : decode prog_9_method_10_code 12 = .ok (.iload_n 0, 1) := by decide +kernel
theorem dd_67_13 : decode prog_9_method_10_code 13 = .ok (.bipush 12, 2) := by decide +kernel
theorem dd_67_15 : decode prog_9_method_10_code 15 = .ok (.if_icmp .eq 16, 3) := by decide +kernel
theorem dd_67_18 : decode prog_9_method_10_code 18 = .ok (.iload_n 0, 1) := by decide +kernel
theorem dd_67_19 : decode prog_9_method_10_code 19 = .ok (.bipush 32, 2) := by decide +kernel
theorem dd_67_21 : decode prog_9_method_10_code 21 = .ok (.if_icmp .eq 10, 3) := by decide +kernel
theorem dd_67_24 : decode prog_9_method_10_code 24 = .ok (.iload_n 0, 1) := by decide +kernel
theorem dd_67_25 : decode prog_9_method_10_code 25 = .ok (.sipush 160, 3) := by decide +kernel
theorem dd_67_28 : decode prog_9_method_10_code 28 = .ok (.if_icmp .ne 7, 3) := by decide +kernel
theorem dd_67_31 : decode prog_9_method_10_code 31 = .ok (.iconst 1, 1) := by decide +kernel
theorem dd_67_32 : decode prog_9_method_10_code 32 = .ok (.goto 4, 3) := by decide +kernel
theorem dd_67_35 : decode prog_9_method_10_code 35 = .ok (.iconst 0, 1) := by decide +kernel
theorem dd_67_36 : decode prog_9_method_10_code 36 = .ok (.ireturn, 1) := by decide +kernel
def mt_67 : Nat → Option mv_S := mt_n 18 (mt_n 7 (mt_n 3 (mt_n 1 (mt_l 0 (mi_iload 1 0)) (mt_l 1 (mi_pure 2 (mo_push (.int 9))))) (mt_n 6 (mt_l 3 (mi_icmp (fun x y : Int32 => x = y) 31)) (mt_l 6 (mi_iload 1 0)))) (mt_n 12 (mt_n 9 (mt_l 7 (mi_pure 2 (mo_push (.int 11)))) (mt_l 9 (mi_icmp (fun x y : Int32 => x = y) 31))) (mt_n 13 (mt_l 12 (mi_iload 1 0)) (mt_n 15 (mt_l 13 (mi_pure 2 (mo_push (.int 12)))) (mt_l 15 (mi_icmp (fun x y : Int32 => x = y) 31)))))) (mt_n 28 (mt_n 21 (mt_n 19 (mt_l 18 (mi_iload 1 0)) (mt_l 19 (mi_pure 2 (mo_push (.int 32))))) (mt_n 24 (mt_l 21 (mi_icmp (fun x y : Int32 => x = y) 31)) (mt_n 25 (mt_l 24 (mi_iload 1 0)) (mt_l 25 (mi_pure 3 (mo_push (.int 160))))))) (mt_n 32 (mt_n 31 (mt_l 28 (mi_icmp (fun x y : Int32 => ¬ x = y) 35)) (mt_l 31 (mi_pure 1 (mo_push (.int 1))))) (mt_n 35 (mt_l 32 (mi_goto 36)) (mt_n 36 (mt_l 35 (mi_pure 1 (mo_push (.int 0)))) (mt_l 36 (mi_zret))))))
theorem ms_67 (L : Nat) (xs : Nat → Int32) : mt_ok (mg L xs) 67 (mt_67) := mt_ok.n (mt_ok.n (mt_ok.n (mt_ok.n (mt_ok.l (mn_iload_n (k := 0) dd_67_0 rfl) (mi_iload_mn 1 0)) (mt_ok.l (mn_bipush dd_67_1 (by decide)) (mi_pure_mn 2 _))) (mt_ok.n (mt_ok.l (mn_icmp_eq dd_67_3 (by decide)) (mi_icmp_mn _ _)) (mt_ok.l (mn_iload_n (k := 0) dd_67_6 rfl) (mi_iload_mn 1 0)))) (mt_ok.n (mt_ok.n (mt_ok.l (mn_bipush dd_67_7 (by decide)) (mi_pure_mn 2 _)) (mt_ok.l (mn_icmp_eq dd_67_9 (by decide)) (mi_icmp_mn _ _))) (mt_ok.n (mt_ok.l (mn_iload_n (k := 0) dd_67_12 rfl) (mi_iload_mn 1 0)) (mt_ok.n (mt_ok.l (mn_bipush dd_67_13 (by decide)) (mi_pure_mn 2 _)) (mt_ok.l (mn_icmp_eq dd_67_15 (by decide)) (mi_icmp_mn _ _)))))) (mt_ok.n (mt_ok.n (mt_ok.n (mt_ok.l (mn_iload_n (k := 0) dd_67_18 rfl) (mi_iload_mn 1 0)) (mt_ok.l (mn_bipush dd_67_19 (by decide)) (mi_pure_mn 2 _))) (mt_ok.n (mt_ok.l (mn_icmp_eq dd_67_21 (by decide)) (mi_icmp_mn _ _)) (mt_ok.n (mt_ok.l (mn_iload_n (k := 0) dd_67_24 rfl) (mi_iload_mn 1 0)) (mt_ok.l (mn_sipush dd_67_25 (by decide)) (mi_pure_mn 3 _))))) (mt_ok.n (mt_ok.n (mt_ok.l (mn_icmp_ne dd_67_28 (by decide)) (mi_icmp_mn _ _)) (mt_ok.l (mn_iconst dd_67_31 (by decide)) (mi_pure_mn 1 _))) (mt_ok.n (mt_ok.l (mn_goto dd_67_32 (by decide)) (mi_goto_mn 36)) (mt_ok.n (mt_ok.l (mn_iconst dd_67_35 (by decide)) (mi_pure_mn 1 _)) (mt_ok.l (mn_zret dd_67_36 rfl) (mi_zret_mn))))))
theorem dd_68_0 : decode prog_9_method_9_code 0 = .ok (.iload_n 0, 1) := by decide +kernel
theorem dd_68_1 : decode prog_9_method_9_code 1 = .ok (.bipush 10, 2) := by decide +kernel
theorem dd_68_3 : decode prog_9_method_9_code 3 = .ok (.if_icmp .eq 9, 3) := by decide +kernel
theorem dd_68_6 : decode prog_9_method_9_code 6 = .ok (.iload_n 0, 1) := by decide +kernel
theorem dd_68_7 : decode prog_9_method_9_code 7 = .ok (.bipush 13, 2) := by decide +kernel
theorem dd_68_9 : decode prog_9_method_9_code 9 = .ok (.if_icmp .ne 7, 3) := by decide +kernel
theorem dd_68_12 : decode prog_9_method_9_code 12 = .ok (.iconst 1, 1) := by decide +kernel
theorem dd_68_13 : decode prog_9_method_9_code 13 = .ok (.goto 4, 3) := by decide +kernel
theorem dd_68_16 : decode prog_9_method_9_code 16 = .ok (.iconst 0, 1) := by decide +kernel
theorem dd_68_17 : decode prog_9_method_9_code 17 = .ok (.ireturn, 1) := by decide +kernel
def mt_68 : Nat → Option mv_S := mt_n 9 (mt_n 3 (mt_n 1 (mt_l 0 (mi_iload 1 0)) (mt_l 1 (mi_pure 2 (mo_push (.int 10))))) (mt_n 6 (mt_l 3 (mi_icmp (fun x y : Int32 => x = y) 12)) (mt_n 7 (mt_l 6 (mi_iload 1 0)) (mt_l 7 (mi_pure 2 (mo_push (.int 13))))))) (mt_n 13 (mt_n 12 (mt_l 9 (mi_icmp (fun x y : Int32 => ¬ x = y) 16)) (mt_l 12 (mi_pure 1 (mo_push (.int 1))))) (mt_n 16 (mt_l 13 (mi_goto 17)) (mt_n 17 (mt_l 16 (mi_pure 1 (mo_push (.int 0)))) (mt_l 17 (mi_zret)))))
theorem ms_68 (L : Nat) (xs : Nat → Int32) : mt_ok (mg L xs) 68 (mt_68) := mt_ok.n (mt_ok.n (mt_ok.n (mt_ok.l (mn_iload_n (k := 0) dd_68_0 rfl) (mi_iload_mn 1 0)) (mt_ok.l (mn_bipush dd_68_1 (by decide)) (mi_pure_mn 2 _))) (mt_ok.n (mt_ok.l (mn_icmp_eq dd_68_3 (by decide)) (mi_icmp_mn _ _)) (mt_ok.n (mt_ok.l (mn_iload_n (k := 0) dd_68_6 rfl) (mi_iload_mn 1 0)) (mt_ok.l (mn_bipush dd_68_7 (by decide)) (mi_pure_mn 2 _))))) (mt_ok.n (mt_ok.n (mt_ok.l (mn_icmp_ne dd_68_9 (by decide)) (mi_icmp_mn _ _)) (mt_ok.l (mn_iconst dd_68_12 (by decide)) (mi_pure_mn 1 _))) (mt_ok.n (mt_ok.l (mn_goto dd_68_13 (by decide)) (mi_goto_mn 17)) (mt_ok.n (mt_ok.l (mn_iconst dd_68_16 (by decide)) (mi_pure_mn 1 _)) (mt_ok.l (mn_zret dd_68_17 rfl) (mi_zret_mn)))))
theorem dd_69_0 : decode prog_9_method_11_code 0 = .ok (.aload_n 0, 1) := by decide +kernel
theorem dd_69_1 : decode prog_9_method_11_code 1 = .ok (.aload_n 0, 1) := by decide +kernel
theorem dd_69_2 : decode prog_9_method_11_code 2 = .ok (.getfield 52, 3) := by decide +kernel
theorem dd_69_5 : decode prog_9_method_11_code 5 = .ok (.ifCond .ge 7, 3) := by decide +kernel
theorem dd_69_8 : decode prog_9_method_11_code 8 = .ok (.iload_n 1, 1) := by decide +kernel
theorem dd_69_9 : decode prog_9_method_11_code 9 = .ok (.goto 7, 3) := by decide +kernel
theorem dd_69_12 : decode prog_9_method_11_code 12 = .ok (.aload_n 0, 1) := by decide +kernel
theorem dd_69_13 : decode prog_9_method_11_code 13 = .ok (.getfield 52, 3) := by decide +kernel
theorem dd_69_16 : decode prog_9_method_11_code 16 = .ok (.putfield 52, 3) := by decide +kernel
theorem dd_69_19 : decode prog_9_method_11_code 19 = .ok (.return_, 1) := by decide +kernel
def mt_69 : Nat → Option mv_S := mt_n 9 (mt_n 2 (mt_n 1 (mt_l 0 (mi_aload 1 0)) (mt_l 1 (mi_aload 1 0))) (mt_n 5 (mt_l 2 (mi_get 6 5)) (mt_n 8 (mt_l 5 (mi_if (fun x : Int32 => 0 ≤ x) 12)) (mt_l 8 (mi_iload 1 1))))) (mt_n 13 (mt_n 12 (mt_l 9 (mi_goto 16)) (mt_l 12 (mi_aload 1 0))) (mt_n 16 (mt_l 13 (mi_get 6 5)) (mt_n 19 (mt_l 16 (mi_put 6 5 (.int))) (mt_l 19 (mi_vret)))))
theorem ms_69 (L : Nat) (xs : Nat → Int32) : mt_ok (mg L xs) 69 (mt_69) := mt_ok.n (mt_ok.n (mt_ok.n (mt_ok.l (mn_aload_n (k := 0) dd_69_0 rfl) (mi_aload_mn 1 0)) (mt_ok.l (mn_aload_n (k := 0) dd_69_1 rfl) (mi_aload_mn 1 0))) (mt_ok.n (mt_ok.l (mn_get (C := "TokenScannerModel") (T := mf_T6) (N := 21) dd_69_2 rfl (Nat.le_of_ble_eq_true rfl) mf_i6 hw_672) (mi_get_mn 6 5)) (mt_ok.n (mt_ok.l (mn_if_ge dd_69_5 (by decide)) (mi_if_mn _ _)) (mt_ok.l (mn_iload_n (k := 1) dd_69_8 rfl) (mi_iload_mn 1 1))))) (mt_ok.n (mt_ok.n (mt_ok.l (mn_goto dd_69_9 (by decide)) (mi_goto_mn 16)) (mt_ok.l (mn_aload_n (k := 0) dd_69_12 rfl) (mi_aload_mn 1 0))) (mt_ok.n (mt_ok.l (mn_get (C := "TokenScannerModel") (T := mf_T6) (N := 21) dd_69_13 rfl (Nat.le_of_ble_eq_true rfl) mf_i6 hw_672) (mi_get_mn 6 5)) (mt_ok.n (mt_ok.l (mn_put (C := "TokenScannerModel") (T := mf_T6) (N := 21) (host := "") mf_y6 dd_69_16 rfl (Nat.le_of_ble_eq_true rfl) mf_i6 mf_o6 mf_n6 hw_672 rfl (by decide +kernel)) (mi_put_mn 6 5 _)) (mt_ok.l (mn_vret dd_69_19 rfl) (mi_vret_mn)))))
theorem dd_70_0 : decode prog_9_method_13_code 0 = .ok (.aload_n 0, 1) := by decide +kernel
theorem dd_70_1 : decode prog_9_method_13_code 1 = .ok (.iload_n 1, 1) := by decide +kernel
theorem dd_70_2 : decode prog_9_method_13_code 2 = .ok (.invokevirtual 58, 3) := by decide +kernel
theorem dd_70_5 : decode prog_9_method_13_code 5 = .ok (.bipush 47, 2) := by decide +kernel
theorem dd_70_7 : decode prog_9_method_13_code 7 = .ok (.if_icmp .eq 5, 3) := by decide +kernel
theorem dd_70_10 : decode prog_9_method_13_code 10 = .ok (.iload_n 1, 1) := by decide +kernel
theorem dd_70_11 : decode prog_9_method_13_code 11 = .ok (.ireturn, 1) := by decide +kernel
theorem dd_70_12 : decode prog_9_method_13_code 12 = .ok (.iload_n 1, 1) := by decide +kernel
theorem dd_70_13 : decode prog_9_method_13_code 13 = .ok (.iconst 2, 1) := by decide +kernel
theorem dd_70_14 : decode prog_9_method_13_code 14 = .ok (.iadd, 1) := by decide +kernel
theorem dd_70_15 : decode prog_9_method_13_code 15 = .ok (.istore_n 2, 1) := by decide +kernel
theorem dd_70_16 : decode prog_9_method_13_code 16 = .ok (.aload_n 0, 1) := by decide +kernel
theorem dd_70_17 : decode prog_9_method_13_code 17 = .ok (.iload_n 1, 1) := by decide +kernel
theorem dd_70_18 : decode prog_9_method_13_code 18 = .ok (.iconst 1, 1) := by decide +kernel
theorem dd_70_19 : decode prog_9_method_13_code 19 = .ok (.iadd, 1) := by decide +kernel
theorem dd_70_20 : decode prog_9_method_13_code 20 = .ok (.invokevirtual 58, 3) := by decide +kernel
theorem dd_70_23 : decode prog_9_method_13_code 23 = .ok (.bipush 47, 2) := by decide +kernel
theorem dd_70_25 : decode prog_9_method_13_code 25 = .ok (.if_icmp .ne 31, 3) := by decide +kernel
theorem dd_70_28 : decode prog_9_method_13_code 28 = .ok (.iload_n 2, 1) := by decide +kernel
theorem dd_70_29 : decode prog_9_method_13_code 29 = .ok (.aload_n 0, 1) := by decide +kernel
theorem dd_70_30 : decode prog_9_method_13_code 30 = .ok (.getfield 39, 3) := by decide +kernel
theorem dd_70_33 : decode prog_9_method_13_code 33 = .ok (.if_icmp .ge 21, 3) := by decide +kernel
theorem dd_70_36 : decode prog_9_method_13_code 36 = .ok (.aload_n 0, 1) := by decide +kernel
theorem dd_70_37 : decode prog_9_method_13_code 37 = .ok (.getfield 7, 3) := by decide +kernel
theorem dd_70_40 : decode prog_9_method_13_code 40 = .ok (.iload_n 2, 1) := by decide +kernel
theorem dd_70_41 : decode prog_9_method_13_code 41 = .ok (.iaload, 1) := by decide +kernel
theorem dd_70_42 : decode prog_9_method_13_code 42 = .ok (.invokestatic 62, 3) := by decide +kernel
theorem dd_70_45 : decode prog_9_method_13_code 45 = .ok (.ifCond .ne 9, 3) := by decide +kernel
theorem dd_70_48 : decode prog_9_method_13_code 48 = .ok (.iinc 2 1, 3) := by decide +kernel
theorem dd_70_51 : decode prog_9_method_13_code 51 = .ok (.goto (-23), 3) := by decide +kernel
theorem dd_70_54 : decode prog_9_method_13_code 54 = .ok (.iload_n 2, 1) := by decide +kernel
theorem dd_70_55 : decode prog_9_method_13_code 55 = .ok (.ireturn, 1) := by decide +kernel
theorem dd_70_56 : decode prog_9_method_13_code 56 = .ok (.aload_n 0, 1) := by decide +kernel
theorem dd_70_57 : decode prog_9_method_13_code 57 = .ok (.iload_n 1, 1) := by decide +kernel
theorem dd_70_58 : decode prog_9_method_13_code 58 = .ok (.iconst 1, 1) := by decide +kernel
theorem dd_70_59 : decode prog_9_method_13_code 59 = .ok (.iadd, 1) := by decide +kernel
theorem dd_70_60 : decode prog_9_method_13_code 60 = .ok (.invokevirtual 58, 3) := by decide +kernel
theorem dd_70_63 : decode prog_9_method_13_code 63 = .ok (.bipush 42, 2) := by decide +kernel
theorem dd_70_65 : decode prog_9_method_13_code 65 = .ok (.if_icmp .eq 5, 3) := by decide +kernel
theorem dd_70_68 : decode prog_9_method_13_code 68 = .ok (.iload_n 1, 1) := by decide +kernel
theorem dd_70_69 : decode prog_9_method_13_code 69 = .ok (.ireturn, 1) := by decide +kernel
theorem dd_70_70 : decode prog_9_method_13_code 70 = .ok (.iload_n 2, 1) := by decide +kernel
theorem dd_70_71 : decode prog_9_method_13_code 71 = .ok (.aload_n 0, 1) := by decide +kernel
theorem dd_70_72 : decode prog_9_method_13_code 72 = .ok (.getfield 39, 3) := by decide +kernel
theorem dd_70_75 : decode prog_9_method_13_code 75 = .ok (.if_icmp .ge 56, 3) := by decide +kernel
theorem dd_70_78 : decode prog_9_method_13_code 78 = .ok (.aload_n 0, 1) := by decide +kernel
theorem dd_70_79 : decode prog_9_method_13_code 79 = .ok (.getfield 7, 3) := by decide +kernel
theorem dd_70_82 : decode prog_9_method_13_code 82 = .ok (.iload_n 2, 1) := by decide +kernel
theorem dd_70_83 : decode prog_9_method_13_code 83 = .ok (.iaload, 1) := by decide +kernel
theorem dd_70_84 : decode prog_9_method_13_code 84 = .ok (.bipush 42, 2) := by decide +kernel
theorem dd_70_86 : decode prog_9_method_13_code 86 = .ok (.if_icmp .ne 15, 3) := by decide +kernel
theorem dd_70_89 : decode prog_9_method_13_code 89 = .ok (.aload_n 0, 1) := by decide +kernel
theorem dd_70_90 : decode prog_9_method_13_code 90 = .ok (.iload_n 2, 1) := by decide +kernel
theorem dd_70_91 : decode prog_9_method_13_code 91 = .ok (.iconst 1, 1) := by decide +kernel
theorem dd_70_92 : decode prog_9_method_13_code 92 = .ok (.iadd, 1) := by decide +kernel
theorem dd_70_93 : decode prog_9_method_13_code 93 = .ok (.invokevirtual 58, 3) := by decide +kernel
theorem dd_70_96 : decode prog_9_method_13_code 96 = .ok (.bipush 47, 2) := by decide +kernel
theorem dd_70_98 : decode prog_9_method_13_code 98 = .ok (.if_icmp .eq 33, 3) := by decide +kernel
theorem dd_70_101 : decode prog_9_method_13_code 101 = .ok (.aload_n 0, 1) := by decide +kernel
theorem dd_70_102 : decode prog_9_method_13_code 102 = .ok (.aload_n 0, 1) := by decide +kernel
theorem dd_70_103 : decode prog_9_method_13_code 103 = .ok (.getfield 7, 3) := by decide +kernel
theorem dd_70_106 : decode prog_9_method_13_code 106 = .ok (.iload_n 2, 1) := by decide +kernel
theorem dd_70_107 : decode prog_9_method_13_code 107 = .ok (.iaload, 1) := by decide +kernel
theorem dd_70_108 : decode prog_9_method_13_code 108 = .ok (.invokestatic 62, 3) := by decide +kernel
theorem dd_70_111 : decode prog_9_method_13_code 111 = .ok (.ifCond .eq 7, 3) := by decide +kernel
theorem dd_70_114 : decode prog_9_method_13_code 114 = .ok (.iconst 1, 1) := by decide +kernel
theorem dd_70_115 : decode prog_9_method_13_code 115 = .ok (.goto 7, 3) := by decide +kernel
theorem dd_70_118 : decode prog_9_method_13_code 118 = .ok (.aload_n 0, 1) := by decide +kernel
theorem dd_70_119 : decode prog_9_method_13_code 119 = .ok (.getfield 65, 3) := by decide +kernel
theorem dd_70_122 : decode prog_9_method_13_code 122 = .ok (.putfield 65, 3) := by decide +kernel
theorem dd_70_125 : decode prog_9_method_13_code 125 = .ok (.iinc 2 1, 3) := by decide +kernel
theorem dd_70_128 : decode prog_9_method_13_code 128 = .ok (.goto (-58), 3) := by decide +kernel
theorem dd_70_131 : decode prog_9_method_13_code 131 = .ok (.iload_n 2, 1) := by decide +kernel
theorem dd_70_132 : decode prog_9_method_13_code 132 = .ok (.aload_n 0, 1) := by decide +kernel
theorem dd_70_133 : decode prog_9_method_13_code 133 = .ok (.getfield 39, 3) := by decide +kernel
theorem dd_70_136 : decode prog_9_method_13_code 136 = .ok (.if_icmp .ne 11, 3) := by decide +kernel
theorem dd_70_139 : decode prog_9_method_13_code 139 = .ok (.aload_n 0, 1) := by decide +kernel
theorem dd_70_140 : decode prog_9_method_13_code 140 = .ok (.aload_n 0, 1) := by decide +kernel
theorem dd_70_141 : decode prog_9_method_13_code 141 = .ok (.getfield 39, 3) := by decide +kernel
theorem dd_70_144 : decode prog_9_method_13_code 144 = .ok (.invokevirtual 68, 3) := by decide +kernel
theorem dd_70_147 : decode prog_9_method_13_code 147 = .ok (.iload_n 2, 1) := by decide +kernel
theorem dd_70_148 : decode prog_9_method_13_code 148 = .ok (.iconst 2, 1) := by decide +kernel
theorem dd_70_149 : decode prog_9_method_13_code 149 = .ok (.iadd, 1) := by decide +kernel
theorem dd_70_150 : decode prog_9_method_13_code 150 = .ok (.ireturn, 1) := by decide +kernel
def mt_70 : Nat → Option mv_S := mt_n 71 (mt_n 33 (mt_n 15 (mt_n 10 (mt_n 2 (mt_n 1 (mt_l 0 (mi_aload 1 0)) (mt_l 1 (mi_iload 1 1))) (mt_n 5 (mt_l 2 (mi_callV 6 66 2)) (mt_n 7 (mt_l 5 (mi_pure 2 (mo_push (.int 47)))) (mt_l 7 (mi_icmp (fun x y : Int32 => x = y) 12))))) (mt_n 12 (mt_n 11 (mt_l 10 (mi_iload 1 1)) (mt_l 11 (mi_iret))) (mt_n 13 (mt_l 12 (mi_iload 1 1)) (mt_n 14 (mt_l 13 (mi_pure 1 (mo_push (.int 2)))) (mt_l 14 (mi_pure 1 (mo_ii (fun x y => x + y)))))))) (mt_n 20 (mt_n 17 (mt_n 16 (mt_l 15 (mi_istore 1 2)) (mt_l 16 (mi_aload 1 0))) (mt_n 18 (mt_l 17 (mi_iload 1 1)) (mt_n 19 (mt_l 18 (mi_pure 1 (mo_push (.int 1)))) (mt_l 19 (mi_pure 1 (mo_ii (fun x y => x + y))))))) (mt_n 28 (mt_n 23 (mt_l 20 (mi_callV 6 66 2)) (mt_n 25 (mt_l 23 (mi_pure 2 (mo_push (.int 47)))) (mt_l 25 (mi_icmp (fun x y : Int32 => ¬ x = y) 56)))) (mt_n 29 (mt_l 28 (mi_iload 1 2)) (mt_n 30 (mt_l 29 (mi_aload 1 0)) (mt_l 30 (mi_get 6 2))))))) (mt_n 55 (mt_n 42 (mt_n 37 (mt_n 36 (mt_l 33 (mi_icmp (fun x y : Int32 => y ≤ x) 54)) (mt_l 36 (mi_aload 1 0))) (mt_n 40 (mt_l 37 (mi_get 6 1)) (mt_n 41 (mt_l 40 (mi_iload 1 2)) (mt_l 41 (mi_iald))))) (mt_n 48 (mt_n 45 (mt_l 42 (mi_callS 68 1)) (mt_l 45 (mi_if (fun x : Int32 => ¬ x = 0) 54))) (mt_n 51 (mt_l 48 (mi_iinc 2 1)) (mt_n 54 (mt_l 51 (mi_goto 28)) (mt_l 54 (mi_iload 1 2)))))) (mt_n 60 (mt_n 57 (mt_n 56 (mt_l 55 (mi_iret)) (mt_l 56 (mi_aload 1 0))) (mt_n 58 (mt_l 57 (mi_iload 1 1)) (mt_n 59 (mt_l 58 (mi_pure 1 (mo_push (.int 1)))) (mt_l 59 (mi_pure 1 (mo_ii (fun x y => x + y))))))) (mt_n 68 (mt_n 63 (mt_l 60 (mi_callV 6 66 2)) (mt_n 65 (mt_l 63 (mi_pure 2 (mo_push (.int 42)))) (mt_l 65 (mi_icmp (fun x y : Int32 => x = y) 70)))) (mt_n 69 (mt_l 68 (mi_iload 1 1)) (mt_n 70 (mt_l 69 (mi_iret)) (mt_l 70 (mi_iload 1 2)))))))) (mt_n 108 (mt_n 90 (mt_n 82 (mt_n 75 (mt_n 72 (mt_l 71 (mi_aload 1 0)) (mt_l 72 (mi_get 6 2))) (mt_n 78 (mt_l 75 (mi_icmp (fun x y : Int32 => y ≤ x) 131)) (mt_n 79 (mt_l 78 (mi_aload 1 0)) (mt_l 79 (mi_get 6 1))))) (mt_n 84 (mt_n 83 (mt_l 82 (mi_iload 1 2)) (mt_l 83 (mi_iald))) (mt_n 86 (mt_l 84 (mi_pure 2 (mo_push (.int 42)))) (mt_n 89 (mt_l 86 (mi_icmp (fun x y : Int32 => ¬ x = y) 101)) (mt_l 89 (mi_aload 1 0)))))) (mt_n 98 (mt_n 92 (mt_n 91 (mt_l 90 (mi_iload 1 2)) (mt_l 91 (mi_pure 1 (mo_push (.int 1))))) (mt_n 93 (mt_l 92 (mi_pure 1 (mo_ii (fun x y => x + y)))) (mt_n 96 (mt_l 93 (mi_callV 6 66 2)) (mt_l 96 (mi_pure 2 (mo_push (.int 47))))))) (mt_n 103 (mt_n 101 (mt_l 98 (mi_icmp (fun x y : Int32 => x = y) 131)) (mt_n 102 (mt_l 101 (mi_aload 1 0)) (mt_l 102 (mi_aload 1 0)))) (mt_n 106 (mt_l 103 (mi_get 6 1)) (mt_n 107 (mt_l 106 (mi_iload 1 2)) (mt_l 107 (mi_iald))))))) (mt_n 132 (mt_n 119 (mt_n 114 (mt_n 111 (mt_l 108 (mi_callS 68 1)) (mt_l 111 (mi_if (fun x : Int32 => x = 0) 118))) (mt_n 115 (mt_l 114 (mi_pure 1 (mo_push (.int 1)))) (mt_n 118 (mt_l 115 (mi_goto 122)) (mt_l 118 (mi_aload 1 0))))) (mt_n 125 (mt_n 122 (mt_l 119 (mi_get 6 9)) (mt_l 122 (mi_put 6 9 (.int)))) (mt_n 128 (mt_l 125 (mi_iinc 2 1)) (mt_n 131 (mt_l 128 (mi_goto 70)) (mt_l 131 (mi_iload 1 2)))))) (mt_n 141 (mt_n 136 (mt_n 133 (mt_l 132 (mi_aload 1 0)) (mt_l 133 (mi_get 6 2))) (mt_n 139 (mt_l 136 (mi_icmp (fun x y : Int32 => ¬ x = y) 147)) (mt_n 140 (mt_l 139 (mi_aload 1 0)) (mt_l 140 (mi_aload 1 0))))) (mt_n 148 (mt_n 144 (mt_l 141 (mi_get 6 2)) (mt_n 147 (mt_l 144 (mi_callV 6 69 2)) (mt_l 147 (mi_iload 1 2)))) (mt_n 149 (mt_l 148 (mi_pure 1 (mo_push (.int 2)))) (mt_n 150 (mt_l 149 (mi_pure 1 (mo_ii (fun x y => x + y)))) (mt_l 150 (mi_iret))))))))
theorem ms_70 (L : Nat) (xs : Nat → Int32) : mt_ok (mg L xs) 70 (mt_70) := mt_ok.n (mt_ok.n (mt_ok.n (mt_ok.n (mt_ok.n (mt_ok.n (mt_ok.l (mn_aload_n (k := 0) dd_70_0 rfl) (mi_aload_mn 1 0)) (mt_ok.l (mn_iload_n (k := 1) dd_70_1 rfl) (mi_iload_mn 1 1))) (mt_ok.n (mt_ok.l (mn_callV (y := 70) (pc := 2) (z := 66) (mg_Ok L xs) (C := "TokenScannerModel") (T0 := mf_T6) (N := 21) dd_70_2 rfl (mv_Hn.none rfl (fun _ => rfl)) (mc_70_66 L xs) hw_756 hw_758 hs_29 mq_66.1) (mi_callV_mn 6 66 2)) (mt_ok.n (mt_ok.l (mn_bipush dd_70_5 (by decide)) (mi_pure_mn 2 _)) (mt_ok.l (mn_icmp_eq dd_70_7 (by decide)) (mi_icmp_mn _ _))))) (mt_ok.n (mt_ok.n (mt_ok.l (mn_iload_n (k := 1) dd_70_10 rfl) (mi_iload_mn 1 1)) (mt_ok.l (mn_iret dd_70_11 rfl) (mi_iret_mn))) (mt_ok.n (mt_ok.l (mn_iload_n (k := 1) dd_70_12 rfl) (mi_iload_mn 1 1)) (mt_ok.n (mt_ok.l (mn_iconst dd_70_13 (by decide)) (mi_pure_mn 1 _)) (mt_ok.l (mn_iadd dd_70_14) (mi_pure_mn 1 _)))))) (mt_ok.n (mt_ok.n (mt_ok.n (mt_ok.l (mn_istore_n (k := 2) dd_70_15 rfl (Nat.le_of_ble_eq_true rfl)) (mi_istore_mn 1 2)) (mt_ok.l (mn_aload_n (k := 0) dd_70_16 rfl) (mi_aload_mn 1 0))) (mt_ok.n (mt_ok.l (mn_iload_n (k := 1) dd_70_17 rfl) (mi_iload_mn 1 1)) (mt_ok.n (mt_ok.l (mn_iconst dd_70_18 (by decide)) (mi_pure_mn 1 _)) (mt_ok.l (mn_iadd dd_70_19) (mi_pure_mn 1 _))))) (mt_ok.n (mt_ok.n (mt_ok.l (mn_callV (y := 70) (pc := 20) (z := 66) (mg_Ok L xs) (C := "TokenScannerModel") (T0 := mf_T6) (N := 21) dd_70_20 rfl (mv_Hn.none rfl (fun _ => rfl)) (mc_70_66 L xs) hw_756 hw_758 hs_29 mq_66.1) (mi_callV_mn 6 66 2)) (mt_ok.n (mt_ok.l (mn_bipush dd_70_23 (by decide)) (mi_pure_mn 2 _)) (mt_ok.l (mn_icmp_ne dd_70_25 (by decide)) (mi_icmp_mn _ _)))) (mt_ok.n (mt_ok.l (mn_iload_n (k := 2) dd_70_28 rfl) (mi_iload_mn 1 2)) (mt_ok.n (mt_ok.l (mn_aload_n (k := 0) dd_70_29 rfl) (mi_aload_mn 1 0)) (mt_ok.l (mn_get (C := "TokenScannerModel") (T := mf_T6) (N := 21) dd_70_30 rfl (Nat.le_of_ble_eq_true rfl) mf_i6 hw_669) (mi_get_mn 6 2))))))) (mt_ok.n (mt_ok.n (mt_ok.n (mt_ok.n (mt_ok.l (mn_icmp_ge dd_70_33 (by decide)) (mi_icmp_mn _ _)) (mt_ok.l (mn_aload_n (k := 0) dd_70_36 rfl) (mi_aload_mn 1 0))) (mt_ok.n (mt_ok.l (mn_get (C := "TokenScannerModel") (T := mf_T6) (N := 21) dd_70_37 rfl (Nat.le_of_ble_eq_true rfl) mf_i6 hw_668) (mi_get_mn 6 1)) (mt_ok.n (mt_ok.l (mn_iload_n (k := 2) dd_70_40 rfl) (mi_iload_mn 1 2)) (mt_ok.l (mn_iald dd_70_41 rfl) (mi_iald_mn))))) (mt_ok.n (mt_ok.n (mt_ok.l (mn_callS (y := 70) (pc := 42) (z := 68) (mg_Ok L xs) dd_70_42 (mv_Hn.none rfl (fun _ => rfl)) (mc_70_68 L xs) hw_763 hw_764 mq_68.1) (mi_callS_mn 68 1)) (mt_ok.l (mn_if_ne dd_70_45 (by decide)) (mi_if_mn _ _))) (mt_ok.n (mt_ok.l (mn_iinc dd_70_48 (by decide) (Nat.le_of_ble_eq_true rfl)) (mi_iinc_mn 2 _)) (mt_ok.n (mt_ok.l (mn_goto dd_70_51 (by decide)) (mi_goto_mn 28)) (mt_ok.l (mn_iload_n (k := 2) dd_70_54 rfl) (mi_iload_mn 1 2)))))) (mt_ok.n (mt_ok.n (mt_ok.n (mt_ok.l (mn_iret dd_70_55 rfl) (mi_iret_mn)) (mt_ok.l (mn_aload_n (k := 0) dd_70_56 rfl) (mi_aload_mn 1 0))) (mt_ok.n (mt_ok.l (mn_iload_n (k := 1) dd_70_57 rfl) (mi_iload_mn 1 1)) (mt_ok.n (mt_ok.l (mn_iconst dd_70_58 (by decide)) (mi_pure_mn 1 _)) (mt_ok.l (mn_iadd dd_70_59) (mi_pure_mn 1 _))))) (mt_ok.n (mt_ok.n (mt_ok.l (mn_callV (y := 70) (pc := 60) (z := 66) (mg_Ok L xs) (C := "TokenScannerModel") (T0 := mf_T6) (N := 21) dd_70_60 rfl (mv_Hn.none rfl (fun _ => rfl)) (mc_70_66 L xs) hw_756 hw_758 hs_29 mq_66.1) (mi_callV_mn 6 66 2)) (mt_ok.n (mt_ok.l (mn_bipush dd_70_63 (by decide)) (mi_pure_mn 2 _)) (mt_ok.l (mn_icmp_eq dd_70_65 (by decide)) (mi_icmp_mn _ _)))) (mt_ok.n (mt_ok.l (mn_iload_n (k := 1) dd_70_68 rfl) (mi_iload_mn 1 1)) (mt_ok.n (mt_ok.l (mn_iret dd_70_69 rfl) (mi_iret_mn)) (mt_ok.l (mn_iload_n (k := 2) dd_70_70 rfl) (mi_iload_mn 1 2)))))))) (mt_ok.n (mt_ok.n (mt_ok.n (mt_ok.n (mt_ok.n (mt_ok.l (mn_aload_n (k := 0) dd_70_71 rfl) (mi_aload_mn 1 0)) (mt_ok.l (mn_get (C := "TokenScannerModel") (T := mf_T6) (N := 21) dd_70_72 rfl (Nat.le_of_ble_eq_true rfl) mf_i6 hw_669) (mi_get_mn 6 2))) (mt_ok.n (mt_ok.l (mn_icmp_ge dd_70_75 (by decide)) (mi_icmp_mn _ _)) (mt_ok.n (mt_ok.l (mn_aload_n (k := 0) dd_70_78 rfl) (mi_aload_mn 1 0)) (mt_ok.l (mn_get (C := "TokenScannerModel") (T := mf_T6) (N := 21) dd_70_79 rfl (Nat.le_of_ble_eq_true rfl) mf_i6 hw_668) (mi_get_mn 6 1))))) (mt_ok.n (mt_ok.n (mt_ok.l (mn_iload_n (k := 2) dd_70_82 rfl) (mi_iload_mn 1 2)) (mt_ok.l (mn_iald dd_70_83 rfl) (mi_iald_mn))) (mt_ok.n (mt_ok.l (mn_bipush dd_70_84 (by decide)) (mi_pure_mn 2 _)) (mt_ok.n (mt_ok.l (mn_icmp_ne dd_70_86 (by decide)) (mi_icmp_mn _ _)) (mt_ok.l (mn_aload_n (k := 0) dd_70_89 rfl) (mi_aload_mn 1 0)))))) (mt_ok.n (mt_ok.n (mt_ok.n (mt_ok.l (mn_iload_n (k := 2) dd_70_90 rfl) (mi_iload_mn 1 2)) (mt_ok.l (mn_iconst dd_70_91 (by decide)) (mi_pure_mn 1 _))) (mt_ok.n (mt_ok.l (mn_iadd dd_70_92) (mi_pure_mn 1 _)) (mt_ok.n (mt_ok.l (mn_callV (y := 70) (pc := 93) (z := 66) (mg_Ok L xs) (C := "TokenScannerModel") (T0 := mf_T6) (N := 21) dd_70_93 rfl (mv_Hn.none rfl (fun _ => rfl)) (mc_70_66 L xs) hw_756 hw_758 hs_29 mq_66.1) (mi_callV_mn 6 66 2)) (mt_ok.l (mn_bipush dd_70_96 (by decide)) (mi_pure_mn 2 _))))) (mt_ok.n (mt_ok.n (mt_ok.l (mn_icmp_eq dd_70_98 (by decide)) (mi_icmp_mn _ _)) (mt_ok.n (mt_ok.l (mn_aload_n (k := 0) dd_70_101 rfl) (mi_aload_mn 1 0)) (mt_ok.l (mn_aload_n (k := 0) dd_70_102 rfl) (mi_aload_mn 1 0)))) (mt_ok.n (mt_ok.l (mn_get (C := "TokenScannerModel") (T := mf_T6) (N := 21) dd_70_103 rfl (Nat.le_of_ble_eq_true rfl) mf_i6 hw_668) (mi_get_mn 6 1)) (mt_ok.n (mt_ok.l (mn_iload_n (k := 2) dd_70_106 rfl) (mi_iload_mn 1 2)) (mt_ok.l (mn_iald dd_70_107 rfl) (mi_iald_mn))))))) (mt_ok.n (mt_ok.n (mt_ok.n (mt_ok.n (mt_ok.l (mn_callS (y := 70) (pc := 108) (z := 68) (mg_Ok L xs) dd_70_108 (mv_Hn.none rfl (fun _ => rfl)) (mc_70_68 L xs) hw_763 hw_764 mq_68.1) (mi_callS_mn 68 1)) (mt_ok.l (mn_if_eq dd_70_111 (by decide)) (mi_if_mn _ _))) (mt_ok.n (mt_ok.l (mn_iconst dd_70_114 (by decide)) (mi_pure_mn 1 _)) (mt_ok.n (mt_ok.l (mn_goto dd_70_115 (by decide)) (mi_goto_mn 122)) (mt_ok.l (mn_aload_n (k := 0) dd_70_118 rfl) (mi_aload_mn 1 0))))) (mt_ok.n (mt_ok.n (mt_ok.l (mn_get (C := "TokenScannerModel") (T := mf_T6) (N := 21) dd_70_119 rfl (Nat.le_of_ble_eq_true rfl) mf_i6 hw_676) (mi_get_mn 6 9)) (mt_ok.l (mn_put (C := "TokenScannerModel") (T := mf_T6) (N := 21) (host := "") mf_y6 dd_70_122 rfl (Nat.le_of_ble_eq_true rfl) mf_i6 mf_o6 mf_n6 hw_676 rfl (by decide +kernel)) (mi_put_mn 6 9 _))) (mt_ok.n (mt_ok.l (mn_iinc dd_70_125 (by decide) (Nat.le_of_ble_eq_true rfl)) (mi_iinc_mn 2 _)) (mt_ok.n (mt_ok.l (mn_goto dd_70_128 (by decide)) (mi_goto_mn 70)) (mt_ok.l (mn_iload_n (k := 2) dd_70_131 rfl) (mi_iload_mn 1 2)))))) (mt_ok.n (mt_ok.n (mt_ok.n (mt_ok.l (mn_aload_n (k := 0) dd_70_132 rfl) (mi_aload_mn 1 0)) (mt_ok.l (mn_get (C := "TokenScannerModel") (T := mf_T6) (N := 21) dd_70_133 rfl (Nat.le_of_ble_eq_true rfl) mf_i6 hw_669) (mi_get_mn 6 2))) (mt_ok.n (mt_ok.l (mn_icmp_ne dd_70_136 (by decide)) (mi_icmp_mn _ _)) (mt_ok.n (mt_ok.l (mn_aload_n (k := 0) dd_70_139 rfl) (mi_aload_mn 1 0)) (mt_ok.l (mn_aload_n (k := 0) dd_70_140 rfl) (mi_aload_mn 1 0))))) (mt_ok.n (mt_ok.n (mt_ok.l (mn_get (C := "TokenScannerModel") (T := mf_T6) (N := 21) dd_70_141 rfl (Nat.le_of_ble_eq_true rfl) mf_i6 hw_669) (mi_get_mn 6 2)) (mt_ok.n (mt_ok.l (mn_callV (y := 70) (pc := 144) (z := 69) (mg_Ok L xs) (C := "TokenScannerModel") (T0 := mf_T6) (N := 21) dd_70_144 rfl (mv_Hn.none rfl (fun _ => rfl)) (mc_70_69 L xs) hw_770 hw_772 hs_31 mq_69.1) (mi_callV_mn 6 69 2)) (mt_ok.l (mn_iload_n (k := 2) dd_70_147 rfl) (mi_iload_mn 1 2)))) (mt_ok.n (mt_ok.l (mn_iconst dd_70_148 (by decide)) (mi_pure_mn 1 _)) (mt_ok.n (mt_ok.l (mn_iadd dd_70_149) (mi_pure_mn 1 _)) (mt_ok.l (mn_iret dd_70_150 rfl) (mi_iret_mn))))))))
theorem dd_71_0 : decode prog_9_method_14_code 0 = .ok (.aload_n 0, 1) := by decide +kernel
theorem dd_71_1 : decode prog_9_method_14_code 1 = .ok (.iconst 0, 1) := by decide +kernel
theorem dd_71_2 : decode prog_9_method_14_code 2 = .ok (.putfield 65, 3) := by decide +kernel
theorem dd_71_5 : decode prog_9_method_14_code 5 = .ok (.iconst (-1), 1) := by decide +kernel
theorem dd_71_6 : decode prog_9_method_14_code 6 = .ok (.istore_n 1, 1) := by decide +kernel
theorem dd_71_7 : decode prog_9_method_14_code 7 = .ok (.iload_n 1, 1) := by decide +kernel
theorem dd_71_8 : decode prog_9_method_14_code 8 = .ok (.aload_n 0, 1) := by decide +kernel
theorem dd_71_9 : decode prog_9_method_14_code 9 = .ok (.getfield 72, 3) := by decide +kernel
theorem dd_71_12 : decode prog_9_method_14_code 12 = .ok (.if_icmp .eq 98, 3) := by decide +kernel
theorem dd_71_15 : decode prog_9_method_14_code 15 = .ok (.aload_n 0, 1) := by decide +kernel
theorem dd_71_16 : decode prog_9_method_14_code 16 = .ok (.getfield 52, 3) := by decide +kernel
theorem dd_71_19 : decode prog_9_method_14_code 19 = .ok (.ifCond .ge 91, 3) := by decide +kernel
theorem dd_71_22 : decode prog_9_method_14_code 22 = .ok (.aload_n 0, 1) := by decide +kernel
theorem dd_71_23 : decode prog_9_method_14_code 23 = .ok (.getfield 72, 3) := by decide +kernel
theorem dd_71_26 : decode prog_9_method_14_code 26 = .ok (.istore_n 1, 1) := by decide +kernel
theorem dd_71_27 : decode prog_9_method_14_code 27 = .ok (.aload_n 0, 1) := by decide +kernel
theorem dd_71_28 : decode prog_9_method_14_code 28 = .ok (.aload_n 0, 1) := by decide +kernel
theorem dd_71_29 : decode prog_9_method_14_code 29 = .ok (.getfield 72, 3) := by decide +kernel
theorem dd_71_32 : decode prog_9_method_14_code 32 = .ok (.invokevirtual 58, 3) := by decide +kernel
theorem dd_71_35 : decode prog_9_method_14_code 35 = .ok (.invokestatic 75, 3) := by decide +kernel
theorem dd_71_38 : decode prog_9_method_14_code 38 = .ok (.ifCond .ne 17, 3) := by decide +kernel
theorem dd_71_41 : decode prog_9_method_14_code 41 = .ok (.aload_n 0, 1) := by decide +kernel
theorem dd_71_42 : decode prog_9_method_14_code 42 = .ok (.aload_n 0, 1) := by decide +kernel
theorem dd_71_43 : decode prog_9_method_14_code 43 = .ok (.getfield 72, 3) := by decide +kernel
theorem dd_71_46 : decode prog_9_method_14_code 46 = .ok (.invokevirtual 58, 3) := by decide +kernel
theorem dd_71_49 : decode prog_9_method_14_code 49 = .ok (.invokestatic 62, 3) := by decide +kernel
theorem dd_71_52 : decode prog_9_method_14_code 52 = .ok (.ifCond .eq 43, 3) := by decide +kernel
theorem dd_71_55 : decode prog_9_method_14_code 55 = .ok (.aload_n 0, 1) := by decide +kernel
theorem dd_71_56 : decode prog_9_method_14_code 56 = .ok (.aload_n 0, 1) := by decide +kernel
theorem dd_71_57 : decode prog_9_method_14_code 57 = .ok (.getfield 7, 3) := by decide +kernel
theorem dd_71_60 : decode prog_9_method_14_code 60 = .ok (.aload_n 0, 1) := by decide +kernel
theorem dd_71_61 : decode prog_9_method_14_code 61 = .ok (.getfield 72, 3) := by decide +kernel
theorem dd_71_64 : decode prog_9_method_14_code 64 = .ok (.iaload, 1) := by decide +kernel
theorem dd_71_65 : decode prog_9_method_14_code 65 = .ok (.invokestatic 62, 3) := by decide +kernel
theorem dd_71_68 : decode prog_9_method_14_code 68 = .ok (.ifCond .eq 7, 3) := by decide +kernel
theorem dd_71_71 : decode prog_9_method_14_code 71 = .ok (.iconst 1, 1) := by decide +kernel
theorem dd_71_72 : decode prog_9_method_14_code 72 = .ok (.goto 7, 3) := by decide +kernel
theorem dd_71_75 : decode prog_9_method_14_code 75 = .ok (.aload_n 0, 1) := by decide +kernel
theorem dd_71_76 : decode prog_9_method_14_code 76 = .ok (.getfield 65, 3) := by decide +kernel
theorem dd_71_79 : decode prog_9_method_14_code 79 = .ok (.putfield 65, 3) := by decide +kernel
theorem dd_71_82 : decode prog_9_method_14_code 82 = .ok (.aload_n 0, 1) := by decide +kernel
theorem dd_71_83 : decode prog_9_method_14_code 83 = .ok (.dup, 1) := by decide +kernel
theorem dd_71_84 : decode prog_9_method_14_code 84 = .ok (.getfield 72, 3) := by decide +kernel
theorem dd_71_87 : decode prog_9_method_14_code 87 = .ok (.iconst 1, 1) := by decide +kernel
theorem dd_71_88 : decode prog_9_method_14_code 88 = .ok (.iadd, 1) := by decide +kernel
theorem dd_71_89 : decode prog_9_method_14_code 89 = .ok (.putfield 72, 3) := by decide +kernel
theorem dd_71_92 : decode prog_9_method_14_code 92 = .ok (.goto (-65), 3) := by decide +kernel
theorem dd_71_95 : decode prog_9_method_14_code 95 = .ok (.aload_n 0, 1) := by decide +kernel
theorem dd_71_96 : decode prog_9_method_14_code 96 = .ok (.aload_n 0, 1) := by decide +kernel
theorem dd_71_97 : decode prog_9_method_14_code 97 = .ok (.aload_n 0, 1) := by decide +kernel
theorem dd_71_98 : decode prog_9_method_14_code 98 = .ok (.getfield 72, 3) := by decide +kernel
theorem dd_71_101 : decode prog_9_method_14_code 101 = .ok (.invokevirtual 78, 3) := by decide +kernel
theorem dd_71_104 : decode prog_9_method_14_code 104 = .ok (.putfield 72, 3) := by decide +kernel
theorem dd_71_107 : decode prog_9_method_14_code 107 = .ok (.goto (-100), 3) := by decide +kernel
theorem dd_71_110 : decode prog_9_method_14_code 110 = .ok (.return_, 1) := by decide +kernel
def mt_71 : Nat → Option mv_S := mt_n 55 (mt_n 23 (mt_n 8 (mt_n 5 (mt_n 1 (mt_l 0 (mi_aload 1 0)) (mt_n 2 (mt_l 1 (mi_pure 1 (mo_push (.int 0)))) (mt_l 2 (mi_put 6 9 (.int))))) (mt_n 6 (mt_l 5 (mi_pure 1 (mo_push (.int (-1))))) (mt_n 7 (mt_l 6 (mi_istore 1 1)) (mt_l 7 (mi_iload 1 1))))) (mt_n 15 (mt_n 9 (mt_l 8 (mi_aload 1 0)) (mt_n 12 (mt_l 9 (mi_get 6 6)) (mt_l 12 (mi_icmp (fun x y : Int32 => x = y) 110)))) (mt_n 19 (mt_n 16 (mt_l 15 (mi_aload 1 0)) (mt_l 16 (mi_get 6 5))) (mt_n 22 (mt_l 19 (mi_if (fun x : Int32 => 0 ≤ x) 110)) (mt_l 22 (mi_aload 1 0)))))) (mt_n 38 (mt_n 28 (mt_n 26 (mt_l 23 (mi_get 6 6)) (mt_n 27 (mt_l 26 (mi_istore 1 1)) (mt_l 27 (mi_aload 1 0)))) (mt_n 32 (mt_n 29 (mt_l 28 (mi_aload 1 0)) (mt_l 29 (mi_get 6 6))) (mt_n 35 (mt_l 32 (mi_callV 6 66 2)) (mt_l 35 (mi_callS 67 1))))) (mt_n 43 (mt_n 41 (mt_l 38 (mi_if (fun x : Int32 => ¬ x = 0) 55)) (mt_n 42 (mt_l 41 (mi_aload 1 0)) (mt_l 42 (mi_aload 1 0)))) (mt_n 49 (mt_n 46 (mt_l 43 (mi_get 6 6)) (mt_l 46 (mi_callV 6 66 2))) (mt_n 52 (mt_l 49 (mi_callS 68 1)) (mt_l 52 (mi_if (fun x : Int32 => x = 0) 95))))))) (mt_n 83 (mt_n 68 (mt_n 60 (mt_n 56 (mt_l 55 (mi_aload 1 0)) (mt_n 57 (mt_l 56 (mi_aload 1 0)) (mt_l 57 (mi_get 6 1)))) (mt_n 64 (mt_n 61 (mt_l 60 (mi_aload 1 0)) (mt_l 61 (mi_get 6 6))) (mt_n 65 (mt_l 64 (mi_iald)) (mt_l 65 (mi_callS 68 1))))) (mt_n 75 (mt_n 71 (mt_l 68 (mi_if (fun x : Int32 => x = 0) 75)) (mt_n 72 (mt_l 71 (mi_pure 1 (mo_push (.int 1)))) (mt_l 72 (mi_goto 79)))) (mt_n 79 (mt_n 76 (mt_l 75 (mi_aload 1 0)) (mt_l 76 (mi_get 6 9))) (mt_n 82 (mt_l 79 (mi_put 6 9 (.int))) (mt_l 82 (mi_aload 1 0)))))) (mt_n 96 (mt_n 88 (mt_n 84 (mt_l 83 (mi_pure 1 mo_dup)) (mt_n 87 (mt_l 84 (mi_get 6 6)) (mt_l 87 (mi_pure 1 (mo_push (.int 1)))))) (mt_n 92 (mt_n 89 (mt_l 88 (mi_pure 1 (mo_ii (fun x y => x + y)))) (mt_l 89 (mi_put 6 6 (.int)))) (mt_n 95 (mt_l 92 (mi_goto 27)) (mt_l 95 (mi_aload 1 0))))) (mt_n 101 (mt_n 97 (mt_l 96 (mi_aload 1 0)) (mt_n 98 (mt_l 97 (mi_aload 1 0)) (mt_l 98 (mi_get 6 6)))) (mt_n 107 (mt_n 104 (mt_l 101 (mi_callV 6 70 2)) (mt_l 104 (mi_put 6 6 (.int)))) (mt_n 110 (mt_l 107 (mi_goto 7)) (mt_l 110 (mi_vret)))))))
theorem ms_71 (L : Nat) (xs : Nat → Int32) : mt_ok (mg L xs) 71 (mt_71) := mt_ok.n (mt_ok.n (mt_ok.n (mt_ok.n (mt_ok.n (mt_ok.l (mn_aload_n (k := 0) dd_71_0 rfl) (mi_aload_mn 1 0)) (mt_ok.n (mt_ok.l (mn_iconst dd_71_1 (by decide)) (mi_pure_mn 1 _)) (mt_ok.l (mn_put (C := "TokenScannerModel") (T := mf_T6) (N := 21) (host := "") mf_y6 dd_71_2 rfl (Nat.le_of_ble_eq_true rfl) mf_i6 mf_o6 mf_n6 hw_676 rfl (by decide +kernel)) (mi_put_mn 6 9 _)))) (mt_ok.n (mt_ok.l (mn_iconst dd_71_5 (by decide)) (mi_pure_mn 1 _)) (mt_ok.n (mt_ok.l (mn_istore_n (k := 1) dd_71_6 rfl (Nat.le_of_ble_eq_true rfl)) (mi_istore_mn 1 1)) (mt_ok.l (mn_iload_n (k := 1) dd_71_7 rfl) (mi_iload_mn 1 1))))) (mt_ok.n (mt_ok.n (mt_ok.l (mn_aload_n (k := 0) dd_71_8 rfl) (mi_aload_mn 1 0)) (mt_ok.n (mt_ok.l (mn_get (C := "TokenScannerModel") (T := mf_T6) (N := 21) dd_71_9 rfl (Nat.le_of_ble_eq_true rfl) mf_i6 hw_673) (mi_get_mn 6 6)) (mt_ok.l (mn_icmp_eq dd_71_12 (by decide)) (mi_icmp_mn _ _)))) (mt_ok.n (mt_ok.n (mt_ok.l (mn_aload_n (k := 0) dd_71_15 rfl) (mi_aload_mn 1 0)) (mt_ok.l (mn_get (C := "TokenScannerModel") (T := mf_T6) (N := 21) dd_71_16 rfl (Nat.le_of_ble_eq_true rfl) mf_i6 hw_672) (mi_get_mn 6 5))) (mt_ok.n (mt_ok.l (mn_if_ge dd_71_19 (by decide)) (mi_if_mn _ _)) (mt_ok.l (mn_aload_n (k := 0) dd_71_22 rfl) (mi_aload_mn 1 0)))))) (mt_ok.n (mt_ok.n (mt_ok.n (mt_ok.l (mn_get (C := "TokenScannerModel") (T := mf_T6) (N := 21) dd_71_23 rfl (Nat.le_of_ble_eq_true rfl) mf_i6 hw_673) (mi_get_mn 6 6)) (mt_ok.n (mt_ok.l (mn_istore_n (k := 1) dd_71_26 rfl (Nat.le_of_ble_eq_true rfl)) (mi_istore_mn 1 1)) (mt_ok.l (mn_aload_n (k := 0) dd_71_27 rfl) (mi_aload_mn 1 0)))) (mt_ok.n (mt_ok.n (mt_ok.l (mn_aload_n (k := 0) dd_71_28 rfl) (mi_aload_mn 1 0)) (mt_ok.l (mn_get (C := "TokenScannerModel") (T := mf_T6) (N := 21) dd_71_29 rfl (Nat.le_of_ble_eq_true rfl) mf_i6 hw_673) (mi_get_mn 6 6))) (mt_ok.n (mt_ok.l (mn_callV (y := 71) (pc := 32) (z := 66) (mg_Ok L xs) (C := "TokenScannerModel") (T0 := mf_T6) (N := 21) dd_71_32 rfl (mv_Hn.none rfl (fun _ => rfl)) (mc_71_66 L xs) hw_756 hw_758 hs_29 mq_66.1) (mi_callV_mn 6 66 2)) (mt_ok.l (mn_callS (y := 71) (pc := 35) (z := 67) (mg_Ok L xs) dd_71_35 (mv_Hn.none rfl (fun _ => rfl)) (mc_71_67 L xs) hw_760 hw_761 mq_67.1) (mi_callS_mn 67 1))))) (mt_ok.n (mt_ok.n (mt_ok.l (mn_if_ne dd_71_38 (by decide)) (mi_if_mn _ _)) (mt_ok.n (mt_ok.l (mn_aload_n (k := 0) dd_71_41 rfl) (mi_aload_mn 1 0)) (mt_ok.l (mn_aload_n (k := 0) dd_71_42 rfl) (mi_aload_mn 1 0)))) (mt_ok.n (mt_ok.n (mt_ok.l (mn_get (C := "TokenScannerModel") (T := mf_T6) (N := 21) dd_71_43 rfl (Nat.le_of_ble_eq_true rfl) mf_i6 hw_673) (mi_get_mn 6 6)) (mt_ok.l (mn_callV (y := 71) (pc := 46) (z := 66) (mg_Ok L xs) (C := "TokenScannerModel") (T0 := mf_T6) (N := 21) dd_71_46 rfl (mv_Hn.none rfl (fun _ => rfl)) (mc_71_66 L xs) hw_756 hw_758 hs_29 mq_66.1) (mi_callV_mn 6 66 2))) (mt_ok.n (mt_ok.l (mn_callS (y := 71) (pc := 49) (z := 68) (mg_Ok L xs) dd_71_49 (mv_Hn.none rfl (fun _ => rfl)) (mc_71_68 L xs) hw_763 hw_764 mq_68.1) (mi_callS_mn 68 1)) (mt_ok.l (mn_if_eq dd_71_52 (by decide)) (mi_if_mn _ _))))))) (mt_ok.n (mt_ok.n (mt_ok.n (mt_ok.n (mt_ok.l (mn_aload_n (k := 0) dd_71_55 rfl) (mi_aload_mn 1 0)) (mt_ok.n (mt_ok.l (mn_aload_n (k := 0) dd_71_56 rfl) (mi_aload_mn 1 0)) (mt_ok.l (mn_get (C := "TokenScannerModel") (T := mf_T6) (N := 21) dd_71_57 rfl (Nat.le_of_ble_eq_true rfl) mf_i6 hw_668) (mi_get_mn 6 1)))) (mt_ok.n (mt_ok.n (mt_ok.l (mn_aload_n (k := 0) dd_71_60 rfl) (mi_aload_mn 1 0)) (mt_ok.l (mn_get (C := "TokenScannerModel") (T := mf_T6) (N := 21) dd_71_61 rfl (Nat.le_of_ble_eq_true rfl) mf_i6 hw_673) (mi_get_mn 6 6))) (mt_ok.n (mt_ok.l (mn_iald dd_71_64 rfl) (mi_iald_mn)) (mt_ok.l (mn_callS (y := 71) (pc := 65) (z := 68) (mg_Ok L xs) dd_71_65 (mv_Hn.none rfl (fun _ => rfl)) (mc_71_68 L xs) hw_763 hw_764 mq_68.1) (mi_callS_mn 68 1))))) (mt_ok.n (mt_ok.n (mt_ok.l (mn_if_eq dd_71_68 (by decide)) (mi_if_mn _ _)) (mt_ok.n (mt_ok.l (mn_iconst dd_71_71 (by decide)) (mi_pure_mn 1 _)) (mt_ok.l (mn_goto dd_71_72 (by decide)) (mi_goto_mn 79)))) (mt_ok.n (mt_ok.n (mt_ok.l (mn_aload_n (k := 0) dd_71_75 rfl) (mi_aload_mn 1 0)) (mt_ok.l (mn_get (C := "TokenScannerModel") (T := mf_T6) (N := 21) dd_71_76 rfl (Nat.le_of_ble_eq_true rfl) mf_i6 hw_676) (mi_get_mn 6 9))) (mt_ok.n (mt_ok.l (mn_put (C := "TokenScannerModel") (T := mf_T6) (N := 21) (host := "") mf_y6 dd_71_79 rfl (Nat.le_of_ble_eq_true rfl) mf_i6 mf_o6 mf_n6 hw_676 rfl (by decide +kernel)) (mi_put_mn 6 9 _)) (mt_ok.l (mn_aload_n (k := 0) dd_71_82 rfl) (mi_aload_mn 1 0)))))) (mt_ok.n (mt_ok.n (mt_ok.n (mt_ok.l (mn_dup dd_71_83) (mi_pure_mn 1 _)) (mt_ok.n (mt_ok.l (mn_get (C := "TokenScannerModel") (T := mf_T6) (N := 21) dd_71_84 rfl (Nat.le_of_ble_eq_true rfl) mf_i6 hw_673) (mi_get_mn 6 6)) (mt_ok.l (mn_iconst dd_71_87 (by decide)) (mi_pure_mn 1 _)))) (mt_ok.n (mt_ok.n (mt_ok.l (mn_iadd dd_71_88) (mi_pure_mn 1 _)) (mt_ok.l (mn_put (C := "TokenScannerModel") (T := mf_T6) (N := 21) (host := "") mf_y6 dd_71_89 rfl (Nat.le_of_ble_eq_true rfl) mf_i6 mf_o6 mf_n6 hw_673 rfl (by decide +kernel)) (mi_put_mn 6 6 _))) (mt_ok.n (mt_ok.l (mn_goto dd_71_92 (by decide)) (mi_goto_mn 27)) (mt_ok.l (mn_aload_n (k := 0) dd_71_95 rfl) (mi_aload_mn 1 0))))) (mt_ok.n (mt_ok.n (mt_ok.l (mn_aload_n (k := 0) dd_71_96 rfl) (mi_aload_mn 1 0)) (mt_ok.n (mt_ok.l (mn_aload_n (k := 0) dd_71_97 rfl) (mi_aload_mn 1 0)) (mt_ok.l (mn_get (C := "TokenScannerModel") (T := mf_T6) (N := 21) dd_71_98 rfl (Nat.le_of_ble_eq_true rfl) mf_i6 hw_673) (mi_get_mn 6 6)))) (mt_ok.n (mt_ok.n (mt_ok.l (mn_callV (y := 71) (pc := 101) (z := 70) (mg_Ok L xs) (C := "TokenScannerModel") (T0 := mf_T6) (N := 21) dd_71_101 rfl (mv_Hn.none rfl (fun _ => rfl)) (mc_71_70 L xs) hw_766 hw_768 hs_30 mq_70.1) (mi_callV_mn 6 70 2)) (mt_ok.l (mn_put (C := "TokenScannerModel") (T := mf_T6) (N := 21) (host := "") mf_y6 dd_71_104 rfl (Nat.le_of_ble_eq_true rfl) mf_i6 mf_o6 mf_n6 hw_673 rfl (by decide +kernel)) (mi_put_mn 6 6 _))) (mt_ok.n (mt_ok.l (mn_goto dd_71_107 (by decide)) (mi_goto_mn 7)) (mt_ok.l (mn_vret dd_71_110 rfl) (mi_vret_mn)))))))
