theorem dd_17_0 : decode prog_4_method_2_code 0 = .ok (.iload_n 1, 1) := by decide +kernel
theorem dd_17_1 : decode prog_4_method_2_code 1 = .ok (.aload_n 0, 1) := by decide +kernel
theorem dd_17_2 : decode prog_4_method_2_code 2 = .ok (.getfield 9, 3) := by decide +kernel
theorem dd_17_5 : decode prog_4_method_2_code 5 = .ok (.arraylength, 1) := by decide +kernel
theorem dd_17_6 : decode prog_4_method_2_code 6 = .ok (.aload_n 0, 1) := by decide +kernel
theorem dd_17_7 : decode prog_4_method_2_code 7 = .ok (.getfield 15, 3) := by decide +kernel
theorem dd_17_10 : decode prog_4_method_2_code 10 = .ok (.isub, 1) := by decide +kernel
theorem dd_17_11 : decode prog_4_method_2_code 11 = .ok (.if_icmp .gt 7, 3) := by decide +kernel
theorem dd_17_14 : decode prog_4_method_2_code 14 = .ok (.iconst 1, 1) := by decide +kernel
theorem dd_17_15 : decode prog_4_method_2_code 15 = .ok (.goto 4, 3) := by decide +kernel
theorem dd_17_18 : decode prog_4_method_2_code 18 = .ok (.iconst 0, 1) := by decide +kernel
theorem dd_17_19 : decode prog_4_method_2_code 19 = .ok (.ireturn, 1) := by decide +kernel
def mt_17 : Nat → Option mv_S := mt_n 10 (mt_n 5 (mt_n 1 (mt_l 0 (mi_iload 1 1)) (mt_n 2 (mt_l 1 (mi_aload 1 0)) (mt_l 2 (mi_get 1 0)))) (mt_n 6 (mt_l 5 (mi_alen 0)) (mt_n 7 (mt_l 6 (mi_aload 1 0)) (mt_l 7 (mi_get 1 1))))) (mt_n 15 (mt_n 11 (mt_l 10 (mi_pure 1 (mo_ii (fun x y => x - y)))) (mt_n 14 (mt_l 11 (mi_icmp (fun x y : Int32 => y < x) 18)) (mt_l 14 (mi_pure 1 (mo_push (.int 1)))))) (mt_n 18 (mt_l 15 (mi_goto 19)) (mt_n 19 (mt_l 18 (mi_pure 1 (mo_push (.int 0)))) (mt_l 19 (mi_zret)))))
theorem ms_17 (L : Nat) (xs : Nat → Int32) : mt_ok (mg L xs) 17 (mt_17) := mt_ok.n (mt_ok.n (mt_ok.n (mt_ok.l (mn_iload_n (k := 1) dd_17_0 rfl) (mi_iload_mn 1 1)) (mt_ok.n (mt_ok.l (mn_aload_n (k := 0) dd_17_1 rfl) (mi_aload_mn 1 0)) (mt_ok.l (mn_get (C := "TokenScanner$Source") (T := mf_T1) (N := 2) dd_17_2 rfl (Nat.le_of_ble_eq_true rfl) mf_i1 hw_36) (mi_get_mn 1 0)))) (mt_ok.n (mt_ok.l (mn_alen dd_17_5 rfl) (mi_alen_mn 0)) (mt_ok.n (mt_ok.l (mn_aload_n (k := 0) dd_17_6 rfl) (mi_aload_mn 1 0)) (mt_ok.l (mn_get (C := "TokenScanner$Source") (T := mf_T1) (N := 2) dd_17_7 rfl (Nat.le_of_ble_eq_true rfl) mf_i1 hw_37) (mi_get_mn 1 1))))) (mt_ok.n (mt_ok.n (mt_ok.l (mn_isub dd_17_10) (mi_pure_mn 1 _)) (mt_ok.n (mt_ok.l (mn_icmp_gt dd_17_11 (by decide)) (mi_icmp_mn _ _)) (mt_ok.l (mn_iconst dd_17_14 (by decide)) (mi_pure_mn 1 _)))) (mt_ok.n (mt_ok.l (mn_goto dd_17_15 (by decide)) (mi_goto_mn 19)) (mt_ok.n (mt_ok.l (mn_iconst dd_17_18 (by decide)) (mi_pure_mn 1 _)) (mt_ok.l (mn_zret dd_17_19 rfl) (mi_zret_mn)))))
theorem dd_18_0 : decode prog_4_method_3_code 0 = .ok (.aload_n 0, 1) := by decide +kernel
theorem dd_18_1 : decode prog_4_method_3_code 1 = .ok (.getfield 15, 3) := by decide +kernel
theorem dd_18_4 : decode prog_4_method_3_code 4 = .ok (.aload_n 0, 1) := by decide +kernel
theorem dd_18_5 : decode prog_4_method_3_code 5 = .ok (.getfield 9, 3) := by decide +kernel
theorem dd_18_8 : decode prog_4_method_3_code 8 = .ok (.arraylength, 1) := by decide +kernel
theorem dd_18_9 : decode prog_4_method_3_code 9 = .ok (.if_icmp .ge 23, 3) := by decide +kernel
theorem dd_18_12 : decode prog_4_method_3_code 12 = .ok (.aload_n 0, 1) := by decide +kernel
theorem dd_18_13 : decode prog_4_method_3_code 13 = .ok (.getfield 9, 3) := by decide +kernel
theorem dd_18_16 : decode prog_4_method_3_code 16 = .ok (.aload_n 0, 1) := by decide +kernel
theorem dd_18_17 : decode prog_4_method_3_code 17 = .ok (.getfield 15, 3) := by decide +kernel
theorem dd_18_20 : decode prog_4_method_3_code 20 = .ok (.iload_n 1, 1) := by decide +kernel
theorem dd_18_21 : decode prog_4_method_3_code 21 = .ok (.iastore, 1) := by decide +kernel
theorem dd_18_22 : decode prog_4_method_3_code 22 = .ok (.aload_n 0, 1) := by decide +kernel
theorem dd_18_23 : decode prog_4_method_3_code 23 = .ok (.dup, 1) := by decide +kernel
theorem dd_18_24 : decode prog_4_method_3_code 24 = .ok (.getfield 15, 3) := by decide +kernel
theorem dd_18_27 : decode prog_4_method_3_code 27 = .ok (.iconst 1, 1) := by decide +kernel
theorem dd_18_28 : decode prog_4_method_3_code 28 = .ok (.iadd, 1) := by decide +kernel
theorem dd_18_29 : decode prog_4_method_3_code 29 = .ok (.putfield 15, 3) := by decide +kernel
theorem dd_18_32 : decode prog_4_method_3_code 32 = .ok (.return_, 1) := by decide +kernel
def mt_18 : Nat → Option mv_S := mt_n 17 (mt_n 8 (mt_n 4 (mt_n 1 (mt_l 0 (mi_aload 1 0)) (mt_l 1 (mi_get 1 1))) (mt_n 5 (mt_l 4 (mi_aload 1 0)) (mt_l 5 (mi_get 1 0)))) (mt_n 12 (mt_n 9 (mt_l 8 (mi_alen 0)) (mt_l 9 (mi_icmp (fun x y : Int32 => y ≤ x) 32))) (mt_n 13 (mt_l 12 (mi_aload 1 0)) (mt_n 16 (mt_l 13 (mi_get 1 0)) (mt_l 16 (mi_aload 1 0)))))) (mt_n 24 (mt_n 21 (mt_n 20 (mt_l 17 (mi_get 1 1)) (mt_l 20 (mi_iload 1 1))) (mt_n 22 (mt_l 21 (mi_iast)) (mt_n 23 (mt_l 22 (mi_aload 1 0)) (mt_l 23 (mi_pure 1 mo_dup))))) (mt_n 28 (mt_n 27 (mt_l 24 (mi_get 1 1)) (mt_l 27 (mi_pure 1 (mo_push (.int 1))))) (mt_n 29 (mt_l 28 (mi_pure 1 (mo_ii (fun x y => x + y)))) (mt_n 32 (mt_l 29 (mi_put 1 1 (.int))) (mt_l 32 (mi_vret))))))
theorem ms_18 (L : Nat) (xs : Nat → Int32) : mt_ok (mg L xs) 18 (mt_18) := mt_ok.n (mt_ok.n (mt_ok.n (mt_ok.n (mt_ok.l (mn_aload_n (k := 0) dd_18_0 rfl) (mi_aload_mn 1 0)) (mt_ok.l (mn_get (C := "TokenScanner$Source") (T := mf_T1) (N := 2) dd_18_1 rfl (Nat.le_of_ble_eq_true rfl) mf_i1 hw_37) (mi_get_mn 1 1))) (mt_ok.n (mt_ok.l (mn_aload_n (k := 0) dd_18_4 rfl) (mi_aload_mn 1 0)) (mt_ok.l (mn_get (C := "TokenScanner$Source") (T := mf_T1) (N := 2) dd_18_5 rfl (Nat.le_of_ble_eq_true rfl) mf_i1 hw_36) (mi_get_mn 1 0)))) (mt_ok.n (mt_ok.n (mt_ok.l (mn_alen dd_18_8 rfl) (mi_alen_mn 0)) (mt_ok.l (mn_icmp_ge dd_18_9 (by decide)) (mi_icmp_mn _ _))) (mt_ok.n (mt_ok.l (mn_aload_n (k := 0) dd_18_12 rfl) (mi_aload_mn 1 0)) (mt_ok.n (mt_ok.l (mn_get (C := "TokenScanner$Source") (T := mf_T1) (N := 2) dd_18_13 rfl (Nat.le_of_ble_eq_true rfl) mf_i1 hw_36) (mi_get_mn 1 0)) (mt_ok.l (mn_aload_n (k := 0) dd_18_16 rfl) (mi_aload_mn 1 0)))))) (mt_ok.n (mt_ok.n (mt_ok.n (mt_ok.l (mn_get (C := "TokenScanner$Source") (T := mf_T1) (N := 2) dd_18_17 rfl (Nat.le_of_ble_eq_true rfl) mf_i1 hw_37) (mi_get_mn 1 1)) (mt_ok.l (mn_iload_n (k := 1) dd_18_20 rfl) (mi_iload_mn 1 1))) (mt_ok.n (mt_ok.l (mn_iast dd_18_21 rfl) (mi_iast_mn)) (mt_ok.n (mt_ok.l (mn_aload_n (k := 0) dd_18_22 rfl) (mi_aload_mn 1 0)) (mt_ok.l (mn_dup dd_18_23) (mi_pure_mn 1 _))))) (mt_ok.n (mt_ok.n (mt_ok.l (mn_get (C := "TokenScanner$Source") (T := mf_T1) (N := 2) dd_18_24 rfl (Nat.le_of_ble_eq_true rfl) mf_i1 hw_37) (mi_get_mn 1 1)) (mt_ok.l (mn_iconst dd_18_27 (by decide)) (mi_pure_mn 1 _))) (mt_ok.n (mt_ok.l (mn_iadd dd_18_28) (mi_pure_mn 1 _)) (mt_ok.n (mt_ok.l (mn_put (C := "TokenScanner$Source") (T := mf_T1) (N := 2) (host := "") mf_y1 dd_18_29 rfl (Nat.le_of_ble_eq_true rfl) mf_i1 mf_o1 mf_n1 hw_37 rfl (by decide +kernel)) (mi_put_mn 1 1 _)) (mt_ok.l (mn_vret dd_18_32 rfl) (mi_vret_mn))))))
theorem dd_19_0 : decode prog_4_method_5_code 0 = .ok (.aload_n 0, 1) := by decide +kernel
theorem dd_19_1 : decode prog_4_method_5_code 1 = .ok (.getfield 15, 3) := by decide +kernel
theorem dd_19_4 : decode prog_4_method_5_code 4 = .ok (.ireturn, 1) := by decide +kernel
def mt_19 : Nat → Option mv_S := mt_n 1 (mt_l 0 (mi_aload 1 0)) (mt_n 4 (mt_l 1 (mi_get 1 1)) (mt_l 4 (mi_iret)))
theorem ms_19 (L : Nat) (xs : Nat → Int32) : mt_ok (mg L xs) 19 (mt_19) := mt_ok.n (mt_ok.l (mn_aload_n (k := 0) dd_19_0 rfl) (mi_aload_mn 1 0)) (mt_ok.n (mt_ok.l (mn_get (C := "TokenScanner$Source") (T := mf_T1) (N := 2) dd_19_1 rfl (Nat.le_of_ble_eq_true rfl) mf_i1 hw_37) (mi_get_mn 1 1)) (mt_ok.l (mn_iret dd_19_4 rfl) (mi_iret_mn)))
theorem dd_20_0 : decode prog_1_method_2_code 0 = .ok (.iload_n 3, 1) := by decide +kernel
theorem dd_20_1 : decode prog_1_method_2_code 1 = .ok (.iconst 1, 1) := by decide +kernel
theorem dd_20_2 : decode prog_1_method_2_code 2 = .ok (.if_icmp .lt 9, 3) := by decide +kernel
theorem dd_20_5 : decode prog_1_method_2_code 5 = .ok (.iload_n 3, 1) := by decide +kernel
theorem dd_20_6 : decode prog_1_method_2_code 6 = .ok (.bipush 8, 2) := by decide +kernel
theorem dd_20_8 : decode prog_1_method_2_code 8 = .ok (.if_icmp .le 13, 3) := by decide +kernel
theorem dd_20_11 : decode prog_1_method_2_code 11 = .ok (.new 52, 3) := by decide +kernel
theorem dd_20_14 : decode prog_1_method_2_code 14 = .ok (.dup, 1) := by decide +kernel
theorem dd_20_15 : decode prog_1_method_2_code 15 = .ok (.ldc 54, 2) := by decide +kernel
theorem dd_20_17 : decode prog_1_method_2_code 17 = .ok (.invokespecial 56, 3) := by decide +kernel
theorem dd_20_20 : decode prog_1_method_2_code 20 = .ok (.athrow, 1) := by decide +kernel
theorem dd_20_21 : decode prog_1_method_2_code 21 = .ok (.aload_n 0, 1) := by decide +kernel
theorem dd_20_22 : decode prog_1_method_2_code 22 = .ok (.getfield 44, 3) := by decide +kernel
theorem dd_20_25 : decode prog_1_method_2_code 25 = .ok (.ifCond .eq 13, 3) := by decide +kernel
theorem dd_20_28 : decode prog_1_method_2_code 28 = .ok (.new 59, 3) := by decide +kernel
theorem dd_20_31 : decode prog_1_method_2_code 31 = .ok (.dup, 1) := by decide +kernel
theorem dd_20_32 : decode prog_1_method_2_code 32 = .ok (.ldc 61, 2) := by decide +kernel
theorem dd_20_34 : decode prog_1_method_2_code 34 = .ok (.invokespecial 63, 3) := by decide +kernel
theorem dd_20_37 : decode prog_1_method_2_code 37 = .ok (.athrow, 1) := by decide +kernel
theorem dd_20_38 : decode prog_1_method_2_code 38 = .ok (.aload_n 0, 1) := by decide +kernel
theorem dd_20_39 : decode prog_1_method_2_code 39 = .ok (.getfield 10, 3) := by decide +kernel
theorem dd_20_42 : decode prog_1_method_2_code 42 = .ok (.iload_n 3, 1) := by decide +kernel
theorem dd_20_43 : decode prog_1_method_2_code 43 = .ok (.invokevirtual 64, 3) := by decide +kernel
theorem dd_20_46 : decode prog_1_method_2_code 46 = .ok (.ifCond .ne 13, 3) := by decide +kernel
theorem dd_20_49 : decode prog_1_method_2_code 49 = .ok (.new 59, 3) := by decide +kernel
theorem dd_20_52 : decode prog_1_method_2_code 52 = .ok (.dup, 1) := by decide +kernel
theorem dd_20_53 : decode prog_1_method_2_code 53 = .ok (.ldc 68, 2) := by decide +kernel
theorem dd_20_55 : decode prog_1_method_2_code 55 = .ok (.invokespecial 63, 3) := by decide +kernel
theorem dd_20_58 : decode prog_1_method_2_code 58 = .ok (.athrow, 1) := by decide +kernel
theorem dd_20_59 : decode prog_1_method_2_code 59 = .ok (.iload_n 3, 1) := by decide +kernel
theorem dd_20_60 : decode prog_1_method_2_code 60 = .ok (.iconst 1, 1) := by decide +kernel
theorem dd_20_61 : decode prog_1_method_2_code 61 = .ok (.isub, 1) := by decide +kernel
theorem dd_20_62 : decode prog_1_method_2_code 62 = .ok (.istore 4, 2) := by decide +kernel
theorem dd_20_64 : decode prog_1_method_2_code 64 = .ok (.iload 4, 2) := by decide +kernel
theorem dd_20_66 : decode prog_1_method_2_code 66 = .ok (.ifCond .lt 28, 3) := by decide +kernel
theorem dd_20_69 : decode prog_1_method_2_code 69 = .ok (.aload_n 0, 1) := by decide +kernel
theorem dd_20_70 : decode prog_1_method_2_code 70 = .ok (.getfield 10, 3) := by decide +kernel
theorem dd_20_73 : decode prog_1_method_2_code 73 = .ok (.lload_n 1, 1) := by decide +kernel
theorem dd_20_74 : decode prog_1_method_2_code 74 = .ok (.bipush 8, 2) := by decide +kernel
theorem dd_20_76 : decode prog_1_method_2_code 76 = .ok (.iload 4, 2) := by decide +kernel
theorem dd_20_78 : decode prog_1_method_2_code 78 = .ok (.imul, 1) := by decide +kernel
theorem dd_20_79 : decode prog_1_method_2_code 79 = .ok (.lushr, 1) := by decide +kernel
theorem dd_20_80 : decode prog_1_method_2_code 80 = .ok (.l2i, 1) := by decide +kernel
theorem dd_20_81 : decode prog_1_method_2_code 81 = .ok (.sipush 255, 3) := by decide +kernel
theorem dd_20_84 : decode prog_1_method_2_code 84 = .ok (.iand, 1) := by decide +kernel
theorem dd_20_85 : decode prog_1_method_2_code 85 = .ok (.invokevirtual 70, 3) := by decide +kernel
theorem dd_20_88 : decode prog_1_method_2_code 88 = .ok (.iinc 4 (-1), 3) := by decide +kernel
theorem dd_20_91 : decode prog_1_method_2_code 91 = .ok (.goto (-27), 3) := by decide +kernel
theorem dd_20_94 : decode prog_1_method_2_code 94 = .ok (.aload_n 0, 1) := by decide +kernel
theorem dd_20_95 : decode prog_1_method_2_code 95 = .ok (.getfield 10, 3) := by decide +kernel
theorem dd_20_98 : decode prog_1_method_2_code 98 = .ok (.invokevirtual 74, 3) := by decide +kernel
theorem dd_20_101 : decode prog_1_method_2_code 101 = .ok (.ireturn, 1) := by decide +kernel
def mt_20 : Nat → Option mv_S := mt_n 62 (mt_n 28 (mt_n 8 (mt_n 2 (mt_n 1 (mt_l 0 (mi_iload 1 3)) (mt_l 1 (mi_pure 1 (mo_push (.int 1))))) (mt_n 5 (mt_l 2 (mi_icmp (fun x y : Int32 => x < y) 11)) (mt_n 6 (mt_l 5 (mi_iload 1 3)) (mt_l 6 (mi_pure 2 (mo_push (.int 8))))))) (mt_n 21 (mt_n 11 (mt_l 8 (mi_icmp (fun x y : Int32 => x ≤ y) 21)) (mt_l 11 (mi_throw 0))) (mt_n 22 (mt_l 21 (mi_aload 1 0)) (mt_n 25 (mt_l 22 (mi_get 0 5)) (mt_l 25 (mi_if (fun x : Int32 => x = 0) 38)))))) (mt_n 46 (mt_n 39 (mt_n 38 (mt_l 28 (mi_throw 1)) (mt_l 38 (mi_aload 1 0))) (mt_n 42 (mt_l 39 (mi_get 0 0)) (mt_n 43 (mt_l 42 (mi_iload 1 3)) (mt_l 43 (mi_callV 1 17 2))))) (mt_n 59 (mt_n 49 (mt_l 46 (mi_if (fun x : Int32 => ¬ x = 0) 59)) (mt_l 49 (mi_throw 1))) (mt_n 60 (mt_l 59 (mi_iload 1 3)) (mt_n 61 (mt_l 60 (mi_pure 1 (mo_push (.int 1)))) (mt_l 61 (mi_pure 1 (mo_ii (fun x y => x - y))))))))) (mt_n 80 (mt_n 73 (mt_n 66 (mt_n 64 (mt_l 62 (mi_istore 2 4)) (mt_l 64 (mi_iload 2 4))) (mt_n 69 (mt_l 66 (mi_if (fun x : Int32 => x < 0) 94)) (mt_n 70 (mt_l 69 (mi_aload 1 0)) (mt_l 70 (mi_get 0 0))))) (mt_n 76 (mt_n 74 (mt_l 73 (mi_lload 1 1)) (mt_l 74 (mi_pure 2 (mo_push (.int 8))))) (mt_n 78 (mt_l 76 (mi_iload 2 4)) (mt_n 79 (mt_l 78 (mi_pure 1 (mo_ii (fun x y => x * y)))) (mt_l 79 (mi_pure 1 (mo_li (fun x y => (x.toUInt64 >>> (y.toInt64.toUInt64 &&& Int64.toUInt64 63)).toInt64)))))))) (mt_n 91 (mt_n 84 (mt_n 81 (mt_l 80 (mi_pure 1 mo_l2i)) (mt_l 81 (mi_pure 3 (mo_push (.int 255))))) (mt_n 85 (mt_l 84 (mi_pure 1 (mo_ii (fun x y => x &&& y)))) (mt_n 88 (mt_l 85 (mi_callV 1 18 2)) (mt_l 88 (mi_iinc 4 (-1)))))) (mt_n 95 (mt_n 94 (mt_l 91 (mi_goto 64)) (mt_l 94 (mi_aload 1 0))) (mt_n 98 (mt_l 95 (mi_get 0 0)) (mt_n 101 (mt_l 98 (mi_callV 1 19 1)) (mt_l 101 (mi_iret)))))))
theorem ms_20 (L : Nat) (xs : Nat → Int32) : mt_ok (mg L xs) 20 (mt_20) := mt_ok.n (mt_ok.n (mt_ok.n (mt_ok.n (mt_ok.n (mt_ok.l (mn_iload_n (k := 3) dd_20_0 rfl) (mi_iload_mn 1 3)) (mt_ok.l (mn_iconst dd_20_1 (by decide)) (mi_pure_mn 1 _))) (mt_ok.n (mt_ok.l (mn_icmp_lt dd_20_2 (by decide)) (mi_icmp_mn _ _)) (mt_ok.n (mt_ok.l (mn_iload_n (k := 3) dd_20_5 rfl) (mi_iload_mn 1 3)) (mt_ok.l (mn_bipush dd_20_6 (by decide)) (mi_pure_mn 2 _))))) (mt_ok.n (mt_ok.n (mt_ok.l (mn_icmp_le dd_20_8 (by decide)) (mi_icmp_mn _ _)) (mt_ok.l (mn_throw (y := 20) (pc := 11) (k := 0) (mg_Ok L xs) (ik := 52) (is := 54) (ic := 56) (sk := 2) (text := ms_txt 2) (names := ["java/lang/RuntimeException", "java/lang/Exception"]) dd_20_11 dd_20_14 dd_20_15 dd_20_17 dd_20_20 mg_ft0 mg_ftn hw_257 hw_18 (mg_pR 2 (by decide)) ha_56_0 mg_pX rfl (Nat.le_of_ble_eq_true rfl) (Nat.le_of_ble_eq_true rfl)) (mi_throw_mn 0))) (mt_ok.n (mt_ok.l (mn_aload_n (k := 0) dd_20_21 rfl) (mi_aload_mn 1 0)) (mt_ok.n (mt_ok.l (mn_get (C := "TokenScanner") (T := mf_T0) (N := 7) dd_20_22 rfl (Nat.le_of_ble_eq_true rfl) mf_i0 hw_227) (mi_get_mn 0 5)) (mt_ok.l (mn_if_eq dd_20_25 (by decide)) (mi_if_mn _ _)))))) (mt_ok.n (mt_ok.n (mt_ok.n (mt_ok.l (mn_throw (y := 20) (pc := 28) (k := 1) (mg_Ok L xs) (ik := 59) (is := 61) (ic := 63) (sk := 3) (text := ms_txt 3) (names := ["java/lang/RuntimeException", "java/lang/Exception"]) dd_20_28 dd_20_31 dd_20_32 dd_20_34 dd_20_37 mg_ft1 mg_ftn hw_324 hw_19 (mg_pR 3 (by decide)) ha_63_1 mg_pX rfl (Nat.le_of_ble_eq_true rfl) (Nat.le_of_ble_eq_true rfl)) (mi_throw_mn 1)) (mt_ok.l (mn_aload_n (k := 0) dd_20_38 rfl) (mi_aload_mn 1 0))) (mt_ok.n (mt_ok.l (mn_get (C := "TokenScanner") (T := mf_T0) (N := 7) dd_20_39 rfl (Nat.le_of_ble_eq_true rfl) mf_i0 hw_222) (mi_get_mn 0 0)) (mt_ok.n (mt_ok.l (mn_iload_n (k := 3) dd_20_42 rfl) (mi_iload_mn 1 3)) (mt_ok.l (mn_callV (y := 20) (pc := 43) (z := 17) (mg_Ok L xs) (C := "TokenScanner$Source") (T0 := mf_T1) (N := 2) dd_20_43 rfl (mv_Hn.none rfl (fun _ => rfl)) (mc_20_17 L xs) hw_340 hw_341 hw_342 mq_17.1) (mi_callV_mn 1 17 2))))) (mt_ok.n (mt_ok.n (mt_ok.l (mn_if_ne dd_20_46 (by decide)) (mi_if_mn _ _)) (mt_ok.l (mn_throw (y := 20) (pc := 49) (k := 1) (mg_Ok L xs) (ik := 59) (is := 68) (ic := 63) (sk := 4) (text := ms_txt 4) (names := ["java/lang/RuntimeException", "java/lang/Exception"]) dd_20_49 dd_20_52 dd_20_53 dd_20_55 dd_20_58 mg_ft1 mg_ftn hw_324 hw_19 (mg_pR 4 (by decide)) ha_63_1 mg_pX rfl (Nat.le_of_ble_eq_true rfl) (Nat.le_of_ble_eq_true rfl)) (mi_throw_mn 1))) (mt_ok.n (mt_ok.l (mn_iload_n (k := 3) dd_20_59 rfl) (mi_iload_mn 1 3)) (mt_ok.n (mt_ok.l (mn_iconst dd_20_60 (by decide)) (mi_pure_mn 1 _)) (mt_ok.l (mn_isub dd_20_61) (mi_pure_mn 1 _))))))) (mt_ok.n (mt_ok.n (mt_ok.n (mt_ok.n (mt_ok.l (mn_istore dd_20_62 (Nat.le_of_ble_eq_true rfl)) (mi_istore_mn 2 4)) (mt_ok.l (mn_iload dd_20_64) (mi_iload_mn 2 4))) (mt_ok.n (mt_ok.l (mn_if_lt dd_20_66 (by decide)) (mi_if_mn _ _)) (mt_ok.n (mt_ok.l (mn_aload_n (k := 0) dd_20_69 rfl) (mi_aload_mn 1 0)) (mt_ok.l (mn_get (C := "TokenScanner") (T := mf_T0) (N := 7) dd_20_70 rfl (Nat.le_of_ble_eq_true rfl) mf_i0 hw_222) (mi_get_mn 0 0))))) (mt_ok.n (mt_ok.n (mt_ok.l (mn_lload_n (k := 1) dd_20_73 rfl) (mi_lload_mn 1 1)) (mt_ok.l (mn_bipush dd_20_74 (by decide)) (mi_pure_mn 2 _))) (mt_ok.n (mt_ok.l (mn_iload dd_20_76) (mi_iload_mn 2 4)) (mt_ok.n (mt_ok.l (mn_imul dd_20_78) (mi_pure_mn 1 _)) (mt_ok.l (mn_lushr dd_20_79) (mi_pure_mn 1 _)))))) (mt_ok.n (mt_ok.n (mt_ok.n (mt_ok.l (mn_l2i dd_20_80) (mi_pure_mn 1 _)) (mt_ok.l (mn_sipush dd_20_81 (by decide)) (mi_pure_mn 3 _))) (mt_ok.n (mt_ok.l (mn_iand dd_20_84) (mi_pure_mn 1 _)) (mt_ok.n (mt_ok.l (mn_callV (y := 20) (pc := 85) (z := 18) (mg_Ok L xs) (C := "TokenScanner$Source") (T0 := mf_T1) (N := 2) dd_20_85 rfl (mv_Hn.none rfl (fun _ => rfl)) (mc_20_18 L xs) hw_345 hw_346 hw_347 mq_18.1) (mi_callV_mn 1 18 2)) (mt_ok.l (mn_iinc dd_20_88 (by decide) (Nat.le_of_ble_eq_true rfl)) (mi_iinc_mn 4 _))))) (mt_ok.n (mt_ok.n (mt_ok.l (mn_goto dd_20_91 (by decide)) (mi_goto_mn 64)) (mt_ok.l (mn_aload_n (k := 0) dd_20_94 rfl) (mi_aload_mn 1 0))) (mt_ok.n (mt_ok.l (mn_get (C := "TokenScanner") (T := mf_T0) (N := 7) dd_20_95 rfl (Nat.le_of_ble_eq_true rfl) mf_i0 hw_222) (mi_get_mn 0 0)) (mt_ok.n (mt_ok.l (mn_callV (y := 20) (pc := 98) (z := 19) (mg_Ok L xs) (C := "TokenScanner$Source") (T0 := mf_T1) (N := 2) dd_20_98 rfl (mv_Hn.none rfl (fun _ => rfl)) (mc_20_19 L xs) hw_349 hw_350 hw_351 mq_19.1) (mi_callV_mn 1 19 1)) (mt_ok.l (mn_iret dd_20_101 rfl) (mi_iret_mn)))))))
theorem dd_21_0 : decode method_3_code 0 = .ok (.aload 4, 2) := by decide +kernel
theorem dd_21_2 : decode method_3_code 2 = .ok (.iconst 0, 1) := by decide +kernel
theorem dd_21_3 : decode method_3_code 3 = .ok (.aload_n 0, 1) := by decide +kernel
theorem dd_21_4 : decode method_3_code 4 = .ok (.lload_n 1, 1) := by decide +kernel
theorem dd_21_5 : decode method_3_code 5 = .ok (.iload_n 3, 1) := by decide +kernel
theorem dd_21_6 : decode method_3_code 6 = .ok (.invokevirtual 7, 3) := by decide +kernel
theorem dd_21_9 : decode method_3_code 9 = .ok (.i2l, 1) := by decide +kernel
theorem dd_21_10 : decode method_3_code 10 = .ok (.lastore, 1) := by decide +kernel
theorem dd_21_11 : decode method_3_code 11 = .ok (.goto 11, 3) := by decide +kernel
theorem dd_21_14 : decode method_3_code 14 = .ok (.astore 5, 2) := by decide +kernel
theorem dd_21_16 : decode method_3_code 16 = .ok (.iconst 1, 1) := by decide +kernel
theorem dd_21_17 : decode method_3_code 17 = .ok (.ireturn, 1) := by decide +kernel
theorem dd_21_18 : decode method_3_code 18 = .ok (.astore 5, 2) := by decide +kernel
theorem dd_21_20 : decode method_3_code 20 = .ok (.iconst 2, 1) := by decide +kernel
theorem dd_21_21 : decode method_3_code 21 = .ok (.ireturn, 1) := by decide +kernel
theorem dd_21_22 : decode method_3_code 22 = .ok (.iconst 0, 1) := by decide +kernel
theorem dd_21_23 : decode method_3_code 23 = .ok (.ireturn, 1) := by decide +kernel
def mt_21 : Nat → Option mv_S := mt_n 10 (mt_n 4 (mt_n 2 (mt_l 0 (mi_aload 2 4)) (mt_n 3 (mt_l 2 (mi_pure 1 (mo_push (.int 0)))) (mt_l 3 (mi_aload 1 0)))) (mt_n 6 (mt_n 5 (mt_l 4 (mi_lload 1 1)) (mt_l 5 (mi_iload 1 3))) (mt_n 9 (mt_l 6 (mi_callV 0 20 3)) (mt_l 9 (mi_pure 1 mo_i2l))))) (mt_n 20 (mt_n 16 (mt_n 11 (mt_l 10 (mi_last)) (mt_l 11 (mi_goto 22))) (mt_n 17 (mt_l 16 (mi_pure 1 (mo_push (.int 1)))) (mt_l 17 (mi_iret)))) (mt_n 22 (mt_n 21 (mt_l 20 (mi_pure 1 (mo_push (.int 2)))) (mt_l 21 (mi_iret))) (mt_n 23 (mt_l 22 (mi_pure 1 (mo_push (.int 0)))) (mt_l 23 (mi_iret)))))
theorem mh_21 {L : Nat} {xs : Nat → Int32} : mv_Hn (mg L xs) 21 6 := by
  have hb : ∀ k, (mg L xs).X 21 6 k = ((bif Nat.beq k 0 then some (some (16, 5)) else (bif Nat.beq k 1 then some (some (20, 5)) else none)) : Option (Option (Nat × Nat))) := fun k => rfl
  refine ⟨fun k pc9 i9 e => ?_, fun k e => ?_⟩ <;> rw [hb] at e
  · cases b0 : Nat.beq k 0 with
    | true =>
      rw [b0, cond_true] at e
      have hk := Nat.eq_of_beq_eq_true b0
      subst hk
      cases e
      exact ⟨[], [(0, 11, 18, 15)], (0, 11, 14, 13), "java/lang/IllegalArgumentException", rfl, (fun z hz => by cases hz), by decide, by decide, hw_251, hw_259, (Nat.le_of_ble_eq_true rfl), Or.inr ⟨dd_21_14, rfl⟩⟩
    | false =>
      rw [b0, cond_false] at e
      cases b1 : Nat.beq k 1 with
      | true =>
        rw [b1, cond_true] at e
        have hk := Nat.eq_of_beq_eq_true b1
        subst hk
        cases e
        exact ⟨[(0, 11, 14, 13)], [], (0, 11, 18, 15), "java/lang/IllegalStateException", rfl, (fun z hz => by
          rcases List.mem_singleton.mp hz with rfl
          exact Or.inr ⟨by decide, "java/lang/IllegalArgumentException", hw_251, mg_pN0⟩), by decide, by decide, hw_252, hw_326, (Nat.le_of_ble_eq_true rfl), Or.inr ⟨dd_21_18, rfl⟩⟩
      | false =>
        rw [b1, cond_false] at e
        cases e
  · cases b0 : Nat.beq k 0 with
    | true =>
      rw [b0, cond_true] at e
      cases e
    | false =>
      rw [b0, cond_false] at e
      cases b1 : Nat.beq k 1 with
      | true =>
        rw [b1, cond_true] at e
        cases e
      | false =>
        rw [b1, cond_false] at e
        cases e
theorem ms_21 (L : Nat) (xs : Nat → Int32) : mt_ok (mg L xs) 21 (mt_21) := mt_ok.n (mt_ok.n (mt_ok.n (mt_ok.l (mn_aload dd_21_0) (mi_aload_mn 2 4)) (mt_ok.n (mt_ok.l (mn_iconst dd_21_2 (by decide)) (mi_pure_mn 1 _)) (mt_ok.l (mn_aload_n (k := 0) dd_21_3 rfl) (mi_aload_mn 1 0)))) (mt_ok.n (mt_ok.n (mt_ok.l (mn_lload_n (k := 1) dd_21_4 rfl) (mi_lload_mn 1 1)) (mt_ok.l (mn_iload_n (k := 3) dd_21_5 rfl) (mi_iload_mn 1 3))) (mt_ok.n (mt_ok.l (mn_callV (y := 21) (pc := 6) (z := 20) (mg_Ok L xs) (C := "TokenScanner") (T0 := mf_T0) (N := 7) dd_21_6 rfl mh_21 (mc_21_20 L xs) hw_253 hw_254 hw_255 mq_20.1) (mi_callV_mn 0 20 3)) (mt_ok.l (mn_i2l dd_21_9) (mi_pure_mn 1 _))))) (mt_ok.n (mt_ok.n (mt_ok.n (mt_ok.l (mn_last dd_21_10 rfl) (mi_last_mn)) (mt_ok.l (mn_goto dd_21_11 (by decide)) (mi_goto_mn 22))) (mt_ok.n (mt_ok.l (mn_iconst dd_21_16 (by decide)) (mi_pure_mn 1 _)) (mt_ok.l (mn_iret dd_21_17 rfl) (mi_iret_mn)))) (mt_ok.n (mt_ok.n (mt_ok.l (mn_iconst dd_21_20 (by decide)) (mi_pure_mn 1 _)) (mt_ok.l (mn_iret dd_21_21 rfl) (mi_iret_mn))) (mt_ok.n (mt_ok.l (mn_iconst dd_21_22 (by decide)) (mi_pure_mn 1 _)) (mt_ok.l (mn_iret dd_21_23 rfl) (mi_iret_mn)))))
theorem dd_22_0 : decode prog_9_method_3_code 0 = .ok (.aload_n 0, 1) := by decide +kernel
theorem dd_22_1 : decode prog_9_method_3_code 1 = .ok (.iload_n 1, 1) := by decide +kernel
theorem dd_22_2 : decode prog_9_method_3_code 2 = .ok (.ifCond .eq 7, 3) := by decide +kernel
theorem dd_22_5 : decode prog_9_method_3_code 5 = .ok (.iconst 1, 1) := by decide +kernel
theorem dd_22_6 : decode prog_9_method_3_code 6 = .ok (.goto 12, 3) := by decide +kernel
theorem dd_22_9 : decode prog_9_method_3_code 9 = .ok (.iload_n 2, 1) := by decide +kernel
theorem dd_22_10 : decode prog_9_method_3_code 10 = .ok (.ifCond .eq 7, 3) := by decide +kernel
theorem dd_22_13 : decode prog_9_method_3_code 13 = .ok (.iconst 2, 1) := by decide +kernel
theorem dd_22_14 : decode prog_9_method_3_code 14 = .ok (.goto 4, 3) := by decide +kernel
theorem dd_22_17 : decode prog_9_method_3_code 17 = .ok (.iconst 0, 1) := by decide +kernel
theorem dd_22_18 : decode prog_9_method_3_code 18 = .ok (.putfield 32, 3) := by decide +kernel
theorem dd_22_21 : decode prog_9_method_3_code 21 = .ok (.aload_n 0, 1) := by decide +kernel
theorem dd_22_22 : decode prog_9_method_3_code 22 = .ok (.getfield 32, 3) := by decide +kernel
theorem dd_22_25 : decode prog_9_method_3_code 25 = .ok (.ifCond .le 7, 3) := by decide +kernel
theorem dd_22_28 : decode prog_9_method_3_code 28 = .ok (.iconst 1, 1) := by decide +kernel
theorem dd_22_29 : decode prog_9_method_3_code 29 = .ok (.goto 4, 3) := by decide +kernel
theorem dd_22_32 : decode prog_9_method_3_code 32 = .ok (.iconst 0, 1) := by decide +kernel
theorem dd_22_33 : decode prog_9_method_3_code 33 = .ok (.ireturn, 1) := by decide +kernel
def mt_22 : Nat → Option mv_S := mt_n 17 (mt_n 6 (mt_n 2 (mt_n 1 (mt_l 0 (mi_aload 1 0)) (mt_l 1 (mi_iload 1 1))) (mt_n 5 (mt_l 2 (mi_if (fun x : Int32 => x = 0) 9)) (mt_l 5 (mi_pure 1 (mo_push (.int 1)))))) (mt_n 10 (mt_n 9 (mt_l 6 (mi_goto 18)) (mt_l 9 (mi_iload 1 2))) (mt_n 13 (mt_l 10 (mi_if (fun x : Int32 => x = 0) 17)) (mt_n 14 (mt_l 13 (mi_pure 1 (mo_push (.int 2)))) (mt_l 14 (mi_goto 18)))))) (mt_n 25 (mt_n 21 (mt_n 18 (mt_l 17 (mi_pure 1 (mo_push (.int 0)))) (mt_l 18 (mi_put 6 0 (.int)))) (mt_n 22 (mt_l 21 (mi_aload 1 0)) (mt_l 22 (mi_get 6 0)))) (mt_n 29 (mt_n 28 (mt_l 25 (mi_if (fun x : Int32 => x ≤ 0) 32)) (mt_l 28 (mi_pure 1 (mo_push (.int 1))))) (mt_n 32 (mt_l 29 (mi_goto 33)) (mt_n 33 (mt_l 32 (mi_pure 1 (mo_push (.int 0)))) (mt_l 33 (mi_zret))))))
theorem ms_22 (L : Nat) (xs : Nat → Int32) : mt_ok (mg L xs) 22 (mt_22) := mt_ok.n (mt_ok.n (mt_ok.n (mt_ok.n (mt_ok.l (mn_aload_n (k := 0) dd_22_0 rfl) (mi_aload_mn 1 0)) (mt_ok.l (mn_iload_n (k := 1) dd_22_1 rfl) (mi_iload_mn 1 1))) (mt_ok.n (mt_ok.l (mn_if_eq dd_22_2 (by decide)) (mi_if_mn _ _)) (mt_ok.l (mn_iconst dd_22_5 (by decide)) (mi_pure_mn 1 _)))) (mt_ok.n (mt_ok.n (mt_ok.l (mn_goto dd_22_6 (by decide)) (mi_goto_mn 18)) (mt_ok.l (mn_iload_n (k := 2) dd_22_9 rfl) (mi_iload_mn 1 2))) (mt_ok.n (mt_ok.l (mn_if_eq dd_22_10 (by decide)) (mi_if_mn _ _)) (mt_ok.n (mt_ok.l (mn_iconst dd_22_13 (by decide)) (mi_pure_mn 1 _)) (mt_ok.l (mn_goto dd_22_14 (by decide)) (mi_goto_mn 18)))))) (mt_ok.n (mt_ok.n (mt_ok.n (mt_ok.l (mn_iconst dd_22_17 (by decide)) (mi_pure_mn 1 _)) (mt_ok.l (mn_put (C := "TokenScannerModel") (T := mf_T6) (N := 21) (host := "") mf_y6 dd_22_18 rfl (Nat.le_of_ble_eq_true rfl) mf_i6 mf_o6 mf_n6 hw_667 rfl (by decide +kernel)) (mi_put_mn 6 0 _))) (mt_ok.n (mt_ok.l (mn_aload_n (k := 0) dd_22_21 rfl) (mi_aload_mn 1 0)) (mt_ok.l (mn_get (C := "TokenScannerModel") (T := mf_T6) (N := 21) dd_22_22 rfl (Nat.le_of_ble_eq_true rfl) mf_i6 hw_667) (mi_get_mn 6 0)))) (mt_ok.n (mt_ok.n (mt_ok.l (mn_if_le dd_22_25 (by decide)) (mi_if_mn _ _)) (mt_ok.l (mn_iconst dd_22_28 (by decide)) (mi_pure_mn 1 _))) (mt_ok.n (mt_ok.l (mn_goto dd_22_29 (by decide)) (mi_goto_mn 33)) (mt_ok.n (mt_ok.l (mn_iconst dd_22_32 (by decide)) (mi_pure_mn 1 _)) (mt_ok.l (mn_zret dd_22_33 rfl) (mi_zret_mn))))))
theorem dd_23_0 : decode prog_9_method_4_code 0 = .ok (.iload_n 3, 1) := by decide +kernel
theorem dd_23_1 : decode prog_9_method_4_code 1 = .ok (.iconst 1, 1) := by decide +kernel
theorem dd_23_2 : decode prog_9_method_4_code 2 = .ok (.if_icmp .lt 9, 3) := by decide +kernel
theorem dd_23_5 : decode prog_9_method_4_code 5 = .ok (.iload_n 3, 1) := by decide +kernel
theorem dd_23_6 : decode prog_9_method_4_code 6 = .ok (.bipush 8, 2) := by decide +kernel
theorem dd_23_8 : decode prog_9_method_4_code 8 = .ok (.if_icmp .le 7, 3) := by decide +kernel
theorem dd_23_11 : decode prog_9_method_4_code 11 = .ok (.iconst 1, 1) := by decide +kernel
theorem dd_23_12 : decode prog_9_method_4_code 12 = .ok (.goto 4, 3) := by decide +kernel
theorem dd_23_15 : decode prog_9_method_4_code 15 = .ok (.iconst 0, 1) := by decide +kernel
theorem dd_23_16 : decode prog_9_method_4_code 16 = .ok (.istore 4, 2) := by decide +kernel
theorem dd_23_18 : decode prog_9_method_4_code 18 = .ok (.aload_n 0, 1) := by decide +kernel
theorem dd_23_19 : decode prog_9_method_4_code 19 = .ok (.iload 4, 2) := by decide +kernel
theorem dd_23_21 : decode prog_9_method_4_code 21 = .ok (.iload 4, 2) := by decide +kernel
theorem dd_23_23 : decode prog_9_method_4_code 23 = .ok (.ifCond .ne 26, 3) := by decide +kernel
theorem dd_23_26 : decode prog_9_method_4_code 26 = .ok (.aload_n 0, 1) := by decide +kernel
theorem dd_23_27 : decode prog_9_method_4_code 27 = .ok (.getfield 35, 3) := by decide +kernel
theorem dd_23_30 : decode prog_9_method_4_code 30 = .ok (.ifCond .ne 15, 3) := by decide +kernel
theorem dd_23_33 : decode prog_9_method_4_code 33 = .ok (.aload_n 0, 1) := by decide +kernel
theorem dd_23_34 : decode prog_9_method_4_code 34 = .ok (.getfield 39, 3) := by decide +kernel
theorem dd_23_37 : decode prog_9_method_4_code 37 = .ok (.iload_n 3, 1) := by decide +kernel
theorem dd_23_38 : decode prog_9_method_4_code 38 = .ok (.iadd, 1) := by decide +kernel
theorem dd_23_39 : decode prog_9_method_4_code 39 = .ok (.sipush 2000, 3) := by decide +kernel
theorem dd_23_42 : decode prog_9_method_4_code 42 = .ok (.if_icmp .le 7, 3) := by decide +kernel
theorem dd_23_45 : decode prog_9_method_4_code 45 = .ok (.iconst 1, 1) := by decide +kernel
theorem dd_23_46 : decode prog_9_method_4_code 46 = .ok (.goto 4, 3) := by decide +kernel
theorem dd_23_49 : decode prog_9_method_4_code 49 = .ok (.iconst 0, 1) := by decide +kernel
theorem dd_23_50 : decode prog_9_method_4_code 50 = .ok (.invokevirtual 42, 3) := by decide +kernel
theorem dd_23_53 : decode prog_9_method_4_code 53 = .ok (.ifCond .eq 5, 3) := by decide +kernel
theorem dd_23_56 : decode prog_9_method_4_code 56 = .ok (.iconst 0, 1) := by decide +kernel
theorem dd_23_57 : decode prog_9_method_4_code 57 = .ok (.ireturn, 1) := by decide +kernel
theorem dd_23_58 : decode prog_9_method_4_code 58 = .ok (.iload_n 3, 1) := by decide +kernel
theorem dd_23_59 : decode prog_9_method_4_code 59 = .ok (.iconst 1, 1) := by decide +kernel
theorem dd_23_60 : decode prog_9_method_4_code 60 = .ok (.isub, 1) := by decide +kernel
theorem dd_23_61 : decode prog_9_method_4_code 61 = .ok (.istore 5, 2) := by decide +kernel
theorem dd_23_63 : decode prog_9_method_4_code 63 = .ok (.iload 5, 2) := by decide +kernel
theorem dd_23_65 : decode prog_9_method_4_code 65 = .ok (.ifCond .lt 40, 3) := by decide +kernel
theorem dd_23_68 : decode prog_9_method_4_code 68 = .ok (.aload_n 0, 1) := by decide +kernel
theorem dd_23_69 : decode prog_9_method_4_code 69 = .ok (.getfield 7, 3) := by decide +kernel
theorem dd_23_72 : decode prog_9_method_4_code 72 = .ok (.aload_n 0, 1) := by decide +kernel
theorem dd_23_73 : decode prog_9_method_4_code 73 = .ok (.getfield 39, 3) := by decide +kernel
theorem dd_23_76 : decode prog_9_method_4_code 76 = .ok (.lload_n 1, 1) := by decide +kernel
theorem dd_23_77 : decode prog_9_method_4_code 77 = .ok (.bipush 8, 2) := by decide +kernel
theorem dd_23_79 : decode prog_9_method_4_code 79 = .ok (.iload 5, 2) := by decide +kernel
theorem dd_23_81 : decode prog_9_method_4_code 81 = .ok (.imul, 1) := by decide +kernel
theorem dd_23_82 : decode prog_9_method_4_code 82 = .ok (.lshr, 1) := by decide +kernel
theorem dd_23_83 : decode prog_9_method_4_code 83 = .ok (.ldc2_w 46, 3) := by decide +kernel
theorem dd_23_86 : decode prog_9_method_4_code 86 = .ok (.land, 1) := by decide +kernel
theorem dd_23_87 : decode prog_9_method_4_code 87 = .ok (.l2i, 1) := by decide +kernel
theorem dd_23_88 : decode prog_9_method_4_code 88 = .ok (.iastore, 1) := by decide +kernel
theorem dd_23_89 : decode prog_9_method_4_code 89 = .ok (.aload_n 0, 1) := by decide +kernel
theorem dd_23_90 : decode prog_9_method_4_code 90 = .ok (.dup, 1) := by decide +kernel
theorem dd_23_91 : decode prog_9_method_4_code 91 = .ok (.getfield 39, 3) := by decide +kernel
theorem dd_23_94 : decode prog_9_method_4_code 94 = .ok (.iconst 1, 1) := by decide +kernel
theorem dd_23_95 : decode prog_9_method_4_code 95 = .ok (.iadd, 1) := by decide +kernel
theorem dd_23_96 : decode prog_9_method_4_code 96 = .ok (.putfield 39, 3) := by decide +kernel
theorem dd_23_99 : decode prog_9_method_4_code 99 = .ok (.iinc 5 (-1), 3) := by decide +kernel
theorem dd_23_102 : decode prog_9_method_4_code 102 = .ok (.goto (-39), 3) := by decide +kernel
theorem dd_23_105 : decode prog_9_method_4_code 105 = .ok (.aload_n 0, 1) := by decide +kernel
theorem dd_23_106 : decode prog_9_method_4_code 106 = .ok (.getfield 39, 3) := by decide +kernel
theorem dd_23_109 : decode prog_9_method_4_code 109 = .ok (.ireturn, 1) := by decide +kernel
def mt_23 : Nat → Option mv_S := mt_n 58 (mt_n 27 (mt_n 12 (mt_n 5 (mt_n 1 (mt_l 0 (mi_iload 1 3)) (mt_n 2 (mt_l 1 (mi_pure 1 (mo_push (.int 1)))) (mt_l 2 (mi_icmp (fun x y : Int32 => x < y) 11)))) (mt_n 8 (mt_n 6 (mt_l 5 (mi_iload 1 3)) (mt_l 6 (mi_pure 2 (mo_push (.int 8))))) (mt_n 11 (mt_l 8 (mi_icmp (fun x y : Int32 => x ≤ y) 15)) (mt_l 11 (mi_pure 1 (mo_push (.int 1))))))) (mt_n 19 (mt_n 16 (mt_n 15 (mt_l 12 (mi_goto 16)) (mt_l 15 (mi_pure 1 (mo_push (.int 0))))) (mt_n 18 (mt_l 16 (mi_istore 2 4)) (mt_l 18 (mi_aload 1 0)))) (mt_n 23 (mt_n 21 (mt_l 19 (mi_iload 2 4)) (mt_l 21 (mi_iload 2 4))) (mt_n 26 (mt_l 23 (mi_if (fun x : Int32 => ¬ x = 0) 49)) (mt_l 26 (mi_aload 1 0)))))) (mt_n 42 (mt_n 34 (mt_n 30 (mt_l 27 (mi_get 6 3)) (mt_n 33 (mt_l 30 (mi_if (fun x : Int32 => ¬ x = 0) 45)) (mt_l 33 (mi_aload 1 0)))) (mt_n 38 (mt_n 37 (mt_l 34 (mi_get 6 2)) (mt_l 37 (mi_iload 1 3))) (mt_n 39 (mt_l 38 (mi_pure 1 (mo_ii (fun x y => x + y)))) (mt_l 39 (mi_pure 3 (mo_push (.int 2000))))))) (mt_n 50 (mt_n 46 (mt_n 45 (mt_l 42 (mi_icmp (fun x y : Int32 => x ≤ y) 49)) (mt_l 45 (mi_pure 1 (mo_push (.int 1))))) (mt_n 49 (mt_l 46 (mi_goto 50)) (mt_l 49 (mi_pure 1 (mo_push (.int 0)))))) (mt_n 56 (mt_n 53 (mt_l 50 (mi_callV 6 22 3)) (mt_l 53 (mi_if (fun x : Int32 => x = 0) 58))) (mt_n 57 (mt_l 56 (mi_pure 1 (mo_push (.int 0)))) (mt_l 57 (mi_iret))))))) (mt_n 83 (mt_n 69 (mt_n 61 (mt_n 59 (mt_l 58 (mi_iload 1 3)) (mt_n 60 (mt_l 59 (mi_pure 1 (mo_push (.int 1)))) (mt_l 60 (mi_pure 1 (mo_ii (fun x y => x - y)))))) (mt_n 65 (mt_n 63 (mt_l 61 (mi_istore 2 5)) (mt_l 63 (mi_iload 2 5))) (mt_n 68 (mt_l 65 (mi_if (fun x : Int32 => x < 0) 105)) (mt_l 68 (mi_aload 1 0))))) (mt_n 77 (mt_n 73 (mt_n 72 (mt_l 69 (mi_get 6 1)) (mt_l 72 (mi_aload 1 0))) (mt_n 76 (mt_l 73 (mi_get 6 2)) (mt_l 76 (mi_lload 1 1)))) (mt_n 81 (mt_n 79 (mt_l 77 (mi_pure 2 (mo_push (.int 8)))) (mt_l 79 (mi_iload 2 5))) (mt_n 82 (mt_l 81 (mi_pure 1 (mo_ii (fun x y => x * y)))) (mt_l 82 (mi_pure 1 (mo_li (fun x y => x >>> (y.toInt64 &&& 63))))))))) (mt_n 94 (mt_n 88 (mt_n 86 (mt_l 83 (mi_pure 3 (mo_push (.long 255)))) (mt_n 87 (mt_l 86 (mi_pure 1 (mo_ll (fun x y => x &&& y)))) (mt_l 87 (mi_pure 1 mo_l2i)))) (mt_n 90 (mt_n 89 (mt_l 88 (mi_iast)) (mt_l 89 (mi_aload 1 0))) (mt_n 91 (mt_l 90 (mi_pure 1 mo_dup)) (mt_l 91 (mi_get 6 2))))) (mt_n 102 (mt_n 96 (mt_n 95 (mt_l 94 (mi_pure 1 (mo_push (.int 1)))) (mt_l 95 (mi_pure 1 (mo_ii (fun x y => x + y))))) (mt_n 99 (mt_l 96 (mi_put 6 2 (.int))) (mt_l 99 (mi_iinc 5 (-1))))) (mt_n 106 (mt_n 105 (mt_l 102 (mi_goto 63)) (mt_l 105 (mi_aload 1 0))) (mt_n 109 (mt_l 106 (mi_get 6 2)) (mt_l 109 (mi_iret)))))))
theorem ms_23 (L : Nat) (xs : Nat → Int32) : mt_ok (mg L xs) 23 (mt_23) := mt_ok.n (mt_ok.n (mt_ok.n (mt_ok.n (mt_ok.n (mt_ok.l (mn_iload_n (k := 3) dd_23_0 rfl) (mi_iload_mn 1 3)) (mt_ok.n (mt_ok.l (mn_iconst dd_23_1 (by decide)) (mi_pure_mn 1 _)) (mt_ok.l (mn_icmp_lt dd_23_2 (by decide)) (mi_icmp_mn _ _)))) (mt_ok.n (mt_ok.n (mt_ok.l (mn_iload_n (k := 3) dd_23_5 rfl) (mi_iload_mn 1 3)) (mt_ok.l (mn_bipush dd_23_6 (by decide)) (mi_pure_mn 2 _))) (mt_ok.n (mt_ok.l (mn_icmp_le dd_23_8 (by decide)) (mi_icmp_mn _ _)) (mt_ok.l (mn_iconst dd_23_11 (by decide)) (mi_pure_mn 1 _))))) (mt_ok.n (mt_ok.n (mt_ok.n (mt_ok.l (mn_goto dd_23_12 (by decide)) (mi_goto_mn 16)) (mt_ok.l (mn_iconst dd_23_15 (by decide)) (mi_pure_mn 1 _))) (mt_ok.n (mt_ok.l (mn_istore dd_23_16 (Nat.le_of_ble_eq_true rfl)) (mi_istore_mn 2 4)) (mt_ok.l (mn_aload_n (k := 0) dd_23_18 rfl) (mi_aload_mn 1 0)))) (mt_ok.n (mt_ok.n (mt_ok.l (mn_iload dd_23_19) (mi_iload_mn 2 4)) (mt_ok.l (mn_iload dd_23_21) (mi_iload_mn 2 4))) (mt_ok.n (mt_ok.l (mn_if_ne dd_23_23 (by decide)) (mi_if_mn _ _)) (mt_ok.l (mn_aload_n (k := 0) dd_23_26 rfl) (mi_aload_mn 1 0)))))) (mt_ok.n (mt_ok.n (mt_ok.n (mt_ok.l (mn_get (C := "TokenScannerModel") (T := mf_T6) (N := 21) dd_23_27 rfl (Nat.le_of_ble_eq_true rfl) mf_i6 hw_670) (mi_get_mn 6 3)) (mt_ok.n (mt_ok.l (mn_if_ne dd_23_30 (by decide)) (mi_if_mn _ _)) (mt_ok.l (mn_aload_n (k := 0) dd_23_33 rfl) (mi_aload_mn 1 0)))) (mt_ok.n (mt_ok.n (mt_ok.l (mn_get (C := "TokenScannerModel") (T := mf_T6) (N := 21) dd_23_34 rfl (Nat.le_of_ble_eq_true rfl) mf_i6 hw_669) (mi_get_mn 6 2)) (mt_ok.l (mn_iload_n (k := 3) dd_23_37 rfl) (mi_iload_mn 1 3))) (mt_ok.n (mt_ok.l (mn_iadd dd_23_38) (mi_pure_mn 1 _)) (mt_ok.l (mn_sipush dd_23_39 (by decide)) (mi_pure_mn 3 _))))) (mt_ok.n (mt_ok.n (mt_ok.n (mt_ok.l (mn_icmp_le dd_23_42 (by decide)) (mi_icmp_mn _ _)) (mt_ok.l (mn_iconst dd_23_45 (by decide)) (mi_pure_mn 1 _))) (mt_ok.n (mt_ok.l (mn_goto dd_23_46 (by decide)) (mi_goto_mn 50)) (mt_ok.l (mn_iconst dd_23_49 (by decide)) (mi_pure_mn 1 _)))) (mt_ok.n (mt_ok.n (mt_ok.l (mn_callV (y := 23) (pc := 50) (z := 22) (mg_Ok L xs) (C := "TokenScannerModel") (T0 := mf_T6) (N := 21) dd_23_50 rfl (mv_Hn.none rfl (fun _ => rfl)) (mc_23_22 L xs) hw_739 hw_741 hs_26 mq_22.1) (mi_callV_mn 6 22 3)) (mt_ok.l (mn_if_eq dd_23_53 (by decide)) (mi_if_mn _ _))) (mt_ok.n (mt_ok.l (mn_iconst dd_23_56 (by decide)) (mi_pure_mn 1 _)) (mt_ok.l (mn_iret dd_23_57 rfl) (mi_iret_mn))))))) (mt_ok.n (mt_ok.n (mt_ok.n (mt_ok.n (mt_ok.l (mn_iload_n (k := 3) dd_23_58 rfl) (mi_iload_mn 1 3)) (mt_ok.n (mt_ok.l (mn_iconst dd_23_59 (by decide)) (mi_pure_mn 1 _)) (mt_ok.l (mn_isub dd_23_60) (mi_pure_mn 1 _)))) (mt_ok.n (mt_ok.n (mt_ok.l (mn_istore dd_23_61 (Nat.le_of_ble_eq_true rfl)) (mi_istore_mn 2 5)) (mt_ok.l (mn_iload dd_23_63) (mi_iload_mn 2 5))) (mt_ok.n (mt_ok.l (mn_if_lt dd_23_65 (by decide)) (mi_if_mn _ _)) (mt_ok.l (mn_aload_n (k := 0) dd_23_68 rfl) (mi_aload_mn 1 0))))) (mt_ok.n (mt_ok.n (mt_ok.n (mt_ok.l (mn_get (C := "TokenScannerModel") (T := mf_T6) (N := 21) dd_23_69 rfl (Nat.le_of_ble_eq_true rfl) mf_i6 hw_668) (mi_get_mn 6 1)) (mt_ok.l (mn_aload_n (k := 0) dd_23_72 rfl) (mi_aload_mn 1 0))) (mt_ok.n (mt_ok.l (mn_get (C := "TokenScannerModel") (T := mf_T6) (N := 21) dd_23_73 rfl (Nat.le_of_ble_eq_true rfl) mf_i6 hw_669) (mi_get_mn 6 2)) (mt_ok.l (mn_lload_n (k := 1) dd_23_76 rfl) (mi_lload_mn 1 1)))) (mt_ok.n (mt_ok.n (mt_ok.l (mn_bipush dd_23_77 (by decide)) (mi_pure_mn 2 _)) (mt_ok.l (mn_iload dd_23_79) (mi_iload_mn 2 5))) (mt_ok.n (mt_ok.l (mn_imul dd_23_81) (mi_pure_mn 1 _)) (mt_ok.l (mn_lshr dd_23_82) (mi_pure_mn 1 _)))))) (mt_ok.n (mt_ok.n (mt_ok.n (mt_ok.l (mn_ldc2 dd_23_83 hw_743) (mi_pure_mn 3 _)) (mt_ok.n (mt_ok.l (mn_land dd_23_86) (mi_pure_mn 1 _)) (mt_ok.l (mn_l2i dd_23_87) (mi_pure_mn 1 _)))) (mt_ok.n (mt_ok.n (mt_ok.l (mn_iast dd_23_88 rfl) (mi_iast_mn)) (mt_ok.l (mn_aload_n (k := 0) dd_23_89 rfl) (mi_aload_mn 1 0))) (mt_ok.n (mt_ok.l (mn_dup dd_23_90) (mi_pure_mn 1 _)) (mt_ok.l (mn_get (C := "TokenScannerModel") (T := mf_T6) (N := 21) dd_23_91 rfl (Nat.le_of_ble_eq_true rfl) mf_i6 hw_669) (mi_get_mn 6 2))))) (mt_ok.n (mt_ok.n (mt_ok.n (mt_ok.l (mn_iconst dd_23_94 (by decide)) (mi_pure_mn 1 _)) (mt_ok.l (mn_iadd dd_23_95) (mi_pure_mn 1 _))) (mt_ok.n (mt_ok.l (mn_put (C := "TokenScannerModel") (T := mf_T6) (N := 21) (host := "") mf_y6 dd_23_96 rfl (Nat.le_of_ble_eq_true rfl) mf_i6 mf_o6 mf_n6 hw_669 rfl (by decide +kernel)) (mi_put_mn 6 2 _)) (mt_ok.l (mn_iinc dd_23_99 (by decide) (Nat.le_of_ble_eq_true rfl)) (mi_iinc_mn 5 _)))) (mt_ok.n (mt_ok.n (mt_ok.l (mn_goto dd_23_102 (by decide)) (mi_goto_mn 63)) (mt_ok.l (mn_aload_n (k := 0) dd_23_105 rfl) (mi_aload_mn 1 0))) (mt_ok.n (mt_ok.l (mn_get (C := "TokenScannerModel") (T := mf_T6) (N := 21) dd_23_106 rfl (Nat.le_of_ble_eq_true rfl) mf_i6 hw_669) (mi_get_mn 6 2)) (mt_ok.l (mn_iret dd_23_109 rfl) (mi_iret_mn)))))))
theorem dd_24_0 : decode prog_9_method_2_code 0 = .ok (.aload_n 0, 1) := by decide +kernel
theorem dd_24_1 : decode prog_9_method_2_code 1 = .ok (.getfield 32, 3) := by decide +kernel
theorem dd_24_4 : decode prog_9_method_2_code 4 = .ok (.ireturn, 1) := by decide +kernel
def mt_24 : Nat → Option mv_S := mt_n 1 (mt_l 0 (mi_aload 1 0)) (mt_n 4 (mt_l 1 (mi_get 6 0)) (mt_l 4 (mi_iret)))
theorem ms_24 (L : Nat) (xs : Nat → Int32) : mt_ok (mg L xs) 24 (mt_24) := mt_ok.n (mt_ok.l (mn_aload_n (k := 0) dd_24_0 rfl) (mi_aload_mn 1 0)) (mt_ok.n (mt_ok.l (mn_get (C := "TokenScannerModel") (T := mf_T6) (N := 21) dd_24_1 rfl (Nat.le_of_ble_eq_true rfl) mf_i6 hw_667) (mi_get_mn 6 0)) (mt_ok.l (mn_iret dd_24_4 rfl) (mi_iret_mn)))
theorem dd_25_0 : decode prog_3_method_2_code 0 = .ok (.aload_n 0, 1) := by decide +kernel
theorem dd_25_1 : decode prog_3_method_2_code 1 = .ok (.iconst 0, 1) := by decide +kernel
theorem dd_25_2 : decode prog_3_method_2_code 2 = .ok (.putfield 24, 3) := by decide +kernel
theorem dd_25_5 : decode prog_3_method_2_code 5 = .ok (.return_, 1) := by decide +kernel
def mt_25 : Nat → Option mv_S := mt_n 2 (mt_n 1 (mt_l 0 (mi_aload 1 0)) (mt_l 1 (mi_pure 1 (mo_push (.int 0))))) (mt_n 5 (mt_l 2 (mi_put 5 2 (.int))) (mt_l 5 (mi_vret)))
theorem ms_25 (L : Nat) (xs : Nat → Int32) : mt_ok (mg L xs) 25 (mt_25) := mt_ok.n (mt_ok.n (mt_ok.l (mn_aload_n (k := 0) dd_25_0 rfl) (mi_aload_mn 1 0)) (mt_ok.l (mn_iconst dd_25_1 (by decide)) (mi_pure_mn 1 _))) (mt_ok.n (mt_ok.l (mn_put (C := "TokenScanner$Shelf") (T := mf_T5) (N := 3) (host := "") mf_y5 dd_25_2 rfl (Nat.le_of_ble_eq_true rfl) mf_i5 mf_o5 mf_n5 hw_214 rfl (by decide +kernel)) (mi_put_mn 5 2 _)) (mt_ok.l (mn_vret dd_25_5 rfl) (mi_vret_mn)))
theorem dd_26_0 : decode prog_2_method_2_code 0 = .ok (.aload_n 0, 1) := by decide +kernel
theorem dd_26_1 : decode prog_2_method_2_code 1 = .ok (.iconst 0, 1) := by decide +kernel
theorem dd_26_2 : decode prog_2_method_2_code 2 = .ok (.putfield 27, 3) := by decide +kernel
theorem dd_26_5 : decode prog_2_method_2_code 5 = .ok (.aload_n 0, 1) := by decide +kernel
theorem dd_26_6 : decode prog_2_method_2_code 6 = .ok (.iconst (-1), 1) := by decide +kernel
theorem dd_26_7 : decode prog_2_method_2_code 7 = .ok (.putfield 31, 3) := by decide +kernel
theorem dd_26_10 : decode prog_2_method_2_code 10 = .ok (.return_, 1) := by decide +kernel
def mt_26 : Nat → Option mv_S := mt_n 5 (mt_n 1 (mt_l 0 (mi_aload 1 0)) (mt_n 2 (mt_l 1 (mi_pure 1 (mo_push (.int 0)))) (mt_l 2 (mi_put 3 4 (.int))))) (mt_n 7 (mt_n 6 (mt_l 5 (mi_aload 1 0)) (mt_l 6 (mi_pure 1 (mo_push (.int (-1)))))) (mt_n 10 (mt_l 7 (mi_put 3 5 (.int))) (mt_l 10 (mi_vret))))
theorem ms_26 (L : Nat) (xs : Nat → Int32) : mt_ok (mg L xs) 26 (mt_26) := mt_ok.n (mt_ok.n (mt_ok.l (mn_aload_n (k := 0) dd_26_0 rfl) (mi_aload_mn 1 0)) (mt_ok.n (mt_ok.l (mn_iconst dd_26_1 (by decide)) (mi_pure_mn 1 _)) (mt_ok.l (mn_put (C := "TokenScanner$Reader") (T := mf_T3) (N := 6) (host := "") mf_y3 dd_26_2 rfl (Nat.le_of_ble_eq_true rfl) mf_i3 mf_o3 mf_n3 hw_187 rfl (by decide +kernel)) (mi_put_mn 3 4 _)))) (mt_ok.n (mt_ok.n (mt_ok.l (mn_aload_n (k := 0) dd_26_5 rfl) (mi_aload_mn 1 0)) (mt_ok.l (mn_iconst dd_26_6 (by decide)) (mi_pure_mn 1 _))) (mt_ok.n (mt_ok.l (mn_put (C := "TokenScanner$Reader") (T := mf_T3) (N := 6) (host := "") mf_y3 dd_26_7 rfl (Nat.le_of_ble_eq_true rfl) mf_i3 mf_o3 mf_n3 hw_188 rfl (by decide +kernel)) (mi_put_mn 3 5 _)) (mt_ok.l (mn_vret dd_26_10 rfl) (mi_vret_mn))))
theorem dd_27_0 : decode prog_6_method_2_code 0 = .ok (.aload_n 0, 1) := by decide +kernel
theorem dd_27_1 : decode prog_6_method_2_code 1 = .ok (.iconst 0, 1) := by decide +kernel
theorem dd_27_2 : decode prog_6_method_2_code 2 = .ok (.putfield 15, 3) := by decide +kernel
theorem dd_27_5 : decode prog_6_method_2_code 5 = .ok (.aload_n 0, 1) := by decide +kernel
theorem dd_27_6 : decode prog_6_method_2_code 6 = .ok (.iconst 0, 1) := by decide +kernel
theorem dd_27_7 : decode prog_6_method_2_code 7 = .ok (.putfield 19, 3) := by decide +kernel
theorem dd_27_10 : decode prog_6_method_2_code 10 = .ok (.aload_n 0, 1) := by decide +kernel
theorem dd_27_11 : decode prog_6_method_2_code 11 = .ok (.iconst 0, 1) := by decide +kernel
theorem dd_27_12 : decode prog_6_method_2_code 12 = .ok (.putfield 22, 3) := by decide +kernel
theorem dd_27_15 : decode prog_6_method_2_code 15 = .ok (.aload_n 0, 1) := by decide +kernel
theorem dd_27_16 : decode prog_6_method_2_code 16 = .ok (.iconst 0, 1) := by decide +kernel
theorem dd_27_17 : decode prog_6_method_2_code 17 = .ok (.putfield 25, 3) := by decide +kernel
theorem dd_27_20 : decode prog_6_method_2_code 20 = .ok (.aload_n 0, 1) := by decide +kernel
theorem dd_27_21 : decode prog_6_method_2_code 21 = .ok (.iconst (-1), 1) := by decide +kernel
theorem dd_27_22 : decode prog_6_method_2_code 22 = .ok (.putfield 29, 3) := by decide +kernel
theorem dd_27_25 : decode prog_6_method_2_code 25 = .ok (.aload_n 0, 1) := by decide +kernel
theorem dd_27_26 : decode prog_6_method_2_code 26 = .ok (.iconst 0, 1) := by decide +kernel
theorem dd_27_27 : decode prog_6_method_2_code 27 = .ok (.putfield 32, 3) := by decide +kernel
theorem dd_27_30 : decode prog_6_method_2_code 30 = .ok (.aload_n 0, 1) := by decide +kernel
theorem dd_27_31 : decode prog_6_method_2_code 31 = .ok (.iconst 0, 1) := by decide +kernel
theorem dd_27_32 : decode prog_6_method_2_code 32 = .ok (.putfield 35, 3) := by decide +kernel
theorem dd_27_35 : decode prog_6_method_2_code 35 = .ok (.aload_n 0, 1) := by decide +kernel
theorem dd_27_36 : decode prog_6_method_2_code 36 = .ok (.iconst 0, 1) := by decide +kernel
theorem dd_27_37 : decode prog_6_method_2_code 37 = .ok (.putfield 38, 3) := by decide +kernel
theorem dd_27_40 : decode prog_6_method_2_code 40 = .ok (.return_, 1) := by decide +kernel
def mt_27 : Nat → Option mv_S := mt_n 20 (mt_n 10 (mt_n 5 (mt_n 1 (mt_l 0 (mi_aload 1 0)) (mt_n 2 (mt_l 1 (mi_pure 1 (mo_push (.int 0)))) (mt_l 2 (mi_put 2 0 (.int))))) (mt_n 6 (mt_l 5 (mi_aload 1 0)) (mt_n 7 (mt_l 6 (mi_pure 1 (mo_push (.int 0)))) (mt_l 7 (mi_put 2 1 (.int)))))) (mt_n 15 (mt_n 11 (mt_l 10 (mi_aload 1 0)) (mt_n 12 (mt_l 11 (mi_pure 1 (mo_push (.int 0)))) (mt_l 12 (mi_put 2 2 (.int))))) (mt_n 16 (mt_l 15 (mi_aload 1 0)) (mt_n 17 (mt_l 16 (mi_pure 1 (mo_push (.int 0)))) (mt_l 17 (mi_put 2 3 (.boolean))))))) (mt_n 30 (mt_n 25 (mt_n 21 (mt_l 20 (mi_aload 1 0)) (mt_n 22 (mt_l 21 (mi_pure 1 (mo_push (.int (-1))))) (mt_l 22 (mi_put 2 4 (.int))))) (mt_n 26 (mt_l 25 (mi_aload 1 0)) (mt_n 27 (mt_l 26 (mi_pure 1 (mo_push (.int 0)))) (mt_l 27 (mi_put 2 5 (.boolean)))))) (mt_n 35 (mt_n 31 (mt_l 30 (mi_aload 1 0)) (mt_n 32 (mt_l 31 (mi_pure 1 (mo_push (.int 0)))) (mt_l 32 (mi_put 2 6 (.int))))) (mt_n 37 (mt_n 36 (mt_l 35 (mi_aload 1 0)) (mt_l 36 (mi_pure 1 (mo_push (.int 0))))) (mt_n 40 (mt_l 37 (mi_put 2 8 (.int))) (mt_l 40 (mi_vret))))))
theorem ms_27 (L : Nat) (xs : Nat → Int32) : mt_ok (mg L xs) 27 (mt_27) := mt_ok.n (mt_ok.n (mt_ok.n (mt_ok.n (mt_ok.l (mn_aload_n (k := 0) dd_27_0 rfl) (mi_aload_mn 1 0)) (mt_ok.n (mt_ok.l (mn_iconst dd_27_1 (by decide)) (mi_pure_mn 1 _)) (mt_ok.l (mn_put (C := "TokenScanner$Token") (T := mf_T2) (N := 9) (host := "") mf_y2 dd_27_2 rfl (Nat.le_of_ble_eq_true rfl) mf_i2 mf_o2 mf_n2 hw_50 rfl (by decide +kernel)) (mi_put_mn 2 0 _)))) (mt_ok.n (mt_ok.l (mn_aload_n (k := 0) dd_27_5 rfl) (mi_aload_mn 1 0)) (mt_ok.n (mt_ok.l (mn_iconst dd_27_6 (by decide)) (mi_pure_mn 1 _)) (mt_ok.l (mn_put (C := "TokenScanner$Token") (T := mf_T2) (N := 9) (host := "") mf_y2 dd_27_7 rfl (Nat.le_of_ble_eq_true rfl) mf_i2 mf_o2 mf_n2 hw_53 rfl (by decide +kernel)) (mi_put_mn 2 1 _))))) (mt_ok.n (mt_ok.n (mt_ok.l (mn_aload_n (k := 0) dd_27_10 rfl) (mi_aload_mn 1 0)) (mt_ok.n (mt_ok.l (mn_iconst dd_27_11 (by decide)) (mi_pure_mn 1 _)) (mt_ok.l (mn_put (C := "TokenScanner$Token") (T := mf_T2) (N := 9) (host := "") mf_y2 dd_27_12 rfl (Nat.le_of_ble_eq_true rfl) mf_i2 mf_o2 mf_n2 hw_56 rfl (by decide +kernel)) (mi_put_mn 2 2 _)))) (mt_ok.n (mt_ok.l (mn_aload_n (k := 0) dd_27_15 rfl) (mi_aload_mn 1 0)) (mt_ok.n (mt_ok.l (mn_iconst dd_27_16 (by decide)) (mi_pure_mn 1 _)) (mt_ok.l (mn_put (C := "TokenScanner$Token") (T := mf_T2) (N := 9) (host := "") mf_y2 dd_27_17 rfl (Nat.le_of_ble_eq_true rfl) mf_i2 mf_o2 mf_n2 hw_59 rfl (by decide +kernel)) (mi_put_mn 2 3 _)))))) (mt_ok.n (mt_ok.n (mt_ok.n (mt_ok.l (mn_aload_n (k := 0) dd_27_20 rfl) (mi_aload_mn 1 0)) (mt_ok.n (mt_ok.l (mn_iconst dd_27_21 (by decide)) (mi_pure_mn 1 _)) (mt_ok.l (mn_put (C := "TokenScanner$Token") (T := mf_T2) (N := 9) (host := "") mf_y2 dd_27_22 rfl (Nat.le_of_ble_eq_true rfl) mf_i2 mf_o2 mf_n2 hw_62 rfl (by decide +kernel)) (mi_put_mn 2 4 _)))) (mt_ok.n (mt_ok.l (mn_aload_n (k := 0) dd_27_25 rfl) (mi_aload_mn 1 0)) (mt_ok.n (mt_ok.l (mn_iconst dd_27_26 (by decide)) (mi_pure_mn 1 _)) (mt_ok.l (mn_put (C := "TokenScanner$Token") (T := mf_T2) (N := 9) (host := "") mf_y2 dd_27_27 rfl (Nat.le_of_ble_eq_true rfl) mf_i2 mf_o2 mf_n2 hw_65 rfl (by decide +kernel)) (mi_put_mn 2 5 _))))) (mt_ok.n (mt_ok.n (mt_ok.l (mn_aload_n (k := 0) dd_27_30 rfl) (mi_aload_mn 1 0)) (mt_ok.n (mt_ok.l (mn_iconst dd_27_31 (by decide)) (mi_pure_mn 1 _)) (mt_ok.l (mn_put (C := "TokenScanner$Token") (T := mf_T2) (N := 9) (host := "") mf_y2 dd_27_32 rfl (Nat.le_of_ble_eq_true rfl) mf_i2 mf_o2 mf_n2 hw_68 rfl (by decide +kernel)) (mi_put_mn 2 6 _)))) (mt_ok.n (mt_ok.n (mt_ok.l (mn_aload_n (k := 0) dd_27_35 rfl) (mi_aload_mn 1 0)) (mt_ok.l (mn_iconst dd_27_36 (by decide)) (mi_pure_mn 1 _))) (mt_ok.n (mt_ok.l (mn_put (C := "TokenScanner$Token") (T := mf_T2) (N := 9) (host := "") mf_y2 dd_27_37 rfl (Nat.le_of_ble_eq_true rfl) mf_i2 mf_o2 mf_n2 hw_74 rfl (by decide +kernel)) (mi_put_mn 2 8 _)) (mt_ok.l (mn_vret dd_27_40 rfl) (mi_vret_mn))))))
theorem dd_28_0 : decode prog_4_method_6_code 0 = .ok (.iload_n 1, 1) := by decide +kernel
theorem dd_28_1 : decode prog_4_method_6_code 1 = .ok (.ifCond .lt 20, 3) := by decide +kernel
theorem dd_28_4 : decode prog_4_method_6_code 4 = .ok (.iload_n 1, 1) := by decide +kernel
theorem dd_28_5 : decode prog_4_method_6_code 5 = .ok (.aload_n 0, 1) := by decide +kernel
theorem dd_28_6 : decode prog_4_method_6_code 6 = .ok (.getfield 15, 3) := by decide +kernel
theorem dd_28_9 : decode prog_4_method_6_code 9 = .ok (.if_icmp .ge 12, 3) := by decide +kernel
theorem dd_28_12 : decode prog_4_method_6_code 12 = .ok (.aload_n 0, 1) := by decide +kernel
theorem dd_28_13 : decode prog_4_method_6_code 13 = .ok (.getfield 9, 3) := by decide +kernel
theorem dd_28_16 : decode prog_4_method_6_code 16 = .ok (.iload_n 1, 1) := by decide +kernel
theorem dd_28_17 : decode prog_4_method_6_code 17 = .ok (.iaload, 1) := by decide +kernel
theorem dd_28_18 : decode prog_4_method_6_code 18 = .ok (.goto 4, 3) := by decide +kernel
theorem dd_28_21 : decode prog_4_method_6_code 21 = .ok (.iconst (-1), 1) := by decide +kernel
theorem dd_28_22 : decode prog_4_method_6_code 22 = .ok (.ireturn, 1) := by decide +kernel
def mt_28 : Nat → Option mv_S := mt_n 12 (mt_n 5 (mt_n 1 (mt_l 0 (mi_iload 1 1)) (mt_n 4 (mt_l 1 (mi_if (fun x : Int32 => x < 0) 21)) (mt_l 4 (mi_iload 1 1)))) (mt_n 6 (mt_l 5 (mi_aload 1 0)) (mt_n 9 (mt_l 6 (mi_get 1 1)) (mt_l 9 (mi_icmp (fun x y : Int32 => y ≤ x) 21))))) (mt_n 17 (mt_n 13 (mt_l 12 (mi_aload 1 0)) (mt_n 16 (mt_l 13 (mi_get 1 0)) (mt_l 16 (mi_iload 1 1)))) (mt_n 21 (mt_n 18 (mt_l 17 (mi_iald)) (mt_l 18 (mi_goto 22))) (mt_n 22 (mt_l 21 (mi_pure 1 (mo_push (.int (-1))))) (mt_l 22 (mi_iret)))))
theorem ms_28 (L : Nat) (xs : Nat → Int32) : mt_ok (mg L xs) 28 (mt_28) := mt_ok.n (mt_ok.n (mt_ok.n (mt_ok.l (mn_iload_n (k := 1) dd_28_0 rfl) (mi_iload_mn 1 1)) (mt_ok.n (mt_ok.l (mn_if_lt dd_28_1 (by decide)) (mi_if_mn _ _)) (mt_ok.l (mn_iload_n (k := 1) dd_28_4 rfl) (mi_iload_mn 1 1)))) (mt_ok.n (mt_ok.l (mn_aload_n (k := 0) dd_28_5 rfl) (mi_aload_mn 1 0)) (mt_ok.n (mt_ok.l (mn_get (C := "TokenScanner$Source") (T := mf_T1) (N := 2) dd_28_6 rfl (Nat.le_of_ble_eq_true rfl) mf_i1 hw_37) (mi_get_mn 1 1)) (mt_ok.l (mn_icmp_ge dd_28_9 (by decide)) (mi_icmp_mn _ _))))) (mt_ok.n (mt_ok.n (mt_ok.l (mn_aload_n (k := 0) dd_28_12 rfl) (mi_aload_mn 1 0)) (mt_ok.n (mt_ok.l (mn_get (C := "TokenScanner$Source") (T := mf_T1) (N := 2) dd_28_13 rfl (Nat.le_of_ble_eq_true rfl) mf_i1 hw_36) (mi_get_mn 1 0)) (mt_ok.l (mn_iload_n (k := 1) dd_28_16 rfl) (mi_iload_mn 1 1)))) (mt_ok.n (mt_ok.n (mt_ok.l (mn_iald dd_28_17 rfl) (mi_iald_mn)) (mt_ok.l (mn_goto dd_28_18 (by decide)) (mi_goto_mn 22))) (mt_ok.n (mt_ok.l (mn_iconst dd_28_21 (by decide)) (mi_pure_mn 1 _)) (mt_ok.l (mn_iret dd_28_22 rfl) (mi_iret_mn)))))
theorem dd_29_0 : decode prog_7_method_2_code 0 = .ok (.iload_n 0, 1) := by decide +kernel
theorem dd_29_1 : decode prog_7_method_2_code 1 = .ok (.bipush 9, 2) := by decide +kernel
theorem dd_29_3 : decode prog_7_method_2_code 3 = .ok (.if_icmp .eq 28, 3) := by decide +kernel
theorem dd_29_6 : decode prog_7_method_2_code 6 = .ok (.iload_n 0, 1) := by decide +kernel
theorem dd_29_7 : decode prog_7_method_2_code 7 = .ok (.bipush 11, 2) := by decide +kernel
theorem dd_29_9 : decode prog_7_method_2_code 9 = .ok (.if_icmp .eq 22, 3) := by decide +kernel
theorem dd_29_12 : decode prog_7_method_2_code 12 = .ok (.iload_n 0, 1) := by decide +kernel
theorem dd_29_13 : decode prog_7_method_2_code 13 = .ok (.bipush 12, 2) := by decide +kernel
theorem dd_29_15 : decode prog_7_method_2_code 15 = .ok (.if_icmp .eq 16, 3) := by decide +kernel
theorem dd_29_18 : decode prog_7_method_2_code 18 = .ok (.iload_n 0, 1) := by decide +kernel
theorem dd_29_19 : decode prog_7_method_2_code 19 = .ok (.bipush 32, 2) := by decide +kernel
theorem dd_29_21 : decode prog_7_method_2_code 21 = .ok (.if_icmp .eq 10, 3) := by decide +kernel
theorem dd_29_24 : decode prog_7_method_2_code 24 = .ok (.iload_n 0, 1) := by decide +kernel
theorem dd_29_25 : decode prog_7_method_2_code 25 = .ok (.sipush 160, 3) := by decide +kernel
theorem dd_29_28 : decode prog_7_method_2_code 28 = .ok (.if_icmp .ne 7, 3) := by decide +kernel
theorem dd_29_31 : decode prog_7_method_2_code 31 = .ok (.iconst 1, 1) := by decide +kernel
theorem dd_29_32 : decode prog_7_method_2_code 32 = .ok (.goto 4, 3) := by decide +kernel
theorem dd_29_35 : decode prog_7_method_2_code 35 = .ok (.iconst 0, 1) := by decide +kernel
theorem dd_29_36 : decode prog_7_method_2_code 36 = .ok (.ireturn, 1) := by decide +kernel
def mt_29 : Nat → Option mv_S := mt_n 18 (mt_n 7 (mt_n 3 (mt_n 1 (mt_l 0 (mi_iload 1 0)) (mt_l 1 (mi_pure 2 (mo_push (.int 9))))) (mt_n 6 (mt_l 3 (mi_icmp (fun x y : Int32 => x = y) 31)) (mt_l 6 (mi_iload 1 0)))) (mt_n 12 (mt_n 9 (mt_l 7 (mi_pure 2 (mo_push (.int 11)))) (mt_l 9 (mi_icmp (fun x y : Int32 => x = y) 31))) (mt_n 13 (mt_l 12 (mi_iload 1 0)) (mt_n 15 (mt_l 13 (mi_pure 2 (mo_push (.int 12)))) (mt_l 15 (mi_icmp (fun x y : Int32 => x = y) 31)))))) (mt_n 28 (mt_n 21 (mt_n 19 (mt_l 18 (mi_iload 1 0)) (mt_l 19 (mi_pure 2 (mo_push (.int 32))))) (mt_n 24 (mt_l 21 (mi_icmp (fun x y : Int32 => x = y) 31)) (mt_n 25 (mt_l 24 (mi_iload 1 0)) (mt_l 25 (mi_pure 3 (mo_push (.int 160))))))) (mt_n 32 (mt_n 31 (mt_l 28 (mi_icmp (fun x y : Int32 => ¬ x = y) 35)) (mt_l 31 (mi_pure 1 (mo_push (.int 1))))) (mt_n 35 (mt_l 32 (mi_goto 36)) (mt_n 36 (mt_l 35 (mi_pure 1 (mo_push (.int 0)))) (mt_l 36 (mi_zret))))))
theorem ms_29 (L : Nat) (xs : Nat → Int32) : mt_ok (mg L xs) 29 (mt_29) := mt_ok.n (mt_ok.n (mt_ok.n (mt_ok.n (mt_ok.l (mn_iload_n (k := 0) dd_29_0 rfl) (mi_iload_mn 1 0)) (mt_ok.l (mn_bipush dd_29_1 (by decide)) (mi_pure_mn 2 _))) (mt_ok.n (mt_ok.l (mn_icmp_eq dd_29_3 (by decide)) (mi_icmp_mn _ _)) (mt_ok.l (mn_iload_n (k := 0) dd_29_6 rfl) (mi_iload_mn 1 0)))) (mt_ok.n (mt_ok.n (mt_ok.l (mn_bipush dd_29_7 (by decide)) (mi_pure_mn 2 _)) (mt_ok.l (mn_icmp_eq dd_29_9 (by decide)) (mi_icmp_mn _ _))) (mt_ok.n (mt_ok.l (mn_iload_n (k := 0) dd_29_12 rfl) (mi_iload_mn 1 0)) (mt_ok.n (mt_ok.l (mn_bipush dd_29_13 (by decide)) (mi_pure_mn 2 _)) (mt_ok.l (mn_icmp_eq dd_29_15 (by decide)) (mi_icmp_mn _ _)))))) (mt_ok.n (mt_ok.n (mt_ok.n (mt_ok.l (mn_iload_n (k := 0) dd_29_18 rfl) (mi_iload_mn 1 0)) (mt_ok.l (mn_bipush dd_29_19 (by decide)) (mi_pure_mn 2 _))) (mt_ok.n (mt_ok.l (mn_icmp_eq dd_29_21 (by decide)) (mi_icmp_mn _ _)) (mt_ok.n (mt_ok.l (mn_iload_n (k := 0) dd_29_24 rfl) (mi_iload_mn 1 0)) (mt_ok.l (mn_sipush dd_29_25 (by decide)) (mi_pure_mn 3 _))))) (mt_ok.n (mt_ok.n (mt_ok.l (mn_icmp_ne dd_29_28 (by decide)) (mi_icmp_mn _ _)) (mt_ok.l (mn_iconst dd_29_31 (by decide)) (mi_pure_mn 1 _))) (mt_ok.n (mt_ok.l (mn_goto dd_29_32 (by decide)) (mi_goto_mn 36)) (mt_ok.n (mt_ok.l (mn_iconst dd_29_35 (by decide)) (mi_pure_mn 1 _)) (mt_ok.l (mn_zret dd_29_36 rfl) (mi_zret_mn))))))
