theorem dd_128_0 : decode prog_1_method_11_code 0 = .ok (.aload_n 0, 1) := by decide +kernel
theorem dd_128_1 : decode prog_1_method_11_code 1 = .ok (.getfield 44, 3) := by decide +kernel
theorem dd_128_4 : decode prog_1_method_11_code 4 = .ok (.ifCond .eq 13, 3) := by decide +kernel
theorem dd_128_7 : decode prog_1_method_11_code 7 = .ok (.aload_n 0, 1) := by decide +kernel
theorem dd_128_8 : decode prog_1_method_11_code 8 = .ok (.getfield 19, 3) := by decide +kernel
theorem dd_128_11 : decode prog_1_method_11_code 11 = .ok (.invokevirtual 155, 3) := by decide +kernel
theorem dd_128_14 : decode prog_1_method_11_code 14 = .ok (.ifCond .ne 13, 3) := by decide +kernel
theorem dd_128_17 : decode prog_1_method_11_code 17 = .ok (.new 59, 3) := by decide +kernel
theorem dd_128_20 : decode prog_1_method_11_code 20 = .ok (.dup, 1) := by decide +kernel
theorem dd_128_21 : decode prog_1_method_11_code 21 = .ok (.ldc 158, 2) := by decide +kernel
theorem dd_128_23 : decode prog_1_method_11_code 23 = .ok (.invokespecial 63, 3) := by decide +kernel
theorem dd_128_26 : decode prog_1_method_11_code 26 = .ok (.athrow, 1) := by decide +kernel
theorem dd_128_27 : decode prog_1_method_11_code 27 = .ok (.aload_n 0, 1) := by decide +kernel
theorem dd_128_28 : decode prog_1_method_11_code 28 = .ok (.getfield 41, 3) := by decide +kernel
theorem dd_128_31 : decode prog_1_method_11_code 31 = .ok (.aload_n 0, 1) := by decide +kernel
theorem dd_128_32 : decode prog_1_method_11_code 32 = .ok (.getfield 19, 3) := by decide +kernel
theorem dd_128_35 : decode prog_1_method_11_code 35 = .ok (.getfield 130, 3) := by decide +kernel
theorem dd_128_38 : decode prog_1_method_11_code 38 = .ok (.invokevirtual 160, 3) := by decide +kernel
theorem dd_128_41 : decode prog_1_method_11_code 41 = .ok (.ifCond .ne 13, 3) := by decide +kernel
theorem dd_128_44 : decode prog_1_method_11_code 44 = .ok (.new 59, 3) := by decide +kernel
theorem dd_128_47 : decode prog_1_method_11_code 47 = .ok (.dup, 1) := by decide +kernel
theorem dd_128_48 : decode prog_1_method_11_code 48 = .ok (.ldc 161, 2) := by decide +kernel
theorem dd_128_50 : decode prog_1_method_11_code 50 = .ok (.invokespecial 63, 3) := by decide +kernel
theorem dd_128_53 : decode prog_1_method_11_code 53 = .ok (.athrow, 1) := by decide +kernel
theorem dd_128_54 : decode prog_1_method_11_code 54 = .ok (.aload_n 0, 1) := by decide +kernel
theorem dd_128_55 : decode prog_1_method_11_code 55 = .ok (.getfield 41, 3) := by decide +kernel
theorem dd_128_58 : decode prog_1_method_11_code 58 = .ok (.aload_n 0, 1) := by decide +kernel
theorem dd_128_59 : decode prog_1_method_11_code 59 = .ok (.getfield 19, 3) := by decide +kernel
theorem dd_128_62 : decode prog_1_method_11_code 62 = .ok (.getfield 140, 3) := by decide +kernel
theorem dd_128_65 : decode prog_1_method_11_code 65 = .ok (.aload_n 0, 1) := by decide +kernel
theorem dd_128_66 : decode prog_1_method_11_code 66 = .ok (.getfield 19, 3) := by decide +kernel
theorem dd_128_69 : decode prog_1_method_11_code 69 = .ok (.getfield 130, 3) := by decide +kernel
theorem dd_128_72 : decode prog_1_method_11_code 72 = .ok (.invokevirtual 153, 3) := by decide +kernel
theorem dd_128_75 : decode prog_1_method_11_code 75 = .ok (.ireturn, 1) := by decide +kernel
def mt_128 : Nat → Option mv_S := mt_n 38 (mt_n 14 (mt_n 7 (mt_n 1 (mt_l 0 (mi_aload 1 0)) (mt_n 4 (mt_l 1 (mi_get 0 5)) (mt_l 4 (mi_if (fun x : Int32 => x = 0) 17)))) (mt_n 8 (mt_l 7 (mi_aload 1 0)) (mt_n 11 (mt_l 8 (mi_get 0 1)) (mt_l 11 (mi_callV 2 127 1))))) (mt_n 28 (mt_n 17 (mt_l 14 (mi_if (fun x : Int32 => ¬ x = 0) 27)) (mt_n 27 (mt_l 17 (mi_throw 1)) (mt_l 27 (mi_aload 1 0)))) (mt_n 32 (mt_n 31 (mt_l 28 (mi_get 0 4)) (mt_l 31 (mi_aload 1 0))) (mt_n 35 (mt_l 32 (mi_get 0 1)) (mt_l 35 (mi_get 2 8)))))) (mt_n 59 (mt_n 54 (mt_n 41 (mt_l 38 (mi_callV 5 121 2)) (mt_n 44 (mt_l 41 (mi_if (fun x : Int32 => ¬ x = 0) 54)) (mt_l 44 (mi_throw 1)))) (mt_n 55 (mt_l 54 (mi_aload 1 0)) (mt_n 58 (mt_l 55 (mi_get 0 4)) (mt_l 58 (mi_aload 1 0))))) (mt_n 66 (mt_n 62 (mt_l 59 (mi_get 0 1)) (mt_n 65 (mt_l 62 (mi_get 2 7)) (mt_l 65 (mi_aload 1 0)))) (mt_n 72 (mt_n 69 (mt_l 66 (mi_get 0 1)) (mt_l 69 (mi_get 2 8))) (mt_n 75 (mt_l 72 (mi_callV 5 122 3)) (mt_l 75 (mi_iret))))))
theorem ms_128 (L : Nat) (xs : Nat → Int32) : mt_ok (mg L xs) 128 (mt_128) := mt_ok.n (mt_ok.n (mt_ok.n (mt_ok.n (mt_ok.l (mn_aload_n (k := 0) dd_128_0 rfl) (mi_aload_mn 1 0)) (mt_ok.n (mt_ok.l (mn_get (C := "TokenScanner") (T := mf_T0) (N := 7) dd_128_1 rfl (Nat.le_of_ble_eq_true rfl) mf_i0 hw_227) (mi_get_mn 0 5)) (mt_ok.l (mn_if_eq dd_128_4 (by decide)) (mi_if_mn _ _)))) (mt_ok.n (mt_ok.l (mn_aload_n (k := 0) dd_128_7 rfl) (mi_aload_mn 1 0)) (mt_ok.n (mt_ok.l (mn_get (C := "TokenScanner") (T := mf_T0) (N := 7) dd_128_8 rfl (Nat.le_of_ble_eq_true rfl) mf_i0 hw_223) (mi_get_mn 0 1)) (mt_ok.l (mn_callV (y := 128) (pc := 11) (z := 127) (mg_Ok L xs) (C := "TokenScanner$Token") (T0 := mf_T2) (N := 9) dd_128_11 rfl (mv_Hn.none rfl (fun _ => rfl)) (mc_128_127 L xs) hw_639 hw_640 hw_641 mq_127.1) (mi_callV_mn 2 127 1))))) (mt_ok.n (mt_ok.n (mt_ok.l (mn_if_ne dd_128_14 (by decide)) (mi_if_mn _ _)) (mt_ok.n (mt_ok.l (mn_throw (y := 128) (pc := 17) (k := 1) (mg_Ok L xs) (ik := 59) (is := 158) (ic := 63) (sk := 13) (text := ms_txt 13) (names := ["java/lang/RuntimeException", "java/lang/Exception"]) dd_128_17 dd_128_20 dd_128_21 dd_128_23 dd_128_26 mg_ft1 mg_ftn hw_324 hw_19 (mg_pR 13 (by decide)) ha_63_1 mg_pX rfl (Nat.le_of_ble_eq_true rfl) (Nat.le_of_ble_eq_true rfl)) (mi_throw_mn 1)) (mt_ok.l (mn_aload_n (k := 0) dd_128_27 rfl) (mi_aload_mn 1 0)))) (mt_ok.n (mt_ok.n (mt_ok.l (mn_get (C := "TokenScanner") (T := mf_T0) (N := 7) dd_128_28 rfl (Nat.le_of_ble_eq_true rfl) mf_i0 hw_226) (mi_get_mn 0 4)) (mt_ok.l (mn_aload_n (k := 0) dd_128_31 rfl) (mi_aload_mn 1 0))) (mt_ok.n (mt_ok.l (mn_get (C := "TokenScanner") (T := mf_T0) (N := 7) dd_128_32 rfl (Nat.le_of_ble_eq_true rfl) mf_i0 hw_223) (mi_get_mn 0 1)) (mt_ok.l (mn_getN (C := "TokenScanner$Token") (T := mf_T2) (N := 9) dd_128_35 rfl (Nat.le_of_ble_eq_true rfl) mf_i2 hw_76) (mi_get_mn 2 8)))))) (mt_ok.n (mt_ok.n (mt_ok.n (mt_ok.l (mn_callV (y := 128) (pc := 38) (z := 121) (mg_Ok L xs) (C := "TokenScanner$Shelf") (T0 := mf_T5) (N := 3) dd_128_38 rfl (mv_Hn.none rfl (fun _ => rfl)) (mc_128_121 L xs) hw_644 hw_628 hw_629 mq_121.1) (mi_callV_mn 5 121 2)) (mt_ok.n (mt_ok.l (mn_if_ne dd_128_41 (by decide)) (mi_if_mn _ _)) (mt_ok.l (mn_throw (y := 128) (pc := 44) (k := 1) (mg_Ok L xs) (ik := 59) (is := 161) (ic := 63) (sk := 14) (text := ms_txt 14) (names := ["java/lang/RuntimeException", "java/lang/Exception"]) dd_128_44 dd_128_47 dd_128_48 dd_128_50 dd_128_53 mg_ft1 mg_ftn hw_324 hw_19 (mg_pR 14 (by decide)) ha_63_1 mg_pX rfl (Nat.le_of_ble_eq_true rfl) (Nat.le_of_ble_eq_true rfl)) (mi_throw_mn 1)))) (mt_ok.n (mt_ok.l (mn_aload_n (k := 0) dd_128_54 rfl) (mi_aload_mn 1 0)) (mt_ok.n (mt_ok.l (mn_get (C := "TokenScanner") (T := mf_T0) (N := 7) dd_128_55 rfl (Nat.le_of_ble_eq_true rfl) mf_i0 hw_226) (mi_get_mn 0 4)) (mt_ok.l (mn_aload_n (k := 0) dd_128_58 rfl) (mi_aload_mn 1 0))))) (mt_ok.n (mt_ok.n (mt_ok.l (mn_get (C := "TokenScanner") (T := mf_T0) (N := 7) dd_128_59 rfl (Nat.le_of_ble_eq_true rfl) mf_i0 hw_223) (mi_get_mn 0 1)) (mt_ok.n (mt_ok.l (mn_getN (C := "TokenScanner$Token") (T := mf_T2) (N := 9) dd_128_62 rfl (Nat.le_of_ble_eq_true rfl) mf_i2 hw_73) (mi_get_mn 2 7)) (mt_ok.l (mn_aload_n (k := 0) dd_128_65 rfl) (mi_aload_mn 1 0)))) (mt_ok.n (mt_ok.n (mt_ok.l (mn_get (C := "TokenScanner") (T := mf_T0) (N := 7) dd_128_66 rfl (Nat.le_of_ble_eq_true rfl) mf_i0 hw_223) (mi_get_mn 0 1)) (mt_ok.l (mn_getN (C := "TokenScanner$Token") (T := mf_T2) (N := 9) dd_128_69 rfl (Nat.le_of_ble_eq_true rfl) mf_i2 hw_76) (mi_get_mn 2 8))) (mt_ok.n (mt_ok.l (mn_callV (y := 128) (pc := 72) (z := 122) (mg_Ok L xs) (C := "TokenScanner$Shelf") (T0 := mf_T5) (N := 3) dd_128_72 rfl (mv_Hn.none rfl (fun _ => rfl)) (mc_128_122 L xs) hw_623 hw_624 hw_625 mq_122.1) (mi_callV_mn 5 122 3)) (mt_ok.l (mn_iret dd_128_75 rfl) (mi_iret_mn))))))
theorem dd_129_0 : decode method_11_code 0 = .ok (.aload_n 1, 1) := by decide +kernel
theorem dd_129_1 : decode method_11_code 1 = .ok (.iconst 0, 1) := by decide +kernel
theorem dd_129_2 : decode method_11_code 2 = .ok (.aload_n 0, 1) := by decide +kernel
theorem dd_129_3 : decode method_11_code 3 = .ok (.invokevirtual 42, 3) := by decide +kernel
theorem dd_129_6 : decode method_11_code 6 = .ok (.i2l, 1) := by decide +kernel
theorem dd_129_7 : decode method_11_code 7 = .ok (.lastore, 1) := by decide +kernel
theorem dd_129_8 : decode method_11_code 8 = .ok (.goto 6, 3) := by decide +kernel
theorem dd_129_11 : decode method_11_code 11 = .ok (.astore_n 2, 1) := by decide +kernel
theorem dd_129_12 : decode method_11_code 12 = .ok (.iconst 1, 1) := by decide +kernel
theorem dd_129_13 : decode method_11_code 13 = .ok (.ireturn, 1) := by decide +kernel
theorem dd_129_14 : decode method_11_code 14 = .ok (.iconst 0, 1) := by decide +kernel
theorem dd_129_15 : decode method_11_code 15 = .ok (.ireturn, 1) := by decide +kernel
def mt_129 : Nat → Option mv_S := mt_n 7 (mt_n 2 (mt_n 1 (mt_l 0 (mi_aload 1 1)) (mt_l 1 (mi_pure 1 (mo_push (.int 0))))) (mt_n 3 (mt_l 2 (mi_aload 1 0)) (mt_n 6 (mt_l 3 (mi_callV 0 128 1)) (mt_l 6 (mi_pure 1 mo_i2l))))) (mt_n 13 (mt_n 8 (mt_l 7 (mi_last)) (mt_n 12 (mt_l 8 (mi_goto 14)) (mt_l 12 (mi_pure 1 (mo_push (.int 1)))))) (mt_n 14 (mt_l 13 (mi_iret)) (mt_n 15 (mt_l 14 (mi_pure 1 (mo_push (.int 0)))) (mt_l 15 (mi_iret)))))
theorem mh_129 {L : Nat} {xs : Nat → Int32} : mv_Hn (mg L xs) 129 3 := by
  have hb : ∀ k, (mg L xs).X 129 3 k = ((bif Nat.beq k 1 then some (some (12, 2)) else none) : Option (Option (Nat × Nat))) := fun k => rfl
  refine ⟨fun k pc9 i9 e => ?_, fun k e => ?_⟩ <;> rw [hb] at e
  · cases b1 : Nat.beq k 1 with
    | true =>
      rw [b1, cond_true] at e
      have hk := Nat.eq_of_beq_eq_true b1
      subst hk
      cases e
      exact ⟨[], [], (0, 8, 11, 15), "java/lang/IllegalStateException", rfl, (fun z hz => by cases hz), by decide, by decide, hw_252, hw_326, (Nat.le_of_ble_eq_true rfl), Or.inl ⟨2, rfl, dd_129_11, rfl⟩⟩
    | false =>
      rw [b1, cond_false] at e
      cases e
  · cases b1 : Nat.beq k 1 with
    | true =>
      rw [b1, cond_true] at e
      cases e
    | false =>
      rw [b1, cond_false] at e
      cases e
theorem ms_129 (L : Nat) (xs : Nat → Int32) : mt_ok (mg L xs) 129 (mt_129) := mt_ok.n (mt_ok.n (mt_ok.n (mt_ok.l (mn_aload_n (k := 1) dd_129_0 rfl) (mi_aload_mn 1 1)) (mt_ok.l (mn_iconst dd_129_1 (by decide)) (mi_pure_mn 1 _))) (mt_ok.n (mt_ok.l (mn_aload_n (k := 0) dd_129_2 rfl) (mi_aload_mn 1 0)) (mt_ok.n (mt_ok.l (mn_callV (y := 129) (pc := 3) (z := 128) (mg_Ok L xs) (C := "TokenScanner") (T0 := mf_T0) (N := 7) dd_129_3 rfl mh_129 (mc_129_128 L xs) hw_635 hw_636 hw_637 mq_128.1) (mi_callV_mn 0 128 1)) (mt_ok.l (mn_i2l dd_129_6) (mi_pure_mn 1 _))))) (mt_ok.n (mt_ok.n (mt_ok.l (mn_last dd_129_7 rfl) (mi_last_mn)) (mt_ok.n (mt_ok.l (mn_goto dd_129_8 (by decide)) (mi_goto_mn 14)) (mt_ok.l (mn_iconst dd_129_12 (by decide)) (mi_pure_mn 1 _)))) (mt_ok.n (mt_ok.l (mn_iret dd_129_13 rfl) (mi_iret_mn)) (mt_ok.n (mt_ok.l (mn_iconst dd_129_14 (by decide)) (mi_pure_mn 1 _)) (mt_ok.l (mn_iret dd_129_15 rfl) (mi_iret_mn)))))
theorem dd_130_0 : decode prog_9_method_41_code 0 = .ok (.aload_n 0, 1) := by decide +kernel
theorem dd_130_1 : decode prog_9_method_41_code 1 = .ok (.getfield 35, 3) := by decide +kernel
theorem dd_130_4 : decode prog_9_method_41_code 4 = .ok (.ifCond .eq 31, 3) := by decide +kernel
theorem dd_130_7 : decode prog_9_method_41_code 7 = .ok (.aload_n 0, 1) := by decide +kernel
theorem dd_130_8 : decode prog_9_method_41_code 8 = .ok (.getfield 84, 3) := by decide +kernel
theorem dd_130_11 : decode prog_9_method_41_code 11 = .ok (.iconst 2, 1) := by decide +kernel
theorem dd_130_12 : decode prog_9_method_41_code 12 = .ok (.if_icmp .eq 19, 3) := by decide +kernel
theorem dd_130_15 : decode prog_9_method_41_code 15 = .ok (.aload_n 0, 1) := by decide +kernel
theorem dd_130_16 : decode prog_9_method_41_code 16 = .ok (.getfield 84, 3) := by decide +kernel
theorem dd_130_19 : decode prog_9_method_41_code 19 = .ok (.iconst 3, 1) := by decide +kernel
theorem dd_130_20 : decode prog_9_method_41_code 20 = .ok (.if_icmp .eq 11, 3) := by decide +kernel
theorem dd_130_23 : decode prog_9_method_41_code 23 = .ok (.aload_n 0, 1) := by decide +kernel
theorem dd_130_24 : decode prog_9_method_41_code 24 = .ok (.getfield 84, 3) := by decide +kernel
theorem dd_130_27 : decode prog_9_method_41_code 27 = .ok (.iconst 5, 1) := by decide +kernel
theorem dd_130_28 : decode prog_9_method_41_code 28 = .ok (.if_icmp .ne 7, 3) := by decide +kernel
theorem dd_130_31 : decode prog_9_method_41_code 31 = .ok (.iconst 1, 1) := by decide +kernel
theorem dd_130_32 : decode prog_9_method_41_code 32 = .ok (.goto 4, 3) := by decide +kernel
theorem dd_130_35 : decode prog_9_method_41_code 35 = .ok (.iconst 0, 1) := by decide +kernel
theorem dd_130_36 : decode prog_9_method_41_code 36 = .ok (.istore_n 1, 1) := by decide +kernel
theorem dd_130_37 : decode prog_9_method_41_code 37 = .ok (.aload_n 0, 1) := by decide +kernel
theorem dd_130_38 : decode prog_9_method_41_code 38 = .ok (.getfield 335, 3) := by decide +kernel
theorem dd_130_41 : decode prog_9_method_41_code 41 = .ok (.ifCond .ne 7, 3) := by decide +kernel
theorem dd_130_44 : decode prog_9_method_41_code 44 = .ok (.iconst 0, 1) := by decide +kernel
theorem dd_130_45 : decode prog_9_method_41_code 45 = .ok (.goto 14, 3) := by decide +kernel
theorem dd_130_48 : decode prog_9_method_41_code 48 = .ok (.aload_n 0, 1) := by decide +kernel
theorem dd_130_49 : decode prog_9_method_41_code 49 = .ok (.getfield 26, 3) := by decide +kernel
theorem dd_130_52 : decode prog_9_method_41_code 52 = .ok (.aload_n 0, 1) := by decide +kernel
theorem dd_130_53 : decode prog_9_method_41_code 53 = .ok (.getfield 335, 3) := by decide +kernel
theorem dd_130_56 : decode prog_9_method_41_code 56 = .ok (.iconst 1, 1) := by decide +kernel
theorem dd_130_57 : decode prog_9_method_41_code 57 = .ok (.isub, 1) := by decide +kernel
theorem dd_130_58 : decode prog_9_method_41_code 58 = .ok (.iaload, 1) := by decide +kernel
theorem dd_130_59 : decode prog_9_method_41_code 59 = .ok (.istore_n 2, 1) := by decide +kernel
theorem dd_130_60 : decode prog_9_method_41_code 60 = .ok (.aload_n 0, 1) := by decide +kernel
theorem dd_130_61 : decode prog_9_method_41_code 61 = .ok (.iload_n 1, 1) := by decide +kernel
theorem dd_130_62 : decode prog_9_method_41_code 62 = .ok (.ifCond .eq 25, 3) := by decide +kernel
theorem dd_130_65 : decode prog_9_method_41_code 65 = .ok (.aload_n 0, 1) := by decide +kernel
theorem dd_130_66 : decode prog_9_method_41_code 66 = .ok (.getfield 335, 3) := by decide +kernel
theorem dd_130_69 : decode prog_9_method_41_code 69 = .ok (.sipush 1024, 3) := by decide +kernel
theorem dd_130_72 : decode prog_9_method_41_code 72 = .ok (.if_icmp .eq 15, 3) := by decide +kernel
theorem dd_130_75 : decode prog_9_method_41_code 75 = .ok (.iload_n 2, 1) := by decide +kernel
theorem dd_130_76 : decode prog_9_method_41_code 76 = .ok (.aload_n 0, 1) := by decide +kernel
theorem dd_130_77 : decode prog_9_method_41_code 77 = .ok (.getfield 55, 3) := by decide +kernel
theorem dd_130_80 : decode prog_9_method_41_code 80 = .ok (.iadd, 1) := by decide +kernel
theorem dd_130_81 : decode prog_9_method_41_code 81 = .ok (.sipush 8192, 3) := by decide +kernel
theorem dd_130_84 : decode prog_9_method_41_code 84 = .ok (.if_icmp .le 7, 3) := by decide +kernel
theorem dd_130_87 : decode prog_9_method_41_code 87 = .ok (.iconst 1, 1) := by decide +kernel
theorem dd_130_88 : decode prog_9_method_41_code 88 = .ok (.goto 4, 3) := by decide +kernel
theorem dd_130_91 : decode prog_9_method_41_code 91 = .ok (.iconst 0, 1) := by decide +kernel
theorem dd_130_92 : decode prog_9_method_41_code 92 = .ok (.iconst 0, 1) := by decide +kernel
theorem dd_130_93 : decode prog_9_method_41_code 93 = .ok (.invokevirtual 42, 3) := by decide +kernel
theorem dd_130_96 : decode prog_9_method_41_code 96 = .ok (.ifCond .eq 5, 3) := by decide +kernel
theorem dd_130_99 : decode prog_9_method_41_code 99 = .ok (.iconst 0, 1) := by decide +kernel
theorem dd_130_100 : decode prog_9_method_41_code 100 = .ok (.ireturn, 1) := by decide +kernel
theorem dd_130_101 : decode prog_9_method_41_code 101 = .ok (.iconst 0, 1) := by decide +kernel
theorem dd_130_102 : decode prog_9_method_41_code 102 = .ok (.istore_n 3, 1) := by decide +kernel
theorem dd_130_103 : decode prog_9_method_41_code 103 = .ok (.iload_n 3, 1) := by decide +kernel
theorem dd_130_104 : decode prog_9_method_41_code 104 = .ok (.aload_n 0, 1) := by decide +kernel
theorem dd_130_105 : decode prog_9_method_41_code 105 = .ok (.getfield 55, 3) := by decide +kernel
theorem dd_130_108 : decode prog_9_method_41_code 108 = .ok (.if_icmp .ge 23, 3) := by decide +kernel
theorem dd_130_111 : decode prog_9_method_41_code 111 = .ok (.aload_n 0, 1) := by decide +kernel
theorem dd_130_112 : decode prog_9_method_41_code 112 = .ok (.getfield 29, 3) := by decide +kernel
theorem dd_130_115 : decode prog_9_method_41_code 115 = .ok (.iload_n 2, 1) := by decide +kernel
theorem dd_130_116 : decode prog_9_method_41_code 116 = .ok (.iload_n 3, 1) := by decide +kernel
theorem dd_130_117 : decode prog_9_method_41_code 117 = .ok (.iadd, 1) := by decide +kernel
theorem dd_130_118 : decode prog_9_method_41_code 118 = .ok (.aload_n 0, 1) := by decide +kernel
theorem dd_130_119 : decode prog_9_method_41_code 119 = .ok (.getfield 17, 3) := by decide +kernel
theorem dd_130_122 : decode prog_9_method_41_code 122 = .ok (.iload_n 3, 1) := by decide +kernel
theorem dd_130_123 : decode prog_9_method_41_code 123 = .ok (.iaload, 1) := by decide +kernel
theorem dd_130_124 : decode prog_9_method_41_code 124 = .ok (.iastore, 1) := by decide +kernel
theorem dd_130_125 : decode prog_9_method_41_code 125 = .ok (.iinc 3 1, 3) := by decide +kernel
theorem dd_130_128 : decode prog_9_method_41_code 128 = .ok (.goto (-25), 3) := by decide +kernel
theorem dd_130_131 : decode prog_9_method_41_code 131 = .ok (.aload_n 0, 1) := by decide +kernel
theorem dd_130_132 : decode prog_9_method_41_code 132 = .ok (.getfield 26, 3) := by decide +kernel
theorem dd_130_135 : decode prog_9_method_41_code 135 = .ok (.aload_n 0, 1) := by decide +kernel
theorem dd_130_136 : decode prog_9_method_41_code 136 = .ok (.getfield 335, 3) := by decide +kernel
theorem dd_130_139 : decode prog_9_method_41_code 139 = .ok (.iload_n 2, 1) := by decide +kernel
theorem dd_130_140 : decode prog_9_method_41_code 140 = .ok (.aload_n 0, 1) := by decide +kernel
theorem dd_130_141 : decode prog_9_method_41_code 141 = .ok (.getfield 55, 3) := by decide +kernel
theorem dd_130_144 : decode prog_9_method_41_code 144 = .ok (.iadd, 1) := by decide +kernel
theorem dd_130_145 : decode prog_9_method_41_code 145 = .ok (.iastore, 1) := by decide +kernel
theorem dd_130_146 : decode prog_9_method_41_code 146 = .ok (.aload_n 0, 1) := by decide +kernel
theorem dd_130_147 : decode prog_9_method_41_code 147 = .ok (.dup, 1) := by decide +kernel
theorem dd_130_148 : decode prog_9_method_41_code 148 = .ok (.getfield 335, 3) := by decide +kernel
theorem dd_130_151 : decode prog_9_method_41_code 151 = .ok (.iconst 1, 1) := by decide +kernel
theorem dd_130_152 : decode prog_9_method_41_code 152 = .ok (.iadd, 1) := by decide +kernel
theorem dd_130_153 : decode prog_9_method_41_code 153 = .ok (.putfield 335, 3) := by decide +kernel
theorem dd_130_156 : decode prog_9_method_41_code 156 = .ok (.aload_n 0, 1) := by decide +kernel
theorem dd_130_157 : decode prog_9_method_41_code 157 = .ok (.getfield 335, 3) := by decide +kernel
theorem dd_130_160 : decode prog_9_method_41_code 160 = .ok (.iconst 1, 1) := by decide +kernel
theorem dd_130_161 : decode prog_9_method_41_code 161 = .ok (.isub, 1) := by decide +kernel
theorem dd_130_162 : decode prog_9_method_41_code 162 = .ok (.ireturn, 1) := by decide +kernel
def mt_130 : Nat → Option mv_S := mt_n 87 (mt_n 44 (mt_n 23 (mt_n 11 (mt_n 4 (mt_n 1 (mt_l 0 (mi_aload 1 0)) (mt_l 1 (mi_get 6 3))) (mt_n 7 (mt_l 4 (mi_if (fun x : Int32 => x = 0) 35)) (mt_n 8 (mt_l 7 (mi_aload 1 0)) (mt_l 8 (mi_get 6 7))))) (mt_n 16 (mt_n 12 (mt_l 11 (mi_pure 1 (mo_push (.int 2)))) (mt_n 15 (mt_l 12 (mi_icmp (fun x y : Int32 => x = y) 31)) (mt_l 15 (mi_aload 1 0)))) (mt_n 19 (mt_l 16 (mi_get 6 7)) (mt_n 20 (mt_l 19 (mi_pure 1 (mo_push (.int 3)))) (mt_l 20 (mi_icmp (fun x y : Int32 => x = y) 31)))))) (mt_n 32 (mt_n 27 (mt_n 24 (mt_l 23 (mi_aload 1 0)) (mt_l 24 (mi_get 6 7))) (mt_n 28 (mt_l 27 (mi_pure 1 (mo_push (.int 5)))) (mt_n 31 (mt_l 28 (mi_icmp (fun x y : Int32 => ¬ x = y) 35)) (mt_l 31 (mi_pure 1 (mo_push (.int 1))))))) (mt_n 37 (mt_n 35 (mt_l 32 (mi_goto 36)) (mt_n 36 (mt_l 35 (mi_pure 1 (mo_push (.int 0)))) (mt_l 36 (mi_istore 1 1)))) (mt_n 38 (mt_l 37 (mi_aload 1 0)) (mt_n 41 (mt_l 38 (mi_get 6 18)) (mt_l 41 (mi_if (fun x : Int32 => ¬ x = 0) 48))))))) (mt_n 61 (mt_n 53 (mt_n 48 (mt_n 45 (mt_l 44 (mi_pure 1 (mo_push (.int 0)))) (mt_l 45 (mi_goto 59))) (mt_n 49 (mt_l 48 (mi_aload 1 0)) (mt_n 52 (mt_l 49 (mi_get 6 19)) (mt_l 52 (mi_aload 1 0))))) (mt_n 58 (mt_n 56 (mt_l 53 (mi_get 6 18)) (mt_n 57 (mt_l 56 (mi_pure 1 (mo_push (.int 1)))) (mt_l 57 (mi_pure 1 (mo_ii (fun x y => x - y)))))) (mt_n 59 (mt_l 58 (mi_iald)) (mt_n 60 (mt_l 59 (mi_istore 1 2)) (mt_l 60 (mi_aload 1 0)))))) (mt_n 75 (mt_n 66 (mt_n 62 (mt_l 61 (mi_iload 1 1)) (mt_n 65 (mt_l 62 (mi_if (fun x : Int32 => x = 0) 87)) (mt_l 65 (mi_aload 1 0)))) (mt_n 69 (mt_l 66 (mi_get 6 18)) (mt_n 72 (mt_l 69 (mi_pure 3 (mo_push (.int 1024)))) (mt_l 72 (mi_icmp (fun x y : Int32 => x = y) 87))))) (mt_n 80 (mt_n 76 (mt_l 75 (mi_iload 1 2)) (mt_n 77 (mt_l 76 (mi_aload 1 0)) (mt_l 77 (mi_get 6 14)))) (mt_n 81 (mt_l 80 (mi_pure 1 (mo_ii (fun x y => x + y)))) (mt_n 84 (mt_l 81 (mi_pure 3 (mo_push (.int 8192)))) (mt_l 84 (mi_icmp (fun x y : Int32 => x ≤ y) 91)))))))) (mt_n 124 (mt_n 104 (mt_n 96 (mt_n 91 (mt_n 88 (mt_l 87 (mi_pure 1 (mo_push (.int 1)))) (mt_l 88 (mi_goto 92))) (mt_n 92 (mt_l 91 (mi_pure 1 (mo_push (.int 0)))) (mt_n 93 (mt_l 92 (mi_pure 1 (mo_push (.int 0)))) (mt_l 93 (mi_callV 6 22 3))))) (mt_n 101 (mt_n 99 (mt_l 96 (mi_if (fun x : Int32 => x = 0) 101)) (mt_n 100 (mt_l 99 (mi_pure 1 (mo_push (.int 0)))) (mt_l 100 (mi_iret)))) (mt_n 102 (mt_l 101 (mi_pure 1 (mo_push (.int 0)))) (mt_n 103 (mt_l 102 (mi_istore 1 3)) (mt_l 103 (mi_iload 1 3)))))) (mt_n 116 (mt_n 111 (mt_n 105 (mt_l 104 (mi_aload 1 0)) (mt_n 108 (mt_l 105 (mi_get 6 14)) (mt_l 108 (mi_icmp (fun x y : Int32 => y ≤ x) 131)))) (mt_n 112 (mt_l 111 (mi_aload 1 0)) (mt_n 115 (mt_l 112 (mi_get 6 20)) (mt_l 115 (mi_iload 1 2))))) (mt_n 119 (mt_n 117 (mt_l 116 (mi_iload 1 3)) (mt_n 118 (mt_l 117 (mi_pure 1 (mo_ii (fun x y => x + y)))) (mt_l 118 (mi_aload 1 0)))) (mt_n 122 (mt_l 119 (mi_get 6 13)) (mt_n 123 (mt_l 122 (mi_iload 1 3)) (mt_l 123 (mi_iald))))))) (mt_n 145 (mt_n 135 (mt_n 128 (mt_n 125 (mt_l 124 (mi_iast)) (mt_l 125 (mi_iinc 3 1))) (mt_n 131 (mt_l 128 (mi_goto 103)) (mt_n 132 (mt_l 131 (mi_aload 1 0)) (mt_l 132 (mi_get 6 19))))) (mt_n 140 (mt_n 136 (mt_l 135 (mi_aload 1 0)) (mt_n 139 (mt_l 136 (mi_get 6 18)) (mt_l 139 (mi_iload 1 2)))) (mt_n 141 (mt_l 140 (mi_aload 1 0)) (mt_n 144 (mt_l 141 (mi_get 6 14)) (mt_l 144 (mi_pure 1 (mo_ii (fun x y => x + y)))))))) (mt_n 153 (mt_n 148 (mt_n 146 (mt_l 145 (mi_iast)) (mt_n 147 (mt_l 146 (mi_aload 1 0)) (mt_l 147 (mi_pure 1 mo_dup)))) (mt_n 151 (mt_l 148 (mi_get 6 18)) (mt_n 152 (mt_l 151 (mi_pure 1 (mo_push (.int 1)))) (mt_l 152 (mi_pure 1 (mo_ii (fun x y => x + y))))))) (mt_n 160 (mt_n 156 (mt_l 153 (mi_put 6 18 (.int))) (mt_n 157 (mt_l 156 (mi_aload 1 0)) (mt_l 157 (mi_get 6 18)))) (mt_n 161 (mt_l 160 (mi_pure 1 (mo_push (.int 1)))) (mt_n 162 (mt_l 161 (mi_pure 1 (mo_ii (fun x y => x - y)))) (mt_l 162 (mi_iret))))))))
theorem ms_130 (L : Nat) (xs : Nat → Int32) : mt_ok (mg L xs) 130 (mt_130) := mt_ok.n (mt_ok.n (mt_ok.n (mt_ok.n (mt_ok.n (mt_ok.n (mt_ok.l (mn_aload_n (k := 0) dd_130_0 rfl) (mi_aload_mn 1 0)) (mt_ok.l (mn_get (C := "TokenScannerModel") (T := mf_T6) (N := 21) dd_130_1 rfl (Nat.le_of_ble_eq_true rfl) mf_i6 hw_670) (mi_get_mn 6 3))) (mt_ok.n (mt_ok.l (mn_if_eq dd_130_4 (by decide)) (mi_if_mn _ _)) (mt_ok.n (mt_ok.l (mn_aload_n (k := 0) dd_130_7 rfl) (mi_aload_mn 1 0)) (mt_ok.l (mn_get (C := "TokenScannerModel") (T := mf_T6) (N := 21) dd_130_8 rfl (Nat.le_of_ble_eq_true rfl) mf_i6 hw_674) (mi_get_mn 6 7))))) (mt_ok.n (mt_ok.n (mt_ok.l (mn_iconst dd_130_11 (by decide)) (mi_pure_mn 1 _)) (mt_ok.n (mt_ok.l (mn_icmp_eq dd_130_12 (by decide)) (mi_icmp_mn _ _)) (mt_ok.l (mn_aload_n (k := 0) dd_130_15 rfl) (mi_aload_mn 1 0)))) (mt_ok.n (mt_ok.l (mn_get (C := "TokenScannerModel") (T := mf_T6) (N := 21) dd_130_16 rfl (Nat.le_of_ble_eq_true rfl) mf_i6 hw_674) (mi_get_mn 6 7)) (mt_ok.n (mt_ok.l (mn_iconst dd_130_19 (by decide)) (mi_pure_mn 1 _)) (mt_ok.l (mn_icmp_eq dd_130_20 (by decide)) (mi_icmp_mn _ _)))))) (mt_ok.n (mt_ok.n (mt_ok.n (mt_ok.l (mn_aload_n (k := 0) dd_130_23 rfl) (mi_aload_mn 1 0)) (mt_ok.l (mn_get (C := "TokenScannerModel") (T := mf_T6) (N := 21) dd_130_24 rfl (Nat.le_of_ble_eq_true rfl) mf_i6 hw_674) (mi_get_mn 6 7))) (mt_ok.n (mt_ok.l (mn_iconst dd_130_27 (by decide)) (mi_pure_mn 1 _)) (mt_ok.n (mt_ok.l (mn_icmp_ne dd_130_28 (by decide)) (mi_icmp_mn _ _)) (mt_ok.l (mn_iconst dd_130_31 (by decide)) (mi_pure_mn 1 _))))) (mt_ok.n (mt_ok.n (mt_ok.l (mn_goto dd_130_32 (by decide)) (mi_goto_mn 36)) (mt_ok.n (mt_ok.l (mn_iconst dd_130_35 (by decide)) (mi_pure_mn 1 _)) (mt_ok.l (mn_istore_n (k := 1) dd_130_36 rfl (Nat.le_of_ble_eq_true rfl)) (mi_istore_mn 1 1)))) (mt_ok.n (mt_ok.l (mn_aload_n (k := 0) dd_130_37 rfl) (mi_aload_mn 1 0)) (mt_ok.n (mt_ok.l (mn_get (C := "TokenScannerModel") (T := mf_T6) (N := 21) dd_130_38 rfl (Nat.le_of_ble_eq_true rfl) mf_i6 hw_685) (mi_get_mn 6 18)) (mt_ok.l (mn_if_ne dd_130_41 (by decide)) (mi_if_mn _ _))))))) (mt_ok.n (mt_ok.n (mt_ok.n (mt_ok.n (mt_ok.l (mn_iconst dd_130_44 (by decide)) (mi_pure_mn 1 _)) (mt_ok.l (mn_goto dd_130_45 (by decide)) (mi_goto_mn 59))) (mt_ok.n (mt_ok.l (mn_aload_n (k := 0) dd_130_48 rfl) (mi_aload_mn 1 0)) (mt_ok.n (mt_ok.l (mn_get (C := "TokenScannerModel") (T := mf_T6) (N := 21) dd_130_49 rfl (Nat.le_of_ble_eq_true rfl) mf_i6 hw_686) (mi_get_mn 6 19)) (mt_ok.l (mn_aload_n (k := 0) dd_130_52 rfl) (mi_aload_mn 1 0))))) (mt_ok.n (mt_ok.n (mt_ok.l (mn_get (C := "TokenScannerModel") (T := mf_T6) (N := 21) dd_130_53 rfl (Nat.le_of_ble_eq_true rfl) mf_i6 hw_685) (mi_get_mn 6 18)) (mt_ok.n (mt_ok.l (mn_iconst dd_130_56 (by decide)) (mi_pure_mn 1 _)) (mt_ok.l (mn_isub dd_130_57) (mi_pure_mn 1 _)))) (mt_ok.n (mt_ok.l (mn_iald dd_130_58 rfl) (mi_iald_mn)) (mt_ok.n (mt_ok.l (mn_istore_n (k := 2) dd_130_59 rfl (Nat.le_of_ble_eq_true rfl)) (mi_istore_mn 1 2)) (mt_ok.l (mn_aload_n (k := 0) dd_130_60 rfl) (mi_aload_mn 1 0)))))) (mt_ok.n (mt_ok.n (mt_ok.n (mt_ok.l (mn_iload_n (k := 1) dd_130_61 rfl) (mi_iload_mn 1 1)) (mt_ok.n (mt_ok.l (mn_if_eq dd_130_62 (by decide)) (mi_if_mn _ _)) (mt_ok.l (mn_aload_n (k := 0) dd_130_65 rfl) (mi_aload_mn 1 0)))) (mt_ok.n (mt_ok.l (mn_get (C := "TokenScannerModel") (T := mf_T6) (N := 21) dd_130_66 rfl (Nat.le_of_ble_eq_true rfl) mf_i6 hw_685) (mi_get_mn 6 18)) (mt_ok.n (mt_ok.l (mn_sipush dd_130_69 (by decide)) (mi_pure_mn 3 _)) (mt_ok.l (mn_icmp_eq dd_130_72 (by decide)) (mi_icmp_mn _ _))))) (mt_ok.n (mt_ok.n (mt_ok.l (mn_iload_n (k := 2) dd_130_75 rfl) (mi_iload_mn 1 2)) (mt_ok.n (mt_ok.l (mn_aload_n (k := 0) dd_130_76 rfl) (mi_aload_mn 1 0)) (mt_ok.l (mn_get (C := "TokenScannerModel") (T := mf_T6) (N := 21) dd_130_77 rfl (Nat.le_of_ble_eq_true rfl) mf_i6 hw_681) (mi_get_mn 6 14)))) (mt_ok.n (mt_ok.l (mn_iadd dd_130_80) (mi_pure_mn 1 _)) (mt_ok.n (mt_ok.l (mn_sipush dd_130_81 (by decide)) (mi_pure_mn 3 _)) (mt_ok.l (mn_icmp_le dd_130_84 (by decide)) (mi_icmp_mn _ _)))))))) (mt_ok.n (mt_ok.n (mt_ok.n (mt_ok.n (mt_ok.n (mt_ok.l (mn_iconst dd_130_87 (by decide)) (mi_pure_mn 1 _)) (mt_ok.l (mn_goto dd_130_88 (by decide)) (mi_goto_mn 92))) (mt_ok.n (mt_ok.l (mn_iconst dd_130_91 (by decide)) (mi_pure_mn 1 _)) (mt_ok.n (mt_ok.l (mn_iconst dd_130_92 (by decide)) (mi_pure_mn 1 _)) (mt_ok.l (mn_callV (y := 130) (pc := 93) (z := 22) (mg_Ok L xs) (C := "TokenScannerModel") (T0 := mf_T6) (N := 21) dd_130_93 rfl (mv_Hn.none rfl (fun _ => rfl)) (mc_130_22 L xs) hw_739 hw_741 hs_26 mq_22.1) (mi_callV_mn 6 22 3))))) (mt_ok.n (mt_ok.n (mt_ok.l (mn_if_eq dd_130_96 (by decide)) (mi_if_mn _ _)) (mt_ok.n (mt_ok.l (mn_iconst dd_130_99 (by decide)) (mi_pure_mn 1 _)) (mt_ok.l (mn_iret dd_130_100 rfl) (mi_iret_mn)))) (mt_ok.n (mt_ok.l (mn_iconst dd_130_101 (by decide)) (mi_pure_mn 1 _)) (mt_ok.n (mt_ok.l (mn_istore_n (k := 3) dd_130_102 rfl (Nat.le_of_ble_eq_true rfl)) (mi_istore_mn 1 3)) (mt_ok.l (mn_iload_n (k := 3) dd_130_103 rfl) (mi_iload_mn 1 3)))))) (mt_ok.n (mt_ok.n (mt_ok.n (mt_ok.l (mn_aload_n (k := 0) dd_130_104 rfl) (mi_aload_mn 1 0)) (mt_ok.n (mt_ok.l (mn_get (C := "TokenScannerModel") (T := mf_T6) (N := 21) dd_130_105 rfl (Nat.le_of_ble_eq_true rfl) mf_i6 hw_681) (mi_get_mn 6 14)) (mt_ok.l (mn_icmp_ge dd_130_108 (by decide)) (mi_icmp_mn _ _)))) (mt_ok.n (mt_ok.l (mn_aload_n (k := 0) dd_130_111 rfl) (mi_aload_mn 1 0)) (mt_ok.n (mt_ok.l (mn_get (C := "TokenScannerModel") (T := mf_T6) (N := 21) dd_130_112 rfl (Nat.le_of_ble_eq_true rfl) mf_i6 hw_687) (mi_get_mn 6 20)) (mt_ok.l (mn_iload_n (k := 2) dd_130_115 rfl) (mi_iload_mn 1 2))))) (mt_ok.n (mt_ok.n (mt_ok.l (mn_iload_n (k := 3) dd_130_116 rfl) (mi_iload_mn 1 3)) (mt_ok.n (mt_ok.l (mn_iadd dd_130_117) (mi_pure_mn 1 _)) (mt_ok.l (mn_aload_n (k := 0) dd_130_118 rfl) (mi_aload_mn 1 0)))) (mt_ok.n (mt_ok.l (mn_get (C := "TokenScannerModel") (T := mf_T6) (N := 21) dd_130_119 rfl (Nat.le_of_ble_eq_true rfl) mf_i6 hw_680) (mi_get_mn 6 13)) (mt_ok.n (mt_ok.l (mn_iload_n (k := 3) dd_130_122 rfl) (mi_iload_mn 1 3)) (mt_ok.l (mn_iald dd_130_123 rfl) (mi_iald_mn))))))) (mt_ok.n (mt_ok.n (mt_ok.n (mt_ok.n (mt_ok.l (mn_iast dd_130_124 rfl) (mi_iast_mn)) (mt_ok.l (mn_iinc dd_130_125 (by decide) (Nat.le_of_ble_eq_true rfl)) (mi_iinc_mn 3 _))) (mt_ok.n (mt_ok.l (mn_goto dd_130_128 (by decide)) (mi_goto_mn 103)) (mt_ok.n (mt_ok.l (mn_aload_n (k := 0) dd_130_131 rfl) (mi_aload_mn 1 0)) (mt_ok.l (mn_get (C := "TokenScannerModel") (T := mf_T6) (N := 21) dd_130_132 rfl (Nat.le_of_ble_eq_true rfl) mf_i6 hw_686) (mi_get_mn 6 19))))) (mt_ok.n (mt_ok.n (mt_ok.l (mn_aload_n (k := 0) dd_130_135 rfl) (mi_aload_mn 1 0)) (mt_ok.n (mt_ok.l (mn_get (C := "TokenScannerModel") (T := mf_T6) (N := 21) dd_130_136 rfl (Nat.le_of_ble_eq_true rfl) mf_i6 hw_685) (mi_get_mn 6 18)) (mt_ok.l (mn_iload_n (k := 2) dd_130_139 rfl) (mi_iload_mn 1 2)))) (mt_ok.n (mt_ok.l (mn_aload_n (k := 0) dd_130_140 rfl) (mi_aload_mn 1 0)) (mt_ok.n (mt_ok.l (mn_get (C := "TokenScannerModel") (T := mf_T6) (N := 21) dd_130_141 rfl (Nat.le_of_ble_eq_true rfl) mf_i6 hw_681) (mi_get_mn 6 14)) (mt_ok.l (mn_iadd dd_130_144) (mi_pure_mn 1 _)))))) (mt_ok.n (mt_ok.n (mt_ok.n (mt_ok.l (mn_iast dd_130_145 rfl) (mi_iast_mn)) (mt_ok.n (mt_ok.l (mn_aload_n (k := 0) dd_130_146 rfl) (mi_aload_mn 1 0)) (mt_ok.l (mn_dup dd_130_147) (mi_pure_mn 1 _)))) (mt_ok.n (mt_ok.l (mn_get (C := "TokenScannerModel") (T := mf_T6) (N := 21) dd_130_148 rfl (Nat.le_of_ble_eq_true rfl) mf_i6 hw_685) (mi_get_mn 6 18)) (mt_ok.n (mt_ok.l (mn_iconst dd_130_151 (by decide)) (mi_pure_mn 1 _)) (mt_ok.l (mn_iadd dd_130_152) (mi_pure_mn 1 _))))) (mt_ok.n (mt_ok.n (mt_ok.l (mn_put (C := "TokenScannerModel") (T := mf_T6) (N := 21) (host := "") mf_y6 dd_130_153 rfl (Nat.le_of_ble_eq_true rfl) mf_i6 mf_o6 mf_n6 hw_685 rfl (by decide +kernel)) (mi_put_mn 6 18 _)) (mt_ok.n (mt_ok.l (mn_aload_n (k := 0) dd_130_156 rfl) (mi_aload_mn 1 0)) (mt_ok.l (mn_get (C := "TokenScannerModel") (T := mf_T6) (N := 21) dd_130_157 rfl (Nat.le_of_ble_eq_true rfl) mf_i6 hw_685) (mi_get_mn 6 18)))) (mt_ok.n (mt_ok.l (mn_iconst dd_130_160 (by decide)) (mi_pure_mn 1 _)) (mt_ok.n (mt_ok.l (mn_isub dd_130_161) (mi_pure_mn 1 _)) (mt_ok.l (mn_iret dd_130_162 rfl) (mi_iret_mn))))))))
theorem dd_131_0 : decode prog_3_method_8_code 0 = .ok (.iload_n 2, 1) := by decide +kernel
theorem dd_131_1 : decode prog_3_method_8_code 1 = .ok (.ifCond .lt 27, 3) := by decide +kernel
theorem dd_131_4 : decode prog_3_method_8_code 4 = .ok (.iload_n 2, 1) := by decide +kernel
theorem dd_131_5 : decode prog_3_method_8_code 5 = .ok (.aload_n 0, 1) := by decide +kernel
theorem dd_131_6 : decode prog_3_method_8_code 6 = .ok (.iload_n 1, 1) := by decide +kernel
theorem dd_131_7 : decode prog_3_method_8_code 7 = .ok (.invokevirtual 42, 3) := by decide +kernel
theorem dd_131_10 : decode prog_3_method_8_code 10 = .ok (.if_icmp .ge 18, 3) := by decide +kernel
theorem dd_131_13 : decode prog_3_method_8_code 13 = .ok (.aload_n 0, 1) := by decide +kernel
theorem dd_131_14 : decode prog_3_method_8_code 14 = .ok (.getfield 15, 3) := by decide +kernel
theorem dd_131_17 : decode prog_3_method_8_code 17 = .ok (.aload_n 0, 1) := by decide +kernel
theorem dd_131_18 : decode prog_3_method_8_code 18 = .ok (.iload_n 1, 1) := by decide +kernel
theorem dd_131_19 : decode prog_3_method_8_code 19 = .ok (.invokevirtual 28, 3) := by decide +kernel
theorem dd_131_22 : decode prog_3_method_8_code 22 = .ok (.iload_n 2, 1) := by decide +kernel
theorem dd_131_23 : decode prog_3_method_8_code 23 = .ok (.iadd, 1) := by decide +kernel
theorem dd_131_24 : decode prog_3_method_8_code 24 = .ok (.iaload, 1) := by decide +kernel
theorem dd_131_25 : decode prog_3_method_8_code 25 = .ok (.goto 4, 3) := by decide +kernel
theorem dd_131_28 : decode prog_3_method_8_code 28 = .ok (.iconst (-1), 1) := by decide +kernel
theorem dd_131_29 : decode prog_3_method_8_code 29 = .ok (.ireturn, 1) := by decide +kernel
def mt_131 : Nat → Option mv_S := mt_n 17 (mt_n 6 (mt_n 4 (mt_n 1 (mt_l 0 (mi_iload 1 2)) (mt_l 1 (mi_if (fun x : Int32 => x < 0) 28))) (mt_n 5 (mt_l 4 (mi_iload 1 2)) (mt_l 5 (mi_aload 1 0)))) (mt_n 10 (mt_n 7 (mt_l 6 (mi_iload 1 1)) (mt_l 7 (mi_callV 5 118 2))) (mt_n 13 (mt_l 10 (mi_icmp (fun x y : Int32 => y ≤ x) 28)) (mt_n 14 (mt_l 13 (mi_aload 1 0)) (mt_l 14 (mi_get 5 0)))))) (mt_n 23 (mt_n 19 (mt_n 18 (mt_l 17 (mi_aload 1 0)) (mt_l 18 (mi_iload 1 1))) (mt_n 22 (mt_l 19 (mi_callV 5 117 2)) (mt_l 22 (mi_iload 1 2)))) (mt_n 25 (mt_n 24 (mt_l 23 (mi_pure 1 (mo_ii (fun x y => x + y)))) (mt_l 24 (mi_iald))) (mt_n 28 (mt_l 25 (mi_goto 29)) (mt_n 29 (mt_l 28 (mi_pure 1 (mo_push (.int (-1))))) (mt_l 29 (mi_iret))))))
theorem ms_131 (L : Nat) (xs : Nat → Int32) : mt_ok (mg L xs) 131 (mt_131) := mt_ok.n (mt_ok.n (mt_ok.n (mt_ok.n (mt_ok.l (mn_iload_n (k := 2) dd_131_0 rfl) (mi_iload_mn 1 2)) (mt_ok.l (mn_if_lt dd_131_1 (by decide)) (mi_if_mn _ _))) (mt_ok.n (mt_ok.l (mn_iload_n (k := 2) dd_131_4 rfl) (mi_iload_mn 1 2)) (mt_ok.l (mn_aload_n (k := 0) dd_131_5 rfl) (mi_aload_mn 1 0)))) (mt_ok.n (mt_ok.n (mt_ok.l (mn_iload_n (k := 1) dd_131_6 rfl) (mi_iload_mn 1 1)) (mt_ok.l (mn_callV (y := 131) (pc := 7) (z := 118) (mg_Ok L xs) (C := "TokenScanner$Shelf") (T0 := mf_T5) (N := 3) dd_131_7 rfl (mv_Hn.none rfl (fun _ => rfl)) (mc_131_118 L xs) hw_607 hw_608 hw_609 mq_118.1) (mi_callV_mn 5 118 2))) (mt_ok.n (mt_ok.l (mn_icmp_ge dd_131_10 (by decide)) (mi_icmp_mn _ _)) (mt_ok.n (mt_ok.l (mn_aload_n (k := 0) dd_131_13 rfl) (mi_aload_mn 1 0)) (mt_ok.l (mn_get (C := "TokenScanner$Shelf") (T := mf_T5) (N := 3) dd_131_14 rfl (Nat.le_of_ble_eq_true rfl) mf_i5 hw_212) (mi_get_mn 5 0)))))) (mt_ok.n (mt_ok.n (mt_ok.n (mt_ok.l (mn_aload_n (k := 0) dd_131_17 rfl) (mi_aload_mn 1 0)) (mt_ok.l (mn_iload_n (k := 1) dd_131_18 rfl) (mi_iload_mn 1 1))) (mt_ok.n (mt_ok.l (mn_callV (y := 131) (pc := 19) (z := 117) (mg_Ok L xs) (C := "TokenScanner$Shelf") (T0 := mf_T5) (N := 3) dd_131_19 rfl (mv_Hn.none rfl (fun _ => rfl)) (mc_131_117 L xs) hw_615 hw_617 hs_24 mq_117.1) (mi_callV_mn 5 117 2)) (mt_ok.l (mn_iload_n (k := 2) dd_131_22 rfl) (mi_iload_mn 1 2)))) (mt_ok.n (mt_ok.n (mt_ok.l (mn_iadd dd_131_23) (mi_pure_mn 1 _)) (mt_ok.l (mn_iald dd_131_24 rfl) (mi_iald_mn))) (mt_ok.n (mt_ok.l (mn_goto dd_131_25 (by decide)) (mi_goto_mn 29)) (mt_ok.n (mt_ok.l (mn_iconst dd_131_28 (by decide)) (mi_pure_mn 1 _)) (mt_ok.l (mn_iret dd_131_29 rfl) (mi_iret_mn))))))
theorem dd_132_0 : decode prog_1_method_12_code 0 = .ok (.iload_n 1, 1) := by decide +kernel
theorem dd_132_1 : decode prog_1_method_12_code 1 = .ok (.ifCond .eq 10, 3) := by decide +kernel
theorem dd_132_4 : decode prog_1_method_12_code 4 = .ok (.aload_n 0, 1) := by decide +kernel
theorem dd_132_5 : decode prog_1_method_12_code 5 = .ok (.getfield 41, 3) := by decide +kernel
theorem dd_132_8 : decode prog_1_method_12_code 8 = .ok (.goto 7, 3) := by decide +kernel
theorem dd_132_11 : decode prog_1_method_12_code 11 = .ok (.aload_n 0, 1) := by decide +kernel
theorem dd_132_12 : decode prog_1_method_12_code 12 = .ok (.getfield 37, 3) := by decide +kernel
theorem dd_132_15 : decode prog_1_method_12_code 15 = .ok (.astore 4, 2) := by decide +kernel
theorem dd_132_17 : decode prog_1_method_12_code 17 = .ok (.aload 4, 2) := by decide +kernel
theorem dd_132_19 : decode prog_1_method_12_code 19 = .ok (.iload_n 2, 1) := by decide +kernel
theorem dd_132_20 : decode prog_1_method_12_code 20 = .ok (.invokevirtual 163, 3) := by decide +kernel
theorem dd_132_23 : decode prog_1_method_12_code 23 = .ok (.ifCond .ne 13, 3) := by decide +kernel
theorem dd_132_26 : decode prog_1_method_12_code 26 = .ok (.new 135, 3) := by decide +kernel
theorem dd_132_29 : decode prog_1_method_12_code 29 = .ok (.dup, 1) := by decide +kernel
theorem dd_132_30 : decode prog_1_method_12_code 30 = .ok (.ldc 166, 2) := by decide +kernel
theorem dd_132_32 : decode prog_1_method_12_code 32 = .ok (.invokespecial 139, 3) := by decide +kernel
theorem dd_132_35 : decode prog_1_method_12_code 35 = .ok (.athrow, 1) := by decide +kernel
theorem dd_132_36 : decode prog_1_method_12_code 36 = .ok (.iload_n 3, 1) := by decide +kernel
theorem dd_132_37 : decode prog_1_method_12_code 37 = .ok (.iconst (-1), 1) := by decide +kernel
theorem dd_132_38 : decode prog_1_method_12_code 38 = .ok (.if_icmp .lt 13, 3) := by decide +kernel
theorem dd_132_41 : decode prog_1_method_12_code 41 = .ok (.iload_n 3, 1) := by decide +kernel
theorem dd_132_42 : decode prog_1_method_12_code 42 = .ok (.aload 4, 2) := by decide +kernel
theorem dd_132_44 : decode prog_1_method_12_code 44 = .ok (.iload_n 2, 1) := by decide +kernel
theorem dd_132_45 : decode prog_1_method_12_code 45 = .ok (.invokevirtual 168, 3) := by decide +kernel
theorem dd_132_48 : decode prog_1_method_12_code 48 = .ok (.if_icmp .lt 13, 3) := by decide +kernel
theorem dd_132_51 : decode prog_1_method_12_code 51 = .ok (.new 135, 3) := by decide +kernel
theorem dd_132_54 : decode prog_1_method_12_code 54 = .ok (.dup, 1) := by decide +kernel
theorem dd_132_55 : decode prog_1_method_12_code 55 = .ok (.ldc 172, 2) := by decide +kernel
theorem dd_132_57 : decode prog_1_method_12_code 57 = .ok (.invokespecial 139, 3) := by decide +kernel
theorem dd_132_60 : decode prog_1_method_12_code 60 = .ok (.athrow, 1) := by decide +kernel
theorem dd_132_61 : decode prog_1_method_12_code 61 = .ok (.iload_n 3, 1) := by decide +kernel
theorem dd_132_62 : decode prog_1_method_12_code 62 = .ok (.iconst (-1), 1) := by decide +kernel
theorem dd_132_63 : decode prog_1_method_12_code 63 = .ok (.if_icmp .ne 12, 3) := by decide +kernel
theorem dd_132_66 : decode prog_1_method_12_code 66 = .ok (.aload 4, 2) := by decide +kernel
theorem dd_132_68 : decode prog_1_method_12_code 68 = .ok (.iload_n 2, 1) := by decide +kernel
theorem dd_132_69 : decode prog_1_method_12_code 69 = .ok (.invokevirtual 168, 3) := by decide +kernel
theorem dd_132_72 : decode prog_1_method_12_code 72 = .ok (.goto 10, 3) := by decide +kernel
theorem dd_132_75 : decode prog_1_method_12_code 75 = .ok (.aload 4, 2) := by decide +kernel
theorem dd_132_77 : decode prog_1_method_12_code 77 = .ok (.iload_n 2, 1) := by decide +kernel
theorem dd_132_78 : decode prog_1_method_12_code 78 = .ok (.iload_n 3, 1) := by decide +kernel
theorem dd_132_79 : decode prog_1_method_12_code 79 = .ok (.invokevirtual 174, 3) := by decide +kernel
theorem dd_132_82 : decode prog_1_method_12_code 82 = .ok (.ireturn, 1) := by decide +kernel
def mt_132 : Nat → Option mv_S := mt_n 42 (mt_n 17 (mt_n 8 (mt_n 4 (mt_n 1 (mt_l 0 (mi_iload 1 1)) (mt_l 1 (mi_if (fun x : Int32 => x = 0) 11))) (mt_n 5 (mt_l 4 (mi_aload 1 0)) (mt_l 5 (mi_get 0 4)))) (mt_n 12 (mt_n 11 (mt_l 8 (mi_goto 15)) (mt_l 11 (mi_aload 1 0))) (mt_n 15 (mt_l 12 (mi_get 0 3)) (mt_l 15 (mi_astore 2 4))))) (mt_n 26 (mt_n 20 (mt_n 19 (mt_l 17 (mi_aload 2 4)) (mt_l 19 (mi_iload 1 2))) (mt_n 23 (mt_l 20 (mi_callV 5 116 2)) (mt_l 23 (mi_if (fun x : Int32 => ¬ x = 0) 36)))) (mt_n 37 (mt_n 36 (mt_l 26 (mi_throw 2)) (mt_l 36 (mi_iload 1 3))) (mt_n 38 (mt_l 37 (mi_pure 1 (mo_push (.int (-1))))) (mt_n 41 (mt_l 38 (mi_icmp (fun x y : Int32 => x < y) 51)) (mt_l 41 (mi_iload 1 3))))))) (mt_n 66 (mt_n 51 (mt_n 45 (mt_n 44 (mt_l 42 (mi_aload 2 4)) (mt_l 44 (mi_iload 1 2))) (mt_n 48 (mt_l 45 (mi_callV 5 118 2)) (mt_l 48 (mi_icmp (fun x y : Int32 => x < y) 61)))) (mt_n 62 (mt_n 61 (mt_l 51 (mi_throw 2)) (mt_l 61 (mi_iload 1 3))) (mt_n 63 (mt_l 62 (mi_pure 1 (mo_push (.int (-1))))) (mt_l 63 (mi_icmp (fun x y : Int32 => ¬ x = y) 75))))) (mt_n 75 (mt_n 69 (mt_n 68 (mt_l 66 (mi_aload 2 4)) (mt_l 68 (mi_iload 1 2))) (mt_n 72 (mt_l 69 (mi_callV 5 118 2)) (mt_l 72 (mi_goto 82)))) (mt_n 78 (mt_n 77 (mt_l 75 (mi_aload 2 4)) (mt_l 77 (mi_iload 1 2))) (mt_n 79 (mt_l 78 (mi_iload 1 3)) (mt_n 82 (mt_l 79 (mi_callV 5 131 3)) (mt_l 82 (mi_iret)))))))
theorem ms_132 (L : Nat) (xs : Nat → Int32) : mt_ok (mg L xs) 132 (mt_132) := mt_ok.n (mt_ok.n (mt_ok.n (mt_ok.n (mt_ok.n (mt_ok.l (mn_iload_n (k := 1) dd_132_0 rfl) (mi_iload_mn 1 1)) (mt_ok.l (mn_if_eq dd_132_1 (by decide)) (mi_if_mn _ _))) (mt_ok.n (mt_ok.l (mn_aload_n (k := 0) dd_132_4 rfl) (mi_aload_mn 1 0)) (mt_ok.l (mn_get (C := "TokenScanner") (T := mf_T0) (N := 7) dd_132_5 rfl (Nat.le_of_ble_eq_true rfl) mf_i0 hw_226) (mi_get_mn 0 4)))) (mt_ok.n (mt_ok.n (mt_ok.l (mn_goto dd_132_8 (by decide)) (mi_goto_mn 15)) (mt_ok.l (mn_aload_n (k := 0) dd_132_11 rfl) (mi_aload_mn 1 0))) (mt_ok.n (mt_ok.l (mn_get (C := "TokenScanner") (T := mf_T0) (N := 7) dd_132_12 rfl (Nat.le_of_ble_eq_true rfl) mf_i0 hw_225) (mi_get_mn 0 3)) (mt_ok.l (mn_astore dd_132_15 (Nat.le_of_ble_eq_true rfl)) (mi_astore_mn 2 4))))) (mt_ok.n (mt_ok.n (mt_ok.n (mt_ok.l (mn_aload dd_132_17) (mi_aload_mn 2 4)) (mt_ok.l (mn_iload_n (k := 2) dd_132_19 rfl) (mi_iload_mn 1 2))) (mt_ok.n (mt_ok.l (mn_callV (y := 132) (pc := 20) (z := 116) (mg_Ok L xs) (C := "TokenScanner$Shelf") (T0 := mf_T5) (N := 3) dd_132_20 rfl (mv_Hn.none rfl (fun _ => rfl)) (mc_132_116 L xs) hw_653 hw_612 hw_613 mq_116.1) (mi_callV_mn 5 116 2)) (mt_ok.l (mn_if_ne dd_132_23 (by decide)) (mi_if_mn _ _)))) (mt_ok.n (mt_ok.n (mt_ok.l (mn_throw (y := 132) (pc := 26) (k := 2) (mg_Ok L xs) (ik := 135) (is := 166) (ic := 139) (sk := 15) (text := ms_txt 15) (names := ["java/lang/RuntimeException", "java/lang/Exception"]) dd_132_26 dd_132_29 dd_132_30 dd_132_32 dd_132_35 mg_ft2 mg_ftn hw_575 hw_21 (mg_pR 15 (by decide)) ha_139_2 mg_pX rfl (Nat.le_of_ble_eq_true rfl) (Nat.le_of_ble_eq_true rfl)) (mi_throw_mn 2)) (mt_ok.l (mn_iload_n (k := 3) dd_132_36 rfl) (mi_iload_mn 1 3))) (mt_ok.n (mt_ok.l (mn_iconst dd_132_37 (by decide)) (mi_pure_mn 1 _)) (mt_ok.n (mt_ok.l (mn_icmp_lt dd_132_38 (by decide)) (mi_icmp_mn _ _)) (mt_ok.l (mn_iload_n (k := 3) dd_132_41 rfl) (mi_iload_mn 1 3))))))) (mt_ok.n (mt_ok.n (mt_ok.n (mt_ok.n (mt_ok.l (mn_aload dd_132_42) (mi_aload_mn 2 4)) (mt_ok.l (mn_iload_n (k := 2) dd_132_44 rfl) (mi_iload_mn 1 2))) (mt_ok.n (mt_ok.l (mn_callV (y := 132) (pc := 45) (z := 118) (mg_Ok L xs) (C := "TokenScanner$Shelf") (T0 := mf_T5) (N := 3) dd_132_45 rfl (mv_Hn.none rfl (fun _ => rfl)) (mc_132_118 L xs) hw_655 hw_608 hw_609 mq_118.1) (mi_callV_mn 5 118 2)) (mt_ok.l (mn_icmp_lt dd_132_48 (by decide)) (mi_icmp_mn _ _)))) (mt_ok.n (mt_ok.n (mt_ok.l (mn_throw (y := 132) (pc := 51) (k := 2) (mg_Ok L xs) (ik := 135) (is := 172) (ic := 139) (sk := 16) (text := ms_txt 16) (names := ["java/lang/RuntimeException", "java/lang/Exception"]) dd_132_51 dd_132_54 dd_132_55 dd_132_57 dd_132_60 mg_ft2 mg_ftn hw_575 hw_21 (mg_pR 16 (by decide)) ha_139_2 mg_pX rfl (Nat.le_of_ble_eq_true rfl) (Nat.le_of_ble_eq_true rfl)) (mi_throw_mn 2)) (mt_ok.l (mn_iload_n (k := 3) dd_132_61 rfl) (mi_iload_mn 1 3))) (mt_ok.n (mt_ok.l (mn_iconst dd_132_62 (by decide)) (mi_pure_mn 1 _)) (mt_ok.l (mn_icmp_ne dd_132_63 (by decide)) (mi_icmp_mn _ _))))) (mt_ok.n (mt_ok.n (mt_ok.n (mt_ok.l (mn_aload dd_132_66) (mi_aload_mn 2 4)) (mt_ok.l (mn_iload_n (k := 2) dd_132_68 rfl) (mi_iload_mn 1 2))) (mt_ok.n (mt_ok.l (mn_callV (y := 132) (pc := 69) (z := 118) (mg_Ok L xs) (C := "TokenScanner$Shelf") (T0 := mf_T5) (N := 3) dd_132_69 rfl (mv_Hn.none rfl (fun _ => rfl)) (mc_132_118 L xs) hw_655 hw_608 hw_609 mq_118.1) (mi_callV_mn 5 118 2)) (mt_ok.l (mn_goto dd_132_72 (by decide)) (mi_goto_mn 82)))) (mt_ok.n (mt_ok.n (mt_ok.l (mn_aload dd_132_75) (mi_aload_mn 2 4)) (mt_ok.l (mn_iload_n (k := 2) dd_132_77 rfl) (mi_iload_mn 1 2))) (mt_ok.n (mt_ok.l (mn_iload_n (k := 3) dd_132_78 rfl) (mi_iload_mn 1 3)) (mt_ok.n (mt_ok.l (mn_callV (y := 132) (pc := 79) (z := 131) (mg_Ok L xs) (C := "TokenScanner$Shelf") (T0 := mf_T5) (N := 3) dd_132_79 rfl (mv_Hn.none rfl (fun _ => rfl)) (mc_132_131 L xs) hw_657 hw_658 hw_659 mq_131.1) (mi_callV_mn 5 131 3)) (mt_ok.l (mn_iret dd_132_82 rfl) (mi_iret_mn)))))))
theorem dd_133_0 : decode method_12_code 0 = .ok (.aload 4, 2) := by decide +kernel
theorem dd_133_2 : decode method_12_code 2 = .ok (.iconst 0, 1) := by decide +kernel
theorem dd_133_3 : decode method_12_code 3 = .ok (.aload_n 0, 1) := by decide +kernel
theorem dd_133_4 : decode method_12_code 4 = .ok (.iload_n 1, 1) := by decide +kernel
theorem dd_133_5 : decode method_12_code 5 = .ok (.iload_n 2, 1) := by decide +kernel
theorem dd_133_6 : decode method_12_code 6 = .ok (.iload_n 3, 1) := by decide +kernel
theorem dd_133_7 : decode method_12_code 7 = .ok (.invokevirtual 45, 3) := by decide +kernel
theorem dd_133_10 : decode method_12_code 10 = .ok (.i2l, 1) := by decide +kernel
theorem dd_133_11 : decode method_12_code 11 = .ok (.lastore, 1) := by decide +kernel
theorem dd_133_12 : decode method_12_code 12 = .ok (.goto 7, 3) := by decide +kernel
theorem dd_133_15 : decode method_12_code 15 = .ok (.astore 5, 2) := by decide +kernel
theorem dd_133_17 : decode method_12_code 17 = .ok (.iconst 1, 1) := by decide +kernel
theorem dd_133_18 : decode method_12_code 18 = .ok (.ireturn, 1) := by decide +kernel
theorem dd_133_19 : decode method_12_code 19 = .ok (.iconst 0, 1) := by decide +kernel
theorem dd_133_20 : decode method_12_code 20 = .ok (.ireturn, 1) := by decide +kernel
def mt_133 : Nat → Option mv_S := mt_n 10 (mt_n 4 (mt_n 2 (mt_l 0 (mi_aload 2 4)) (mt_n 3 (mt_l 2 (mi_pure 1 (mo_push (.int 0)))) (mt_l 3 (mi_aload 1 0)))) (mt_n 6 (mt_n 5 (mt_l 4 (mi_iload 1 1)) (mt_l 5 (mi_iload 1 2))) (mt_n 7 (mt_l 6 (mi_iload 1 3)) (mt_l 7 (mi_callV 0 132 4))))) (mt_n 17 (mt_n 11 (mt_l 10 (mi_pure 1 mo_i2l)) (mt_n 12 (mt_l 11 (mi_last)) (mt_l 12 (mi_goto 19)))) (mt_n 19 (mt_n 18 (mt_l 17 (mi_pure 1 (mo_push (.int 1)))) (mt_l 18 (mi_iret))) (mt_n 20 (mt_l 19 (mi_pure 1 (mo_push (.int 0)))) (mt_l 20 (mi_iret)))))
theorem mh_133 {L : Nat} {xs : Nat → Int32} : mv_Hn (mg L xs) 133 7 := by
  have hb : ∀ k, (mg L xs).X 133 7 k = ((bif Nat.beq k 2 then some (some (17, 5)) else none) : Option (Option (Nat × Nat))) := fun k => rfl
  refine ⟨fun k pc9 i9 e => ?_, fun k e => ?_⟩ <;> rw [hb] at e
  · cases b2 : Nat.beq k 2 with
    | true =>
      rw [b2, cond_true] at e
      have hk := Nat.eq_of_beq_eq_true b2
      subst hk
      cases e
      exact ⟨[], [], (0, 12, 15, 37), "java/lang/IndexOutOfBoundsException", rfl, (fun z hz => by cases hz), by decide, by decide, hw_570, hw_577, (Nat.le_of_ble_eq_true rfl), Or.inr ⟨dd_133_15, rfl⟩⟩
    | false =>
      rw [b2, cond_false] at e
      cases e
  · cases b2 : Nat.beq k 2 with
    | true =>
      rw [b2, cond_true] at e
      cases e
    | false =>
      rw [b2, cond_false] at e
      cases e
theorem ms_133 (L : Nat) (xs : Nat → Int32) : mt_ok (mg L xs) 133 (mt_133) := mt_ok.n (mt_ok.n (mt_ok.n (mt_ok.l (mn_aload dd_133_0) (mi_aload_mn 2 4)) (mt_ok.n (mt_ok.l (mn_iconst dd_133_2 (by decide)) (mi_pure_mn 1 _)) (mt_ok.l (mn_aload_n (k := 0) dd_133_3 rfl) (mi_aload_mn 1 0)))) (mt_ok.n (mt_ok.n (mt_ok.l (mn_iload_n (k := 1) dd_133_4 rfl) (mi_iload_mn 1 1)) (mt_ok.l (mn_iload_n (k := 2) dd_133_5 rfl) (mi_iload_mn 1 2))) (mt_ok.n (mt_ok.l (mn_iload_n (k := 3) dd_133_6 rfl) (mi_iload_mn 1 3)) (mt_ok.l (mn_callV (y := 133) (pc := 7) (z := 132) (mg_Ok L xs) (C := "TokenScanner") (T0 := mf_T0) (N := 7) dd_133_7 rfl mh_133 (mc_133_132 L xs) hw_649 hw_650 hw_651 mq_132.1) (mi_callV_mn 0 132 4))))) (mt_ok.n (mt_ok.n (mt_ok.l (mn_i2l dd_133_10) (mi_pure_mn 1 _)) (mt_ok.n (mt_ok.l (mn_last dd_133_11 rfl) (mi_last_mn)) (mt_ok.l (mn_goto dd_133_12 (by decide)) (mi_goto_mn 19)))) (mt_ok.n (mt_ok.n (mt_ok.l (mn_iconst dd_133_17 (by decide)) (mi_pure_mn 1 _)) (mt_ok.l (mn_iret dd_133_18 rfl) (mi_iret_mn))) (mt_ok.n (mt_ok.l (mn_iconst dd_133_19 (by decide)) (mi_pure_mn 1 _)) (mt_ok.l (mn_iret dd_133_20 rfl) (mi_iret_mn)))))
theorem dd_134_0 : decode prog_9_method_42_code 0 = .ok (.iload_n 2, 1) := by decide +kernel
theorem dd_134_1 : decode prog_9_method_42_code 1 = .ok (.ifCond .lt 22, 3) := by decide +kernel
theorem dd_134_4 : decode prog_9_method_42_code 4 = .ok (.iload_n 2, 1) := by decide +kernel
theorem dd_134_5 : decode prog_9_method_42_code 5 = .ok (.iload_n 1, 1) := by decide +kernel
theorem dd_134_6 : decode prog_9_method_42_code 6 = .ok (.ifCond .eq 10, 3) := by decide +kernel
theorem dd_134_9 : decode prog_9_method_42_code 9 = .ok (.aload_n 0, 1) := by decide +kernel
theorem dd_134_10 : decode prog_9_method_42_code 10 = .ok (.getfield 335, 3) := by decide +kernel
theorem dd_134_13 : decode prog_9_method_42_code 13 = .ok (.goto 7, 3) := by decide +kernel
theorem dd_134_16 : decode prog_9_method_42_code 16 = .ok (.aload_n 0, 1) := by decide +kernel
theorem dd_134_17 : decode prog_9_method_42_code 17 = .ok (.getfield 332, 3) := by decide +kernel
theorem dd_134_20 : decode prog_9_method_42_code 20 = .ok (.if_icmp .lt 7, 3) := by decide +kernel
theorem dd_134_23 : decode prog_9_method_42_code 23 = .ok (.iconst 1, 1) := by decide +kernel
theorem dd_134_24 : decode prog_9_method_42_code 24 = .ok (.goto 4, 3) := by decide +kernel
theorem dd_134_27 : decode prog_9_method_42_code 27 = .ok (.iconst 0, 1) := by decide +kernel
theorem dd_134_28 : decode prog_9_method_42_code 28 = .ok (.istore 4, 2) := by decide +kernel
theorem dd_134_30 : decode prog_9_method_42_code 30 = .ok (.iload 4, 2) := by decide +kernel
theorem dd_134_32 : decode prog_9_method_42_code 32 = .ok (.ifCond .ne 7, 3) := by decide +kernel
theorem dd_134_35 : decode prog_9_method_42_code 35 = .ok (.iload_n 2, 1) := by decide +kernel
theorem dd_134_36 : decode prog_9_method_42_code 36 = .ok (.ifCond .ne 7, 3) := by decide +kernel
theorem dd_134_39 : decode prog_9_method_42_code 39 = .ok (.iconst 0, 1) := by decide +kernel
theorem dd_134_40 : decode prog_9_method_42_code 40 = .ok (.goto 26, 3) := by decide +kernel
theorem dd_134_43 : decode prog_9_method_42_code 43 = .ok (.iload_n 1, 1) := by decide +kernel
theorem dd_134_44 : decode prog_9_method_42_code 44 = .ok (.ifCond .eq 14, 3) := by decide +kernel
theorem dd_134_47 : decode prog_9_method_42_code 47 = .ok (.aload_n 0, 1) := by decide +kernel
theorem dd_134_48 : decode prog_9_method_42_code 48 = .ok (.getfield 26, 3) := by decide +kernel
theorem dd_134_51 : decode prog_9_method_42_code 51 = .ok (.iload_n 2, 1) := by decide +kernel
theorem dd_134_52 : decode prog_9_method_42_code 52 = .ok (.iconst 1, 1) := by decide +kernel
theorem dd_134_53 : decode prog_9_method_42_code 53 = .ok (.isub, 1) := by decide +kernel
theorem dd_134_54 : decode prog_9_method_42_code 54 = .ok (.iaload, 1) := by decide +kernel
theorem dd_134_55 : decode prog_9_method_42_code 55 = .ok (.goto 11, 3) := by decide +kernel
theorem dd_134_58 : decode prog_9_method_42_code 58 = .ok (.aload_n 0, 1) := by decide +kernel
theorem dd_134_59 : decode prog_9_method_42_code 59 = .ok (.getfield 20, 3) := by decide +kernel
theorem dd_134_62 : decode prog_9_method_42_code 62 = .ok (.iload_n 2, 1) := by decide +kernel
theorem dd_134_63 : decode prog_9_method_42_code 63 = .ok (.iconst 1, 1) := by decide +kernel
theorem dd_134_64 : decode prog_9_method_42_code 64 = .ok (.isub, 1) := by decide +kernel
theorem dd_134_65 : decode prog_9_method_42_code 65 = .ok (.iaload, 1) := by decide +kernel
theorem dd_134_66 : decode prog_9_method_42_code 66 = .ok (.istore 5, 2) := by decide +kernel
theorem dd_134_68 : decode prog_9_method_42_code 68 = .ok (.iload 4, 2) := by decide +kernel
theorem dd_134_70 : decode prog_9_method_42_code 70 = .ok (.ifCond .eq 7, 3) := by decide +kernel
theorem dd_134_73 : decode prog_9_method_42_code 73 = .ok (.iconst 0, 1) := by decide +kernel
theorem dd_134_74 : decode prog_9_method_42_code 74 = .ok (.goto 25, 3) := by decide +kernel
theorem dd_134_77 : decode prog_9_method_42_code 77 = .ok (.iload_n 1, 1) := by decide +kernel
theorem dd_134_78 : decode prog_9_method_42_code 78 = .ok (.ifCond .eq 12, 3) := by decide +kernel
theorem dd_134_81 : decode prog_9_method_42_code 81 = .ok (.aload_n 0, 1) := by decide +kernel
theorem dd_134_82 : decode prog_9_method_42_code 82 = .ok (.getfield 26, 3) := by decide +kernel
theorem dd_134_85 : decode prog_9_method_42_code 85 = .ok (.iload_n 2, 1) := by decide +kernel
theorem dd_134_86 : decode prog_9_method_42_code 86 = .ok (.iaload, 1) := by decide +kernel
theorem dd_134_87 : decode prog_9_method_42_code 87 = .ok (.goto 9, 3) := by decide +kernel
theorem dd_134_90 : decode prog_9_method_42_code 90 = .ok (.aload_n 0, 1) := by decide +kernel
theorem dd_134_91 : decode prog_9_method_42_code 91 = .ok (.getfield 20, 3) := by decide +kernel
theorem dd_134_94 : decode prog_9_method_42_code 94 = .ok (.iload_n 2, 1) := by decide +kernel
theorem dd_134_95 : decode prog_9_method_42_code 95 = .ok (.iaload, 1) := by decide +kernel
theorem dd_134_96 : decode prog_9_method_42_code 96 = .ok (.iload 5, 2) := by decide +kernel
theorem dd_134_98 : decode prog_9_method_42_code 98 = .ok (.isub, 1) := by decide +kernel
theorem dd_134_99 : decode prog_9_method_42_code 99 = .ok (.istore 6, 2) := by decide +kernel
theorem dd_134_101 : decode prog_9_method_42_code 101 = .ok (.aload_n 0, 1) := by decide +kernel
theorem dd_134_102 : decode prog_9_method_42_code 102 = .ok (.iload 4, 2) := by decide +kernel
theorem dd_134_104 : decode prog_9_method_42_code 104 = .ok (.ifCond .ne 14, 3) := by decide +kernel
theorem dd_134_107 : decode prog_9_method_42_code 107 = .ok (.iload_n 3, 1) := by decide +kernel
theorem dd_134_108 : decode prog_9_method_42_code 108 = .ok (.iconst (-1), 1) := by decide +kernel
theorem dd_134_109 : decode prog_9_method_42_code 109 = .ok (.if_icmp .lt 9, 3) := by decide +kernel
theorem dd_134_112 : decode prog_9_method_42_code 112 = .ok (.iload_n 3, 1) := by decide +kernel
theorem dd_134_113 : decode prog_9_method_42_code 113 = .ok (.iload 6, 2) := by decide +kernel
theorem dd_134_115 : decode prog_9_method_42_code 115 = .ok (.if_icmp .lt 7, 3) := by decide +kernel
theorem dd_134_118 : decode prog_9_method_42_code 118 = .ok (.iconst 1, 1) := by decide +kernel
theorem dd_134_119 : decode prog_9_method_42_code 119 = .ok (.goto 4, 3) := by decide +kernel
theorem dd_134_122 : decode prog_9_method_42_code 122 = .ok (.iconst 0, 1) := by decide +kernel
theorem dd_134_123 : decode prog_9_method_42_code 123 = .ok (.iconst 0, 1) := by decide +kernel
theorem dd_134_124 : decode prog_9_method_42_code 124 = .ok (.invokevirtual 42, 3) := by decide +kernel
theorem dd_134_127 : decode prog_9_method_42_code 127 = .ok (.ifCond .eq 5, 3) := by decide +kernel
theorem dd_134_130 : decode prog_9_method_42_code 130 = .ok (.iconst 0, 1) := by decide +kernel
theorem dd_134_131 : decode prog_9_method_42_code 131 = .ok (.ireturn, 1) := by decide +kernel
theorem dd_134_132 : decode prog_9_method_42_code 132 = .ok (.iload_n 3, 1) := by decide +kernel
theorem dd_134_133 : decode prog_9_method_42_code 133 = .ok (.ifCond .ge 8, 3) := by decide +kernel
theorem dd_134_136 : decode prog_9_method_42_code 136 = .ok (.iload 6, 2) := by decide +kernel
theorem dd_134_138 : decode prog_9_method_42_code 138 = .ok (.goto 28, 3) := by decide +kernel
theorem dd_134_141 : decode prog_9_method_42_code 141 = .ok (.iload_n 1, 1) := by decide +kernel
theorem dd_134_142 : decode prog_9_method_42_code 142 = .ok (.ifCond .eq 15, 3) := by decide +kernel
theorem dd_134_145 : decode prog_9_method_42_code 145 = .ok (.aload_n 0, 1) := by decide +kernel
theorem dd_134_146 : decode prog_9_method_42_code 146 = .ok (.getfield 29, 3) := by decide +kernel
theorem dd_134_149 : decode prog_9_method_42_code 149 = .ok (.iload 5, 2) := by decide +kernel
theorem dd_134_151 : decode prog_9_method_42_code 151 = .ok (.iload_n 3, 1) := by decide +kernel
theorem dd_134_152 : decode prog_9_method_42_code 152 = .ok (.iadd, 1) := by decide +kernel
theorem dd_134_153 : decode prog_9_method_42_code 153 = .ok (.iaload, 1) := by decide +kernel
theorem dd_134_154 : decode prog_9_method_42_code 154 = .ok (.goto 12, 3) := by decide +kernel
theorem dd_134_157 : decode prog_9_method_42_code 157 = .ok (.aload_n 0, 1) := by decide +kernel
theorem dd_134_158 : decode prog_9_method_42_code 158 = .ok (.getfield 23, 3) := by decide +kernel
theorem dd_134_161 : decode prog_9_method_42_code 161 = .ok (.iload 5, 2) := by decide +kernel
theorem dd_134_163 : decode prog_9_method_42_code 163 = .ok (.iload_n 3, 1) := by decide +kernel
theorem dd_134_164 : decode prog_9_method_42_code 164 = .ok (.iadd, 1) := by decide +kernel
theorem dd_134_165 : decode prog_9_method_42_code 165 = .ok (.iaload, 1) := by decide +kernel
theorem dd_134_166 : decode prog_9_method_42_code 166 = .ok (.ireturn, 1) := by decide +kernel
def mt_134 : Nat → Option mv_S := mt_n 86 (mt_n 47 (mt_n 23 (mt_n 9 (mt_n 4 (mt_n 1 (mt_l 0 (mi_iload 1 2)) (mt_l 1 (mi_if (fun x : Int32 => x < 0) 23))) (mt_n 5 (mt_l 4 (mi_iload 1 2)) (mt_n 6 (mt_l 5 (mi_iload 1 1)) (mt_l 6 (mi_if (fun x : Int32 => x = 0) 16))))) (mt_n 16 (mt_n 10 (mt_l 9 (mi_aload 1 0)) (mt_n 13 (mt_l 10 (mi_get 6 18)) (mt_l 13 (mi_goto 20)))) (mt_n 17 (mt_l 16 (mi_aload 1 0)) (mt_n 20 (mt_l 17 (mi_get 6 15)) (mt_l 20 (mi_icmp (fun x y : Int32 => x < y) 27)))))) (mt_n 35 (mt_n 28 (mt_n 24 (mt_l 23 (mi_pure 1 (mo_push (.int 1)))) (mt_n 27 (mt_l 24 (mi_goto 28)) (mt_l 27 (mi_pure 1 (mo_push (.int 0)))))) (mt_n 30 (mt_l 28 (mi_istore 2 4)) (mt_n 32 (mt_l 30 (mi_iload 2 4)) (mt_l 32 (mi_if (fun x : Int32 => ¬ x = 0) 39))))) (mt_n 40 (mt_n 36 (mt_l 35 (mi_iload 1 2)) (mt_n 39 (mt_l 36 (mi_if (fun x : Int32 => ¬ x = 0) 43)) (mt_l 39 (mi_pure 1 (mo_push (.int 0)))))) (mt_n 43 (mt_l 40 (mi_goto 66)) (mt_n 44 (mt_l 43 (mi_iload 1 1)) (mt_l 44 (mi_if (fun x : Int32 => x = 0) 58))))))) (mt_n 64 (mt_n 54 (mt_n 51 (mt_n 48 (mt_l 47 (mi_aload 1 0)) (mt_l 48 (mi_get 6 19))) (mt_n 52 (mt_l 51 (mi_iload 1 2)) (mt_n 53 (mt_l 52 (mi_pure 1 (mo_push (.int 1)))) (mt_l 53 (mi_pure 1 (mo_ii (fun x y => x - y))))))) (mt_n 59 (mt_n 55 (mt_l 54 (mi_iald)) (mt_n 58 (mt_l 55 (mi_goto 66)) (mt_l 58 (mi_aload 1 0)))) (mt_n 62 (mt_l 59 (mi_get 6 16)) (mt_n 63 (mt_l 62 (mi_iload 1 2)) (mt_l 63 (mi_pure 1 (mo_push (.int 1)))))))) (mt_n 74 (mt_n 68 (mt_n 65 (mt_l 64 (mi_pure 1 (mo_ii (fun x y => x - y)))) (mt_n 66 (mt_l 65 (mi_iald)) (mt_l 66 (mi_istore 2 5)))) (mt_n 70 (mt_l 68 (mi_iload 2 4)) (mt_n 73 (mt_l 70 (mi_if (fun x : Int32 => x = 0) 77)) (mt_l 73 (mi_pure 1 (mo_push (.int 0))))))) (mt_n 81 (mt_n 77 (mt_l 74 (mi_goto 99)) (mt_n 78 (mt_l 77 (mi_iload 1 1)) (mt_l 78 (mi_if (fun x : Int32 => x = 0) 90)))) (mt_n 82 (mt_l 81 (mi_aload 1 0)) (mt_n 85 (mt_l 82 (mi_get 6 19)) (mt_l 85 (mi_iload 1 2)))))))) (mt_n 127 (mt_n 104 (mt_n 95 (mt_n 90 (mt_n 87 (mt_l 86 (mi_iald)) (mt_l 87 (mi_goto 96))) (mt_n 91 (mt_l 90 (mi_aload 1 0)) (mt_n 94 (mt_l 91 (mi_get 6 16)) (mt_l 94 (mi_iload 1 2))))) (mt_n 99 (mt_n 96 (mt_l 95 (mi_iald)) (mt_n 98 (mt_l 96 (mi_iload 2 5)) (mt_l 98 (mi_pure 1 (mo_ii (fun x y => x - y)))))) (mt_n 101 (mt_l 99 (mi_istore 2 6)) (mt_n 102 (mt_l 101 (mi_aload 1 0)) (mt_l 102 (mi_iload 2 4)))))) (mt_n 115 (mt_n 109 (mt_n 107 (mt_l 104 (mi_if (fun x : Int32 => ¬ x = 0) 118)) (mt_n 108 (mt_l 107 (mi_iload 1 3)) (mt_l 108 (mi_pure 1 (mo_push (.int (-1))))))) (mt_n 112 (mt_l 109 (mi_icmp (fun x y : Int32 => x < y) 118)) (mt_n 113 (mt_l 112 (mi_iload 1 3)) (mt_l 113 (mi_iload 2 6))))) (mt_n 122 (mt_n 118 (mt_l 115 (mi_icmp (fun x y : Int32 => x < y) 122)) (mt_n 119 (mt_l 118 (mi_pure 1 (mo_push (.int 1)))) (mt_l 119 (mi_goto 123)))) (mt_n 123 (mt_l 122 (mi_pure 1 (mo_push (.int 0)))) (mt_n 124 (mt_l 123 (mi_pure 1 (mo_push (.int 0)))) (mt_l 124 (mi_callV 6 22 3))))))) (mt_n 149 (mt_n 136 (mt_n 131 (mt_n 130 (mt_l 127 (mi_if (fun x : Int32 => x = 0) 132)) (mt_l 130 (mi_pure 1 (mo_push (.int 0))))) (mt_n 132 (mt_l 131 (mi_iret)) (mt_n 133 (mt_l 132 (mi_iload 1 3)) (mt_l 133 (mi_if (fun x : Int32 => 0 ≤ x) 141))))) (mt_n 142 (mt_n 138 (mt_l 136 (mi_iload 2 6)) (mt_n 141 (mt_l 138 (mi_goto 166)) (mt_l 141 (mi_iload 1 1)))) (mt_n 145 (mt_l 142 (mi_if (fun x : Int32 => x = 0) 157)) (mt_n 146 (mt_l 145 (mi_aload 1 0)) (mt_l 146 (mi_get 6 20)))))) (mt_n 158 (mt_n 153 (mt_n 151 (mt_l 149 (mi_iload 2 5)) (mt_n 152 (mt_l 151 (mi_iload 1 3)) (mt_l 152 (mi_pure 1 (mo_ii (fun x y => x + y)))))) (mt_n 154 (mt_l 153 (mi_iald)) (mt_n 157 (mt_l 154 (mi_goto 166)) (mt_l 157 (mi_aload 1 0))))) (mt_n 164 (mt_n 161 (mt_l 158 (mi_get 6 17)) (mt_n 163 (mt_l 161 (mi_iload 2 5)) (mt_l 163 (mi_iload 1 3)))) (mt_n 165 (mt_l 164 (mi_pure 1 (mo_ii (fun x y => x + y)))) (mt_n 166 (mt_l 165 (mi_iald)) (mt_l 166 (mi_iret))))))))
theorem ms_134 (L : Nat) (xs : Nat → Int32) : mt_ok (mg L xs) 134 (mt_134) := mt_ok.n (mt_ok.n (mt_ok.n (mt_ok.n (mt_ok.n (mt_ok.n (mt_ok.l (mn_iload_n (k := 2) dd_134_0 rfl) (mi_iload_mn 1 2)) (mt_ok.l (mn_if_lt dd_134_1 (by decide)) (mi_if_mn _ _))) (mt_ok.n (mt_ok.l (mn_iload_n (k := 2) dd_134_4 rfl) (mi_iload_mn 1 2)) (mt_ok.n (mt_ok.l (mn_iload_n (k := 1) dd_134_5 rfl) (mi_iload_mn 1 1)) (mt_ok.l (mn_if_eq dd_134_6 (by decide)) (mi_if_mn _ _))))) (mt_ok.n (mt_ok.n (mt_ok.l (mn_aload_n (k := 0) dd_134_9 rfl) (mi_aload_mn 1 0)) (mt_ok.n (mt_ok.l (mn_get (C := "TokenScannerModel") (T := mf_T6) (N := 21) dd_134_10 rfl (Nat.le_of_ble_eq_true rfl) mf_i6 hw_685) (mi_get_mn 6 18)) (mt_ok.l (mn_goto dd_134_13 (by decide)) (mi_goto_mn 20)))) (mt_ok.n (mt_ok.l (mn_aload_n (k := 0) dd_134_16 rfl) (mi_aload_mn 1 0)) (mt_ok.n (mt_ok.l (mn_get (C := "TokenScannerModel") (T := mf_T6) (N := 21) dd_134_17 rfl (Nat.le_of_ble_eq_true rfl) mf_i6 hw_682) (mi_get_mn 6 15)) (mt_ok.l (mn_icmp_lt dd_134_20 (by decide)) (mi_icmp_mn _ _)))))) (mt_ok.n (mt_ok.n (mt_ok.n (mt_ok.l (mn_iconst dd_134_23 (by decide)) (mi_pure_mn 1 _)) (mt_ok.n (mt_ok.l (mn_goto dd_134_24 (by decide)) (mi_goto_mn 28)) (mt_ok.l (mn_iconst dd_134_27 (by decide)) (mi_pure_mn 1 _)))) (mt_ok.n (mt_ok.l (mn_istore dd_134_28 (Nat.le_of_ble_eq_true rfl)) (mi_istore_mn 2 4)) (mt_ok.n (mt_ok.l (mn_iload dd_134_30) (mi_iload_mn 2 4)) (mt_ok.l (mn_if_ne dd_134_32 (by decide)) (mi_if_mn _ _))))) (mt_ok.n (mt_ok.n (mt_ok.l (mn_iload_n (k := 2) dd_134_35 rfl) (mi_iload_mn 1 2)) (mt_ok.n (mt_ok.l (mn_if_ne dd_134_36 (by decide)) (mi_if_mn _ _)) (mt_ok.l (mn_iconst dd_134_39 (by decide)) (mi_pure_mn 1 _)))) (mt_ok.n (mt_ok.l (mn_goto dd_134_40 (by decide)) (mi_goto_mn 66)) (mt_ok.n (mt_ok.l (mn_iload_n (k := 1) dd_134_43 rfl) (mi_iload_mn 1 1)) (mt_ok.l (mn_if_eq dd_134_44 (by decide)) (mi_if_mn _ _))))))) (mt_ok.n (mt_ok.n (mt_ok.n (mt_ok.n (mt_ok.l (mn_aload_n (k := 0) dd_134_47 rfl) (mi_aload_mn 1 0)) (mt_ok.l (mn_get (C := "TokenScannerModel") (T := mf_T6) (N := 21) dd_134_48 rfl (Nat.le_of_ble_eq_true rfl) mf_i6 hw_686) (mi_get_mn 6 19))) (mt_ok.n (mt_ok.l (mn_iload_n (k := 2) dd_134_51 rfl) (mi_iload_mn 1 2)) (mt_ok.n (mt_ok.l (mn_iconst dd_134_52 (by decide)) (mi_pure_mn 1 _)) (mt_ok.l (mn_isub dd_134_53) (mi_pure_mn 1 _))))) (mt_ok.n (mt_ok.n (mt_ok.l (mn_iald dd_134_54 rfl) (mi_iald_mn)) (mt_ok.n (mt_ok.l (mn_goto dd_134_55 (by decide)) (mi_goto_mn 66)) (mt_ok.l (mn_aload_n (k := 0) dd_134_58 rfl) (mi_aload_mn 1 0)))) (mt_ok.n (mt_ok.l (mn_get (C := "TokenScannerModel") (T := mf_T6) (N := 21) dd_134_59 rfl (Nat.le_of_ble_eq_true rfl) mf_i6 hw_683) (mi_get_mn 6 16)) (mt_ok.n (mt_ok.l (mn_iload_n (k := 2) dd_134_62 rfl) (mi_iload_mn 1 2)) (mt_ok.l (mn_iconst dd_134_63 (by decide)) (mi_pure_mn 1 _)))))) (mt_ok.n (mt_ok.n (mt_ok.n (mt_ok.l (mn_isub dd_134_64) (mi_pure_mn 1 _)) (mt_ok.n (mt_ok.l (mn_iald dd_134_65 rfl) (mi_iald_mn)) (mt_ok.l (mn_istore dd_134_66 (Nat.le_of_ble_eq_true rfl)) (mi_istore_mn 2 5)))) (mt_ok.n (mt_ok.l (mn_iload dd_134_68) (mi_iload_mn 2 4)) (mt_ok.n (mt_ok.l (mn_if_eq dd_134_70 (by decide)) (mi_if_mn _ _)) (mt_ok.l (mn_iconst dd_134_73 (by decide)) (mi_pure_mn 1 _))))) (mt_ok.n (mt_ok.n (mt_ok.l (mn_goto dd_134_74 (by decide)) (mi_goto_mn 99)) (mt_ok.n (mt_ok.l (mn_iload_n (k := 1) dd_134_77 rfl) (mi_iload_mn 1 1)) (mt_ok.l (mn_if_eq dd_134_78 (by decide)) (mi_if_mn _ _)))) (mt_ok.n (mt_ok.l (mn_aload_n (k := 0) dd_134_81 rfl) (mi_aload_mn 1 0)) (mt_ok.n (mt_ok.l (mn_get (C := "TokenScannerModel") (T := mf_T6) (N := 21) dd_134_82 rfl (Nat.le_of_ble_eq_true rfl) mf_i6 hw_686) (mi_get_mn 6 19)) (mt_ok.l (mn_iload_n (k := 2) dd_134_85 rfl) (mi_iload_mn 1 2)))))))) (mt_ok.n (mt_ok.n (mt_ok.n (mt_ok.n (mt_ok.n (mt_ok.l (mn_iald dd_134_86 rfl) (mi_iald_mn)) (mt_ok.l (mn_goto dd_134_87 (by decide)) (mi_goto_mn 96))) (mt_ok.n (mt_ok.l (mn_aload_n (k := 0) dd_134_90 rfl) (mi_aload_mn 1 0)) (mt_ok.n (mt_ok.l (mn_get (C := "TokenScannerModel") (T := mf_T6) (N := 21) dd_134_91 rfl (Nat.le_of_ble_eq_true rfl) mf_i6 hw_683) (mi_get_mn 6 16)) (mt_ok.l (mn_iload_n (k := 2) dd_134_94 rfl) (mi_iload_mn 1 2))))) (mt_ok.n (mt_ok.n (mt_ok.l (mn_iald dd_134_95 rfl) (mi_iald_mn)) (mt_ok.n (mt_ok.l (mn_iload dd_134_96) (mi_iload_mn 2 5)) (mt_ok.l (mn_isub dd_134_98) (mi_pure_mn 1 _)))) (mt_ok.n (mt_ok.l (mn_istore dd_134_99 (Nat.le_of_ble_eq_true rfl)) (mi_istore_mn 2 6)) (mt_ok.n (mt_ok.l (mn_aload_n (k := 0) dd_134_101 rfl) (mi_aload_mn 1 0)) (mt_ok.l (mn_iload dd_134_102) (mi_iload_mn 2 4)))))) (mt_ok.n (mt_ok.n (mt_ok.n (mt_ok.l (mn_if_ne dd_134_104 (by decide)) (mi_if_mn _ _)) (mt_ok.n (mt_ok.l (mn_iload_n (k := 3) dd_134_107 rfl) (mi_iload_mn 1 3)) (mt_ok.l (mn_iconst dd_134_108 (by decide)) (mi_pure_mn 1 _)))) (mt_ok.n (mt_ok.l (mn_icmp_lt dd_134_109 (by decide)) (mi_icmp_mn _ _)) (mt_ok.n (mt_ok.l (mn_iload_n (k := 3) dd_134_112 rfl) (mi_iload_mn 1 3)) (mt_ok.l (mn_iload dd_134_113) (mi_iload_mn 2 6))))) (mt_ok.n (mt_ok.n (mt_ok.l (mn_icmp_lt dd_134_115 (by decide)) (mi_icmp_mn _ _)) (mt_ok.n (mt_ok.l (mn_iconst dd_134_118 (by decide)) (mi_pure_mn 1 _)) (mt_ok.l (mn_goto dd_134_119 (by decide)) (mi_goto_mn 123)))) (mt_ok.n (mt_ok.l (mn_iconst dd_134_122 (by decide)) (mi_pure_mn 1 _)) (mt_ok.n (mt_ok.l (mn_iconst dd_134_123 (by decide)) (mi_pure_mn 1 _)) (mt_ok.l (mn_callV (y := 134) (pc := 124) (z := 22) (mg_Ok L xs) (C := "TokenScannerModel") (T0 := mf_T6) (N := 21) dd_134_124 rfl (mv_Hn.none rfl (fun _ => rfl)) (mc_134_22 L xs) hw_739 hw_741 hs_26 mq_22.1) (mi_callV_mn 6 22 3))))))) (mt_ok.n (mt_ok.n (mt_ok.n (mt_ok.n (mt_ok.l (mn_if_eq dd_134_127 (by decide)) (mi_if_mn _ _)) (mt_ok.l (mn_iconst dd_134_130 (by decide)) (mi_pure_mn 1 _))) (mt_ok.n (mt_ok.l (mn_iret dd_134_131 rfl) (mi_iret_mn)) (mt_ok.n (mt_ok.l (mn_iload_n (k := 3) dd_134_132 rfl) (mi_iload_mn 1 3)) (mt_ok.l (mn_if_ge dd_134_133 (by decide)) (mi_if_mn _ _))))) (mt_ok.n (mt_ok.n (mt_ok.l (mn_iload dd_134_136) (mi_iload_mn 2 6)) (mt_ok.n (mt_ok.l (mn_goto dd_134_138 (by decide)) (mi_goto_mn 166)) (mt_ok.l (mn_iload_n (k := 1) dd_134_141 rfl) (mi_iload_mn 1 1)))) (mt_ok.n (mt_ok.l (mn_if_eq dd_134_142 (by decide)) (mi_if_mn _ _)) (mt_ok.n (mt_ok.l (mn_aload_n (k := 0) dd_134_145 rfl) (mi_aload_mn 1 0)) (mt_ok.l (mn_get (C := "TokenScannerModel") (T := mf_T6) (N := 21) dd_134_146 rfl (Nat.le_of_ble_eq_true rfl) mf_i6 hw_687) (mi_get_mn 6 20)))))) (mt_ok.n (mt_ok.n (mt_ok.n (mt_ok.l (mn_iload dd_134_149) (mi_iload_mn 2 5)) (mt_ok.n (mt_ok.l (mn_iload_n (k := 3) dd_134_151 rfl) (mi_iload_mn 1 3)) (mt_ok.l (mn_iadd dd_134_152) (mi_pure_mn 1 _)))) (mt_ok.n (mt_ok.l (mn_iald dd_134_153 rfl) (mi_iald_mn)) (mt_ok.n (mt_ok.l (mn_goto dd_134_154 (by decide)) (mi_goto_mn 166)) (mt_ok.l (mn_aload_n (k := 0) dd_134_157 rfl) (mi_aload_mn 1 0))))) (mt_ok.n (mt_ok.n (mt_ok.l (mn_get (C := "TokenScannerModel") (T := mf_T6) (N := 21) dd_134_158 rfl (Nat.le_of_ble_eq_true rfl) mf_i6 hw_684) (mi_get_mn 6 17)) (mt_ok.n (mt_ok.l (mn_iload dd_134_161) (mi_iload_mn 2 5)) (mt_ok.l (mn_iload_n (k := 3) dd_134_163 rfl) (mi_iload_mn 1 3)))) (mt_ok.n (mt_ok.l (mn_iadd dd_134_164) (mi_pure_mn 1 _)) (mt_ok.n (mt_ok.l (mn_iald dd_134_165 rfl) (mi_iald_mn)) (mt_ok.l (mn_iret dd_134_166 rfl) (mi_iret_mn))))))))
