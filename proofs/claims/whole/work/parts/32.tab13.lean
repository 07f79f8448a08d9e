theorem dd_110_0 : decode method_8_code 0 = .ok (.aload_n 2, 1) := by decide +kernel
theorem dd_110_1 : decode method_8_code 1 = .ok (.iconst 0, 1) := by decide +kernel
theorem dd_110_2 : decode method_8_code 2 = .ok (.aload_n 0, 1) := by decide +kernel
theorem dd_110_3 : decode method_8_code 3 = .ok (.iload_n 1, 1) := by decide +kernel
theorem dd_110_4 : decode method_8_code 4 = .ok (.invokevirtual 30, 3) := by decide +kernel
theorem dd_110_7 : decode method_8_code 7 = .ok (.i2l, 1) := by decide +kernel
theorem dd_110_8 : decode method_8_code 8 = .ok (.lastore, 1) := by decide +kernel
theorem dd_110_9 : decode method_8_code 9 = .ok (.goto 9, 3) := by decide +kernel
theorem dd_110_12 : decode method_8_code 12 = .ok (.astore_n 3, 1) := by decide +kernel
theorem dd_110_13 : decode method_8_code 13 = .ok (.iconst 1, 1) := by decide +kernel
theorem dd_110_14 : decode method_8_code 14 = .ok (.ireturn, 1) := by decide +kernel
theorem dd_110_15 : decode method_8_code 15 = .ok (.astore_n 3, 1) := by decide +kernel
theorem dd_110_16 : decode method_8_code 16 = .ok (.iconst 2, 1) := by decide +kernel
theorem dd_110_17 : decode method_8_code 17 = .ok (.ireturn, 1) := by decide +kernel
theorem dd_110_18 : decode method_8_code 18 = .ok (.iconst 0, 1) := by decide +kernel
theorem dd_110_19 : decode method_8_code 19 = .ok (.ireturn, 1) := by decide +kernel
def mt_110 : Nat → Option mv_S := mt_n 9 (mt_n 3 (mt_n 1 (mt_l 0 (mi_aload 1 2)) (mt_n 2 (mt_l 1 (mi_pure 1 (mo_push (.int 0)))) (mt_l 2 (mi_aload 1 0)))) (mt_n 7 (mt_n 4 (mt_l 3 (mi_iload 1 1)) (mt_l 4 (mi_callV 0 109 2))) (mt_n 8 (mt_l 7 (mi_pure 1 mo_i2l)) (mt_l 8 (mi_last))))) (mt_n 16 (mt_n 13 (mt_l 9 (mi_goto 18)) (mt_n 14 (mt_l 13 (mi_pure 1 (mo_push (.int 1)))) (mt_l 14 (mi_iret)))) (mt_n 18 (mt_n 17 (mt_l 16 (mi_pure 1 (mo_push (.int 2)))) (mt_l 17 (mi_iret))) (mt_n 19 (mt_l 18 (mi_pure 1 (mo_push (.int 0)))) (mt_l 19 (mi_iret)))))
theorem mh_110 {L : Nat} {xs : Nat → Int32} : mv_Hn (mg L xs) 110 4 := by
  have hb : ∀ k, (mg L xs).X 110 4 k = ((bif Nat.beq k 0 then some (some (13, 3)) else (bif Nat.beq k 1 then some (some (16, 3)) else none)) : Option (Option (Nat × Nat))) := fun k => rfl
  refine ⟨fun k pc9 i9 e => ?_, fun k e => ?_⟩ <;> rw [hb] at e
  · cases b0 : Nat.beq k 0 with
    | true =>
      rw [b0, cond_true] at e
      have hk := Nat.eq_of_beq_eq_true b0
      subst hk
      cases e
      exact ⟨[], [(0, 9, 15, 15)], (0, 9, 12, 13), "java/lang/IllegalArgumentException", rfl, (fun z hz => by cases hz), by decide, by decide, hw_251, hw_259, (Nat.le_of_ble_eq_true rfl), Or.inl ⟨3, rfl, dd_110_12, rfl⟩⟩
    | false =>
      rw [b0, cond_false] at e
      cases b1 : Nat.beq k 1 with
      | true =>
        rw [b1, cond_true] at e
        have hk := Nat.eq_of_beq_eq_true b1
        subst hk
        cases e
        exact ⟨[(0, 9, 12, 13)], [], (0, 9, 15, 15), "java/lang/IllegalStateException", rfl, (fun z hz => by
          rcases List.mem_singleton.mp hz with rfl
          exact Or.inr ⟨by decide, "java/lang/IllegalArgumentException", hw_251, mg_pN0⟩), by decide, by decide, hw_252, hw_326, (Nat.le_of_ble_eq_true rfl), Or.inl ⟨3, rfl, dd_110_15, rfl⟩⟩
      | false =>
        rw [b1, cond_false] at e
        cases e
  · cases b0 : Nat.beq k 0 with
    | true =>
      rw [b0, cond_true] at e
      cases e
    | false =>
      rw [b0, cond_false] at e
      cases b1 : Nat.beq k 1 with
      | true =>
        rw [b1, cond_true] at e
        cases e
      | false =>
        rw [b1, cond_false] at e
        cases e
theorem ms_110 (L : Nat) (xs : Nat → Int32) : mt_ok (mg L xs) 110 (mt_110) := mt_ok.n (mt_ok.n (mt_ok.n (mt_ok.l (mn_aload_n (k := 2) dd_110_0 rfl) (mi_aload_mn 1 2)) (mt_ok.n (mt_ok.l (mn_iconst dd_110_1 (by decide)) (mi_pure_mn 1 _)) (mt_ok.l (mn_aload_n (k := 0) dd_110_2 rfl) (mi_aload_mn 1 0)))) (mt_ok.n (mt_ok.n (mt_ok.l (mn_iload_n (k := 1) dd_110_3 rfl) (mi_iload_mn 1 1)) (mt_ok.l (mn_callV (y := 110) (pc := 4) (z := 109) (mg_Ok L xs) (C := "TokenScanner") (T0 := mf_T0) (N := 7) dd_110_4 rfl mh_110 (mc_110_109 L xs) hw_552 hw_553 hw_554 mq_109.1) (mi_callV_mn 0 109 2))) (mt_ok.n (mt_ok.l (mn_i2l dd_110_7) (mi_pure_mn 1 _)) (mt_ok.l (mn_last dd_110_8 rfl) (mi_last_mn))))) (mt_ok.n (mt_ok.n (mt_ok.l (mn_goto dd_110_9 (by decide)) (mi_goto_mn 18)) (mt_ok.n (mt_ok.l (mn_iconst dd_110_13 (by decide)) (mi_pure_mn 1 _)) (mt_ok.l (mn_iret dd_110_14 rfl) (mi_iret_mn)))) (mt_ok.n (mt_ok.n (mt_ok.l (mn_iconst dd_110_16 (by decide)) (mi_pure_mn 1 _)) (mt_ok.l (mn_iret dd_110_17 rfl) (mi_iret_mn))) (mt_ok.n (mt_ok.l (mn_iconst dd_110_18 (by decide)) (mi_pure_mn 1 _)) (mt_ok.l (mn_iret dd_110_19 rfl) (mi_iret_mn)))))
theorem dd_111_0 : decode prog_9_method_37_code 0 = .ok (.iload_n 1, 1) := by decide +kernel
theorem dd_111_1 : decode prog_9_method_37_code 1 = .ok (.ifCond .lt 9, 3) := by decide +kernel
theorem dd_111_4 : decode prog_9_method_37_code 4 = .ok (.iload_n 1, 1) := by decide +kernel
theorem dd_111_5 : decode prog_9_method_37_code 5 = .ok (.bipush 8, 2) := by decide +kernel
theorem dd_111_7 : decode prog_9_method_37_code 7 = .ok (.if_icmp .le 7, 3) := by decide +kernel
theorem dd_111_10 : decode prog_9_method_37_code 10 = .ok (.iconst 1, 1) := by decide +kernel
theorem dd_111_11 : decode prog_9_method_37_code 11 = .ok (.goto 4, 3) := by decide +kernel
theorem dd_111_14 : decode prog_9_method_37_code 14 = .ok (.iconst 0, 1) := by decide +kernel
theorem dd_111_15 : decode prog_9_method_37_code 15 = .ok (.istore_n 2, 1) := by decide +kernel
theorem dd_111_16 : decode prog_9_method_37_code 16 = .ok (.aload_n 0, 1) := by decide +kernel
theorem dd_111_17 : decode prog_9_method_37_code 17 = .ok (.iload_n 2, 1) := by decide +kernel
theorem dd_111_18 : decode prog_9_method_37_code 18 = .ok (.iload_n 2, 1) := by decide +kernel
theorem dd_111_19 : decode prog_9_method_37_code 19 = .ok (.ifCond .ne 14, 3) := by decide +kernel
theorem dd_111_22 : decode prog_9_method_37_code 22 = .ok (.aload_n 0, 1) := by decide +kernel
theorem dd_111_23 : decode prog_9_method_37_code 23 = .ok (.getfield 35, 3) := by decide +kernel
theorem dd_111_26 : decode prog_9_method_37_code 26 = .ok (.ifCond .ne 7, 3) := by decide +kernel
theorem dd_111_29 : decode prog_9_method_37_code 29 = .ok (.iconst 1, 1) := by decide +kernel
theorem dd_111_30 : decode prog_9_method_37_code 30 = .ok (.goto 4, 3) := by decide +kernel
theorem dd_111_33 : decode prog_9_method_37_code 33 = .ok (.iconst 0, 1) := by decide +kernel
theorem dd_111_34 : decode prog_9_method_37_code 34 = .ok (.invokevirtual 42, 3) := by decide +kernel
theorem dd_111_37 : decode prog_9_method_37_code 37 = .ok (.ifCond .eq 5, 3) := by decide +kernel
theorem dd_111_40 : decode prog_9_method_37_code 40 = .ok (.iconst 0, 1) := by decide +kernel
theorem dd_111_41 : decode prog_9_method_37_code 41 = .ok (.ireturn, 1) := by decide +kernel
theorem dd_111_42 : decode prog_9_method_37_code 42 = .ok (.iload_n 1, 1) := by decide +kernel
theorem dd_111_43 : decode prog_9_method_37_code 43 = .ok (.tableswitch 85 0 7 #[45, 50, 55, 60, 65, 70, 75, 80], 45) := by decide +kernel
theorem dd_111_88 : decode prog_9_method_37_code 88 = .ok (.aload_n 0, 1) := by decide +kernel
theorem dd_111_89 : decode prog_9_method_37_code 89 = .ok (.getfield 84, 3) := by decide +kernel
theorem dd_111_92 : decode prog_9_method_37_code 92 = .ok (.ireturn, 1) := by decide +kernel
theorem dd_111_93 : decode prog_9_method_37_code 93 = .ok (.aload_n 0, 1) := by decide +kernel
theorem dd_111_94 : decode prog_9_method_37_code 94 = .ok (.getfield 222, 3) := by decide +kernel
theorem dd_111_97 : decode prog_9_method_37_code 97 = .ok (.ireturn, 1) := by decide +kernel
theorem dd_111_98 : decode prog_9_method_37_code 98 = .ok (.aload_n 0, 1) := by decide +kernel
theorem dd_111_99 : decode prog_9_method_37_code 99 = .ok (.getfield 72, 3) := by decide +kernel
theorem dd_111_102 : decode prog_9_method_37_code 102 = .ok (.ireturn, 1) := by decide +kernel
theorem dd_111_103 : decode prog_9_method_37_code 103 = .ok (.aload_n 0, 1) := by decide +kernel
theorem dd_111_104 : decode prog_9_method_37_code 104 = .ok (.getfield 65, 3) := by decide +kernel
theorem dd_111_107 : decode prog_9_method_37_code 107 = .ok (.ireturn, 1) := by decide +kernel
theorem dd_111_108 : decode prog_9_method_37_code 108 = .ok (.aload_n 0, 1) := by decide +kernel
theorem dd_111_109 : decode prog_9_method_37_code 109 = .ok (.getfield 104, 3) := by decide +kernel
theorem dd_111_112 : decode prog_9_method_37_code 112 = .ok (.ireturn, 1) := by decide +kernel
theorem dd_111_113 : decode prog_9_method_37_code 113 = .ok (.aload_n 0, 1) := by decide +kernel
theorem dd_111_114 : decode prog_9_method_37_code 114 = .ok (.getfield 97, 3) := by decide +kernel
theorem dd_111_117 : decode prog_9_method_37_code 117 = .ok (.ireturn, 1) := by decide +kernel
theorem dd_111_118 : decode prog_9_method_37_code 118 = .ok (.aload_n 0, 1) := by decide +kernel
theorem dd_111_119 : decode prog_9_method_37_code 119 = .ok (.getfield 311, 3) := by decide +kernel
theorem dd_111_122 : decode prog_9_method_37_code 122 = .ok (.ireturn, 1) := by decide +kernel
theorem dd_111_123 : decode prog_9_method_37_code 123 = .ok (.aload_n 0, 1) := by decide +kernel
theorem dd_111_124 : decode prog_9_method_37_code 124 = .ok (.getfield 55, 3) := by decide +kernel
theorem dd_111_127 : decode prog_9_method_37_code 127 = .ok (.ireturn, 1) := by decide +kernel
theorem dd_111_128 : decode prog_9_method_37_code 128 = .ok (.aload_n 0, 1) := by decide +kernel
theorem dd_111_129 : decode prog_9_method_37_code 129 = .ok (.getfield 84, 3) := by decide +kernel
theorem dd_111_132 : decode prog_9_method_37_code 132 = .ok (.iconst 3, 1) := by decide +kernel
theorem dd_111_133 : decode prog_9_method_37_code 133 = .ok (.if_icmp .ne 24, 3) := by decide +kernel
theorem dd_111_136 : decode prog_9_method_37_code 136 = .ok (.aload_n 0, 1) := by decide +kernel
theorem dd_111_137 : decode prog_9_method_37_code 137 = .ok (.getfield 97, 3) := by decide +kernel
theorem dd_111_140 : decode prog_9_method_37_code 140 = .ok (.ifCond .ne 17, 3) := by decide +kernel
theorem dd_111_143 : decode prog_9_method_37_code 143 = .ok (.aload_n 0, 1) := by decide +kernel
theorem dd_111_144 : decode prog_9_method_37_code 144 = .ok (.ldc_w 344, 3) := by decide +kernel
theorem dd_111_147 : decode prog_9_method_37_code 147 = .ok (.invokevirtual 212, 3) := by decide +kernel
theorem dd_111_150 : decode prog_9_method_37_code 150 = .ok (.ifCond .eq 7, 3) := by decide +kernel
theorem dd_111_153 : decode prog_9_method_37_code 153 = .ok (.iconst 1, 1) := by decide +kernel
theorem dd_111_154 : decode prog_9_method_37_code 154 = .ok (.goto 4, 3) := by decide +kernel
theorem dd_111_157 : decode prog_9_method_37_code 157 = .ok (.iconst 0, 1) := by decide +kernel
theorem dd_111_158 : decode prog_9_method_37_code 158 = .ok (.ireturn, 1) := by decide +kernel
def mt_111 : Nat → Option mv_S := mt_n 99 (mt_n 29 (mt_n 15 (mt_n 7 (mt_n 4 (mt_n 1 (mt_l 0 (mi_iload 1 1)) (mt_l 1 (mi_if (fun x : Int32 => x < 0) 10))) (mt_n 5 (mt_l 4 (mi_iload 1 1)) (mt_l 5 (mi_pure 2 (mo_push (.int 8)))))) (mt_n 11 (mt_n 10 (mt_l 7 (mi_icmp (fun x y : Int32 => x ≤ y) 14)) (mt_l 10 (mi_pure 1 (mo_push (.int 1))))) (mt_n 14 (mt_l 11 (mi_goto 15)) (mt_l 14 (mi_pure 1 (mo_push (.int 0))))))) (mt_n 19 (mt_n 17 (mt_n 16 (mt_l 15 (mi_istore 1 2)) (mt_l 16 (mi_aload 1 0))) (mt_n 18 (mt_l 17 (mi_iload 1 2)) (mt_l 18 (mi_iload 1 2)))) (mt_n 23 (mt_n 22 (mt_l 19 (mi_if (fun x : Int32 => ¬ x = 0) 33)) (mt_l 22 (mi_aload 1 0))) (mt_n 26 (mt_l 23 (mi_get 6 3)) (mt_l 26 (mi_if (fun x : Int32 => ¬ x = 0) 33)))))) (mt_n 43 (mt_n 37 (mt_n 33 (mt_n 30 (mt_l 29 (mi_pure 1 (mo_push (.int 1)))) (mt_l 30 (mi_goto 34))) (mt_n 34 (mt_l 33 (mi_pure 1 (mo_push (.int 0)))) (mt_l 34 (mi_callV 6 22 3)))) (mt_n 41 (mt_n 40 (mt_l 37 (mi_if (fun x : Int32 => x = 0) 42)) (mt_l 40 (mi_pure 1 (mo_push (.int 0))))) (mt_n 42 (mt_l 41 (mi_iret)) (mt_l 42 (mi_iload 1 1))))) (mt_n 93 (mt_n 89 (mt_n 88 (mt_l 43 (mi_sw [(0, 88), (1, 93), (2, 98), (3, 103), (4, 108), (5, 113), (6, 118), (7, 123)] 128)) (mt_l 88 (mi_aload 1 0))) (mt_n 92 (mt_l 89 (mi_get 6 7)) (mt_l 92 (mi_iret)))) (mt_n 97 (mt_n 94 (mt_l 93 (mi_aload 1 0)) (mt_l 94 (mi_get 6 8))) (mt_n 98 (mt_l 97 (mi_iret)) (mt_l 98 (mi_aload 1 0))))))) (mt_n 127 (mt_n 113 (mt_n 107 (mt_n 103 (mt_n 102 (mt_l 99 (mi_get 6 6)) (mt_l 102 (mi_iret))) (mt_n 104 (mt_l 103 (mi_aload 1 0)) (mt_l 104 (mi_get 6 9)))) (mt_n 109 (mt_n 108 (mt_l 107 (mi_iret)) (mt_l 108 (mi_aload 1 0))) (mt_n 112 (mt_l 109 (mi_get 6 10)) (mt_l 112 (mi_iret))))) (mt_n 119 (mt_n 117 (mt_n 114 (mt_l 113 (mi_aload 1 0)) (mt_l 114 (mi_get 6 11))) (mt_n 118 (mt_l 117 (mi_iret)) (mt_l 118 (mi_aload 1 0)))) (mt_n 123 (mt_n 122 (mt_l 119 (mi_get 6 12)) (mt_l 122 (mi_iret))) (mt_n 124 (mt_l 123 (mi_aload 1 0)) (mt_l 124 (mi_get 6 14)))))) (mt_n 143 (mt_n 133 (mt_n 129 (mt_n 128 (mt_l 127 (mi_iret)) (mt_l 128 (mi_aload 1 0))) (mt_n 132 (mt_l 129 (mi_get 6 7)) (mt_l 132 (mi_pure 1 (mo_push (.int 3)))))) (mt_n 137 (mt_n 136 (mt_l 133 (mi_icmp (fun x y : Int32 => ¬ x = y) 157)) (mt_l 136 (mi_aload 1 0))) (mt_n 140 (mt_l 137 (mi_get 6 11)) (mt_l 140 (mi_if (fun x : Int32 => ¬ x = 0) 157))))) (mt_n 153 (mt_n 147 (mt_n 144 (mt_l 143 (mi_aload 1 0)) (mt_l 144 (mi_pure 3 (mo_push (.retAddr 100))))) (mt_n 150 (mt_l 147 (mi_callV 6 79 2)) (mt_l 150 (mi_if (fun x : Int32 => x = 0) 157)))) (mt_n 157 (mt_n 154 (mt_l 153 (mi_pure 1 (mo_push (.int 1)))) (mt_l 154 (mi_goto 158))) (mt_n 158 (mt_l 157 (mi_pure 1 (mo_push (.int 0)))) (mt_l 158 (mi_iret)))))))
theorem ms_111 (L : Nat) (xs : Nat → Int32) : mt_ok (mg L xs) 111 (mt_111) := mt_ok.n (mt_ok.n (mt_ok.n (mt_ok.n (mt_ok.n (mt_ok.n (mt_ok.l (mn_iload_n (k := 1) dd_111_0 rfl) (mi_iload_mn 1 1)) (mt_ok.l (mn_if_lt dd_111_1 (by decide)) (mi_if_mn _ _))) (mt_ok.n (mt_ok.l (mn_iload_n (k := 1) dd_111_4 rfl) (mi_iload_mn 1 1)) (mt_ok.l (mn_bipush dd_111_5 (by decide)) (mi_pure_mn 2 _)))) (mt_ok.n (mt_ok.n (mt_ok.l (mn_icmp_le dd_111_7 (by decide)) (mi_icmp_mn _ _)) (mt_ok.l (mn_iconst dd_111_10 (by decide)) (mi_pure_mn 1 _))) (mt_ok.n (mt_ok.l (mn_goto dd_111_11 (by decide)) (mi_goto_mn 15)) (mt_ok.l (mn_iconst dd_111_14 (by decide)) (mi_pure_mn 1 _))))) (mt_ok.n (mt_ok.n (mt_ok.n (mt_ok.l (mn_istore_n (k := 2) dd_111_15 rfl (Nat.le_of_ble_eq_true rfl)) (mi_istore_mn 1 2)) (mt_ok.l (mn_aload_n (k := 0) dd_111_16 rfl) (mi_aload_mn 1 0))) (mt_ok.n (mt_ok.l (mn_iload_n (k := 2) dd_111_17 rfl) (mi_iload_mn 1 2)) (mt_ok.l (mn_iload_n (k := 2) dd_111_18 rfl) (mi_iload_mn 1 2)))) (mt_ok.n (mt_ok.n (mt_ok.l (mn_if_ne dd_111_19 (by decide)) (mi_if_mn _ _)) (mt_ok.l (mn_aload_n (k := 0) dd_111_22 rfl) (mi_aload_mn 1 0))) (mt_ok.n (mt_ok.l (mn_get (C := "TokenScannerModel") (T := mf_T6) (N := 21) dd_111_23 rfl (Nat.le_of_ble_eq_true rfl) mf_i6 hw_670) (mi_get_mn 6 3)) (mt_ok.l (mn_if_ne dd_111_26 (by decide)) (mi_if_mn _ _)))))) (mt_ok.n (mt_ok.n (mt_ok.n (mt_ok.n (mt_ok.l (mn_iconst dd_111_29 (by decide)) (mi_pure_mn 1 _)) (mt_ok.l (mn_goto dd_111_30 (by decide)) (mi_goto_mn 34))) (mt_ok.n (mt_ok.l (mn_iconst dd_111_33 (by decide)) (mi_pure_mn 1 _)) (mt_ok.l (mn_callV (y := 111) (pc := 34) (z := 22) (mg_Ok L xs) (C := "TokenScannerModel") (T0 := mf_T6) (N := 21) dd_111_34 rfl (mv_Hn.none rfl (fun _ => rfl)) (mc_111_22 L xs) hw_739 hw_741 hs_26 mq_22.1) (mi_callV_mn 6 22 3)))) (mt_ok.n (mt_ok.n (mt_ok.l (mn_if_eq dd_111_37 (by decide)) (mi_if_mn _ _)) (mt_ok.l (mn_iconst dd_111_40 (by decide)) (mi_pure_mn 1 _))) (mt_ok.n (mt_ok.l (mn_iret dd_111_41 rfl) (mi_iret_mn)) (mt_ok.l (mn_iload_n (k := 1) dd_111_42 rfl) (mi_iload_mn 1 1))))) (mt_ok.n (mt_ok.n (mt_ok.n (mt_ok.l (mn_table dd_111_43 (by decide) (by decide) (by decide)) (mi_sw_mn _ _)) (mt_ok.l (mn_aload_n (k := 0) dd_111_88 rfl) (mi_aload_mn 1 0))) (mt_ok.n (mt_ok.l (mn_get (C := "TokenScannerModel") (T := mf_T6) (N := 21) dd_111_89 rfl (Nat.le_of_ble_eq_true rfl) mf_i6 hw_674) (mi_get_mn 6 7)) (mt_ok.l (mn_iret dd_111_92 rfl) (mi_iret_mn)))) (mt_ok.n (mt_ok.n (mt_ok.l (mn_aload_n (k := 0) dd_111_93 rfl) (mi_aload_mn 1 0)) (mt_ok.l (mn_get (C := "TokenScannerModel") (T := mf_T6) (N := 21) dd_111_94 rfl (Nat.le_of_ble_eq_true rfl) mf_i6 hw_675) (mi_get_mn 6 8))) (mt_ok.n (mt_ok.l (mn_iret dd_111_97 rfl) (mi_iret_mn)) (mt_ok.l (mn_aload_n (k := 0) dd_111_98 rfl) (mi_aload_mn 1 0))))))) (mt_ok.n (mt_ok.n (mt_ok.n (mt_ok.n (mt_ok.n (mt_ok.l (mn_get (C := "TokenScannerModel") (T := mf_T6) (N := 21) dd_111_99 rfl (Nat.le_of_ble_eq_true rfl) mf_i6 hw_673) (mi_get_mn 6 6)) (mt_ok.l (mn_iret dd_111_102 rfl) (mi_iret_mn))) (mt_ok.n (mt_ok.l (mn_aload_n (k := 0) dd_111_103 rfl) (mi_aload_mn 1 0)) (mt_ok.l (mn_get (C := "TokenScannerModel") (T := mf_T6) (N := 21) dd_111_104 rfl (Nat.le_of_ble_eq_true rfl) mf_i6 hw_676) (mi_get_mn 6 9)))) (mt_ok.n (mt_ok.n (mt_ok.l (mn_iret dd_111_107 rfl) (mi_iret_mn)) (mt_ok.l (mn_aload_n (k := 0) dd_111_108 rfl) (mi_aload_mn 1 0))) (mt_ok.n (mt_ok.l (mn_get (C := "TokenScannerModel") (T := mf_T6) (N := 21) dd_111_109 rfl (Nat.le_of_ble_eq_true rfl) mf_i6 hw_677) (mi_get_mn 6 10)) (mt_ok.l (mn_iret dd_111_112 rfl) (mi_iret_mn))))) (mt_ok.n (mt_ok.n (mt_ok.n (mt_ok.l (mn_aload_n (k := 0) dd_111_113 rfl) (mi_aload_mn 1 0)) (mt_ok.l (mn_get (C := "TokenScannerModel") (T := mf_T6) (N := 21) dd_111_114 rfl (Nat.le_of_ble_eq_true rfl) mf_i6 hw_678) (mi_get_mn 6 11))) (mt_ok.n (mt_ok.l (mn_iret dd_111_117 rfl) (mi_iret_mn)) (mt_ok.l (mn_aload_n (k := 0) dd_111_118 rfl) (mi_aload_mn 1 0)))) (mt_ok.n (mt_ok.n (mt_ok.l (mn_get (C := "TokenScannerModel") (T := mf_T6) (N := 21) dd_111_119 rfl (Nat.le_of_ble_eq_true rfl) mf_i6 hw_679) (mi_get_mn 6 12)) (mt_ok.l (mn_iret dd_111_122 rfl) (mi_iret_mn))) (mt_ok.n (mt_ok.l (mn_aload_n (k := 0) dd_111_123 rfl) (mi_aload_mn 1 0)) (mt_ok.l (mn_get (C := "TokenScannerModel") (T := mf_T6) (N := 21) dd_111_124 rfl (Nat.le_of_ble_eq_true rfl) mf_i6 hw_681) (mi_get_mn 6 14)))))) (mt_ok.n (mt_ok.n (mt_ok.n (mt_ok.n (mt_ok.l (mn_iret dd_111_127 rfl) (mi_iret_mn)) (mt_ok.l (mn_aload_n (k := 0) dd_111_128 rfl) (mi_aload_mn 1 0))) (mt_ok.n (mt_ok.l (mn_get (C := "TokenScannerModel") (T := mf_T6) (N := 21) dd_111_129 rfl (Nat.le_of_ble_eq_true rfl) mf_i6 hw_674) (mi_get_mn 6 7)) (mt_ok.l (mn_iconst dd_111_132 (by decide)) (mi_pure_mn 1 _)))) (mt_ok.n (mt_ok.n (mt_ok.l (mn_icmp_ne dd_111_133 (by decide)) (mi_icmp_mn _ _)) (mt_ok.l (mn_aload_n (k := 0) dd_111_136 rfl) (mi_aload_mn 1 0))) (mt_ok.n (mt_ok.l (mn_get (C := "TokenScannerModel") (T := mf_T6) (N := 21) dd_111_137 rfl (Nat.le_of_ble_eq_true rfl) mf_i6 hw_678) (mi_get_mn 6 11)) (mt_ok.l (mn_if_ne dd_111_140 (by decide)) (mi_if_mn _ _))))) (mt_ok.n (mt_ok.n (mt_ok.n (mt_ok.l (mn_aload_n (k := 0) dd_111_143 rfl) (mi_aload_mn 1 0)) (mt_ok.l (mn_ldcW (tx := ms_txt 100) dd_111_144 (mg_pR 100 (by decide))) (mi_pure_mn 3 _))) (mt_ok.n (mt_ok.l (mn_callV (y := 111) (pc := 147) (z := 79) (mg_Ok L xs) (C := "TokenScannerModel") (T0 := mf_T6) (N := 21) dd_111_147 rfl (mv_Hn.none rfl (fun _ => rfl)) (mc_111_79 L xs) hw_852 hw_854 hs_37 mq_79.1) (mi_callV_mn 6 79 2)) (mt_ok.l (mn_if_eq dd_111_150 (by decide)) (mi_if_mn _ _)))) (mt_ok.n (mt_ok.n (mt_ok.l (mn_iconst dd_111_153 (by decide)) (mi_pure_mn 1 _)) (mt_ok.l (mn_goto dd_111_154 (by decide)) (mi_goto_mn 158))) (mt_ok.n (mt_ok.l (mn_iconst dd_111_157 (by decide)) (mi_pure_mn 1 _)) (mt_ok.l (mn_iret dd_111_158 rfl) (mi_iret_mn)))))))
theorem dd_112_0 : decode prog_1_method_9_code 0 = .ok (.aload_n 0, 1) := by decide +kernel
theorem dd_112_1 : decode prog_1_method_9_code 1 = .ok (.getfield 44, 3) := by decide +kernel
theorem dd_112_4 : decode prog_1_method_9_code 4 = .ok (.ifCond .ne 13, 3) := by decide +kernel
theorem dd_112_7 : decode prog_1_method_9_code 7 = .ok (.new 59, 3) := by decide +kernel
theorem dd_112_10 : decode prog_1_method_9_code 10 = .ok (.dup, 1) := by decide +kernel
theorem dd_112_11 : decode prog_1_method_9_code 11 = .ok (.ldc 105, 2) := by decide +kernel
theorem dd_112_13 : decode prog_1_method_9_code 13 = .ok (.invokespecial 63, 3) := by decide +kernel
theorem dd_112_16 : decode prog_1_method_9_code 16 = .ok (.athrow, 1) := by decide +kernel
theorem dd_112_17 : decode prog_1_method_9_code 17 = .ok (.iload_n 1, 1) := by decide +kernel
theorem dd_112_18 : decode prog_1_method_9_code 18 = .ok (.ifCond .lt 14, 3) := by decide +kernel
theorem dd_112_21 : decode prog_1_method_9_code 21 = .ok (.iload_n 1, 1) := by decide +kernel
theorem dd_112_22 : decode prog_1_method_9_code 22 = .ok (.aload_n 0, 1) := by decide +kernel
theorem dd_112_23 : decode prog_1_method_9_code 23 = .ok (.getfield 19, 3) := by decide +kernel
theorem dd_112_26 : decode prog_1_method_9_code 26 = .ok (.getfield 130, 3) := by decide +kernel
theorem dd_112_29 : decode prog_1_method_9_code 29 = .ok (.if_icmp .lt 13, 3) := by decide +kernel
theorem dd_112_32 : decode prog_1_method_9_code 32 = .ok (.new 135, 3) := by decide +kernel
theorem dd_112_35 : decode prog_1_method_9_code 35 = .ok (.dup, 1) := by decide +kernel
theorem dd_112_36 : decode prog_1_method_9_code 36 = .ok (.ldc 137, 2) := by decide +kernel
theorem dd_112_38 : decode prog_1_method_9_code 38 = .ok (.invokespecial 139, 3) := by decide +kernel
theorem dd_112_41 : decode prog_1_method_9_code 41 = .ok (.athrow, 1) := by decide +kernel
theorem dd_112_42 : decode prog_1_method_9_code 42 = .ok (.aload_n 0, 1) := by decide +kernel
theorem dd_112_43 : decode prog_1_method_9_code 43 = .ok (.getfield 19, 3) := by decide +kernel
theorem dd_112_46 : decode prog_1_method_9_code 46 = .ok (.getfield 140, 3) := by decide +kernel
theorem dd_112_49 : decode prog_1_method_9_code 49 = .ok (.iload_n 1, 1) := by decide +kernel
theorem dd_112_50 : decode prog_1_method_9_code 50 = .ok (.iaload, 1) := by decide +kernel
theorem dd_112_51 : decode prog_1_method_9_code 51 = .ok (.ireturn, 1) := by decide +kernel
def mt_112 : Nat → Option mv_S := mt_n 26 (mt_n 17 (mt_n 4 (mt_n 1 (mt_l 0 (mi_aload 1 0)) (mt_l 1 (mi_get 0 5))) (mt_n 7 (mt_l 4 (mi_if (fun x : Int32 => ¬ x = 0) 17)) (mt_l 7 (mi_throw 1)))) (mt_n 21 (mt_n 18 (mt_l 17 (mi_iload 1 1)) (mt_l 18 (mi_if (fun x : Int32 => x < 0) 32))) (mt_n 22 (mt_l 21 (mi_iload 1 1)) (mt_n 23 (mt_l 22 (mi_aload 1 0)) (mt_l 23 (mi_get 0 1)))))) (mt_n 43 (mt_n 32 (mt_n 29 (mt_l 26 (mi_get 2 8)) (mt_l 29 (mi_icmp (fun x y : Int32 => x < y) 42))) (mt_n 42 (mt_l 32 (mi_throw 2)) (mt_l 42 (mi_aload 1 0)))) (mt_n 49 (mt_n 46 (mt_l 43 (mi_get 0 1)) (mt_l 46 (mi_get 2 7))) (mt_n 50 (mt_l 49 (mi_iload 1 1)) (mt_n 51 (mt_l 50 (mi_iald)) (mt_l 51 (mi_iret))))))
theorem ms_112 (L : Nat) (xs : Nat → Int32) : mt_ok (mg L xs) 112 (mt_112) := mt_ok.n (mt_ok.n (mt_ok.n (mt_ok.n (mt_ok.l (mn_aload_n (k := 0) dd_112_0 rfl) (mi_aload_mn 1 0)) (mt_ok.l (mn_get (C := "TokenScanner") (T := mf_T0) (N := 7) dd_112_1 rfl (Nat.le_of_ble_eq_true rfl) mf_i0 hw_227) (mi_get_mn 0 5))) (mt_ok.n (mt_ok.l (mn_if_ne dd_112_4 (by decide)) (mi_if_mn _ _)) (mt_ok.l (mn_throw (y := 112) (pc := 7) (k := 1) (mg_Ok L xs) (ik := 59) (is := 105) (ic := 63) (sk := 8) (text := ms_txt 8) (names := ["java/lang/RuntimeException", "java/lang/Exception"]) dd_112_7 dd_112_10 dd_112_11 dd_112_13 dd_112_16 mg_ft1 mg_ftn hw_324 hw_19 (mg_pR 8 (by decide)) ha_63_1 mg_pX rfl (Nat.le_of_ble_eq_true rfl) (Nat.le_of_ble_eq_true rfl)) (mi_throw_mn 1)))) (mt_ok.n (mt_ok.n (mt_ok.l (mn_iload_n (k := 1) dd_112_17 rfl) (mi_iload_mn 1 1)) (mt_ok.l (mn_if_lt dd_112_18 (by decide)) (mi_if_mn _ _))) (mt_ok.n (mt_ok.l (mn_iload_n (k := 1) dd_112_21 rfl) (mi_iload_mn 1 1)) (mt_ok.n (mt_ok.l (mn_aload_n (k := 0) dd_112_22 rfl) (mi_aload_mn 1 0)) (mt_ok.l (mn_get (C := "TokenScanner") (T := mf_T0) (N := 7) dd_112_23 rfl (Nat.le_of_ble_eq_true rfl) mf_i0 hw_223) (mi_get_mn 0 1)))))) (mt_ok.n (mt_ok.n (mt_ok.n (mt_ok.l (mn_getN (C := "TokenScanner$Token") (T := mf_T2) (N := 9) dd_112_26 rfl (Nat.le_of_ble_eq_true rfl) mf_i2 hw_76) (mi_get_mn 2 8)) (mt_ok.l (mn_icmp_lt dd_112_29 (by decide)) (mi_icmp_mn _ _))) (mt_ok.n (mt_ok.l (mn_throw (y := 112) (pc := 32) (k := 2) (mg_Ok L xs) (ik := 135) (is := 137) (ic := 139) (sk := 11) (text := ms_txt 11) (names := ["java/lang/RuntimeException", "java/lang/Exception"]) dd_112_32 dd_112_35 dd_112_36 dd_112_38 dd_112_41 mg_ft2 mg_ftn hw_575 hw_21 (mg_pR 11 (by decide)) ha_139_2 mg_pX rfl (Nat.le_of_ble_eq_true rfl) (Nat.le_of_ble_eq_true rfl)) (mi_throw_mn 2)) (mt_ok.l (mn_aload_n (k := 0) dd_112_42 rfl) (mi_aload_mn 1 0)))) (mt_ok.n (mt_ok.n (mt_ok.l (mn_get (C := "TokenScanner") (T := mf_T0) (N := 7) dd_112_43 rfl (Nat.le_of_ble_eq_true rfl) mf_i0 hw_223) (mi_get_mn 0 1)) (mt_ok.l (mn_getN (C := "TokenScanner$Token") (T := mf_T2) (N := 9) dd_112_46 rfl (Nat.le_of_ble_eq_true rfl) mf_i2 hw_73) (mi_get_mn 2 7))) (mt_ok.n (mt_ok.l (mn_iload_n (k := 1) dd_112_49 rfl) (mi_iload_mn 1 1)) (mt_ok.n (mt_ok.l (mn_iald dd_112_50 rfl) (mi_iald_mn)) (mt_ok.l (mn_iret dd_112_51 rfl) (mi_iret_mn))))))
theorem dd_113_0 : decode method_9_code 0 = .ok (.aload_n 2, 1) := by decide +kernel
theorem dd_113_1 : decode method_9_code 1 = .ok (.iconst 0, 1) := by decide +kernel
theorem dd_113_2 : decode method_9_code 2 = .ok (.aload_n 0, 1) := by decide +kernel
theorem dd_113_3 : decode method_9_code 3 = .ok (.iload_n 1, 1) := by decide +kernel
theorem dd_113_4 : decode method_9_code 4 = .ok (.invokevirtual 34, 3) := by decide +kernel
theorem dd_113_7 : decode method_9_code 7 = .ok (.i2l, 1) := by decide +kernel
theorem dd_113_8 : decode method_9_code 8 = .ok (.lastore, 1) := by decide +kernel
theorem dd_113_9 : decode method_9_code 9 = .ok (.goto 9, 3) := by decide +kernel
theorem dd_113_12 : decode method_9_code 12 = .ok (.astore_n 3, 1) := by decide +kernel
theorem dd_113_13 : decode method_9_code 13 = .ok (.iconst 1, 1) := by decide +kernel
theorem dd_113_14 : decode method_9_code 14 = .ok (.ireturn, 1) := by decide +kernel
theorem dd_113_15 : decode method_9_code 15 = .ok (.astore_n 3, 1) := by decide +kernel
theorem dd_113_16 : decode method_9_code 16 = .ok (.iconst 2, 1) := by decide +kernel
theorem dd_113_17 : decode method_9_code 17 = .ok (.ireturn, 1) := by decide +kernel
theorem dd_113_18 : decode method_9_code 18 = .ok (.iconst 0, 1) := by decide +kernel
theorem dd_113_19 : decode method_9_code 19 = .ok (.ireturn, 1) := by decide +kernel
def mt_113 : Nat → Option mv_S := mt_n 9 (mt_n 3 (mt_n 1 (mt_l 0 (mi_aload 1 2)) (mt_n 2 (mt_l 1 (mi_pure 1 (mo_push (.int 0)))) (mt_l 2 (mi_aload 1 0)))) (mt_n 7 (mt_n 4 (mt_l 3 (mi_iload 1 1)) (mt_l 4 (mi_callV 0 112 2))) (mt_n 8 (mt_l 7 (mi_pure 1 mo_i2l)) (mt_l 8 (mi_last))))) (mt_n 16 (mt_n 13 (mt_l 9 (mi_goto 18)) (mt_n 14 (mt_l 13 (mi_pure 1 (mo_push (.int 1)))) (mt_l 14 (mi_iret)))) (mt_n 18 (mt_n 17 (mt_l 16 (mi_pure 1 (mo_push (.int 2)))) (mt_l 17 (mi_iret))) (mt_n 19 (mt_l 18 (mi_pure 1 (mo_push (.int 0)))) (mt_l 19 (mi_iret)))))
theorem mh_113 {L : Nat} {xs : Nat → Int32} : mv_Hn (mg L xs) 113 4 := by
  have hb : ∀ k, (mg L xs).X 113 4 k = ((bif Nat.beq k 1 then some (some (13, 3)) else (bif Nat.beq k 2 then some (some (16, 3)) else none)) : Option (Option (Nat × Nat))) := fun k => rfl
  refine ⟨fun k pc9 i9 e => ?_, fun k e => ?_⟩ <;> rw [hb] at e
  · cases b1 : Nat.beq k 1 with
    | true =>
      rw [b1, cond_true] at e
      have hk := Nat.eq_of_beq_eq_true b1
      subst hk
      cases e
      exact ⟨[], [(0, 9, 15, 37)], (0, 9, 12, 15), "java/lang/IllegalStateException", rfl, (fun z hz => by cases hz), by decide, by decide, hw_252, hw_326, (Nat.le_of_ble_eq_true rfl), Or.inl ⟨3, rfl, dd_113_12, rfl⟩⟩
    | false =>
      rw [b1, cond_false] at e
      cases b2 : Nat.beq k 2 with
      | true =>
        rw [b2, cond_true] at e
        have hk := Nat.eq_of_beq_eq_true b2
        subst hk
        cases e
        exact ⟨[(0, 9, 12, 15)], [], (0, 9, 15, 37), "java/lang/IndexOutOfBoundsException", rfl, (fun z hz => by
          rcases List.mem_singleton.mp hz with rfl
          exact Or.inr ⟨by decide, "java/lang/IllegalStateException", hw_252, mg_pN1⟩), by decide, by decide, hw_570, hw_577, (Nat.le_of_ble_eq_true rfl), Or.inl ⟨3, rfl, dd_113_15, rfl⟩⟩
      | false =>
        rw [b2, cond_false] at e
        cases e
  · cases b1 : Nat.beq k 1 with
    | true =>
      rw [b1, cond_true] at e
      cases e
    | false =>
      rw [b1, cond_false] at e
      cases b2 : Nat.beq k 2 with
      | true =>
        rw [b2, cond_true] at e
        cases e
      | false =>
        rw [b2, cond_false] at e
        cases e
theorem ms_113 (L : Nat) (xs : Nat → Int32) : mt_ok (mg L xs) 113 (mt_113) := mt_ok.n (mt_ok.n (mt_ok.n (mt_ok.l (mn_aload_n (k := 2) dd_113_0 rfl) (mi_aload_mn 1 2)) (mt_ok.n (mt_ok.l (mn_iconst dd_113_1 (by decide)) (mi_pure_mn 1 _)) (mt_ok.l (mn_aload_n (k := 0) dd_113_2 rfl) (mi_aload_mn 1 0)))) (mt_ok.n (mt_ok.n (mt_ok.l (mn_iload_n (k := 1) dd_113_3 rfl) (mi_iload_mn 1 1)) (mt_ok.l (mn_callV (y := 113) (pc := 4) (z := 112) (mg_Ok L xs) (C := "TokenScanner") (T0 := mf_T0) (N := 7) dd_113_4 rfl mh_113 (mc_113_112 L xs) hw_571 hw_572 hw_573 mq_112.1) (mi_callV_mn 0 112 2))) (mt_ok.n (mt_ok.l (mn_i2l dd_113_7) (mi_pure_mn 1 _)) (mt_ok.l (mn_last dd_113_8 rfl) (mi_last_mn))))) (mt_ok.n (mt_ok.n (mt_ok.l (mn_goto dd_113_9 (by decide)) (mi_goto_mn 18)) (mt_ok.n (mt_ok.l (mn_iconst dd_113_13 (by decide)) (mi_pure_mn 1 _)) (mt_ok.l (mn_iret dd_113_14 rfl) (mi_iret_mn)))) (mt_ok.n (mt_ok.n (mt_ok.l (mn_iconst dd_113_16 (by decide)) (mi_pure_mn 1 _)) (mt_ok.l (mn_iret dd_113_17 rfl) (mi_iret_mn))) (mt_ok.n (mt_ok.l (mn_iconst dd_113_18 (by decide)) (mi_pure_mn 1 _)) (mt_ok.l (mn_iret dd_113_19 rfl) (mi_iret_mn)))))
theorem dd_114_0 : decode prog_9_method_38_code 0 = .ok (.aload_n 0, 1) := by decide +kernel
theorem dd_114_1 : decode prog_9_method_38_code 1 = .ok (.aload_n 0, 1) := by decide +kernel
theorem dd_114_2 : decode prog_9_method_38_code 2 = .ok (.getfield 35, 3) := by decide +kernel
theorem dd_114_5 : decode prog_9_method_38_code 5 = .ok (.ifCond .ne 7, 3) := by decide +kernel
theorem dd_114_8 : decode prog_9_method_38_code 8 = .ok (.iconst 1, 1) := by decide +kernel
theorem dd_114_9 : decode prog_9_method_38_code 9 = .ok (.goto 4, 3) := by decide +kernel
theorem dd_114_12 : decode prog_9_method_38_code 12 = .ok (.iconst 0, 1) := by decide +kernel
theorem dd_114_13 : decode prog_9_method_38_code 13 = .ok (.aload_n 0, 1) := by decide +kernel
theorem dd_114_14 : decode prog_9_method_38_code 14 = .ok (.getfield 35, 3) := by decide +kernel
theorem dd_114_17 : decode prog_9_method_38_code 17 = .ok (.ifCond .eq 19, 3) := by decide +kernel
theorem dd_114_20 : decode prog_9_method_38_code 20 = .ok (.iload_n 1, 1) := by decide +kernel
theorem dd_114_21 : decode prog_9_method_38_code 21 = .ok (.ifCond .lt 11, 3) := by decide +kernel
theorem dd_114_24 : decode prog_9_method_38_code 24 = .ok (.iload_n 1, 1) := by decide +kernel
theorem dd_114_25 : decode prog_9_method_38_code 25 = .ok (.aload_n 0, 1) := by decide +kernel
theorem dd_114_26 : decode prog_9_method_38_code 26 = .ok (.getfield 55, 3) := by decide +kernel
theorem dd_114_29 : decode prog_9_method_38_code 29 = .ok (.if_icmp .lt 7, 3) := by decide +kernel
theorem dd_114_32 : decode prog_9_method_38_code 32 = .ok (.iconst 1, 1) := by decide +kernel
theorem dd_114_33 : decode prog_9_method_38_code 33 = .ok (.goto 4, 3) := by decide +kernel
theorem dd_114_36 : decode prog_9_method_38_code 36 = .ok (.iconst 0, 1) := by decide +kernel
theorem dd_114_37 : decode prog_9_method_38_code 37 = .ok (.invokevirtual 42, 3) := by decide +kernel
theorem dd_114_40 : decode prog_9_method_38_code 40 = .ok (.ifCond .eq 5, 3) := by decide +kernel
theorem dd_114_43 : decode prog_9_method_38_code 43 = .ok (.iconst 0, 1) := by decide +kernel
theorem dd_114_44 : decode prog_9_method_38_code 44 = .ok (.ireturn, 1) := by decide +kernel
theorem dd_114_45 : decode prog_9_method_38_code 45 = .ok (.aload_n 0, 1) := by decide +kernel
theorem dd_114_46 : decode prog_9_method_38_code 46 = .ok (.getfield 17, 3) := by decide +kernel
theorem dd_114_49 : decode prog_9_method_38_code 49 = .ok (.iload_n 1, 1) := by decide +kernel
theorem dd_114_50 : decode prog_9_method_38_code 50 = .ok (.iaload, 1) := by decide +kernel
theorem dd_114_51 : decode prog_9_method_38_code 51 = .ok (.ireturn, 1) := by decide +kernel
def mt_114 : Nat → Option mv_S := mt_n 26 (mt_n 13 (mt_n 5 (mt_n 1 (mt_l 0 (mi_aload 1 0)) (mt_n 2 (mt_l 1 (mi_aload 1 0)) (mt_l 2 (mi_get 6 3)))) (mt_n 9 (mt_n 8 (mt_l 5 (mi_if (fun x : Int32 => ¬ x = 0) 12)) (mt_l 8 (mi_pure 1 (mo_push (.int 1))))) (mt_n 12 (mt_l 9 (mi_goto 13)) (mt_l 12 (mi_pure 1 (mo_push (.int 0))))))) (mt_n 20 (mt_n 14 (mt_l 13 (mi_aload 1 0)) (mt_n 17 (mt_l 14 (mi_get 6 3)) (mt_l 17 (mi_if (fun x : Int32 => x = 0) 36)))) (mt_n 24 (mt_n 21 (mt_l 20 (mi_iload 1 1)) (mt_l 21 (mi_if (fun x : Int32 => x < 0) 32))) (mt_n 25 (mt_l 24 (mi_iload 1 1)) (mt_l 25 (mi_aload 1 0)))))) (mt_n 43 (mt_n 33 (mt_n 29 (mt_l 26 (mi_get 6 14)) (mt_n 32 (mt_l 29 (mi_icmp (fun x y : Int32 => x < y) 36)) (mt_l 32 (mi_pure 1 (mo_push (.int 1)))))) (mt_n 37 (mt_n 36 (mt_l 33 (mi_goto 37)) (mt_l 36 (mi_pure 1 (mo_push (.int 0))))) (mt_n 40 (mt_l 37 (mi_callV 6 22 3)) (mt_l 40 (mi_if (fun x : Int32 => x = 0) 45))))) (mt_n 46 (mt_n 44 (mt_l 43 (mi_pure 1 (mo_push (.int 0)))) (mt_n 45 (mt_l 44 (mi_iret)) (mt_l 45 (mi_aload 1 0)))) (mt_n 50 (mt_n 49 (mt_l 46 (mi_get 6 13)) (mt_l 49 (mi_iload 1 1))) (mt_n 51 (mt_l 50 (mi_iald)) (mt_l 51 (mi_iret))))))
theorem ms_114 (L : Nat) (xs : Nat → Int32) : mt_ok (mg L xs) 114 (mt_114) := mt_ok.n (mt_ok.n (mt_ok.n (mt_ok.n (mt_ok.l (mn_aload_n (k := 0) dd_114_0 rfl) (mi_aload_mn 1 0)) (mt_ok.n (mt_ok.l (mn_aload_n (k := 0) dd_114_1 rfl) (mi_aload_mn 1 0)) (mt_ok.l (mn_get (C := "TokenScannerModel") (T := mf_T6) (N := 21) dd_114_2 rfl (Nat.le_of_ble_eq_true rfl) mf_i6 hw_670) (mi_get_mn 6 3)))) (mt_ok.n (mt_ok.n (mt_ok.l (mn_if_ne dd_114_5 (by decide)) (mi_if_mn _ _)) (mt_ok.l (mn_iconst dd_114_8 (by decide)) (mi_pure_mn 1 _))) (mt_ok.n (mt_ok.l (mn_goto dd_114_9 (by decide)) (mi_goto_mn 13)) (mt_ok.l (mn_iconst dd_114_12 (by decide)) (mi_pure_mn 1 _))))) (mt_ok.n (mt_ok.n (mt_ok.l (mn_aload_n (k := 0) dd_114_13 rfl) (mi_aload_mn 1 0)) (mt_ok.n (mt_ok.l (mn_get (C := "TokenScannerModel") (T := mf_T6) (N := 21) dd_114_14 rfl (Nat.le_of_ble_eq_true rfl) mf_i6 hw_670) (mi_get_mn 6 3)) (mt_ok.l (mn_if_eq dd_114_17 (by decide)) (mi_if_mn _ _)))) (mt_ok.n (mt_ok.n (mt_ok.l (mn_iload_n (k := 1) dd_114_20 rfl) (mi_iload_mn 1 1)) (mt_ok.l (mn_if_lt dd_114_21 (by decide)) (mi_if_mn _ _))) (mt_ok.n (mt_ok.l (mn_iload_n (k := 1) dd_114_24 rfl) (mi_iload_mn 1 1)) (mt_ok.l (mn_aload_n (k := 0) dd_114_25 rfl) (mi_aload_mn 1 0)))))) (mt_ok.n (mt_ok.n (mt_ok.n (mt_ok.l (mn_get (C := "TokenScannerModel") (T := mf_T6) (N := 21) dd_114_26 rfl (Nat.le_of_ble_eq_true rfl) mf_i6 hw_681) (mi_get_mn 6 14)) (mt_ok.n (mt_ok.l (mn_icmp_lt dd_114_29 (by decide)) (mi_icmp_mn _ _)) (mt_ok.l (mn_iconst dd_114_32 (by decide)) (mi_pure_mn 1 _)))) (mt_ok.n (mt_ok.n (mt_ok.l (mn_goto dd_114_33 (by decide)) (mi_goto_mn 37)) (mt_ok.l (mn_iconst dd_114_36 (by decide)) (mi_pure_mn 1 _))) (mt_ok.n (mt_ok.l (mn_callV (y := 114) (pc := 37) (z := 22) (mg_Ok L xs) (C := "TokenScannerModel") (T0 := mf_T6) (N := 21) dd_114_37 rfl (mv_Hn.none rfl (fun _ => rfl)) (mc_114_22 L xs) hw_739 hw_741 hs_26 mq_22.1) (mi_callV_mn 6 22 3)) (mt_ok.l (mn_if_eq dd_114_40 (by decide)) (mi_if_mn _ _))))) (mt_ok.n (mt_ok.n (mt_ok.l (mn_iconst dd_114_43 (by decide)) (mi_pure_mn 1 _)) (mt_ok.n (mt_ok.l (mn_iret dd_114_44 rfl) (mi_iret_mn)) (mt_ok.l (mn_aload_n (k := 0) dd_114_45 rfl) (mi_aload_mn 1 0)))) (mt_ok.n (mt_ok.n (mt_ok.l (mn_get (C := "TokenScannerModel") (T := mf_T6) (N := 21) dd_114_46 rfl (Nat.le_of_ble_eq_true rfl) mf_i6 hw_680) (mi_get_mn 6 13)) (mt_ok.l (mn_iload_n (k := 1) dd_114_49 rfl) (mi_iload_mn 1 1))) (mt_ok.n (mt_ok.l (mn_iald dd_114_50 rfl) (mi_iald_mn)) (mt_ok.l (mn_iret dd_114_51 rfl) (mi_iret_mn))))))
theorem dd_115_0 : decode prog_6_method_4_code 0 = .ok (.aload_n 0, 1) := by decide +kernel
theorem dd_115_1 : decode prog_6_method_4_code 1 = .ok (.getfield 15, 3) := by decide +kernel
theorem dd_115_4 : decode prog_6_method_4_code 4 = .ok (.iconst 1, 1) := by decide +kernel
theorem dd_115_5 : decode prog_6_method_4_code 5 = .ok (.if_icmp .eq 19, 3) := by decide +kernel
theorem dd_115_8 : decode prog_6_method_4_code 8 = .ok (.aload_n 0, 1) := by decide +kernel
theorem dd_115_9 : decode prog_6_method_4_code 9 = .ok (.getfield 15, 3) := by decide +kernel
theorem dd_115_12 : decode prog_6_method_4_code 12 = .ok (.iconst 2, 1) := by decide +kernel
theorem dd_115_13 : decode prog_6_method_4_code 13 = .ok (.if_icmp .eq 11, 3) := by decide +kernel
theorem dd_115_16 : decode prog_6_method_4_code 16 = .ok (.aload_n 0, 1) := by decide +kernel
theorem dd_115_17 : decode prog_6_method_4_code 17 = .ok (.getfield 15, 3) := by decide +kernel
theorem dd_115_20 : decode prog_6_method_4_code 20 = .ok (.iconst 3, 1) := by decide +kernel
theorem dd_115_21 : decode prog_6_method_4_code 21 = .ok (.if_icmp .ne 7, 3) := by decide +kernel
theorem dd_115_24 : decode prog_6_method_4_code 24 = .ok (.iconst 1, 1) := by decide +kernel
theorem dd_115_25 : decode prog_6_method_4_code 25 = .ok (.goto 4, 3) := by decide +kernel
theorem dd_115_28 : decode prog_6_method_4_code 28 = .ok (.iconst 0, 1) := by decide +kernel
theorem dd_115_29 : decode prog_6_method_4_code 29 = .ok (.ireturn, 1) := by decide +kernel
def mt_115 : Nat → Option mv_S := mt_n 16 (mt_n 8 (mt_n 4 (mt_n 1 (mt_l 0 (mi_aload 1 0)) (mt_l 1 (mi_get 2 0))) (mt_n 5 (mt_l 4 (mi_pure 1 (mo_push (.int 1)))) (mt_l 5 (mi_icmp (fun x y : Int32 => x = y) 24)))) (mt_n 12 (mt_n 9 (mt_l 8 (mi_aload 1 0)) (mt_l 9 (mi_get 2 0))) (mt_n 13 (mt_l 12 (mi_pure 1 (mo_push (.int 2)))) (mt_l 13 (mi_icmp (fun x y : Int32 => x = y) 24))))) (mt_n 24 (mt_n 20 (mt_n 17 (mt_l 16 (mi_aload 1 0)) (mt_l 17 (mi_get 2 0))) (mt_n 21 (mt_l 20 (mi_pure 1 (mo_push (.int 3)))) (mt_l 21 (mi_icmp (fun x y : Int32 => ¬ x = y) 28)))) (mt_n 28 (mt_n 25 (mt_l 24 (mi_pure 1 (mo_push (.int 1)))) (mt_l 25 (mi_goto 29))) (mt_n 29 (mt_l 28 (mi_pure 1 (mo_push (.int 0)))) (mt_l 29 (mi_zret)))))
theorem ms_115 (L : Nat) (xs : Nat → Int32) : mt_ok (mg L xs) 115 (mt_115) := mt_ok.n (mt_ok.n (mt_ok.n (mt_ok.n (mt_ok.l (mn_aload_n (k := 0) dd_115_0 rfl) (mi_aload_mn 1 0)) (mt_ok.l (mn_get (C := "TokenScanner$Token") (T := mf_T2) (N := 9) dd_115_1 rfl (Nat.le_of_ble_eq_true rfl) mf_i2 hw_50) (mi_get_mn 2 0))) (mt_ok.n (mt_ok.l (mn_iconst dd_115_4 (by decide)) (mi_pure_mn 1 _)) (mt_ok.l (mn_icmp_eq dd_115_5 (by decide)) (mi_icmp_mn _ _)))) (mt_ok.n (mt_ok.n (mt_ok.l (mn_aload_n (k := 0) dd_115_8 rfl) (mi_aload_mn 1 0)) (mt_ok.l (mn_get (C := "TokenScanner$Token") (T := mf_T2) (N := 9) dd_115_9 rfl (Nat.le_of_ble_eq_true rfl) mf_i2 hw_50) (mi_get_mn 2 0))) (mt_ok.n (mt_ok.l (mn_iconst dd_115_12 (by decide)) (mi_pure_mn 1 _)) (mt_ok.l (mn_icmp_eq dd_115_13 (by decide)) (mi_icmp_mn _ _))))) (mt_ok.n (mt_ok.n (mt_ok.n (mt_ok.l (mn_aload_n (k := 0) dd_115_16 rfl) (mi_aload_mn 1 0)) (mt_ok.l (mn_get (C := "TokenScanner$Token") (T := mf_T2) (N := 9) dd_115_17 rfl (Nat.le_of_ble_eq_true rfl) mf_i2 hw_50) (mi_get_mn 2 0))) (mt_ok.n (mt_ok.l (mn_iconst dd_115_20 (by decide)) (mi_pure_mn 1 _)) (mt_ok.l (mn_icmp_ne dd_115_21 (by decide)) (mi_icmp_mn _ _)))) (mt_ok.n (mt_ok.n (mt_ok.l (mn_iconst dd_115_24 (by decide)) (mi_pure_mn 1 _)) (mt_ok.l (mn_goto dd_115_25 (by decide)) (mi_goto_mn 29))) (mt_ok.n (mt_ok.l (mn_iconst dd_115_28 (by decide)) (mi_pure_mn 1 _)) (mt_ok.l (mn_zret dd_115_29 rfl) (mi_zret_mn)))))
theorem dd_116_0 : decode prog_3_method_3_code 0 = .ok (.iload_n 1, 1) := by decide +kernel
theorem dd_116_1 : decode prog_3_method_3_code 1 = .ok (.ifCond .lt 15, 3) := by decide +kernel
theorem dd_116_4 : decode prog_3_method_3_code 4 = .ok (.iload_n 1, 1) := by decide +kernel
theorem dd_116_5 : decode prog_3_method_3_code 5 = .ok (.aload_n 0, 1) := by decide +kernel
theorem dd_116_6 : decode prog_3_method_3_code 6 = .ok (.getfield 24, 3) := by decide +kernel
theorem dd_116_9 : decode prog_3_method_3_code 9 = .ok (.if_icmp .ge 7, 3) := by decide +kernel
theorem dd_116_12 : decode prog_3_method_3_code 12 = .ok (.iconst 1, 1) := by decide +kernel
theorem dd_116_13 : decode prog_3_method_3_code 13 = .ok (.goto 4, 3) := by decide +kernel
theorem dd_116_16 : decode prog_3_method_3_code 16 = .ok (.iconst 0, 1) := by decide +kernel
theorem dd_116_17 : decode prog_3_method_3_code 17 = .ok (.ireturn, 1) := by decide +kernel
def mt_116 : Nat → Option mv_S := mt_n 9 (mt_n 4 (mt_n 1 (mt_l 0 (mi_iload 1 1)) (mt_l 1 (mi_if (fun x : Int32 => x < 0) 16))) (mt_n 5 (mt_l 4 (mi_iload 1 1)) (mt_n 6 (mt_l 5 (mi_aload 1 0)) (mt_l 6 (mi_get 5 2))))) (mt_n 13 (mt_n 12 (mt_l 9 (mi_icmp (fun x y : Int32 => y ≤ x) 16)) (mt_l 12 (mi_pure 1 (mo_push (.int 1))))) (mt_n 16 (mt_l 13 (mi_goto 17)) (mt_n 17 (mt_l 16 (mi_pure 1 (mo_push (.int 0)))) (mt_l 17 (mi_zret)))))
theorem ms_116 (L : Nat) (xs : Nat → Int32) : mt_ok (mg L xs) 116 (mt_116) := mt_ok.n (mt_ok.n (mt_ok.n (mt_ok.l (mn_iload_n (k := 1) dd_116_0 rfl) (mi_iload_mn 1 1)) (mt_ok.l (mn_if_lt dd_116_1 (by decide)) (mi_if_mn _ _))) (mt_ok.n (mt_ok.l (mn_iload_n (k := 1) dd_116_4 rfl) (mi_iload_mn 1 1)) (mt_ok.n (mt_ok.l (mn_aload_n (k := 0) dd_116_5 rfl) (mi_aload_mn 1 0)) (mt_ok.l (mn_get (C := "TokenScanner$Shelf") (T := mf_T5) (N := 3) dd_116_6 rfl (Nat.le_of_ble_eq_true rfl) mf_i5 hw_214) (mi_get_mn 5 2))))) (mt_ok.n (mt_ok.n (mt_ok.l (mn_icmp_ge dd_116_9 (by decide)) (mi_icmp_mn _ _)) (mt_ok.l (mn_iconst dd_116_12 (by decide)) (mi_pure_mn 1 _))) (mt_ok.n (mt_ok.l (mn_goto dd_116_13 (by decide)) (mi_goto_mn 17)) (mt_ok.n (mt_ok.l (mn_iconst dd_116_16 (by decide)) (mi_pure_mn 1 _)) (mt_ok.l (mn_zret dd_116_17 rfl) (mi_zret_mn)))))
theorem dd_117_0 : decode prog_3_method_9_code 0 = .ok (.iload_n 1, 1) := by decide +kernel
theorem dd_117_1 : decode prog_3_method_9_code 1 = .ok (.iconst 1, 1) := by decide +kernel
theorem dd_117_2 : decode prog_3_method_9_code 2 = .ok (.if_icmp .lt 22, 3) := by decide +kernel
theorem dd_117_5 : decode prog_3_method_9_code 5 = .ok (.iload_n 1, 1) := by decide +kernel
theorem dd_117_6 : decode prog_3_method_9_code 6 = .ok (.aload_n 0, 1) := by decide +kernel
theorem dd_117_7 : decode prog_3_method_9_code 7 = .ok (.getfield 24, 3) := by decide +kernel
theorem dd_117_10 : decode prog_3_method_9_code 10 = .ok (.if_icmp .gt 14, 3) := by decide +kernel
theorem dd_117_13 : decode prog_3_method_9_code 13 = .ok (.aload_n 0, 1) := by decide +kernel
theorem dd_117_14 : decode prog_3_method_9_code 14 = .ok (.getfield 21, 3) := by decide +kernel
theorem dd_117_17 : decode prog_3_method_9_code 17 = .ok (.iload_n 1, 1) := by decide +kernel
theorem dd_117_18 : decode prog_3_method_9_code 18 = .ok (.iconst 1, 1) := by decide +kernel
theorem dd_117_19 : decode prog_3_method_9_code 19 = .ok (.isub, 1) := by decide +kernel
theorem dd_117_20 : decode prog_3_method_9_code 20 = .ok (.iaload, 1) := by decide +kernel
theorem dd_117_21 : decode prog_3_method_9_code 21 = .ok (.goto 4, 3) := by decide +kernel
theorem dd_117_24 : decode prog_3_method_9_code 24 = .ok (.iconst 0, 1) := by decide +kernel
theorem dd_117_25 : decode prog_3_method_9_code 25 = .ok (.ireturn, 1) := by decide +kernel
def mt_117 : Nat → Option mv_S := mt_n 14 (mt_n 6 (mt_n 2 (mt_n 1 (mt_l 0 (mi_iload 1 1)) (mt_l 1 (mi_pure 1 (mo_push (.int 1))))) (mt_n 5 (mt_l 2 (mi_icmp (fun x y : Int32 => x < y) 24)) (mt_l 5 (mi_iload 1 1)))) (mt_n 10 (mt_n 7 (mt_l 6 (mi_aload 1 0)) (mt_l 7 (mi_get 5 2))) (mt_n 13 (mt_l 10 (mi_icmp (fun x y : Int32 => y < x) 24)) (mt_l 13 (mi_aload 1 0))))) (mt_n 20 (mt_n 18 (mt_n 17 (mt_l 14 (mi_get 5 1)) (mt_l 17 (mi_iload 1 1))) (mt_n 19 (mt_l 18 (mi_pure 1 (mo_push (.int 1)))) (mt_l 19 (mi_pure 1 (mo_ii (fun x y => x - y)))))) (mt_n 24 (mt_n 21 (mt_l 20 (mi_iald)) (mt_l 21 (mi_goto 25))) (mt_n 25 (mt_l 24 (mi_pure 1 (mo_push (.int 0)))) (mt_l 25 (mi_iret)))))
theorem ms_117 (L : Nat) (xs : Nat → Int32) : mt_ok (mg L xs) 117 (mt_117) := mt_ok.n (mt_ok.n (mt_ok.n (mt_ok.n (mt_ok.l (mn_iload_n (k := 1) dd_117_0 rfl) (mi_iload_mn 1 1)) (mt_ok.l (mn_iconst dd_117_1 (by decide)) (mi_pure_mn 1 _))) (mt_ok.n (mt_ok.l (mn_icmp_lt dd_117_2 (by decide)) (mi_icmp_mn _ _)) (mt_ok.l (mn_iload_n (k := 1) dd_117_5 rfl) (mi_iload_mn 1 1)))) (mt_ok.n (mt_ok.n (mt_ok.l (mn_aload_n (k := 0) dd_117_6 rfl) (mi_aload_mn 1 0)) (mt_ok.l (mn_get (C := "TokenScanner$Shelf") (T := mf_T5) (N := 3) dd_117_7 rfl (Nat.le_of_ble_eq_true rfl) mf_i5 hw_214) (mi_get_mn 5 2))) (mt_ok.n (mt_ok.l (mn_icmp_gt dd_117_10 (by decide)) (mi_icmp_mn _ _)) (mt_ok.l (mn_aload_n (k := 0) dd_117_13 rfl) (mi_aload_mn 1 0))))) (mt_ok.n (mt_ok.n (mt_ok.n (mt_ok.l (mn_get (C := "TokenScanner$Shelf") (T := mf_T5) (N := 3) dd_117_14 rfl (Nat.le_of_ble_eq_true rfl) mf_i5 hw_213) (mi_get_mn 5 1)) (mt_ok.l (mn_iload_n (k := 1) dd_117_17 rfl) (mi_iload_mn 1 1))) (mt_ok.n (mt_ok.l (mn_iconst dd_117_18 (by decide)) (mi_pure_mn 1 _)) (mt_ok.l (mn_isub dd_117_19) (mi_pure_mn 1 _)))) (mt_ok.n (mt_ok.n (mt_ok.l (mn_iald dd_117_20 rfl) (mi_iald_mn)) (mt_ok.l (mn_goto dd_117_21 (by decide)) (mi_goto_mn 25))) (mt_ok.n (mt_ok.l (mn_iconst dd_117_24 (by decide)) (mi_pure_mn 1 _)) (mt_ok.l (mn_iret dd_117_25 rfl) (mi_iret_mn)))))
theorem dd_118_0 : decode prog_3_method_7_code 0 = .ok (.aload_n 0, 1) := by decide +kernel
theorem dd_118_1 : decode prog_3_method_7_code 1 = .ok (.iload_n 1, 1) := by decide +kernel
theorem dd_118_2 : decode prog_3_method_7_code 2 = .ok (.invokevirtual 49, 3) := by decide +kernel
theorem dd_118_5 : decode prog_3_method_7_code 5 = .ok (.ifCond .eq 18, 3) := by decide +kernel
theorem dd_118_8 : decode prog_3_method_7_code 8 = .ok (.aload_n 0, 1) := by decide +kernel
theorem dd_118_9 : decode prog_3_method_7_code 9 = .ok (.getfield 21, 3) := by decide +kernel
theorem dd_118_12 : decode prog_3_method_7_code 12 = .ok (.iload_n 1, 1) := by decide +kernel
theorem dd_118_13 : decode prog_3_method_7_code 13 = .ok (.iaload, 1) := by decide +kernel
theorem dd_118_14 : decode prog_3_method_7_code 14 = .ok (.aload_n 0, 1) := by decide +kernel
theorem dd_118_15 : decode prog_3_method_7_code 15 = .ok (.iload_n 1, 1) := by decide +kernel
theorem dd_118_16 : decode prog_3_method_7_code 16 = .ok (.invokevirtual 28, 3) := by decide +kernel
theorem dd_118_19 : decode prog_3_method_7_code 19 = .ok (.isub, 1) := by decide +kernel
theorem dd_118_20 : decode prog_3_method_7_code 20 = .ok (.goto 4, 3) := by decide +kernel
theorem dd_118_23 : decode prog_3_method_7_code 23 = .ok (.iconst 0, 1) := by decide +kernel
theorem dd_118_24 : decode prog_3_method_7_code 24 = .ok (.ireturn, 1) := by decide +kernel
def mt_118 : Nat → Option mv_S := mt_n 13 (mt_n 5 (mt_n 1 (mt_l 0 (mi_aload 1 0)) (mt_n 2 (mt_l 1 (mi_iload 1 1)) (mt_l 2 (mi_callV 5 116 2)))) (mt_n 9 (mt_n 8 (mt_l 5 (mi_if (fun x : Int32 => x = 0) 23)) (mt_l 8 (mi_aload 1 0))) (mt_n 12 (mt_l 9 (mi_get 5 1)) (mt_l 12 (mi_iload 1 1))))) (mt_n 19 (mt_n 15 (mt_n 14 (mt_l 13 (mi_iald)) (mt_l 14 (mi_aload 1 0))) (mt_n 16 (mt_l 15 (mi_iload 1 1)) (mt_l 16 (mi_callV 5 117 2)))) (mt_n 23 (mt_n 20 (mt_l 19 (mi_pure 1 (mo_ii (fun x y => x - y)))) (mt_l 20 (mi_goto 24))) (mt_n 24 (mt_l 23 (mi_pure 1 (mo_push (.int 0)))) (mt_l 24 (mi_iret)))))
theorem ms_118 (L : Nat) (xs : Nat → Int32) : mt_ok (mg L xs) 118 (mt_118) := mt_ok.n (mt_ok.n (mt_ok.n (mt_ok.l (mn_aload_n (k := 0) dd_118_0 rfl) (mi_aload_mn 1 0)) (mt_ok.n (mt_ok.l (mn_iload_n (k := 1) dd_118_1 rfl) (mi_iload_mn 1 1)) (mt_ok.l (mn_callV (y := 118) (pc := 2) (z := 116) (mg_Ok L xs) (C := "TokenScanner$Shelf") (T0 := mf_T5) (N := 3) dd_118_2 rfl (mv_Hn.none rfl (fun _ => rfl)) (mc_118_116 L xs) hw_611 hw_612 hw_613 mq_116.1) (mi_callV_mn 5 116 2)))) (mt_ok.n (mt_ok.n (mt_ok.l (mn_if_eq dd_118_5 (by decide)) (mi_if_mn _ _)) (mt_ok.l (mn_aload_n (k := 0) dd_118_8 rfl) (mi_aload_mn 1 0))) (mt_ok.n (mt_ok.l (mn_get (C := "TokenScanner$Shelf") (T := mf_T5) (N := 3) dd_118_9 rfl (Nat.le_of_ble_eq_true rfl) mf_i5 hw_213) (mi_get_mn 5 1)) (mt_ok.l (mn_iload_n (k := 1) dd_118_12 rfl) (mi_iload_mn 1 1))))) (mt_ok.n (mt_ok.n (mt_ok.n (mt_ok.l (mn_iald dd_118_13 rfl) (mi_iald_mn)) (mt_ok.l (mn_aload_n (k := 0) dd_118_14 rfl) (mi_aload_mn 1 0))) (mt_ok.n (mt_ok.l (mn_iload_n (k := 1) dd_118_15 rfl) (mi_iload_mn 1 1)) (mt_ok.l (mn_callV (y := 118) (pc := 16) (z := 117) (mg_Ok L xs) (C := "TokenScanner$Shelf") (T0 := mf_T5) (N := 3) dd_118_16 rfl (mv_Hn.none rfl (fun _ => rfl)) (mc_118_117 L xs) hw_615 hw_617 hs_24 mq_117.1) (mi_callV_mn 5 117 2)))) (mt_ok.n (mt_ok.n (mt_ok.l (mn_isub dd_118_19) (mi_pure_mn 1 _)) (mt_ok.l (mn_goto dd_118_20 (by decide)) (mi_goto_mn 24))) (mt_ok.n (mt_ok.l (mn_iconst dd_118_23 (by decide)) (mi_pure_mn 1 _)) (mt_ok.l (mn_iret dd_118_24 rfl) (mi_iret_mn)))))
theorem dd_119_0 : decode prog_3_method_10_code 0 = .ok (.aload_n 0, 1) := by decide +kernel
theorem dd_119_1 : decode prog_3_method_10_code 1 = .ok (.iload_n 1, 1) := by decide +kernel
theorem dd_119_2 : decode prog_3_method_10_code 2 = .ok (.invokevirtual 28, 3) := by decide +kernel
theorem dd_119_5 : decode prog_3_method_10_code 5 = .ok (.istore 4, 2) := by decide +kernel
theorem dd_119_7 : decode prog_3_method_10_code 7 = .ok (.iconst 0, 1) := by decide +kernel
theorem dd_119_8 : decode prog_3_method_10_code 8 = .ok (.istore 5, 2) := by decide +kernel
theorem dd_119_10 : decode prog_3_method_10_code 10 = .ok (.iload 5, 2) := by decide +kernel
theorem dd_119_12 : decode prog_3_method_10_code 12 = .ok (.iload_n 3, 1) := by decide +kernel
theorem dd_119_13 : decode prog_3_method_10_code 13 = .ok (.if_icmp .ge 48, 3) := by decide +kernel
theorem dd_119_16 : decode prog_3_method_10_code 16 = .ok (.iload 5, 2) := by decide +kernel
theorem dd_119_18 : decode prog_3_method_10_code 18 = .ok (.aload_n 2, 1) := by decide +kernel
theorem dd_119_19 : decode prog_3_method_10_code 19 = .ok (.arraylength, 1) := by decide +kernel
theorem dd_119_20 : decode prog_3_method_10_code 20 = .ok (.if_icmp .ge 41, 3) := by decide +kernel
theorem dd_119_23 : decode prog_3_method_10_code 23 = .ok (.iload 4, 2) := by decide +kernel
theorem dd_119_25 : decode prog_3_method_10_code 25 = .ok (.iload 5, 2) := by decide +kernel
theorem dd_119_27 : decode prog_3_method_10_code 27 = .ok (.iadd, 1) := by decide +kernel
theorem dd_119_28 : decode prog_3_method_10_code 28 = .ok (.aload_n 0, 1) := by decide +kernel
theorem dd_119_29 : decode prog_3_method_10_code 29 = .ok (.getfield 15, 3) := by decide +kernel
theorem dd_119_32 : decode prog_3_method_10_code 32 = .ok (.arraylength, 1) := by decide +kernel
theorem dd_119_33 : decode prog_3_method_10_code 33 = .ok (.if_icmp .ge 20, 3) := by decide +kernel
theorem dd_119_36 : decode prog_3_method_10_code 36 = .ok (.aload_n 0, 1) := by decide +kernel
theorem dd_119_37 : decode prog_3_method_10_code 37 = .ok (.getfield 15, 3) := by decide +kernel
theorem dd_119_40 : decode prog_3_method_10_code 40 = .ok (.iload 4, 2) := by decide +kernel
theorem dd_119_42 : decode prog_3_method_10_code 42 = .ok (.iload 5, 2) := by decide +kernel
theorem dd_119_44 : decode prog_3_method_10_code 44 = .ok (.iadd, 1) := by decide +kernel
theorem dd_119_45 : decode prog_3_method_10_code 45 = .ok (.iaload, 1) := by decide +kernel
theorem dd_119_46 : decode prog_3_method_10_code 46 = .ok (.aload_n 2, 1) := by decide +kernel
theorem dd_119_47 : decode prog_3_method_10_code 47 = .ok (.iload 5, 2) := by decide +kernel
theorem dd_119_49 : decode prog_3_method_10_code 49 = .ok (.iaload, 1) := by decide +kernel
theorem dd_119_50 : decode prog_3_method_10_code 50 = .ok (.if_icmp .eq 5, 3) := by decide +kernel
theorem dd_119_53 : decode prog_3_method_10_code 53 = .ok (.iconst 0, 1) := by decide +kernel
theorem dd_119_54 : decode prog_3_method_10_code 54 = .ok (.ireturn, 1) := by decide +kernel
theorem dd_119_55 : decode prog_3_method_10_code 55 = .ok (.iinc 5 1, 3) := by decide +kernel
theorem dd_119_58 : decode prog_3_method_10_code 58 = .ok (.goto (-48), 3) := by decide +kernel
theorem dd_119_61 : decode prog_3_method_10_code 61 = .ok (.iconst 1, 1) := by decide +kernel
theorem dd_119_62 : decode prog_3_method_10_code 62 = .ok (.ireturn, 1) := by decide +kernel
def mt_119 : Nat → Option mv_S := mt_n 32 (mt_n 16 (mt_n 7 (mt_n 2 (mt_n 1 (mt_l 0 (mi_aload 1 0)) (mt_l 1 (mi_iload 1 1))) (mt_n 5 (mt_l 2 (mi_callV 5 117 2)) (mt_l 5 (mi_istore 2 4)))) (mt_n 10 (mt_n 8 (mt_l 7 (mi_pure 1 (mo_push (.int 0)))) (mt_l 8 (mi_istore 2 5))) (mt_n 12 (mt_l 10 (mi_iload 2 5)) (mt_n 13 (mt_l 12 (mi_iload 1 3)) (mt_l 13 (mi_icmp (fun x y : Int32 => y ≤ x) 61)))))) (mt_n 23 (mt_n 19 (mt_n 18 (mt_l 16 (mi_iload 2 5)) (mt_l 18 (mi_aload 1 2))) (mt_n 20 (mt_l 19 (mi_alen 0)) (mt_l 20 (mi_icmp (fun x y : Int32 => y ≤ x) 61)))) (mt_n 27 (mt_n 25 (mt_l 23 (mi_iload 2 4)) (mt_l 25 (mi_iload 2 5))) (mt_n 28 (mt_l 27 (mi_pure 1 (mo_ii (fun x y => x + y)))) (mt_n 29 (mt_l 28 (mi_aload 1 0)) (mt_l 29 (mi_get 5 0))))))) (mt_n 47 (mt_n 40 (mt_n 36 (mt_n 33 (mt_l 32 (mi_alen 0)) (mt_l 33 (mi_icmp (fun x y : Int32 => y ≤ x) 53))) (mt_n 37 (mt_l 36 (mi_aload 1 0)) (mt_l 37 (mi_get 5 0)))) (mt_n 44 (mt_n 42 (mt_l 40 (mi_iload 2 4)) (mt_l 42 (mi_iload 2 5))) (mt_n 45 (mt_l 44 (mi_pure 1 (mo_ii (fun x y => x + y)))) (mt_n 46 (mt_l 45 (mi_iald)) (mt_l 46 (mi_aload 1 2)))))) (mt_n 54 (mt_n 50 (mt_n 49 (mt_l 47 (mi_iload 2 5)) (mt_l 49 (mi_iald))) (mt_n 53 (mt_l 50 (mi_icmp (fun x y : Int32 => x = y) 55)) (mt_l 53 (mi_pure 1 (mo_push (.int 0)))))) (mt_n 58 (mt_n 55 (mt_l 54 (mi_zret)) (mt_l 55 (mi_iinc 5 1))) (mt_n 61 (mt_l 58 (mi_goto 10)) (mt_n 62 (mt_l 61 (mi_pure 1 (mo_push (.int 1)))) (mt_l 62 (mi_zret)))))))
theorem ms_119 (L : Nat) (xs : Nat → Int32) : mt_ok (mg L xs) 119 (mt_119) := mt_ok.n (mt_ok.n (mt_ok.n (mt_ok.n (mt_ok.n (mt_ok.l (mn_aload_n (k := 0) dd_119_0 rfl) (mi_aload_mn 1 0)) (mt_ok.l (mn_iload_n (k := 1) dd_119_1 rfl) (mi_iload_mn 1 1))) (mt_ok.n (mt_ok.l (mn_callV (y := 119) (pc := 2) (z := 117) (mg_Ok L xs) (C := "TokenScanner$Shelf") (T0 := mf_T5) (N := 3) dd_119_2 rfl (mv_Hn.none rfl (fun _ => rfl)) (mc_119_117 L xs) hw_615 hw_617 hs_24 mq_117.1) (mi_callV_mn 5 117 2)) (mt_ok.l (mn_istore dd_119_5 (Nat.le_of_ble_eq_true rfl)) (mi_istore_mn 2 4)))) (mt_ok.n (mt_ok.n (mt_ok.l (mn_iconst dd_119_7 (by decide)) (mi_pure_mn 1 _)) (mt_ok.l (mn_istore dd_119_8 (Nat.le_of_ble_eq_true rfl)) (mi_istore_mn 2 5))) (mt_ok.n (mt_ok.l (mn_iload dd_119_10) (mi_iload_mn 2 5)) (mt_ok.n (mt_ok.l (mn_iload_n (k := 3) dd_119_12 rfl) (mi_iload_mn 1 3)) (mt_ok.l (mn_icmp_ge dd_119_13 (by decide)) (mi_icmp_mn _ _)))))) (mt_ok.n (mt_ok.n (mt_ok.n (mt_ok.l (mn_iload dd_119_16) (mi_iload_mn 2 5)) (mt_ok.l (mn_aload_n (k := 2) dd_119_18 rfl) (mi_aload_mn 1 2))) (mt_ok.n (mt_ok.l (mn_alen dd_119_19 rfl) (mi_alen_mn 0)) (mt_ok.l (mn_icmp_ge dd_119_20 (by decide)) (mi_icmp_mn _ _)))) (mt_ok.n (mt_ok.n (mt_ok.l (mn_iload dd_119_23) (mi_iload_mn 2 4)) (mt_ok.l (mn_iload dd_119_25) (mi_iload_mn 2 5))) (mt_ok.n (mt_ok.l (mn_iadd dd_119_27) (mi_pure_mn 1 _)) (mt_ok.n (mt_ok.l (mn_aload_n (k := 0) dd_119_28 rfl) (mi_aload_mn 1 0)) (mt_ok.l (mn_get (C := "TokenScanner$Shelf") (T := mf_T5) (N := 3) dd_119_29 rfl (Nat.le_of_ble_eq_true rfl) mf_i5 hw_212) (mi_get_mn 5 0))))))) (mt_ok.n (mt_ok.n (mt_ok.n (mt_ok.n (mt_ok.l (mn_alen dd_119_32 rfl) (mi_alen_mn 0)) (mt_ok.l (mn_icmp_ge dd_119_33 (by decide)) (mi_icmp_mn _ _))) (mt_ok.n (mt_ok.l (mn_aload_n (k := 0) dd_119_36 rfl) (mi_aload_mn 1 0)) (mt_ok.l (mn_get (C := "TokenScanner$Shelf") (T := mf_T5) (N := 3) dd_119_37 rfl (Nat.le_of_ble_eq_true rfl) mf_i5 hw_212) (mi_get_mn 5 0)))) (mt_ok.n (mt_ok.n (mt_ok.l (mn_iload dd_119_40) (mi_iload_mn 2 4)) (mt_ok.l (mn_iload dd_119_42) (mi_iload_mn 2 5))) (mt_ok.n (mt_ok.l (mn_iadd dd_119_44) (mi_pure_mn 1 _)) (mt_ok.n (mt_ok.l (mn_iald dd_119_45 rfl) (mi_iald_mn)) (mt_ok.l (mn_aload_n (k := 2) dd_119_46 rfl) (mi_aload_mn 1 2)))))) (mt_ok.n (mt_ok.n (mt_ok.n (mt_ok.l (mn_iload dd_119_47) (mi_iload_mn 2 5)) (mt_ok.l (mn_iald dd_119_49 rfl) (mi_iald_mn))) (mt_ok.n (mt_ok.l (mn_icmp_eq dd_119_50 (by decide)) (mi_icmp_mn _ _)) (mt_ok.l (mn_iconst dd_119_53 (by decide)) (mi_pure_mn 1 _)))) (mt_ok.n (mt_ok.n (mt_ok.l (mn_zret dd_119_54 rfl) (mi_zret_mn)) (mt_ok.l (mn_iinc dd_119_55 (by decide) (Nat.le_of_ble_eq_true rfl)) (mi_iinc_mn 5 _))) (mt_ok.n (mt_ok.l (mn_goto dd_119_58 (by decide)) (mi_goto_mn 10)) (mt_ok.n (mt_ok.l (mn_iconst dd_119_61 (by decide)) (mi_pure_mn 1 _)) (mt_ok.l (mn_zret dd_119_62 rfl) (mi_zret_mn)))))))
theorem dd_120_0 : decode prog_3_method_6_code 0 = .ok (.iconst 0, 1) := by decide +kernel
theorem dd_120_1 : decode prog_3_method_6_code 1 = .ok (.istore_n 3, 1) := by decide +kernel
theorem dd_120_2 : decode prog_3_method_6_code 2 = .ok (.iload_n 3, 1) := by decide +kernel
theorem dd_120_3 : decode prog_3_method_6_code 3 = .ok (.aload_n 0, 1) := by decide +kernel
theorem dd_120_4 : decode prog_3_method_6_code 4 = .ok (.getfield 24, 3) := by decide +kernel
theorem dd_120_7 : decode prog_3_method_6_code 7 = .ok (.if_icmp .ge 30, 3) := by decide +kernel
theorem dd_120_10 : decode prog_3_method_6_code 10 = .ok (.aload_n 0, 1) := by decide +kernel
theorem dd_120_11 : decode prog_3_method_6_code 11 = .ok (.iload_n 3, 1) := by decide +kernel
theorem dd_120_12 : decode prog_3_method_6_code 12 = .ok (.invokevirtual 42, 3) := by decide +kernel
theorem dd_120_15 : decode prog_3_method_6_code 15 = .ok (.iload_n 2, 1) := by decide +kernel
theorem dd_120_16 : decode prog_3_method_6_code 16 = .ok (.if_icmp .ne 15, 3) := by decide +kernel
theorem dd_120_19 : decode prog_3_method_6_code 19 = .ok (.aload_n 0, 1) := by decide +kernel
theorem dd_120_20 : decode prog_3_method_6_code 20 = .ok (.iload_n 3, 1) := by decide +kernel
theorem dd_120_21 : decode prog_3_method_6_code 21 = .ok (.aload_n 1, 1) := by decide +kernel
theorem dd_120_22 : decode prog_3_method_6_code 22 = .ok (.iload_n 2, 1) := by decide +kernel
theorem dd_120_23 : decode prog_3_method_6_code 23 = .ok (.invokevirtual 45, 3) := by decide +kernel
theorem dd_120_26 : decode prog_3_method_6_code 26 = .ok (.ifCond .eq 5, 3) := by decide +kernel
theorem dd_120_29 : decode prog_3_method_6_code 29 = .ok (.iload_n 3, 1) := by decide +kernel
theorem dd_120_30 : decode prog_3_method_6_code 30 = .ok (.ireturn, 1) := by decide +kernel
theorem dd_120_31 : decode prog_3_method_6_code 31 = .ok (.iinc 3 1, 3) := by decide +kernel
theorem dd_120_34 : decode prog_3_method_6_code 34 = .ok (.goto (-32), 3) := by decide +kernel
theorem dd_120_37 : decode prog_3_method_6_code 37 = .ok (.iconst (-1), 1) := by decide +kernel
theorem dd_120_38 : decode prog_3_method_6_code 38 = .ok (.ireturn, 1) := by decide +kernel
def mt_120 : Nat → Option mv_S := mt_n 19 (mt_n 7 (mt_n 2 (mt_n 1 (mt_l 0 (mi_pure 1 (mo_push (.int 0)))) (mt_l 1 (mi_istore 1 3))) (mt_n 3 (mt_l 2 (mi_iload 1 3)) (mt_n 4 (mt_l 3 (mi_aload 1 0)) (mt_l 4 (mi_get 5 2))))) (mt_n 12 (mt_n 10 (mt_l 7 (mi_icmp (fun x y : Int32 => y ≤ x) 37)) (mt_n 11 (mt_l 10 (mi_aload 1 0)) (mt_l 11 (mi_iload 1 3)))) (mt_n 15 (mt_l 12 (mi_callV 5 118 2)) (mt_n 16 (mt_l 15 (mi_iload 1 2)) (mt_l 16 (mi_icmp (fun x y : Int32 => ¬ x = y) 31)))))) (mt_n 29 (mt_n 22 (mt_n 20 (mt_l 19 (mi_aload 1 0)) (mt_n 21 (mt_l 20 (mi_iload 1 3)) (mt_l 21 (mi_aload 1 1)))) (mt_n 23 (mt_l 22 (mi_iload 1 2)) (mt_n 26 (mt_l 23 (mi_callV 5 119 4)) (mt_l 26 (mi_if (fun x : Int32 => x = 0) 31))))) (mt_n 34 (mt_n 30 (mt_l 29 (mi_iload 1 3)) (mt_n 31 (mt_l 30 (mi_iret)) (mt_l 31 (mi_iinc 3 1)))) (mt_n 37 (mt_l 34 (mi_goto 2)) (mt_n 38 (mt_l 37 (mi_pure 1 (mo_push (.int (-1))))) (mt_l 38 (mi_iret))))))
theorem ms_120 (L : Nat) (xs : Nat → Int32) : mt_ok (mg L xs) 120 (mt_120) := mt_ok.n (mt_ok.n (mt_ok.n (mt_ok.n (mt_ok.l (mn_iconst dd_120_0 (by decide)) (mi_pure_mn 1 _)) (mt_ok.l (mn_istore_n (k := 3) dd_120_1 rfl (Nat.le_of_ble_eq_true rfl)) (mi_istore_mn 1 3))) (mt_ok.n (mt_ok.l (mn_iload_n (k := 3) dd_120_2 rfl) (mi_iload_mn 1 3)) (mt_ok.n (mt_ok.l (mn_aload_n (k := 0) dd_120_3 rfl) (mi_aload_mn 1 0)) (mt_ok.l (mn_get (C := "TokenScanner$Shelf") (T := mf_T5) (N := 3) dd_120_4 rfl (Nat.le_of_ble_eq_true rfl) mf_i5 hw_214) (mi_get_mn 5 2))))) (mt_ok.n (mt_ok.n (mt_ok.l (mn_icmp_ge dd_120_7 (by decide)) (mi_icmp_mn _ _)) (mt_ok.n (mt_ok.l (mn_aload_n (k := 0) dd_120_10 rfl) (mi_aload_mn 1 0)) (mt_ok.l (mn_iload_n (k := 3) dd_120_11 rfl) (mi_iload_mn 1 3)))) (mt_ok.n (mt_ok.l (mn_callV (y := 120) (pc := 12) (z := 118) (mg_Ok L xs) (C := "TokenScanner$Shelf") (T0 := mf_T5) (N := 3) dd_120_12 rfl (mv_Hn.none rfl (fun _ => rfl)) (mc_120_118 L xs) hw_607 hw_608 hw_609 mq_118.1) (mi_callV_mn 5 118 2)) (mt_ok.n (mt_ok.l (mn_iload_n (k := 2) dd_120_15 rfl) (mi_iload_mn 1 2)) (mt_ok.l (mn_icmp_ne dd_120_16 (by decide)) (mi_icmp_mn _ _)))))) (mt_ok.n (mt_ok.n (mt_ok.n (mt_ok.l (mn_aload_n (k := 0) dd_120_19 rfl) (mi_aload_mn 1 0)) (mt_ok.n (mt_ok.l (mn_iload_n (k := 3) dd_120_20 rfl) (mi_iload_mn 1 3)) (mt_ok.l (mn_aload_n (k := 1) dd_120_21 rfl) (mi_aload_mn 1 1)))) (mt_ok.n (mt_ok.l (mn_iload_n (k := 2) dd_120_22 rfl) (mi_iload_mn 1 2)) (mt_ok.n (mt_ok.l (mn_callV (y := 120) (pc := 23) (z := 119) (mg_Ok L xs) (C := "TokenScanner$Shelf") (T0 := mf_T5) (N := 3) dd_120_23 rfl (mv_Hn.none rfl (fun _ => rfl)) (mc_120_119 L xs) hw_619 hw_621 hs_25 mq_119.1) (mi_callV_mn 5 119 4)) (mt_ok.l (mn_if_eq dd_120_26 (by decide)) (mi_if_mn _ _))))) (mt_ok.n (mt_ok.n (mt_ok.l (mn_iload_n (k := 3) dd_120_29 rfl) (mi_iload_mn 1 3)) (mt_ok.n (mt_ok.l (mn_iret dd_120_30 rfl) (mi_iret_mn)) (mt_ok.l (mn_iinc dd_120_31 (by decide) (Nat.le_of_ble_eq_true rfl)) (mi_iinc_mn 3 _)))) (mt_ok.n (mt_ok.l (mn_goto dd_120_34 (by decide)) (mi_goto_mn 2)) (mt_ok.n (mt_ok.l (mn_iconst dd_120_37 (by decide)) (mi_pure_mn 1 _)) (mt_ok.l (mn_iret dd_120_38 rfl) (mi_iret_mn))))))
