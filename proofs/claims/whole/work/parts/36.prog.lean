/-- the program -/
def mp_n (k : Nat) (a b : Nat → Nat → Option mv_S) : Nat → Nat → Option mv_S := fun y => bif Nat.blt y k then a y else b y
def mp_l (k : Nat) (s : Nat → Option mv_S) : Nat → Nat → Option mv_S := fun y pc => bif Nat.beq y k then s pc else none
def mp_ok (g : mv_Gp) (t : Nat → Nat → Option mv_S) : Prop := ∀ y pc st, t y pc = some st → mv_Snd g y pc st ∧ mv_Mn st
theorem mp_ok.n {g : mv_Gp} {k : Nat} {a b : Nat → Nat → Option mv_S} (ha : mp_ok g a) (hb : mp_ok g b) : mp_ok g (mp_n k a b) := by
  intro y pc st e
  unfold mp_n at e
  cases hk : Nat.blt y k with
  | true => rw [hk, cond_true] at e; exact ha y pc st e
  | false => rw [hk, cond_false] at e; exact hb y pc st e
theorem mp_ok.l {g : mv_Gp} {k : Nat} {s : Nat → Option mv_S} (h : mt_ok g k s) : mp_ok g (mp_l k s) := by
  intro y pc st e
  unfold mp_l at e
  cases hk : Nat.beq y k with
  | true =>
    rw [hk, cond_true] at e
    have := Nat.eq_of_beq_eq_true hk
    subst this
    exact h pc st e
  | false => rw [hk, cond_false] at e; cases e
theorem mp_c {p : mv_Y → Prop} {c : Bool} {a b : mv_Y} (ha : p a) (hb : p b) : p (bif c then a else b) := by cases c <;> assumption
def mp_t (L : Nat) (xs : Nat → Int32) : Nat → Nat → Option mv_S := mp_n 68 (mp_n 34 (mp_n 17 (mp_n 8 (mp_n 4 (mp_n 2 (mp_n 1 (mp_l 0 mt_0) (mp_l 1 mt_1)) (mp_n 3 (mp_l 2 mt_2) (mp_l 3 mt_3))) (mp_n 6 (mp_n 5 (mp_l 4 mt_4) (mp_l 5 mt_5)) (mp_n 7 (mp_l 6 mt_6) (mp_l 7 mt_7)))) (mp_n 12 (mp_n 10 (mp_n 9 (mp_l 8 mt_8) (mp_l 9 mt_9)) (mp_n 11 (mp_l 10 mt_10) (mp_l 11 mt_11))) (mp_n 14 (mp_n 13 (mp_l 12 mt_12) (mp_l 13 mt_13)) (mp_n 15 (mp_l 14 mt_14) (mp_n 16 (mp_l 15 mt_15) (mp_l 16 mt_16)))))) (mp_n 25 (mp_n 21 (mp_n 19 (mp_n 18 (mp_l 17 mt_17) (mp_l 18 mt_18)) (mp_n 20 (mp_l 19 mt_19) (mp_l 20 mt_20))) (mp_n 23 (mp_n 22 (mp_l 21 mt_21) (mp_l 22 mt_22)) (mp_n 24 (mp_l 23 mt_23) (mp_l 24 mt_24)))) (mp_n 29 (mp_n 27 (mp_n 26 (mp_l 25 mt_25) (mp_l 26 mt_26)) (mp_n 28 (mp_l 27 mt_27) (mp_l 28 mt_28))) (mp_n 31 (mp_n 30 (mp_l 29 mt_29) (mp_l 30 mt_30)) (mp_n 32 (mp_l 31 mt_31) (mp_n 33 (mp_l 32 mt_32) (mp_l 33 mt_33))))))) (mp_n 51 (mp_n 42 (mp_n 38 (mp_n 36 (mp_n 35 (mp_l 34 mt_34) (mp_l 35 mt_35)) (mp_n 37 (mp_l 36 mt_36) (mp_l 37 mt_37))) (mp_n 40 (mp_n 39 (mp_l 38 mt_38) (mp_l 39 mt_39)) (mp_n 41 (mp_l 40 mt_40) (mp_l 41 mt_41)))) (mp_n 46 (mp_n 44 (mp_n 43 (mp_l 42 mt_42) (mp_l 43 mt_43)) (mp_n 45 (mp_l 44 mt_44) (mp_l 45 mt_45))) (mp_n 48 (mp_n 47 (mp_l 46 mt_46) (mp_l 47 mt_47)) (mp_n 49 (mp_l 48 mt_48) (mp_n 50 (mp_l 49 mt_49) (mp_l 50 mt_50)))))) (mp_n 59 (mp_n 55 (mp_n 53 (mp_n 52 (mp_l 51 mt_51) (mp_l 52 mt_52)) (mp_n 54 (mp_l 53 mt_53) (mp_l 54 mt_54))) (mp_n 57 (mp_n 56 (mp_l 55 mt_55) (mp_l 56 mt_56)) (mp_n 58 (mp_l 57 mt_57) (mp_l 58 mt_58)))) (mp_n 63 (mp_n 61 (mp_n 60 (mp_l 59 mt_59) (mp_l 60 mt_60)) (mp_n 62 (mp_l 61 mt_61) (mp_l 62 mt_62))) (mp_n 65 (mp_n 64 (mp_l 63 mt_63) (mp_l 64 mt_64)) (mp_n 66 (mp_l 65 mt_65) (mp_n 67 (mp_l 66 mt_66) (mp_l 67 mt_67)))))))) (mp_n 102 (mp_n 85 (mp_n 76 (mp_n 72 (mp_n 70 (mp_n 69 (mp_l 68 mt_68) (mp_l 69 mt_69)) (mp_n 71 (mp_l 70 mt_70) (mp_l 71 mt_71))) (mp_n 74 (mp_n 73 (mp_l 72 mt_72) (mp_l 73 mt_73)) (mp_n 75 (mp_l 74 mt_74) (mp_l 75 mt_75)))) (mp_n 80 (mp_n 78 (mp_n 77 (mp_l 76 mt_76) (mp_l 77 mt_77)) (mp_n 79 (mp_l 78 mt_78) (mp_l 79 mt_79))) (mp_n 82 (mp_n 81 (mp_l 80 mt_80) (mp_l 81 mt_81)) (mp_n 83 (mp_l 82 mt_82) (mp_n 84 (mp_l 83 mt_83) (mp_l 84 mt_84)))))) (mp_n 93 (mp_n 89 (mp_n 87 (mp_n 86 (mp_l 85 mt_85) (mp_l 86 mt_86)) (mp_n 88 (mp_l 87 mt_87) (mp_l 88 mt_88))) (mp_n 91 (mp_n 90 (mp_l 89 mt_89) (mp_l 90 mt_90)) (mp_n 92 (mp_l 91 mt_91) (mp_l 92 mt_92)))) (mp_n 97 (mp_n 95 (mp_n 94 (mp_l 93 mt_93) (mp_l 94 mt_94)) (mp_n 96 (mp_l 95 mt_95) (mp_l 96 mt_96))) (mp_n 99 (mp_n 98 (mp_l 97 mt_97) (mp_l 98 mt_98)) (mp_n 100 (mp_l 99 mt_99) (mp_n 101 (mp_l 100 mt_100) (mp_l 101 mt_101))))))) (mp_n 119 (mp_n 110 (mp_n 106 (mp_n 104 (mp_n 103 (mp_l 102 mt_102) (mp_l 103 mt_103)) (mp_n 105 (mp_l 104 mt_104) (mp_l 105 mt_105))) (mp_n 108 (mp_n 107 (mp_l 106 mt_106) (mp_l 107 mt_107)) (mp_n 109 (mp_l 108 mt_108) (mp_l 109 mt_109)))) (mp_n 114 (mp_n 112 (mp_n 111 (mp_l 110 mt_110) (mp_l 111 mt_111)) (mp_n 113 (mp_l 112 mt_112) (mp_l 113 mt_113))) (mp_n 116 (mp_n 115 (mp_l 114 mt_114) (mp_l 115 mt_115)) (mp_n 117 (mp_l 116 mt_116) (mp_n 118 (mp_l 117 mt_117) (mp_l 118 mt_118)))))) (mp_n 127 (mp_n 123 (mp_n 121 (mp_n 120 (mp_l 119 mt_119) (mp_l 120 mt_120)) (mp_n 122 (mp_l 121 mt_121) (mp_l 122 mt_122))) (mp_n 125 (mp_n 124 (mp_l 123 mt_123) (mp_l 124 mt_124)) (mp_n 126 (mp_l 125 mt_125) (mp_l 126 mt_126)))) (mp_n 131 (mp_n 129 (mp_n 128 (mp_l 127 mt_127) (mp_l 128 mt_128)) (mp_n 130 (mp_l 129 mt_129) (mp_l 130 mt_130))) (mp_n 133 (mp_n 132 (mp_l 131 mt_131) (mp_l 132 mt_132)) (mp_n 134 (mp_l 133 mt_133) (mp_n 135 (mp_l 134 mt_134) (mp_l 135 (mt_135 L xs)))))))))
theorem mp_tok (L : Nat) (xs : Nat → Int32) : mp_ok (mg L xs) (mp_t L xs) := mp_ok.n (mp_ok.n (mp_ok.n (mp_ok.n (mp_ok.n (mp_ok.n (mp_ok.n (mp_ok.l (ms_0 L xs)) (mp_ok.l (ms_1 L xs))) (mp_ok.n (mp_ok.l (ms_2 L xs)) (mp_ok.l (ms_3 L xs)))) (mp_ok.n (mp_ok.n (mp_ok.l (ms_4 L xs)) (mp_ok.l (ms_5 L xs))) (mp_ok.n (mp_ok.l (ms_6 L xs)) (mp_ok.l (ms_7 L xs))))) (mp_ok.n (mp_ok.n (mp_ok.n (mp_ok.l (ms_8 L xs)) (mp_ok.l (ms_9 L xs))) (mp_ok.n (mp_ok.l (ms_10 L xs)) (mp_ok.l (ms_11 L xs)))) (mp_ok.n (mp_ok.n (mp_ok.l (ms_12 L xs)) (mp_ok.l (ms_13 L xs))) (mp_ok.n (mp_ok.l (ms_14 L xs)) (mp_ok.n (mp_ok.l (ms_15 L xs)) (mp_ok.l (ms_16 L xs))))))) (mp_ok.n (mp_ok.n (mp_ok.n (mp_ok.n (mp_ok.l (ms_17 L xs)) (mp_ok.l (ms_18 L xs))) (mp_ok.n (mp_ok.l (ms_19 L xs)) (mp_ok.l (ms_20 L xs)))) (mp_ok.n (mp_ok.n (mp_ok.l (ms_21 L xs)) (mp_ok.l (ms_22 L xs))) (mp_ok.n (mp_ok.l (ms_23 L xs)) (mp_ok.l (ms_24 L xs))))) (mp_ok.n (mp_ok.n (mp_ok.n (mp_ok.l (ms_25 L xs)) (mp_ok.l (ms_26 L xs))) (mp_ok.n (mp_ok.l (ms_27 L xs)) (mp_ok.l (ms_28 L xs)))) (mp_ok.n (mp_ok.n (mp_ok.l (ms_29 L xs)) (mp_ok.l (ms_30 L xs))) (mp_ok.n (mp_ok.l (ms_31 L xs)) (mp_ok.n (mp_ok.l (ms_32 L xs)) (mp_ok.l (ms_33 L xs)))))))) (mp_ok.n (mp_ok.n (mp_ok.n (mp_ok.n (mp_ok.n (mp_ok.l (ms_34 L xs)) (mp_ok.l (ms_35 L xs))) (mp_ok.n (mp_ok.l (ms_36 L xs)) (mp_ok.l (ms_37 L xs)))) (mp_ok.n (mp_ok.n (mp_ok.l (ms_38 L xs)) (mp_ok.l (ms_39 L xs))) (mp_ok.n (mp_ok.l (ms_40 L xs)) (mp_ok.l (ms_41 L xs))))) (mp_ok.n (mp_ok.n (mp_ok.n (mp_ok.l (ms_42 L xs)) (mp_ok.l (ms_43 L xs))) (mp_ok.n (mp_ok.l (ms_44 L xs)) (mp_ok.l (ms_45 L xs)))) (mp_ok.n (mp_ok.n (mp_ok.l (ms_46 L xs)) (mp_ok.l (ms_47 L xs))) (mp_ok.n (mp_ok.l (ms_48 L xs)) (mp_ok.n (mp_ok.l (ms_49 L xs)) (mp_ok.l (ms_50 L xs))))))) (mp_ok.n (mp_ok.n (mp_ok.n (mp_ok.n (mp_ok.l (ms_51 L xs)) (mp_ok.l (ms_52 L xs))) (mp_ok.n (mp_ok.l (ms_53 L xs)) (mp_ok.l (ms_54 L xs)))) (mp_ok.n (mp_ok.n (mp_ok.l (ms_55 L xs)) (mp_ok.l (ms_56 L xs))) (mp_ok.n (mp_ok.l (ms_57 L xs)) (mp_ok.l (ms_58 L xs))))) (mp_ok.n (mp_ok.n (mp_ok.n (mp_ok.l (ms_59 L xs)) (mp_ok.l (ms_60 L xs))) (mp_ok.n (mp_ok.l (ms_61 L xs)) (mp_ok.l (ms_62 L xs)))) (mp_ok.n (mp_ok.n (mp_ok.l (ms_63 L xs)) (mp_ok.l (ms_64 L xs))) (mp_ok.n (mp_ok.l (ms_65 L xs)) (mp_ok.n (mp_ok.l (ms_66 L xs)) (mp_ok.l (ms_67 L xs))))))))) (mp_ok.n (mp_ok.n (mp_ok.n (mp_ok.n (mp_ok.n (mp_ok.n (mp_ok.l (ms_68 L xs)) (mp_ok.l (ms_69 L xs))) (mp_ok.n (mp_ok.l (ms_70 L xs)) (mp_ok.l (ms_71 L xs)))) (mp_ok.n (mp_ok.n (mp_ok.l (ms_72 L xs)) (mp_ok.l (ms_73 L xs))) (mp_ok.n (mp_ok.l (ms_74 L xs)) (mp_ok.l (ms_75 L xs))))) (mp_ok.n (mp_ok.n (mp_ok.n (mp_ok.l (ms_76 L xs)) (mp_ok.l (ms_77 L xs))) (mp_ok.n (mp_ok.l (ms_78 L xs)) (mp_ok.l (ms_79 L xs)))) (mp_ok.n (mp_ok.n (mp_ok.l (ms_80 L xs)) (mp_ok.l (ms_81 L xs))) (mp_ok.n (mp_ok.l (ms_82 L xs)) (mp_ok.n (mp_ok.l (ms_83 L xs)) (mp_ok.l (ms_84 L xs))))))) (mp_ok.n (mp_ok.n (mp_ok.n (mp_ok.n (mp_ok.l (ms_85 L xs)) (mp_ok.l (ms_86 L xs))) (mp_ok.n (mp_ok.l (ms_87 L xs)) (mp_ok.l (ms_88 L xs)))) (mp_ok.n (mp_ok.n (mp_ok.l (ms_89 L xs)) (mp_ok.l (ms_90 L xs))) (mp_ok.n (mp_ok.l (ms_91 L xs)) (mp_ok.l (ms_92 L xs))))) (mp_ok.n (mp_ok.n (mp_ok.n (mp_ok.l (ms_93 L xs)) (mp_ok.l (ms_94 L xs))) (mp_ok.n (mp_ok.l (ms_95 L xs)) (mp_ok.l (ms_96 L xs)))) (mp_ok.n (mp_ok.n (mp_ok.l (ms_97 L xs)) (mp_ok.l (ms_98 L xs))) (mp_ok.n (mp_ok.l (ms_99 L xs)) (mp_ok.n (mp_ok.l (ms_100 L xs)) (mp_ok.l (ms_101 L xs)))))))) (mp_ok.n (mp_ok.n (mp_ok.n (mp_ok.n (mp_ok.n (mp_ok.l (ms_102 L xs)) (mp_ok.l (ms_103 L xs))) (mp_ok.n (mp_ok.l (ms_104 L xs)) (mp_ok.l (ms_105 L xs)))) (mp_ok.n (mp_ok.n (mp_ok.l (ms_106 L xs)) (mp_ok.l (ms_107 L xs))) (mp_ok.n (mp_ok.l (ms_108 L xs)) (mp_ok.l (ms_109 L xs))))) (mp_ok.n (mp_ok.n (mp_ok.n (mp_ok.l (ms_110 L xs)) (mp_ok.l (ms_111 L xs))) (mp_ok.n (mp_ok.l (ms_112 L xs)) (mp_ok.l (ms_113 L xs)))) (mp_ok.n (mp_ok.n (mp_ok.l (ms_114 L xs)) (mp_ok.l (ms_115 L xs))) (mp_ok.n (mp_ok.l (ms_116 L xs)) (mp_ok.n (mp_ok.l (ms_117 L xs)) (mp_ok.l (ms_118 L xs))))))) (mp_ok.n (mp_ok.n (mp_ok.n (mp_ok.n (mp_ok.l (ms_119 L xs)) (mp_ok.l (ms_120 L xs))) (mp_ok.n (mp_ok.l (ms_121 L xs)) (mp_ok.l (ms_122 L xs)))) (mp_ok.n (mp_ok.n (mp_ok.l (ms_123 L xs)) (mp_ok.l (ms_124 L xs))) (mp_ok.n (mp_ok.l (ms_125 L xs)) (mp_ok.l (ms_126 L xs))))) (mp_ok.n (mp_ok.n (mp_ok.n (mp_ok.l (ms_127 L xs)) (mp_ok.l (ms_128 L xs))) (mp_ok.n (mp_ok.l (ms_129 L xs)) (mp_ok.l (ms_130 L xs)))) (mp_ok.n (mp_ok.n (mp_ok.l (ms_131 L xs)) (mp_ok.l (ms_132 L xs))) (mp_ok.n (mp_ok.l (ms_133 L xs)) (mp_ok.n (mp_ok.l (ms_134 L xs)) (mp_ok.l (ms_135 L xs)))))))))
abbrev mp (L : Nat) (xs : Nat → Int32) : mv_P := (mp_t L xs, fun z => (mg_M z).2.2.1, mg_X)
theorem mpl_0 : plainFor mM_0.nm = true := by decide +kernel
theorem mpl_1 : plainFor mM_1.nm = true := by decide +kernel
theorem mpl_2 : plainFor mM_2.nm = true := by decide +kernel
theorem mpl_3 : plainFor mM_3.nm = true := by decide +kernel
theorem mpl_4 : plainFor mM_4.nm = true := by decide +kernel
theorem mpl_5 : plainFor mM_5.nm = true := by decide +kernel
theorem mpl_6 : plainFor mM_6.nm = true := by decide +kernel
theorem mpl_7 : plainFor mM_7.nm = true := by decide +kernel
theorem mpl_8 : plainFor mM_8.nm = true := by decide +kernel
theorem mpl_9 : plainFor mM_9.nm = true := by decide +kernel
theorem mpl_10 : plainFor mM_10.nm = true := by decide +kernel
theorem mpl_11 : plainFor mM_11.nm = true := by decide +kernel
theorem mpl_12 : plainFor mM_12.nm = true := by decide +kernel
theorem mpl_13 : plainFor mM_13.nm = true := by decide +kernel
theorem mpl_14 : plainFor mM_14.nm = true := by decide +kernel
theorem mpl_15 : plainFor mM_15.nm = true := by decide +kernel
theorem mpl_16 : plainFor mM_16.nm = true := by decide +kernel
theorem mpl_17 : plainFor mM_17.nm = true := by decide +kernel
theorem mpl_18 : plainFor mM_18.nm = true := by decide +kernel
theorem mpl_19 : plainFor mM_19.nm = true := by decide +kernel
theorem mpl_20 : plainFor mM_20.nm = true := by decide +kernel
theorem mpl_21 : plainFor mM_21.nm = true := by decide +kernel
theorem mpl_22 : plainFor mM_22.nm = true := by decide +kernel
theorem mpl_23 : plainFor mM_23.nm = true := by decide +kernel
theorem mpl_24 : plainFor mM_24.nm = true := by decide +kernel
theorem mpl_25 : plainFor mM_25.nm = true := by decide +kernel
theorem mpl_26 : plainFor mM_26.nm = true := by decide +kernel
theorem mpl_27 : plainFor mM_27.nm = true := by decide +kernel
theorem mpl_28 : plainFor mM_28.nm = true := by decide +kernel
theorem mpl_29 : plainFor mM_29.nm = true := by decide +kernel
theorem mpl_30 : plainFor mM_30.nm = true := by decide +kernel
theorem mpl_31 : plainFor mM_31.nm = true := by decide +kernel
theorem mpl_32 : plainFor mM_32.nm = true := by decide +kernel
theorem mpl_33 : plainFor mM_33.nm = true := by decide +kernel
theorem mpl_34 : plainFor mM_34.nm = true := by decide +kernel
theorem mpl_35 : plainFor mM_35.nm = true := by decide +kernel
theorem mpl_36 : plainFor mM_36.nm = true := by decide +kernel
theorem mpl_37 : plainFor mM_37.nm = true := by decide +kernel
theorem mpl_38 : plainFor mM_38.nm = true := by decide +kernel
theorem mpl_39 : plainFor mM_39.nm = true := by decide +kernel
theorem mpl_40 : plainFor mM_40.nm = true := by decide +kernel
theorem mpl_41 : plainFor mM_41.nm = true := by decide +kernel
theorem mpl_42 : plainFor mM_42.nm = true := by decide +kernel
theorem mpl_43 : plainFor mM_43.nm = true := by decide +kernel
theorem mpl_44 : plainFor mM_44.nm = true := by decide +kernel
theorem mpl_45 : plainFor mM_45.nm = true := by decide +kernel
theorem mpl_46 : plainFor mM_46.nm = true := by decide +kernel
theorem mpl_47 : plainFor mM_47.nm = true := by decide +kernel
theorem mpl_48 : plainFor mM_48.nm = true := by decide +kernel
theorem mpl_49 : plainFor mM_49.nm = true := by decide +kernel
theorem mpl_50 : plainFor mM_50.nm = true := by decide +kernel
theorem mpl_51 : plainFor mM_51.nm = true := by decide +kernel
theorem mpl_52 : plainFor mM_52.nm = true := by decide +kernel
theorem mpl_53 : plainFor mM_53.nm = true := by decide +kernel
theorem mpl_54 : plainFor mM_54.nm = true := by decide +kernel
theorem mpl_55 : plainFor mM_55.nm = true := by decide +kernel
theorem mpl_56 : plainFor mM_56.nm = true := by decide +kernel
theorem mpl_57 : plainFor mM_57.nm = true := by decide +kernel
theorem mpl_58 : plainFor mM_58.nm = true := by decide +kernel
theorem mpl_59 : plainFor mM_59.nm = true := by decide +kernel
theorem mpl_60 : plainFor mM_60.nm = true := by decide +kernel
theorem mpl_61 : plainFor mM_61.nm = true := by decide +kernel
theorem mpl_62 : plainFor mM_62.nm = true := by decide +kernel
theorem mpl_63 : plainFor mM_63.nm = true := by decide +kernel
theorem mpl_64 : plainFor mM_64.nm = true := by decide +kernel
theorem mpl_65 : plainFor mM_65.nm = true := by decide +kernel
theorem mpl_66 : plainFor mM_66.nm = true := by decide +kernel
theorem mpl_67 : plainFor mM_67.nm = true := by decide +kernel
theorem mpl_68 : plainFor mM_68.nm = true := by decide +kernel
theorem mpl_69 : plainFor mM_69.nm = true := by decide +kernel
theorem mpl_70 : plainFor mM_70.nm = true := by decide +kernel
theorem mpl_71 : plainFor mM_71.nm = true := by decide +kernel
theorem mpl_72 : plainFor mM_72.nm = true := by decide +kernel
theorem mpl_73 : plainFor mM_73.nm = true := by decide +kernel
theorem mpl_74 : plainFor mM_74.nm = true := by decide +kernel
theorem mpl_75 : plainFor mM_75.nm = true := by decide +kernel
theorem mpl_76 : plainFor mM_76.nm = true := by decide +kernel
theorem mpl_77 : plainFor mM_77.nm = true := by decide +kernel
theorem mpl_78 : plainFor mM_78.nm = true := by decide +kernel
theorem mpl_79 : plainFor mM_79.nm = true := by decide +kernel
theorem mpl_80 : plainFor mM_80.nm = true := by decide +kernel
theorem mpl_81 : plainFor mM_81.nm = true := by decide +kernel
theorem mpl_82 : plainFor mM_82.nm = true := by decide +kernel
theorem mpl_83 : plainFor mM_83.nm = true := by decide +kernel
theorem mpl_84 : plainFor mM_84.nm = true := by decide +kernel
theorem mpl_85 : plainFor mM_85.nm = true := by decide +kernel
theorem mpl_86 : plainFor mM_86.nm = true := by decide +kernel
theorem mpl_87 : plainFor mM_87.nm = true := by decide +kernel
theorem mpl_88 : plainFor mM_88.nm = true := by decide +kernel
theorem mpl_89 : plainFor mM_89.nm = true := by decide +kernel
theorem mpl_90 : plainFor mM_90.nm = true := by decide +kernel
theorem mpl_91 : plainFor mM_91.nm = true := by decide +kernel
theorem mpl_92 : plainFor mM_92.nm = true := by decide +kernel
theorem mpl_93 : plainFor mM_93.nm = true := by decide +kernel
theorem mpl_94 : plainFor mM_94.nm = true := by decide +kernel
theorem mpl_95 : plainFor mM_95.nm = true := by decide +kernel
theorem mpl_96 : plainFor mM_96.nm = true := by decide +kernel
theorem mpl_97 : plainFor mM_97.nm = true := by decide +kernel
theorem mpl_98 : plainFor mM_98.nm = true := by decide +kernel
theorem mpl_99 : plainFor mM_99.nm = true := by decide +kernel
theorem mpl_100 : plainFor mM_100.nm = true := by decide +kernel
theorem mpl_101 : plainFor mM_101.nm = true := by decide +kernel
theorem mpl_102 : plainFor mM_102.nm = true := by decide +kernel
theorem mpl_103 : plainFor mM_103.nm = true := by decide +kernel
theorem mpl_104 : plainFor mM_104.nm = true := by decide +kernel
theorem mpl_105 : plainFor mM_105.nm = true := by decide +kernel
theorem mpl_106 : plainFor mM_106.nm = true := by decide +kernel
theorem mpl_107 : plainFor mM_107.nm = true := by decide +kernel
theorem mpl_108 : plainFor mM_108.nm = true := by decide +kernel
theorem mpl_109 : plainFor mM_109.nm = true := by decide +kernel
theorem mpl_110 : plainFor mM_110.nm = true := by decide +kernel
theorem mpl_111 : plainFor mM_111.nm = true := by decide +kernel
theorem mpl_112 : plainFor mM_112.nm = true := by decide +kernel
theorem mpl_113 : plainFor mM_113.nm = true := by decide +kernel
theorem mpl_114 : plainFor mM_114.nm = true := by decide +kernel
theorem mpl_115 : plainFor mM_115.nm = true := by decide +kernel
theorem mpl_116 : plainFor mM_116.nm = true := by decide +kernel
theorem mpl_117 : plainFor mM_117.nm = true := by decide +kernel
theorem mpl_118 : plainFor mM_118.nm = true := by decide +kernel
theorem mpl_119 : plainFor mM_119.nm = true := by decide +kernel
theorem mpl_120 : plainFor mM_120.nm = true := by decide +kernel
theorem mpl_121 : plainFor mM_121.nm = true := by decide +kernel
theorem mpl_122 : plainFor mM_122.nm = true := by decide +kernel
theorem mpl_123 : plainFor mM_123.nm = true := by decide +kernel
theorem mpl_124 : plainFor mM_124.nm = true := by decide +kernel
theorem mpl_125 : plainFor mM_125.nm = true := by decide +kernel
theorem mpl_126 : plainFor mM_126.nm = true := by decide +kernel
theorem mpl_127 : plainFor mM_127.nm = true := by decide +kernel
theorem mpl_128 : plainFor mM_128.nm = true := by decide +kernel
theorem mpl_129 : plainFor mM_129.nm = true := by decide +kernel
theorem mpl_130 : plainFor mM_130.nm = true := by decide +kernel
theorem mpl_131 : plainFor mM_131.nm = true := by decide +kernel
theorem mpl_132 : plainFor mM_132.nm = true := by decide +kernel
theorem mpl_133 : plainFor mM_133.nm = true := by decide +kernel
theorem mpl_134 : plainFor mM_134.nm = true := by decide +kernel
theorem mpl_135 : plainFor mM_135.nm = true := by decide +kernel
theorem mp_pl : ∀ z, plainFor (mg_M z).nm = true := fun z => mp_c (p := fun Y => plainFor Y.nm = true) (mp_c (p := fun Y => plainFor Y.nm = true) (mp_c (p := fun Y => plainFor Y.nm = true) (mp_c (p := fun Y => plainFor Y.nm = true) (mp_c (p := fun Y => plainFor Y.nm = true) (mp_c (p := fun Y => plainFor Y.nm = true) (mp_c (p := fun Y => plainFor Y.nm = true) (mpl_0) (mpl_1)) (mp_c (p := fun Y => plainFor Y.nm = true) (mpl_2) (mpl_3))) (mp_c (p := fun Y => plainFor Y.nm = true) (mp_c (p := fun Y => plainFor Y.nm = true) (mpl_4) (mpl_5)) (mp_c (p := fun Y => plainFor Y.nm = true) (mpl_6) (mpl_7)))) (mp_c (p := fun Y => plainFor Y.nm = true) (mp_c (p := fun Y => plainFor Y.nm = true) (mp_c (p := fun Y => plainFor Y.nm = true) (mpl_8) (mpl_9)) (mp_c (p := fun Y => plainFor Y.nm = true) (mpl_10) (mpl_11))) (mp_c (p := fun Y => plainFor Y.nm = true) (mp_c (p := fun Y => plainFor Y.nm = true) (mpl_12) (mpl_13)) (mp_c (p := fun Y => plainFor Y.nm = true) (mpl_14) (mp_c (p := fun Y => plainFor Y.nm = true) (mpl_15) (mpl_16)))))) (mp_c (p := fun Y => plainFor Y.nm = true) (mp_c (p := fun Y => plainFor Y.nm = true) (mp_c (p := fun Y => plainFor Y.nm = true) (mp_c (p := fun Y => plainFor Y.nm = true) (mpl_17) (mpl_18)) (mp_c (p := fun Y => plainFor Y.nm = true) (mpl_19) (mpl_20))) (mp_c (p := fun Y => plainFor Y.nm = true) (mp_c (p := fun Y => plainFor Y.nm = true) (mpl_21) (mpl_22)) (mp_c (p := fun Y => plainFor Y.nm = true) (mpl_23) (mpl_24)))) (mp_c (p := fun Y => plainFor Y.nm = true) (mp_c (p := fun Y => plainFor Y.nm = true) (mp_c (p := fun Y => plainFor Y.nm = true) (mpl_25) (mpl_26)) (mp_c (p := fun Y => plainFor Y.nm = true) (mpl_27) (mpl_28))) (mp_c (p := fun Y => plainFor Y.nm = true) (mp_c (p := fun Y => plainFor Y.nm = true) (mpl_29) (mpl_30)) (mp_c (p := fun Y => plainFor Y.nm = true) (mpl_31) (mp_c (p := fun Y => plainFor Y.nm = true) (mpl_32) (mpl_33))))))) (mp_c (p := fun Y => plainFor Y.nm = true) (mp_c (p := fun Y => plainFor Y.nm = true) (mp_c (p := fun Y => plainFor Y.nm = true) (mp_c (p := fun Y => plainFor Y.nm = true) (mp_c (p := fun Y => plainFor Y.nm = true) (mpl_34) (mpl_35)) (mp_c (p := fun Y => plainFor Y.nm = true) (mpl_36) (mpl_37))) (mp_c (p := fun Y => plainFor Y.nm = true) (mp_c (p := fun Y => plainFor Y.nm = true) (mpl_38) (mpl_39)) (mp_c (p := fun Y => plainFor Y.nm = true) (mpl_40) (mpl_41)))) (mp_c (p := fun Y => plainFor Y.nm = true) (mp_c (p := fun Y => plainFor Y.nm = true) (mp_c (p := fun Y => plainFor Y.nm = true) (mpl_42) (mpl_43)) (mp_c (p := fun Y => plainFor Y.nm = true) (mpl_44) (mpl_45))) (mp_c (p := fun Y => plainFor Y.nm = true) (mp_c (p := fun Y => plainFor Y.nm = true) (mpl_46) (mpl_47)) (mp_c (p := fun Y => plainFor Y.nm = true) (mpl_48) (mp_c (p := fun Y => plainFor Y.nm = true) (mpl_49) (mpl_50)))))) (mp_c (p := fun Y => plainFor Y.nm = true) (mp_c (p := fun Y => plainFor Y.nm = true) (mp_c (p := fun Y => plainFor Y.nm = true) (mp_c (p := fun Y => plainFor Y.nm = true) (mpl_51) (mpl_52)) (mp_c (p := fun Y => plainFor Y.nm = true) (mpl_53) (mpl_54))) (mp_c (p := fun Y => plainFor Y.nm = true) (mp_c (p := fun Y => plainFor Y.nm = true) (mpl_55) (mpl_56)) (mp_c (p := fun Y => plainFor Y.nm = true) (mpl_57) (mpl_58)))) (mp_c (p := fun Y => plainFor Y.nm = true) (mp_c (p := fun Y => plainFor Y.nm = true) (mp_c (p := fun Y => plainFor Y.nm = true) (mpl_59) (mpl_60)) (mp_c (p := fun Y => plainFor Y.nm = true) (mpl_61) (mpl_62))) (mp_c (p := fun Y => plainFor Y.nm = true) (mp_c (p := fun Y => plainFor Y.nm = true) (mpl_63) (mpl_64)) (mp_c (p := fun Y => plainFor Y.nm = true) (mpl_65) (mp_c (p := fun Y => plainFor Y.nm = true) (mpl_66) (mpl_67)))))))) (mp_c (p := fun Y => plainFor Y.nm = true) (mp_c (p := fun Y => plainFor Y.nm = true) (mp_c (p := fun Y => plainFor Y.nm = true) (mp_c (p := fun Y => plainFor Y.nm = true) (mp_c (p := fun Y => plainFor Y.nm = true) (mp_c (p := fun Y => plainFor Y.nm = true) (mpl_68) (mpl_69)) (mp_c (p := fun Y => plainFor Y.nm = true) (mpl_70) (mpl_71))) (mp_c (p := fun Y => plainFor Y.nm = true) (mp_c (p := fun Y => plainFor Y.nm = true) (mpl_72) (mpl_73)) (mp_c (p := fun Y => plainFor Y.nm = true) (mpl_74) (mpl_75)))) (mp_c (p := fun Y => plainFor Y.nm = true) (mp_c (p := fun Y => plainFor Y.nm = true) (mp_c (p := fun Y => plainFor Y.nm = true) (mpl_76) (mpl_77)) (mp_c (p := fun Y => plainFor Y.nm = true) (mpl_78) (mpl_79))) (mp_c (p := fun Y => plainFor Y.nm = true) (mp_c (p := fun Y => plainFor Y.nm = true) (mpl_80) (mpl_81)) (mp_c (p := fun Y => plainFor Y.nm = true) (mpl_82) (mp_c (p := fun Y => plainFor Y.nm = true) (mpl_83) (mpl_84)))))) (mp_c (p := fun Y => plainFor Y.nm = true) (mp_c (p := fun Y => plainFor Y.nm = true) (mp_c (p := fun Y => plainFor Y.nm = true) (mp_c (p := fun Y => plainFor Y.nm = true) (mpl_85) (mpl_86)) (mp_c (p := fun Y => plainFor Y.nm = true) (mpl_87) (mpl_88))) (mp_c (p := fun Y => plainFor Y.nm = true) (mp_c (p := fun Y => plainFor Y.nm = true) (mpl_89) (mpl_90)) (mp_c (p := fun Y => plainFor Y.nm = true) (mpl_91) (mpl_92)))) (mp_c (p := fun Y => plainFor Y.nm = true) (mp_c (p := fun Y => plainFor Y.nm = true) (mp_c (p := fun Y => plainFor Y.nm = true) (mpl_93) (mpl_94)) (mp_c (p := fun Y => plainFor Y.nm = true) (mpl_95) (mpl_96))) (mp_c (p := fun Y => plainFor Y.nm = true) (mp_c (p := fun Y => plainFor Y.nm = true) (mpl_97) (mpl_98)) (mp_c (p := fun Y => plainFor Y.nm = true) (mpl_99) (mp_c (p := fun Y => plainFor Y.nm = true) (mpl_100) (mpl_101))))))) (mp_c (p := fun Y => plainFor Y.nm = true) (mp_c (p := fun Y => plainFor Y.nm = true) (mp_c (p := fun Y => plainFor Y.nm = true) (mp_c (p := fun Y => plainFor Y.nm = true) (mp_c (p := fun Y => plainFor Y.nm = true) (mpl_102) (mpl_103)) (mp_c (p := fun Y => plainFor Y.nm = true) (mpl_104) (mpl_105))) (mp_c (p := fun Y => plainFor Y.nm = true) (mp_c (p := fun Y => plainFor Y.nm = true) (mpl_106) (mpl_107)) (mp_c (p := fun Y => plainFor Y.nm = true) (mpl_108) (mpl_109)))) (mp_c (p := fun Y => plainFor Y.nm = true) (mp_c (p := fun Y => plainFor Y.nm = true) (mp_c (p := fun Y => plainFor Y.nm = true) (mpl_110) (mpl_111)) (mp_c (p := fun Y => plainFor Y.nm = true) (mpl_112) (mpl_113))) (mp_c (p := fun Y => plainFor Y.nm = true) (mp_c (p := fun Y => plainFor Y.nm = true) (mpl_114) (mpl_115)) (mp_c (p := fun Y => plainFor Y.nm = true) (mpl_116) (mp_c (p := fun Y => plainFor Y.nm = true) (mpl_117) (mpl_118)))))) (mp_c (p := fun Y => plainFor Y.nm = true) (mp_c (p := fun Y => plainFor Y.nm = true) (mp_c (p := fun Y => plainFor Y.nm = true) (mp_c (p := fun Y => plainFor Y.nm = true) (mpl_119) (mpl_120)) (mp_c (p := fun Y => plainFor Y.nm = true) (mpl_121) (mpl_122))) (mp_c (p := fun Y => plainFor Y.nm = true) (mp_c (p := fun Y => plainFor Y.nm = true) (mpl_123) (mpl_124)) (mp_c (p := fun Y => plainFor Y.nm = true) (mpl_125) (mpl_126)))) (mp_c (p := fun Y => plainFor Y.nm = true) (mp_c (p := fun Y => plainFor Y.nm = true) (mp_c (p := fun Y => plainFor Y.nm = true) (mpl_127) (mpl_128)) (mp_c (p := fun Y => plainFor Y.nm = true) (mpl_129) (mpl_130))) (mp_c (p := fun Y => plainFor Y.nm = true) (mp_c (p := fun Y => plainFor Y.nm = true) (mpl_131) (mpl_132)) (mp_c (p := fun Y => plainFor Y.nm = true) (mpl_133) (mp_c (p := fun Y => plainFor Y.nm = true) (mpl_134) (mpl_135))))))))
theorem mp_Pok (L : Nat) (xs : Nat → Int32) : mv_Pok (mg L xs) (mp L xs) := ⟨mp_tok L xs, fun _ => rfl, fun _ _ _ => rfl, mp_pl⟩
