theorem rf_0_0 : gk_rf 0 0 = 1 := by decide +kernel
theorem rf_0_1 : gk_rf 0 1 = 3 := by decide +kernel
theorem rf_0_2 : gk_rf 0 2 = 5 := by decide +kernel
theorem rf_0_3 : gk_rf 0 3 = 7 := by decide +kernel
theorem rf_0_4 : gk_rf 0 4 = 11 := by decide +kernel
theorem rf_0_5 : gk_rf 0 5 = 15 := by decide +kernel
theorem rf_0_6 : gk_rf 0 6 = 19 := by decide +kernel
theorem rf_0_7 : gk_rf 0 7 = 23 := by decide +kernel
theorem rf_0_8 : gk_rf 0 8 = 25 := by decide +kernel
theorem rf_0_9 : gk_rf 0 9 = 27 := by decide +kernel
theorem rf_0_10 : gk_rf 0 10 = 29 := by decide +kernel
theorem rf_0_11 : gk_rf 0 11 = 31 := by decide +kernel
theorem rf_0_12 : gk_rf 0 12 = 42 := by decide +kernel
theorem rf_0_13 : gk_rf 0 13 = 66 := by decide +kernel
theorem rf_0_14 : gk_rf 0 14 = 90 := by decide +kernel
theorem rf_1_0 : gk_rf 1 0 = 2 := by decide +kernel
theorem ln_2 : gk_ln 2 = 47 := by decide +kernel
theorem rf_3_0 : gk_rf 3 0 = 4 := by decide +kernel
theorem ln_4 : gk_ln 4 = 47 := by decide +kernel
theorem rf_5_0 : gk_rf 5 0 = 6 := by decide +kernel
theorem ln_6 : gk_ln 6 = 47 := by decide +kernel
theorem rf_7_0 : gk_rf 7 0 = 1000 := by decide +kernel
theorem rf_7_3 : gk_rf 7 3 = 8 := by decide +kernel
theorem rf_7_4 : gk_rf 7 4 = 9 := by decide +kernel
theorem rf_7_5 : gk_rf 7 5 = 10 := by decide +kernel
theorem ln_8 : gk_ln 8 = 12 := by decide +kernel
theorem ln_9 : gk_ln 9 = 12 := by decide +kernel
theorem ln_10 : gk_ln 10 = 12 := by decide +kernel
theorem rf_11_0 : gk_rf 11 0 = 1001 := by decide +kernel
theorem rf_11_3 : gk_rf 11 3 = 12 := by decide +kernel
theorem rf_11_4 : gk_rf 11 4 = 13 := by decide +kernel
theorem rf_11_5 : gk_rf 11 5 = 14 := by decide +kernel
theorem ln_12 : gk_ln 12 = 12 := by decide +kernel
theorem ln_13 : gk_ln 13 = 12 := by decide +kernel
theorem ln_14 : gk_ln 14 = 12 := by decide +kernel
theorem rf_15_0 : gk_rf 15 0 = 16 := by decide +kernel
theorem rf_15_1 : gk_rf 15 1 = 17 := by decide +kernel
theorem rf_15_2 : gk_rf 15 2 = 18 := by decide +kernel
theorem ln_16 : gk_ln 16 = 8 := by decide +kernel
theorem ln_17 : gk_ln 17 = 8 := by decide +kernel
theorem ln_18 : gk_ln 18 = 8 := by decide +kernel
theorem rf_19_0 : gk_rf 19 0 = 20 := by decide +kernel
theorem rf_19_1 : gk_rf 19 1 = 21 := by decide +kernel
theorem rf_19_2 : gk_rf 19 2 = 22 := by decide +kernel
theorem ln_20 : gk_ln 20 = 8 := by decide +kernel
theorem ln_21 : gk_ln 21 = 8 := by decide +kernel
theorem ln_22 : gk_ln 22 = 8 := by decide +kernel
theorem rf_23_0 : gk_rf 23 0 = 24 := by decide +kernel
theorem ln_24 : gk_ln 24 = 60 := by decide +kernel
theorem rf_25_0 : gk_rf 25 0 = 26 := by decide +kernel
theorem ln_26 : gk_ln 26 = 60 := by decide +kernel
theorem rf_27_0 : gk_rf 27 0 = 28 := by decide +kernel
theorem ln_28 : gk_ln 28 = 60 := by decide +kernel
theorem rf_29_0 : gk_rf 29 0 = 30 := by decide +kernel
theorem ln_30 : gk_ln 30 = 60 := by decide +kernel
theorem rf_31_1 : gk_rf 31 1 = 32 := by decide +kernel
theorem rf_31_2 : gk_rf 31 2 = 33 := by decide +kernel
theorem rf_31_3 : gk_rf 31 3 = 34 := by decide +kernel
theorem rf_31_4 : gk_rf 31 4 = 35 := by decide +kernel
theorem rf_31_5 : gk_rf 31 5 = 36 := by decide +kernel
theorem rf_31_6 : gk_rf 31 6 = 39 := by decide +kernel
theorem rf_31_7 : gk_rf 31 7 = 40 := by decide +kernel
theorem rf_31_8 : gk_rf 31 8 = 41 := by decide +kernel
theorem ln_32 : gk_ln 32 = 6 := by decide +kernel
theorem ln_33 : gk_ln 33 = 6 := by decide +kernel
theorem ln_34 : gk_ln 34 = 6 := by decide +kernel
theorem ln_35 : gk_ln 35 = 6 := by decide +kernel
theorem rl_36 : gk_rl 36 = 2 := by decide +kernel
theorem rw_36_0 : gk_rw 36 0 = 37 := by decide +kernel
theorem rw_36_1 : gk_rw 36 1 = 38 := by decide +kernel
theorem ln_37 : gk_ln 37 = 24 := by decide +kernel
theorem ln_38 : gk_ln 38 = 24 := by decide +kernel
theorem ln_39 : gk_ln 39 = 24 := by decide +kernel
theorem ln_40 : gk_ln 40 = 24 := by decide +kernel
theorem ln_41 : gk_ln 41 = 24 := by decide +kernel
theorem rf_42_0 : gk_rf 42 0 = 43 := by decide +kernel
theorem rf_42_1 : gk_rf 42 1 = 50 := by decide +kernel
theorem rf_42_2 : gk_rf 42 2 = 57 := by decide +kernel
theorem rf_42_3 : gk_rf 42 3 = 60 := by decide +kernel
theorem rf_42_4 : gk_rf 42 4 = 61 := by decide +kernel
theorem rf_42_5 : gk_rf 42 5 = 62 := by decide +kernel
theorem rf_42_6 : gk_rf 42 6 = 63 := by decide +kernel
theorem rf_42_7 : gk_rf 42 7 = 64 := by decide +kernel
theorem rf_42_8 : gk_rf 42 8 = 65 := by decide +kernel
theorem rl_43 : gk_rl 43 = 6 := by decide +kernel
theorem rw_43_0 : gk_rw 43 0 = 44 := by decide +kernel
theorem rw_43_1 : gk_rw 43 1 = 45 := by decide +kernel
theorem rw_43_2 : gk_rw 43 2 = 46 := by decide +kernel
theorem rw_43_3 : gk_rw 43 3 = 47 := by decide +kernel
theorem rw_43_4 : gk_rw 43 4 = 48 := by decide +kernel
theorem rw_43_5 : gk_rw 43 5 = 49 := by decide +kernel
theorem ln_44 : gk_ln 44 = 24 := by decide +kernel
theorem ln_45 : gk_ln 45 = 24 := by decide +kernel
theorem ln_46 : gk_ln 46 = 24 := by decide +kernel
theorem ln_47 : gk_ln 47 = 24 := by decide +kernel
theorem ln_48 : gk_ln 48 = 24 := by decide +kernel
theorem ln_49 : gk_ln 49 = 24 := by decide +kernel
theorem rl_50 : gk_rl 50 = 6 := by decide +kernel
theorem rw_50_0 : gk_rw 50 0 = 51 := by decide +kernel
theorem rw_50_1 : gk_rw 50 1 = 52 := by decide +kernel
theorem rw_50_2 : gk_rw 50 2 = 53 := by decide +kernel
theorem rw_50_3 : gk_rw 50 3 = 54 := by decide +kernel
theorem rw_50_4 : gk_rw 50 4 = 55 := by decide +kernel
theorem rw_50_5 : gk_rw 50 5 = 56 := by decide +kernel
theorem ln_51 : gk_ln 51 = 24 := by decide +kernel
theorem ln_52 : gk_ln 52 = 24 := by decide +kernel
theorem ln_53 : gk_ln 53 = 24 := by decide +kernel
theorem ln_54 : gk_ln 54 = 24 := by decide +kernel
theorem ln_55 : gk_ln 55 = 24 := by decide +kernel
theorem ln_56 : gk_ln 56 = 24 := by decide +kernel
theorem rl_57 : gk_rl 57 = 2 := by decide +kernel
theorem rw_57_0 : gk_rw 57 0 = 58 := by decide +kernel
theorem rw_57_1 : gk_rw 57 1 = 59 := by decide +kernel
theorem ln_58 : gk_ln 58 = 24 := by decide +kernel
theorem ln_59 : gk_ln 59 = 24 := by decide +kernel
theorem ln_60 : gk_ln 60 = 24 := by decide +kernel
theorem ln_61 : gk_ln 61 = 6 := by decide +kernel
theorem ln_62 : gk_ln 62 = 6 := by decide +kernel
theorem ln_63 : gk_ln 63 = 6 := by decide +kernel
theorem ln_64 : gk_ln 64 = 2 := by decide +kernel
theorem ln_65 : gk_ln 65 = 2 := by decide +kernel
theorem rf_66_0 : gk_rf 66 0 = 67 := by decide +kernel
theorem rf_66_1 : gk_rf 66 1 = 74 := by decide +kernel
theorem rf_66_2 : gk_rf 66 2 = 81 := by decide +kernel
theorem rf_66_3 : gk_rf 66 3 = 84 := by decide +kernel
theorem rf_66_4 : gk_rf 66 4 = 85 := by decide +kernel
theorem rf_66_5 : gk_rf 66 5 = 86 := by decide +kernel
theorem rf_66_6 : gk_rf 66 6 = 87 := by decide +kernel
theorem rf_66_7 : gk_rf 66 7 = 88 := by decide +kernel
theorem rf_66_8 : gk_rf 66 8 = 89 := by decide +kernel
theorem rl_67 : gk_rl 67 = 6 := by decide +kernel
theorem rw_67_0 : gk_rw 67 0 = 68 := by decide +kernel
theorem rw_67_1 : gk_rw 67 1 = 69 := by decide +kernel
theorem rw_67_2 : gk_rw 67 2 = 70 := by decide +kernel
theorem rw_67_3 : gk_rw 67 3 = 71 := by decide +kernel
theorem rw_67_4 : gk_rw 67 4 = 72 := by decide +kernel
theorem rw_67_5 : gk_rw 67 5 = 73 := by decide +kernel
theorem ln_68 : gk_ln 68 = 24 := by decide +kernel
theorem ln_69 : gk_ln 69 = 24 := by decide +kernel
theorem ln_70 : gk_ln 70 = 24 := by decide +kernel
theorem ln_71 : gk_ln 71 = 24 := by decide +kernel
theorem ln_72 : gk_ln 72 = 24 := by decide +kernel
theorem ln_73 : gk_ln 73 = 24 := by decide +kernel
theorem rl_74 : gk_rl 74 = 6 := by decide +kernel
theorem rw_74_0 : gk_rw 74 0 = 75 := by decide +kernel
theorem rw_74_1 : gk_rw 74 1 = 76 := by decide +kernel
theorem rw_74_2 : gk_rw 74 2 = 77 := by decide +kernel
theorem rw_74_3 : gk_rw 74 3 = 78 := by decide +kernel
theorem rw_74_4 : gk_rw 74 4 = 79 := by decide +kernel
theorem rw_74_5 : gk_rw 74 5 = 80 := by decide +kernel
theorem ln_75 : gk_ln 75 = 24 := by decide +kernel
theorem ln_76 : gk_ln 76 = 24 := by decide +kernel
theorem ln_77 : gk_ln 77 = 24 := by decide +kernel
theorem ln_78 : gk_ln 78 = 24 := by decide +kernel
theorem ln_79 : gk_ln 79 = 24 := by decide +kernel
theorem ln_80 : gk_ln 80 = 24 := by decide +kernel
theorem rl_81 : gk_rl 81 = 2 := by decide +kernel
theorem rw_81_0 : gk_rw 81 0 = 82 := by decide +kernel
theorem rw_81_1 : gk_rw 81 1 = 83 := by decide +kernel
theorem ln_82 : gk_ln 82 = 24 := by decide +kernel
theorem ln_83 : gk_ln 83 = 24 := by decide +kernel
theorem ln_84 : gk_ln 84 = 24 := by decide +kernel
theorem ln_85 : gk_ln 85 = 6 := by decide +kernel
theorem ln_86 : gk_ln 86 = 6 := by decide +kernel
theorem ln_87 : gk_ln 87 = 6 := by decide +kernel
theorem ln_88 : gk_ln 88 = 2 := by decide +kernel
theorem ln_89 : gk_ln 89 = 2 := by decide +kernel
theorem rl_90 : gk_rl 90 = 10 := by decide +kernel
theorem rw_90_0 : gk_rw 90 0 = 91 := by decide +kernel
theorem rw_90_1 : gk_rw 90 1 = 92 := by decide +kernel
theorem rw_90_2 : gk_rw 90 2 = 93 := by decide +kernel
theorem rw_90_3 : gk_rw 90 3 = 94 := by decide +kernel
theorem rw_90_4 : gk_rw 90 4 = 95 := by decide +kernel
theorem rw_90_5 : gk_rw 90 5 = 96 := by decide +kernel
theorem rw_90_6 : gk_rw 90 6 = 97 := by decide +kernel
theorem rw_90_7 : gk_rw 90 7 = 98 := by decide +kernel
theorem rw_90_8 : gk_rw 90 8 = 99 := by decide +kernel
theorem rw_90_9 : gk_rw 90 9 = 100 := by decide +kernel
theorem ln_91 : gk_ln 91 = 24 := by decide +kernel
theorem ln_92 : gk_ln 92 = 24 := by decide +kernel
theorem ln_93 : gk_ln 93 = 24 := by decide +kernel
theorem ln_94 : gk_ln 94 = 24 := by decide +kernel
theorem ln_95 : gk_ln 95 = 24 := by decide +kernel
theorem ln_96 : gk_ln 96 = 24 := by decide +kernel
theorem ln_97 : gk_ln 97 = 24 := by decide +kernel
theorem ln_98 : gk_ln 98 = 24 := by decide +kernel
theorem ln_99 : gk_ln 99 = 24 := by decide +kernel
theorem ln_100 : gk_ln 100 = 24 := by decide +kernel
theorem rf_101_0 : gk_rf 101 0 = 102 := by decide +kernel
theorem rf_101_1 : gk_rf 101 1 = 103 := by decide +kernel
theorem rf_101_3 : gk_rf 101 3 = 104 := by decide +kernel
theorem rf_101_4 : gk_rf 101 4 = 105 := by decide +kernel
theorem rf_101_5 : gk_rf 101 5 = 106 := by decide +kernel
theorem rf_101_7 : gk_rf 101 7 = 107 := by decide +kernel
theorem rf_101_8 : gk_rf 101 8 = 108 := by decide +kernel
theorem rf_101_9 : gk_rf 101 9 = 109 := by decide +kernel
theorem rf_101_11 : gk_rf 101 11 = 110 := by decide +kernel
theorem rf_101_13 : gk_rf 101 13 = 111 := by decide +kernel
theorem rf_101_14 : gk_rf 101 14 = 112 := by decide +kernel
theorem rf_101_15 : gk_rf 101 15 = 113 := by decide +kernel
theorem rf_101_16 : gk_rf 101 16 = 114 := by decide +kernel
theorem rf_101_21 : gk_rf 101 21 = 115 := by decide +kernel
theorem rf_101_22 : gk_rf 101 22 = 116 := by decide +kernel
theorem rf_101_23 : gk_rf 101 23 = 117 := by decide +kernel
theorem rf_101_25 : gk_rf 101 25 = 118 := by decide +kernel
theorem rf_101_26 : gk_rf 101 26 = 119 := by decide +kernel
theorem rf_101_31 : gk_rf 101 31 = 120 := by decide +kernel
theorem rf_101_32 : gk_rf 101 32 = 121 := by decide +kernel
theorem rf_101_33 : gk_rf 101 33 = 122 := by decide +kernel
theorem rf_101_34 : gk_rf 101 34 = 123 := by decide +kernel
theorem rf_101_35 : gk_rf 101 35 = 124 := by decide +kernel
theorem rf_101_36 : gk_rf 101 36 = 125 := by decide +kernel
theorem rf_101_38 : gk_rf 101 38 = 126 := by decide +kernel
theorem rf_101_39 : gk_rf 101 39 = 127 := by decide +kernel
theorem rf_101_40 : gk_rf 101 40 = 128 := by decide +kernel
theorem rf_101_41 : gk_rf 101 41 = 129 := by decide +kernel
theorem rf_101_42 : gk_rf 101 42 = 130 := by decide +kernel
theorem rf_101_43 : gk_rf 101 43 = 131 := by decide +kernel
theorem rf_101_44 : gk_rf 101 44 = 132 := by decide +kernel
theorem rf_101_45 : gk_rf 101 45 = 133 := by decide +kernel
theorem rf_101_46 : gk_rf 101 46 = 134 := by decide +kernel
theorem ln_102 : gk_ln 102 = 3 := by decide +kernel
theorem ln_103 : gk_ln 103 = 141 := by decide +kernel
theorem ln_104 : gk_ln 104 = 7 := by decide +kernel
theorem ln_105 : gk_ln 105 = 7 := by decide +kernel
theorem ln_106 : gk_ln 106 = 7 := by decide +kernel
theorem ln_107 : gk_ln 107 = 13 := by decide +kernel
theorem ln_108 : gk_ln 108 = 13 := by decide +kernel
theorem ln_109 : gk_ln 109 = 13 := by decide +kernel
theorem ln_110 : gk_ln 110 = 24 := by decide +kernel
theorem ln_111 : gk_ln 111 = 8 := by decide +kernel
theorem ln_112 : gk_ln 112 = 8 := by decide +kernel
theorem ln_113 : gk_ln 113 = 8 := by decide +kernel
theorem ln_114 : gk_ln 114 = 24 := by decide +kernel
theorem ln_115 : gk_ln 115 = 6 := by decide +kernel
theorem ln_116 : gk_ln 116 = 6 := by decide +kernel
theorem ln_117 : gk_ln 117 = 6 := by decide +kernel
theorem ln_118 : gk_ln 118 = 2 := by decide +kernel
theorem ln_119 : gk_ln 119 = 2 := by decide +kernel
theorem ln_120 : gk_ln 120 = 48 := by decide +kernel
theorem ln_121 : gk_ln 121 = 24 := by decide +kernel
theorem ln_122 : gk_ln 122 = 24 := by decide +kernel
theorem ln_123 : gk_ln 123 = 144 := by decide +kernel
theorem ln_124 : gk_ln 124 = 144 := by decide +kernel
theorem ln_125 : gk_ln 125 = 2 := by decide +kernel
theorem ln_126 : gk_ln 126 = 8 := by decide +kernel
theorem ln_127 : gk_ln 127 = 8 := by decide +kernel
theorem ln_128 : gk_ln 128 = 8 := by decide +kernel
theorem ln_129 : gk_ln 129 = 240 := by decide +kernel
theorem ln_130 : gk_ln 130 = 4 := by decide +kernel
theorem ln_131 : gk_ln 131 = 4 := by decide +kernel
theorem ln_132 : gk_ln 132 = 4 := by decide +kernel
theorem ln_133 : gk_ln 133 = 240 := by decide +kernel
theorem ln_134 : gk_ln 134 = 60 := by decide +kernel
theorem gk_up_s {μ : gk_St} {a i : Nat} {x : Int32} : gk_up μ a i x a = upd (μ a) i x := if_pos rfl
theorem gk_up_n {μ : gk_St} {a b i : Nat} {x : Int32} (h : b ≠ a) : gk_up μ a i x b = μ b := if_neg h
theorem upd_s {f : Nat → Int32} {k : Nat} {x : Int32} : upd f k x k = x := if_pos rfl
theorem upd_n {f : Nat → Int32} {k j : Nat} {x : Int32} (h : j ≠ k) : upd f k x j = f j := if_neg h
theorem vi {k n a : Nat} (hk : k < n) (hn : gk_ln a = n) (hb : n < 1000) : vp_in (nI k) (gk_ln a) := by rw [hn]; exact vp_in_nI hk (by omega)
theorem vr {k n a : Nat} (hk : k < n) (hn : gk_rl a = n) (hb : n < 1000) : vp_in (nI k) (gk_rl a) := by rw [hn]; exact vp_in_nI hk (by omega)
theorem z0c : (0 : Int32).toNatClampNeg = 0 := by decide
theorem z1c : (1 : Int32).toNatClampNeg = 1 := by decide
theorem kc {k : Nat} (h : k < 10000) : (nI k).toNatClampNeg = k := nI_clamp (by omega)
