set_option maxRecDepth 100000 in
theorem cl_0 : gk_cl 0 RX0 TX0 4 tyX0 := ⟨by decide, rfl, fun w h => List.mem_filter.mpr ⟨inX0 w h, List.all_eq_true.mp (show (wsX00).all goodWord = true by decide +kernel) w h⟩, tyX0_ok, nmX0⟩
set_option maxRecDepth 100000 in
theorem cl_1 : gk_cl 1 RX1 TX1 9 tyX1 := ⟨by decide, rfl, fun w h => List.mem_filter.mpr ⟨inX1 w h, List.all_eq_true.mp (show (wsX10).all goodWord = true by decide +kernel) w h⟩, tyX1_ok, nmX1⟩
set_option maxRecDepth 100000 in
theorem cl_2 : gk_cl 2 RX2 TX2 13 tyX2 := ⟨by decide, rfl, fun w h => List.mem_filter.mpr ⟨inX2 w h, List.all_eq_true.mp (show (wsX20).all goodWord = true by decide +kernel) w h⟩, tyX2_ok, nmX2⟩
set_option maxRecDepth 100000 in
theorem cl_3 : gk_cl 3 RX3 TX3 4 tyX3 := ⟨by decide, rfl, fun w h => List.mem_filter.mpr ⟨inX3 w h, List.all_eq_true.mp (show (wsX30).all goodWord = true by decide +kernel) w h⟩, tyX3_ok, nmX3⟩
set_option maxRecDepth 100000 in
theorem cl_4 : gk_cl 4 RX4 TX4 4 tyX4 := ⟨by decide, rfl, fun w h => List.mem_filter.mpr ⟨inX4 w h, List.all_eq_true.mp (show (wsX40).all goodWord = true by decide +kernel) w h⟩, tyX4_ok, nmX4⟩
set_option maxRecDepth 100000 in
theorem cl_5 : gk_cl 5 RX5 TX5 3 tyX5 := ⟨by decide, rfl, fun w h => List.mem_filter.mpr ⟨inX5 w h, List.all_eq_true.mp (show (wsX50).all goodWord = true by decide +kernel) w h⟩, tyX5_ok, nmX5⟩
set_option maxRecDepth 100000 in
theorem cl_6 : gk_cl 6 RX6 TX6 8 tyX6 := ⟨by decide, rfl, fun w h => List.mem_filter.mpr ⟨inX6 w h, List.all_eq_true.mp (show (wsX60).all goodWord = true by decide +kernel) w h⟩, tyX6_ok, nmX6⟩
set_option maxRecDepth 100000 in
theorem cl_7 : gk_cl 7 RX7 TX7 18 tyX7 := ⟨by decide, rfl, fun w h => List.mem_filter.mpr ⟨inX7 w h, List.all_eq_true.mp (show (wsX70).all goodWord = true by decide +kernel) w h⟩, tyX7_ok, nmX7⟩
set_option maxRecDepth 100000 in
theorem cl_8 : gk_cl 8 RX8 TX8 48 tyX8 := ⟨by decide, rfl, fun w h => List.mem_filter.mpr ⟨inX8 w h, List.all_eq_true.mp (show (wsX80).all goodWord = true by decide +kernel) w h⟩, tyX8_ok, nmX8⟩
set_option maxRecDepth 100000 in
theorem fl_RX7_14 : gk_fl RX7 14 7 0 := ⟨_, _, _, _, cl_7, by decide, lk_RX7_14⟩
set_option maxRecDepth 100000 in
theorem fl_RX7_18 : gk_fl RX7 18 7 1 := ⟨_, _, _, _, cl_7, by decide, lk_RX7_18⟩
set_option maxRecDepth 100000 in
theorem fl_RX7_21 : gk_fl RX7 21 7 2 := ⟨_, _, _, _, cl_7, by decide, lk_RX7_21⟩
set_option maxRecDepth 100000 in
theorem fl_RX7_31 : gk_fl RX7 31 7 3 := ⟨_, _, _, _, cl_7, by decide, lk_RX7_31⟩
set_option maxRecDepth 100000 in
theorem fl_RX7_37 : gk_fl RX7 37 7 4 := ⟨_, _, _, _, cl_7, by decide, lk_RX7_37⟩
set_option maxRecDepth 100000 in
theorem fl_RX7_43 : gk_fl RX7 43 7 5 := ⟨_, _, _, _, cl_7, by decide, lk_RX7_43⟩
set_option maxRecDepth 100000 in
theorem fl_RX7_50 : gk_fl RX7 50 7 6 := ⟨_, _, _, _, cl_7, by decide, lk_RX7_50⟩
set_option maxRecDepth 100000 in
theorem fl_RX7_57 : gk_fl RX7 57 7 7 := ⟨_, _, _, _, cl_7, by decide, lk_RX7_57⟩
set_option maxRecDepth 100000 in
theorem fl_RX7_61 : gk_fl RX7 61 7 8 := ⟨_, _, _, _, cl_7, by decide, lk_RX7_61⟩
set_option maxRecDepth 100000 in
theorem fl_RX7_64 : gk_fl RX7 64 7 9 := ⟨_, _, _, _, cl_7, by decide, lk_RX7_64⟩
set_option maxRecDepth 100000 in
theorem fl_RX7_67 : gk_fl RX7 67 7 10 := ⟨_, _, _, _, cl_7, by decide, lk_RX7_67⟩
set_option maxRecDepth 100000 in
theorem fl_RX7_73 : gk_fl RX7 73 7 11 := ⟨_, _, _, _, cl_7, by decide, lk_RX7_73⟩
set_option maxRecDepth 100000 in
theorem fl_RX7_80 : gk_fl RX7 80 7 12 := ⟨_, _, _, _, cl_7, by decide, lk_RX7_80⟩
set_option maxRecDepth 100000 in
theorem fl_RX7_84 : gk_fl RX7 84 7 13 := ⟨_, _, _, _, cl_7, by decide, lk_RX7_84⟩
set_option maxRecDepth 100000 in
theorem fl_RX7_89 : gk_fl RX7 89 7 14 := ⟨_, _, _, _, cl_7, by decide, lk_RX7_89⟩
set_option maxRecDepth 100000 in
theorem fl_RX7_92 : gk_fl RX7 92 7 15 := ⟨_, _, _, _, cl_7, by decide, lk_RX7_92⟩
set_option maxRecDepth 100000 in
theorem fp_RX7_92 : gk_fp RX7 92 7 15 .int := ⟨_, _, _, _, cl_7, by decide, lk_RX7_92, rfl, rfl⟩
set_option maxRecDepth 100000 in
theorem fl_RX7_96 : gk_fl RX7 96 7 16 := ⟨_, _, _, _, cl_7, by decide, lk_RX7_96⟩
set_option maxRecDepth 100000 in
theorem fp_RX7_96 : gk_fp RX7 96 7 16 .boolean := ⟨_, _, _, _, cl_7, by decide, lk_RX7_96, rfl, rfl⟩
set_option maxRecDepth 100000 in
theorem fl_RX7_100 : gk_fl RX7 100 7 17 := ⟨_, _, _, _, cl_7, by decide, lk_RX7_100⟩
set_option maxRecDepth 100000 in
theorem fp_RX7_100 : gk_fp RX7 100 7 17 .int := ⟨_, _, _, _, cl_7, by decide, lk_RX7_100, rfl, rfl⟩
set_option maxRecDepth 100000 in
theorem fl_RX7_121 : gk_fl RX7 121 5 2 := ⟨_, _, _, _, cl_5, by decide, lk_RX7_121⟩
set_option maxRecDepth 100000 in
theorem fp_RX7_121 : gk_fp RX7 121 5 2 .int := ⟨_, _, _, _, cl_5, by decide, lk_RX7_121, rfl, rfl⟩
set_option maxRecDepth 100000 in
theorem fl_RX7_124 : gk_fl RX7 124 6 7 := ⟨_, _, _, _, cl_6, by decide, lk_RX7_124⟩
set_option maxRecDepth 100000 in
theorem fp_RX7_124 : gk_fp RX7 124 6 7 .int := ⟨_, _, _, _, cl_6, by decide, lk_RX7_124, rfl, rfl⟩
set_option maxRecDepth 100000 in
theorem fl_RX7_135 : gk_fl RX7 135 6 6 := ⟨_, _, _, _, cl_6, by decide, lk_RX7_135⟩
set_option maxRecDepth 100000 in
theorem fp_RX7_135 : gk_fp RX7 135 6 6 .int := ⟨_, _, _, _, cl_6, by decide, lk_RX7_135, rfl, rfl⟩
set_option maxRecDepth 100000 in
theorem fl_RX7_152 : gk_fl RX7 152 0 3 := ⟨_, _, _, _, cl_0, by decide, lk_RX7_152⟩
set_option maxRecDepth 100000 in
theorem fp_RX7_152 : gk_fp RX7 152 0 3 .int := ⟨_, _, _, _, cl_0, by decide, lk_RX7_152, rfl, rfl⟩
set_option maxRecDepth 100000 in
theorem fl_RX7_157 : gk_fl RX7 157 3 1 := ⟨_, _, _, _, cl_3, by decide, lk_RX7_157⟩
set_option maxRecDepth 100000 in
theorem fp_RX7_157 : gk_fp RX7 157 3 1 .boolean := ⟨_, _, _, _, cl_3, by decide, lk_RX7_157, rfl, rfl⟩
set_option maxRecDepth 100000 in
theorem fl_RX7_163 : gk_fl RX7 163 3 3 := ⟨_, _, _, _, cl_3, by decide, lk_RX7_163⟩
set_option maxRecDepth 100000 in
theorem fp_RX7_163 : gk_fp RX7 163 3 3 .int := ⟨_, _, _, _, cl_3, by decide, lk_RX7_163, rfl, rfl⟩
set_option maxRecDepth 100000 in
theorem fl_RX7_164 : gk_fl RX7 164 3 0 := ⟨_, _, _, _, cl_3, by decide, lk_RX7_164⟩
set_option maxRecDepth 100000 in
theorem fl_RX7_176 : gk_fl RX7 176 2 0 := ⟨_, _, _, _, cl_2, by decide, lk_RX7_176⟩
set_option maxRecDepth 100000 in
theorem fl_RX7_179 : gk_fl RX7 179 2 1 := ⟨_, _, _, _, cl_2, by decide, lk_RX7_179⟩
set_option maxRecDepth 100000 in
theorem fl_RX7_182 : gk_fl RX7 182 2 2 := ⟨_, _, _, _, cl_2, by decide, lk_RX7_182⟩
set_option maxRecDepth 100000 in
theorem fl_RX7_188 : gk_fl RX7 188 2 3 := ⟨_, _, _, _, cl_2, by decide, lk_RX7_188⟩
set_option maxRecDepth 100000 in
theorem fl_RX7_194 : gk_fl RX7 194 2 8 := ⟨_, _, _, _, cl_2, by decide, lk_RX7_194⟩
set_option maxRecDepth 100000 in
theorem fl_RX7_201 : gk_fl RX7 201 2 11 := ⟨_, _, _, _, cl_2, by decide, lk_RX7_201⟩
set_option maxRecDepth 100000 in
theorem fp_RX7_201 : gk_fp RX7 201 2 11 .int := ⟨_, _, _, _, cl_2, by decide, lk_RX7_201, rfl, rfl⟩
set_option maxRecDepth 100000 in
theorem fl_RX7_204 : gk_fl RX7 204 2 12 := ⟨_, _, _, _, cl_2, by decide, lk_RX7_204⟩
set_option maxRecDepth 100000 in
theorem fp_RX7_204 : gk_fp RX7 204 2 12 .int := ⟨_, _, _, _, cl_2, by decide, lk_RX7_204, rfl, rfl⟩
set_option maxRecDepth 100000 in
theorem fl_RX7_207 : gk_fl RX7 207 2 6 := ⟨_, _, _, _, cl_2, by decide, lk_RX7_207⟩
set_option maxRecDepth 100000 in
theorem fl_RX7_210 : gk_fl RX7 210 2 10 := ⟨_, _, _, _, cl_2, by decide, lk_RX7_210⟩
set_option maxRecDepth 100000 in
theorem fp_RX7_210 : gk_fp RX7 210 2 10 .int := ⟨_, _, _, _, cl_2, by decide, lk_RX7_210, rfl, rfl⟩
set_option maxRecDepth 100000 in
theorem fl_RX7_224 : gk_fl RX7 224 1 1 := ⟨_, _, _, _, cl_1, by decide, lk_RX7_224⟩
set_option maxRecDepth 100000 in
theorem fl_RX7_234 : gk_fl RX7 234 1 6 := ⟨_, _, _, _, cl_1, by decide, lk_RX7_234⟩
set_option maxRecDepth 100000 in
theorem fl_RX7_250 : gk_fl RX7 250 4 3 := ⟨_, _, _, _, cl_4, by decide, lk_RX7_250⟩
set_option maxRecDepth 100000 in
theorem fp_RX7_250 : gk_fp RX7 250 4 3 .int := ⟨_, _, _, _, cl_4, by decide, lk_RX7_250, rfl, rfl⟩
set_option maxRecDepth 100000 in
theorem fl_RX7_293 : gk_fl RX7 293 3 2 := ⟨_, _, _, _, cl_3, by decide, lk_RX7_293⟩
set_option maxRecDepth 100000 in
theorem fp_RX7_293 : gk_fp RX7 293 3 2 .int := ⟨_, _, _, _, cl_3, by decide, lk_RX7_293, rfl, rfl⟩
set_option maxRecDepth 100000 in
theorem fl_RX7_400 : gk_fl RX7 400 5 0 := ⟨_, _, _, _, cl_5, by decide, lk_RX7_400⟩
set_option maxRecDepth 100000 in
theorem fl_RX7_403 : gk_fl RX7 403 6 3 := ⟨_, _, _, _, cl_6, by decide, lk_RX7_403⟩
set_option maxRecDepth 100000 in
theorem fl_RX7_413 : gk_fl RX7 413 6 5 := ⟨_, _, _, _, cl_6, by decide, lk_RX7_413⟩
set_option maxRecDepth 100000 in
theorem fl_RX7_423 : gk_fl RX7 423 1 3 := ⟨_, _, _, _, cl_1, by decide, lk_RX7_423⟩
set_option maxRecDepth 100000 in
theorem fl_RX7_426 : gk_fl RX7 426 1 2 := ⟨_, _, _, _, cl_1, by decide, lk_RX7_426⟩
set_option maxRecDepth 100000 in
theorem fl_RX0_9 : gk_fl RX0 9 0 0 := ⟨_, _, _, _, cl_0, by decide, lk_RX0_9⟩
set_option maxRecDepth 100000 in
theorem fl_RX0_15 : gk_fl RX0 15 0 1 := ⟨_, _, _, _, cl_0, by decide, lk_RX0_15⟩
set_option maxRecDepth 100000 in
theorem fl_RX0_18 : gk_fl RX0 18 0 2 := ⟨_, _, _, _, cl_0, by decide, lk_RX0_18⟩
set_option maxRecDepth 100000 in
theorem fl_RX0_21 : gk_fl RX0 21 0 3 := ⟨_, _, _, _, cl_0, by decide, lk_RX0_21⟩
set_option maxRecDepth 100000 in
theorem fp_RX0_21 : gk_fp RX0 21 0 3 .int := ⟨_, _, _, _, cl_0, by decide, lk_RX0_21, rfl, rfl⟩
set_option maxRecDepth 100000 in
theorem fl_RX1_9 : gk_fl RX1 9 1 0 := ⟨_, _, _, _, cl_1, by decide, lk_RX1_9⟩
set_option maxRecDepth 100000 in
theorem fp_RX1_9 : gk_fp RX1 9 1 0 .int := ⟨_, _, _, _, cl_1, by decide, lk_RX1_9, rfl, rfl⟩
set_option maxRecDepth 100000 in
theorem fl_RX1_15 : gk_fl RX1 15 1 1 := ⟨_, _, _, _, cl_1, by decide, lk_RX1_15⟩
set_option maxRecDepth 100000 in
theorem fl_RX1_19 : gk_fl RX1 19 1 2 := ⟨_, _, _, _, cl_1, by decide, lk_RX1_19⟩
set_option maxRecDepth 100000 in
theorem fl_RX1_22 : gk_fl RX1 22 1 3 := ⟨_, _, _, _, cl_1, by decide, lk_RX1_22⟩
set_option maxRecDepth 100000 in
theorem fl_RX1_25 : gk_fl RX1 25 1 4 := ⟨_, _, _, _, cl_1, by decide, lk_RX1_25⟩
set_option maxRecDepth 100000 in
theorem fl_RX1_30 : gk_fl RX1 30 1 5 := ⟨_, _, _, _, cl_1, by decide, lk_RX1_30⟩
set_option maxRecDepth 100000 in
theorem fl_RX1_33 : gk_fl RX1 33 1 6 := ⟨_, _, _, _, cl_1, by decide, lk_RX1_33⟩
set_option maxRecDepth 100000 in
theorem fl_RX1_36 : gk_fl RX1 36 1 7 := ⟨_, _, _, _, cl_1, by decide, lk_RX1_36⟩
set_option maxRecDepth 100000 in
theorem fl_RX1_40 : gk_fl RX1 40 1 8 := ⟨_, _, _, _, cl_1, by decide, lk_RX1_40⟩
set_option maxRecDepth 100000 in
theorem fl_RX1_43 : gk_fl RX1 43 6 6 := ⟨_, _, _, _, cl_6, by decide, lk_RX1_43⟩
set_option maxRecDepth 100000 in
theorem fp_RX1_43 : gk_fp RX1 43 6 6 .int := ⟨_, _, _, _, cl_6, by decide, lk_RX1_43, rfl, rfl⟩
set_option maxRecDepth 100000 in
theorem fl_RX1_54 : gk_fl RX1 54 6 3 := ⟨_, _, _, _, cl_6, by decide, lk_RX1_54⟩
set_option maxRecDepth 100000 in
theorem fl_RX1_57 : gk_fl RX1 57 6 4 := ⟨_, _, _, _, cl_6, by decide, lk_RX1_57⟩
set_option maxRecDepth 100000 in
theorem fl_RX1_60 : gk_fl RX1 60 6 5 := ⟨_, _, _, _, cl_6, by decide, lk_RX1_60⟩
set_option maxRecDepth 100000 in
theorem fl_RX1_69 : gk_fl RX1 69 0 3 := ⟨_, _, _, _, cl_0, by decide, lk_RX1_69⟩
set_option maxRecDepth 100000 in
theorem fp_RX1_69 : gk_fp RX1 69 0 3 .int := ⟨_, _, _, _, cl_0, by decide, lk_RX1_69, rfl, rfl⟩
set_option maxRecDepth 100000 in
theorem fl_RX1_72 : gk_fl RX1 72 0 0 := ⟨_, _, _, _, cl_0, by decide, lk_RX1_72⟩
set_option maxRecDepth 100000 in
theorem fl_RX1_75 : gk_fl RX1 75 0 1 := ⟨_, _, _, _, cl_0, by decide, lk_RX1_75⟩
set_option maxRecDepth 100000 in
theorem fl_RX1_78 : gk_fl RX1 78 0 2 := ⟨_, _, _, _, cl_0, by decide, lk_RX1_78⟩
set_option maxRecDepth 100000 in
theorem fl_RX2_11 : gk_fl RX2 11 2 0 := ⟨_, _, _, _, cl_2, by decide, lk_RX2_11⟩
set_option maxRecDepth 100000 in
theorem fl_RX2_16 : gk_fl RX2 16 2 1 := ⟨_, _, _, _, cl_2, by decide, lk_RX2_16⟩
set_option maxRecDepth 100000 in
theorem fl_RX2_19 : gk_fl RX2 19 2 2 := ⟨_, _, _, _, cl_2, by decide, lk_RX2_19⟩
set_option maxRecDepth 100000 in
theorem fl_RX2_22 : gk_fl RX2 22 2 3 := ⟨_, _, _, _, cl_2, by decide, lk_RX2_22⟩
set_option maxRecDepth 100000 in
theorem fl_RX2_26 : gk_fl RX2 26 2 4 := ⟨_, _, _, _, cl_2, by decide, lk_RX2_26⟩
set_option maxRecDepth 100000 in
theorem fl_RX2_29 : gk_fl RX2 29 2 5 := ⟨_, _, _, _, cl_2, by decide, lk_RX2_29⟩
set_option maxRecDepth 100000 in
theorem fl_RX2_32 : gk_fl RX2 32 2 6 := ⟨_, _, _, _, cl_2, by decide, lk_RX2_32⟩
set_option maxRecDepth 100000 in
theorem fl_RX2_35 : gk_fl RX2 35 2 7 := ⟨_, _, _, _, cl_2, by decide, lk_RX2_35⟩
set_option maxRecDepth 100000 in
theorem fl_RX2_38 : gk_fl RX2 38 2 8 := ⟨_, _, _, _, cl_2, by decide, lk_RX2_38⟩
set_option maxRecDepth 100000 in
theorem fl_RX2_41 : gk_fl RX2 41 2 9 := ⟨_, _, _, _, cl_2, by decide, lk_RX2_41⟩
set_option maxRecDepth 100000 in
theorem fp_RX2_41 : gk_fp RX2 41 2 9 .int := ⟨_, _, _, _, cl_2, by decide, lk_RX2_41, rfl, rfl⟩
set_option maxRecDepth 100000 in
theorem fl_RX2_45 : gk_fl RX2 45 2 10 := ⟨_, _, _, _, cl_2, by decide, lk_RX2_45⟩
set_option maxRecDepth 100000 in
theorem fp_RX2_45 : gk_fp RX2 45 2 10 .int := ⟨_, _, _, _, cl_2, by decide, lk_RX2_45, rfl, rfl⟩
set_option maxRecDepth 100000 in
theorem fl_RX2_48 : gk_fl RX2 48 2 11 := ⟨_, _, _, _, cl_2, by decide, lk_RX2_48⟩
set_option maxRecDepth 100000 in
theorem fp_RX2_48 : gk_fp RX2 48 2 11 .int := ⟨_, _, _, _, cl_2, by decide, lk_RX2_48, rfl, rfl⟩
set_option maxRecDepth 100000 in
theorem fl_RX2_51 : gk_fl RX2 51 2 12 := ⟨_, _, _, _, cl_2, by decide, lk_RX2_51⟩
set_option maxRecDepth 100000 in
theorem fp_RX2_51 : gk_fp RX2 51 2 12 .int := ⟨_, _, _, _, cl_2, by decide, lk_RX2_51, rfl, rfl⟩
set_option maxRecDepth 100000 in
theorem fl_RX2_58 : gk_fl RX2 58 1 5 := ⟨_, _, _, _, cl_1, by decide, lk_RX2_58⟩
set_option maxRecDepth 100000 in
theorem fl_RX2_79 : gk_fl RX2 79 1 0 := ⟨_, _, _, _, cl_1, by decide, lk_RX2_79⟩
set_option maxRecDepth 100000 in
theorem fp_RX2_79 : gk_fp RX2 79 1 0 .int := ⟨_, _, _, _, cl_1, by decide, lk_RX2_79, rfl, rfl⟩
set_option maxRecDepth 100000 in
theorem fl_RX2_80 : gk_fl RX2 80 1 1 := ⟨_, _, _, _, cl_1, by decide, lk_RX2_80⟩
set_option maxRecDepth 100000 in
theorem fl_RX3_9 : gk_fl RX3 9 3 0 := ⟨_, _, _, _, cl_3, by decide, lk_RX3_9⟩
set_option maxRecDepth 100000 in
theorem fl_RX3_15 : gk_fl RX3 15 3 1 := ⟨_, _, _, _, cl_3, by decide, lk_RX3_15⟩
set_option maxRecDepth 100000 in
theorem fp_RX3_15 : gk_fp RX3 15 3 1 .boolean := ⟨_, _, _, _, cl_3, by decide, lk_RX3_15, rfl, rfl⟩
set_option maxRecDepth 100000 in
theorem fl_RX3_19 : gk_fl RX3 19 3 2 := ⟨_, _, _, _, cl_3, by decide, lk_RX3_19⟩
set_option maxRecDepth 100000 in
theorem fp_RX3_19 : gk_fp RX3 19 3 2 .int := ⟨_, _, _, _, cl_3, by decide, lk_RX3_19, rfl, rfl⟩
set_option maxRecDepth 100000 in
theorem fl_RX3_23 : gk_fl RX3 23 3 3 := ⟨_, _, _, _, cl_3, by decide, lk_RX3_23⟩
set_option maxRecDepth 100000 in
theorem fp_RX3_23 : gk_fp RX3 23 3 3 .int := ⟨_, _, _, _, cl_3, by decide, lk_RX3_23, rfl, rfl⟩
set_option maxRecDepth 100000 in
theorem fl_RX4_9 : gk_fl RX4 9 4 0 := ⟨_, _, _, _, cl_4, by decide, lk_RX4_9⟩
set_option maxRecDepth 100000 in
theorem fl_RX4_15 : gk_fl RX4 15 4 1 := ⟨_, _, _, _, cl_4, by decide, lk_RX4_15⟩
set_option maxRecDepth 100000 in
theorem fl_RX4_18 : gk_fl RX4 18 4 2 := ⟨_, _, _, _, cl_4, by decide, lk_RX4_18⟩
set_option maxRecDepth 100000 in
theorem fl_RX4_21 : gk_fl RX4 21 4 3 := ⟨_, _, _, _, cl_4, by decide, lk_RX4_21⟩
set_option maxRecDepth 100000 in
theorem fp_RX4_21 : gk_fp RX4 21 4 3 .int := ⟨_, _, _, _, cl_4, by decide, lk_RX4_21, rfl, rfl⟩
set_option maxRecDepth 100000 in
theorem fl_RX4_29 : gk_fl RX4 29 2 2 := ⟨_, _, _, _, cl_2, by decide, lk_RX4_29⟩
set_option maxRecDepth 100000 in
theorem fl_RX5_9 : gk_fl RX5 9 5 0 := ⟨_, _, _, _, cl_5, by decide, lk_RX5_9⟩
set_option maxRecDepth 100000 in
theorem fl_RX5_15 : gk_fl RX5 15 5 2 := ⟨_, _, _, _, cl_5, by decide, lk_RX5_15⟩
set_option maxRecDepth 100000 in
theorem fp_RX5_15 : gk_fp RX5 15 5 2 .int := ⟨_, _, _, _, cl_5, by decide, lk_RX5_15, rfl, rfl⟩
set_option maxRecDepth 100000 in
theorem fl_RX5_25 : gk_fl RX5 25 5 1 := ⟨_, _, _, _, cl_5, by decide, lk_RX5_25⟩
set_option maxRecDepth 100000 in
theorem fl_RX6_9 : gk_fl RX6 9 6 3 := ⟨_, _, _, _, cl_6, by decide, lk_RX6_9⟩
set_option maxRecDepth 100000 in
theorem fl_RX6_15 : gk_fl RX6 15 6 4 := ⟨_, _, _, _, cl_6, by decide, lk_RX6_15⟩
set_option maxRecDepth 100000 in
theorem fl_RX6_18 : gk_fl RX6 18 6 5 := ⟨_, _, _, _, cl_6, by decide, lk_RX6_18⟩
set_option maxRecDepth 100000 in
theorem fl_RX6_21 : gk_fl RX6 21 6 6 := ⟨_, _, _, _, cl_6, by decide, lk_RX6_21⟩
set_option maxRecDepth 100000 in
theorem fp_RX6_21 : gk_fp RX6 21 6 6 .int := ⟨_, _, _, _, cl_6, by decide, lk_RX6_21, rfl, rfl⟩
set_option maxRecDepth 100000 in
theorem fl_RX6_25 : gk_fl RX6 25 6 7 := ⟨_, _, _, _, cl_6, by decide, lk_RX6_25⟩
set_option maxRecDepth 100000 in
theorem fp_RX6_25 : gk_fp RX6 25 6 7 .int := ⟨_, _, _, _, cl_6, by decide, lk_RX6_25, rfl, rfl⟩
set_option maxRecDepth 100000 in
theorem fl_RX6_28 : gk_fl RX6 28 6 0 := ⟨_, _, _, _, cl_6, by decide, lk_RX6_28⟩
set_option maxRecDepth 100000 in
theorem fl_RX6_38 : gk_fl RX6 38 6 1 := ⟨_, _, _, _, cl_6, by decide, lk_RX6_38⟩
set_option maxRecDepth 100000 in
theorem fl_RX6_41 : gk_fl RX6 41 6 2 := ⟨_, _, _, _, cl_6, by decide, lk_RX6_41⟩
set_option maxRecDepth 100000 in
theorem fl_RX6_49 : gk_fl RX6 49 5 2 := ⟨_, _, _, _, cl_5, by decide, lk_RX6_49⟩
set_option maxRecDepth 100000 in
theorem fp_RX6_49 : gk_fp RX6 49 5 2 .int := ⟨_, _, _, _, cl_5, by decide, lk_RX6_49, rfl, rfl⟩
set_option maxRecDepth 100000 in
theorem fl_RX6_54 : gk_fl RX6 54 5 0 := ⟨_, _, _, _, cl_5, by decide, lk_RX6_54⟩
set_option maxRecDepth 100000 in
theorem fl_RX8_7 : gk_fl RX8 7 8 0 := ⟨_, _, _, _, cl_8, by decide, lk_RX8_7⟩
set_option maxRecDepth 100000 in
theorem fl_RX8_13 : gk_fl RX8 13 8 1 := ⟨_, _, _, _, cl_8, by decide, lk_RX8_13⟩
set_option maxRecDepth 100000 in
theorem fl_RX8_16 : gk_fl RX8 16 8 3 := ⟨_, _, _, _, cl_8, by decide, lk_RX8_16⟩
set_option maxRecDepth 100000 in
theorem fl_RX8_19 : gk_fl RX8 19 8 4 := ⟨_, _, _, _, cl_8, by decide, lk_RX8_19⟩
set_option maxRecDepth 100000 in
theorem fl_RX8_22 : gk_fl RX8 22 8 5 := ⟨_, _, _, _, cl_8, by decide, lk_RX8_22⟩
set_option maxRecDepth 100000 in
theorem fl_RX8_25 : gk_fl RX8 25 8 7 := ⟨_, _, _, _, cl_8, by decide, lk_RX8_25⟩
set_option maxRecDepth 100000 in
theorem fl_RX8_28 : gk_fl RX8 28 8 8 := ⟨_, _, _, _, cl_8, by decide, lk_RX8_28⟩
set_option maxRecDepth 100000 in
theorem fl_RX8_31 : gk_fl RX8 31 8 9 := ⟨_, _, _, _, cl_8, by decide, lk_RX8_31⟩
set_option maxRecDepth 100000 in
theorem fl_RX8_34 : gk_fl RX8 34 8 11 := ⟨_, _, _, _, cl_8, by decide, lk_RX8_34⟩
set_option maxRecDepth 100000 in
theorem fl_RX8_37 : gk_fl RX8 37 8 13 := ⟨_, _, _, _, cl_8, by decide, lk_RX8_37⟩
set_option maxRecDepth 100000 in
theorem fl_RX8_40 : gk_fl RX8 40 8 14 := ⟨_, _, _, _, cl_8, by decide, lk_RX8_40⟩
set_option maxRecDepth 100000 in
theorem fl_RX8_43 : gk_fl RX8 43 8 15 := ⟨_, _, _, _, cl_8, by decide, lk_RX8_43⟩
set_option maxRecDepth 100000 in
theorem fl_RX8_46 : gk_fl RX8 46 8 16 := ⟨_, _, _, _, cl_8, by decide, lk_RX8_46⟩
set_option maxRecDepth 100000 in
theorem fl_RX8_49 : gk_fl RX8 49 8 21 := ⟨_, _, _, _, cl_8, by decide, lk_RX8_49⟩
set_option maxRecDepth 100000 in
theorem fl_RX8_52 : gk_fl RX8 52 8 22 := ⟨_, _, _, _, cl_8, by decide, lk_RX8_52⟩
set_option maxRecDepth 100000 in
theorem fl_RX8_55 : gk_fl RX8 55 8 23 := ⟨_, _, _, _, cl_8, by decide, lk_RX8_55⟩
set_option maxRecDepth 100000 in
theorem fl_RX8_58 : gk_fl RX8 58 8 25 := ⟨_, _, _, _, cl_8, by decide, lk_RX8_58⟩
set_option maxRecDepth 100000 in
theorem fl_RX8_61 : gk_fl RX8 61 8 26 := ⟨_, _, _, _, cl_8, by decide, lk_RX8_61⟩
set_option maxRecDepth 100000 in
theorem fl_RX8_64 : gk_fl RX8 64 8 31 := ⟨_, _, _, _, cl_8, by decide, lk_RX8_64⟩
set_option maxRecDepth 100000 in
theorem fl_RX8_67 : gk_fl RX8 67 8 32 := ⟨_, _, _, _, cl_8, by decide, lk_RX8_67⟩
set_option maxRecDepth 100000 in
theorem fl_RX8_70 : gk_fl RX8 70 8 33 := ⟨_, _, _, _, cl_8, by decide, lk_RX8_70⟩
set_option maxRecDepth 100000 in
theorem fl_RX8_73 : gk_fl RX8 73 8 34 := ⟨_, _, _, _, cl_8, by decide, lk_RX8_73⟩
set_option maxRecDepth 100000 in
theorem fl_RX8_76 : gk_fl RX8 76 8 35 := ⟨_, _, _, _, cl_8, by decide, lk_RX8_76⟩
set_option maxRecDepth 100000 in
theorem fl_RX8_79 : gk_fl RX8 79 8 36 := ⟨_, _, _, _, cl_8, by decide, lk_RX8_79⟩
set_option maxRecDepth 100000 in
theorem fl_RX8_82 : gk_fl RX8 82 8 38 := ⟨_, _, _, _, cl_8, by decide, lk_RX8_82⟩
set_option maxRecDepth 100000 in
theorem fl_RX8_85 : gk_fl RX8 85 8 39 := ⟨_, _, _, _, cl_8, by decide, lk_RX8_85⟩
set_option maxRecDepth 100000 in
theorem fl_RX8_88 : gk_fl RX8 88 8 40 := ⟨_, _, _, _, cl_8, by decide, lk_RX8_88⟩
set_option maxRecDepth 100000 in
theorem fl_RX8_91 : gk_fl RX8 91 8 41 := ⟨_, _, _, _, cl_8, by decide, lk_RX8_91⟩
set_option maxRecDepth 100000 in
theorem fl_RX8_94 : gk_fl RX8 94 8 42 := ⟨_, _, _, _, cl_8, by decide, lk_RX8_94⟩
set_option maxRecDepth 100000 in
theorem fl_RX8_98 : gk_fl RX8 98 8 43 := ⟨_, _, _, _, cl_8, by decide, lk_RX8_98⟩
set_option maxRecDepth 100000 in
theorem fl_RX8_101 : gk_fl RX8 101 8 44 := ⟨_, _, _, _, cl_8, by decide, lk_RX8_101⟩
set_option maxRecDepth 100000 in
theorem fl_RX8_104 : gk_fl RX8 104 8 45 := ⟨_, _, _, _, cl_8, by decide, lk_RX8_104⟩
set_option maxRecDepth 100000 in
theorem fl_RX8_107 : gk_fl RX8 107 8 46 := ⟨_, _, _, _, cl_8, by decide, lk_RX8_107⟩
set_option maxRecDepth 100000 in
theorem fl_RX8_135 : gk_fl RX8 135 8 2 := ⟨_, _, _, _, cl_8, by decide, lk_RX8_135⟩
set_option maxRecDepth 100000 in
theorem fp_RX8_135 : gk_fp RX8 135 8 2 .int := ⟨_, _, _, _, cl_8, by decide, lk_RX8_135, rfl, rfl⟩
set_option maxRecDepth 100000 in
theorem fl_RX8_139 : gk_fl RX8 139 8 6 := ⟨_, _, _, _, cl_8, by decide, lk_RX8_139⟩
set_option maxRecDepth 100000 in
theorem fp_RX8_139 : gk_fp RX8 139 8 6 .int := ⟨_, _, _, _, cl_8, by decide, lk_RX8_139, rfl, rfl⟩
set_option maxRecDepth 100000 in
theorem fl_RX8_148 : gk_fl RX8 148 8 10 := ⟨_, _, _, _, cl_8, by decide, lk_RX8_148⟩
set_option maxRecDepth 100000 in
theorem fp_RX8_148 : gk_fp RX8 148 8 10 .int := ⟨_, _, _, _, cl_8, by decide, lk_RX8_148, rfl, rfl⟩
set_option maxRecDepth 100000 in
theorem fl_RX8_179 : gk_fl RX8 179 8 12 := ⟨_, _, _, _, cl_8, by decide, lk_RX8_179⟩
set_option maxRecDepth 100000 in
theorem fp_RX8_179 : gk_fp RX8 179 8 12 .int := ⟨_, _, _, _, cl_8, by decide, lk_RX8_179, rfl, rfl⟩
set_option maxRecDepth 100000 in
theorem fl_RX8_192 : gk_fl RX8 192 8 17 := ⟨_, _, _, _, cl_8, by decide, lk_RX8_192⟩
set_option maxRecDepth 100000 in
theorem fp_RX8_192 : gk_fp RX8 192 8 17 .int := ⟨_, _, _, _, cl_8, by decide, lk_RX8_192, rfl, rfl⟩
set_option maxRecDepth 100000 in
theorem fl_RX8_195 : gk_fl RX8 195 8 18 := ⟨_, _, _, _, cl_8, by decide, lk_RX8_195⟩
set_option maxRecDepth 100000 in
theorem fp_RX8_195 : gk_fp RX8 195 8 18 .boolean := ⟨_, _, _, _, cl_8, by decide, lk_RX8_195, rfl, rfl⟩
set_option maxRecDepth 100000 in
theorem fl_RX8_199 : gk_fl RX8 199 8 19 := ⟨_, _, _, _, cl_8, by decide, lk_RX8_199⟩
set_option maxRecDepth 100000 in
theorem fp_RX8_199 : gk_fp RX8 199 8 19 .boolean := ⟨_, _, _, _, cl_8, by decide, lk_RX8_199, rfl, rfl⟩
set_option maxRecDepth 100000 in
theorem fl_RX8_205 : gk_fl RX8 205 8 20 := ⟨_, _, _, _, cl_8, by decide, lk_RX8_205⟩
set_option maxRecDepth 100000 in
theorem fp_RX8_205 : gk_fp RX8 205 8 20 .int := ⟨_, _, _, _, cl_8, by decide, lk_RX8_205, rfl, rfl⟩
set_option maxRecDepth 100000 in
theorem fl_RX8_208 : gk_fl RX8 208 8 29 := ⟨_, _, _, _, cl_8, by decide, lk_RX8_208⟩
set_option maxRecDepth 100000 in
theorem fp_RX8_208 : gk_fp RX8 208 8 29 .int := ⟨_, _, _, _, cl_8, by decide, lk_RX8_208, rfl, rfl⟩
set_option maxRecDepth 100000 in
theorem fl_RX8_211 : gk_fl RX8 211 8 30 := ⟨_, _, _, _, cl_8, by decide, lk_RX8_211⟩
set_option maxRecDepth 100000 in
theorem fp_RX8_211 : gk_fp RX8 211 8 30 .int := ⟨_, _, _, _, cl_8, by decide, lk_RX8_211, rfl, rfl⟩
set_option maxRecDepth 100000 in
theorem fl_RX8_214 : gk_fl RX8 214 8 24 := ⟨_, _, _, _, cl_8, by decide, lk_RX8_214⟩
set_option maxRecDepth 100000 in
theorem fp_RX8_214 : gk_fp RX8 214 8 24 .int := ⟨_, _, _, _, cl_8, by decide, lk_RX8_214, rfl, rfl⟩
set_option maxRecDepth 100000 in
theorem fl_RX8_225 : gk_fl RX8 225 8 27 := ⟨_, _, _, _, cl_8, by decide, lk_RX8_225⟩
set_option maxRecDepth 100000 in
theorem fp_RX8_225 : gk_fp RX8 225 8 27 .int := ⟨_, _, _, _, cl_8, by decide, lk_RX8_225, rfl, rfl⟩
set_option maxRecDepth 100000 in
theorem fl_RX8_238 : gk_fl RX8 238 8 28 := ⟨_, _, _, _, cl_8, by decide, lk_RX8_238⟩
set_option maxRecDepth 100000 in
theorem fp_RX8_238 : gk_fp RX8 238 8 28 .int := ⟨_, _, _, _, cl_8, by decide, lk_RX8_238, rfl, rfl⟩
set_option maxRecDepth 100000 in
theorem fl_RX8_310 : gk_fl RX8 310 8 37 := ⟨_, _, _, _, cl_8, by decide, lk_RX8_310⟩
set_option maxRecDepth 100000 in
theorem fp_RX8_310 : gk_fp RX8 310 8 37 .int := ⟨_, _, _, _, cl_8, by decide, lk_RX8_310, rfl, rfl⟩
set_option maxRecDepth 100000 in
theorem fl_RX8_345 : gk_fl RX8 345 8 47 := ⟨_, _, _, _, cl_8, by decide, lk_RX8_345⟩
set_option maxRecDepth 100000 in
theorem fp_RX8_345 : gk_fp RX8 345 8 47 .int := ⟨_, _, _, _, cl_8, by decide, lk_RX8_345, rfl, rfl⟩
set_option maxRecDepth 100000 in
theorem cw_RX7_11 : gk_cw RX7 11 yX5_init cX5_init 2 none 1 := ⟨lm_RX7_11, kc_X5_init, kn_X5_init, by decide +kernel, by decide⟩
set_option maxRecDepth 100000 in
theorem cw_RX7_28 : gk_cw RX7 28 yX6_init cX6_init 4 none 3 := ⟨lm_RX7_28, kc_X6_init, kn_X6_init, by decide +kernel, by decide⟩
set_option maxRecDepth 100000 in
theorem cw_RX7_103 : gk_cw RX7 103 yX7_textOf cX7_textOf 2 (some (.object "CableCars$Text")) 1 := ⟨lm_RX7_103, kc_X7_textOf, kn_X7_textOf, by decide +kernel, by decide⟩
set_option maxRecDepth 100000 in
theorem cw_RX7_107 : gk_cw RX7 107 yX7_within cX7_within 3 (some .boolean) 3 := ⟨lm_RX7_107, kc_X7_within, kn_X7_within, by decide +kernel, by decide⟩
set_option maxRecDepth 100000 in
theorem cw_RX7_111 : gk_cw RX7 111 yX5_hasSpace cX5_hasSpace 1 (some .boolean) 0 := ⟨lm_RX7_111, kc_X5_hasSpace, kn_X5_hasSpace, by decide +kernel, by decide⟩
set_option maxRecDepth 100000 in
theorem cw_RX7_115 : gk_cw RX7 115 yX5_append cX5_append 2 none 1 := ⟨lm_RX7_115, kc_X5_append, kn_X5_append, by decide +kernel, by decide⟩
set_option maxRecDepth 100000 in
theorem cw_RX7_118 : gk_cw RX7 118 yX7_readAgain cX7_readAgain 2 none 1 := ⟨lm_RX7_118, kc_X7_readAgain, kn_X7_readAgain, by decide +kernel, by decide⟩
set_option maxRecDepth 100000 in
theorem cw_RX7_127 : gk_cw RX7 127 yX7_isCar cX7_isCar 2 (some .boolean) 1 := ⟨lm_RX7_127, kc_X7_isCar, kn_X7_isCar, by decide +kernel, by decide⟩
set_option maxRecDepth 100000 in
theorem cw_RX7_131 : gk_cw RX7 131 yX6_part cX6_part 3 (some .int) 2 := ⟨lm_RX7_131, kc_X6_part, kn_X6_part, by decide +kernel, by decide⟩
set_option maxRecDepth 100000 in
theorem cw_RX7_138 : gk_cw RX7 138 yX7_isMoment cX7_isMoment 1 (some .boolean) 1 := ⟨lm_RX7_138, kc_X7_isMoment, kn_X7_isMoment, by decide +kernel, by decide⟩
set_option maxRecDepth 100000 in
theorem cw_RX7_141 : gk_cw RX7 141 yX7_toldSpeed cX7_toldSpeed 2 (some .int) 1 := ⟨lm_RX7_141, kc_X7_toldSpeed, kn_X7_toldSpeed, by decide +kernel, by decide⟩
set_option maxRecDepth 100000 in
theorem cw_RX7_145 : gk_cw RX7 145 yX0_mayBe cX0_mayBe 4 (some .boolean) 3 := ⟨lm_RX7_145, kc_X0_mayBe, kn_X0_mayBe, by decide +kernel, by decide⟩
set_option maxRecDepth 100000 in
theorem cw_RX7_148 : gk_cw RX7 148 yX0_hasSpace cX0_hasSpace 1 (some .boolean) 0 := ⟨lm_RX7_148, kc_X0_hasSpace, kn_X0_hasSpace, by decide +kernel, by decide⟩
set_option maxRecDepth 100000 in
theorem cw_RX7_149 : gk_cw RX7 149 yX0_append cX0_append 4 none 3 := ⟨lm_RX7_149, kc_X0_append, kn_X0_append, by decide +kernel, by decide⟩
set_option maxRecDepth 100000 in
theorem cw_RX7_153 : gk_cw RX7 153 yX7_sheetOf cX7_sheetOf 2 (some (.object "CableCars$Sheet")) 1 := ⟨lm_RX7_153, kc_X7_sheetOf, kn_X7_sheetOf, by decide +kernel, by decide⟩
set_option maxRecDepth 100000 in
theorem cw_RX7_160 : gk_cw RX7 160 yX7_found cX7_found 2 (some .int) 1 := ⟨lm_RX7_160, kc_X7_found, kn_X7_found, by decide +kernel, by decide⟩
set_option maxRecDepth 100000 in
theorem cw_RX7_168 : gk_cw RX7 168 yX7_event cX7_event 4 (some .int) 3 := ⟨lm_RX7_168, kc_X7_event, kn_X7_event, by decide +kernel, by decide⟩
set_option maxRecDepth 100000 in
theorem cw_RX7_172 : gk_cw RX7 172 yX7_asTold cX7_asTold 1 (some (.object "CableCars$Ride")) 0 := ⟨lm_RX7_172, kc_X7_asTold, kn_X7_asTold, by decide +kernel, by decide⟩
set_option maxRecDepth 100000 in
theorem cw_RX7_185 : gk_cw RX7 185 yX2_allInside cX2_allInside 4 (some .int) 1 := ⟨lm_RX7_185, kc_X2_allInside, kn_X2_allInside, by decide +kernel, by decide⟩
set_option maxRecDepth 100000 in
theorem cw_RX7_191 : gk_cw RX7 191 yX7_isStation cX7_isStation 1 (some .boolean) 1 := ⟨lm_RX7_191, kc_X7_isStation, kn_X7_isStation, by decide +kernel, by decide⟩
set_option maxRecDepth 100000 in
theorem cw_RX7_197 : gk_cw RX7 197 yX2_allPower cX2_allPower 3 (some .int) 0 := ⟨lm_RX7_197, kc_X2_allPower, kn_X2_allPower, by decide +kernel, by decide⟩
set_option maxRecDepth 100000 in
theorem cw_RX7_213 : gk_cw RX7 213 yX7_leftBehind cX7_leftBehind 4 (some .int) 1 := ⟨lm_RX7_213, kc_X7_leftBehind, kn_X7_leftBehind, by decide +kernel, by decide⟩
set_option maxRecDepth 100000 in
theorem cw_RX7_217 : gk_cw RX7 217 yX7_planAsTold cX7_planAsTold 2 none 0 := ⟨lm_RX7_217, kc_X7_planAsTold, kn_X7_planAsTold, by decide +kernel, by decide⟩
set_option maxRecDepth 100000 in
theorem cw_RX7_220 : gk_cw RX7 220 yX7_anotherHangsAt cX7_anotherHangsAt 4 (some .boolean) 2 := ⟨lm_RX7_220, kc_X7_anotherHangsAt, kn_X7_anotherHangsAt, by decide +kernel, by decide⟩
set_option maxRecDepth 100000 in
theorem cw_RX7_227 : gk_cw RX7 227 yX2_run cX2_run 7 none 2 := ⟨lm_RX7_227, kc_X2_run, kn_X2_run, by decide +kernel, by decide⟩
set_option maxRecDepth 100000 in
theorem cw_RX7_231 : gk_cw RX7 231 yX2_allOver cX2_allOver 1 (some .int) 0 := ⟨lm_RX7_231, kc_X2_allOver, kn_X2_allOver, by decide +kernel, by decide⟩
set_option maxRecDepth 100000 in
theorem cw_RX7_237 : gk_cw RX7 237 yX7_leastSpared cX7_leastSpared 3 (some .int) 0 := ⟨lm_RX7_237, kc_X7_leastSpared, kn_X7_leastSpared, by decide +kernel, by decide⟩
set_option maxRecDepth 100000 in
theorem cw_RX7_240 : gk_cw RX7 240 yJ6_bitCount_0f7a4 cJ6_bitCount_0f7a4 1 (some .int) 1 := ⟨lm_RX7_240, kc_J6_bitCount_0f7a4, kn_J6_bitCount_0f7a4, by decide +kernel, by decide⟩
set_option maxRecDepth 100000 in
theorem cw_RX7_245 : gk_cw RX7 245 yX7_numberOfBit cX7_numberOfBit 4 (some .int) 2 := ⟨lm_RX7_245, kc_X7_numberOfBit, kn_X7_numberOfBit, by decide +kernel, by decide⟩
set_option maxRecDepth 100000 in
theorem cw_RX7_248 : gk_cw RX7 248 yX4_hasSpace cX4_hasSpace 1 (some .boolean) 0 := ⟨lm_RX7_248, kc_X4_hasSpace, kn_X4_hasSpace, by decide +kernel, by decide⟩
set_option maxRecDepth 100000 in
theorem cw_RX7_249 : gk_cw RX7 249 yX4_append cX4_append 4 none 3 := ⟨lm_RX7_249, kc_X4_append, kn_X4_append, by decide +kernel, by decide⟩
set_option maxRecDepth 100000 in
theorem cw_RX7_251 : gk_cw RX7 251 yX1_takeEvents cX1_takeEvents 4 none 2 := ⟨lm_RX7_251, kc_X1_takeEvents, kn_X1_takeEvents, by decide +kernel, by decide⟩
set_option maxRecDepth 100000 in
theorem cw_RX7_255 : gk_cw RX7 255 yX7_comesOutAsSeen cX7_comesOutAsSeen 1 (some .boolean) 0 := ⟨lm_RX7_255, kc_X7_comesOutAsSeen, kn_X7_comesOutAsSeen, by decide +kernel, by decide⟩
set_option maxRecDepth 100000 in
theorem cw_RX7_258 : gk_cw RX7 258 yX7_likelyRooms cX7_likelyRooms 4 (some .int) 1 := ⟨lm_RX7_258, kc_X7_likelyRooms, kn_X7_likelyRooms, by decide +kernel, by decide⟩
set_option maxRecDepth 100000 in
theorem cw_RX7_261 : gk_cw RX7 261 yX7_likelySorts cX7_likelySorts 4 (some .int) 1 := ⟨lm_RX7_261, kc_X7_likelySorts, kn_X7_likelySorts, by decide +kernel, by decide⟩
set_option maxRecDepth 100000 in
theorem cw_RX7_264 : gk_cw RX7 264 yX7_noteCrowdsByRoom cX7_noteCrowdsByRoom 5 none 1 := ⟨lm_RX7_264, kc_X7_noteCrowdsByRoom, kn_X7_noteCrowdsByRoom, by decide +kernel, by decide⟩
set_option maxRecDepth 100000 in
theorem cw_RX7_267 : gk_cw RX7 267 yX7_mostAlike cX7_mostAlike 7 (some .int) 1 := ⟨lm_RX7_267, kc_X7_mostAlike, kn_X7_mostAlike, by decide +kernel, by decide⟩
set_option maxRecDepth 100000 in
theorem cw_RX7_272 : gk_cw RX7 272 yX7_sharesWithNobodyWaiting cX7_sharesWithNobodyWaiting 8 (some .long) 2 := ⟨lm_RX7_272, kc_X7_sharesWithNobodyWaiting, kn_X7_sharesWithNobodyWaiting, by decide +kernel, by decide⟩
set_option maxRecDepth 100000 in
theorem cw_RX7_279 : gk_cw RX7 279 yX7_isForm cX7_isForm 1 (some .boolean) 1 := ⟨lm_RX7_279, kc_X7_isForm, kn_X7_isForm, by decide +kernel, by decide⟩
set_option maxRecDepth 100000 in
theorem cw_RX7_282 : gk_cw RX7 282 yX3_renew cX3_renew 3 none 2 := ⟨lm_RX7_282, kc_X3_renew, kn_X3_renew, by decide +kernel, by decide⟩
set_option maxRecDepth 100000 in
theorem cw_RX7_286 : gk_cw RX7 286 yX3_wrongWith cX3_wrongWith 3 (some .int) 2 := ⟨lm_RX7_286, kc_X3_wrongWith, kn_X3_wrongWith, by decide +kernel, by decide⟩
set_option maxRecDepth 100000 in
theorem cw_RX7_289 : gk_cw RX7 289 yX3_store cX3_store 3 none 2 := ⟨lm_RX7_289, kc_X3_store, kn_X3_store, by decide +kernel, by decide⟩
set_option maxRecDepth 100000 in
theorem cw_RX7_296 : gk_cw RX7 296 yX3_hasRun cX3_hasRun 3 (some .boolean) 2 := ⟨lm_RX7_296, kc_X3_hasRun, kn_X3_hasRun, by decide +kernel, by decide⟩
set_option maxRecDepth 100000 in
theorem cw_RX7_305 : gk_cw RX7 305 yJ9_min_7cf53 cJ9_min_7cf53 2 (some .int) 2 := ⟨lm_RX7_305, kc_J9_min_7cf53, kn_J9_min_7cf53, by decide +kernel, by decide⟩
set_option maxRecDepth 100000 in
theorem cw_RX7_312 : gk_cw RX7 312 yX7_digestTold cX7_digestTold 7 (some .long) 1 := ⟨lm_RX7_312, kc_X7_digestTold, kn_X7_digestTold, by decide +kernel, by decide⟩
set_option maxRecDepth 100000 in
theorem cw_RX7_316 : gk_cw RX7 316 yX7_car cX7_car 3 (some .int) 2 := ⟨lm_RX7_316, kc_X7_car, kn_X7_car, by decide +kernel, by decide⟩
set_option maxRecDepth 100000 in
theorem cw_RX7_319 : gk_cw RX7 319 yX7_mix cX7_mix 4 (some .long) 2 := ⟨lm_RX7_319, kc_X7_mix, kn_X7_mix, by decide +kernel, by decide⟩
set_option maxRecDepth 100000 in
theorem cw_RX7_326 : gk_cw RX7 326 yX7_at cX7_at 5 (some .int) 3 := ⟨lm_RX7_326, kc_X7_at, kn_X7_at, by decide +kernel, by decide⟩
set_option maxRecDepth 100000 in
theorem cw_RX7_329 : gk_cw RX7 329 yX7_carried cX7_carried 2 (some .int) 1 := ⟨lm_RX7_329, kc_X7_carried, kn_X7_carried, by decide +kernel, by decide⟩
set_option maxRecDepth 100000 in
theorem cw_RX7_332 : gk_cw RX7 332 yX7_hang cX7_hang 6 (some .int) 2 := ⟨lm_RX7_332, kc_X7_hang, kn_X7_hang, by decide +kernel, by decide⟩
set_option maxRecDepth 100000 in
theorem cw_RX7_335 : gk_cw RX7 335 yX7_was cX7_was 3 (some .int) 2 := ⟨lm_RX7_335, kc_X7_was, kn_X7_was, by decide +kernel, by decide⟩
set_option maxRecDepth 100000 in
theorem cw_RX7_338 : gk_cw RX7 338 yX7_ask cX7_ask 6 (some .int) 1 := ⟨lm_RX7_338, kc_X7_ask, kn_X7_ask, by decide +kernel, by decide⟩
set_option maxRecDepth 100000 in
theorem cw_RX7_341 : gk_cw RX7 341 yX7_over cX7_over 2 (some .int) 1 := ⟨lm_RX7_341, kc_X7_over, kn_X7_over, by decide +kernel, by decide⟩
set_option maxRecDepth 100000 in
theorem cw_RX7_344 : gk_cw RX7 344 yX7_crowd cX7_crowd 6 (some .int) 2 := ⟨lm_RX7_344, kc_X7_crowd, kn_X7_crowd, by decide +kernel, by decide⟩
set_option maxRecDepth 100000 in
theorem cw_RX7_347 : gk_cw RX7 347 yX7_sum cX7_sum 1 (some .int) 0 := ⟨lm_RX7_347, kc_X7_sum, kn_X7_sum, by decide +kernel, by decide⟩
set_option maxRecDepth 100000 in
theorem cw_RX7_350 : gk_cw RX7 350 yX7_first cX7_first 2 (some .int) 1 := ⟨lm_RX7_350, kc_X7_first, kn_X7_first, by decide +kernel, by decide⟩
set_option maxRecDepth 100000 in
theorem cw_RX7_353 : gk_cw RX7 353 yX7_idle cX7_idle 1 (some .int) 0 := ⟨lm_RX7_353, kc_X7_idle, kn_X7_idle, by decide +kernel, by decide⟩
set_option maxRecDepth 100000 in
theorem cw_RX7_356 : gk_cw RX7 356 yX7_left cX7_left 1 (some .int) 0 := ⟨lm_RX7_356, kc_X7_left, kn_X7_left, by decide +kernel, by decide⟩
set_option maxRecDepth 100000 in
theorem cw_RX7_359 : gk_cw RX7 359 yX7_pace cX7_pace 6 (some .int) 2 := ⟨lm_RX7_359, kc_X7_pace, kn_X7_pace, by decide +kernel, by decide⟩
set_option maxRecDepth 100000 in
theorem cw_RX7_361 : gk_cw RX7 361 yX7_cheap cX7_cheap 7 (some .int) 2 := ⟨lm_RX7_361, kc_X7_cheap, kn_X7_cheap, by decide +kernel, by decide⟩
set_option maxRecDepth 100000 in
theorem cw_RX7_364 : gk_cw RX7 364 yX7_chance cX7_chance 9 (some .long) 3 := ⟨lm_RX7_364, kc_X7_chance, kn_X7_chance, by decide +kernel, by decide⟩
set_option maxRecDepth 100000 in
theorem cw_RX7_368 : gk_cw RX7 368 yX7_spare cX7_spare 3 (some .int) 1 := ⟨lm_RX7_368, kc_X7_spare, kn_X7_spare, by decide +kernel, by decide⟩
set_option maxRecDepth 100000 in
theorem cw_RX7_371 : gk_cw RX7 371 yX7_never cX7_never 3 (some .int) 0 := ⟨lm_RX7_371, kc_X7_never, kn_X7_never, by decide +kernel, by decide⟩
set_option maxRecDepth 100000 in
theorem cw_RX7_374 : gk_cw RX7 374 yX7_years cX7_years 6 (some .int) 3 := ⟨lm_RX7_374, kc_X7_years, kn_X7_years, by decide +kernel, by decide⟩
set_option maxRecDepth 100000 in
theorem cw_RX7_377 : gk_cw RX7 377 yX7_count cX7_count 2 (some .int) 1 := ⟨lm_RX7_377, kc_X7_count, kn_X7_count, by decide +kernel, by decide⟩
set_option maxRecDepth 100000 in
theorem cw_RX7_380 : gk_cw RX7 380 yX7_fault cX7_fault 2 (some .int) 1 := ⟨lm_RX7_380, kc_X7_fault, kn_X7_fault, by decide +kernel, by decide⟩
set_option maxRecDepth 100000 in
theorem cw_RX7_382 : gk_cw RX7 382 yX7_coming cX7_coming 3 (some .int) 2 := ⟨lm_RX7_382, kc_X7_coming, kn_X7_coming, by decide +kernel, by decide⟩
set_option maxRecDepth 100000 in
theorem cw_RX7_385 : gk_cw RX7 385 yX7_speed cX7_speed 2 (some .int) 1 := ⟨lm_RX7_385, kc_X7_speed, kn_X7_speed, by decide +kernel, by decide⟩
set_option maxRecDepth 100000 in
theorem cw_RX7_388 : gk_cw RX7 388 yX7_waits cX7_waits 4 (some .int) 2 := ⟨lm_RX7_388, kc_X7_waits, kn_X7_waits, by decide +kernel, by decide⟩
set_option maxRecDepth 100000 in
theorem cw_RX7_393 : gk_cw RX7 393 yX6_parse cX6_parse 3 none 1 := ⟨lm_RX7_393, kc_X6_parse, kn_X6_parse, by decide +kernel, by decide⟩
set_option maxRecDepth 100000 in
theorem cw_RX7_397 : gk_cw RX7 397 yX7_faultOfSpeed cX7_faultOfSpeed 2 (some .int) 0 := ⟨lm_RX7_397, kc_X7_faultOfSpeed, kn_X7_faultOfSpeed, by decide +kernel, by decide⟩
set_option maxRecDepth 100000 in
theorem cw_RX7_406 : gk_cw RX7 406 yX1_takeCars cX1_takeCars 3 none 1 := ⟨lm_RX7_406, kc_X1_takeCars, kn_X1_takeCars, by decide +kernel, by decide⟩
set_option maxRecDepth 100000 in
theorem cw_RX7_410 : gk_cw RX7 410 yX1_takeComings cX1_takeComings 3 none 1 := ⟨lm_RX7_410, kc_X1_takeComings, kn_X1_takeComings, by decide +kernel, by decide⟩
set_option maxRecDepth 100000 in
theorem cw_RX7_416 : gk_cw RX7 416 yX7_nobodyLeftWithout cX7_nobodyLeftWithout 2 (some .boolean) 1 := ⟨lm_RX7_416, kc_X7_nobodyLeftWithout, kn_X7_nobodyLeftWithout, by decide +kernel, by decide⟩
set_option maxRecDepth 100000 in
theorem cw_RX7_419 : gk_cw RX7 419 yX4_agreeWith cX4_agreeWith 3 (some .boolean) 1 := ⟨lm_RX7_419, kc_X4_agreeWith, kn_X4_agreeWith, by decide +kernel, by decide⟩
set_option maxRecDepth 100000 in
theorem cw_RX7_429 : gk_cw RX7 429 yX2_crowdKey cX2_crowdKey 2 (some .int) 1 := ⟨lm_RX7_429, kc_X2_crowdKey, kn_X2_crowdKey, by decide +kernel, by decide⟩
set_option maxRecDepth 100000 in
theorem cw_RX7_432 : gk_cw RX7 432 yJ9_max_7cf53 cJ9_max_7cf53 2 (some .int) 2 := ⟨lm_RX7_432, kc_J9_max_7cf53, kn_J9_max_7cf53, by decide +kernel, by decide⟩
set_option maxRecDepth 100000 in
theorem cw_RX7_435 : gk_cw RX7 435 yX7_sharesOf cX7_sharesOf 6 (some .long) 2 := ⟨lm_RX7_435, kc_X7_sharesOf, kn_X7_sharesOf, by decide +kernel, by decide⟩
set_option maxRecDepth 100000 in
theorem cw_RX0_33 : gk_cw RX0 33 yX0_hasSpace cX0_hasSpace 1 (some .boolean) 0 := ⟨lm_RX0_33, kc_X0_hasSpace, kn_X0_hasSpace, by decide +kernel, by decide⟩
set_option maxRecDepth 100000 in
theorem cw_RX1_48 : gk_cw RX1 48 yJ9_min_7cf53 cJ9_min_7cf53 2 (some .int) 2 := ⟨lm_RX1_48, kc_J9_min_7cf53, kn_J9_min_7cf53, by decide +kernel, by decide⟩
set_option maxRecDepth 100000 in
theorem cw_RX1_63 : gk_cw RX1 63 yJ7_fill_53178 cJ7_fill_53178 4 none 2 := ⟨lm_RX1_63, kc_J7_fill_53178, kn_J7_fill_53178, by decide +kernel, by decide⟩
set_option maxRecDepth 100000 in
theorem cw_RX1_81 : gk_cw RX1 81 yX1_takeEvent cX1_takeEvent 4 none 3 := ⟨lm_RX1_81, kc_X1_takeEvent, kn_X1_takeEvent, by decide +kernel, by decide⟩
set_option maxRecDepth 100000 in
theorem cw_RX2_54 : gk_cw RX2 54 yX2_start cX2_start 3 none 1 := ⟨lm_RX2_54, kc_X2_start, kn_X2_start, by decide +kernel, by decide⟩
set_option maxRecDepth 100000 in
theorem cw_RX2_63 : gk_cw RX2 63 yX1_places cX1_places 2 (some .int) 1 := ⟨lm_RX2_63, kc_X1_places, kn_X1_places, by decide +kernel, by decide⟩
set_option maxRecDepth 100000 in
theorem cw_RX2_67 : gk_cw RX2 67 yX2_goOn cX2_goOn 6 (some .int) 2 := ⟨lm_RX2_67, kc_X2_goOn, kn_X2_goOn, by decide +kernel, by decide⟩
set_option maxRecDepth 100000 in
theorem cw_RX2_71 : gk_cw RX2 71 yX2_stand cX2_stand 5 none 2 := ⟨lm_RX2_71, kc_X2_stand, kn_X2_stand, by decide +kernel, by decide⟩
set_option maxRecDepth 100000 in
theorem cw_RX2_75 : gk_cw RX2 75 yX2_note cX2_note 3 none 1 := ⟨lm_RX2_75, kc_X2_note, kn_X2_note, by decide +kernel, by decide⟩
set_option maxRecDepth 100000 in
theorem cw_RX2_81 : gk_cw RX2 81 yX2_stationAt cX2_stationAt 1 (some .int) 1 := ⟨lm_RX2_81, kc_X2_stationAt, kn_X2_stationAt, by decide +kernel, by decide⟩
set_option maxRecDepth 100000 in
theorem cw_RX2_84 : gk_cw RX2 84 yX1_isClosed cX1_isClosed 3 (some .boolean) 2 := ⟨lm_RX2_84, kc_X1_isClosed, kn_X1_isClosed, by decide +kernel, by decide⟩
set_option maxRecDepth 100000 in
theorem cw_RX2_88 : gk_cw RX2 88 yX2_letOut cX2_letOut 4 none 3 := ⟨lm_RX2_88, kc_X2_letOut, kn_X2_letOut, by decide +kernel, by decide⟩
set_option maxRecDepth 100000 in
theorem cw_RX2_92 : gk_cw RX2 92 yX1_roomIn cX1_roomIn 2 (some .int) 1 := ⟨lm_RX2_92, kc_X1_roomIn, kn_X1_roomIn, by decide +kernel, by decide⟩
set_option maxRecDepth 100000 in
theorem cw_RX2_95 : gk_cw RX2 95 yX2_letIn cX2_letIn 5 none 3 := ⟨lm_RX2_95, kc_X2_letIn, kn_X2_letIn, by decide +kernel, by decide⟩
set_option maxRecDepth 100000 in
theorem cw_RX2_98 : gk_cw RX2 98 yJ9_max_7cf53 cJ9_max_7cf53 2 (some .int) 2 := ⟨lm_RX2_98, kc_J9_max_7cf53, kn_J9_max_7cf53, by decide +kernel, by decide⟩
set_option maxRecDepth 100000 in
theorem cw_RX2_104 : gk_cw RX2 104 yJ9_min_7cf53 cJ9_min_7cf53 2 (some .int) 2 := ⟨lm_RX2_104, kc_J9_min_7cf53, kn_J9_min_7cf53, by decide +kernel, by decide⟩
set_option maxRecDepth 100000 in
theorem cw_RX3_26 : gk_cw RX3 26 yJ7_fill_53178 cJ7_fill_53178 4 none 2 := ⟨lm_RX3_26, kc_J7_fill_53178, kn_J7_fill_53178, by decide +kernel, by decide⟩
set_option maxRecDepth 100000 in
theorem cw_RX3_32 : gk_cw RX3 32 yJ9_min_7cf53 cJ9_min_7cf53 2 (some .int) 2 := ⟨lm_RX3_32, kc_J9_min_7cf53, kn_J9_min_7cf53, by decide +kernel, by decide⟩
set_option maxRecDepth 100000 in
theorem cw_RX3_38 : gk_cw RX3 38 yJ9_max_7cf53 cJ9_max_7cf53 2 (some .int) 2 := ⟨lm_RX3_38, kc_J9_max_7cf53, kn_J9_max_7cf53, by decide +kernel, by decide⟩
set_option maxRecDepth 100000 in
theorem cw_RX3_41 : gk_cw RX3 41 yX3_hasRun cX3_hasRun 3 (some .boolean) 2 := ⟨lm_RX3_41, kc_X3_hasRun, kn_X3_hasRun, by decide +kernel, by decide⟩
set_option maxRecDepth 100000 in
theorem cw_RX4_25 : gk_cw RX4 25 yX4_hasSpace cX4_hasSpace 1 (some .boolean) 0 := ⟨lm_RX4_25, kc_X4_hasSpace, kn_X4_hasSpace, by decide +kernel, by decide⟩
set_option maxRecDepth 100000 in
theorem cw_RX5_19 : gk_cw RX5 19 yJ9_min_7cf53 cJ9_min_7cf53 2 (some .int) 2 := ⟨lm_RX5_19, kc_J9_min_7cf53, kn_J9_min_7cf53, by decide +kernel, by decide⟩
set_option maxRecDepth 100000 in
theorem cw_RX5_28 : gk_cw RX5 28 yX5_hasSpace cX5_hasSpace 1 (some .boolean) 0 := ⟨lm_RX5_28, kc_X5_hasSpace, kn_X5_hasSpace, by decide +kernel, by decide⟩
set_option maxRecDepth 100000 in
theorem cw_RX6_32 : gk_cw RX6 32 yJ9_min_7cf53 cJ9_min_7cf53 2 (some .int) 2 := ⟨lm_RX6_32, kc_J9_min_7cf53, kn_J9_min_7cf53, by decide +kernel, by decide⟩
set_option maxRecDepth 100000 in
theorem cw_RX6_45 : gk_cw RX6 45 yX6_faultIn cX6_faultIn 3 (some .int) 1 := ⟨lm_RX6_45, kc_X6_faultIn, kn_X6_faultIn, by decide +kernel, by decide⟩
set_option maxRecDepth 100000 in
theorem cw_RX6_57 : gk_cw RX6 57 yJ0_indexOf_0f7a4 cJ0_indexOf_0f7a4 2 (some .int) 1 := ⟨lm_RX6_57, kc_J0_indexOf_0f7a4, kn_J0_indexOf_0f7a4, by decide +kernel, by decide⟩
set_option maxRecDepth 100000 in
theorem cw_RX6_63 : gk_cw RX6 63 yX6_goesOn cX6_goesOn 4 (some .boolean) 2 := ⟨lm_RX6_63, kc_X6_goesOn, kn_X6_goesOn, by decide +kernel, by decide⟩
set_option maxRecDepth 100000 in
theorem cw_RX6_71 : gk_cw RX6 71 yX6_isTaken cX6_isTaken 4 (some .boolean) 2 := ⟨lm_RX6_71, kc_X6_isTaken, kn_X6_isTaken, by decide +kernel, by decide⟩
set_option maxRecDepth 100000 in
theorem cw_RL_9 : gk_cw RL 9 yX7_init cX7_init 1 none 0 := ⟨lm_RL_9, kc_X7_init, kn_X7_init, by decide +kernel, by decide⟩
set_option maxRecDepth 100000 in
theorem cw_RL_12 : gk_cw RL 12 yX8_init cX8_init 1 none 0 := ⟨lm_RL_12, kc_X8_init, kn_X8_init, by decide +kernel, by decide⟩
set_option maxRecDepth 100000 in
theorem cw_RL_13 : gk_cw RL 13 yX7_type cX7_type 4 (some .int) 2 := ⟨lm_RL_13, kc_X7_type, kn_X7_type, by decide +kernel, by decide⟩
set_option maxRecDepth 100000 in
theorem cw_RL_17 : gk_cw RL 17 yX8_type cX8_type 3 (some .int) 2 := ⟨lm_RL_17, kc_X8_type, kn_X8_type, by decide +kernel, by decide⟩
set_option maxRecDepth 100000 in
theorem cw_RL_18 : gk_cw RL 18 yX7_wipe cX7_wipe 4 (some .int) 1 := ⟨lm_RL_18, kc_X7_wipe, kn_X7_wipe, by decide +kernel, by decide⟩
set_option maxRecDepth 100000 in
theorem cw_RL_22 : gk_cw RL 22 yX8_wipe cX8_wipe 3 (some .int) 1 := ⟨lm_RL_22, kc_X8_wipe, kn_X8_wipe, by decide +kernel, by decide⟩
set_option maxRecDepth 100000 in
theorem cw_RL_23 : gk_cw RL 23 yX7_undo cX7_undo 3 (some .int) 1 := ⟨lm_RL_23, kc_X7_undo, kn_X7_undo, by decide +kernel, by decide⟩
set_option maxRecDepth 100000 in
theorem cw_RL_26 : gk_cw RL 26 yX8_undo cX8_undo 2 (some .int) 1 := ⟨lm_RL_26, kc_X8_undo, kn_X8_undo, by decide +kernel, by decide⟩
set_option maxRecDepth 100000 in
theorem cw_RL_27 : gk_cw RL 27 yX7_fault cX7_fault 2 (some .int) 1 := ⟨lm_RL_27, kc_X7_fault, kn_X7_fault, by decide +kernel, by decide⟩
set_option maxRecDepth 100000 in
theorem cw_RL_30 : gk_cw RL 30 yX8_fault cX8_fault 2 (some .int) 1 := ⟨lm_RL_30, kc_X8_fault, kn_X8_fault, by decide +kernel, by decide⟩
set_option maxRecDepth 100000 in
theorem cw_RL_31 : gk_cw RL 31 yX7_car cX7_car 3 (some .int) 2 := ⟨lm_RL_31, kc_X7_car, kn_X7_car, by decide +kernel, by decide⟩
set_option maxRecDepth 100000 in
theorem cw_RL_34 : gk_cw RL 34 yX8_car cX8_car 3 (some .int) 2 := ⟨lm_RL_34, kc_X8_car, kn_X8_car, by decide +kernel, by decide⟩
set_option maxRecDepth 100000 in
theorem cw_RL_35 : gk_cw RL 35 yX7_coming cX7_coming 3 (some .int) 2 := ⟨lm_RL_35, kc_X7_coming, kn_X7_coming, by decide +kernel, by decide⟩
set_option maxRecDepth 100000 in
theorem cw_RL_38 : gk_cw RL 38 yX8_coming cX8_coming 3 (some .int) 2 := ⟨lm_RL_38, kc_X8_coming, kn_X8_coming, by decide +kernel, by decide⟩
set_option maxRecDepth 100000 in
theorem cw_RL_39 : gk_cw RL 39 yX7_speed cX7_speed 2 (some .int) 1 := ⟨lm_RL_39, kc_X7_speed, kn_X7_speed, by decide +kernel, by decide⟩
set_option maxRecDepth 100000 in
theorem cw_RL_42 : gk_cw RL 42 yX8_speed cX8_speed 2 (some .int) 1 := ⟨lm_RL_42, kc_X8_speed, kn_X8_speed, by decide +kernel, by decide⟩
set_option maxRecDepth 100000 in
theorem cw_RL_43 : gk_cw RL 43 yX7_event cX7_event 4 (some .int) 3 := ⟨lm_RL_43, kc_X7_event, kn_X7_event, by decide +kernel, by decide⟩
set_option maxRecDepth 100000 in
theorem cw_RL_47 : gk_cw RL 47 yX8_event cX8_event 4 (some .int) 3 := ⟨lm_RL_47, kc_X8_event, kn_X8_event, by decide +kernel, by decide⟩
set_option maxRecDepth 100000 in
theorem cw_RL_48 : gk_cw RL 48 yX7_back cX7_back 1 (some .int) 0 := ⟨lm_RL_48, kc_X7_back, kn_X7_back, by decide +kernel, by decide⟩
set_option maxRecDepth 100000 in
theorem cw_RL_52 : gk_cw RL 52 yX8_back cX8_back 1 (some .int) 0 := ⟨lm_RL_52, kc_X8_back, kn_X8_back, by decide +kernel, by decide⟩
set_option maxRecDepth 100000 in
theorem cw_RL_53 : gk_cw RL 53 yX7_read cX7_read 5 (some .int) 1 := ⟨lm_RL_53, kc_X7_read, kn_X7_read, by decide +kernel, by decide⟩
set_option maxRecDepth 100000 in
theorem cw_RL_56 : gk_cw RL 56 yX8_read cX8_read 4 (some .int) 1 := ⟨lm_RL_56, kc_X8_read, kn_X8_read, by decide +kernel, by decide⟩
set_option maxRecDepth 100000 in
theorem cw_RL_57 : gk_cw RL 57 yX7_at cX7_at 5 (some .int) 3 := ⟨lm_RL_57, kc_X7_at, kn_X7_at, by decide +kernel, by decide⟩
set_option maxRecDepth 100000 in
theorem cw_RL_60 : gk_cw RL 60 yX8_at cX8_at 4 (some .int) 3 := ⟨lm_RL_60, kc_X8_at, kn_X8_at, by decide +kernel, by decide⟩
set_option maxRecDepth 100000 in
theorem cw_RL_61 : gk_cw RL 61 yX7_waits cX7_waits 4 (some .int) 2 := ⟨lm_RL_61, kc_X7_waits, kn_X7_waits, by decide +kernel, by decide⟩
set_option maxRecDepth 100000 in
theorem cw_RL_64 : gk_cw RL 64 yX8_waits cX8_waits 3 (some .int) 2 := ⟨lm_RL_64, kc_X8_waits, kn_X8_waits, by decide +kernel, by decide⟩
set_option maxRecDepth 100000 in
theorem cw_RL_65 : gk_cw RL 65 yX7_over cX7_over 2 (some .int) 1 := ⟨lm_RL_65, kc_X7_over, kn_X7_over, by decide +kernel, by decide⟩
set_option maxRecDepth 100000 in
theorem cw_RL_68 : gk_cw RL 68 yX8_over cX8_over 2 (some .int) 1 := ⟨lm_RL_68, kc_X8_over, kn_X8_over, by decide +kernel, by decide⟩
set_option maxRecDepth 100000 in
theorem cw_RL_69 : gk_cw RL 69 yX7_sum cX7_sum 1 (some .int) 0 := ⟨lm_RL_69, kc_X7_sum, kn_X7_sum, by decide +kernel, by decide⟩
set_option maxRecDepth 100000 in
theorem cw_RL_72 : gk_cw RL 72 yX8_sum cX8_sum 1 (some .int) 0 := ⟨lm_RL_72, kc_X8_sum, kn_X8_sum, by decide +kernel, by decide⟩
set_option maxRecDepth 100000 in
theorem cw_RL_73 : gk_cw RL 73 yX7_crowd cX7_crowd 6 (some .int) 2 := ⟨lm_RL_73, kc_X7_crowd, kn_X7_crowd, by decide +kernel, by decide⟩
set_option maxRecDepth 100000 in
theorem cw_RL_76 : gk_cw RL 76 yX8_crowd cX8_crowd 3 (some .int) 2 := ⟨lm_RL_76, kc_X8_crowd, kn_X8_crowd, by decide +kernel, by decide⟩
set_option maxRecDepth 100000 in
theorem cw_RL_77 : gk_cw RL 77 yX7_first cX7_first 2 (some .int) 1 := ⟨lm_RL_77, kc_X7_first, kn_X7_first, by decide +kernel, by decide⟩
set_option maxRecDepth 100000 in
theorem cw_RL_80 : gk_cw RL 80 yX8_first cX8_first 2 (some .int) 1 := ⟨lm_RL_80, kc_X8_first, kn_X8_first, by decide +kernel, by decide⟩
set_option maxRecDepth 100000 in
theorem cw_RL_81 : gk_cw RL 81 yX7_carried cX7_carried 2 (some .int) 1 := ⟨lm_RL_81, kc_X7_carried, kn_X7_carried, by decide +kernel, by decide⟩
set_option maxRecDepth 100000 in
theorem cw_RL_84 : gk_cw RL 84 yX8_carried cX8_carried 2 (some .int) 1 := ⟨lm_RL_84, kc_X8_carried, kn_X8_carried, by decide +kernel, by decide⟩
set_option maxRecDepth 100000 in
theorem cw_RL_85 : gk_cw RL 85 yX7_idle cX7_idle 1 (some .int) 0 := ⟨lm_RL_85, kc_X7_idle, kn_X7_idle, by decide +kernel, by decide⟩
set_option maxRecDepth 100000 in
theorem cw_RL_88 : gk_cw RL 88 yX8_idle cX8_idle 1 (some .int) 0 := ⟨lm_RL_88, kc_X8_idle, kn_X8_idle, by decide +kernel, by decide⟩
set_option maxRecDepth 100000 in
theorem cw_RL_89 : gk_cw RL 89 yX7_left cX7_left 1 (some .int) 0 := ⟨lm_RL_89, kc_X7_left, kn_X7_left, by decide +kernel, by decide⟩
set_option maxRecDepth 100000 in
theorem cw_RL_92 : gk_cw RL 92 yX8_left cX8_left 1 (some .int) 0 := ⟨lm_RL_92, kc_X8_left, kn_X8_left, by decide +kernel, by decide⟩
set_option maxRecDepth 100000 in
theorem cw_RL_93 : gk_cw RL 93 yX7_hang cX7_hang 6 (some .int) 2 := ⟨lm_RL_93, kc_X7_hang, kn_X7_hang, by decide +kernel, by decide⟩
set_option maxRecDepth 100000 in
theorem cw_RL_96 : gk_cw RL 96 yX8_hang cX8_hang 3 (some .int) 2 := ⟨lm_RL_96, kc_X8_hang, kn_X8_hang, by decide +kernel, by decide⟩
set_option maxRecDepth 100000 in
theorem cw_RL_97 : gk_cw RL 97 yX7_pace cX7_pace 6 (some .int) 2 := ⟨lm_RL_97, kc_X7_pace, kn_X7_pace, by decide +kernel, by decide⟩
set_option maxRecDepth 100000 in
theorem cw_RL_100 : gk_cw RL 100 yX8_pace cX8_pace 3 (some .int) 2 := ⟨lm_RL_100, kc_X8_pace, kn_X8_pace, by decide +kernel, by decide⟩
set_option maxRecDepth 100000 in
theorem cw_RL_101 : gk_cw RL 101 yX7_cheap cX7_cheap 7 (some .int) 2 := ⟨lm_RL_101, kc_X7_cheap, kn_X7_cheap, by decide +kernel, by decide⟩
set_option maxRecDepth 100000 in
theorem cw_RL_104 : gk_cw RL 104 yX8_cheap cX8_cheap 3 (some .int) 2 := ⟨lm_RL_104, kc_X8_cheap, kn_X8_cheap, by decide +kernel, by decide⟩
set_option maxRecDepth 100000 in
theorem cw_RL_105 : gk_cw RL 105 yX7_spare cX7_spare 3 (some .int) 1 := ⟨lm_RL_105, kc_X7_spare, kn_X7_spare, by decide +kernel, by decide⟩
set_option maxRecDepth 100000 in
theorem cw_RL_108 : gk_cw RL 108 yX8_spare cX8_spare 2 (some .int) 1 := ⟨lm_RL_108, kc_X8_spare, kn_X8_spare, by decide +kernel, by decide⟩
set_option maxRecDepth 100000 in
theorem cw_RL_109 : gk_cw RL 109 yX7_seen cX7_seen 4 (some .int) 3 := ⟨lm_RL_109, kc_X7_seen, kn_X7_seen, by decide +kernel, by decide⟩
set_option maxRecDepth 100000 in
theorem cw_RL_112 : gk_cw RL 112 yX8_seen cX8_seen 4 (some .int) 3 := ⟨lm_RL_112, kc_X8_seen, kn_X8_seen, by decide +kernel, by decide⟩
set_option maxRecDepth 100000 in
theorem cw_RL_113 : gk_cw RL 113 yX7_forget cX7_forget 2 (some .int) 0 := ⟨lm_RL_113, kc_X7_forget, kn_X7_forget, by decide +kernel, by decide⟩
set_option maxRecDepth 100000 in
theorem cw_RL_116 : gk_cw RL 116 yX8_forget cX8_forget 2 (some .int) 0 := ⟨lm_RL_116, kc_X8_forget, kn_X8_forget, by decide +kernel, by decide⟩
set_option maxRecDepth 100000 in
theorem cw_RL_117 : gk_cw RL 117 yX7_never cX7_never 3 (some .int) 0 := ⟨lm_RL_117, kc_X7_never, kn_X7_never, by decide +kernel, by decide⟩
set_option maxRecDepth 100000 in
theorem cw_RL_120 : gk_cw RL 120 yX8_never cX8_never 1 (some .int) 0 := ⟨lm_RL_120, kc_X8_never, kn_X8_never, by decide +kernel, by decide⟩
set_option maxRecDepth 100000 in
theorem cw_RL_121 : gk_cw RL 121 yX7_was cX7_was 3 (some .int) 2 := ⟨lm_RL_121, kc_X7_was, kn_X7_was, by decide +kernel, by decide⟩
set_option maxRecDepth 100000 in
theorem cw_RL_124 : gk_cw RL 124 yX8_was cX8_was 3 (some .int) 2 := ⟨lm_RL_124, kc_X8_was, kn_X8_was, by decide +kernel, by decide⟩
set_option maxRecDepth 100000 in
theorem cw_RL_125 : gk_cw RL 125 yX7_ask cX7_ask 6 (some .int) 1 := ⟨lm_RL_125, kc_X7_ask, kn_X7_ask, by decide +kernel, by decide⟩
set_option maxRecDepth 100000 in
theorem cw_RL_128 : gk_cw RL 128 yX8_ask cX8_ask 2 (some .int) 1 := ⟨lm_RL_128, kc_X8_ask, kn_X8_ask, by decide +kernel, by decide⟩
set_option maxRecDepth 100000 in
theorem cw_RL_129 : gk_cw RL 129 yX7_chance cX7_chance 9 (some .long) 3 := ⟨lm_RL_129, kc_X7_chance, kn_X7_chance, by decide +kernel, by decide⟩
set_option maxRecDepth 100000 in
theorem cw_RL_133 : gk_cw RL 133 yX8_chance cX8_chance 4 (some .long) 3 := ⟨lm_RL_133, kc_X8_chance, kn_X8_chance, by decide +kernel, by decide⟩
set_option maxRecDepth 100000 in
theorem cw_RL_134 : gk_cw RL 134 yX7_years cX7_years 6 (some .int) 3 := ⟨lm_RL_134, kc_X7_years, kn_X7_years, by decide +kernel, by decide⟩
set_option maxRecDepth 100000 in
theorem cw_RL_137 : gk_cw RL 137 yX8_years cX8_years 4 (some .int) 3 := ⟨lm_RL_137, kc_X8_years, kn_X8_years, by decide +kernel, by decide⟩
set_option maxRecDepth 100000 in
theorem cw_RL_138 : gk_cw RL 138 yX7_sheet cX7_sheet 5 (some .int) 3 := ⟨lm_RL_138, kc_X7_sheet, kn_X7_sheet, by decide +kernel, by decide⟩
set_option maxRecDepth 100000 in
theorem cw_RL_141 : gk_cw RL 141 yX8_sheet cX8_sheet 5 (some .int) 3 := ⟨lm_RL_141, kc_X8_sheet, kn_X8_sheet, by decide +kernel, by decide⟩
set_option maxRecDepth 100000 in
theorem cw_RL_142 : gk_cw RL 142 yX7_lose cX7_lose 3 (some .int) 1 := ⟨lm_RL_142, kc_X7_lose, kn_X7_lose, by decide +kernel, by decide⟩
set_option maxRecDepth 100000 in
theorem cw_RL_145 : gk_cw RL 145 yX8_lose cX8_lose 2 (some .int) 1 := ⟨lm_RL_145, kc_X8_lose, kn_X8_lose, by decide +kernel, by decide⟩
set_option maxRecDepth 100000 in
theorem cw_RL_146 : gk_cw RL 146 yX7_put cX7_put 7 (some .int) 4 := ⟨lm_RL_146, kc_X7_put, kn_X7_put, by decide +kernel, by decide⟩
set_option maxRecDepth 100000 in
theorem cw_RL_150 : gk_cw RL 150 yX8_put cX8_put 6 (some .int) 4 := ⟨lm_RL_150, kc_X8_put, kn_X8_put, by decide +kernel, by decide⟩
set_option maxRecDepth 100000 in
theorem cw_RL_151 : gk_cw RL 151 yX7_get cX7_get 6 (some .int) 3 := ⟨lm_RL_151, kc_X7_get, kn_X7_get, by decide +kernel, by decide⟩
set_option maxRecDepth 100000 in
theorem cw_RL_154 : gk_cw RL 154 yX8_get cX8_get 5 (some .int) 3 := ⟨lm_RL_154, kc_X8_get, kn_X8_get, by decide +kernel, by decide⟩
set_option maxRecDepth 100000 in
theorem cw_RL_155 : gk_cw RL 155 yX7_copy cX7_copy 8 (some .int) 5 := ⟨lm_RL_155, kc_X7_copy, kn_X7_copy, by decide +kernel, by decide⟩
set_option maxRecDepth 100000 in
theorem cw_RL_159 : gk_cw RL 159 yX8_copy cX8_copy 7 (some .int) 5 := ⟨lm_RL_159, kc_X8_copy, kn_X8_copy, by decide +kernel, by decide⟩
set_option maxRecDepth 100000 in
theorem cw_RL_160 : gk_cw RL 160 yX7_write cX7_write 7 (some .int) 2 := ⟨lm_RL_160, kc_X7_write, kn_X7_write, by decide +kernel, by decide⟩
set_option maxRecDepth 100000 in
theorem cw_RL_163 : gk_cw RL 163 yX8_write cX8_write 4 (some .int) 2 := ⟨lm_RL_163, kc_X8_write, kn_X8_write, by decide +kernel, by decide⟩
set_option maxRecDepth 100000 in
theorem cw_RL_164 : gk_cw RL 164 yX7_count cX7_count 2 (some .int) 1 := ⟨lm_RL_164, kc_X7_count, kn_X7_count, by decide +kernel, by decide⟩
set_option maxRecDepth 100000 in
theorem cw_RL_167 : gk_cw RL 167 yX8_count cX8_count 2 (some .int) 1 := ⟨lm_RL_167, kc_X8_count, kn_X8_count, by decide +kernel, by decide⟩
set_option maxRecDepth 100000 in
theorem cw_RL_168 : gk_cw RL 168 yX7_digest cX7_digest 8 (some .long) 0 := ⟨lm_RL_168, kc_X7_digest, kn_X7_digest, by decide +kernel, by decide⟩
set_option maxRecDepth 100000 in
theorem cw_RL_172 : gk_cw RL 172 yX8_digest cX8_digest 5 (some .long) 0 := ⟨lm_RL_172, kc_X8_digest, kn_X8_digest, by decide +kernel, by decide⟩
set_option maxRecDepth 100000 in
theorem cw_RX8_112 : gk_cw RX8 112 yX8_in cX8_in 3 (some .boolean) 3 := ⟨lm_RX8_112, kc_X8_in, kn_X8_in, by decide +kernel, by decide⟩
set_option maxRecDepth 100000 in
theorem cw_RX8_116 : gk_cw RX8 116 yX8_isText cX8_isText 1 (some .boolean) 1 := ⟨lm_RX8_116, kc_X8_isText, kn_X8_isText, by decide +kernel, by decide⟩
set_option maxRecDepth 100000 in
theorem cw_RX8_120 : gk_cw RX8 120 yX8_roomOf cX8_roomOf 1 (some .int) 1 := ⟨lm_RX8_120, kc_X8_roomOf, kn_X8_roomOf, by decide +kernel, by decide⟩
set_option maxRecDepth 100000 in
theorem cw_RX8_124 : gk_cw RX8 124 yX8_byteAt cX8_byteAt 3 (some .int) 2 := ⟨lm_RX8_124, kc_X8_byteAt, kn_X8_byteAt, by decide +kernel, by decide⟩
set_option maxRecDepth 100000 in
theorem cw_RX8_128 : gk_cw RX8 128 yX8_isTaken cX8_isTaken 5 (some .boolean) 2 := ⟨lm_RX8_128, kc_X8_isTaken, kn_X8_isTaken, by decide +kernel, by decide⟩
set_option maxRecDepth 100000 in
theorem cw_RX8_132 : gk_cw RX8 132 yX8_isMoment cX8_isMoment 1 (some .boolean) 1 := ⟨lm_RX8_132, kc_X8_isMoment, kn_X8_isMoment, by decide +kernel, by decide⟩
set_option maxRecDepth 100000 in
theorem cw_RX8_142 : gk_cw RX8 142 yX8_readsCar cX8_readsCar 7 (some .int) 2 := ⟨lm_RX8_142, kc_X8_readsCar, kn_X8_readsCar, by decide +kernel, by decide⟩
set_option maxRecDepth 100000 in
theorem cw_RX8_145 : gk_cw RX8 145 yX8_readsComing cX8_readsComing 6 (some .int) 2 := ⟨lm_RX8_145, kc_X8_readsComing, kn_X8_readsComing, by decide +kernel, by decide⟩
set_option maxRecDepth 100000 in
theorem cw_RX8_151 : gk_cw RX8 151 yX8_readsParts cX8_readsParts 5 (some .int) 1 := ⟨lm_RX8_151, kc_X8_readsParts, kn_X8_readsParts, by decide +kernel, by decide⟩
set_option maxRecDepth 100000 in
theorem cw_RX8_154 : gk_cw RX8 154 yX8_readsSpeed cX8_readsSpeed 2 (some .int) 0 := ⟨lm_RX8_154, kc_X8_readsSpeed, kn_X8_readsSpeed, by decide +kernel, by decide⟩
set_option maxRecDepth 100000 in
theorem cw_RX8_158 : gk_cw RX8 158 yX8_faultOf cX8_faultOf 5 (some .int) 1 := ⟨lm_RX8_158, kc_X8_faultOf, kn_X8_faultOf, by decide +kernel, by decide⟩
set_option maxRecDepth 100000 in
theorem cw_RX8_161 : gk_cw RX8 161 yX8_reads cX8_reads 2 none 0 := ⟨lm_RX8_161, kc_X8_reads, kn_X8_reads, by decide +kernel, by decide⟩
set_option maxRecDepth 100000 in
theorem cw_RX8_164 : gk_cw RX8 164 yX8_isCar cX8_isCar 2 (some .boolean) 1 := ⟨lm_RX8_164, kc_X8_isCar, kn_X8_isCar, by decide +kernel, by decide⟩
set_option maxRecDepth 100000 in
theorem cw_RX8_167 : gk_cw RX8 167 yX8_isThree cX8_isThree 1 (some .boolean) 1 := ⟨lm_RX8_167, kc_X8_isThree, kn_X8_isThree, by decide +kernel, by decide⟩
set_option maxRecDepth 100000 in
theorem cw_RX8_170 : gk_cw RX8 170 yX8_carOf cX8_carOf 3 (some .int) 2 := ⟨lm_RX8_170, kc_X8_carOf, kn_X8_carOf, by decide +kernel, by decide⟩
set_option maxRecDepth 100000 in
theorem cw_RX8_173 : gk_cw RX8 173 yX8_comingOf cX8_comingOf 3 (some .int) 2 := ⟨lm_RX8_173, kc_X8_comingOf, kn_X8_comingOf, by decide +kernel, by decide⟩
set_option maxRecDepth 100000 in
theorem cw_RX8_176 : gk_cw RX8 176 yX8_speedOf cX8_speedOf 2 (some .int) 1 := ⟨lm_RX8_176, kc_X8_speedOf, kn_X8_speedOf, by decide +kernel, by decide⟩
set_option maxRecDepth 100000 in
theorem cw_RX8_182 : gk_cw RX8 182 yX8_isSheet cX8_isSheet 1 (some .boolean) 1 := ⟨lm_RX8_182, kc_X8_isSheet, kn_X8_isSheet, by decide +kernel, by decide⟩
set_option maxRecDepth 100000 in
theorem cw_RX8_185 : gk_cw RX8 185 yX8_meets cX8_meets 2 (some .int) 1 := ⟨lm_RX8_185, kc_X8_meets, kn_X8_meets, by decide +kernel, by decide⟩
set_option maxRecDepth 100000 in
theorem cw_RX8_188 : gk_cw RX8 188 yX8_event cX8_event 4 (some .int) 3 := ⟨lm_RX8_188, kc_X8_event, kn_X8_event, by decide +kernel, by decide⟩
set_option maxRecDepth 100000 in
theorem cw_RX8_202 : gk_cw RX8 202 yX8_isIn cX8_isIn 2 (some .boolean) 2 := ⟨lm_RX8_202, kc_X8_isIn, kn_X8_isIn, by decide +kernel, by decide⟩
set_option maxRecDepth 100000 in
theorem cw_RX8_217 : gk_cw RX8 217 yX8_getsOut cX8_getsOut 4 none 2 := ⟨lm_RX8_217, kc_X8_getsOut, kn_X8_getsOut, by decide +kernel, by decide⟩
set_option maxRecDepth 100000 in
theorem cw_RX8_221 : gk_cw RX8 221 yX8_getsIn cX8_getsIn 5 none 1 := ⟨lm_RX8_221, kc_X8_getsIn, kn_X8_getsIn, by decide +kernel, by decide⟩
set_option maxRecDepth 100000 in
theorem cw_RX8_228 : gk_cw RX8 228 yX8_befalls cX8_befalls 3 none 1 := ⟨lm_RX8_228, kc_X8_befalls, kn_X8_befalls, by decide +kernel, by decide⟩
set_option maxRecDepth 100000 in
theorem cw_RX8_231 : gk_cw RX8 231 yX8_goesOn cX8_goesOn 3 none 0 := ⟨lm_RX8_231, kc_X8_goesOn, kn_X8_goesOn, by decide +kernel, by decide⟩
set_option maxRecDepth 100000 in
theorem cw_RX8_234 : gk_cw RX8 234 yX8_servesAll cX8_servesAll 5 none 2 := ⟨lm_RX8_234, kc_X8_servesAll, kn_X8_servesAll, by decide +kernel, by decide⟩
set_option maxRecDepth 100000 in
theorem cw_RX8_241 : gk_cw RX8 241 yX8_goesBy cX8_goesBy 4 none 1 := ⟨lm_RX8_241, kc_X8_goesBy, kn_X8_goesBy, by decide +kernel, by decide⟩
set_option maxRecDepth 100000 in
theorem cw_RX8_244 : gk_cw RX8 244 yX8_asTold cX8_asTold 2 none 0 := ⟨lm_RX8_244, kc_X8_asTold, kn_X8_asTold, by decide +kernel, by decide⟩
set_option maxRecDepth 100000 in
theorem cw_RX8_247 : gk_cw RX8 247 yX8_runs cX8_runs 2 none 0 := ⟨lm_RX8_247, kc_X8_runs, kn_X8_runs, by decide +kernel, by decide⟩
set_option maxRecDepth 100000 in
theorem cw_RX8_250 : gk_cw RX8 250 yX8_runsTold cX8_runsTold 1 none 0 := ⟨lm_RX8_250, kc_X8_runsTold, kn_X8_runsTold, by decide +kernel, by decide⟩
set_option maxRecDepth 100000 in
theorem cw_RX8_253 : gk_cw RX8 253 yX8_isTwo cX8_isTwo 1 (some .boolean) 1 := ⟨lm_RX8_253, kc_X8_isTwo, kn_X8_isTwo, by decide +kernel, by decide⟩
set_option maxRecDepth 100000 in
theorem cw_RX8_256 : gk_cw RX8 256 yX8_atOf cX8_atOf 4 (some .int) 3 := ⟨lm_RX8_256, kc_X8_atOf, kn_X8_atOf, by decide +kernel, by decide⟩
set_option maxRecDepth 100000 in
theorem cw_RX8_259 : gk_cw RX8 259 yX8_waitsOf cX8_waitsOf 3 (some .int) 2 := ⟨lm_RX8_259, kc_X8_waitsOf, kn_X8_waitsOf, by decide +kernel, by decide⟩
set_option maxRecDepth 100000 in
theorem cw_RX8_262 : gk_cw RX8 262 yX8_overOf cX8_overOf 2 (some .int) 1 := ⟨lm_RX8_262, kc_X8_overOf, kn_X8_overOf, by decide +kernel, by decide⟩
set_option maxRecDepth 100000 in
theorem cw_RX8_265 : gk_cw RX8 265 yX8_sumOf cX8_sumOf 1 (some .int) 0 := ⟨lm_RX8_265, kc_X8_sumOf, kn_X8_sumOf, by decide +kernel, by decide⟩
set_option maxRecDepth 100000 in
theorem cw_RX8_268 : gk_cw RX8 268 yX8_crowdOf cX8_crowdOf 5 (some .int) 2 := ⟨lm_RX8_268, kc_X8_crowdOf, kn_X8_crowdOf, by decide +kernel, by decide⟩
set_option maxRecDepth 100000 in
theorem cw_RX8_271 : gk_cw RX8 271 yX8_firstOf cX8_firstOf 2 (some .int) 1 := ⟨lm_RX8_271, kc_X8_firstOf, kn_X8_firstOf, by decide +kernel, by decide⟩
set_option maxRecDepth 100000 in
theorem cw_RX8_274 : gk_cw RX8 274 yX8_carriedOf cX8_carriedOf 2 (some .int) 1 := ⟨lm_RX8_274, kc_X8_carriedOf, kn_X8_carriedOf, by decide +kernel, by decide⟩
set_option maxRecDepth 100000 in
theorem cw_RX8_277 : gk_cw RX8 277 yX8_idleOf cX8_idleOf 1 (some .int) 0 := ⟨lm_RX8_277, kc_X8_idleOf, kn_X8_idleOf, by decide +kernel, by decide⟩
set_option maxRecDepth 100000 in
theorem cw_RX8_280 : gk_cw RX8 280 yX8_leftNow cX8_leftNow 1 (some .int) 0 := ⟨lm_RX8_280, kc_X8_leftNow, kn_X8_leftNow, by decide +kernel, by decide⟩
set_option maxRecDepth 100000 in
theorem cw_RX8_283 : gk_cw RX8 283 yX8_leftOf cX8_leftOf 1 (some .int) 0 := ⟨lm_RX8_283, kc_X8_leftOf, kn_X8_leftOf, by decide +kernel, by decide⟩
set_option maxRecDepth 100000 in
theorem cw_RX8_286 : gk_cw RX8 286 yX8_isOther cX8_isOther 5 (some .boolean) 2 := ⟨lm_RX8_286, kc_X8_isOther, kn_X8_isOther, by decide +kernel, by decide⟩
set_option maxRecDepth 100000 in
theorem cw_RX8_289 : gk_cw RX8 289 yX8_bothOver cX8_bothOver 1 (some .int) 0 := ⟨lm_RX8_289, kc_X8_bothOver, kn_X8_bothOver, by decide +kernel, by decide⟩
set_option maxRecDepth 100000 in
theorem cw_RX8_292 : gk_cw RX8 292 yX8_hangOf cX8_hangOf 8 (some .int) 2 := ⟨lm_RX8_292, kc_X8_hangOf, kn_X8_hangOf, by decide +kernel, by decide⟩
set_option maxRecDepth 100000 in
theorem cw_RX8_295 : gk_cw RX8 295 yX8_paceOf cX8_paceOf 7 (some .int) 2 := ⟨lm_RX8_295, kc_X8_paceOf, kn_X8_paceOf, by decide +kernel, by decide⟩
set_option maxRecDepth 100000 in
theorem cw_RX8_298 : gk_cw RX8 298 yX8_cheapOf cX8_cheapOf 7 (some .int) 2 := ⟨lm_RX8_298, kc_X8_cheapOf, kn_X8_cheapOf, by decide +kernel, by decide⟩
set_option maxRecDepth 100000 in
theorem cw_RX8_301 : gk_cw RX8 301 yX8_isSpared cX8_isSpared 2 (some .boolean) 1 := ⟨lm_RX8_301, kc_X8_isSpared, kn_X8_isSpared, by decide +kernel, by decide⟩
set_option maxRecDepth 100000 in
theorem cw_RX8_304 : gk_cw RX8 304 yX8_spareBy cX8_spareBy 3 (some .int) 0 := ⟨lm_RX8_304, kc_X8_spareBy, kn_X8_spareBy, by decide +kernel, by decide⟩
set_option maxRecDepth 100000 in
theorem cw_RX8_307 : gk_cw RX8 307 yX8_ofRow cX8_ofRow 3 (some .int) 2 := ⟨lm_RX8_307, kc_X8_ofRow, kn_X8_ofRow, by decide +kernel, by decide⟩
set_option maxRecDepth 100000 in
theorem cw_RX8_313 : gk_cw RX8 313 yX8_isSeen cX8_isSeen 3 (some .boolean) 0 := ⟨lm_RX8_313, kc_X8_isSeen, kn_X8_isSeen, by decide +kernel, by decide⟩
set_option maxRecDepth 100000 in
theorem cw_RX8_317 : gk_cw RX8 317 yX8_neverNow cX8_neverNow 3 (some .int) 0 := ⟨lm_RX8_317, kc_X8_neverNow, kn_X8_neverNow, by decide +kernel, by decide⟩
set_option maxRecDepth 100000 in
theorem cw_RX8_320 : gk_cw RX8 320 yX8_roomsBy cX8_roomsBy 6 (some .int) 1 := ⟨lm_RX8_320, kc_X8_roomsBy, kn_X8_roomsBy, by decide +kernel, by decide⟩
set_option maxRecDepth 100000 in
theorem cw_RX8_323 : gk_cw RX8 323 yX8_sortsBy cX8_sortsBy 5 (some .int) 1 := ⟨lm_RX8_323, kc_X8_sortsBy, kn_X8_sortsBy, by decide +kernel, by decide⟩
set_option maxRecDepth 100000 in
theorem cw_RX8_326 : gk_cw RX8 326 yX8_askOf cX8_askOf 10 (some .int) 1 := ⟨lm_RX8_326, kc_X8_askOf, kn_X8_askOf, by decide +kernel, by decide⟩
set_option maxRecDepth 100000 in
theorem cw_RX8_329 : gk_cw RX8 329 yX8_lowest cX8_lowest 11 (some .long) 3 := ⟨lm_RX8_329, kc_X8_lowest, kn_X8_lowest, by decide +kernel, by decide⟩
set_option maxRecDepth 100000 in
theorem cw_RX8_333 : gk_cw RX8 333 yX8_chanceOf cX8_chanceOf 10 (some .long) 3 := ⟨lm_RX8_333, kc_X8_chanceOf, kn_X8_chanceOf, by decide +kernel, by decide⟩
set_option maxRecDepth 100000 in
theorem cw_RX8_337 : gk_cw RX8 337 yX8_no cX8_no 1 (some .long) 1 := ⟨lm_RX8_337, kc_X8_no, kn_X8_no, by decide +kernel, by decide⟩
set_option maxRecDepth 100000 in
theorem cw_RX8_342 : gk_cw RX8 342 yX8_yearsOf cX8_yearsOf 6 (some .int) 3 := ⟨lm_RX8_342, kc_X8_yearsOf, kn_X8_yearsOf, by decide +kernel, by decide⟩
set_option maxRecDepth 100000 in
theorem cw_RX8_348 : gk_cw RX8 348 yX8_lacks cX8_lacks 4 (some .int) 3 := ⟨lm_RX8_348, kc_X8_lacks, kn_X8_lacks, by decide +kernel, by decide⟩
set_option maxRecDepth 100000 in
theorem cw_RX8_351 : gk_cw RX8 351 yX8_keep cX8_keep 4 none 3 := ⟨lm_RX8_351, kc_X8_keep, kn_X8_keep, by decide +kernel, by decide⟩
set_option maxRecDepth 100000 in
theorem cw_RX8_356 : gk_cw RX8 356 yX8_tellOf cX8_tellOf 2 (some .int) 1 := ⟨lm_RX8_356, kc_X8_tellOf, kn_X8_tellOf, by decide +kernel, by decide⟩
set_option maxRecDepth 100000 in
theorem cw_RX8_361 : gk_cw RX8 361 yX8_atDigest cX8_atDigest 7 (some .long) 3 := ⟨lm_RX8_361, kc_X8_atDigest, kn_X8_atDigest, by decide +kernel, by decide⟩
set_option maxRecDepth 100000 in
theorem cw_RX8_367 : gk_cw RX8 367 yX8_count cX8_count 2 (some .int) 1 := ⟨lm_RX8_367, kc_X8_count, kn_X8_count, by decide +kernel, by decide⟩
set_option maxRecDepth 100000 in
theorem cw_RX8_370 : gk_cw RX8 370 yX8_momentDigest cX8_momentDigest 7 (some .long) 2 := ⟨lm_RX8_370, kc_X8_momentDigest, kn_X8_momentDigest, by decide +kernel, by decide⟩
set_option maxRecDepth 100000 in
theorem cw_RX8_374 : gk_cw RX8 374 yX8_carDigest cX8_carDigest 7 (some .long) 2 := ⟨lm_RX8_374, kc_X8_carDigest, kn_X8_carDigest, by decide +kernel, by decide⟩
set_option maxRecDepth 100000 in
theorem cw_RJ0_335 : gk_cw RJ0 335 yJ0_coder_7d493 cJ0_coder_7d493 1 (some .byte) 0 := ⟨lm_RJ0_335, kc_J0_coder_7d493, kn_J0_coder_7d493, by decide +kernel, by decide⟩
set_option maxRecDepth 100000 in
theorem cw_RJ0_492 : gk_cw RJ0 492 yJ0_isLatin1_aae02 cJ0_isLatin1_aae02 1 (some .boolean) 0 := ⟨lm_RJ0_492, kc_J0_isLatin1_aae02, kn_J0_isLatin1_aae02, by decide +kernel, by decide⟩
set_option maxRecDepth 100000 in
theorem cw_RJ0_505 : gk_cw RJ0 505 yJ0_length_8abf5 cJ0_length_8abf5 1 (some .int) 0 := ⟨lm_RJ0_505, kc_J0_length_8abf5, kn_J0_length_8abf5, by decide +kernel, by decide⟩
set_option maxRecDepth 100000 in
theorem cw_RJ0_633 : gk_cw RJ0 633 yJ0_indexOf_7cf53 cJ0_indexOf_7cf53 3 (some .int) 2 := ⟨lm_RJ0_633, kc_J0_indexOf_7cf53, kn_J0_indexOf_7cf53, by decide +kernel, by decide⟩
set_option maxRecDepth 100000 in
theorem cw_RJ0_637 : gk_cw RJ0 637 yJ1_indexOf_4cfef cJ1_indexOf_4cfef 4 (some .int) 4 := ⟨lm_RJ0_637, kc_J1_indexOf_4cfef, kn_J1_indexOf_4cfef, by decide +kernel, by decide⟩
set_option maxRecDepth 100000 in
theorem cw_RJ0_640 : gk_cw RJ0 640 yJ2_indexOf_4cfef cJ2_indexOf_4cfef 4 (some .int) 4 := ⟨lm_RJ0_640, kc_J2_indexOf_4cfef, kn_J2_indexOf_4cfef, by decide +kernel, by decide⟩
set_option maxRecDepth 100000 in
theorem cw_RJ0_1062 : gk_cw RJ0 1062 yJ3_checkFromToIndex_8c36e cJ3_checkFromToIndex_8c36e 4 (some .int) 4 := ⟨lm_RJ0_1062, kc_J3_checkFromToIndex_8c36e, kn_J3_checkFromToIndex_8c36e, by decide +kernel, by decide⟩
set_option maxRecDepth 100000 in
theorem cw_RJ1_38 : gk_cw RJ1 38 yJ9_min_7cf53 cJ9_min_7cf53 2 (some .int) 2 := ⟨lm_RJ1_38, kc_J9_min_7cf53, kn_J9_min_7cf53, by decide +kernel, by decide⟩
set_option maxRecDepth 100000 in
theorem cw_RJ1_88 : gk_cw RJ1 88 yJ1_canEncode_9a6ad cJ1_canEncode_9a6ad 1 (some .boolean) 1 := ⟨lm_RJ1_88, kc_J1_canEncode_9a6ad, kn_J1_canEncode_9a6ad, by decide +kernel, by decide⟩
set_option maxRecDepth 100000 in
theorem cw_RJ1_92 : gk_cw RJ1 92 yJ9_max_7cf53 cJ9_max_7cf53 2 (some .int) 2 := ⟨lm_RJ1_92, kc_J9_max_7cf53, kn_J9_max_7cf53, by decide +kernel, by decide⟩
set_option maxRecDepth 100000 in
theorem cw_RJ1_95 : gk_cw RJ1 95 yJ1_indexOfChar_4cfef cJ1_indexOfChar_4cfef 6 (some .int) 4 := ⟨lm_RJ1_95, kc_J1_indexOfChar_4cfef, kn_J1_indexOfChar_4cfef, by decide +kernel, by decide⟩
set_option maxRecDepth 100000 in
theorem cw_RJ2_48 : gk_cw RJ2 48 yJ2_length_9d52b cJ2_length_9d52b 1 (some .int) 1 := ⟨lm_RJ2_48, kc_J2_length_9d52b, kn_J2_length_9d52b, by decide +kernel, by decide⟩
set_option maxRecDepth 100000 in
theorem cw_RJ2_71 : gk_cw RJ2 71 yJ2_getChar_3b067 cJ2_getChar_3b067 2 (some .char) 2 := ⟨lm_RJ2_71, kc_J2_getChar_3b067, kn_J2_getChar_3b067, by decide +kernel, by decide⟩
set_option maxRecDepth 100000 in
theorem cw_RJ2_96 : gk_cw RJ2 96 yJ2_checkBoundsBeginEnd_d044e cJ2_checkBoundsBeginEnd_d044e 3 none 3 := ⟨lm_RJ2_96, kc_J2_checkBoundsBeginEnd_d044e, kn_J2_checkBoundsBeginEnd_d044e, by decide +kernel, by decide⟩
set_option maxRecDepth 100000 in
theorem cw_RJ2_157 : gk_cw RJ2 157 yJ11_highSurrogate_5068e cJ11_highSurrogate_5068e 1 (some .char) 1 := ⟨lm_RJ2_157, kc_J11_highSurrogate_5068e, kn_J11_highSurrogate_5068e, by decide +kernel, by decide⟩
set_option maxRecDepth 100000 in
theorem cw_RJ2_161 : gk_cw RJ2 161 yJ11_lowSurrogate_5068e cJ11_lowSurrogate_5068e 1 (some .char) 1 := ⟨lm_RJ2_161, kc_J11_lowSurrogate_5068e, kn_J11_lowSurrogate_5068e, by decide +kernel, by decide⟩
set_option maxRecDepth 100000 in
theorem cw_RJ2_164 : gk_cw RJ2 164 yJ11_isValidCodePoint_9a6ad cJ11_isValidCodePoint_9a6ad 2 (some .boolean) 1 := ⟨lm_RJ2_164, kc_J11_isValidCodePoint_9a6ad, kn_J11_isValidCodePoint_9a6ad, by decide +kernel, by decide⟩
set_option maxRecDepth 100000 in
theorem cw_RJ2_183 : gk_cw RJ2 183 yJ9_min_7cf53 cJ9_min_7cf53 2 (some .int) 2 := ⟨lm_RJ2_183, kc_J9_min_7cf53, kn_J9_min_7cf53, by decide +kernel, by decide⟩
set_option maxRecDepth 100000 in
theorem cw_RJ2_224 : gk_cw RJ2 224 yJ9_max_7cf53 cJ9_max_7cf53 2 (some .int) 2 := ⟨lm_RJ2_224, kc_J9_max_7cf53, kn_J9_max_7cf53, by decide +kernel, by decide⟩
set_option maxRecDepth 100000 in
theorem cw_RJ2_228 : gk_cw RJ2 228 yJ2_indexOfChar_4cfef cJ2_indexOfChar_4cfef 4 (some .int) 4 := ⟨lm_RJ2_228, kc_J2_indexOfChar_4cfef, kn_J2_indexOfChar_4cfef, by decide +kernel, by decide⟩
set_option maxRecDepth 100000 in
theorem cw_RJ2_232 : gk_cw RJ2 232 yJ2_indexOfSupplementary_4cfef cJ2_indexOfSupplementary_4cfef 7 (some .int) 4 := ⟨lm_RJ2_232, kc_J2_indexOfSupplementary_4cfef, kn_J2_indexOfSupplementary_4cfef, by decide +kernel, by decide⟩
set_option maxRecDepth 100000 in
theorem cw_RJ2_241 : gk_cw RJ2 241 yJ0_checkBoundsBeginEnd_23922 cJ0_checkBoundsBeginEnd_23922 3 none 3 := ⟨lm_RJ2_241, kc_J0_checkBoundsBeginEnd_23922, kn_J0_checkBoundsBeginEnd_23922, by decide +kernel, by decide⟩
set_option maxRecDepth 100000 in
theorem cw_RJ2_244 : gk_cw RJ2 244 yJ2_indexOfCharUnsafe_4cfef cJ2_indexOfCharUnsafe_4cfef 5 (some .int) 4 := ⟨lm_RJ2_244, kc_J2_indexOfCharUnsafe_4cfef, kn_J2_indexOfCharUnsafe_4cfef, by decide +kernel, by decide⟩
set_option maxRecDepth 100000 in
theorem cn_RX0_25 : (RX0, 25, yX7_within) ∈ gk_nest := List.mem_of_getElem? (i := 0) rfl
set_option maxRecDepth 100000 in
theorem cn_RX0_29 : (RX0, 29, yX7_isMoment) ∈ gk_nest := List.mem_of_getElem? (i := 1) rfl
set_option maxRecDepth 100000 in
theorem cn_RX6_67 : (RX6, 67, yX7_within) ∈ gk_nest := List.mem_of_getElem? (i := 2) rfl
