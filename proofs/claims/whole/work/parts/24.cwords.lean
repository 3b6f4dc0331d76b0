set_option maxRecDepth 100000 in
theorem oi_i : Cond.instanceMethod Lib.objectInit ∈ gk_tb := gk_tb_in 109 (by decide +kernel) (by decide +kernel)
set_option maxRecDepth 100000 in
theorem oi_c : Cond.code Lib.objectInit ⟨#[0xb1]⟩ 1 none ∈ gk_tb := gk_tb_in 110 (by decide +kernel) (by decide +kernel)
set_option maxRecDepth 100000 in
theorem oi_RX7_1 : Cond.methodLink RX7 1 Lib.objectInit ∈ gk_tb := gk_tb_in 108 (by decide +kernel) (by decide +kernel)
set_option maxRecDepth 100000 in
theorem oi_RX0_3 : Cond.methodLink RX0 3 Lib.objectInit ∈ gk_tb := gk_tb_in 183 (by decide +kernel) (by decide +kernel)
set_option maxRecDepth 100000 in
theorem oi_RX1_3 : Cond.methodLink RX1 3 Lib.objectInit ∈ gk_tb := gk_tb_in 250 (by decide +kernel) (by decide +kernel)
set_option maxRecDepth 100000 in
theorem oi_RX2_3 : Cond.methodLink RX2 3 Lib.objectInit ∈ gk_tb := gk_tb_in 294 (by decide +kernel) (by decide +kernel)
set_option maxRecDepth 100000 in
theorem oi_RX3_3 : Cond.methodLink RX3 3 Lib.objectInit ∈ gk_tb := gk_tb_in 227 (by decide +kernel) (by decide +kernel)
set_option maxRecDepth 100000 in
theorem oi_RX4_3 : Cond.methodLink RX4 3 Lib.objectInit ∈ gk_tb := gk_tb_in 207 (by decide +kernel) (by decide +kernel)
set_option maxRecDepth 100000 in
theorem oi_RX5_3 : Cond.methodLink RX5 3 Lib.objectInit ∈ gk_tb := gk_tb_in 116 (by decide +kernel) (by decide +kernel)
set_option maxRecDepth 100000 in
theorem oi_RX6_3 : Cond.methodLink RX6 3 Lib.objectInit ∈ gk_tb := gk_tb_in 141 (by decide +kernel) (by decide +kernel)
set_option maxRecDepth 100000 in
theorem oi_RX8_1 : Cond.methodLink RX8 1 Lib.objectInit ∈ gk_tb := gk_tb_in 947 (by decide +kernel) (by decide +kernel)
set_option maxRecDepth 100000 in
theorem kl_RX7_7 : Cond.classLink RX7 7 RX5 ∈ gk_tb := gk_tb_in 111 (by decide +kernel) (by decide +kernel)
set_option maxRecDepth 100000 in
theorem kl_RX7_24 : Cond.classLink RX7 24 RX6 ∈ gk_tb := gk_tb_in 135 (by decide +kernel) (by decide +kernel)
set_option maxRecDepth 100000 in
theorem kl_RX7_40 : Cond.classLink RX7 40 RX0 ∈ gk_tb := gk_tb_in 178 (by decide +kernel) (by decide +kernel)
set_option maxRecDepth 100000 in
theorem kl_RX7_47 : Cond.classLink RX7 47 RX4 ∈ gk_tb := gk_tb_in 202 (by decide +kernel) (by decide +kernel)
set_option maxRecDepth 100000 in
theorem kl_RX7_54 : Cond.classLink RX7 54 RX3 ∈ gk_tb := gk_tb_in 222 (by decide +kernel) (by decide +kernel)
set_option maxRecDepth 100000 in
theorem kl_RX7_70 : Cond.classLink RX7 70 RX1 ∈ gk_tb := gk_tb_in 245 (by decide +kernel) (by decide +kernel)
set_option maxRecDepth 100000 in
theorem kl_RX7_77 : Cond.classLink RX7 77 RX2 ∈ gk_tb := gk_tb_in 289 (by decide +kernel) (by decide +kernel)
set_option maxRecDepth 100000 in
theorem kl_RX7_87 : Cond.classLink RX7 87 "[[I" ∈ gk_tb := gk_tb_in 346 (by decide +kernel) (by decide +kernel)
set_option maxRecDepth 100000 in
theorem kl_RX1_28 : Cond.classLink RX1 28 "[[I" ∈ gk_tb := gk_tb_in 251 (by decide +kernel) (by decide +kernel)
set_option maxRecDepth 100000 in
theorem kl_RX2_9 : Cond.classLink RX2 9 "[[I" ∈ gk_tb := gk_tb_in 295 (by decide +kernel) (by decide +kernel)
set_option maxRecDepth 100000 in
theorem kl_RL_7 : Cond.classLink RL 7 RX7 ∈ gk_tb := gk_tb_in 103 (by decide +kernel) (by decide +kernel)
set_option maxRecDepth 100000 in
theorem kl_RL_10 : Cond.classLink RL 10 RX8 ∈ gk_tb := gk_tb_in 942 (by decide +kernel) (by decide +kernel)
set_option maxRecDepth 100000 in
theorem kz_0 : Cond.instantiable RX0 4 ∈ gk_tb := gk_tb_in 179 (by decide +kernel) (by decide +kernel)
set_option maxRecDepth 100000 in
theorem kj_0 : Cond.initialized RX0 ∈ gk_tb := gk_tb_in 89 (by decide +kernel) (by decide +kernel)
set_option maxRecDepth 100000 in
theorem kz_1 : Cond.instantiable RX1 9 ∈ gk_tb := gk_tb_in 246 (by decide +kernel) (by decide +kernel)
set_option maxRecDepth 100000 in
theorem kj_1 : Cond.initialized RX1 ∈ gk_tb := gk_tb_in 92 (by decide +kernel) (by decide +kernel)
set_option maxRecDepth 100000 in
theorem kz_2 : Cond.instantiable RX2 13 ∈ gk_tb := gk_tb_in 290 (by decide +kernel) (by decide +kernel)
set_option maxRecDepth 100000 in
theorem kj_2 : Cond.initialized RX2 ∈ gk_tb := gk_tb_in 93 (by decide +kernel) (by decide +kernel)
set_option maxRecDepth 100000 in
theorem kz_3 : Cond.instantiable RX3 4 ∈ gk_tb := gk_tb_in 223 (by decide +kernel) (by decide +kernel)
set_option maxRecDepth 100000 in
theorem kj_3 : Cond.initialized RX3 ∈ gk_tb := gk_tb_in 91 (by decide +kernel) (by decide +kernel)
set_option maxRecDepth 100000 in
theorem kz_4 : Cond.instantiable RX4 4 ∈ gk_tb := gk_tb_in 203 (by decide +kernel) (by decide +kernel)
set_option maxRecDepth 100000 in
theorem kj_4 : Cond.initialized RX4 ∈ gk_tb := gk_tb_in 90 (by decide +kernel) (by decide +kernel)
set_option maxRecDepth 100000 in
theorem kz_5 : Cond.instantiable RX5 3 ∈ gk_tb := gk_tb_in 112 (by decide +kernel) (by decide +kernel)
set_option maxRecDepth 100000 in
theorem kj_5 : Cond.initialized RX5 ∈ gk_tb := gk_tb_in 86 (by decide +kernel) (by decide +kernel)
set_option maxRecDepth 100000 in
theorem kz_6 : Cond.instantiable RX6 8 ∈ gk_tb := gk_tb_in 136 (by decide +kernel) (by decide +kernel)
set_option maxRecDepth 100000 in
theorem kj_6 : Cond.initialized RX6 ∈ gk_tb := gk_tb_in 88 (by decide +kernel) (by decide +kernel)
set_option maxRecDepth 100000 in
theorem kz_7 : Cond.instantiable RX7 18 ∈ gk_tb := gk_tb_in 104 (by decide +kernel) (by decide +kernel)
set_option maxRecDepth 100000 in
theorem kj_7 : Cond.initialized RX7 ∈ gk_tb := gk_tb_in 85 (by decide +kernel) (by decide +kernel)
set_option maxRecDepth 100000 in
theorem kz_8 : Cond.instantiable RX8 48 ∈ gk_tb := gk_tb_in 943 (by decide +kernel) (by decide +kernel)
set_option maxRecDepth 100000 in
theorem kj_8 : Cond.initialized RX8 ∈ gk_tb := gk_tb_in 94 (by decide +kernel) (by decide +kernel)
set_option maxRecDepth 100000 in
theorem ka_int : Cond.arrayClass .int ∈ gk_tb := gk_tb_in 134 (by decide +kernel) (by decide +kernel)
set_option maxRecDepth 100000 in
theorem ka_bool : Cond.arrayClass .boolean ∈ gk_tb := gk_tb_in 288 (by decide +kernel) (by decide +kernel)
set_option maxRecDepth 100000 in
theorem ff_RX7_14 : gc_ff RX7 14 7 0 (.object "CableCars$Text") := ⟨_, _, _, _, cl_7, by decide, lk_RX7_14, rfl, rfl, rfl⟩
set_option maxRecDepth 100000 in
theorem ff_RX7_18 : gc_ff RX7 18 7 1 (.object "CableCars$Text") := ⟨_, _, _, _, cl_7, by decide, lk_RX7_18, rfl, rfl, rfl⟩
set_option maxRecDepth 100000 in
theorem ff_RX7_21 : gc_ff RX7 21 7 2 (.object "CableCars$Text") := ⟨_, _, _, _, cl_7, by decide, lk_RX7_21, rfl, rfl, rfl⟩
set_option maxRecDepth 100000 in
theorem ff_RX7_31 : gc_ff RX7 31 7 3 (.object "CableCars$Triples") := ⟨_, _, _, _, cl_7, by decide, lk_RX7_31, rfl, rfl, rfl⟩
set_option maxRecDepth 100000 in
theorem ff_RX7_37 : gc_ff RX7 37 7 4 (.object "CableCars$Triples") := ⟨_, _, _, _, cl_7, by decide, lk_RX7_37, rfl, rfl, rfl⟩
set_option maxRecDepth 100000 in
theorem ff_RX7_43 : gc_ff RX7 43 7 5 (.object "CableCars$Events") := ⟨_, _, _, _, cl_7, by decide, lk_RX7_43, rfl, rfl, rfl⟩
set_option maxRecDepth 100000 in
theorem ff_RX7_50 : gc_ff RX7 50 7 6 (.object "CableCars$Sightings") := ⟨_, _, _, _, cl_7, by decide, lk_RX7_50, rfl, rfl, rfl⟩
set_option maxRecDepth 100000 in
theorem ff_RX7_57 : gc_ff RX7 57 7 7 (.object "CableCars$Sheet") := ⟨_, _, _, _, cl_7, by decide, lk_RX7_57, rfl, rfl, rfl⟩
set_option maxRecDepth 100000 in
theorem ff_RX7_61 : gc_ff RX7 61 7 8 (.object "CableCars$Sheet") := ⟨_, _, _, _, cl_7, by decide, lk_RX7_61, rfl, rfl, rfl⟩
set_option maxRecDepth 100000 in
theorem ff_RX7_64 : gc_ff RX7 64 7 9 (.object "CableCars$Sheet") := ⟨_, _, _, _, cl_7, by decide, lk_RX7_64, rfl, rfl, rfl⟩
set_option maxRecDepth 100000 in
theorem ff_RX7_67 : gc_ff RX7 67 7 10 (.object "CableCars$Sheet") := ⟨_, _, _, _, cl_7, by decide, lk_RX7_67, rfl, rfl, rfl⟩
set_option maxRecDepth 100000 in
theorem ff_RX7_73 : gc_ff RX7 73 7 11 (.object "CableCars$Plan") := ⟨_, _, _, _, cl_7, by decide, lk_RX7_73, rfl, rfl, rfl⟩
set_option maxRecDepth 100000 in
theorem ff_RX7_80 : gc_ff RX7 80 7 12 (.object "CableCars$Ride") := ⟨_, _, _, _, cl_7, by decide, lk_RX7_80, rfl, rfl, rfl⟩
set_option maxRecDepth 100000 in
theorem ff_RX7_84 : gc_ff RX7 84 7 13 (.object "CableCars$Ride") := ⟨_, _, _, _, cl_7, by decide, lk_RX7_84, rfl, rfl, rfl⟩
set_option maxRecDepth 100000 in
theorem ff_RX7_89 : gc_ff RX7 89 7 14 (.array (.array .int)) := ⟨_, _, _, _, cl_7, by decide, lk_RX7_89, rfl, rfl, rfl⟩
set_option maxRecDepth 100000 in
theorem ff_RX0_9 : gc_ff RX0 9 0 0 (.array .int) := ⟨_, _, _, _, cl_0, by decide, lk_RX0_9, rfl, rfl, rfl⟩
set_option maxRecDepth 100000 in
theorem ff_RX0_15 : gc_ff RX0 15 0 1 (.array .int) := ⟨_, _, _, _, cl_0, by decide, lk_RX0_15, rfl, rfl, rfl⟩
set_option maxRecDepth 100000 in
theorem ff_RX0_18 : gc_ff RX0 18 0 2 (.array .int) := ⟨_, _, _, _, cl_0, by decide, lk_RX0_18, rfl, rfl, rfl⟩
set_option maxRecDepth 100000 in
theorem ff_RX1_15 : gc_ff RX1 15 1 1 (.array .int) := ⟨_, _, _, _, cl_1, by decide, lk_RX1_15, rfl, rfl, rfl⟩
set_option maxRecDepth 100000 in
theorem ff_RX1_19 : gc_ff RX1 19 1 2 (.array .int) := ⟨_, _, _, _, cl_1, by decide, lk_RX1_19, rfl, rfl, rfl⟩
set_option maxRecDepth 100000 in
theorem ff_RX1_22 : gc_ff RX1 22 1 3 (.array .int) := ⟨_, _, _, _, cl_1, by decide, lk_RX1_22, rfl, rfl, rfl⟩
set_option maxRecDepth 100000 in
theorem ff_RX1_25 : gc_ff RX1 25 1 4 (.array .int) := ⟨_, _, _, _, cl_1, by decide, lk_RX1_25, rfl, rfl, rfl⟩
set_option maxRecDepth 100000 in
theorem ff_RX1_30 : gc_ff RX1 30 1 5 (.array (.array .int)) := ⟨_, _, _, _, cl_1, by decide, lk_RX1_30, rfl, rfl, rfl⟩
set_option maxRecDepth 100000 in
theorem ff_RX1_33 : gc_ff RX1 33 1 6 (.array .int) := ⟨_, _, _, _, cl_1, by decide, lk_RX1_33, rfl, rfl, rfl⟩
set_option maxRecDepth 100000 in
theorem ff_RX1_36 : gc_ff RX1 36 1 7 (.array .boolean) := ⟨_, _, _, _, cl_1, by decide, lk_RX1_36, rfl, rfl, rfl⟩
set_option maxRecDepth 100000 in
theorem ff_RX1_40 : gc_ff RX1 40 1 8 (.array .boolean) := ⟨_, _, _, _, cl_1, by decide, lk_RX1_40, rfl, rfl, rfl⟩
set_option maxRecDepth 100000 in
theorem ff_RX2_11 : gc_ff RX2 11 2 0 (.array (.array .int)) := ⟨_, _, _, _, cl_2, by decide, lk_RX2_11, rfl, rfl, rfl⟩
set_option maxRecDepth 100000 in
theorem ff_RX2_16 : gc_ff RX2 16 2 1 (.array (.array .int)) := ⟨_, _, _, _, cl_2, by decide, lk_RX2_16, rfl, rfl, rfl⟩
set_option maxRecDepth 100000 in
theorem ff_RX2_19 : gc_ff RX2 19 2 2 (.array (.array .int)) := ⟨_, _, _, _, cl_2, by decide, lk_RX2_19, rfl, rfl, rfl⟩
set_option maxRecDepth 100000 in
theorem ff_RX2_22 : gc_ff RX2 22 2 3 (.array .int) := ⟨_, _, _, _, cl_2, by decide, lk_RX2_22, rfl, rfl, rfl⟩
set_option maxRecDepth 100000 in
theorem ff_RX2_26 : gc_ff RX2 26 2 4 (.array .int) := ⟨_, _, _, _, cl_2, by decide, lk_RX2_26, rfl, rfl, rfl⟩
set_option maxRecDepth 100000 in
theorem ff_RX2_29 : gc_ff RX2 29 2 5 (.array .int) := ⟨_, _, _, _, cl_2, by decide, lk_RX2_29, rfl, rfl, rfl⟩
set_option maxRecDepth 100000 in
theorem ff_RX2_32 : gc_ff RX2 32 2 6 (.array .int) := ⟨_, _, _, _, cl_2, by decide, lk_RX2_32, rfl, rfl, rfl⟩
set_option maxRecDepth 100000 in
theorem ff_RX2_35 : gc_ff RX2 35 2 7 (.array .int) := ⟨_, _, _, _, cl_2, by decide, lk_RX2_35, rfl, rfl, rfl⟩
set_option maxRecDepth 100000 in
theorem ff_RX2_38 : gc_ff RX2 38 2 8 (.array .int) := ⟨_, _, _, _, cl_2, by decide, lk_RX2_38, rfl, rfl, rfl⟩
set_option maxRecDepth 100000 in
theorem ff_RX3_9 : gc_ff RX3 9 3 0 (.array .int) := ⟨_, _, _, _, cl_3, by decide, lk_RX3_9, rfl, rfl, rfl⟩
set_option maxRecDepth 100000 in
theorem ff_RX4_9 : gc_ff RX4 9 4 0 (.array .int) := ⟨_, _, _, _, cl_4, by decide, lk_RX4_9, rfl, rfl, rfl⟩
set_option maxRecDepth 100000 in
theorem ff_RX4_15 : gc_ff RX4 15 4 1 (.array .int) := ⟨_, _, _, _, cl_4, by decide, lk_RX4_15, rfl, rfl, rfl⟩
set_option maxRecDepth 100000 in
theorem ff_RX4_18 : gc_ff RX4 18 4 2 (.array .int) := ⟨_, _, _, _, cl_4, by decide, lk_RX4_18, rfl, rfl, rfl⟩
set_option maxRecDepth 100000 in
theorem ff_RX5_9 : gc_ff RX5 9 5 0 (.array .int) := ⟨_, _, _, _, cl_5, by decide, lk_RX5_9, rfl, rfl, rfl⟩
set_option maxRecDepth 100000 in
theorem ff_RX5_25 : gc_ff RX5 25 5 1 .int := ⟨_, _, _, _, cl_5, by decide, lk_RX5_25, rfl, rfl, rfl⟩
set_option maxRecDepth 100000 in
theorem ff_RX6_9 : gc_ff RX6 9 6 3 (.array .int) := ⟨_, _, _, _, cl_6, by decide, lk_RX6_9, rfl, rfl, rfl⟩
set_option maxRecDepth 100000 in
theorem ff_RX6_15 : gc_ff RX6 15 6 4 (.array .int) := ⟨_, _, _, _, cl_6, by decide, lk_RX6_15, rfl, rfl, rfl⟩
set_option maxRecDepth 100000 in
theorem ff_RX6_18 : gc_ff RX6 18 6 5 (.array .int) := ⟨_, _, _, _, cl_6, by decide, lk_RX6_18, rfl, rfl, rfl⟩
set_option maxRecDepth 100000 in
theorem ff_RX6_28 : gc_ff RX6 28 6 0 (.object "java/lang/String") := ⟨_, _, _, _, cl_6, by decide, lk_RX6_28, rfl, rfl, rfl⟩
set_option maxRecDepth 100000 in
theorem ff_RX6_38 : gc_ff RX6 38 6 1 .int := ⟨_, _, _, _, cl_6, by decide, lk_RX6_38, rfl, rfl, rfl⟩
set_option maxRecDepth 100000 in
theorem ff_RX6_41 : gc_ff RX6 41 6 2 .boolean := ⟨_, _, _, _, cl_6, by decide, lk_RX6_41, rfl, rfl, rfl⟩
set_option maxRecDepth 100000 in
theorem ff_RX8_7 : gc_ff RX8 7 8 0 (.array .int) := ⟨_, _, _, _, cl_8, by decide, lk_RX8_7, rfl, rfl, rfl⟩
set_option maxRecDepth 100000 in
theorem ff_RX8_13 : gc_ff RX8 13 8 1 (.array .int) := ⟨_, _, _, _, cl_8, by decide, lk_RX8_13, rfl, rfl, rfl⟩
set_option maxRecDepth 100000 in
theorem ff_RX8_16 : gc_ff RX8 16 8 3 (.array .int) := ⟨_, _, _, _, cl_8, by decide, lk_RX8_16, rfl, rfl, rfl⟩
set_option maxRecDepth 100000 in
theorem ff_RX8_19 : gc_ff RX8 19 8 4 (.array .int) := ⟨_, _, _, _, cl_8, by decide, lk_RX8_19, rfl, rfl, rfl⟩
set_option maxRecDepth 100000 in
theorem ff_RX8_22 : gc_ff RX8 22 8 5 (.array .int) := ⟨_, _, _, _, cl_8, by decide, lk_RX8_22, rfl, rfl, rfl⟩
set_option maxRecDepth 100000 in
theorem ff_RX8_25 : gc_ff RX8 25 8 7 (.array .int) := ⟨_, _, _, _, cl_8, by decide, lk_RX8_25, rfl, rfl, rfl⟩
set_option maxRecDepth 100000 in
theorem ff_RX8_28 : gc_ff RX8 28 8 8 (.array .int) := ⟨_, _, _, _, cl_8, by decide, lk_RX8_28, rfl, rfl, rfl⟩
set_option maxRecDepth 100000 in
theorem ff_RX8_31 : gc_ff RX8 31 8 9 (.array .int) := ⟨_, _, _, _, cl_8, by decide, lk_RX8_31, rfl, rfl, rfl⟩
set_option maxRecDepth 100000 in
theorem ff_RX8_34 : gc_ff RX8 34 8 11 (.array .int) := ⟨_, _, _, _, cl_8, by decide, lk_RX8_34, rfl, rfl, rfl⟩
set_option maxRecDepth 100000 in
theorem ff_RX8_37 : gc_ff RX8 37 8 13 (.array .int) := ⟨_, _, _, _, cl_8, by decide, lk_RX8_37, rfl, rfl, rfl⟩
set_option maxRecDepth 100000 in
theorem ff_RX8_40 : gc_ff RX8 40 8 14 (.array .int) := ⟨_, _, _, _, cl_8, by decide, lk_RX8_40, rfl, rfl, rfl⟩
set_option maxRecDepth 100000 in
theorem ff_RX8_43 : gc_ff RX8 43 8 15 (.array .int) := ⟨_, _, _, _, cl_8, by decide, lk_RX8_43, rfl, rfl, rfl⟩
set_option maxRecDepth 100000 in
theorem ff_RX8_46 : gc_ff RX8 46 8 16 (.array .int) := ⟨_, _, _, _, cl_8, by decide, lk_RX8_46, rfl, rfl, rfl⟩
set_option maxRecDepth 100000 in
theorem ff_RX8_49 : gc_ff RX8 49 8 21 (.array .int) := ⟨_, _, _, _, cl_8, by decide, lk_RX8_49, rfl, rfl, rfl⟩
set_option maxRecDepth 100000 in
theorem ff_RX8_52 : gc_ff RX8 52 8 22 (.array .int) := ⟨_, _, _, _, cl_8, by decide, lk_RX8_52, rfl, rfl, rfl⟩
set_option maxRecDepth 100000 in
theorem ff_RX8_55 : gc_ff RX8 55 8 23 (.array .int) := ⟨_, _, _, _, cl_8, by decide, lk_RX8_55, rfl, rfl, rfl⟩
set_option maxRecDepth 100000 in
theorem ff_RX8_58 : gc_ff RX8 58 8 25 (.array .int) := ⟨_, _, _, _, cl_8, by decide, lk_RX8_58, rfl, rfl, rfl⟩
set_option maxRecDepth 100000 in
theorem ff_RX8_61 : gc_ff RX8 61 8 26 (.array .int) := ⟨_, _, _, _, cl_8, by decide, lk_RX8_61, rfl, rfl, rfl⟩
set_option maxRecDepth 100000 in
theorem ff_RX8_64 : gc_ff RX8 64 8 31 (.array .int) := ⟨_, _, _, _, cl_8, by decide, lk_RX8_64, rfl, rfl, rfl⟩
set_option maxRecDepth 100000 in
theorem ff_RX8_67 : gc_ff RX8 67 8 32 (.array .int) := ⟨_, _, _, _, cl_8, by decide, lk_RX8_67, rfl, rfl, rfl⟩
set_option maxRecDepth 100000 in
theorem ff_RX8_70 : gc_ff RX8 70 8 33 (.array .int) := ⟨_, _, _, _, cl_8, by decide, lk_RX8_70, rfl, rfl, rfl⟩
set_option maxRecDepth 100000 in
theorem ff_RX8_73 : gc_ff RX8 73 8 34 (.array .int) := ⟨_, _, _, _, cl_8, by decide, lk_RX8_73, rfl, rfl, rfl⟩
set_option maxRecDepth 100000 in
theorem ff_RX8_76 : gc_ff RX8 76 8 35 (.array .int) := ⟨_, _, _, _, cl_8, by decide, lk_RX8_76, rfl, rfl, rfl⟩
set_option maxRecDepth 100000 in
theorem ff_RX8_79 : gc_ff RX8 79 8 36 (.array .int) := ⟨_, _, _, _, cl_8, by decide, lk_RX8_79, rfl, rfl, rfl⟩
set_option maxRecDepth 100000 in
theorem ff_RX8_82 : gc_ff RX8 82 8 38 (.array .int) := ⟨_, _, _, _, cl_8, by decide, lk_RX8_82, rfl, rfl, rfl⟩
set_option maxRecDepth 100000 in
theorem ff_RX8_85 : gc_ff RX8 85 8 39 (.array .int) := ⟨_, _, _, _, cl_8, by decide, lk_RX8_85, rfl, rfl, rfl⟩
set_option maxRecDepth 100000 in
theorem ff_RX8_88 : gc_ff RX8 88 8 40 (.array .int) := ⟨_, _, _, _, cl_8, by decide, lk_RX8_88, rfl, rfl, rfl⟩
set_option maxRecDepth 100000 in
theorem ff_RX8_91 : gc_ff RX8 91 8 41 (.array .int) := ⟨_, _, _, _, cl_8, by decide, lk_RX8_91, rfl, rfl, rfl⟩
set_option maxRecDepth 100000 in
theorem ff_RX8_94 : gc_ff RX8 94 8 42 (.array .boolean) := ⟨_, _, _, _, cl_8, by decide, lk_RX8_94, rfl, rfl, rfl⟩
set_option maxRecDepth 100000 in
theorem ff_RX8_98 : gc_ff RX8 98 8 43 (.array .int) := ⟨_, _, _, _, cl_8, by decide, lk_RX8_98, rfl, rfl, rfl⟩
set_option maxRecDepth 100000 in
theorem ff_RX8_101 : gc_ff RX8 101 8 44 (.array .int) := ⟨_, _, _, _, cl_8, by decide, lk_RX8_101, rfl, rfl, rfl⟩
set_option maxRecDepth 100000 in
theorem ff_RX8_104 : gc_ff RX8 104 8 45 (.array .int) := ⟨_, _, _, _, cl_8, by decide, lk_RX8_104, rfl, rfl, rfl⟩
set_option maxRecDepth 100000 in
theorem ff_RX8_107 : gc_ff RX8 107 8 46 (.array .int) := ⟨_, _, _, _, cl_8, by decide, lk_RX8_107, rfl, rfl, rfl⟩
set_option maxRecDepth 100000 in
theorem cn_RX7_42 : (RX7, 42, yX0_init) ∈ gc_nest := List.mem_of_getElem? (i := 0) rfl
set_option maxRecDepth 100000 in
theorem cn_RX7_49 : (RX7, 49, yX4_init) ∈ gc_nest := List.mem_of_getElem? (i := 1) rfl
set_option maxRecDepth 100000 in
theorem cn_RX7_56 : (RX7, 56, yX3_init) ∈ gc_nest := List.mem_of_getElem? (i := 2) rfl
set_option maxRecDepth 100000 in
theorem cn_RX7_72 : (RX7, 72, yX1_init) ∈ gc_nest := List.mem_of_getElem? (i := 3) rfl
set_option maxRecDepth 100000 in
theorem cn_RX7_79 : (RX7, 79, yX2_init) ∈ gc_nest := List.mem_of_getElem? (i := 4) rfl
/-! the object o of cs under construction: it is now C, behind cs stand the new cells L -/
def gc_f (cs : List gc_C) (o : Nat) (C : gc_C) (L : List gc_C) : List gc_C := cs.set o C ++ L
theorem gf_get {cs : List gc_C} {o : Nat} {C : gc_C} {L : List gc_C} (h : o < cs.length) : (gc_f cs o C L)[o]? = some C := by
  unfold gc_f
  rw [List.getElem?_append_left (by rw [List.length_set]; exact h), List.getElem?_set_self h]
theorem gf_set {cs : List gc_C} {o : Nat} {C C' : gc_C} {L : List gc_C} (h : o < cs.length) : (gc_f cs o C L).set o C' = gc_f cs o C' L := by
  unfold gc_f
  rw [List.set_append_left _ _ (by rw [List.length_set]; exact h), List.set_set]
theorem gf_app {cs : List gc_C} {o : Nat} {C : gc_C} {L M : List gc_C} : gc_f cs o C L ++ M = gc_f cs o C (L ++ M) := by
  unfold gc_f
  rw [List.append_assoc]
theorem gf_len {cs : List gc_C} {o : Nat} {C : gc_C} {L : List gc_C} : (gc_f cs o C L).length = cs.length + L.length := by
  unfold gc_f
  rw [List.length_append, List.length_set]
theorem gf_id {cs : List gc_C} {o : Nat} {C : gc_C} (h : cs[o]? = some C) : cs = gc_f cs o C [] := by
  unfold gc_f
  rw [List.append_nil]
  apply List.ext_getElem?
  intro j
  rw [List.getElem?_set]
  by_cases e : o = j
  · subst e
    rw [if_pos rfl, if_pos (List.getElem?_eq_some_iff.mp h).1, h]
  · rw [if_neg e]
section Gf
variable {own : String} {cc : ByteArray} {mL d mc ms pc : Nat} {lv : List (Nat × Value)} {rest : List Value} {cs : List gc_C} {o : Nat} {L : List gc_C} {cells slots : Nat} {Q : List gc_C → Prop}
theorem gf_putN {idx ci k : Nat} {ty : FieldType} {x : Int32} {pl : List Nat} {ns : List Int32} (ns' : List Int32) (hd : decode cc pc = .ok (.putfield idx, 3)) (hf : gk_fp own idx ci k ty) (ho : o < cs.length) (hp : pl[k]? = some 0) (hn : k < ns.length) (hx1 : narrow ty (.int x) = .int x) (hx2 : fits ty (.int x) = true) (e : ns.set k x = ns') (kk : Gc own cc mL d mc ms (pc + 3) lv rest (gc_f cs o (ci, pl, ns') L) cells slots Q) : Gc own cc mL d mc ms pc lv (.int x :: .ref o :: rest) (gc_f cs o (ci, pl, ns) L) cells slots Q :=
  gc_putN hd hf (gf_get ho) hp hn hx1 hx2 (by rw [gf_set ho, e]; exact kk)
theorem gf_putFN {idx ci k : Nat} {ty : FieldType} {x : Int32} {pl : List Nat} {ns : List Int32} (ns' : List Int32) (hd : decode cc pc = .ok (.putfield idx, 3)) (hf : gc_ff own idx ci k ty) (ho : o < cs.length) (hp : pl[k]? = some 0) (hn : k < ns.length) (hx1 : narrow ty (.int x) = .int x) (hx2 : fits ty (.int x) = true) (e : ns.set k x = ns') (kk : Gc own cc mL d mc ms (pc + 3) lv rest (gc_f cs o (ci, pl, ns') L) cells slots Q) : Gc own cc mL d mc ms pc lv (.int x :: .ref o :: rest) (gc_f cs o (ci, pl, ns) L) cells slots Q :=
  gc_putFN hd hf (gf_get ho) hp hn hx1 hx2 (by rw [gf_set ho, e]; exact kk)
theorem gf_putFR {idx ci k i : Nat} {ty : FieldType} {pl : List Nat} {ns : List Int32} (pl' : List Nat) (hd : decode cc pc = .ok (.putfield idx, 3)) (hf : gc_ff own idx ci k ty) (ho : o < cs.length) (hp : k < pl.length) (hx : ∀ q, narrow ty (.ref q) = .ref q ∧ fits ty (.ref q) = true) (e : pl.set k (i + 2) = pl') (kk : Gc own cc mL d mc ms (pc + 3) lv rest (gc_f cs o (ci, pl', ns) L) cells slots Q) : Gc own cc mL d mc ms pc lv (.ref i :: .ref o :: rest) (gc_f cs o (ci, pl, ns) L) cells slots Q :=
  gc_putFR hd hf (gf_get ho) hp hx (by rw [gf_set ho, e]; exact kk)
theorem gf_newI {x : Int32} {C : gc_C} (n j : Nat) (L' : List gc_C) (hd : decode cc pc = .ok (.newarray .int, 2)) (hx : ¬ x < 0) (hn : x.toNatClampNeg = n) (hb : n ≤ 1000) (hlen : cs.length < 800) (hj : L.length = j) (hj2 : j < 50) (e : L ++ [(100, [n], [])] = L') (hcm : cells + 1 ≤ mc) (hsm : slots + n ≤ ms) (kk : Gc own cc mL d mc ms (pc + 2) lv (.ref (cs.length + j) :: rest) (gc_f cs o C L') (cells + 1) (slots + n) Q) : Gc own cc mL d mc ms pc lv (.int x :: rest) (gc_f cs o C L) cells slots Q :=
  gc_newI n hd ka_int hx hn hb (by rw [gf_len]; omega) hcm hsm (by rw [gf_len, gf_app, e, hj]; exact kk)
theorem gf_newZ {x : Int32} {C : gc_C} (n j : Nat) (L' : List gc_C) (hd : decode cc pc = .ok (.newarray .boolean, 2)) (hx : ¬ x < 0) (hn : x.toNatClampNeg = n) (hb : n ≤ 1000) (hlen : cs.length < 800) (hj : L.length = j) (hj2 : j < 50) (e : L ++ [(101, [n], [])] = L') (hcm : cells + 1 ≤ mc) (hsm : slots + n ≤ ms) (kk : Gc own cc mL d mc ms (pc + 2) lv (.ref (cs.length + j) :: rest) (gc_f cs o C L') (cells + 1) (slots + n) Q) : Gc own cc mL d mc ms pc lv (.int x :: rest) (gc_f cs o C L) cells slots Q :=
  gc_newZ n hd ka_bool hx hn hb (by rw [gf_len]; omega) hcm hsm (by rw [gf_len, gf_app, e, hj]; exact kk)
theorem gf_mna {idx : Nat} {x y : Int32} {C : gc_C} (N K j : Nat) (L' : List gc_C) (hd : decode cc pc = .ok (.multianewarray idx 2, 4)) (w1 : Cond.classLink own idx "[[I" ∈ gk_tb) (hx : ¬ x < 0) (hy : ¬ y < 0) (hN : x.toNatClampNeg = N) (hK : y.toNatClampNeg = K) (hb1 : N ≤ 40) (hb2 : K ≤ 1000) (hlen : cs.length < 800) (hj : L.length = j) (hj2 : j < 50) (e : L ++ ((102, (List.range N).map (fun i => cs.length + j + 1 + i), []) :: List.replicate N (100, [K], [])) = L') (hcm : cells + (1 + N) ≤ mc) (hsm : slots + (N + N * K) ≤ ms)
    (kk : Gc own cc mL d mc ms (pc + 4) lv (.ref (cs.length + j) :: rest) (gc_f cs o C L') (cells + 1 + N) (slots + N + N * K) Q) : Gc own cc mL d mc ms pc lv (.int y :: .int x :: rest) (gc_f cs o C L) cells slots Q :=
  gc_mna N K hd w1 ka_int hx hy hN hK (by omega) hb2 (by rw [gf_len]; omega) hcm hsm (by rw [gf_len, gf_app, hj, e]; exact kk)
end Gf
theorem gc_cell {own : String} {cc : ByteArray} {mL d mc ms pc : Nat} {lv : List (Nat × Value)} {st : List Value} {cs : List gc_C} {cells slots cells' slots' : Nat} {Q : List gc_C → Prop} (h1 : cells = cells') (h2 : slots = slots') (k : Gc own cc mL d mc ms pc lv st cs cells' slots' Q) : Gc own cc mL d mc ms pc lv st cs cells slots Q := by
  subst h1
  subst h2
  exact k
