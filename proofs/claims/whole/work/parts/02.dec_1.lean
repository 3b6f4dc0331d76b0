theorem dX7_digest_352 : decode cX7_digest 352 = .ok (.aload_n 0, 1) := by decide +kernel
theorem dX7_digest_353 : decode cX7_digest 353 = .ok (.iconst 5, 1) := by decide +kernel
theorem dX7_digest_354 : decode cX7_digest 354 = .ok (.bipush 17, 2) := by decide +kernel
theorem dX7_digest_356 : decode cX7_digest 356 = .ok (.iconst 1, 1) := by decide +kernel
theorem dX7_digest_357 : decode cX7_digest 357 = .ok (.invokevirtual 364, 3) := by decide +kernel
theorem dX7_digest_360 : decode cX7_digest 360 = .ok (.invokestatic 319, 3) := by decide +kernel
theorem dX7_digest_363 : decode cX7_digest 363 = .ok (.lstore_n 1, 1) := by decide +kernel
theorem dX7_digest_364 : decode cX7_digest 364 = .ok (.lload_n 1, 1) := by decide +kernel
theorem dX7_digest_365 : decode cX7_digest 365 = .ok (.aload_n 0, 1) := by decide +kernel
theorem dX7_digest_366 : decode cX7_digest 366 = .ok (.iconst (-1), 1) := by decide +kernel
theorem dX7_digest_367 : decode cX7_digest 367 = .ok (.invokevirtual 368, 3) := by decide +kernel
theorem dX7_digest_370 : decode cX7_digest 370 = .ok (.i2l, 1) := by decide +kernel
theorem dX7_digest_371 : decode cX7_digest 371 = .ok (.invokestatic 319, 3) := by decide +kernel
theorem dX7_digest_374 : decode cX7_digest 374 = .ok (.lstore_n 1, 1) := by decide +kernel
theorem dX7_digest_375 : decode cX7_digest 375 = .ok (.lload_n 1, 1) := by decide +kernel
theorem dX7_digest_376 : decode cX7_digest 376 = .ok (.aload_n 0, 1) := by decide +kernel
theorem dX7_digest_377 : decode cX7_digest 377 = .ok (.iconst 0, 1) := by decide +kernel
theorem dX7_digest_378 : decode cX7_digest 378 = .ok (.invokevirtual 368, 3) := by decide +kernel
theorem dX7_digest_381 : decode cX7_digest 381 = .ok (.i2l, 1) := by decide +kernel
theorem dX7_digest_382 : decode cX7_digest 382 = .ok (.invokestatic 319, 3) := by decide +kernel
theorem dX7_digest_385 : decode cX7_digest 385 = .ok (.lstore_n 1, 1) := by decide +kernel
theorem dX7_digest_386 : decode cX7_digest 386 = .ok (.lload_n 1, 1) := by decide +kernel
theorem dX7_digest_387 : decode cX7_digest 387 = .ok (.aload_n 0, 1) := by decide +kernel
theorem dX7_digest_388 : decode cX7_digest 388 = .ok (.invokevirtual 371, 3) := by decide +kernel
theorem dX7_digest_391 : decode cX7_digest 391 = .ok (.i2l, 1) := by decide +kernel
theorem dX7_digest_392 : decode cX7_digest 392 = .ok (.invokestatic 319, 3) := by decide +kernel
theorem dX7_digest_395 : decode cX7_digest 395 = .ok (.lstore_n 1, 1) := by decide +kernel
theorem dX7_digest_396 : decode cX7_digest 396 = .ok (.lload_n 1, 1) := by decide +kernel
theorem dX7_digest_397 : decode cX7_digest 397 = .ok (.aload_n 0, 1) := by decide +kernel
theorem dX7_digest_398 : decode cX7_digest 398 = .ok (.bipush 7, 2) := by decide +kernel
theorem dX7_digest_400 : decode cX7_digest 400 = .ok (.bipush 18, 2) := by decide +kernel
theorem dX7_digest_402 : decode cX7_digest 402 = .ok (.iconst 0, 1) := by decide +kernel
theorem dX7_digest_403 : decode cX7_digest 403 = .ok (.invokevirtual 374, 3) := by decide +kernel
theorem dX7_digest_406 : decode cX7_digest 406 = .ok (.i2l, 1) := by decide +kernel
theorem dX7_digest_407 : decode cX7_digest 407 = .ok (.invokestatic 319, 3) := by decide +kernel
theorem dX7_digest_410 : decode cX7_digest 410 = .ok (.lstore_n 1, 1) := by decide +kernel
theorem dX7_digest_411 : decode cX7_digest 411 = .ok (.lload_n 1, 1) := by decide +kernel
theorem dX7_digest_412 : decode cX7_digest 412 = .ok (.aload_n 0, 1) := by decide +kernel
theorem dX7_digest_413 : decode cX7_digest 413 = .ok (.bipush 7, 2) := by decide +kernel
theorem dX7_digest_415 : decode cX7_digest 415 = .ok (.bipush 18, 2) := by decide +kernel
theorem dX7_digest_417 : decode cX7_digest 417 = .ok (.iconst 1, 1) := by decide +kernel
theorem dX7_digest_418 : decode cX7_digest 418 = .ok (.invokevirtual 374, 3) := by decide +kernel
theorem dX7_digest_421 : decode cX7_digest 421 = .ok (.i2l, 1) := by decide +kernel
theorem dX7_digest_422 : decode cX7_digest 422 = .ok (.invokestatic 319, 3) := by decide +kernel
theorem dX7_digest_425 : decode cX7_digest 425 = .ok (.lreturn, 1) := by decide +kernel
theorem dX7_digestTold_0 : decode cX7_digestTold 0 = .ok (.lload_n 1, 1) := by decide +kernel
theorem dX7_digestTold_1 : decode cX7_digestTold 1 = .ok (.lstore_n 3, 1) := by decide +kernel
theorem dX7_digestTold_2 : decode cX7_digestTold 2 = .ok (.iconst 0, 1) := by decide +kernel
theorem dX7_digestTold_3 : decode cX7_digestTold 3 = .ok (.istore 5, 2) := by decide +kernel
theorem dX7_digestTold_5 : decode cX7_digestTold 5 = .ok (.iload 5, 2) := by decide +kernel
theorem dX7_digestTold_7 : decode cX7_digestTold 7 = .ok (.bipush 7, 2) := by decide +kernel
theorem dX7_digestTold_9 : decode cX7_digestTold 9 = .ok (.if_icmp .gt 21, 3) := by decide +kernel
theorem dX7_digestTold_12 : decode cX7_digestTold 12 = .ok (.lload_n 3, 1) := by decide +kernel
theorem dX7_digestTold_13 : decode cX7_digestTold 13 = .ok (.aload_n 0, 1) := by decide +kernel
theorem dX7_digestTold_14 : decode cX7_digestTold 14 = .ok (.iload 5, 2) := by decide +kernel
theorem dX7_digestTold_16 : decode cX7_digestTold 16 = .ok (.invokevirtual 377, 3) := by decide +kernel
theorem dX7_digestTold_19 : decode cX7_digestTold 19 = .ok (.i2l, 1) := by decide +kernel
theorem dX7_digestTold_20 : decode cX7_digestTold 20 = .ok (.invokestatic 319, 3) := by decide +kernel
theorem dX7_digestTold_23 : decode cX7_digestTold 23 = .ok (.lstore_n 3, 1) := by decide +kernel
theorem dX7_digestTold_24 : decode cX7_digestTold 24 = .ok (.iinc 5 1, 3) := by decide +kernel
theorem dX7_digestTold_27 : decode cX7_digestTold 27 = .ok (.goto (-22), 3) := by decide +kernel
theorem dX7_digestTold_30 : decode cX7_digestTold 30 = .ok (.iconst 0, 1) := by decide +kernel
theorem dX7_digestTold_31 : decode cX7_digestTold 31 = .ok (.istore 5, 2) := by decide +kernel
theorem dX7_digestTold_33 : decode cX7_digestTold 33 = .ok (.iload 5, 2) := by decide +kernel
theorem dX7_digestTold_35 : decode cX7_digestTold 35 = .ok (.iconst 2, 1) := by decide +kernel
theorem dX7_digestTold_36 : decode cX7_digestTold 36 = .ok (.if_icmp .gt 21, 3) := by decide +kernel
theorem dX7_digestTold_39 : decode cX7_digestTold 39 = .ok (.lload_n 3, 1) := by decide +kernel
theorem dX7_digestTold_40 : decode cX7_digestTold 40 = .ok (.aload_n 0, 1) := by decide +kernel
theorem dX7_digestTold_41 : decode cX7_digestTold 41 = .ok (.iload 5, 2) := by decide +kernel
theorem dX7_digestTold_43 : decode cX7_digestTold 43 = .ok (.invokevirtual 380, 3) := by decide +kernel
theorem dX7_digestTold_46 : decode cX7_digestTold 46 = .ok (.i2l, 1) := by decide +kernel
theorem dX7_digestTold_47 : decode cX7_digestTold 47 = .ok (.invokestatic 319, 3) := by decide +kernel
theorem dX7_digestTold_50 : decode cX7_digestTold 50 = .ok (.lstore_n 3, 1) := by decide +kernel
theorem dX7_digestTold_51 : decode cX7_digestTold 51 = .ok (.iinc 5 1, 3) := by decide +kernel
theorem dX7_digestTold_54 : decode cX7_digestTold 54 = .ok (.goto (-21), 3) := by decide +kernel
theorem dX7_digestTold_57 : decode cX7_digestTold 57 = .ok (.iconst 0, 1) := by decide +kernel
theorem dX7_digestTold_58 : decode cX7_digestTold 58 = .ok (.istore 5, 2) := by decide +kernel
theorem dX7_digestTold_60 : decode cX7_digestTold 60 = .ok (.iload 5, 2) := by decide +kernel
theorem dX7_digestTold_62 : decode cX7_digestTold 62 = .ok (.bipush 12, 2) := by decide +kernel
theorem dX7_digestTold_64 : decode cX7_digestTold 64 = .ok (.if_icmp .ge 38, 3) := by decide +kernel
theorem dX7_digestTold_67 : decode cX7_digestTold 67 = .ok (.iconst 0, 1) := by decide +kernel
theorem dX7_digestTold_68 : decode cX7_digestTold 68 = .ok (.istore 6, 2) := by decide +kernel
theorem dX7_digestTold_70 : decode cX7_digestTold 70 = .ok (.iload 6, 2) := by decide +kernel
theorem dX7_digestTold_72 : decode cX7_digestTold 72 = .ok (.iconst 2, 1) := by decide +kernel
theorem dX7_digestTold_73 : decode cX7_digestTold 73 = .ok (.if_icmp .gt 23, 3) := by decide +kernel
theorem dX7_digestTold_76 : decode cX7_digestTold 76 = .ok (.lload_n 3, 1) := by decide +kernel
theorem dX7_digestTold_77 : decode cX7_digestTold 77 = .ok (.aload_n 0, 1) := by decide +kernel
theorem dX7_digestTold_78 : decode cX7_digestTold 78 = .ok (.iload 5, 2) := by decide +kernel
theorem dX7_digestTold_80 : decode cX7_digestTold 80 = .ok (.iload 6, 2) := by decide +kernel
theorem dX7_digestTold_82 : decode cX7_digestTold 82 = .ok (.invokevirtual 382, 3) := by decide +kernel
theorem dX7_digestTold_85 : decode cX7_digestTold 85 = .ok (.i2l, 1) := by decide +kernel
theorem dX7_digestTold_86 : decode cX7_digestTold 86 = .ok (.invokestatic 319, 3) := by decide +kernel
theorem dX7_digestTold_89 : decode cX7_digestTold 89 = .ok (.lstore_n 3, 1) := by decide +kernel
theorem dX7_digestTold_90 : decode cX7_digestTold 90 = .ok (.iinc 6 1, 3) := by decide +kernel
theorem dX7_digestTold_93 : decode cX7_digestTold 93 = .ok (.goto (-23), 3) := by decide +kernel
theorem dX7_digestTold_96 : decode cX7_digestTold 96 = .ok (.iinc 5 1, 3) := by decide +kernel
theorem dX7_digestTold_99 : decode cX7_digestTold 99 = .ok (.goto (-39), 3) := by decide +kernel
theorem dX7_digestTold_102 : decode cX7_digestTold 102 = .ok (.iconst 0, 1) := by decide +kernel
theorem dX7_digestTold_103 : decode cX7_digestTold 103 = .ok (.istore 5, 2) := by decide +kernel
theorem dX7_digestTold_105 : decode cX7_digestTold 105 = .ok (.iload 5, 2) := by decide +kernel
theorem dX7_digestTold_107 : decode cX7_digestTold 107 = .ok (.bipush 24, 2) := by decide +kernel
theorem dX7_digestTold_109 : decode cX7_digestTold 109 = .ok (.if_icmp .ge 50, 3) := by decide +kernel
theorem dX7_digestTold_112 : decode cX7_digestTold 112 = .ok (.lload_n 3, 1) := by decide +kernel
theorem dX7_digestTold_113 : decode cX7_digestTold 113 = .ok (.aload_n 0, 1) := by decide +kernel
theorem dX7_digestTold_114 : decode cX7_digestTold 114 = .ok (.iload 5, 2) := by decide +kernel
theorem dX7_digestTold_116 : decode cX7_digestTold 116 = .ok (.invokevirtual 385, 3) := by decide +kernel
theorem dX7_digestTold_119 : decode cX7_digestTold 119 = .ok (.i2l, 1) := by decide +kernel
theorem dX7_digestTold_120 : decode cX7_digestTold 120 = .ok (.invokestatic 319, 3) := by decide +kernel
theorem dX7_digestTold_123 : decode cX7_digestTold 123 = .ok (.lstore_n 3, 1) := by decide +kernel
theorem dX7_digestTold_124 : decode cX7_digestTold 124 = .ok (.iconst 0, 1) := by decide +kernel
theorem dX7_digestTold_125 : decode cX7_digestTold 125 = .ok (.istore 6, 2) := by decide +kernel
theorem dX7_digestTold_127 : decode cX7_digestTold 127 = .ok (.iload 6, 2) := by decide +kernel
theorem dX7_digestTold_129 : decode cX7_digestTold 129 = .ok (.iconst 3, 1) := by decide +kernel
theorem dX7_digestTold_130 : decode cX7_digestTold 130 = .ok (.if_icmp .gt 23, 3) := by decide +kernel
theorem dX7_digestTold_133 : decode cX7_digestTold 133 = .ok (.lload_n 3, 1) := by decide +kernel
theorem dX7_digestTold_134 : decode cX7_digestTold 134 = .ok (.aload_n 0, 1) := by decide +kernel
theorem dX7_digestTold_135 : decode cX7_digestTold 135 = .ok (.iload 5, 2) := by decide +kernel
theorem dX7_digestTold_137 : decode cX7_digestTold 137 = .ok (.iload 6, 2) := by decide +kernel
theorem dX7_digestTold_139 : decode cX7_digestTold 139 = .ok (.invokevirtual 388, 3) := by decide +kernel
theorem dX7_digestTold_142 : decode cX7_digestTold 142 = .ok (.i2l, 1) := by decide +kernel
theorem dX7_digestTold_143 : decode cX7_digestTold 143 = .ok (.invokestatic 319, 3) := by decide +kernel
theorem dX7_digestTold_146 : decode cX7_digestTold 146 = .ok (.lstore_n 3, 1) := by decide +kernel
theorem dX7_digestTold_147 : decode cX7_digestTold 147 = .ok (.iinc 6 1, 3) := by decide +kernel
theorem dX7_digestTold_150 : decode cX7_digestTold 150 = .ok (.goto (-23), 3) := by decide +kernel
theorem dX7_digestTold_153 : decode cX7_digestTold 153 = .ok (.iinc 5 1, 3) := by decide +kernel
theorem dX7_digestTold_156 : decode cX7_digestTold 156 = .ok (.goto (-51), 3) := by decide +kernel
theorem dX7_digestTold_159 : decode cX7_digestTold 159 = .ok (.lload_n 3, 1) := by decide +kernel
theorem dX7_digestTold_160 : decode cX7_digestTold 160 = .ok (.lreturn, 1) := by decide +kernel
theorem dX7_mix_0 : decode cX7_mix 0 = .ok (.ldc2_w 391, 3) := by decide +kernel
theorem dX7_mix_3 : decode cX7_mix 3 = .ok (.lload_n 0, 1) := by decide +kernel
theorem dX7_mix_4 : decode cX7_mix 4 = .ok (.lmul, 1) := by decide +kernel
theorem dX7_mix_5 : decode cX7_mix 5 = .ok (.lload_n 2, 1) := by decide +kernel
theorem dX7_mix_6 : decode cX7_mix 6 = .ok (.ladd, 1) := by decide +kernel
theorem dX7_mix_7 : decode cX7_mix 7 = .ok (.lreturn, 1) := by decide +kernel
theorem dX7_within_0 : decode cX7_within 0 = .ok (.iload_n 0, 1) := by decide +kernel
theorem dX7_within_1 : decode cX7_within 1 = .ok (.iload_n 1, 1) := by decide +kernel
theorem dX7_within_2 : decode cX7_within 2 = .ok (.if_icmp .lt 12, 3) := by decide +kernel
theorem dX7_within_5 : decode cX7_within 5 = .ok (.iload_n 0, 1) := by decide +kernel
theorem dX7_within_6 : decode cX7_within 6 = .ok (.iload_n 2, 1) := by decide +kernel
theorem dX7_within_7 : decode cX7_within 7 = .ok (.if_icmp .gt 7, 3) := by decide +kernel
theorem dX7_within_10 : decode cX7_within 10 = .ok (.iconst 1, 1) := by decide +kernel
theorem dX7_within_11 : decode cX7_within 11 = .ok (.goto 4, 3) := by decide +kernel
theorem dX7_within_14 : decode cX7_within 14 = .ok (.iconst 0, 1) := by decide +kernel
theorem dX7_within_15 : decode cX7_within 15 = .ok (.ireturn, 1) := by decide +kernel
theorem dX7_isMoment_0 : decode cX7_isMoment 0 = .ok (.iload_n 0, 1) := by decide +kernel
theorem dX7_isMoment_1 : decode cX7_isMoment 1 = .ok (.iconst 0, 1) := by decide +kernel
theorem dX7_isMoment_2 : decode cX7_isMoment 2 = .ok (.bipush 23, 2) := by decide +kernel
theorem dX7_isMoment_4 : decode cX7_isMoment 4 = .ok (.invokestatic 107, 3) := by decide +kernel
theorem dX7_isMoment_7 : decode cX7_isMoment 7 = .ok (.ireturn, 1) := by decide +kernel
theorem dX7_isStation_0 : decode cX7_isStation 0 = .ok (.iload_n 0, 1) := by decide +kernel
theorem dX7_isStation_1 : decode cX7_isStation 1 = .ok (.iconst 0, 1) := by decide +kernel
theorem dX7_isStation_2 : decode cX7_isStation 2 = .ok (.iconst 1, 1) := by decide +kernel
theorem dX7_isStation_3 : decode cX7_isStation 3 = .ok (.invokestatic 107, 3) := by decide +kernel
theorem dX7_isStation_6 : decode cX7_isStation 6 = .ok (.ireturn, 1) := by decide +kernel
theorem dX7_isForm_0 : decode cX7_isForm 0 = .ok (.iload_n 0, 1) := by decide +kernel
theorem dX7_isForm_1 : decode cX7_isForm 1 = .ok (.iconst 0, 1) := by decide +kernel
theorem dX7_isForm_2 : decode cX7_isForm 2 = .ok (.iconst 2, 1) := by decide +kernel
theorem dX7_isForm_3 : decode cX7_isForm 3 = .ok (.invokestatic 107, 3) := by decide +kernel
theorem dX7_isForm_6 : decode cX7_isForm 6 = .ok (.ireturn, 1) := by decide +kernel
theorem dX7_isCar_0 : decode cX7_isCar 0 = .ok (.iload_n 1, 1) := by decide +kernel
theorem dX7_isCar_1 : decode cX7_isCar 1 = .ok (.iconst 0, 1) := by decide +kernel
theorem dX7_isCar_2 : decode cX7_isCar 2 = .ok (.aload_n 0, 1) := by decide +kernel
theorem dX7_isCar_3 : decode cX7_isCar 3 = .ok (.getfield 31, 3) := by decide +kernel
theorem dX7_isCar_6 : decode cX7_isCar 6 = .ok (.getfield 135, 3) := by decide +kernel
theorem dX7_isCar_9 : decode cX7_isCar 9 = .ok (.iconst 1, 1) := by decide +kernel
theorem dX7_isCar_10 : decode cX7_isCar 10 = .ok (.isub, 1) := by decide +kernel
theorem dX7_isCar_11 : decode cX7_isCar 11 = .ok (.invokestatic 107, 3) := by decide +kernel
theorem dX7_isCar_14 : decode cX7_isCar 14 = .ok (.ireturn, 1) := by decide +kernel
theorem dX7_found_0 : decode cX7_found 0 = .ok (.aload_n 0, 1) := by decide +kernel
theorem dX7_found_1 : decode cX7_found 1 = .ok (.iload_n 1, 1) := by decide +kernel
theorem dX7_found_2 : decode cX7_found 2 = .ok (.putfield 100, 3) := by decide +kernel
theorem dX7_found_5 : decode cX7_found 5 = .ok (.bipush (-10), 2) := by decide +kernel
theorem dX7_found_7 : decode cX7_found 7 = .ok (.iload_n 1, 1) := by decide +kernel
theorem dX7_found_8 : decode cX7_found 8 = .ok (.isub, 1) := by decide +kernel
theorem dX7_found_9 : decode cX7_found 9 = .ok (.ireturn, 1) := by decide +kernel
theorem dX7_textOf_0 : decode cX7_textOf 0 = .ok (.iload_n 1, 1) := by decide +kernel
theorem dX7_textOf_1 : decode cX7_textOf 1 = .ok (.tableswitch 42 0 2 #[27, 32, 37], 27) := by decide +kernel
theorem dX7_textOf_28 : decode cX7_textOf 28 = .ok (.aload_n 0, 1) := by decide +kernel
theorem dX7_textOf_29 : decode cX7_textOf 29 = .ok (.getfield 14, 3) := by decide +kernel
theorem dX7_textOf_32 : decode cX7_textOf 32 = .ok (.areturn, 1) := by decide +kernel
theorem dX7_textOf_33 : decode cX7_textOf 33 = .ok (.aload_n 0, 1) := by decide +kernel
theorem dX7_textOf_34 : decode cX7_textOf 34 = .ok (.getfield 18, 3) := by decide +kernel
theorem dX7_textOf_37 : decode cX7_textOf 37 = .ok (.areturn, 1) := by decide +kernel
theorem dX7_textOf_38 : decode cX7_textOf 38 = .ok (.aload_n 0, 1) := by decide +kernel
theorem dX7_textOf_39 : decode cX7_textOf 39 = .ok (.getfield 21, 3) := by decide +kernel
theorem dX7_textOf_42 : decode cX7_textOf 42 = .ok (.areturn, 1) := by decide +kernel
theorem dX7_textOf_43 : decode cX7_textOf 43 = .ok (.aconst_null, 1) := by decide +kernel
theorem dX7_textOf_44 : decode cX7_textOf 44 = .ok (.areturn, 1) := by decide +kernel
theorem dX7_sheetOf_0 : decode cX7_sheetOf 0 = .ok (.iload_n 1, 1) := by decide +kernel
theorem dX7_sheetOf_1 : decode cX7_sheetOf 1 = .ok (.tableswitch 51 0 3 #[31, 36, 41, 46], 31) := by decide +kernel
theorem dX7_sheetOf_32 : decode cX7_sheetOf 32 = .ok (.aload_n 0, 1) := by decide +kernel
theorem dX7_sheetOf_33 : decode cX7_sheetOf 33 = .ok (.getfield 57, 3) := by decide +kernel
theorem dX7_sheetOf_36 : decode cX7_sheetOf 36 = .ok (.areturn, 1) := by decide +kernel
theorem dX7_sheetOf_37 : decode cX7_sheetOf 37 = .ok (.aload_n 0, 1) := by decide +kernel
theorem dX7_sheetOf_38 : decode cX7_sheetOf 38 = .ok (.getfield 61, 3) := by decide +kernel
theorem dX7_sheetOf_41 : decode cX7_sheetOf 41 = .ok (.areturn, 1) := by decide +kernel
theorem dX7_sheetOf_42 : decode cX7_sheetOf 42 = .ok (.aload_n 0, 1) := by decide +kernel
theorem dX7_sheetOf_43 : decode cX7_sheetOf 43 = .ok (.getfield 64, 3) := by decide +kernel
theorem dX7_sheetOf_46 : decode cX7_sheetOf 46 = .ok (.areturn, 1) := by decide +kernel
theorem dX7_sheetOf_47 : decode cX7_sheetOf 47 = .ok (.aload_n 0, 1) := by decide +kernel
theorem dX7_sheetOf_48 : decode cX7_sheetOf 48 = .ok (.getfield 67, 3) := by decide +kernel
theorem dX7_sheetOf_51 : decode cX7_sheetOf 51 = .ok (.areturn, 1) := by decide +kernel
theorem dX7_sheetOf_52 : decode cX7_sheetOf 52 = .ok (.aconst_null, 1) := by decide +kernel
theorem dX7_sheetOf_53 : decode cX7_sheetOf 53 = .ok (.areturn, 1) := by decide +kernel
theorem dX7_readAgain_0 : decode cX7_readAgain 0 = .ok (.iload_n 1, 1) := by decide +kernel
theorem dX7_readAgain_1 : decode cX7_readAgain 1 = .ok (.ifCond .ne 14, 3) := by decide +kernel
theorem dX7_readAgain_4 : decode cX7_readAgain 4 = .ok (.aload_n 0, 1) := by decide +kernel
theorem dX7_readAgain_5 : decode cX7_readAgain 5 = .ok (.getfield 31, 3) := by decide +kernel
theorem dX7_readAgain_8 : decode cX7_readAgain 8 = .ok (.aload_n 0, 1) := by decide +kernel
theorem dX7_readAgain_9 : decode cX7_readAgain 9 = .ok (.getfield 14, 3) := by decide +kernel
theorem dX7_readAgain_12 : decode cX7_readAgain 12 = .ok (.invokevirtual 393, 3) := by decide +kernel
theorem dX7_readAgain_15 : decode cX7_readAgain 15 = .ok (.iload_n 1, 1) := by decide +kernel
theorem dX7_readAgain_16 : decode cX7_readAgain 16 = .ok (.iconst 1, 1) := by decide +kernel
theorem dX7_readAgain_17 : decode cX7_readAgain 17 = .ok (.if_icmp .ne 14, 3) := by decide +kernel
theorem dX7_readAgain_20 : decode cX7_readAgain 20 = .ok (.aload_n 0, 1) := by decide +kernel
theorem dX7_readAgain_21 : decode cX7_readAgain 21 = .ok (.getfield 37, 3) := by decide +kernel
theorem dX7_readAgain_24 : decode cX7_readAgain 24 = .ok (.aload_n 0, 1) := by decide +kernel
theorem dX7_readAgain_25 : decode cX7_readAgain 25 = .ok (.getfield 18, 3) := by decide +kernel
theorem dX7_readAgain_28 : decode cX7_readAgain 28 = .ok (.invokevirtual 393, 3) := by decide +kernel
theorem dX7_readAgain_31 : decode cX7_readAgain 31 = .ok (.iload_n 1, 1) := by decide +kernel
theorem dX7_readAgain_32 : decode cX7_readAgain 32 = .ok (.iconst 2, 1) := by decide +kernel
theorem dX7_readAgain_33 : decode cX7_readAgain 33 = .ok (.if_icmp .ne 11, 3) := by decide +kernel
theorem dX7_readAgain_36 : decode cX7_readAgain 36 = .ok (.aload_n 0, 1) := by decide +kernel
theorem dX7_readAgain_37 : decode cX7_readAgain 37 = .ok (.aload_n 0, 1) := by decide +kernel
theorem dX7_readAgain_38 : decode cX7_readAgain 38 = .ok (.invokevirtual 397, 3) := by decide +kernel
theorem dX7_readAgain_41 : decode cX7_readAgain 41 = .ok (.putfield 92, 3) := by decide +kernel
theorem dX7_readAgain_44 : decode cX7_readAgain 44 = .ok (.aload_n 0, 1) := by decide +kernel
theorem dX7_readAgain_45 : decode cX7_readAgain 45 = .ok (.iconst 1, 1) := by decide +kernel
theorem dX7_readAgain_46 : decode cX7_readAgain 46 = .ok (.putfield 96, 3) := by decide +kernel
theorem dX7_readAgain_49 : decode cX7_readAgain 49 = .ok (.return_, 1) := by decide +kernel
theorem dX7_faultOfSpeed_0 : decode cX7_faultOfSpeed 0 = .ok (.iconst 0, 1) := by decide +kernel
theorem dX7_faultOfSpeed_1 : decode cX7_faultOfSpeed 1 = .ok (.istore_n 1, 1) := by decide +kernel
theorem dX7_faultOfSpeed_2 : decode cX7_faultOfSpeed 2 = .ok (.iload_n 1, 1) := by decide +kernel
theorem dX7_faultOfSpeed_3 : decode cX7_faultOfSpeed 3 = .ok (.aload_n 0, 1) := by decide +kernel
theorem dX7_faultOfSpeed_4 : decode cX7_faultOfSpeed 4 = .ok (.getfield 21, 3) := by decide +kernel
theorem dX7_faultOfSpeed_7 : decode cX7_faultOfSpeed 7 = .ok (.getfield 121, 3) := by decide +kernel
theorem dX7_faultOfSpeed_10 : decode cX7_faultOfSpeed 10 = .ok (.if_icmp .ge 30, 3) := by decide +kernel
theorem dX7_faultOfSpeed_13 : decode cX7_faultOfSpeed 13 = .ok (.aload_n 0, 1) := by decide +kernel
theorem dX7_faultOfSpeed_14 : decode cX7_faultOfSpeed 14 = .ok (.getfield 21, 3) := by decide +kernel
theorem dX7_faultOfSpeed_17 : decode cX7_faultOfSpeed 17 = .ok (.getfield 400, 3) := by decide +kernel
theorem dX7_faultOfSpeed_20 : decode cX7_faultOfSpeed 20 = .ok (.iload_n 1, 1) := by decide +kernel
theorem dX7_faultOfSpeed_21 : decode cX7_faultOfSpeed 21 = .ok (.iaload, 1) := by decide +kernel
theorem dX7_faultOfSpeed_22 : decode cX7_faultOfSpeed 22 = .ok (.bipush 48, 2) := by decide +kernel
theorem dX7_faultOfSpeed_24 : decode cX7_faultOfSpeed 24 = .ok (.bipush 51, 2) := by decide +kernel
theorem dX7_faultOfSpeed_26 : decode cX7_faultOfSpeed 26 = .ok (.invokestatic 107, 3) := by decide +kernel
theorem dX7_faultOfSpeed_29 : decode cX7_faultOfSpeed 29 = .ok (.ifCond .ne 5, 3) := by decide +kernel
theorem dX7_faultOfSpeed_32 : decode cX7_faultOfSpeed 32 = .ok (.iload_n 1, 1) := by decide +kernel
theorem dX7_faultOfSpeed_33 : decode cX7_faultOfSpeed 33 = .ok (.ireturn, 1) := by decide +kernel
theorem dX7_faultOfSpeed_34 : decode cX7_faultOfSpeed 34 = .ok (.iinc 1 1, 3) := by decide +kernel
theorem dX7_faultOfSpeed_37 : decode cX7_faultOfSpeed 37 = .ok (.goto (-35), 3) := by decide +kernel
theorem dX7_faultOfSpeed_40 : decode cX7_faultOfSpeed 40 = .ok (.iconst (-1), 1) := by decide +kernel
theorem dX7_faultOfSpeed_41 : decode cX7_faultOfSpeed 41 = .ok (.ireturn, 1) := by decide +kernel
theorem dX7_toldSpeed_0 : decode cX7_toldSpeed 0 = .ok (.aload_n 0, 1) := by decide +kernel
theorem dX7_toldSpeed_1 : decode cX7_toldSpeed 1 = .ok (.getfield 92, 3) := by decide +kernel
theorem dX7_toldSpeed_4 : decode cX7_toldSpeed 4 = .ok (.iconst (-1), 1) := by decide +kernel
theorem dX7_toldSpeed_5 : decode cX7_toldSpeed 5 = .ok (.if_icmp .ne 14, 3) := by decide +kernel
theorem dX7_toldSpeed_8 : decode cX7_toldSpeed 8 = .ok (.iload_n 1, 1) := by decide +kernel
theorem dX7_toldSpeed_9 : decode cX7_toldSpeed 9 = .ok (.aload_n 0, 1) := by decide +kernel
theorem dX7_toldSpeed_10 : decode cX7_toldSpeed 10 = .ok (.getfield 21, 3) := by decide +kernel
theorem dX7_toldSpeed_13 : decode cX7_toldSpeed 13 = .ok (.getfield 121, 3) := by decide +kernel
theorem dX7_toldSpeed_16 : decode cX7_toldSpeed 16 = .ok (.if_icmp .lt 5, 3) := by decide +kernel
theorem dX7_toldSpeed_19 : decode cX7_toldSpeed 19 = .ok (.iconst 1, 1) := by decide +kernel
theorem dX7_toldSpeed_20 : decode cX7_toldSpeed 20 = .ok (.ireturn, 1) := by decide +kernel
theorem dX7_toldSpeed_21 : decode cX7_toldSpeed 21 = .ok (.aload_n 0, 1) := by decide +kernel
theorem dX7_toldSpeed_22 : decode cX7_toldSpeed 22 = .ok (.getfield 21, 3) := by decide +kernel
theorem dX7_toldSpeed_25 : decode cX7_toldSpeed 25 = .ok (.getfield 400, 3) := by decide +kernel
theorem dX7_toldSpeed_28 : decode cX7_toldSpeed 28 = .ok (.iload_n 1, 1) := by decide +kernel
theorem dX7_toldSpeed_29 : decode cX7_toldSpeed 29 = .ok (.iaload, 1) := by decide +kernel
theorem dX7_toldSpeed_30 : decode cX7_toldSpeed 30 = .ok (.bipush 48, 2) := by decide +kernel
theorem dX7_toldSpeed_32 : decode cX7_toldSpeed 32 = .ok (.isub, 1) := by decide +kernel
theorem dX7_toldSpeed_33 : decode cX7_toldSpeed 33 = .ok (.ireturn, 1) := by decide +kernel
theorem dX7_anotherHangsAt_0 : decode cX7_anotherHangsAt 0 = .ok (.iconst 0, 1) := by decide +kernel
theorem dX7_anotherHangsAt_1 : decode cX7_anotherHangsAt 1 = .ok (.istore_n 3, 1) := by decide +kernel
theorem dX7_anotherHangsAt_2 : decode cX7_anotherHangsAt 2 = .ok (.iload_n 3, 1) := by decide +kernel
theorem dX7_anotherHangsAt_3 : decode cX7_anotherHangsAt 3 = .ok (.aload_n 0, 1) := by decide +kernel
theorem dX7_anotherHangsAt_4 : decode cX7_anotherHangsAt 4 = .ok (.getfield 31, 3) := by decide +kernel
theorem dX7_anotherHangsAt_7 : decode cX7_anotherHangsAt 7 = .ok (.getfield 135, 3) := by decide +kernel
theorem dX7_anotherHangsAt_10 : decode cX7_anotherHangsAt 10 = .ok (.if_icmp .ge 29, 3) := by decide +kernel
theorem dX7_anotherHangsAt_13 : decode cX7_anotherHangsAt 13 = .ok (.iload_n 3, 1) := by decide +kernel
theorem dX7_anotherHangsAt_14 : decode cX7_anotherHangsAt 14 = .ok (.iload_n 2, 1) := by decide +kernel
theorem dX7_anotherHangsAt_15 : decode cX7_anotherHangsAt 15 = .ok (.if_icmp .eq 18, 3) := by decide +kernel
theorem dX7_anotherHangsAt_18 : decode cX7_anotherHangsAt 18 = .ok (.aload_n 0, 1) := by decide +kernel
theorem dX7_anotherHangsAt_19 : decode cX7_anotherHangsAt 19 = .ok (.getfield 31, 3) := by decide +kernel
theorem dX7_anotherHangsAt_22 : decode cX7_anotherHangsAt 22 = .ok (.getfield 403, 3) := by decide +kernel
theorem dX7_anotherHangsAt_25 : decode cX7_anotherHangsAt 25 = .ok (.iload_n 3, 1) := by decide +kernel
theorem dX7_anotherHangsAt_26 : decode cX7_anotherHangsAt 26 = .ok (.iaload, 1) := by decide +kernel
theorem dX7_anotherHangsAt_27 : decode cX7_anotherHangsAt 27 = .ok (.iload_n 1, 1) := by decide +kernel
theorem dX7_anotherHangsAt_28 : decode cX7_anotherHangsAt 28 = .ok (.if_icmp .ne 5, 3) := by decide +kernel
theorem dX7_anotherHangsAt_31 : decode cX7_anotherHangsAt 31 = .ok (.iconst 1, 1) := by decide +kernel
theorem dX7_anotherHangsAt_32 : decode cX7_anotherHangsAt 32 = .ok (.ireturn, 1) := by decide +kernel
theorem dX7_anotherHangsAt_33 : decode cX7_anotherHangsAt 33 = .ok (.iinc 3 1, 3) := by decide +kernel
theorem dX7_anotherHangsAt_36 : decode cX7_anotherHangsAt 36 = .ok (.goto (-34), 3) := by decide +kernel
theorem dX7_anotherHangsAt_39 : decode cX7_anotherHangsAt 39 = .ok (.iconst 0, 1) := by decide +kernel
theorem dX7_anotherHangsAt_40 : decode cX7_anotherHangsAt 40 = .ok (.ireturn, 1) := by decide +kernel
theorem dX7_planAsTold_0 : decode cX7_planAsTold 0 = .ok (.aload_n 0, 1) := by decide +kernel
theorem dX7_planAsTold_1 : decode cX7_planAsTold 1 = .ok (.getfield 73, 3) := by decide +kernel
theorem dX7_planAsTold_4 : decode cX7_planAsTold 4 = .ok (.aload_n 0, 1) := by decide +kernel
theorem dX7_planAsTold_5 : decode cX7_planAsTold 5 = .ok (.getfield 31, 3) := by decide +kernel
theorem dX7_planAsTold_8 : decode cX7_planAsTold 8 = .ok (.invokevirtual 406, 3) := by decide +kernel
theorem dX7_planAsTold_11 : decode cX7_planAsTold 11 = .ok (.aload_n 0, 1) := by decide +kernel
theorem dX7_planAsTold_12 : decode cX7_planAsTold 12 = .ok (.getfield 73, 3) := by decide +kernel
theorem dX7_planAsTold_15 : decode cX7_planAsTold 15 = .ok (.aload_n 0, 1) := by decide +kernel
theorem dX7_planAsTold_16 : decode cX7_planAsTold 16 = .ok (.getfield 37, 3) := by decide +kernel
theorem dX7_planAsTold_19 : decode cX7_planAsTold 19 = .ok (.invokevirtual 410, 3) := by decide +kernel
theorem dX7_planAsTold_22 : decode cX7_planAsTold 22 = .ok (.iconst 0, 1) := by decide +kernel
theorem dX7_planAsTold_23 : decode cX7_planAsTold 23 = .ok (.istore_n 1, 1) := by decide +kernel
theorem dX7_planAsTold_24 : decode cX7_planAsTold 24 = .ok (.iload_n 1, 1) := by decide +kernel
theorem dX7_planAsTold_25 : decode cX7_planAsTold 25 = .ok (.bipush 24, 2) := by decide +kernel
theorem dX7_planAsTold_27 : decode cX7_planAsTold 27 = .ok (.if_icmp .ge 23, 3) := by decide +kernel
theorem dX7_planAsTold_30 : decode cX7_planAsTold 30 = .ok (.aload_n 0, 1) := by decide +kernel
theorem dX7_planAsTold_31 : decode cX7_planAsTold 31 = .ok (.getfield 73, 3) := by decide +kernel
theorem dX7_planAsTold_34 : decode cX7_planAsTold 34 = .ok (.getfield 234, 3) := by decide +kernel
theorem dX7_planAsTold_37 : decode cX7_planAsTold 37 = .ok (.iload_n 1, 1) := by decide +kernel
theorem dX7_planAsTold_38 : decode cX7_planAsTold 38 = .ok (.aload_n 0, 1) := by decide +kernel
theorem dX7_planAsTold_39 : decode cX7_planAsTold 39 = .ok (.iload_n 1, 1) := by decide +kernel
theorem dX7_planAsTold_40 : decode cX7_planAsTold 40 = .ok (.invokevirtual 141, 3) := by decide +kernel
theorem dX7_planAsTold_43 : decode cX7_planAsTold 43 = .ok (.iastore, 1) := by decide +kernel
theorem dX7_planAsTold_44 : decode cX7_planAsTold 44 = .ok (.iinc 1 1, 3) := by decide +kernel
theorem dX7_planAsTold_47 : decode cX7_planAsTold 47 = .ok (.goto (-23), 3) := by decide +kernel
theorem dX7_planAsTold_50 : decode cX7_planAsTold 50 = .ok (.aload_n 0, 1) := by decide +kernel
theorem dX7_planAsTold_51 : decode cX7_planAsTold 51 = .ok (.getfield 73, 3) := by decide +kernel
theorem dX7_planAsTold_54 : decode cX7_planAsTold 54 = .ok (.aload_n 0, 1) := by decide +kernel
theorem dX7_planAsTold_55 : decode cX7_planAsTold 55 = .ok (.getfield 43, 3) := by decide +kernel
theorem dX7_planAsTold_58 : decode cX7_planAsTold 58 = .ok (.sipush 255, 3) := by decide +kernel
theorem dX7_planAsTold_61 : decode cX7_planAsTold 61 = .ok (.invokevirtual 251, 3) := by decide +kernel
theorem dX7_planAsTold_64 : decode cX7_planAsTold 64 = .ok (.return_, 1) := by decide +kernel
theorem dX7_asTold_0 : decode cX7_asTold 0 = .ok (.aload_n 0, 1) := by decide +kernel
theorem dX7_asTold_1 : decode cX7_asTold 1 = .ok (.getfield 96, 3) := by decide +kernel
theorem dX7_asTold_4 : decode cX7_asTold 4 = .ok (.ifCond .eq 25, 3) := by decide +kernel
theorem dX7_asTold_7 : decode cX7_asTold 7 = .ok (.aload_n 0, 1) := by decide +kernel
theorem dX7_asTold_8 : decode cX7_asTold 8 = .ok (.invokevirtual 217, 3) := by decide +kernel
theorem dX7_asTold_11 : decode cX7_asTold 11 = .ok (.aload_n 0, 1) := by decide +kernel
theorem dX7_asTold_12 : decode cX7_asTold 12 = .ok (.getfield 80, 3) := by decide +kernel
theorem dX7_asTold_15 : decode cX7_asTold 15 = .ok (.aload_n 0, 1) := by decide +kernel
theorem dX7_asTold_16 : decode cX7_asTold 16 = .ok (.getfield 73, 3) := by decide +kernel
theorem dX7_asTold_19 : decode cX7_asTold 19 = .ok (.bipush 23, 2) := by decide +kernel
theorem dX7_asTold_21 : decode cX7_asTold 21 = .ok (.invokevirtual 227, 3) := by decide +kernel
theorem dX7_asTold_24 : decode cX7_asTold 24 = .ok (.aload_n 0, 1) := by decide +kernel
theorem dX7_asTold_25 : decode cX7_asTold 25 = .ok (.iconst 0, 1) := by decide +kernel
theorem dX7_asTold_26 : decode cX7_asTold 26 = .ok (.putfield 96, 3) := by decide +kernel
theorem dX7_asTold_29 : decode cX7_asTold 29 = .ok (.aload_n 0, 1) := by decide +kernel
theorem dX7_asTold_30 : decode cX7_asTold 30 = .ok (.getfield 80, 3) := by decide +kernel
theorem dX7_asTold_33 : decode cX7_asTold 33 = .ok (.areturn, 1) := by decide +kernel
theorem dX7_leftBehind_0 : decode cX7_leftBehind 0 = .ok (.iconst 0, 1) := by decide +kernel
theorem dX7_leftBehind_1 : decode cX7_leftBehind 1 = .ok (.istore_n 2, 1) := by decide +kernel
theorem dX7_leftBehind_2 : decode cX7_leftBehind 2 = .ok (.iconst 0, 1) := by decide +kernel
theorem dX7_leftBehind_3 : decode cX7_leftBehind 3 = .ok (.istore_n 3, 1) := by decide +kernel
theorem dX7_leftBehind_4 : decode cX7_leftBehind 4 = .ok (.iload_n 3, 1) := by decide +kernel
theorem dX7_leftBehind_5 : decode cX7_leftBehind 5 = .ok (.aload_n 0, 1) := by decide +kernel
theorem dX7_leftBehind_6 : decode cX7_leftBehind 6 = .ok (.getfield 37, 3) := by decide +kernel
theorem dX7_leftBehind_9 : decode cX7_leftBehind 9 = .ok (.getfield 135, 3) := by decide +kernel
theorem dX7_leftBehind_12 : decode cX7_leftBehind 12 = .ok (.if_icmp .ge 21, 3) := by decide +kernel
theorem dX7_leftBehind_15 : decode cX7_leftBehind 15 = .ok (.iload_n 2, 1) := by decide +kernel
theorem dX7_leftBehind_16 : decode cX7_leftBehind 16 = .ok (.aload_n 0, 1) := by decide +kernel
theorem dX7_leftBehind_17 : decode cX7_leftBehind 17 = .ok (.getfield 37, 3) := by decide +kernel
theorem dX7_leftBehind_20 : decode cX7_leftBehind 20 = .ok (.getfield 413, 3) := by decide +kernel
theorem dX7_leftBehind_23 : decode cX7_leftBehind 23 = .ok (.iload_n 3, 1) := by decide +kernel
theorem dX7_leftBehind_24 : decode cX7_leftBehind 24 = .ok (.iaload, 1) := by decide +kernel
theorem dX7_leftBehind_25 : decode cX7_leftBehind 25 = .ok (.iadd, 1) := by decide +kernel
theorem dX7_leftBehind_26 : decode cX7_leftBehind 26 = .ok (.istore_n 2, 1) := by decide +kernel
theorem dX7_leftBehind_27 : decode cX7_leftBehind 27 = .ok (.iinc 3 1, 3) := by decide +kernel
theorem dX7_leftBehind_30 : decode cX7_leftBehind 30 = .ok (.goto (-26), 3) := by decide +kernel
theorem dX7_leftBehind_33 : decode cX7_leftBehind 33 = .ok (.iload_n 2, 1) := by decide +kernel
theorem dX7_leftBehind_34 : decode cX7_leftBehind 34 = .ok (.aload_n 1, 1) := by decide +kernel
theorem dX7_leftBehind_35 : decode cX7_leftBehind 35 = .ok (.invokevirtual 231, 3) := by decide +kernel
theorem dX7_leftBehind_38 : decode cX7_leftBehind 38 = .ok (.isub, 1) := by decide +kernel
theorem dX7_leftBehind_39 : decode cX7_leftBehind 39 = .ok (.ireturn, 1) := by decide +kernel
theorem dX7_leastSpared_0 : decode cX7_leastSpared 0 = .ok (.aload_n 0, 1) := by decide +kernel
theorem dX7_leastSpared_1 : decode cX7_leastSpared 1 = .ok (.invokevirtual 217, 3) := by decide +kernel
theorem dX7_leastSpared_4 : decode cX7_leastSpared 4 = .ok (.aload_n 0, 1) := by decide +kernel
theorem dX7_leastSpared_5 : decode cX7_leastSpared 5 = .ok (.iconst 0, 1) := by decide +kernel
theorem dX7_leastSpared_6 : decode cX7_leastSpared 6 = .ok (.invokevirtual 416, 3) := by decide +kernel
theorem dX7_leastSpared_9 : decode cX7_leastSpared 9 = .ok (.ifCond .eq 5, 3) := by decide +kernel
theorem dX7_leastSpared_12 : decode cX7_leastSpared 12 = .ok (.iconst 0, 1) := by decide +kernel
theorem dX7_leastSpared_13 : decode cX7_leastSpared 13 = .ok (.ireturn, 1) := by decide +kernel
theorem dX7_leastSpared_14 : decode cX7_leastSpared 14 = .ok (.iconst 0, 1) := by decide +kernel
theorem dX7_leastSpared_15 : decode cX7_leastSpared 15 = .ok (.istore_n 1, 1) := by decide +kernel
theorem dX7_leastSpared_16 : decode cX7_leastSpared 16 = .ok (.iload_n 1, 1) := by decide +kernel
theorem dX7_leastSpared_17 : decode cX7_leastSpared 17 = .ok (.aload_n 0, 1) := by decide +kernel
theorem dX7_leastSpared_18 : decode cX7_leastSpared 18 = .ok (.getfield 43, 3) := by decide +kernel
theorem dX7_leastSpared_21 : decode cX7_leastSpared 21 = .ok (.getfield 152, 3) := by decide +kernel
theorem dX7_leastSpared_24 : decode cX7_leastSpared 24 = .ok (.if_icmp .ge 23, 3) := by decide +kernel
theorem dX7_leastSpared_27 : decode cX7_leastSpared 27 = .ok (.aload_n 0, 1) := by decide +kernel
theorem dX7_leastSpared_28 : decode cX7_leastSpared 28 = .ok (.iconst 1, 1) := by decide +kernel
theorem dX7_leastSpared_29 : decode cX7_leastSpared 29 = .ok (.iload_n 1, 1) := by decide +kernel
theorem dX7_leastSpared_30 : decode cX7_leastSpared 30 = .ok (.ishl, 1) := by decide +kernel
theorem dX7_leastSpared_31 : decode cX7_leastSpared 31 = .ok (.invokevirtual 416, 3) := by decide +kernel
theorem dX7_leastSpared_34 : decode cX7_leastSpared 34 = .ok (.ifCond .eq 7, 3) := by decide +kernel
theorem dX7_leastSpared_37 : decode cX7_leastSpared 37 = .ok (.iconst 1, 1) := by decide +kernel
theorem dX7_leastSpared_38 : decode cX7_leastSpared 38 = .ok (.iload_n 1, 1) := by decide +kernel
theorem dX7_leastSpared_39 : decode cX7_leastSpared 39 = .ok (.ishl, 1) := by decide +kernel
theorem dX7_leastSpared_40 : decode cX7_leastSpared 40 = .ok (.ireturn, 1) := by decide +kernel
theorem dX7_leastSpared_41 : decode cX7_leastSpared 41 = .ok (.iinc 1 1, 3) := by decide +kernel
theorem dX7_leastSpared_44 : decode cX7_leastSpared 44 = .ok (.goto (-28), 3) := by decide +kernel
theorem dX7_leastSpared_47 : decode cX7_leastSpared 47 = .ok (.iconst 0, 1) := by decide +kernel
theorem dX7_leastSpared_48 : decode cX7_leastSpared 48 = .ok (.istore_n 1, 1) := by decide +kernel
theorem dX7_leastSpared_49 : decode cX7_leastSpared 49 = .ok (.iload_n 1, 1) := by decide +kernel
theorem dX7_leastSpared_50 : decode cX7_leastSpared 50 = .ok (.aload_n 0, 1) := by decide +kernel
theorem dX7_leastSpared_51 : decode cX7_leastSpared 51 = .ok (.getfield 43, 3) := by decide +kernel
theorem dX7_leastSpared_54 : decode cX7_leastSpared 54 = .ok (.getfield 152, 3) := by decide +kernel
theorem dX7_leastSpared_57 : decode cX7_leastSpared 57 = .ok (.if_icmp .ge 52, 3) := by decide +kernel
theorem dX7_leastSpared_60 : decode cX7_leastSpared 60 = .ok (.iload_n 1, 1) := by decide +kernel
theorem dX7_leastSpared_61 : decode cX7_leastSpared 61 = .ok (.iconst 1, 1) := by decide +kernel
theorem dX7_leastSpared_62 : decode cX7_leastSpared 62 = .ok (.iadd, 1) := by decide +kernel
theorem dX7_leastSpared_63 : decode cX7_leastSpared 63 = .ok (.istore_n 2, 1) := by decide +kernel
theorem dX7_leastSpared_64 : decode cX7_leastSpared 64 = .ok (.iload_n 2, 1) := by decide +kernel
theorem dX7_leastSpared_65 : decode cX7_leastSpared 65 = .ok (.aload_n 0, 1) := by decide +kernel
theorem dX7_leastSpared_66 : decode cX7_leastSpared 66 = .ok (.getfield 43, 3) := by decide +kernel
theorem dX7_leastSpared_69 : decode cX7_leastSpared 69 = .ok (.getfield 152, 3) := by decide +kernel
theorem dX7_leastSpared_72 : decode cX7_leastSpared 72 = .ok (.if_icmp .ge 31, 3) := by decide +kernel
theorem dX7_leastSpared_75 : decode cX7_leastSpared 75 = .ok (.aload_n 0, 1) := by decide +kernel
theorem dX7_leastSpared_76 : decode cX7_leastSpared 76 = .ok (.iconst 1, 1) := by decide +kernel
theorem dX7_leastSpared_77 : decode cX7_leastSpared 77 = .ok (.iload_n 1, 1) := by decide +kernel
theorem dX7_leastSpared_78 : decode cX7_leastSpared 78 = .ok (.ishl, 1) := by decide +kernel
theorem dX7_leastSpared_79 : decode cX7_leastSpared 79 = .ok (.iconst 1, 1) := by decide +kernel
theorem dX7_leastSpared_80 : decode cX7_leastSpared 80 = .ok (.iload_n 2, 1) := by decide +kernel
theorem dX7_leastSpared_81 : decode cX7_leastSpared 81 = .ok (.ishl, 1) := by decide +kernel
theorem dX7_leastSpared_82 : decode cX7_leastSpared 82 = .ok (.ior, 1) := by decide +kernel
theorem dX7_leastSpared_83 : decode cX7_leastSpared 83 = .ok (.invokevirtual 416, 3) := by decide +kernel
theorem dX7_leastSpared_86 : decode cX7_leastSpared 86 = .ok (.ifCond .eq 11, 3) := by decide +kernel
theorem dX7_leastSpared_89 : decode cX7_leastSpared 89 = .ok (.iconst 1, 1) := by decide +kernel
theorem dX7_leastSpared_90 : decode cX7_leastSpared 90 = .ok (.iload_n 1, 1) := by decide +kernel
theorem dX7_leastSpared_91 : decode cX7_leastSpared 91 = .ok (.ishl, 1) := by decide +kernel
theorem dX7_leastSpared_92 : decode cX7_leastSpared 92 = .ok (.iconst 1, 1) := by decide +kernel
theorem dX7_leastSpared_93 : decode cX7_leastSpared 93 = .ok (.iload_n 2, 1) := by decide +kernel
theorem dX7_leastSpared_94 : decode cX7_leastSpared 94 = .ok (.ishl, 1) := by decide +kernel
theorem dX7_leastSpared_95 : decode cX7_leastSpared 95 = .ok (.ior, 1) := by decide +kernel
theorem dX7_leastSpared_96 : decode cX7_leastSpared 96 = .ok (.ireturn, 1) := by decide +kernel
theorem dX7_leastSpared_97 : decode cX7_leastSpared 97 = .ok (.iinc 2 1, 3) := by decide +kernel
theorem dX7_leastSpared_100 : decode cX7_leastSpared 100 = .ok (.goto (-36), 3) := by decide +kernel
theorem dX7_leastSpared_103 : decode cX7_leastSpared 103 = .ok (.iinc 1 1, 3) := by decide +kernel
theorem dX7_leastSpared_106 : decode cX7_leastSpared 106 = .ok (.goto (-57), 3) := by decide +kernel
theorem dX7_leastSpared_109 : decode cX7_leastSpared 109 = .ok (.iconst (-1), 1) := by decide +kernel
theorem dX7_leastSpared_110 : decode cX7_leastSpared 110 = .ok (.ireturn, 1) := by decide +kernel
theorem dX7_nobodyLeftWithout_0 : decode cX7_nobodyLeftWithout 0 = .ok (.aload_n 0, 1) := by decide +kernel
theorem dX7_nobodyLeftWithout_1 : decode cX7_nobodyLeftWithout 1 = .ok (.getfield 73, 3) := by decide +kernel
theorem dX7_nobodyLeftWithout_4 : decode cX7_nobodyLeftWithout 4 = .ok (.aload_n 0, 1) := by decide +kernel
theorem dX7_nobodyLeftWithout_5 : decode cX7_nobodyLeftWithout 5 = .ok (.getfield 43, 3) := by decide +kernel
theorem dX7_nobodyLeftWithout_8 : decode cX7_nobodyLeftWithout 8 = .ok (.sipush 255, 3) := by decide +kernel
theorem dX7_nobodyLeftWithout_11 : decode cX7_nobodyLeftWithout 11 = .ok (.iload_n 1, 1) := by decide +kernel
theorem dX7_nobodyLeftWithout_12 : decode cX7_nobodyLeftWithout 12 = .ok (.iconst (-1), 1) := by decide +kernel
theorem dX7_nobodyLeftWithout_13 : decode cX7_nobodyLeftWithout 13 = .ok (.ixor, 1) := by decide +kernel
theorem dX7_nobodyLeftWithout_14 : decode cX7_nobodyLeftWithout 14 = .ok (.iand, 1) := by decide +kernel
theorem dX7_nobodyLeftWithout_15 : decode cX7_nobodyLeftWithout 15 = .ok (.invokevirtual 251, 3) := by decide +kernel
theorem dX7_nobodyLeftWithout_18 : decode cX7_nobodyLeftWithout 18 = .ok (.aload_n 0, 1) := by decide +kernel
theorem dX7_nobodyLeftWithout_19 : decode cX7_nobodyLeftWithout 19 = .ok (.getfield 84, 3) := by decide +kernel
theorem dX7_nobodyLeftWithout_22 : decode cX7_nobodyLeftWithout 22 = .ok (.aload_n 0, 1) := by decide +kernel
theorem dX7_nobodyLeftWithout_23 : decode cX7_nobodyLeftWithout 23 = .ok (.getfield 73, 3) := by decide +kernel
theorem dX7_nobodyLeftWithout_26 : decode cX7_nobodyLeftWithout 26 = .ok (.bipush 23, 2) := by decide +kernel
theorem dX7_nobodyLeftWithout_28 : decode cX7_nobodyLeftWithout 28 = .ok (.invokevirtual 227, 3) := by decide +kernel
theorem dX7_nobodyLeftWithout_31 : decode cX7_nobodyLeftWithout 31 = .ok (.aload_n 0, 1) := by decide +kernel
theorem dX7_nobodyLeftWithout_32 : decode cX7_nobodyLeftWithout 32 = .ok (.aload_n 0, 1) := by decide +kernel
theorem dX7_nobodyLeftWithout_33 : decode cX7_nobodyLeftWithout 33 = .ok (.getfield 84, 3) := by decide +kernel
theorem dX7_nobodyLeftWithout_36 : decode cX7_nobodyLeftWithout 36 = .ok (.invokevirtual 213, 3) := by decide +kernel
theorem dX7_nobodyLeftWithout_39 : decode cX7_nobodyLeftWithout 39 = .ok (.ifCond .ne 7, 3) := by decide +kernel
theorem dX7_nobodyLeftWithout_42 : decode cX7_nobodyLeftWithout 42 = .ok (.iconst 1, 1) := by decide +kernel
theorem dX7_nobodyLeftWithout_43 : decode cX7_nobodyLeftWithout 43 = .ok (.goto 4, 3) := by decide +kernel
theorem dX7_nobodyLeftWithout_46 : decode cX7_nobodyLeftWithout 46 = .ok (.iconst 0, 1) := by decide +kernel
theorem dX7_nobodyLeftWithout_47 : decode cX7_nobodyLeftWithout 47 = .ok (.ireturn, 1) := by decide +kernel
theorem dX7_numberOfBit_0 : decode cX7_numberOfBit 0 = .ok (.iconst 0, 1) := by decide +kernel
theorem dX7_numberOfBit_1 : decode cX7_numberOfBit 1 = .ok (.istore_n 2, 1) := by decide +kernel
theorem dX7_numberOfBit_2 : decode cX7_numberOfBit 2 = .ok (.iconst 0, 1) := by decide +kernel
theorem dX7_numberOfBit_3 : decode cX7_numberOfBit 3 = .ok (.istore_n 3, 1) := by decide +kernel
theorem dX7_numberOfBit_4 : decode cX7_numberOfBit 4 = .ok (.iload_n 3, 1) := by decide +kernel
theorem dX7_numberOfBit_5 : decode cX7_numberOfBit 5 = .ok (.bipush 8, 2) := by decide +kernel
theorem dX7_numberOfBit_7 : decode cX7_numberOfBit 7 = .ok (.if_icmp .ge 28, 3) := by decide +kernel
theorem dX7_numberOfBit_10 : decode cX7_numberOfBit 10 = .ok (.iload_n 0, 1) := by decide +kernel
theorem dX7_numberOfBit_11 : decode cX7_numberOfBit 11 = .ok (.iload_n 3, 1) := by decide +kernel
theorem dX7_numberOfBit_12 : decode cX7_numberOfBit 12 = .ok (.ishr, 1) := by decide +kernel
theorem dX7_numberOfBit_13 : decode cX7_numberOfBit 13 = .ok (.iconst 1, 1) := by decide +kernel
theorem dX7_numberOfBit_14 : decode cX7_numberOfBit 14 = .ok (.iand, 1) := by decide +kernel
theorem dX7_numberOfBit_15 : decode cX7_numberOfBit 15 = .ok (.iconst 1, 1) := by decide +kernel
theorem dX7_numberOfBit_16 : decode cX7_numberOfBit 16 = .ok (.if_icmp .ne 13, 3) := by decide +kernel
theorem dX7_numberOfBit_19 : decode cX7_numberOfBit 19 = .ok (.iload_n 2, 1) := by decide +kernel
theorem dX7_numberOfBit_20 : decode cX7_numberOfBit 20 = .ok (.iload_n 1, 1) := by decide +kernel
theorem dX7_numberOfBit_21 : decode cX7_numberOfBit 21 = .ok (.if_icmp .ne 5, 3) := by decide +kernel
theorem dX7_numberOfBit_24 : decode cX7_numberOfBit 24 = .ok (.iload_n 3, 1) := by decide +kernel
theorem dX7_numberOfBit_25 : decode cX7_numberOfBit 25 = .ok (.ireturn, 1) := by decide +kernel
theorem dX7_numberOfBit_26 : decode cX7_numberOfBit 26 = .ok (.iinc 2 1, 3) := by decide +kernel
theorem dX7_numberOfBit_29 : decode cX7_numberOfBit 29 = .ok (.iinc 3 1, 3) := by decide +kernel
theorem dX7_numberOfBit_32 : decode cX7_numberOfBit 32 = .ok (.goto (-28), 3) := by decide +kernel
theorem dX7_numberOfBit_35 : decode cX7_numberOfBit 35 = .ok (.iconst (-1), 1) := by decide +kernel
theorem dX7_numberOfBit_36 : decode cX7_numberOfBit 36 = .ok (.ireturn, 1) := by decide +kernel
theorem dX7_comesOutAsSeen_0 : decode cX7_comesOutAsSeen 0 = .ok (.aload_n 0, 1) := by decide +kernel
theorem dX7_comesOutAsSeen_1 : decode cX7_comesOutAsSeen 1 = .ok (.getfield 84, 3) := by decide +kernel
theorem dX7_comesOutAsSeen_4 : decode cX7_comesOutAsSeen 4 = .ok (.aload_n 0, 1) := by decide +kernel
theorem dX7_comesOutAsSeen_5 : decode cX7_comesOutAsSeen 5 = .ok (.getfield 73, 3) := by decide +kernel
theorem dX7_comesOutAsSeen_8 : decode cX7_comesOutAsSeen 8 = .ok (.bipush 23, 2) := by decide +kernel
theorem dX7_comesOutAsSeen_10 : decode cX7_comesOutAsSeen 10 = .ok (.invokevirtual 227, 3) := by decide +kernel
theorem dX7_comesOutAsSeen_13 : decode cX7_comesOutAsSeen 13 = .ok (.aload_n 0, 1) := by decide +kernel
theorem dX7_comesOutAsSeen_14 : decode cX7_comesOutAsSeen 14 = .ok (.getfield 50, 3) := by decide +kernel
theorem dX7_comesOutAsSeen_17 : decode cX7_comesOutAsSeen 17 = .ok (.aload_n 0, 1) := by decide +kernel
theorem dX7_comesOutAsSeen_18 : decode cX7_comesOutAsSeen 18 = .ok (.getfield 84, 3) := by decide +kernel
theorem dX7_comesOutAsSeen_21 : decode cX7_comesOutAsSeen 21 = .ok (.invokevirtual 419, 3) := by decide +kernel
theorem dX7_comesOutAsSeen_24 : decode cX7_comesOutAsSeen 24 = .ok (.ireturn, 1) := by decide +kernel
theorem dX7_likelyRooms_0 : decode cX7_likelyRooms 0 = .ok (.aload_n 0, 1) := by decide +kernel
theorem dX7_likelyRooms_1 : decode cX7_likelyRooms 1 = .ok (.invokevirtual 217, 3) := by decide +kernel
theorem dX7_likelyRooms_4 : decode cX7_likelyRooms 4 = .ok (.iconst 0, 1) := by decide +kernel
theorem dX7_likelyRooms_5 : decode cX7_likelyRooms 5 = .ok (.istore_n 2, 1) := by decide +kernel
theorem dX7_likelyRooms_6 : decode cX7_likelyRooms 6 = .ok (.iconst 1, 1) := by decide +kernel
theorem dX7_likelyRooms_7 : decode cX7_likelyRooms 7 = .ok (.istore_n 3, 1) := by decide +kernel
theorem dX7_likelyRooms_8 : decode cX7_likelyRooms 8 = .ok (.iload_n 3, 1) := by decide +kernel
theorem dX7_likelyRooms_9 : decode cX7_likelyRooms 9 = .ok (.bipush 9, 2) := by decide +kernel
theorem dX7_likelyRooms_11 : decode cX7_likelyRooms 11 = .ok (.if_icmp .gt 32, 3) := by decide +kernel
theorem dX7_likelyRooms_14 : decode cX7_likelyRooms 14 = .ok (.aload_n 0, 1) := by decide +kernel
theorem dX7_likelyRooms_15 : decode cX7_likelyRooms 15 = .ok (.getfield 73, 3) := by decide +kernel
theorem dX7_likelyRooms_18 : decode cX7_likelyRooms 18 = .ok (.getfield 423, 3) := by decide +kernel
theorem dX7_likelyRooms_21 : decode cX7_likelyRooms 21 = .ok (.iload_n 1, 1) := by decide +kernel
theorem dX7_likelyRooms_22 : decode cX7_likelyRooms 22 = .ok (.iload_n 3, 1) := by decide +kernel
theorem dX7_likelyRooms_23 : decode cX7_likelyRooms 23 = .ok (.iastore, 1) := by decide +kernel
theorem dX7_likelyRooms_24 : decode cX7_likelyRooms 24 = .ok (.aload_n 0, 1) := by decide +kernel
theorem dX7_likelyRooms_25 : decode cX7_likelyRooms 25 = .ok (.invokevirtual 255, 3) := by decide +kernel
theorem dX7_likelyRooms_28 : decode cX7_likelyRooms 28 = .ok (.ifCond .eq 9, 3) := by decide +kernel
theorem dX7_likelyRooms_31 : decode cX7_likelyRooms 31 = .ok (.iload_n 2, 1) := by decide +kernel
theorem dX7_likelyRooms_32 : decode cX7_likelyRooms 32 = .ok (.iconst 1, 1) := by decide +kernel
theorem dX7_likelyRooms_33 : decode cX7_likelyRooms 33 = .ok (.iload_n 3, 1) := by decide +kernel
theorem dX7_likelyRooms_34 : decode cX7_likelyRooms 34 = .ok (.ishl, 1) := by decide +kernel
theorem dX7_likelyRooms_35 : decode cX7_likelyRooms 35 = .ok (.ior, 1) := by decide +kernel
theorem dX7_likelyRooms_36 : decode cX7_likelyRooms 36 = .ok (.istore_n 2, 1) := by decide +kernel
theorem dX7_likelyRooms_37 : decode cX7_likelyRooms 37 = .ok (.iinc 3 1, 3) := by decide +kernel
theorem dX7_likelyRooms_40 : decode cX7_likelyRooms 40 = .ok (.goto (-32), 3) := by decide +kernel
theorem dX7_likelyRooms_43 : decode cX7_likelyRooms 43 = .ok (.iload_n 2, 1) := by decide +kernel
theorem dX7_likelyRooms_44 : decode cX7_likelyRooms 44 = .ok (.ireturn, 1) := by decide +kernel
theorem dX7_likelySorts_0 : decode cX7_likelySorts 0 = .ok (.aload_n 0, 1) := by decide +kernel
theorem dX7_likelySorts_1 : decode cX7_likelySorts 1 = .ok (.invokevirtual 217, 3) := by decide +kernel
theorem dX7_likelySorts_4 : decode cX7_likelySorts 4 = .ok (.iconst 0, 1) := by decide +kernel
theorem dX7_likelySorts_5 : decode cX7_likelySorts 5 = .ok (.istore_n 2, 1) := by decide +kernel
theorem dX7_likelySorts_6 : decode cX7_likelySorts 6 = .ok (.iconst 0, 1) := by decide +kernel
theorem dX7_likelySorts_7 : decode cX7_likelySorts 7 = .ok (.istore_n 3, 1) := by decide +kernel
theorem dX7_likelySorts_8 : decode cX7_likelySorts 8 = .ok (.iload_n 3, 1) := by decide +kernel
theorem dX7_likelySorts_9 : decode cX7_likelySorts 9 = .ok (.iconst 2, 1) := by decide +kernel
theorem dX7_likelySorts_10 : decode cX7_likelySorts 10 = .ok (.if_icmp .gt 32, 3) := by decide +kernel
theorem dX7_likelySorts_13 : decode cX7_likelySorts 13 = .ok (.aload_n 0, 1) := by decide +kernel
theorem dX7_likelySorts_14 : decode cX7_likelySorts 14 = .ok (.getfield 73, 3) := by decide +kernel
theorem dX7_likelySorts_17 : decode cX7_likelySorts 17 = .ok (.getfield 426, 3) := by decide +kernel
theorem dX7_likelySorts_20 : decode cX7_likelySorts 20 = .ok (.iload_n 1, 1) := by decide +kernel
theorem dX7_likelySorts_21 : decode cX7_likelySorts 21 = .ok (.iload_n 3, 1) := by decide +kernel
theorem dX7_likelySorts_22 : decode cX7_likelySorts 22 = .ok (.iastore, 1) := by decide +kernel
theorem dX7_likelySorts_23 : decode cX7_likelySorts 23 = .ok (.aload_n 0, 1) := by decide +kernel
theorem dX7_likelySorts_24 : decode cX7_likelySorts 24 = .ok (.invokevirtual 255, 3) := by decide +kernel
theorem dX7_likelySorts_27 : decode cX7_likelySorts 27 = .ok (.ifCond .eq 9, 3) := by decide +kernel
theorem dX7_likelySorts_30 : decode cX7_likelySorts 30 = .ok (.iload_n 2, 1) := by decide +kernel
theorem dX7_likelySorts_31 : decode cX7_likelySorts 31 = .ok (.iconst 1, 1) := by decide +kernel
theorem dX7_likelySorts_32 : decode cX7_likelySorts 32 = .ok (.iload_n 3, 1) := by decide +kernel
theorem dX7_likelySorts_33 : decode cX7_likelySorts 33 = .ok (.ishl, 1) := by decide +kernel
theorem dX7_likelySorts_34 : decode cX7_likelySorts 34 = .ok (.ior, 1) := by decide +kernel
theorem dX7_likelySorts_35 : decode cX7_likelySorts 35 = .ok (.istore_n 2, 1) := by decide +kernel
theorem dX7_likelySorts_36 : decode cX7_likelySorts 36 = .ok (.iinc 3 1, 3) := by decide +kernel
theorem dX7_likelySorts_39 : decode cX7_likelySorts 39 = .ok (.goto (-31), 3) := by decide +kernel
theorem dX7_likelySorts_42 : decode cX7_likelySorts 42 = .ok (.iload_n 2, 1) := by decide +kernel
theorem dX7_likelySorts_43 : decode cX7_likelySorts 43 = .ok (.ireturn, 1) := by decide +kernel
theorem dX7_noteCrowdsByRoom_0 : decode cX7_noteCrowdsByRoom 0 = .ok (.aload_n 0, 1) := by decide +kernel
theorem dX7_noteCrowdsByRoom_1 : decode cX7_noteCrowdsByRoom 1 = .ok (.invokevirtual 217, 3) := by decide +kernel
theorem dX7_noteCrowdsByRoom_4 : decode cX7_noteCrowdsByRoom 4 = .ok (.iconst 1, 1) := by decide +kernel
theorem dX7_noteCrowdsByRoom_5 : decode cX7_noteCrowdsByRoom 5 = .ok (.istore_n 2, 1) := by decide +kernel
theorem dX7_noteCrowdsByRoom_6 : decode cX7_noteCrowdsByRoom 6 = .ok (.iload_n 2, 1) := by decide +kernel
theorem dX7_noteCrowdsByRoom_7 : decode cX7_noteCrowdsByRoom 7 = .ok (.bipush 9, 2) := by decide +kernel
theorem dX7_noteCrowdsByRoom_9 : decode cX7_noteCrowdsByRoom 9 = .ok (.if_icmp .gt 66, 3) := by decide +kernel
theorem dX7_noteCrowdsByRoom_12 : decode cX7_noteCrowdsByRoom 12 = .ok (.aload_n 0, 1) := by decide +kernel
theorem dX7_noteCrowdsByRoom_13 : decode cX7_noteCrowdsByRoom 13 = .ok (.getfield 73, 3) := by decide +kernel
theorem dX7_noteCrowdsByRoom_16 : decode cX7_noteCrowdsByRoom 16 = .ok (.getfield 423, 3) := by decide +kernel
theorem dX7_noteCrowdsByRoom_19 : decode cX7_noteCrowdsByRoom 19 = .ok (.iload_n 1, 1) := by decide +kernel
theorem dX7_noteCrowdsByRoom_20 : decode cX7_noteCrowdsByRoom 20 = .ok (.iload_n 2, 1) := by decide +kernel
theorem dX7_noteCrowdsByRoom_21 : decode cX7_noteCrowdsByRoom 21 = .ok (.iastore, 1) := by decide +kernel
theorem dX7_noteCrowdsByRoom_22 : decode cX7_noteCrowdsByRoom 22 = .ok (.aload_n 0, 1) := by decide +kernel
theorem dX7_noteCrowdsByRoom_23 : decode cX7_noteCrowdsByRoom 23 = .ok (.invokevirtual 255, 3) := by decide +kernel
theorem dX7_noteCrowdsByRoom_26 : decode cX7_noteCrowdsByRoom 26 = .ok (.istore_n 3, 1) := by decide +kernel
theorem dX7_noteCrowdsByRoom_27 : decode cX7_noteCrowdsByRoom 27 = .ok (.iconst 0, 1) := by decide +kernel
theorem dX7_noteCrowdsByRoom_28 : decode cX7_noteCrowdsByRoom 28 = .ok (.istore 4, 2) := by decide +kernel
theorem dX7_noteCrowdsByRoom_30 : decode cX7_noteCrowdsByRoom 30 = .ok (.iload 4, 2) := by decide +kernel
theorem dX7_noteCrowdsByRoom_32 : decode cX7_noteCrowdsByRoom 32 = .ok (.bipush 24, 2) := by decide +kernel
theorem dX7_noteCrowdsByRoom_34 : decode cX7_noteCrowdsByRoom 34 = .ok (.if_icmp .ge 35, 3) := by decide +kernel
theorem dX7_noteCrowdsByRoom_37 : decode cX7_noteCrowdsByRoom 37 = .ok (.aload_n 0, 1) := by decide +kernel
theorem dX7_noteCrowdsByRoom_38 : decode cX7_noteCrowdsByRoom 38 = .ok (.getfield 89, 3) := by decide +kernel
theorem dX7_noteCrowdsByRoom_41 : decode cX7_noteCrowdsByRoom 41 = .ok (.iload_n 2, 1) := by decide +kernel
theorem dX7_noteCrowdsByRoom_42 : decode cX7_noteCrowdsByRoom 42 = .ok (.aaload, 1) := by decide +kernel
theorem dX7_noteCrowdsByRoom_43 : decode cX7_noteCrowdsByRoom 43 = .ok (.iload 4, 2) := by decide +kernel
theorem dX7_noteCrowdsByRoom_45 : decode cX7_noteCrowdsByRoom 45 = .ok (.iload_n 3, 1) := by decide +kernel
theorem dX7_noteCrowdsByRoom_46 : decode cX7_noteCrowdsByRoom 46 = .ok (.ifCond .eq 15, 3) := by decide +kernel
theorem dX7_noteCrowdsByRoom_49 : decode cX7_noteCrowdsByRoom 49 = .ok (.aload_n 0, 1) := by decide +kernel
theorem dX7_noteCrowdsByRoom_50 : decode cX7_noteCrowdsByRoom 50 = .ok (.getfield 84, 3) := by decide +kernel
theorem dX7_noteCrowdsByRoom_53 : decode cX7_noteCrowdsByRoom 53 = .ok (.iload 4, 2) := by decide +kernel
theorem dX7_noteCrowdsByRoom_55 : decode cX7_noteCrowdsByRoom 55 = .ok (.invokevirtual 429, 3) := by decide +kernel
theorem dX7_noteCrowdsByRoom_58 : decode cX7_noteCrowdsByRoom 58 = .ok (.goto 4, 3) := by decide +kernel
theorem dX7_noteCrowdsByRoom_61 : decode cX7_noteCrowdsByRoom 61 = .ok (.iconst (-1), 1) := by decide +kernel
theorem dX7_noteCrowdsByRoom_62 : decode cX7_noteCrowdsByRoom 62 = .ok (.iastore, 1) := by decide +kernel
theorem dX7_noteCrowdsByRoom_63 : decode cX7_noteCrowdsByRoom 63 = .ok (.iinc 4 1, 3) := by decide +kernel
theorem dX7_noteCrowdsByRoom_66 : decode cX7_noteCrowdsByRoom 66 = .ok (.goto (-36), 3) := by decide +kernel
theorem dX7_noteCrowdsByRoom_69 : decode cX7_noteCrowdsByRoom 69 = .ok (.iinc 2 1, 3) := by decide +kernel
theorem dX7_noteCrowdsByRoom_72 : decode cX7_noteCrowdsByRoom 72 = .ok (.goto (-66), 3) := by decide +kernel
theorem dX7_noteCrowdsByRoom_75 : decode cX7_noteCrowdsByRoom 75 = .ok (.return_, 1) := by decide +kernel
theorem dX7_mostAlike_0 : decode cX7_mostAlike 0 = .ok (.iconst 0, 1) := by decide +kernel
theorem dX7_mostAlike_1 : decode cX7_mostAlike 1 = .ok (.istore_n 2, 1) := by decide +kernel
theorem dX7_mostAlike_2 : decode cX7_mostAlike 2 = .ok (.iconst 1, 1) := by decide +kernel
theorem dX7_mostAlike_3 : decode cX7_mostAlike 3 = .ok (.istore_n 3, 1) := by decide +kernel
theorem dX7_mostAlike_4 : decode cX7_mostAlike 4 = .ok (.iload_n 3, 1) := by decide +kernel
theorem dX7_mostAlike_5 : decode cX7_mostAlike 5 = .ok (.bipush 9, 2) := by decide +kernel
theorem dX7_mostAlike_7 : decode cX7_mostAlike 7 = .ok (.if_icmp .gt 68, 3) := by decide +kernel
theorem dX7_mostAlike_10 : decode cX7_mostAlike 10 = .ok (.aload_n 0, 1) := by decide +kernel
theorem dX7_mostAlike_11 : decode cX7_mostAlike 11 = .ok (.getfield 89, 3) := by decide +kernel
theorem dX7_mostAlike_14 : decode cX7_mostAlike 14 = .ok (.iload_n 3, 1) := by decide +kernel
theorem dX7_mostAlike_15 : decode cX7_mostAlike 15 = .ok (.aaload, 1) := by decide +kernel
theorem dX7_mostAlike_16 : decode cX7_mostAlike 16 = .ok (.iload_n 1, 1) := by decide +kernel
theorem dX7_mostAlike_17 : decode cX7_mostAlike 17 = .ok (.iaload, 1) := by decide +kernel
theorem dX7_mostAlike_18 : decode cX7_mostAlike 18 = .ok (.istore 4, 2) := by decide +kernel
theorem dX7_mostAlike_20 : decode cX7_mostAlike 20 = .ok (.iconst 0, 1) := by decide +kernel
theorem dX7_mostAlike_21 : decode cX7_mostAlike 21 = .ok (.istore 5, 2) := by decide +kernel
theorem dX7_mostAlike_23 : decode cX7_mostAlike 23 = .ok (.iconst 1, 1) := by decide +kernel
theorem dX7_mostAlike_24 : decode cX7_mostAlike 24 = .ok (.istore 6, 2) := by decide +kernel
theorem dX7_mostAlike_26 : decode cX7_mostAlike 26 = .ok (.iload 6, 2) := by decide +kernel
theorem dX7_mostAlike_28 : decode cX7_mostAlike 28 = .ok (.bipush 9, 2) := by decide +kernel
theorem dX7_mostAlike_30 : decode cX7_mostAlike 30 = .ok (.if_icmp .gt 32, 3) := by decide +kernel
theorem dX7_mostAlike_33 : decode cX7_mostAlike 33 = .ok (.iload 4, 2) := by decide +kernel
theorem dX7_mostAlike_35 : decode cX7_mostAlike 35 = .ok (.iconst (-1), 1) := by decide +kernel
theorem dX7_mostAlike_36 : decode cX7_mostAlike 36 = .ok (.if_icmp .eq 20, 3) := by decide +kernel
theorem dX7_mostAlike_39 : decode cX7_mostAlike 39 = .ok (.aload_n 0, 1) := by decide +kernel
theorem dX7_mostAlike_40 : decode cX7_mostAlike 40 = .ok (.getfield 89, 3) := by decide +kernel
theorem dX7_mostAlike_43 : decode cX7_mostAlike 43 = .ok (.iload 6, 2) := by decide +kernel
theorem dX7_mostAlike_45 : decode cX7_mostAlike 45 = .ok (.aaload, 1) := by decide +kernel
theorem dX7_mostAlike_46 : decode cX7_mostAlike 46 = .ok (.iload_n 1, 1) := by decide +kernel
theorem dX7_mostAlike_47 : decode cX7_mostAlike 47 = .ok (.iaload, 1) := by decide +kernel
theorem dX7_mostAlike_48 : decode cX7_mostAlike 48 = .ok (.iload 4, 2) := by decide +kernel
theorem dX7_mostAlike_50 : decode cX7_mostAlike 50 = .ok (.if_icmp .ne 6, 3) := by decide +kernel
theorem dX7_mostAlike_53 : decode cX7_mostAlike 53 = .ok (.iinc 5 1, 3) := by decide +kernel
theorem dX7_mostAlike_56 : decode cX7_mostAlike 56 = .ok (.iinc 6 1, 3) := by decide +kernel
theorem dX7_mostAlike_59 : decode cX7_mostAlike 59 = .ok (.goto (-33), 3) := by decide +kernel
theorem dX7_mostAlike_62 : decode cX7_mostAlike 62 = .ok (.iload_n 2, 1) := by decide +kernel
theorem dX7_mostAlike_63 : decode cX7_mostAlike 63 = .ok (.iload 5, 2) := by decide +kernel
theorem dX7_mostAlike_65 : decode cX7_mostAlike 65 = .ok (.invokestatic 432, 3) := by decide +kernel
theorem dX7_mostAlike_68 : decode cX7_mostAlike 68 = .ok (.istore_n 2, 1) := by decide +kernel
theorem dX7_mostAlike_69 : decode cX7_mostAlike 69 = .ok (.iinc 3 1, 3) := by decide +kernel
theorem dX7_mostAlike_72 : decode cX7_mostAlike 72 = .ok (.goto (-68), 3) := by decide +kernel
theorem dX7_mostAlike_75 : decode cX7_mostAlike 75 = .ok (.iload_n 2, 1) := by decide +kernel
theorem dX7_mostAlike_76 : decode cX7_mostAlike 76 = .ok (.ireturn, 1) := by decide +kernel
theorem dX7_sharesWithNobodyWaiting_0 : decode cX7_sharesWithNobodyWaiting 0 = .ok (.aload_n 0, 1) := by decide +kernel
theorem dX7_sharesWithNobodyWaiting_1 : decode cX7_sharesWithNobodyWaiting 1 = .ok (.invokevirtual 217, 3) := by decide +kernel
theorem dX7_sharesWithNobodyWaiting_4 : decode cX7_sharesWithNobodyWaiting 4 = .ok (.lconst 0, 1) := by decide +kernel
theorem dX7_sharesWithNobodyWaiting_5 : decode cX7_sharesWithNobodyWaiting 5 = .ok (.lstore_n 3, 1) := by decide +kernel
theorem dX7_sharesWithNobodyWaiting_6 : decode cX7_sharesWithNobodyWaiting 6 = .ok (.iconst 0, 1) := by decide +kernel
theorem dX7_sharesWithNobodyWaiting_7 : decode cX7_sharesWithNobodyWaiting 7 = .ok (.istore 5, 2) := by decide +kernel
theorem dX7_sharesWithNobodyWaiting_9 : decode cX7_sharesWithNobodyWaiting 9 = .ok (.iload 5, 2) := by decide +kernel
theorem dX7_sharesWithNobodyWaiting_11 : decode cX7_sharesWithNobodyWaiting 11 = .ok (.iconst 1, 1) := by decide +kernel
theorem dX7_sharesWithNobodyWaiting_12 : decode cX7_sharesWithNobodyWaiting 12 = .ok (.aload_n 0, 1) := by decide +kernel
theorem dX7_sharesWithNobodyWaiting_13 : decode cX7_sharesWithNobodyWaiting 13 = .ok (.getfield 43, 3) := by decide +kernel
theorem dX7_sharesWithNobodyWaiting_16 : decode cX7_sharesWithNobodyWaiting 16 = .ok (.getfield 152, 3) := by decide +kernel
theorem dX7_sharesWithNobodyWaiting_19 : decode cX7_sharesWithNobodyWaiting 19 = .ok (.ishl, 1) := by decide +kernel
theorem dX7_sharesWithNobodyWaiting_20 : decode cX7_sharesWithNobodyWaiting 20 = .ok (.if_icmp .ge 69, 3) := by decide +kernel
theorem dX7_sharesWithNobodyWaiting_23 : decode cX7_sharesWithNobodyWaiting 23 = .ok (.aload_n 0, 1) := by decide +kernel
theorem dX7_sharesWithNobodyWaiting_24 : decode cX7_sharesWithNobodyWaiting 24 = .ok (.iload 5, 2) := by decide +kernel
theorem dX7_sharesWithNobodyWaiting_26 : decode cX7_sharesWithNobodyWaiting 26 = .ok (.iload_n 1, 1) := by decide +kernel
theorem dX7_sharesWithNobodyWaiting_27 : decode cX7_sharesWithNobodyWaiting 27 = .ok (.invokevirtual 435, 3) := by decide +kernel
theorem dX7_sharesWithNobodyWaiting_30 : decode cX7_sharesWithNobodyWaiting 30 = .ok (.lstore 6, 2) := by decide +kernel
theorem dX7_sharesWithNobodyWaiting_32 : decode cX7_sharesWithNobodyWaiting 32 = .ok (.lload 6, 2) := by decide +kernel
theorem dX7_sharesWithNobodyWaiting_34 : decode cX7_sharesWithNobodyWaiting 34 = .ok (.lconst 0, 1) := by decide +kernel
theorem dX7_sharesWithNobodyWaiting_35 : decode cX7_sharesWithNobodyWaiting 35 = .ok (.lcmp, 1) := by decide +kernel
theorem dX7_sharesWithNobodyWaiting_36 : decode cX7_sharesWithNobodyWaiting 36 = .ok (.ifCond .ne 6, 3) := by decide +kernel
theorem dX7_sharesWithNobodyWaiting_39 : decode cX7_sharesWithNobodyWaiting 39 = .ok (.goto 44, 3) := by decide +kernel
theorem dX7_sharesWithNobodyWaiting_42 : decode cX7_sharesWithNobodyWaiting 42 = .ok (.aload_n 0, 1) := by decide +kernel
theorem dX7_sharesWithNobodyWaiting_43 : decode cX7_sharesWithNobodyWaiting 43 = .ok (.getfield 73, 3) := by decide +kernel
theorem dX7_sharesWithNobodyWaiting_46 : decode cX7_sharesWithNobodyWaiting 46 = .ok (.aload_n 0, 1) := by decide +kernel
theorem dX7_sharesWithNobodyWaiting_47 : decode cX7_sharesWithNobodyWaiting 47 = .ok (.getfield 43, 3) := by decide +kernel
theorem dX7_sharesWithNobodyWaiting_50 : decode cX7_sharesWithNobodyWaiting 50 = .ok (.iload 5, 2) := by decide +kernel
theorem dX7_sharesWithNobodyWaiting_52 : decode cX7_sharesWithNobodyWaiting 52 = .ok (.invokevirtual 251, 3) := by decide +kernel
theorem dX7_sharesWithNobodyWaiting_55 : decode cX7_sharesWithNobodyWaiting 55 = .ok (.aload_n 0, 1) := by decide +kernel
theorem dX7_sharesWithNobodyWaiting_56 : decode cX7_sharesWithNobodyWaiting 56 = .ok (.getfield 84, 3) := by decide +kernel
theorem dX7_sharesWithNobodyWaiting_59 : decode cX7_sharesWithNobodyWaiting 59 = .ok (.aload_n 0, 1) := by decide +kernel
theorem dX7_sharesWithNobodyWaiting_60 : decode cX7_sharesWithNobodyWaiting 60 = .ok (.getfield 73, 3) := by decide +kernel
theorem dX7_sharesWithNobodyWaiting_63 : decode cX7_sharesWithNobodyWaiting 63 = .ok (.iload_n 2, 1) := by decide +kernel
theorem dX7_sharesWithNobodyWaiting_64 : decode cX7_sharesWithNobodyWaiting 64 = .ok (.invokevirtual 227, 3) := by decide +kernel
theorem dX7_sharesWithNobodyWaiting_67 : decode cX7_sharesWithNobodyWaiting 67 = .ok (.aload_n 0, 1) := by decide +kernel
theorem dX7_sharesWithNobodyWaiting_68 : decode cX7_sharesWithNobodyWaiting 68 = .ok (.getfield 84, 3) := by decide +kernel
theorem dX7_sharesWithNobodyWaiting_71 : decode cX7_sharesWithNobodyWaiting 71 = .ok (.iload_n 2, 1) := by decide +kernel
theorem dX7_sharesWithNobodyWaiting_72 : decode cX7_sharesWithNobodyWaiting 72 = .ok (.invokevirtual 429, 3) := by decide +kernel
theorem dX7_sharesWithNobodyWaiting_75 : decode cX7_sharesWithNobodyWaiting 75 = .ok (.ifCond .ne 8, 3) := by decide +kernel
theorem dX7_sharesWithNobodyWaiting_78 : decode cX7_sharesWithNobodyWaiting 78 = .ok (.lload_n 3, 1) := by decide +kernel
theorem dX7_sharesWithNobodyWaiting_79 : decode cX7_sharesWithNobodyWaiting 79 = .ok (.lload 6, 2) := by decide +kernel
theorem dX7_sharesWithNobodyWaiting_81 : decode cX7_sharesWithNobodyWaiting 81 = .ok (.ladd, 1) := by decide +kernel
theorem dX7_sharesWithNobodyWaiting_82 : decode cX7_sharesWithNobodyWaiting 82 = .ok (.lstore_n 3, 1) := by decide +kernel
theorem dX7_sharesWithNobodyWaiting_83 : decode cX7_sharesWithNobodyWaiting 83 = .ok (.iinc 5 1, 3) := by decide +kernel
theorem dX7_sharesWithNobodyWaiting_86 : decode cX7_sharesWithNobodyWaiting 86 = .ok (.goto (-77), 3) := by decide +kernel
theorem dX7_sharesWithNobodyWaiting_89 : decode cX7_sharesWithNobodyWaiting 89 = .ok (.lload_n 3, 1) := by decide +kernel
theorem dX7_sharesWithNobodyWaiting_90 : decode cX7_sharesWithNobodyWaiting 90 = .ok (.lreturn, 1) := by decide +kernel
theorem dX7_sharesOf_0 : decode cX7_sharesOf 0 = .ok (.lconst 1, 1) := by decide +kernel
theorem dX7_sharesOf_1 : decode cX7_sharesOf 1 = .ok (.lstore_n 3, 1) := by decide +kernel
theorem dX7_sharesOf_2 : decode cX7_sharesOf 2 = .ok (.iconst 0, 1) := by decide +kernel
theorem dX7_sharesOf_3 : decode cX7_sharesOf 3 = .ok (.istore 5, 2) := by decide +kernel
theorem dX7_sharesOf_5 : decode cX7_sharesOf 5 = .ok (.iload 5, 2) := by decide +kernel
theorem dX7_sharesOf_7 : decode cX7_sharesOf 7 = .ok (.aload_n 0, 1) := by decide +kernel
theorem dX7_sharesOf_8 : decode cX7_sharesOf 8 = .ok (.getfield 43, 3) := by decide +kernel
theorem dX7_sharesOf_11 : decode cX7_sharesOf 11 = .ok (.getfield 152, 3) := by decide +kernel
theorem dX7_sharesOf_14 : decode cX7_sharesOf 14 = .ok (.if_icmp .ge 32, 3) := by decide +kernel
theorem dX7_sharesOf_17 : decode cX7_sharesOf 17 = .ok (.lload_n 3, 1) := by decide +kernel
theorem dX7_sharesOf_18 : decode cX7_sharesOf 18 = .ok (.iload_n 1, 1) := by decide +kernel
theorem dX7_sharesOf_19 : decode cX7_sharesOf 19 = .ok (.iload 5, 2) := by decide +kernel
theorem dX7_sharesOf_21 : decode cX7_sharesOf 21 = .ok (.ishr, 1) := by decide +kernel
theorem dX7_sharesOf_22 : decode cX7_sharesOf 22 = .ok (.iconst 1, 1) := by decide +kernel
theorem dX7_sharesOf_23 : decode cX7_sharesOf 23 = .ok (.iand, 1) := by decide +kernel
theorem dX7_sharesOf_24 : decode cX7_sharesOf 24 = .ok (.iconst 1, 1) := by decide +kernel
theorem dX7_sharesOf_25 : decode cX7_sharesOf 25 = .ok (.if_icmp .ne 8, 3) := by decide +kernel
theorem dX7_sharesOf_28 : decode cX7_sharesOf 28 = .ok (.iload_n 2, 1) := by decide +kernel
theorem dX7_sharesOf_29 : decode cX7_sharesOf 29 = .ok (.i2l, 1) := by decide +kernel
theorem dX7_sharesOf_30 : decode cX7_sharesOf 30 = .ok (.goto 8, 3) := by decide +kernel
theorem dX7_sharesOf_33 : decode cX7_sharesOf 33 = .ok (.bipush 16, 2) := by decide +kernel
theorem dX7_sharesOf_35 : decode cX7_sharesOf 35 = .ok (.iload_n 2, 1) := by decide +kernel
theorem dX7_sharesOf_36 : decode cX7_sharesOf 36 = .ok (.isub, 1) := by decide +kernel
theorem dX7_sharesOf_37 : decode cX7_sharesOf 37 = .ok (.i2l, 1) := by decide +kernel
theorem dX7_sharesOf_38 : decode cX7_sharesOf 38 = .ok (.lmul, 1) := by decide +kernel
theorem dX7_sharesOf_39 : decode cX7_sharesOf 39 = .ok (.lstore_n 3, 1) := by decide +kernel
theorem dX7_sharesOf_40 : decode cX7_sharesOf 40 = .ok (.iinc 5 1, 3) := by decide +kernel
theorem dX7_sharesOf_43 : decode cX7_sharesOf 43 = .ok (.goto (-38), 3) := by decide +kernel
theorem dX7_sharesOf_46 : decode cX7_sharesOf 46 = .ok (.lload_n 3, 1) := by decide +kernel
theorem dX7_sharesOf_47 : decode cX7_sharesOf 47 = .ok (.lreturn, 1) := by decide +kernel
theorem dX8_init_0 : decode cX8_init 0 = .ok (.aload_n 0, 1) := by decide +kernel
theorem dX8_init_1 : decode cX8_init 1 = .ok (.invokespecial 1, 3) := by decide +kernel
theorem dX8_init_4 : decode cX8_init 4 = .ok (.aload_n 0, 1) := by decide +kernel
theorem dX8_init_5 : decode cX8_init 5 = .ok (.iconst 3, 1) := by decide +kernel
theorem dX8_init_6 : decode cX8_init 6 = .ok (.newarray .int, 2) := by decide +kernel
theorem dX8_init_8 : decode cX8_init 8 = .ok (.putfield 7, 3) := by decide +kernel
theorem dX8_init_11 : decode cX8_init 11 = .ok (.aload_n 0, 1) := by decide +kernel
theorem dX8_init_12 : decode cX8_init 12 = .ok (.sipush 141, 3) := by decide +kernel
theorem dX8_init_15 : decode cX8_init 15 = .ok (.newarray .int, 2) := by decide +kernel
theorem dX8_init_17 : decode cX8_init 17 = .ok (.putfield 13, 3) := by decide +kernel
theorem dX8_init_20 : decode cX8_init 20 = .ok (.aload_n 0, 1) := by decide +kernel
theorem dX8_init_21 : decode cX8_init 21 = .ok (.bipush 7, 2) := by decide +kernel
theorem dX8_init_23 : decode cX8_init 23 = .ok (.newarray .int, 2) := by decide +kernel
theorem dX8_init_25 : decode cX8_init 25 = .ok (.putfield 16, 3) := by decide +kernel
theorem dX8_init_28 : decode cX8_init 28 = .ok (.aload_n 0, 1) := by decide +kernel
theorem dX8_init_29 : decode cX8_init 29 = .ok (.bipush 7, 2) := by decide +kernel
theorem dX8_init_31 : decode cX8_init 31 = .ok (.newarray .int, 2) := by decide +kernel
theorem dX8_init_33 : decode cX8_init 33 = .ok (.putfield 19, 3) := by decide +kernel
theorem dX8_init_36 : decode cX8_init 36 = .ok (.aload_n 0, 1) := by decide +kernel
theorem dX8_init_37 : decode cX8_init 37 = .ok (.bipush 7, 2) := by decide +kernel
theorem dX8_init_39 : decode cX8_init 39 = .ok (.newarray .int, 2) := by decide +kernel
theorem dX8_init_41 : decode cX8_init 41 = .ok (.putfield 22, 3) := by decide +kernel
theorem dX8_init_44 : decode cX8_init 44 = .ok (.aload_n 0, 1) := by decide +kernel
theorem dX8_init_45 : decode cX8_init 45 = .ok (.bipush 13, 2) := by decide +kernel
theorem dX8_init_47 : decode cX8_init 47 = .ok (.newarray .int, 2) := by decide +kernel
theorem dX8_init_49 : decode cX8_init 49 = .ok (.putfield 25, 3) := by decide +kernel
theorem dX8_init_52 : decode cX8_init 52 = .ok (.aload_n 0, 1) := by decide +kernel
theorem dX8_init_53 : decode cX8_init 53 = .ok (.bipush 13, 2) := by decide +kernel
theorem dX8_init_55 : decode cX8_init 55 = .ok (.newarray .int, 2) := by decide +kernel
theorem dX8_init_57 : decode cX8_init 57 = .ok (.putfield 28, 3) := by decide +kernel
theorem dX8_init_60 : decode cX8_init 60 = .ok (.aload_n 0, 1) := by decide +kernel
theorem dX8_init_61 : decode cX8_init 61 = .ok (.bipush 13, 2) := by decide +kernel
theorem dX8_init_63 : decode cX8_init 63 = .ok (.newarray .int, 2) := by decide +kernel
theorem dX8_init_65 : decode cX8_init 65 = .ok (.putfield 31, 3) := by decide +kernel
theorem dX8_init_68 : decode cX8_init 68 = .ok (.aload_n 0, 1) := by decide +kernel
theorem dX8_init_69 : decode cX8_init 69 = .ok (.bipush 24, 2) := by decide +kernel
theorem dX8_init_71 : decode cX8_init 71 = .ok (.newarray .int, 2) := by decide +kernel
theorem dX8_init_73 : decode cX8_init 73 = .ok (.putfield 34, 3) := by decide +kernel
theorem dX8_init_76 : decode cX8_init 76 = .ok (.aload_n 0, 1) := by decide +kernel
theorem dX8_init_77 : decode cX8_init 77 = .ok (.bipush 8, 2) := by decide +kernel
theorem dX8_init_79 : decode cX8_init 79 = .ok (.newarray .int, 2) := by decide +kernel
theorem dX8_init_81 : decode cX8_init 81 = .ok (.putfield 37, 3) := by decide +kernel
theorem dX8_init_84 : decode cX8_init 84 = .ok (.aload_n 0, 1) := by decide +kernel
theorem dX8_init_85 : decode cX8_init 85 = .ok (.bipush 8, 2) := by decide +kernel
theorem dX8_init_87 : decode cX8_init 87 = .ok (.newarray .int, 2) := by decide +kernel
theorem dX8_init_89 : decode cX8_init 89 = .ok (.putfield 40, 3) := by decide +kernel
theorem dX8_init_92 : decode cX8_init 92 = .ok (.aload_n 0, 1) := by decide +kernel
theorem dX8_init_93 : decode cX8_init 93 = .ok (.bipush 8, 2) := by decide +kernel
theorem dX8_init_95 : decode cX8_init 95 = .ok (.newarray .int, 2) := by decide +kernel
theorem dX8_init_97 : decode cX8_init 97 = .ok (.putfield 43, 3) := by decide +kernel
theorem dX8_init_100 : decode cX8_init 100 = .ok (.aload_n 0, 1) := by decide +kernel
theorem dX8_init_101 : decode cX8_init 101 = .ok (.bipush 24, 2) := by decide +kernel
theorem dX8_init_103 : decode cX8_init 103 = .ok (.newarray .int, 2) := by decide +kernel
theorem dX8_init_105 : decode cX8_init 105 = .ok (.putfield 46, 3) := by decide +kernel
theorem dX8_init_108 : decode cX8_init 108 = .ok (.aload_n 0, 1) := by decide +kernel
theorem dX8_init_109 : decode cX8_init 109 = .ok (.bipush 6, 2) := by decide +kernel
theorem dX8_init_111 : decode cX8_init 111 = .ok (.newarray .int, 2) := by decide +kernel
theorem dX8_init_113 : decode cX8_init 113 = .ok (.putfield 49, 3) := by decide +kernel
theorem dX8_init_116 : decode cX8_init 116 = .ok (.aload_n 0, 1) := by decide +kernel
theorem dX8_init_117 : decode cX8_init 117 = .ok (.bipush 6, 2) := by decide +kernel
theorem dX8_init_119 : decode cX8_init 119 = .ok (.newarray .int, 2) := by decide +kernel
theorem dX8_init_121 : decode cX8_init 121 = .ok (.putfield 52, 3) := by decide +kernel
theorem dX8_init_124 : decode cX8_init 124 = .ok (.aload_n 0, 1) := by decide +kernel
theorem dX8_init_125 : decode cX8_init 125 = .ok (.bipush 6, 2) := by decide +kernel
theorem dX8_init_127 : decode cX8_init 127 = .ok (.newarray .int, 2) := by decide +kernel
theorem dX8_init_129 : decode cX8_init 129 = .ok (.putfield 55, 3) := by decide +kernel
theorem dX8_init_132 : decode cX8_init 132 = .ok (.aload_n 0, 1) := by decide +kernel
theorem dX8_init_133 : decode cX8_init 133 = .ok (.iconst 2, 1) := by decide +kernel
theorem dX8_init_134 : decode cX8_init 134 = .ok (.newarray .int, 2) := by decide +kernel
theorem dX8_init_136 : decode cX8_init 136 = .ok (.putfield 58, 3) := by decide +kernel
theorem dX8_init_139 : decode cX8_init 139 = .ok (.aload_n 0, 1) := by decide +kernel
theorem dX8_init_140 : decode cX8_init 140 = .ok (.iconst 2, 1) := by decide +kernel
theorem dX8_init_141 : decode cX8_init 141 = .ok (.newarray .int, 2) := by decide +kernel
theorem dX8_init_143 : decode cX8_init 143 = .ok (.putfield 61, 3) := by decide +kernel
theorem dX8_init_146 : decode cX8_init 146 = .ok (.aload_n 0, 1) := by decide +kernel
theorem dX8_init_147 : decode cX8_init 147 = .ok (.bipush 48, 2) := by decide +kernel
theorem dX8_init_149 : decode cX8_init 149 = .ok (.newarray .int, 2) := by decide +kernel
theorem dX8_init_151 : decode cX8_init 151 = .ok (.putfield 64, 3) := by decide +kernel
theorem dX8_init_154 : decode cX8_init 154 = .ok (.aload_n 0, 1) := by decide +kernel
theorem dX8_init_155 : decode cX8_init 155 = .ok (.bipush 24, 2) := by decide +kernel
theorem dX8_init_157 : decode cX8_init 157 = .ok (.newarray .int, 2) := by decide +kernel
theorem dX8_init_159 : decode cX8_init 159 = .ok (.putfield 67, 3) := by decide +kernel
theorem dX8_init_162 : decode cX8_init 162 = .ok (.aload_n 0, 1) := by decide +kernel
theorem dX8_init_163 : decode cX8_init 163 = .ok (.bipush 24, 2) := by decide +kernel
theorem dX8_init_165 : decode cX8_init 165 = .ok (.newarray .int, 2) := by decide +kernel
theorem dX8_init_167 : decode cX8_init 167 = .ok (.putfield 70, 3) := by decide +kernel
theorem dX8_init_170 : decode cX8_init 170 = .ok (.aload_n 0, 1) := by decide +kernel
theorem dX8_init_171 : decode cX8_init 171 = .ok (.sipush 144, 3) := by decide +kernel
theorem dX8_init_174 : decode cX8_init 174 = .ok (.newarray .int, 2) := by decide +kernel
theorem dX8_init_176 : decode cX8_init 176 = .ok (.putfield 73, 3) := by decide +kernel
theorem dX8_init_179 : decode cX8_init 179 = .ok (.aload_n 0, 1) := by decide +kernel
theorem dX8_init_180 : decode cX8_init 180 = .ok (.sipush 144, 3) := by decide +kernel
theorem dX8_init_183 : decode cX8_init 183 = .ok (.newarray .int, 2) := by decide +kernel
theorem dX8_init_185 : decode cX8_init 185 = .ok (.putfield 76, 3) := by decide +kernel
theorem dX8_init_188 : decode cX8_init 188 = .ok (.aload_n 0, 1) := by decide +kernel
theorem dX8_init_189 : decode cX8_init 189 = .ok (.iconst 2, 1) := by decide +kernel
theorem dX8_init_190 : decode cX8_init 190 = .ok (.newarray .int, 2) := by decide +kernel
theorem dX8_init_192 : decode cX8_init 192 = .ok (.putfield 79, 3) := by decide +kernel
theorem dX8_init_195 : decode cX8_init 195 = .ok (.aload_n 0, 1) := by decide +kernel
theorem dX8_init_196 : decode cX8_init 196 = .ok (.bipush 8, 2) := by decide +kernel
theorem dX8_init_198 : decode cX8_init 198 = .ok (.newarray .int, 2) := by decide +kernel
theorem dX8_init_200 : decode cX8_init 200 = .ok (.putfield 82, 3) := by decide +kernel
theorem dX8_init_203 : decode cX8_init 203 = .ok (.aload_n 0, 1) := by decide +kernel
theorem dX8_init_204 : decode cX8_init 204 = .ok (.bipush 8, 2) := by decide +kernel
theorem dX8_init_206 : decode cX8_init 206 = .ok (.newarray .int, 2) := by decide +kernel
theorem dX8_init_208 : decode cX8_init 208 = .ok (.putfield 85, 3) := by decide +kernel
theorem dX8_init_211 : decode cX8_init 211 = .ok (.aload_n 0, 1) := by decide +kernel
theorem dX8_init_212 : decode cX8_init 212 = .ok (.bipush 8, 2) := by decide +kernel
theorem dX8_init_214 : decode cX8_init 214 = .ok (.newarray .int, 2) := by decide +kernel
theorem dX8_init_216 : decode cX8_init 216 = .ok (.putfield 88, 3) := by decide +kernel
theorem dX8_init_219 : decode cX8_init 219 = .ok (.aload_n 0, 1) := by decide +kernel
theorem dX8_init_220 : decode cX8_init 220 = .ok (.sipush 240, 3) := by decide +kernel
theorem dX8_init_223 : decode cX8_init 223 = .ok (.newarray .int, 2) := by decide +kernel
theorem dX8_init_225 : decode cX8_init 225 = .ok (.putfield 91, 3) := by decide +kernel
theorem dX8_init_228 : decode cX8_init 228 = .ok (.aload_n 0, 1) := by decide +kernel
theorem dX8_init_229 : decode cX8_init 229 = .ok (.iconst 4, 1) := by decide +kernel
theorem dX8_init_230 : decode cX8_init 230 = .ok (.newarray .boolean, 2) := by decide +kernel
theorem dX8_init_232 : decode cX8_init 232 = .ok (.putfield 94, 3) := by decide +kernel
theorem dX8_init_235 : decode cX8_init 235 = .ok (.aload_n 0, 1) := by decide +kernel
theorem dX8_init_236 : decode cX8_init 236 = .ok (.iconst 4, 1) := by decide +kernel
theorem dX8_init_237 : decode cX8_init 237 = .ok (.newarray .int, 2) := by decide +kernel
theorem dX8_init_239 : decode cX8_init 239 = .ok (.putfield 98, 3) := by decide +kernel
theorem dX8_init_242 : decode cX8_init 242 = .ok (.aload_n 0, 1) := by decide +kernel
theorem dX8_init_243 : decode cX8_init 243 = .ok (.iconst 4, 1) := by decide +kernel
theorem dX8_init_244 : decode cX8_init 244 = .ok (.newarray .int, 2) := by decide +kernel
theorem dX8_init_246 : decode cX8_init 246 = .ok (.putfield 101, 3) := by decide +kernel
theorem dX8_init_249 : decode cX8_init 249 = .ok (.aload_n 0, 1) := by decide +kernel
theorem dX8_init_250 : decode cX8_init 250 = .ok (.sipush 240, 3) := by decide +kernel
theorem dX8_init_253 : decode cX8_init 253 = .ok (.newarray .int, 2) := by decide +kernel
theorem dX8_init_255 : decode cX8_init 255 = .ok (.putfield 104, 3) := by decide +kernel
theorem dX8_init_258 : decode cX8_init 258 = .ok (.aload_n 0, 1) := by decide +kernel
theorem dX8_init_259 : decode cX8_init 259 = .ok (.bipush 60, 2) := by decide +kernel
theorem dX8_init_261 : decode cX8_init 261 = .ok (.newarray .int, 2) := by decide +kernel
theorem dX8_init_263 : decode cX8_init 263 = .ok (.putfield 107, 3) := by decide +kernel
theorem dX8_init_266 : decode cX8_init 266 = .ok (.return_, 1) := by decide +kernel
theorem dX8_in_0 : decode cX8_in 0 = .ok (.iload_n 0, 1) := by decide +kernel
theorem dX8_in_1 : decode cX8_in 1 = .ok (.iload_n 1, 1) := by decide +kernel
theorem dX8_in_2 : decode cX8_in 2 = .ok (.if_icmp .lt 12, 3) := by decide +kernel
theorem dX8_in_5 : decode cX8_in 5 = .ok (.iload_n 0, 1) := by decide +kernel
theorem dX8_in_6 : decode cX8_in 6 = .ok (.iload_n 2, 1) := by decide +kernel
theorem dX8_in_7 : decode cX8_in 7 = .ok (.if_icmp .gt 7, 3) := by decide +kernel
theorem dX8_in_10 : decode cX8_in 10 = .ok (.iconst 1, 1) := by decide +kernel
theorem dX8_in_11 : decode cX8_in 11 = .ok (.goto 4, 3) := by decide +kernel
theorem dX8_in_14 : decode cX8_in 14 = .ok (.iconst 0, 1) := by decide +kernel
theorem dX8_in_15 : decode cX8_in 15 = .ok (.ireturn, 1) := by decide +kernel
theorem dX8_isIn_0 : decode cX8_isIn 0 = .ok (.iload_n 0, 1) := by decide +kernel
theorem dX8_isIn_1 : decode cX8_isIn 1 = .ok (.iload_n 1, 1) := by decide +kernel
theorem dX8_isIn_2 : decode cX8_isIn 2 = .ok (.ishr, 1) := by decide +kernel
theorem dX8_isIn_3 : decode cX8_isIn 3 = .ok (.iconst 1, 1) := by decide +kernel
theorem dX8_isIn_4 : decode cX8_isIn 4 = .ok (.iand, 1) := by decide +kernel
theorem dX8_isIn_5 : decode cX8_isIn 5 = .ok (.iconst 1, 1) := by decide +kernel
theorem dX8_isIn_6 : decode cX8_isIn 6 = .ok (.if_icmp .ne 7, 3) := by decide +kernel
theorem dX8_isIn_9 : decode cX8_isIn 9 = .ok (.iconst 1, 1) := by decide +kernel
theorem dX8_isIn_10 : decode cX8_isIn 10 = .ok (.goto 4, 3) := by decide +kernel
theorem dX8_isIn_13 : decode cX8_isIn 13 = .ok (.iconst 0, 1) := by decide +kernel
theorem dX8_isIn_14 : decode cX8_isIn 14 = .ok (.ireturn, 1) := by decide +kernel
theorem dX8_no_0 : decode cX8_no 0 = .ok (.ldc2_w 110, 3) := by decide +kernel
theorem dX8_no_3 : decode cX8_no 3 = .ok (.iload_n 0, 1) := by decide +kernel
theorem dX8_no_4 : decode cX8_no 4 = .ok (.i2l, 1) := by decide +kernel
theorem dX8_no_5 : decode cX8_no 5 = .ok (.lsub, 1) := by decide +kernel
theorem dX8_no_6 : decode cX8_no 6 = .ok (.lreturn, 1) := by decide +kernel
theorem dX8_lowest_0 : decode cX8_lowest 0 = .ok (.lload_n 0, 1) := by decide +kernel
theorem dX8_lowest_1 : decode cX8_lowest 1 = .ok (.lstore 5, 2) := by decide +kernel
theorem dX8_lowest_3 : decode cX8_lowest 3 = .ok (.lload_n 2, 1) := by decide +kernel
theorem dX8_lowest_4 : decode cX8_lowest 4 = .ok (.lstore 7, 2) := by decide +kernel
theorem dX8_lowest_6 : decode cX8_lowest 6 = .ok (.lload 7, 2) := by decide +kernel
theorem dX8_lowest_8 : decode cX8_lowest 8 = .ok (.lconst 0, 1) := by decide +kernel
theorem dX8_lowest_9 : decode cX8_lowest 9 = .ok (.lcmp, 1) := by decide +kernel
theorem dX8_lowest_10 : decode cX8_lowest 10 = .ok (.ifCond .eq 21, 3) := by decide +kernel
theorem dX8_lowest_13 : decode cX8_lowest 13 = .ok (.lload 5, 2) := by decide +kernel
theorem dX8_lowest_15 : decode cX8_lowest 15 = .ok (.lload 7, 2) := by decide +kernel
theorem dX8_lowest_17 : decode cX8_lowest 17 = .ok (.lrem, 1) := by decide +kernel
theorem dX8_lowest_18 : decode cX8_lowest 18 = .ok (.lstore 9, 2) := by decide +kernel
theorem dX8_lowest_20 : decode cX8_lowest 20 = .ok (.lload 7, 2) := by decide +kernel
theorem dX8_lowest_22 : decode cX8_lowest 22 = .ok (.lstore 5, 2) := by decide +kernel
theorem dX8_lowest_24 : decode cX8_lowest 24 = .ok (.lload 9, 2) := by decide +kernel
theorem dX8_lowest_26 : decode cX8_lowest 26 = .ok (.lstore 7, 2) := by decide +kernel
theorem dX8_lowest_28 : decode cX8_lowest 28 = .ok (.goto (-22), 3) := by decide +kernel
theorem dX8_lowest_31 : decode cX8_lowest 31 = .ok (.iload 4, 2) := by decide +kernel
theorem dX8_lowest_33 : decode cX8_lowest 33 = .ok (.ifCond .ne 10, 3) := by decide +kernel
theorem dX8_lowest_36 : decode cX8_lowest 36 = .ok (.lload_n 0, 1) := by decide +kernel
theorem dX8_lowest_37 : decode cX8_lowest 37 = .ok (.lload 5, 2) := by decide +kernel
theorem dX8_lowest_39 : decode cX8_lowest 39 = .ok (.ldiv, 1) := by decide +kernel
theorem dX8_lowest_40 : decode cX8_lowest 40 = .ok (.goto 7, 3) := by decide +kernel
theorem dX8_lowest_43 : decode cX8_lowest 43 = .ok (.lload_n 2, 1) := by decide +kernel
theorem dX8_lowest_44 : decode cX8_lowest 44 = .ok (.lload 5, 2) := by decide +kernel
theorem dX8_lowest_46 : decode cX8_lowest 46 = .ok (.ldiv, 1) := by decide +kernel
theorem dX8_lowest_47 : decode cX8_lowest 47 = .ok (.lreturn, 1) := by decide +kernel
theorem dX8_isText_0 : decode cX8_isText 0 = .ok (.iload_n 0, 1) := by decide +kernel
theorem dX8_isText_1 : decode cX8_isText 1 = .ok (.iconst 0, 1) := by decide +kernel
theorem dX8_isText_2 : decode cX8_isText 2 = .ok (.iconst 2, 1) := by decide +kernel
theorem dX8_isText_3 : decode cX8_isText 3 = .ok (.invokestatic 112, 3) := by decide +kernel
theorem dX8_isText_6 : decode cX8_isText 6 = .ok (.ireturn, 1) := by decide +kernel
theorem dX8_isMoment_0 : decode cX8_isMoment 0 = .ok (.iload_n 0, 1) := by decide +kernel
theorem dX8_isMoment_1 : decode cX8_isMoment 1 = .ok (.iconst 0, 1) := by decide +kernel
theorem dX8_isMoment_2 : decode cX8_isMoment 2 = .ok (.bipush 23, 2) := by decide +kernel
theorem dX8_isMoment_4 : decode cX8_isMoment 4 = .ok (.invokestatic 112, 3) := by decide +kernel
theorem dX8_isMoment_7 : decode cX8_isMoment 7 = .ok (.ireturn, 1) := by decide +kernel
theorem dX8_isTwo_0 : decode cX8_isTwo 0 = .ok (.iload_n 0, 1) := by decide +kernel
theorem dX8_isTwo_1 : decode cX8_isTwo 1 = .ok (.iconst 0, 1) := by decide +kernel
theorem dX8_isTwo_2 : decode cX8_isTwo 2 = .ok (.iconst 1, 1) := by decide +kernel
theorem dX8_isTwo_3 : decode cX8_isTwo 3 = .ok (.invokestatic 112, 3) := by decide +kernel
theorem dX8_isTwo_6 : decode cX8_isTwo 6 = .ok (.ireturn, 1) := by decide +kernel
theorem dX8_isThree_0 : decode cX8_isThree 0 = .ok (.iload_n 0, 1) := by decide +kernel
theorem dX8_isThree_1 : decode cX8_isThree 1 = .ok (.iconst 0, 1) := by decide +kernel
theorem dX8_isThree_2 : decode cX8_isThree 2 = .ok (.iconst 2, 1) := by decide +kernel
theorem dX8_isThree_3 : decode cX8_isThree 3 = .ok (.invokestatic 112, 3) := by decide +kernel
theorem dX8_isThree_6 : decode cX8_isThree 6 = .ok (.ireturn, 1) := by decide +kernel
theorem dX8_roomOf_0 : decode cX8_roomOf 0 = .ok (.iload_n 0, 1) := by decide +kernel
theorem dX8_roomOf_1 : decode cX8_roomOf 1 = .ok (.ifCond .ne 8, 3) := by decide +kernel
theorem dX8_roomOf_4 : decode cX8_roomOf 4 = .ok (.bipush 23, 2) := by decide +kernel
theorem dX8_roomOf_6 : decode cX8_roomOf 6 = .ok (.goto 15, 3) := by decide +kernel
theorem dX8_roomOf_9 : decode cX8_roomOf 9 = .ok (.iload_n 0, 1) := by decide +kernel
theorem dX8_roomOf_10 : decode cX8_roomOf 10 = .ok (.iconst 1, 1) := by decide +kernel
theorem dX8_roomOf_11 : decode cX8_roomOf 11 = .ok (.if_icmp .ne 8, 3) := by decide +kernel
theorem dX8_roomOf_14 : decode cX8_roomOf 14 = .ok (.bipush 47, 2) := by decide +kernel
theorem dX8_roomOf_16 : decode cX8_roomOf 16 = .ok (.goto 5, 3) := by decide +kernel
theorem dX8_roomOf_19 : decode cX8_roomOf 19 = .ok (.bipush 24, 2) := by decide +kernel
theorem dX8_roomOf_21 : decode cX8_roomOf 21 = .ok (.ireturn, 1) := by decide +kernel
theorem dX8_type_0 : decode cX8_type 0 = .ok (.iload_n 1, 1) := by decide +kernel
theorem dX8_type_1 : decode cX8_type 1 = .ok (.invokestatic 116, 3) := by decide +kernel
theorem dX8_type_4 : decode cX8_type 4 = .ok (.ifCond .eq 14, 3) := by decide +kernel
theorem dX8_type_7 : decode cX8_type 7 = .ok (.iload_n 2, 1) := by decide +kernel
theorem dX8_type_8 : decode cX8_type 8 = .ok (.iconst 0, 1) := by decide +kernel
theorem dX8_type_9 : decode cX8_type 9 = .ok (.sipush 255, 3) := by decide +kernel
theorem dX8_type_12 : decode cX8_type 12 = .ok (.invokestatic 112, 3) := by decide +kernel
theorem dX8_type_15 : decode cX8_type 15 = .ok (.ifCond .ne 6, 3) := by decide +kernel
theorem dX8_type_18 : decode cX8_type 18 = .ok (.bipush (-2), 2) := by decide +kernel
theorem dX8_type_20 : decode cX8_type 20 = .ok (.ireturn, 1) := by decide +kernel
theorem dX8_type_21 : decode cX8_type 21 = .ok (.aload_n 0, 1) := by decide +kernel
theorem dX8_type_22 : decode cX8_type 22 = .ok (.getfield 7, 3) := by decide +kernel
theorem dX8_type_25 : decode cX8_type 25 = .ok (.iload_n 1, 1) := by decide +kernel
theorem dX8_type_26 : decode cX8_type 26 = .ok (.iaload, 1) := by decide +kernel
theorem dX8_type_27 : decode cX8_type 27 = .ok (.iload_n 1, 1) := by decide +kernel
theorem dX8_type_28 : decode cX8_type 28 = .ok (.invokestatic 120, 3) := by decide +kernel
theorem dX8_type_31 : decode cX8_type 31 = .ok (.if_icmp .ne 6, 3) := by decide +kernel
theorem dX8_type_34 : decode cX8_type 34 = .ok (.bipush (-4), 2) := by decide +kernel
theorem dX8_type_36 : decode cX8_type 36 = .ok (.ireturn, 1) := by decide +kernel
theorem dX8_type_37 : decode cX8_type 37 = .ok (.aload_n 0, 1) := by decide +kernel
theorem dX8_type_38 : decode cX8_type 38 = .ok (.getfield 13, 3) := by decide +kernel
theorem dX8_type_41 : decode cX8_type 41 = .ok (.bipush 47, 2) := by decide +kernel
theorem dX8_type_43 : decode cX8_type 43 = .ok (.iload_n 1, 1) := by decide +kernel
theorem dX8_type_44 : decode cX8_type 44 = .ok (.imul, 1) := by decide +kernel
theorem dX8_type_45 : decode cX8_type 45 = .ok (.aload_n 0, 1) := by decide +kernel
theorem dX8_type_46 : decode cX8_type 46 = .ok (.getfield 7, 3) := by decide +kernel
theorem dX8_type_49 : decode cX8_type 49 = .ok (.iload_n 1, 1) := by decide +kernel
theorem dX8_type_50 : decode cX8_type 50 = .ok (.iaload, 1) := by decide +kernel
theorem dX8_type_51 : decode cX8_type 51 = .ok (.iadd, 1) := by decide +kernel
theorem dX8_type_52 : decode cX8_type 52 = .ok (.iload_n 2, 1) := by decide +kernel
theorem dX8_type_53 : decode cX8_type 53 = .ok (.iastore, 1) := by decide +kernel
theorem dX8_type_54 : decode cX8_type 54 = .ok (.aload_n 0, 1) := by decide +kernel
theorem dX8_type_55 : decode cX8_type 55 = .ok (.getfield 7, 3) := by decide +kernel
theorem dX8_type_58 : decode cX8_type 58 = .ok (.iload_n 1, 1) := by decide +kernel
theorem dX8_type_59 : decode cX8_type 59 = .ok (.dup2, 1) := by decide +kernel
theorem dX8_type_60 : decode cX8_type 60 = .ok (.iaload, 1) := by decide +kernel
theorem dX8_type_61 : decode cX8_type 61 = .ok (.iconst 1, 1) := by decide +kernel
theorem dX8_type_62 : decode cX8_type 62 = .ok (.iadd, 1) := by decide +kernel
theorem dX8_type_63 : decode cX8_type 63 = .ok (.iastore, 1) := by decide +kernel
theorem dX8_type_64 : decode cX8_type 64 = .ok (.aload_n 0, 1) := by decide +kernel
theorem dX8_type_65 : decode cX8_type 65 = .ok (.getfield 7, 3) := by decide +kernel
theorem dX8_type_68 : decode cX8_type 68 = .ok (.iload_n 1, 1) := by decide +kernel
theorem dX8_type_69 : decode cX8_type 69 = .ok (.iaload, 1) := by decide +kernel
theorem dX8_type_70 : decode cX8_type 70 = .ok (.ireturn, 1) := by decide +kernel
theorem dX8_wipe_0 : decode cX8_wipe 0 = .ok (.iload_n 1, 1) := by decide +kernel
theorem dX8_wipe_1 : decode cX8_wipe 1 = .ok (.invokestatic 116, 3) := by decide +kernel
theorem dX8_wipe_4 : decode cX8_wipe 4 = .ok (.ifCond .ne 6, 3) := by decide +kernel
theorem dX8_wipe_7 : decode cX8_wipe 7 = .ok (.bipush (-2), 2) := by decide +kernel
theorem dX8_wipe_9 : decode cX8_wipe 9 = .ok (.ireturn, 1) := by decide +kernel
theorem dX8_wipe_10 : decode cX8_wipe 10 = .ok (.aload_n 0, 1) := by decide +kernel
theorem dX8_wipe_11 : decode cX8_wipe 11 = .ok (.getfield 7, 3) := by decide +kernel
theorem dX8_wipe_14 : decode cX8_wipe 14 = .ok (.iload_n 1, 1) := by decide +kernel
theorem dX8_wipe_15 : decode cX8_wipe 15 = .ok (.iaload, 1) := by decide +kernel
theorem dX8_wipe_16 : decode cX8_wipe 16 = .ok (.istore_n 2, 1) := by decide +kernel
theorem dX8_wipe_17 : decode cX8_wipe 17 = .ok (.aload_n 0, 1) := by decide +kernel
theorem dX8_wipe_18 : decode cX8_wipe 18 = .ok (.getfield 7, 3) := by decide +kernel
theorem dX8_wipe_21 : decode cX8_wipe 21 = .ok (.iload_n 1, 1) := by decide +kernel
theorem dX8_wipe_22 : decode cX8_wipe 22 = .ok (.iconst 0, 1) := by decide +kernel
theorem dX8_wipe_23 : decode cX8_wipe 23 = .ok (.iastore, 1) := by decide +kernel
theorem dX8_wipe_24 : decode cX8_wipe 24 = .ok (.iload_n 2, 1) := by decide +kernel
theorem dX8_wipe_25 : decode cX8_wipe 25 = .ok (.ireturn, 1) := by decide +kernel
theorem dX8_undo_0 : decode cX8_undo 0 = .ok (.iload_n 1, 1) := by decide +kernel
theorem dX8_undo_1 : decode cX8_undo 1 = .ok (.invokestatic 116, 3) := by decide +kernel
theorem dX8_undo_4 : decode cX8_undo 4 = .ok (.ifCond .ne 6, 3) := by decide +kernel
theorem dX8_undo_7 : decode cX8_undo 7 = .ok (.bipush (-2), 2) := by decide +kernel
theorem dX8_undo_9 : decode cX8_undo 9 = .ok (.ireturn, 1) := by decide +kernel
theorem dX8_undo_10 : decode cX8_undo 10 = .ok (.aload_n 0, 1) := by decide +kernel
theorem dX8_undo_11 : decode cX8_undo 11 = .ok (.getfield 7, 3) := by decide +kernel
theorem dX8_undo_14 : decode cX8_undo 14 = .ok (.iload_n 1, 1) := by decide +kernel
theorem dX8_undo_15 : decode cX8_undo 15 = .ok (.iaload, 1) := by decide +kernel
theorem dX8_undo_16 : decode cX8_undo 16 = .ok (.ifCond .ne 6, 3) := by decide +kernel
theorem dX8_undo_19 : decode cX8_undo 19 = .ok (.bipush (-3), 2) := by decide +kernel
theorem dX8_undo_21 : decode cX8_undo 21 = .ok (.ireturn, 1) := by decide +kernel
theorem dX8_undo_22 : decode cX8_undo 22 = .ok (.aload_n 0, 1) := by decide +kernel
theorem dX8_undo_23 : decode cX8_undo 23 = .ok (.getfield 7, 3) := by decide +kernel
theorem dX8_undo_26 : decode cX8_undo 26 = .ok (.iload_n 1, 1) := by decide +kernel
theorem dX8_undo_27 : decode cX8_undo 27 = .ok (.dup2, 1) := by decide +kernel
theorem dX8_undo_28 : decode cX8_undo 28 = .ok (.iaload, 1) := by decide +kernel
theorem dX8_undo_29 : decode cX8_undo 29 = .ok (.iconst 1, 1) := by decide +kernel
theorem dX8_undo_30 : decode cX8_undo 30 = .ok (.isub, 1) := by decide +kernel
theorem dX8_undo_31 : decode cX8_undo 31 = .ok (.iastore, 1) := by decide +kernel
theorem dX8_undo_32 : decode cX8_undo 32 = .ok (.aload_n 0, 1) := by decide +kernel
theorem dX8_undo_33 : decode cX8_undo 33 = .ok (.getfield 7, 3) := by decide +kernel
theorem dX8_undo_36 : decode cX8_undo 36 = .ok (.iload_n 1, 1) := by decide +kernel
theorem dX8_undo_37 : decode cX8_undo 37 = .ok (.iaload, 1) := by decide +kernel
theorem dX8_undo_38 : decode cX8_undo 38 = .ok (.ireturn, 1) := by decide +kernel
theorem dX8_byteAt_0 : decode cX8_byteAt 0 = .ok (.iload_n 2, 1) := by decide +kernel
theorem dX8_byteAt_1 : decode cX8_byteAt 1 = .ok (.aload_n 0, 1) := by decide +kernel
theorem dX8_byteAt_2 : decode cX8_byteAt 2 = .ok (.getfield 7, 3) := by decide +kernel
theorem dX8_byteAt_5 : decode cX8_byteAt 5 = .ok (.iload_n 1, 1) := by decide +kernel
theorem dX8_byteAt_6 : decode cX8_byteAt 6 = .ok (.iaload, 1) := by decide +kernel
theorem dX8_byteAt_7 : decode cX8_byteAt 7 = .ok (.if_icmp .ge 17, 3) := by decide +kernel
theorem dX8_byteAt_10 : decode cX8_byteAt 10 = .ok (.aload_n 0, 1) := by decide +kernel
theorem dX8_byteAt_11 : decode cX8_byteAt 11 = .ok (.getfield 13, 3) := by decide +kernel
theorem dX8_byteAt_14 : decode cX8_byteAt 14 = .ok (.bipush 47, 2) := by decide +kernel
theorem dX8_byteAt_16 : decode cX8_byteAt 16 = .ok (.iload_n 1, 1) := by decide +kernel
theorem dX8_byteAt_17 : decode cX8_byteAt 17 = .ok (.imul, 1) := by decide +kernel
theorem dX8_byteAt_18 : decode cX8_byteAt 18 = .ok (.iload_n 2, 1) := by decide +kernel
theorem dX8_byteAt_19 : decode cX8_byteAt 19 = .ok (.iadd, 1) := by decide +kernel
theorem dX8_byteAt_20 : decode cX8_byteAt 20 = .ok (.iaload, 1) := by decide +kernel
theorem dX8_byteAt_21 : decode cX8_byteAt 21 = .ok (.goto 4, 3) := by decide +kernel
theorem dX8_byteAt_24 : decode cX8_byteAt 24 = .ok (.iconst (-1), 1) := by decide +kernel
theorem dX8_byteAt_25 : decode cX8_byteAt 25 = .ok (.ireturn, 1) := by decide +kernel
theorem dX8_isTaken_0 : decode cX8_isTaken 0 = .ok (.iconst 0, 1) := by decide +kernel
theorem dX8_isTaken_1 : decode cX8_isTaken 1 = .ok (.istore_n 3, 1) := by decide +kernel
theorem dX8_isTaken_2 : decode cX8_isTaken 2 = .ok (.iconst 0, 1) := by decide +kernel
theorem dX8_isTaken_3 : decode cX8_isTaken 3 = .ok (.istore 4, 2) := by decide +kernel
theorem dX8_isTaken_5 : decode cX8_isTaken 5 = .ok (.iload 4, 2) := by decide +kernel
theorem dX8_isTaken_7 : decode cX8_isTaken 7 = .ok (.iload_n 1, 1) := by decide +kernel
theorem dX8_isTaken_8 : decode cX8_isTaken 8 = .ok (.if_icmp .ge 30, 3) := by decide +kernel
theorem dX8_isTaken_11 : decode cX8_isTaken 11 = .ok (.iload_n 3, 1) := by decide +kernel
theorem dX8_isTaken_12 : decode cX8_isTaken 12 = .ok (.ifCond .ne 14, 3) := by decide +kernel
theorem dX8_isTaken_15 : decode cX8_isTaken 15 = .ok (.aload_n 0, 1) := by decide +kernel
theorem dX8_isTaken_16 : decode cX8_isTaken 16 = .ok (.getfield 16, 3) := by decide +kernel
theorem dX8_isTaken_19 : decode cX8_isTaken 19 = .ok (.iload 4, 2) := by decide +kernel
theorem dX8_isTaken_21 : decode cX8_isTaken 21 = .ok (.iaload, 1) := by decide +kernel
theorem dX8_isTaken_22 : decode cX8_isTaken 22 = .ok (.iload_n 2, 1) := by decide +kernel
theorem dX8_isTaken_23 : decode cX8_isTaken 23 = .ok (.if_icmp .ne 7, 3) := by decide +kernel
theorem dX8_isTaken_26 : decode cX8_isTaken 26 = .ok (.iconst 1, 1) := by decide +kernel
theorem dX8_isTaken_27 : decode cX8_isTaken 27 = .ok (.goto 4, 3) := by decide +kernel
theorem dX8_isTaken_30 : decode cX8_isTaken 30 = .ok (.iconst 0, 1) := by decide +kernel
theorem dX8_isTaken_31 : decode cX8_isTaken 31 = .ok (.istore_n 3, 1) := by decide +kernel
theorem dX8_isTaken_32 : decode cX8_isTaken 32 = .ok (.iinc 4 1, 3) := by decide +kernel
theorem dX8_isTaken_35 : decode cX8_isTaken 35 = .ok (.goto (-30), 3) := by decide +kernel
theorem dX8_isTaken_38 : decode cX8_isTaken 38 = .ok (.iload_n 3, 1) := by decide +kernel
theorem dX8_isTaken_39 : decode cX8_isTaken 39 = .ok (.ireturn, 1) := by decide +kernel
theorem dX8_readsCar_0 : decode cX8_readsCar 0 = .ok (.aload_n 0, 1) := by decide +kernel
theorem dX8_readsCar_1 : decode cX8_readsCar 1 = .ok (.iconst 0, 1) := by decide +kernel
theorem dX8_readsCar_2 : decode cX8_readsCar 2 = .ok (.iload_n 2, 1) := by decide +kernel
theorem dX8_readsCar_3 : decode cX8_readsCar 3 = .ok (.invokevirtual 124, 3) := by decide +kernel
theorem dX8_readsCar_6 : decode cX8_readsCar 6 = .ok (.bipush 97, 2) := by decide +kernel
theorem dX8_readsCar_8 : decode cX8_readsCar 8 = .ok (.isub, 1) := by decide +kernel
theorem dX8_readsCar_9 : decode cX8_readsCar 9 = .ok (.istore_n 3, 1) := by decide +kernel
theorem dX8_readsCar_10 : decode cX8_readsCar 10 = .ok (.aload_n 0, 1) := by decide +kernel
theorem dX8_readsCar_11 : decode cX8_readsCar 11 = .ok (.iconst 0, 1) := by decide +kernel
theorem dX8_readsCar_12 : decode cX8_readsCar 12 = .ok (.iload_n 2, 1) := by decide +kernel
theorem dX8_readsCar_13 : decode cX8_readsCar 13 = .ok (.iconst 1, 1) := by decide +kernel
theorem dX8_readsCar_14 : decode cX8_readsCar 14 = .ok (.iadd, 1) := by decide +kernel
theorem dX8_readsCar_15 : decode cX8_readsCar 15 = .ok (.invokevirtual 124, 3) := by decide +kernel
theorem dX8_readsCar_18 : decode cX8_readsCar 18 = .ok (.istore 4, 2) := by decide +kernel
theorem dX8_readsCar_20 : decode cX8_readsCar 20 = .ok (.iload 4, 2) := by decide +kernel
theorem dX8_readsCar_22 : decode cX8_readsCar 22 = .ok (.bipush 111, 2) := by decide +kernel
theorem dX8_readsCar_24 : decode cX8_readsCar 24 = .ok (.if_icmp .ne 7, 3) := by decide +kernel
theorem dX8_readsCar_27 : decode cX8_readsCar 27 = .ok (.iconst 0, 1) := by decide +kernel
theorem dX8_readsCar_28 : decode cX8_readsCar 28 = .ok (.goto 26, 3) := by decide +kernel
theorem dX8_readsCar_31 : decode cX8_readsCar 31 = .ok (.iload 4, 2) := by decide +kernel
theorem dX8_readsCar_33 : decode cX8_readsCar 33 = .ok (.bipush 115, 2) := by decide +kernel
theorem dX8_readsCar_35 : decode cX8_readsCar 35 = .ok (.if_icmp .ne 7, 3) := by decide +kernel
theorem dX8_readsCar_38 : decode cX8_readsCar 38 = .ok (.iconst 1, 1) := by decide +kernel
theorem dX8_readsCar_39 : decode cX8_readsCar 39 = .ok (.goto 15, 3) := by decide +kernel
theorem dX8_readsCar_42 : decode cX8_readsCar 42 = .ok (.iload 4, 2) := by decide +kernel
theorem dX8_readsCar_44 : decode cX8_readsCar 44 = .ok (.bipush 103, 2) := by decide +kernel
theorem dX8_readsCar_46 : decode cX8_readsCar 46 = .ok (.if_icmp .ne 7, 3) := by decide +kernel
theorem dX8_readsCar_49 : decode cX8_readsCar 49 = .ok (.iconst 2, 1) := by decide +kernel
theorem dX8_readsCar_50 : decode cX8_readsCar 50 = .ok (.goto 4, 3) := by decide +kernel
theorem dX8_readsCar_53 : decode cX8_readsCar 53 = .ok (.iconst (-1), 1) := by decide +kernel
theorem dX8_readsCar_54 : decode cX8_readsCar 54 = .ok (.istore 5, 2) := by decide +kernel
theorem dX8_readsCar_56 : decode cX8_readsCar 56 = .ok (.aload_n 0, 1) := by decide +kernel
theorem dX8_readsCar_57 : decode cX8_readsCar 57 = .ok (.iconst 0, 1) := by decide +kernel
theorem dX8_readsCar_58 : decode cX8_readsCar 58 = .ok (.iload_n 2, 1) := by decide +kernel
theorem dX8_readsCar_59 : decode cX8_readsCar 59 = .ok (.iconst 2, 1) := by decide +kernel
theorem dX8_readsCar_60 : decode cX8_readsCar 60 = .ok (.iadd, 1) := by decide +kernel
theorem dX8_readsCar_61 : decode cX8_readsCar 61 = .ok (.invokevirtual 124, 3) := by decide +kernel
theorem dX8_readsCar_64 : decode cX8_readsCar 64 = .ok (.bipush 48, 2) := by decide +kernel
theorem dX8_readsCar_66 : decode cX8_readsCar 66 = .ok (.isub, 1) := by decide +kernel
theorem dX8_readsCar_67 : decode cX8_readsCar 67 = .ok (.istore 6, 2) := by decide +kernel
theorem dX8_readsCar_69 : decode cX8_readsCar 69 = .ok (.iload_n 1, 1) := by decide +kernel
theorem dX8_readsCar_70 : decode cX8_readsCar 70 = .ok (.bipush 6, 2) := by decide +kernel
theorem dX8_readsCar_72 : decode cX8_readsCar 72 = .ok (.if_icmp .eq 22, 3) := by decide +kernel
theorem dX8_readsCar_75 : decode cX8_readsCar 75 = .ok (.iload_n 3, 1) := by decide +kernel
theorem dX8_readsCar_76 : decode cX8_readsCar 76 = .ok (.iconst 0, 1) := by decide +kernel
theorem dX8_readsCar_77 : decode cX8_readsCar 77 = .ok (.bipush 23, 2) := by decide +kernel
theorem dX8_readsCar_79 : decode cX8_readsCar 79 = .ok (.invokestatic 112, 3) := by decide +kernel
theorem dX8_readsCar_82 : decode cX8_readsCar 82 = .ok (.ifCond .eq 12, 3) := by decide +kernel
theorem dX8_readsCar_85 : decode cX8_readsCar 85 = .ok (.aload_n 0, 1) := by decide +kernel
theorem dX8_readsCar_86 : decode cX8_readsCar 86 = .ok (.iload_n 1, 1) := by decide +kernel
theorem dX8_readsCar_87 : decode cX8_readsCar 87 = .ok (.iload_n 3, 1) := by decide +kernel
theorem dX8_readsCar_88 : decode cX8_readsCar 88 = .ok (.invokevirtual 128, 3) := by decide +kernel
theorem dX8_readsCar_91 : decode cX8_readsCar 91 = .ok (.ifCond .eq 5, 3) := by decide +kernel
theorem dX8_readsCar_94 : decode cX8_readsCar 94 = .ok (.iconst 0, 1) := by decide +kernel
theorem dX8_readsCar_95 : decode cX8_readsCar 95 = .ok (.ireturn, 1) := by decide +kernel
theorem dX8_readsCar_96 : decode cX8_readsCar 96 = .ok (.iload 5, 2) := by decide +kernel
theorem dX8_readsCar_98 : decode cX8_readsCar 98 = .ok (.iconst (-1), 1) := by decide +kernel
theorem dX8_readsCar_99 : decode cX8_readsCar 99 = .ok (.if_icmp .ne 5, 3) := by decide +kernel
theorem dX8_readsCar_102 : decode cX8_readsCar 102 = .ok (.iconst 1, 1) := by decide +kernel
theorem dX8_readsCar_103 : decode cX8_readsCar 103 = .ok (.ireturn, 1) := by decide +kernel
theorem dX8_readsCar_104 : decode cX8_readsCar 104 = .ok (.iload 6, 2) := by decide +kernel
theorem dX8_readsCar_106 : decode cX8_readsCar 106 = .ok (.iconst 1, 1) := by decide +kernel
theorem dX8_readsCar_107 : decode cX8_readsCar 107 = .ok (.bipush 9, 2) := by decide +kernel
theorem dX8_readsCar_109 : decode cX8_readsCar 109 = .ok (.invokestatic 112, 3) := by decide +kernel
theorem dX8_readsCar_112 : decode cX8_readsCar 112 = .ok (.ifCond .ne 5, 3) := by decide +kernel
theorem dX8_readsCar_115 : decode cX8_readsCar 115 = .ok (.iconst 2, 1) := by decide +kernel
theorem dX8_readsCar_116 : decode cX8_readsCar 116 = .ok (.ireturn, 1) := by decide +kernel
theorem dX8_readsCar_117 : decode cX8_readsCar 117 = .ok (.aload_n 0, 1) := by decide +kernel
theorem dX8_readsCar_118 : decode cX8_readsCar 118 = .ok (.getfield 16, 3) := by decide +kernel
theorem dX8_readsCar_121 : decode cX8_readsCar 121 = .ok (.iload_n 1, 1) := by decide +kernel
theorem dX8_readsCar_122 : decode cX8_readsCar 122 = .ok (.iload_n 3, 1) := by decide +kernel
theorem dX8_readsCar_123 : decode cX8_readsCar 123 = .ok (.iastore, 1) := by decide +kernel
theorem dX8_readsCar_124 : decode cX8_readsCar 124 = .ok (.aload_n 0, 1) := by decide +kernel
theorem dX8_readsCar_125 : decode cX8_readsCar 125 = .ok (.getfield 19, 3) := by decide +kernel
theorem dX8_readsCar_128 : decode cX8_readsCar 128 = .ok (.iload_n 1, 1) := by decide +kernel
theorem dX8_readsCar_129 : decode cX8_readsCar 129 = .ok (.iload 5, 2) := by decide +kernel
theorem dX8_readsCar_131 : decode cX8_readsCar 131 = .ok (.iastore, 1) := by decide +kernel
theorem dX8_readsCar_132 : decode cX8_readsCar 132 = .ok (.aload_n 0, 1) := by decide +kernel
theorem dX8_readsCar_133 : decode cX8_readsCar 133 = .ok (.getfield 22, 3) := by decide +kernel
theorem dX8_readsCar_136 : decode cX8_readsCar 136 = .ok (.iload_n 1, 1) := by decide +kernel
theorem dX8_readsCar_137 : decode cX8_readsCar 137 = .ok (.iload 6, 2) := by decide +kernel
theorem dX8_readsCar_139 : decode cX8_readsCar 139 = .ok (.iastore, 1) := by decide +kernel
theorem dX8_readsCar_140 : decode cX8_readsCar 140 = .ok (.iconst 3, 1) := by decide +kernel
theorem dX8_readsCar_141 : decode cX8_readsCar 141 = .ok (.ireturn, 1) := by decide +kernel
theorem dX8_readsComing_0 : decode cX8_readsComing 0 = .ok (.aload_n 0, 1) := by decide +kernel
theorem dX8_readsComing_1 : decode cX8_readsComing 1 = .ok (.iconst 1, 1) := by decide +kernel
theorem dX8_readsComing_2 : decode cX8_readsComing 2 = .ok (.iload_n 2, 1) := by decide +kernel
theorem dX8_readsComing_3 : decode cX8_readsComing 3 = .ok (.invokevirtual 124, 3) := by decide +kernel
theorem dX8_readsComing_6 : decode cX8_readsComing 6 = .ok (.bipush 97, 2) := by decide +kernel
theorem dX8_readsComing_8 : decode cX8_readsComing 8 = .ok (.isub, 1) := by decide +kernel
theorem dX8_readsComing_9 : decode cX8_readsComing 9 = .ok (.istore_n 3, 1) := by decide +kernel
theorem dX8_readsComing_10 : decode cX8_readsComing 10 = .ok (.aload_n 0, 1) := by decide +kernel
theorem dX8_readsComing_11 : decode cX8_readsComing 11 = .ok (.iconst 1, 1) := by decide +kernel
theorem dX8_readsComing_12 : decode cX8_readsComing 12 = .ok (.iload_n 2, 1) := by decide +kernel
theorem dX8_readsComing_13 : decode cX8_readsComing 13 = .ok (.iconst 1, 1) := by decide +kernel
theorem dX8_readsComing_14 : decode cX8_readsComing 14 = .ok (.iadd, 1) := by decide +kernel
theorem dX8_readsComing_15 : decode cX8_readsComing 15 = .ok (.invokevirtual 124, 3) := by decide +kernel
theorem dX8_readsComing_18 : decode cX8_readsComing 18 = .ok (.istore 4, 2) := by decide +kernel
theorem dX8_readsComing_20 : decode cX8_readsComing 20 = .ok (.aload_n 0, 1) := by decide +kernel
theorem dX8_readsComing_21 : decode cX8_readsComing 21 = .ok (.iconst 1, 1) := by decide +kernel
theorem dX8_readsComing_22 : decode cX8_readsComing 22 = .ok (.iload_n 2, 1) := by decide +kernel
theorem dX8_readsComing_23 : decode cX8_readsComing 23 = .ok (.iconst 2, 1) := by decide +kernel
theorem dX8_readsComing_24 : decode cX8_readsComing 24 = .ok (.iadd, 1) := by decide +kernel
theorem dX8_readsComing_25 : decode cX8_readsComing 25 = .ok (.invokevirtual 124, 3) := by decide +kernel
theorem dX8_readsComing_28 : decode cX8_readsComing 28 = .ok (.bipush 48, 2) := by decide +kernel
theorem dX8_readsComing_30 : decode cX8_readsComing 30 = .ok (.isub, 1) := by decide +kernel
theorem dX8_readsComing_31 : decode cX8_readsComing 31 = .ok (.istore 5, 2) := by decide +kernel
theorem dX8_readsComing_33 : decode cX8_readsComing 33 = .ok (.iload_n 1, 1) := by decide +kernel
theorem dX8_readsComing_34 : decode cX8_readsComing 34 = .ok (.bipush 12, 2) := by decide +kernel
theorem dX8_readsComing_36 : decode cX8_readsComing 36 = .ok (.if_icmp .eq 10, 3) := by decide +kernel
theorem dX8_readsComing_39 : decode cX8_readsComing 39 = .ok (.iload_n 3, 1) := by decide +kernel
theorem dX8_readsComing_40 : decode cX8_readsComing 40 = .ok (.invokestatic 132, 3) := by decide +kernel
theorem dX8_readsComing_43 : decode cX8_readsComing 43 = .ok (.ifCond .ne 5, 3) := by decide +kernel
theorem dX8_readsComing_46 : decode cX8_readsComing 46 = .ok (.iconst 0, 1) := by decide +kernel
theorem dX8_readsComing_47 : decode cX8_readsComing 47 = .ok (.ireturn, 1) := by decide +kernel
theorem dX8_readsComing_48 : decode cX8_readsComing 48 = .ok (.iload 4, 2) := by decide +kernel
theorem dX8_readsComing_50 : decode cX8_readsComing 50 = .ok (.bipush 98, 2) := by decide +kernel
theorem dX8_readsComing_52 : decode cX8_readsComing 52 = .ok (.if_icmp .eq 12, 3) := by decide +kernel
theorem dX8_readsComing_55 : decode cX8_readsComing 55 = .ok (.iload 4, 2) := by decide +kernel
theorem dX8_readsComing_57 : decode cX8_readsComing 57 = .ok (.bipush 116, 2) := by decide +kernel
theorem dX8_readsComing_59 : decode cX8_readsComing 59 = .ok (.if_icmp .eq 5, 3) := by decide +kernel
theorem dX8_readsComing_62 : decode cX8_readsComing 62 = .ok (.iconst 1, 1) := by decide +kernel
theorem dX8_readsComing_63 : decode cX8_readsComing 63 = .ok (.ireturn, 1) := by decide +kernel
theorem dX8_readsComing_64 : decode cX8_readsComing 64 = .ok (.iload 5, 2) := by decide +kernel
theorem dX8_readsComing_66 : decode cX8_readsComing 66 = .ok (.iconst 1, 1) := by decide +kernel
theorem dX8_readsComing_67 : decode cX8_readsComing 67 = .ok (.bipush 9, 2) := by decide +kernel
theorem dX8_readsComing_69 : decode cX8_readsComing 69 = .ok (.invokestatic 112, 3) := by decide +kernel
theorem dX8_readsComing_72 : decode cX8_readsComing 72 = .ok (.ifCond .ne 5, 3) := by decide +kernel
theorem dX8_readsComing_75 : decode cX8_readsComing 75 = .ok (.iconst 2, 1) := by decide +kernel
theorem dX8_readsComing_76 : decode cX8_readsComing 76 = .ok (.ireturn, 1) := by decide +kernel
theorem dX8_readsComing_77 : decode cX8_readsComing 77 = .ok (.aload_n 0, 1) := by decide +kernel
theorem dX8_readsComing_78 : decode cX8_readsComing 78 = .ok (.getfield 25, 3) := by decide +kernel
theorem dX8_readsComing_81 : decode cX8_readsComing 81 = .ok (.iload_n 1, 1) := by decide +kernel
theorem dX8_readsComing_82 : decode cX8_readsComing 82 = .ok (.iload_n 3, 1) := by decide +kernel
theorem dX8_readsComing_83 : decode cX8_readsComing 83 = .ok (.iastore, 1) := by decide +kernel
theorem dX8_readsComing_84 : decode cX8_readsComing 84 = .ok (.aload_n 0, 1) := by decide +kernel
theorem dX8_readsComing_85 : decode cX8_readsComing 85 = .ok (.getfield 28, 3) := by decide +kernel
theorem dX8_readsComing_88 : decode cX8_readsComing 88 = .ok (.iload_n 1, 1) := by decide +kernel
theorem dX8_readsComing_89 : decode cX8_readsComing 89 = .ok (.iload 4, 2) := by decide +kernel
theorem dX8_readsComing_91 : decode cX8_readsComing 91 = .ok (.bipush 98, 2) := by decide +kernel
theorem dX8_readsComing_93 : decode cX8_readsComing 93 = .ok (.if_icmp .ne 7, 3) := by decide +kernel
theorem dX8_readsComing_96 : decode cX8_readsComing 96 = .ok (.iconst 0, 1) := by decide +kernel
theorem dX8_readsComing_97 : decode cX8_readsComing 97 = .ok (.goto 4, 3) := by decide +kernel
theorem dX8_readsComing_100 : decode cX8_readsComing 100 = .ok (.iconst 1, 1) := by decide +kernel
theorem dX8_readsComing_101 : decode cX8_readsComing 101 = .ok (.iastore, 1) := by decide +kernel
theorem dX8_readsComing_102 : decode cX8_readsComing 102 = .ok (.aload_n 0, 1) := by decide +kernel
theorem dX8_readsComing_103 : decode cX8_readsComing 103 = .ok (.getfield 31, 3) := by decide +kernel
theorem dX8_readsComing_106 : decode cX8_readsComing 106 = .ok (.iload_n 1, 1) := by decide +kernel
theorem dX8_readsComing_107 : decode cX8_readsComing 107 = .ok (.iload 5, 2) := by decide +kernel
theorem dX8_readsComing_109 : decode cX8_readsComing 109 = .ok (.iastore, 1) := by decide +kernel
theorem dX8_readsComing_110 : decode cX8_readsComing 110 = .ok (.iconst 3, 1) := by decide +kernel
theorem dX8_readsComing_111 : decode cX8_readsComing 111 = .ok (.ireturn, 1) := by decide +kernel
theorem dX8_readsParts_0 : decode cX8_readsParts 0 = .ok (.iconst 0, 1) := by decide +kernel
theorem dX8_readsParts_1 : decode cX8_readsParts 1 = .ok (.istore_n 2, 1) := by decide +kernel
theorem dX8_readsParts_2 : decode cX8_readsParts 2 = .ok (.iconst 0, 1) := by decide +kernel
theorem dX8_readsParts_3 : decode cX8_readsParts 3 = .ok (.istore_n 3, 1) := by decide +kernel
theorem dX8_readsParts_4 : decode cX8_readsParts 4 = .ok (.aload_n 0, 1) := by decide +kernel
theorem dX8_readsParts_5 : decode cX8_readsParts 5 = .ok (.iload_n 1, 1) := by decide +kernel
theorem dX8_readsParts_6 : decode cX8_readsParts 6 = .ok (.ifCond .ne 7, 3) := by decide +kernel
theorem dX8_readsParts_9 : decode cX8_readsParts 9 = .ok (.iconst 0, 1) := by decide +kernel
theorem dX8_readsParts_10 : decode cX8_readsParts 10 = .ok (.goto 7, 3) := by decide +kernel
theorem dX8_readsParts_13 : decode cX8_readsParts 13 = .ok (.aload_n 0, 1) := by decide +kernel
theorem dX8_readsParts_14 : decode cX8_readsParts 14 = .ok (.getfield 135, 3) := by decide +kernel
theorem dX8_readsParts_17 : decode cX8_readsParts 17 = .ok (.putfield 135, 3) := by decide +kernel
theorem dX8_readsParts_20 : decode cX8_readsParts 20 = .ok (.aload_n 0, 1) := by decide +kernel
theorem dX8_readsParts_21 : decode cX8_readsParts 21 = .ok (.iload_n 1, 1) := by decide +kernel
theorem dX8_readsParts_22 : decode cX8_readsParts 22 = .ok (.iconst 1, 1) := by decide +kernel
theorem dX8_readsParts_23 : decode cX8_readsParts 23 = .ok (.if_icmp .ne 7, 3) := by decide +kernel
theorem dX8_readsParts_26 : decode cX8_readsParts 26 = .ok (.iconst 0, 1) := by decide +kernel
theorem dX8_readsParts_27 : decode cX8_readsParts 27 = .ok (.goto 7, 3) := by decide +kernel
theorem dX8_readsParts_30 : decode cX8_readsParts 30 = .ok (.aload_n 0, 1) := by decide +kernel
theorem dX8_readsParts_31 : decode cX8_readsParts 31 = .ok (.getfield 139, 3) := by decide +kernel
theorem dX8_readsParts_34 : decode cX8_readsParts 34 = .ok (.putfield 139, 3) := by decide +kernel
theorem dX8_readsParts_37 : decode cX8_readsParts 37 = .ok (.iload_n 3, 1) := by decide +kernel
theorem dX8_readsParts_38 : decode cX8_readsParts 38 = .ok (.aload_n 0, 1) := by decide +kernel
theorem dX8_readsParts_39 : decode cX8_readsParts 39 = .ok (.getfield 7, 3) := by decide +kernel
theorem dX8_readsParts_42 : decode cX8_readsParts 42 = .ok (.iload_n 1, 1) := by decide +kernel
theorem dX8_readsParts_43 : decode cX8_readsParts 43 = .ok (.iaload, 1) := by decide +kernel
theorem dX8_readsParts_44 : decode cX8_readsParts 44 = .ok (.if_icmp .lt 7, 3) := by decide +kernel
theorem dX8_readsParts_47 : decode cX8_readsParts 47 = .ok (.iload_n 3, 1) := by decide +kernel
theorem dX8_readsParts_48 : decode cX8_readsParts 48 = .ok (.ifCond .le 105, 3) := by decide +kernel
theorem dX8_readsParts_51 : decode cX8_readsParts 51 = .ok (.iload_n 1, 1) := by decide +kernel
theorem dX8_readsParts_52 : decode cX8_readsParts 52 = .ok (.ifCond .ne 12, 3) := by decide +kernel
theorem dX8_readsParts_55 : decode cX8_readsParts 55 = .ok (.aload_n 0, 1) := by decide +kernel
theorem dX8_readsParts_56 : decode cX8_readsParts 56 = .ok (.iload_n 2, 1) := by decide +kernel
theorem dX8_readsParts_57 : decode cX8_readsParts 57 = .ok (.iload_n 3, 1) := by decide +kernel
theorem dX8_readsParts_58 : decode cX8_readsParts 58 = .ok (.invokevirtual 142, 3) := by decide +kernel
theorem dX8_readsParts_61 : decode cX8_readsParts 61 = .ok (.goto 9, 3) := by decide +kernel
theorem dX8_readsParts_64 : decode cX8_readsParts 64 = .ok (.aload_n 0, 1) := by decide +kernel
theorem dX8_readsParts_65 : decode cX8_readsParts 65 = .ok (.iload_n 2, 1) := by decide +kernel
theorem dX8_readsParts_66 : decode cX8_readsParts 66 = .ok (.iload_n 3, 1) := by decide +kernel
theorem dX8_readsParts_67 : decode cX8_readsParts 67 = .ok (.invokevirtual 145, 3) := by decide +kernel
theorem dX8_readsParts_70 : decode cX8_readsParts 70 = .ok (.istore 4, 2) := by decide +kernel
theorem dX8_readsParts_72 : decode cX8_readsParts 72 = .ok (.iload 4, 2) := by decide +kernel
theorem dX8_readsParts_74 : decode cX8_readsParts 74 = .ok (.iconst 3, 1) := by decide +kernel
theorem dX8_readsParts_75 : decode cX8_readsParts 75 = .ok (.if_icmp .ge 8, 3) := by decide +kernel
theorem dX8_readsParts_78 : decode cX8_readsParts 78 = .ok (.iload_n 3, 1) := by decide +kernel
theorem dX8_readsParts_79 : decode cX8_readsParts 79 = .ok (.iload 4, 2) := by decide +kernel
theorem dX8_readsParts_81 : decode cX8_readsParts 81 = .ok (.iadd, 1) := by decide +kernel
theorem dX8_readsParts_82 : decode cX8_readsParts 82 = .ok (.ireturn, 1) := by decide +kernel
theorem dX8_readsParts_83 : decode cX8_readsParts 83 = .ok (.iinc 2 1, 3) := by decide +kernel
theorem dX8_readsParts_86 : decode cX8_readsParts 86 = .ok (.iinc 3 3, 3) := by decide +kernel
theorem dX8_readsParts_89 : decode cX8_readsParts 89 = .ok (.iload_n 3, 1) := by decide +kernel
theorem dX8_readsParts_90 : decode cX8_readsParts 90 = .ok (.aload_n 0, 1) := by decide +kernel
theorem dX8_readsParts_91 : decode cX8_readsParts 91 = .ok (.getfield 7, 3) := by decide +kernel
theorem dX8_readsParts_94 : decode cX8_readsParts 94 = .ok (.iload_n 1, 1) := by decide +kernel
theorem dX8_readsParts_95 : decode cX8_readsParts 95 = .ok (.iaload, 1) := by decide +kernel
theorem dX8_readsParts_96 : decode cX8_readsParts 96 = .ok (.if_icmp .ne 38, 3) := by decide +kernel
theorem dX8_readsParts_99 : decode cX8_readsParts 99 = .ok (.aload_n 0, 1) := by decide +kernel
theorem dX8_readsParts_100 : decode cX8_readsParts 100 = .ok (.iload_n 1, 1) := by decide +kernel
theorem dX8_readsParts_101 : decode cX8_readsParts 101 = .ok (.ifCond .ne 7, 3) := by decide +kernel
theorem dX8_readsParts_104 : decode cX8_readsParts 104 = .ok (.iload_n 2, 1) := by decide +kernel
theorem dX8_readsParts_105 : decode cX8_readsParts 105 = .ok (.goto 7, 3) := by decide +kernel
theorem dX8_readsParts_108 : decode cX8_readsParts 108 = .ok (.aload_n 0, 1) := by decide +kernel
theorem dX8_readsParts_109 : decode cX8_readsParts 109 = .ok (.getfield 135, 3) := by decide +kernel
theorem dX8_readsParts_112 : decode cX8_readsParts 112 = .ok (.putfield 135, 3) := by decide +kernel
theorem dX8_readsParts_115 : decode cX8_readsParts 115 = .ok (.aload_n 0, 1) := by decide +kernel
theorem dX8_readsParts_116 : decode cX8_readsParts 116 = .ok (.iload_n 1, 1) := by decide +kernel
theorem dX8_readsParts_117 : decode cX8_readsParts 117 = .ok (.iconst 1, 1) := by decide +kernel
theorem dX8_readsParts_118 : decode cX8_readsParts 118 = .ok (.if_icmp .ne 7, 3) := by decide +kernel
theorem dX8_readsParts_121 : decode cX8_readsParts 121 = .ok (.iload_n 2, 1) := by decide +kernel
theorem dX8_readsParts_122 : decode cX8_readsParts 122 = .ok (.goto 7, 3) := by decide +kernel
theorem dX8_readsParts_125 : decode cX8_readsParts 125 = .ok (.aload_n 0, 1) := by decide +kernel
theorem dX8_readsParts_126 : decode cX8_readsParts 126 = .ok (.getfield 139, 3) := by decide +kernel
theorem dX8_readsParts_129 : decode cX8_readsParts 129 = .ok (.putfield 139, 3) := by decide +kernel
theorem dX8_readsParts_132 : decode cX8_readsParts 132 = .ok (.iconst (-1), 1) := by decide +kernel
theorem dX8_readsParts_133 : decode cX8_readsParts 133 = .ok (.ireturn, 1) := by decide +kernel
theorem dX8_readsParts_134 : decode cX8_readsParts 134 = .ok (.aload_n 0, 1) := by decide +kernel
theorem dX8_readsParts_135 : decode cX8_readsParts 135 = .ok (.iload_n 1, 1) := by decide +kernel
theorem dX8_readsParts_136 : decode cX8_readsParts 136 = .ok (.iload_n 3, 1) := by decide +kernel
theorem dX8_readsParts_137 : decode cX8_readsParts 137 = .ok (.invokevirtual 124, 3) := by decide +kernel
theorem dX8_readsParts_140 : decode cX8_readsParts 140 = .ok (.bipush 59, 2) := by decide +kernel
theorem dX8_readsParts_142 : decode cX8_readsParts 142 = .ok (.if_icmp .eq 5, 3) := by decide +kernel
theorem dX8_readsParts_145 : decode cX8_readsParts 145 = .ok (.iload_n 3, 1) := by decide +kernel
theorem dX8_readsParts_146 : decode cX8_readsParts 146 = .ok (.ireturn, 1) := by decide +kernel
theorem dX8_readsParts_147 : decode cX8_readsParts 147 = .ok (.iinc 3 1, 3) := by decide +kernel
theorem dX8_readsParts_150 : decode cX8_readsParts 150 = .ok (.goto (-113), 3) := by decide +kernel
theorem dX8_readsParts_153 : decode cX8_readsParts 153 = .ok (.iconst (-1), 1) := by decide +kernel
theorem dX8_readsParts_154 : decode cX8_readsParts 154 = .ok (.ireturn, 1) := by decide +kernel
theorem dX8_readsSpeed_0 : decode cX8_readsSpeed 0 = .ok (.aload_n 0, 1) := by decide +kernel
theorem dX8_readsSpeed_1 : decode cX8_readsSpeed 1 = .ok (.iconst 0, 1) := by decide +kernel
theorem dX8_readsSpeed_2 : decode cX8_readsSpeed 2 = .ok (.putfield 148, 3) := by decide +kernel
theorem dX8_readsSpeed_5 : decode cX8_readsSpeed 5 = .ok (.iconst 0, 1) := by decide +kernel
theorem dX8_readsSpeed_6 : decode cX8_readsSpeed 6 = .ok (.istore_n 1, 1) := by decide +kernel
theorem dX8_readsSpeed_7 : decode cX8_readsSpeed 7 = .ok (.iload_n 1, 1) := by decide +kernel
theorem dX8_readsSpeed_8 : decode cX8_readsSpeed 8 = .ok (.bipush 24, 2) := by decide +kernel
theorem dX8_readsSpeed_10 : decode cX8_readsSpeed 10 = .ok (.if_icmp .ge 16, 3) := by decide +kernel
theorem dX8_readsSpeed_13 : decode cX8_readsSpeed 13 = .ok (.aload_n 0, 1) := by decide +kernel
theorem dX8_readsSpeed_14 : decode cX8_readsSpeed 14 = .ok (.getfield 34, 3) := by decide +kernel
theorem dX8_readsSpeed_17 : decode cX8_readsSpeed 17 = .ok (.iload_n 1, 1) := by decide +kernel
theorem dX8_readsSpeed_18 : decode cX8_readsSpeed 18 = .ok (.iconst 1, 1) := by decide +kernel
theorem dX8_readsSpeed_19 : decode cX8_readsSpeed 19 = .ok (.iastore, 1) := by decide +kernel
theorem dX8_readsSpeed_20 : decode cX8_readsSpeed 20 = .ok (.iinc 1 1, 3) := by decide +kernel
theorem dX8_readsSpeed_23 : decode cX8_readsSpeed 23 = .ok (.goto (-16), 3) := by decide +kernel
theorem dX8_readsSpeed_26 : decode cX8_readsSpeed 26 = .ok (.iconst 0, 1) := by decide +kernel
theorem dX8_readsSpeed_27 : decode cX8_readsSpeed 27 = .ok (.istore_n 1, 1) := by decide +kernel
theorem dX8_readsSpeed_28 : decode cX8_readsSpeed 28 = .ok (.iload_n 1, 1) := by decide +kernel
theorem dX8_readsSpeed_29 : decode cX8_readsSpeed 29 = .ok (.aload_n 0, 1) := by decide +kernel
theorem dX8_readsSpeed_30 : decode cX8_readsSpeed 30 = .ok (.getfield 7, 3) := by decide +kernel
theorem dX8_readsSpeed_33 : decode cX8_readsSpeed 33 = .ok (.iconst 2, 1) := by decide +kernel
theorem dX8_readsSpeed_34 : decode cX8_readsSpeed 34 = .ok (.iaload, 1) := by decide +kernel
theorem dX8_readsSpeed_35 : decode cX8_readsSpeed 35 = .ok (.if_icmp .ge 27, 3) := by decide +kernel
theorem dX8_readsSpeed_38 : decode cX8_readsSpeed 38 = .ok (.aload_n 0, 1) := by decide +kernel
theorem dX8_readsSpeed_39 : decode cX8_readsSpeed 39 = .ok (.iconst 2, 1) := by decide +kernel
theorem dX8_readsSpeed_40 : decode cX8_readsSpeed 40 = .ok (.iload_n 1, 1) := by decide +kernel
theorem dX8_readsSpeed_41 : decode cX8_readsSpeed 41 = .ok (.invokevirtual 124, 3) := by decide +kernel
theorem dX8_readsSpeed_44 : decode cX8_readsSpeed 44 = .ok (.bipush 48, 2) := by decide +kernel
theorem dX8_readsSpeed_46 : decode cX8_readsSpeed 46 = .ok (.bipush 51, 2) := by decide +kernel
theorem dX8_readsSpeed_48 : decode cX8_readsSpeed 48 = .ok (.invokestatic 112, 3) := by decide +kernel
theorem dX8_readsSpeed_51 : decode cX8_readsSpeed 51 = .ok (.ifCond .ne 5, 3) := by decide +kernel
theorem dX8_readsSpeed_54 : decode cX8_readsSpeed 54 = .ok (.iload_n 1, 1) := by decide +kernel
theorem dX8_readsSpeed_55 : decode cX8_readsSpeed 55 = .ok (.ireturn, 1) := by decide +kernel
theorem dX8_readsSpeed_56 : decode cX8_readsSpeed 56 = .ok (.iinc 1 1, 3) := by decide +kernel
theorem dX8_readsSpeed_59 : decode cX8_readsSpeed 59 = .ok (.goto (-31), 3) := by decide +kernel
theorem dX8_readsSpeed_62 : decode cX8_readsSpeed 62 = .ok (.iconst 0, 1) := by decide +kernel
theorem dX8_readsSpeed_63 : decode cX8_readsSpeed 63 = .ok (.istore_n 1, 1) := by decide +kernel
theorem dX8_readsSpeed_64 : decode cX8_readsSpeed 64 = .ok (.iload_n 1, 1) := by decide +kernel
theorem dX8_readsSpeed_65 : decode cX8_readsSpeed 65 = .ok (.aload_n 0, 1) := by decide +kernel
theorem dX8_readsSpeed_66 : decode cX8_readsSpeed 66 = .ok (.getfield 7, 3) := by decide +kernel
theorem dX8_readsSpeed_69 : decode cX8_readsSpeed 69 = .ok (.iconst 2, 1) := by decide +kernel
theorem dX8_readsSpeed_70 : decode cX8_readsSpeed 70 = .ok (.iaload, 1) := by decide +kernel
theorem dX8_readsSpeed_71 : decode cX8_readsSpeed 71 = .ok (.if_icmp .ge 24, 3) := by decide +kernel
theorem dX8_readsSpeed_74 : decode cX8_readsSpeed 74 = .ok (.aload_n 0, 1) := by decide +kernel
theorem dX8_readsSpeed_75 : decode cX8_readsSpeed 75 = .ok (.getfield 34, 3) := by decide +kernel
theorem dX8_readsSpeed_78 : decode cX8_readsSpeed 78 = .ok (.iload_n 1, 1) := by decide +kernel
theorem dX8_readsSpeed_79 : decode cX8_readsSpeed 79 = .ok (.aload_n 0, 1) := by decide +kernel
theorem dX8_readsSpeed_80 : decode cX8_readsSpeed 80 = .ok (.iconst 2, 1) := by decide +kernel
theorem dX8_readsSpeed_81 : decode cX8_readsSpeed 81 = .ok (.iload_n 1, 1) := by decide +kernel
theorem dX8_readsSpeed_82 : decode cX8_readsSpeed 82 = .ok (.invokevirtual 124, 3) := by decide +kernel
theorem dX8_readsSpeed_85 : decode cX8_readsSpeed 85 = .ok (.bipush 48, 2) := by decide +kernel
theorem dX8_readsSpeed_87 : decode cX8_readsSpeed 87 = .ok (.isub, 1) := by decide +kernel
theorem dX8_readsSpeed_88 : decode cX8_readsSpeed 88 = .ok (.iastore, 1) := by decide +kernel
theorem dX8_readsSpeed_89 : decode cX8_readsSpeed 89 = .ok (.iinc 1 1, 3) := by decide +kernel
theorem dX8_readsSpeed_92 : decode cX8_readsSpeed 92 = .ok (.goto (-28), 3) := by decide +kernel
theorem dX8_readsSpeed_95 : decode cX8_readsSpeed 95 = .ok (.aload_n 0, 1) := by decide +kernel
theorem dX8_readsSpeed_96 : decode cX8_readsSpeed 96 = .ok (.aload_n 0, 1) := by decide +kernel
theorem dX8_readsSpeed_97 : decode cX8_readsSpeed 97 = .ok (.getfield 7, 3) := by decide +kernel
theorem dX8_readsSpeed_100 : decode cX8_readsSpeed 100 = .ok (.iconst 2, 1) := by decide +kernel
theorem dX8_readsSpeed_101 : decode cX8_readsSpeed 101 = .ok (.iaload, 1) := by decide +kernel
theorem dX8_readsSpeed_102 : decode cX8_readsSpeed 102 = .ok (.putfield 148, 3) := by decide +kernel
theorem dX8_readsSpeed_105 : decode cX8_readsSpeed 105 = .ok (.iconst (-1), 1) := by decide +kernel
theorem dX8_readsSpeed_106 : decode cX8_readsSpeed 106 = .ok (.ireturn, 1) := by decide +kernel
theorem dX8_faultOf_0 : decode cX8_faultOf 0 = .ok (.aload_n 0, 1) := by decide +kernel
theorem dX8_faultOf_1 : decode cX8_faultOf 1 = .ok (.iconst 0, 1) := by decide +kernel
theorem dX8_faultOf_2 : decode cX8_faultOf 2 = .ok (.invokevirtual 151, 3) := by decide +kernel
theorem dX8_faultOf_5 : decode cX8_faultOf 5 = .ok (.istore_n 2, 1) := by decide +kernel
theorem dX8_faultOf_6 : decode cX8_faultOf 6 = .ok (.aload_n 0, 1) := by decide +kernel
theorem dX8_faultOf_7 : decode cX8_faultOf 7 = .ok (.iconst 1, 1) := by decide +kernel
theorem dX8_faultOf_8 : decode cX8_faultOf 8 = .ok (.invokevirtual 151, 3) := by decide +kernel
theorem dX8_faultOf_11 : decode cX8_faultOf 11 = .ok (.istore_n 3, 1) := by decide +kernel
theorem dX8_faultOf_12 : decode cX8_faultOf 12 = .ok (.aload_n 0, 1) := by decide +kernel
theorem dX8_faultOf_13 : decode cX8_faultOf 13 = .ok (.invokevirtual 154, 3) := by decide +kernel
theorem dX8_faultOf_16 : decode cX8_faultOf 16 = .ok (.istore 4, 2) := by decide +kernel
theorem dX8_faultOf_18 : decode cX8_faultOf 18 = .ok (.iload_n 1, 1) := by decide +kernel
theorem dX8_faultOf_19 : decode cX8_faultOf 19 = .ok (.ifCond .ne 7, 3) := by decide +kernel
theorem dX8_faultOf_22 : decode cX8_faultOf 22 = .ok (.iload_n 2, 1) := by decide +kernel
theorem dX8_faultOf_23 : decode cX8_faultOf 23 = .ok (.goto 14, 3) := by decide +kernel
theorem dX8_faultOf_26 : decode cX8_faultOf 26 = .ok (.iload_n 1, 1) := by decide +kernel
theorem dX8_faultOf_27 : decode cX8_faultOf 27 = .ok (.iconst 1, 1) := by decide +kernel
theorem dX8_faultOf_28 : decode cX8_faultOf 28 = .ok (.if_icmp .ne 7, 3) := by decide +kernel
theorem dX8_faultOf_31 : decode cX8_faultOf 31 = .ok (.iload_n 3, 1) := by decide +kernel
theorem dX8_faultOf_32 : decode cX8_faultOf 32 = .ok (.goto 5, 3) := by decide +kernel
theorem dX8_faultOf_35 : decode cX8_faultOf 35 = .ok (.iload 4, 2) := by decide +kernel
theorem dX8_faultOf_37 : decode cX8_faultOf 37 = .ok (.ireturn, 1) := by decide +kernel
theorem dX8_reads_0 : decode cX8_reads 0 = .ok (.aload_n 0, 1) := by decide +kernel
theorem dX8_reads_1 : decode cX8_reads 1 = .ok (.iconst 0, 1) := by decide +kernel
theorem dX8_reads_2 : decode cX8_reads 2 = .ok (.invokevirtual 158, 3) := by decide +kernel
theorem dX8_reads_5 : decode cX8_reads 5 = .ok (.istore_n 1, 1) := by decide +kernel
theorem dX8_reads_6 : decode cX8_reads 6 = .ok (.return_, 1) := by decide +kernel
theorem dX8_fault_0 : decode cX8_fault 0 = .ok (.iload_n 1, 1) := by decide +kernel
theorem dX8_fault_1 : decode cX8_fault 1 = .ok (.invokestatic 116, 3) := by decide +kernel
theorem dX8_fault_4 : decode cX8_fault 4 = .ok (.ifCond .eq 11, 3) := by decide +kernel
theorem dX8_fault_7 : decode cX8_fault 7 = .ok (.aload_n 0, 1) := by decide +kernel
theorem dX8_fault_8 : decode cX8_fault 8 = .ok (.iload_n 1, 1) := by decide +kernel
theorem dX8_fault_9 : decode cX8_fault 9 = .ok (.invokevirtual 158, 3) := by decide +kernel
theorem dX8_fault_12 : decode cX8_fault 12 = .ok (.goto 5, 3) := by decide +kernel
theorem dX8_fault_15 : decode cX8_fault 15 = .ok (.bipush (-2), 2) := by decide +kernel
theorem dX8_fault_17 : decode cX8_fault 17 = .ok (.ireturn, 1) := by decide +kernel
theorem dX8_isCar_0 : decode cX8_isCar 0 = .ok (.aload_n 0, 1) := by decide +kernel
theorem dX8_isCar_1 : decode cX8_isCar 1 = .ok (.invokevirtual 161, 3) := by decide +kernel
theorem dX8_isCar_4 : decode cX8_isCar 4 = .ok (.iload_n 1, 1) := by decide +kernel
theorem dX8_isCar_5 : decode cX8_isCar 5 = .ok (.iconst 0, 1) := by decide +kernel
theorem dX8_isCar_6 : decode cX8_isCar 6 = .ok (.aload_n 0, 1) := by decide +kernel
theorem dX8_isCar_7 : decode cX8_isCar 7 = .ok (.getfield 135, 3) := by decide +kernel
theorem dX8_isCar_10 : decode cX8_isCar 10 = .ok (.iconst 1, 1) := by decide +kernel
theorem dX8_isCar_11 : decode cX8_isCar 11 = .ok (.isub, 1) := by decide +kernel
theorem dX8_isCar_12 : decode cX8_isCar 12 = .ok (.invokestatic 112, 3) := by decide +kernel
theorem dX8_isCar_15 : decode cX8_isCar 15 = .ok (.ireturn, 1) := by decide +kernel
theorem dX8_carOf_0 : decode cX8_carOf 0 = .ok (.iload_n 2, 1) := by decide +kernel
theorem dX8_carOf_1 : decode cX8_carOf 1 = .ok (.ifCond .ne 12, 3) := by decide +kernel
theorem dX8_carOf_4 : decode cX8_carOf 4 = .ok (.aload_n 0, 1) := by decide +kernel
theorem dX8_carOf_5 : decode cX8_carOf 5 = .ok (.getfield 16, 3) := by decide +kernel
theorem dX8_carOf_8 : decode cX8_carOf 8 = .ok (.iload_n 1, 1) := by decide +kernel
theorem dX8_carOf_9 : decode cX8_carOf 9 = .ok (.iaload, 1) := by decide +kernel
theorem dX8_carOf_10 : decode cX8_carOf 10 = .ok (.goto 23, 3) := by decide +kernel
theorem dX8_carOf_13 : decode cX8_carOf 13 = .ok (.iload_n 2, 1) := by decide +kernel
theorem dX8_carOf_14 : decode cX8_carOf 14 = .ok (.iconst 1, 1) := by decide +kernel
theorem dX8_carOf_15 : decode cX8_carOf 15 = .ok (.if_icmp .ne 12, 3) := by decide +kernel
theorem dX8_carOf_18 : decode cX8_carOf 18 = .ok (.aload_n 0, 1) := by decide +kernel
theorem dX8_carOf_19 : decode cX8_carOf 19 = .ok (.getfield 19, 3) := by decide +kernel
theorem dX8_carOf_22 : decode cX8_carOf 22 = .ok (.iload_n 1, 1) := by decide +kernel
theorem dX8_carOf_23 : decode cX8_carOf 23 = .ok (.iaload, 1) := by decide +kernel
theorem dX8_carOf_24 : decode cX8_carOf 24 = .ok (.goto 9, 3) := by decide +kernel
theorem dX8_carOf_27 : decode cX8_carOf 27 = .ok (.aload_n 0, 1) := by decide +kernel
theorem dX8_carOf_28 : decode cX8_carOf 28 = .ok (.getfield 22, 3) := by decide +kernel
theorem dX8_carOf_31 : decode cX8_carOf 31 = .ok (.iload_n 1, 1) := by decide +kernel
theorem dX8_carOf_32 : decode cX8_carOf 32 = .ok (.iaload, 1) := by decide +kernel
theorem dX8_carOf_33 : decode cX8_carOf 33 = .ok (.ireturn, 1) := by decide +kernel
theorem dX8_car_0 : decode cX8_car 0 = .ok (.aload_n 0, 1) := by decide +kernel
theorem dX8_car_1 : decode cX8_car 1 = .ok (.iload_n 1, 1) := by decide +kernel
theorem dX8_car_2 : decode cX8_car 2 = .ok (.invokevirtual 164, 3) := by decide +kernel
theorem dX8_car_5 : decode cX8_car 5 = .ok (.ifCond .eq 19, 3) := by decide +kernel
theorem dX8_car_8 : decode cX8_car 8 = .ok (.iload_n 2, 1) := by decide +kernel
theorem dX8_car_9 : decode cX8_car 9 = .ok (.invokestatic 167, 3) := by decide +kernel
theorem dX8_car_12 : decode cX8_car 12 = .ok (.ifCond .eq 12, 3) := by decide +kernel
theorem dX8_car_15 : decode cX8_car 15 = .ok (.aload_n 0, 1) := by decide +kernel
theorem dX8_car_16 : decode cX8_car 16 = .ok (.iload_n 1, 1) := by decide +kernel
theorem dX8_car_17 : decode cX8_car 17 = .ok (.iload_n 2, 1) := by decide +kernel
theorem dX8_car_18 : decode cX8_car 18 = .ok (.invokevirtual 170, 3) := by decide +kernel
theorem dX8_car_21 : decode cX8_car 21 = .ok (.goto 5, 3) := by decide +kernel
theorem dX8_car_24 : decode cX8_car 24 = .ok (.bipush (-2), 2) := by decide +kernel
theorem dX8_car_26 : decode cX8_car 26 = .ok (.ireturn, 1) := by decide +kernel
theorem dX8_comingOf_0 : decode cX8_comingOf 0 = .ok (.aload_n 0, 1) := by decide +kernel
theorem dX8_comingOf_1 : decode cX8_comingOf 1 = .ok (.invokevirtual 161, 3) := by decide +kernel
theorem dX8_comingOf_4 : decode cX8_comingOf 4 = .ok (.iload_n 1, 1) := by decide +kernel
theorem dX8_comingOf_5 : decode cX8_comingOf 5 = .ok (.aload_n 0, 1) := by decide +kernel
theorem dX8_comingOf_6 : decode cX8_comingOf 6 = .ok (.getfield 139, 3) := by decide +kernel
theorem dX8_comingOf_9 : decode cX8_comingOf 9 = .ok (.if_icmp .lt 7, 3) := by decide +kernel
theorem dX8_comingOf_12 : decode cX8_comingOf 12 = .ok (.iconst (-1), 1) := by decide +kernel
theorem dX8_comingOf_13 : decode cX8_comingOf 13 = .ok (.goto 36, 3) := by decide +kernel
theorem dX8_comingOf_16 : decode cX8_comingOf 16 = .ok (.iload_n 2, 1) := by decide +kernel
theorem dX8_comingOf_17 : decode cX8_comingOf 17 = .ok (.ifCond .ne 12, 3) := by decide +kernel
theorem dX8_comingOf_20 : decode cX8_comingOf 20 = .ok (.aload_n 0, 1) := by decide +kernel
theorem dX8_comingOf_21 : decode cX8_comingOf 21 = .ok (.getfield 25, 3) := by decide +kernel
theorem dX8_comingOf_24 : decode cX8_comingOf 24 = .ok (.iload_n 1, 1) := by decide +kernel
theorem dX8_comingOf_25 : decode cX8_comingOf 25 = .ok (.iaload, 1) := by decide +kernel
theorem dX8_comingOf_26 : decode cX8_comingOf 26 = .ok (.goto 23, 3) := by decide +kernel
theorem dX8_comingOf_29 : decode cX8_comingOf 29 = .ok (.iload_n 2, 1) := by decide +kernel
theorem dX8_comingOf_30 : decode cX8_comingOf 30 = .ok (.iconst 1, 1) := by decide +kernel
theorem dX8_comingOf_31 : decode cX8_comingOf 31 = .ok (.if_icmp .ne 12, 3) := by decide +kernel
theorem dX8_comingOf_34 : decode cX8_comingOf 34 = .ok (.aload_n 0, 1) := by decide +kernel
theorem dX8_comingOf_35 : decode cX8_comingOf 35 = .ok (.getfield 28, 3) := by decide +kernel
theorem dX8_comingOf_38 : decode cX8_comingOf 38 = .ok (.iload_n 1, 1) := by decide +kernel
theorem dX8_comingOf_39 : decode cX8_comingOf 39 = .ok (.iaload, 1) := by decide +kernel
theorem dX8_comingOf_40 : decode cX8_comingOf 40 = .ok (.goto 9, 3) := by decide +kernel
theorem dX8_comingOf_43 : decode cX8_comingOf 43 = .ok (.aload_n 0, 1) := by decide +kernel
theorem dX8_comingOf_44 : decode cX8_comingOf 44 = .ok (.getfield 31, 3) := by decide +kernel
theorem dX8_comingOf_47 : decode cX8_comingOf 47 = .ok (.iload_n 1, 1) := by decide +kernel
theorem dX8_comingOf_48 : decode cX8_comingOf 48 = .ok (.iaload, 1) := by decide +kernel
theorem dX8_comingOf_49 : decode cX8_comingOf 49 = .ok (.ireturn, 1) := by decide +kernel
theorem dX8_coming_0 : decode cX8_coming 0 = .ok (.iload_n 1, 1) := by decide +kernel
theorem dX8_coming_1 : decode cX8_coming 1 = .ok (.iconst 0, 1) := by decide +kernel
theorem dX8_coming_2 : decode cX8_coming 2 = .ok (.bipush 11, 2) := by decide +kernel
theorem dX8_coming_4 : decode cX8_coming 4 = .ok (.invokestatic 112, 3) := by decide +kernel
theorem dX8_coming_7 : decode cX8_coming 7 = .ok (.ifCond .eq 19, 3) := by decide +kernel
theorem dX8_coming_10 : decode cX8_coming 10 = .ok (.iload_n 2, 1) := by decide +kernel
theorem dX8_coming_11 : decode cX8_coming 11 = .ok (.invokestatic 167, 3) := by decide +kernel
theorem dX8_coming_14 : decode cX8_coming 14 = .ok (.ifCond .eq 12, 3) := by decide +kernel
theorem dX8_coming_17 : decode cX8_coming 17 = .ok (.aload_n 0, 1) := by decide +kernel
theorem dX8_coming_18 : decode cX8_coming 18 = .ok (.iload_n 1, 1) := by decide +kernel
theorem dX8_coming_19 : decode cX8_coming 19 = .ok (.iload_n 2, 1) := by decide +kernel
theorem dX8_coming_20 : decode cX8_coming 20 = .ok (.invokevirtual 173, 3) := by decide +kernel
theorem dX8_coming_23 : decode cX8_coming 23 = .ok (.goto 5, 3) := by decide +kernel
theorem dX8_coming_26 : decode cX8_coming 26 = .ok (.bipush (-2), 2) := by decide +kernel
theorem dX8_coming_28 : decode cX8_coming 28 = .ok (.ireturn, 1) := by decide +kernel
theorem dX8_speedOf_0 : decode cX8_speedOf 0 = .ok (.aload_n 0, 1) := by decide +kernel
theorem dX8_speedOf_1 : decode cX8_speedOf 1 = .ok (.invokevirtual 161, 3) := by decide +kernel
theorem dX8_speedOf_4 : decode cX8_speedOf 4 = .ok (.aload_n 0, 1) := by decide +kernel
theorem dX8_speedOf_5 : decode cX8_speedOf 5 = .ok (.getfield 34, 3) := by decide +kernel
theorem dX8_speedOf_8 : decode cX8_speedOf 8 = .ok (.iload_n 1, 1) := by decide +kernel
theorem dX8_speedOf_9 : decode cX8_speedOf 9 = .ok (.iaload, 1) := by decide +kernel
theorem dX8_speedOf_10 : decode cX8_speedOf 10 = .ok (.ireturn, 1) := by decide +kernel
theorem dX8_speed_0 : decode cX8_speed 0 = .ok (.iload_n 1, 1) := by decide +kernel
theorem dX8_speed_1 : decode cX8_speed 1 = .ok (.invokestatic 132, 3) := by decide +kernel
theorem dX8_speed_4 : decode cX8_speed 4 = .ok (.ifCond .eq 11, 3) := by decide +kernel
theorem dX8_speed_7 : decode cX8_speed 7 = .ok (.aload_n 0, 1) := by decide +kernel
theorem dX8_speed_8 : decode cX8_speed 8 = .ok (.iload_n 1, 1) := by decide +kernel
theorem dX8_speed_9 : decode cX8_speed 9 = .ok (.invokevirtual 176, 3) := by decide +kernel
theorem dX8_speed_12 : decode cX8_speed 12 = .ok (.goto 5, 3) := by decide +kernel
theorem dX8_speed_15 : decode cX8_speed 15 = .ok (.bipush (-2), 2) := by decide +kernel
theorem dX8_speed_17 : decode cX8_speed 17 = .ok (.ireturn, 1) := by decide +kernel
theorem dX8_event_0 : decode cX8_event 0 = .ok (.iload_n 1, 1) := by decide +kernel
theorem dX8_event_1 : decode cX8_event 1 = .ok (.invokestatic 167, 3) := by decide +kernel
theorem dX8_event_4 : decode cX8_event 4 = .ok (.ifCond .eq 19, 3) := by decide +kernel
theorem dX8_event_7 : decode cX8_event 7 = .ok (.iload_n 2, 1) := by decide +kernel
theorem dX8_event_8 : decode cX8_event 8 = .ok (.invokestatic 132, 3) := by decide +kernel
theorem dX8_event_11 : decode cX8_event 11 = .ok (.ifCond .eq 12, 3) := by decide +kernel
theorem dX8_event_14 : decode cX8_event 14 = .ok (.iload_n 3, 1) := by decide +kernel
theorem dX8_event_15 : decode cX8_event 15 = .ok (.iconst 0, 1) := by decide +kernel
theorem dX8_event_16 : decode cX8_event 16 = .ok (.iconst 5, 1) := by decide +kernel
theorem dX8_event_17 : decode cX8_event 17 = .ok (.invokestatic 112, 3) := by decide +kernel
theorem dX8_event_20 : decode cX8_event 20 = .ok (.ifCond .ne 6, 3) := by decide +kernel
theorem dX8_event_23 : decode cX8_event 23 = .ok (.bipush (-2), 2) := by decide +kernel
theorem dX8_event_25 : decode cX8_event 25 = .ok (.ireturn, 1) := by decide +kernel
theorem dX8_event_26 : decode cX8_event 26 = .ok (.aload_n 0, 1) := by decide +kernel
theorem dX8_event_27 : decode cX8_event 27 = .ok (.getfield 179, 3) := by decide +kernel
theorem dX8_event_30 : decode cX8_event 30 = .ok (.bipush 8, 2) := by decide +kernel
theorem dX8_event_32 : decode cX8_event 32 = .ok (.if_icmp .ne 6, 3) := by decide +kernel
theorem dX8_event_35 : decode cX8_event 35 = .ok (.bipush (-4), 2) := by decide +kernel
theorem dX8_event_37 : decode cX8_event 37 = .ok (.ireturn, 1) := by decide +kernel
theorem dX8_event_38 : decode cX8_event 38 = .ok (.aload_n 0, 1) := by decide +kernel
theorem dX8_event_39 : decode cX8_event 39 = .ok (.getfield 37, 3) := by decide +kernel
theorem dX8_event_42 : decode cX8_event 42 = .ok (.aload_n 0, 1) := by decide +kernel
theorem dX8_event_43 : decode cX8_event 43 = .ok (.getfield 179, 3) := by decide +kernel
theorem dX8_event_46 : decode cX8_event 46 = .ok (.iload_n 1, 1) := by decide +kernel
theorem dX8_event_47 : decode cX8_event 47 = .ok (.iastore, 1) := by decide +kernel
theorem dX8_event_48 : decode cX8_event 48 = .ok (.aload_n 0, 1) := by decide +kernel
theorem dX8_event_49 : decode cX8_event 49 = .ok (.getfield 40, 3) := by decide +kernel
theorem dX8_event_52 : decode cX8_event 52 = .ok (.aload_n 0, 1) := by decide +kernel
theorem dX8_event_53 : decode cX8_event 53 = .ok (.getfield 179, 3) := by decide +kernel
theorem dX8_event_56 : decode cX8_event 56 = .ok (.iload_n 2, 1) := by decide +kernel
theorem dX8_event_57 : decode cX8_event 57 = .ok (.iastore, 1) := by decide +kernel
theorem dX8_event_58 : decode cX8_event 58 = .ok (.aload_n 0, 1) := by decide +kernel
theorem dX8_event_59 : decode cX8_event 59 = .ok (.getfield 43, 3) := by decide +kernel
theorem dX8_event_62 : decode cX8_event 62 = .ok (.aload_n 0, 1) := by decide +kernel
theorem dX8_event_63 : decode cX8_event 63 = .ok (.getfield 179, 3) := by decide +kernel
theorem dX8_event_66 : decode cX8_event 66 = .ok (.iload_n 3, 1) := by decide +kernel
theorem dX8_event_67 : decode cX8_event 67 = .ok (.iastore, 1) := by decide +kernel
theorem dX8_event_68 : decode cX8_event 68 = .ok (.aload_n 0, 1) := by decide +kernel
theorem dX8_event_69 : decode cX8_event 69 = .ok (.dup, 1) := by decide +kernel
theorem dX8_event_70 : decode cX8_event 70 = .ok (.getfield 179, 3) := by decide +kernel
theorem dX8_event_73 : decode cX8_event 73 = .ok (.iconst 1, 1) := by decide +kernel
theorem dX8_event_74 : decode cX8_event 74 = .ok (.iadd, 1) := by decide +kernel
theorem dX8_event_75 : decode cX8_event 75 = .ok (.putfield 179, 3) := by decide +kernel
theorem dX8_event_78 : decode cX8_event 78 = .ok (.aload_n 0, 1) := by decide +kernel
theorem dX8_event_79 : decode cX8_event 79 = .ok (.getfield 179, 3) := by decide +kernel
theorem dX8_event_82 : decode cX8_event 82 = .ok (.ireturn, 1) := by decide +kernel
theorem dX8_back_0 : decode cX8_back 0 = .ok (.aload_n 0, 1) := by decide +kernel
theorem dX8_back_1 : decode cX8_back 1 = .ok (.getfield 179, 3) := by decide +kernel
theorem dX8_back_4 : decode cX8_back 4 = .ok (.ifCond .ne 6, 3) := by decide +kernel
theorem dX8_back_7 : decode cX8_back 7 = .ok (.bipush (-3), 2) := by decide +kernel
theorem dX8_back_9 : decode cX8_back 9 = .ok (.ireturn, 1) := by decide +kernel
theorem dX8_back_10 : decode cX8_back 10 = .ok (.aload_n 0, 1) := by decide +kernel
theorem dX8_back_11 : decode cX8_back 11 = .ok (.dup, 1) := by decide +kernel
theorem dX8_back_12 : decode cX8_back 12 = .ok (.getfield 179, 3) := by decide +kernel
theorem dX8_back_15 : decode cX8_back 15 = .ok (.iconst 1, 1) := by decide +kernel
theorem dX8_back_16 : decode cX8_back 16 = .ok (.isub, 1) := by decide +kernel
theorem dX8_back_17 : decode cX8_back 17 = .ok (.putfield 179, 3) := by decide +kernel
theorem dX8_back_20 : decode cX8_back 20 = .ok (.aload_n 0, 1) := by decide +kernel
theorem dX8_back_21 : decode cX8_back 21 = .ok (.getfield 179, 3) := by decide +kernel
theorem dX8_back_24 : decode cX8_back 24 = .ok (.ireturn, 1) := by decide +kernel
theorem dX8_read_0 : decode cX8_read 0 = .ok (.iload_n 1, 1) := by decide +kernel
theorem dX8_read_1 : decode cX8_read 1 = .ok (.invokestatic 182, 3) := by decide +kernel
theorem dX8_read_4 : decode cX8_read 4 = .ok (.ifCond .ne 6, 3) := by decide +kernel
theorem dX8_read_7 : decode cX8_read 7 = .ok (.bipush (-2), 2) := by decide +kernel
theorem dX8_read_9 : decode cX8_read 9 = .ok (.ireturn, 1) := by decide +kernel
theorem dX8_read_10 : decode cX8_read 10 = .ok (.aload_n 0, 1) := by decide +kernel
theorem dX8_read_11 : decode cX8_read 11 = .ok (.getfield 94, 3) := by decide +kernel
theorem dX8_read_14 : decode cX8_read 14 = .ok (.iload_n 1, 1) := by decide +kernel
theorem dX8_read_15 : decode cX8_read 15 = .ok (.baload, 1) := by decide +kernel
theorem dX8_read_16 : decode cX8_read 16 = .ok (.ifCond .ne 9, 3) := by decide +kernel
theorem dX8_read_19 : decode cX8_read 19 = .ok (.aload_n 0, 1) := by decide +kernel
theorem dX8_read_20 : decode cX8_read 20 = .ok (.iconst 1, 1) := by decide +kernel
theorem dX8_read_21 : decode cX8_read 21 = .ok (.invokevirtual 185, 3) := by decide +kernel
theorem dX8_read_24 : decode cX8_read 24 = .ok (.ireturn, 1) := by decide +kernel
theorem dX8_read_25 : decode cX8_read 25 = .ok (.iconst 0, 1) := by decide +kernel
theorem dX8_read_26 : decode cX8_read 26 = .ok (.istore_n 2, 1) := by decide +kernel
theorem dX8_read_27 : decode cX8_read 27 = .ok (.bipush 60, 2) := by decide +kernel
theorem dX8_read_29 : decode cX8_read 29 = .ok (.iload_n 1, 1) := by decide +kernel
theorem dX8_read_30 : decode cX8_read 30 = .ok (.imul, 1) := by decide +kernel
theorem dX8_read_31 : decode cX8_read 31 = .ok (.istore_n 3, 1) := by decide +kernel
theorem dX8_read_32 : decode cX8_read 32 = .ok (.iconst 3, 1) := by decide +kernel
theorem dX8_read_33 : decode cX8_read 33 = .ok (.iload_n 2, 1) := by decide +kernel
theorem dX8_read_34 : decode cX8_read 34 = .ok (.imul, 1) := by decide +kernel
theorem dX8_read_35 : decode cX8_read 35 = .ok (.iconst 2, 1) := by decide +kernel
theorem dX8_read_36 : decode cX8_read 36 = .ok (.iadd, 1) := by decide +kernel
theorem dX8_read_37 : decode cX8_read 37 = .ok (.aload_n 0, 1) := by decide +kernel
theorem dX8_read_38 : decode cX8_read 38 = .ok (.getfield 101, 3) := by decide +kernel
theorem dX8_read_41 : decode cX8_read 41 = .ok (.iload_n 1, 1) := by decide +kernel
theorem dX8_read_42 : decode cX8_read 42 = .ok (.iaload, 1) := by decide +kernel
theorem dX8_read_43 : decode cX8_read 43 = .ok (.if_icmp .ge 50, 3) := by decide +kernel
theorem dX8_read_46 : decode cX8_read 46 = .ok (.aload_n 0, 1) := by decide +kernel
theorem dX8_read_47 : decode cX8_read 47 = .ok (.aload_n 0, 1) := by decide +kernel
theorem dX8_read_48 : decode cX8_read 48 = .ok (.getfield 104, 3) := by decide +kernel
theorem dX8_read_51 : decode cX8_read 51 = .ok (.iload_n 3, 1) := by decide +kernel
theorem dX8_read_52 : decode cX8_read 52 = .ok (.iconst 3, 1) := by decide +kernel
theorem dX8_read_53 : decode cX8_read 53 = .ok (.iload_n 2, 1) := by decide +kernel
theorem dX8_read_54 : decode cX8_read 54 = .ok (.imul, 1) := by decide +kernel
theorem dX8_read_55 : decode cX8_read 55 = .ok (.iadd, 1) := by decide +kernel
theorem dX8_read_56 : decode cX8_read 56 = .ok (.iaload, 1) := by decide +kernel
theorem dX8_read_57 : decode cX8_read 57 = .ok (.aload_n 0, 1) := by decide +kernel
theorem dX8_read_58 : decode cX8_read 58 = .ok (.getfield 104, 3) := by decide +kernel
theorem dX8_read_61 : decode cX8_read 61 = .ok (.iload_n 3, 1) := by decide +kernel
theorem dX8_read_62 : decode cX8_read 62 = .ok (.iconst 3, 1) := by decide +kernel
theorem dX8_read_63 : decode cX8_read 63 = .ok (.iload_n 2, 1) := by decide +kernel
theorem dX8_read_64 : decode cX8_read 64 = .ok (.imul, 1) := by decide +kernel
theorem dX8_read_65 : decode cX8_read 65 = .ok (.iadd, 1) := by decide +kernel
theorem dX8_read_66 : decode cX8_read 66 = .ok (.iconst 1, 1) := by decide +kernel
theorem dX8_read_67 : decode cX8_read 67 = .ok (.iadd, 1) := by decide +kernel
theorem dX8_read_68 : decode cX8_read 68 = .ok (.iaload, 1) := by decide +kernel
theorem dX8_read_69 : decode cX8_read 69 = .ok (.aload_n 0, 1) := by decide +kernel
theorem dX8_read_70 : decode cX8_read 70 = .ok (.getfield 104, 3) := by decide +kernel
theorem dX8_read_73 : decode cX8_read 73 = .ok (.iload_n 3, 1) := by decide +kernel
theorem dX8_read_74 : decode cX8_read 74 = .ok (.iconst 3, 1) := by decide +kernel
theorem dX8_read_75 : decode cX8_read 75 = .ok (.iload_n 2, 1) := by decide +kernel
theorem dX8_read_76 : decode cX8_read 76 = .ok (.imul, 1) := by decide +kernel
theorem dX8_read_77 : decode cX8_read 77 = .ok (.iadd, 1) := by decide +kernel
theorem dX8_read_78 : decode cX8_read 78 = .ok (.iconst 2, 1) := by decide +kernel
theorem dX8_read_79 : decode cX8_read 79 = .ok (.iadd, 1) := by decide +kernel
theorem dX8_read_80 : decode cX8_read 80 = .ok (.iaload, 1) := by decide +kernel
theorem dX8_read_81 : decode cX8_read 81 = .ok (.invokevirtual 188, 3) := by decide +kernel
theorem dX8_read_84 : decode cX8_read 84 = .ok (.ifCond .le 9, 3) := by decide +kernel
theorem dX8_read_87 : decode cX8_read 87 = .ok (.iinc 2 1, 3) := by decide +kernel
theorem dX8_read_90 : decode cX8_read 90 = .ok (.goto (-58), 3) := by decide +kernel
theorem dX8_read_93 : decode cX8_read 93 = .ok (.iload_n 2, 1) := by decide +kernel
theorem dX8_read_94 : decode cX8_read 94 = .ok (.ireturn, 1) := by decide +kernel
theorem dX8_asTold_0 : decode cX8_asTold 0 = .ok (.aload_n 0, 1) := by decide +kernel
theorem dX8_asTold_1 : decode cX8_asTold 1 = .ok (.invokevirtual 161, 3) := by decide +kernel
theorem dX8_asTold_4 : decode cX8_asTold 4 = .ok (.iconst 0, 1) := by decide +kernel
theorem dX8_asTold_5 : decode cX8_asTold 5 = .ok (.istore_n 1, 1) := by decide +kernel
theorem dX8_asTold_6 : decode cX8_asTold 6 = .ok (.iload_n 1, 1) := by decide +kernel
theorem dX8_asTold_7 : decode cX8_asTold 7 = .ok (.bipush 24, 2) := by decide +kernel
theorem dX8_asTold_9 : decode cX8_asTold 9 = .ok (.if_icmp .ge 21, 3) := by decide +kernel
theorem dX8_asTold_12 : decode cX8_asTold 12 = .ok (.aload_n 0, 1) := by decide +kernel
theorem dX8_asTold_13 : decode cX8_asTold 13 = .ok (.getfield 46, 3) := by decide +kernel
theorem dX8_asTold_16 : decode cX8_asTold 16 = .ok (.iload_n 1, 1) := by decide +kernel
theorem dX8_asTold_17 : decode cX8_asTold 17 = .ok (.aload_n 0, 1) := by decide +kernel
theorem dX8_asTold_18 : decode cX8_asTold 18 = .ok (.getfield 34, 3) := by decide +kernel
theorem dX8_asTold_21 : decode cX8_asTold 21 = .ok (.iload_n 1, 1) := by decide +kernel
theorem dX8_asTold_22 : decode cX8_asTold 22 = .ok (.iaload, 1) := by decide +kernel
theorem dX8_asTold_23 : decode cX8_asTold 23 = .ok (.iastore, 1) := by decide +kernel
theorem dX8_asTold_24 : decode cX8_asTold 24 = .ok (.iinc 1 1, 3) := by decide +kernel
theorem dX8_asTold_27 : decode cX8_asTold 27 = .ok (.goto (-21), 3) := by decide +kernel
theorem dX8_asTold_30 : decode cX8_asTold 30 = .ok (.aload_n 0, 1) := by decide +kernel
theorem dX8_asTold_31 : decode cX8_asTold 31 = .ok (.iconst 0, 1) := by decide +kernel
theorem dX8_asTold_32 : decode cX8_asTold 32 = .ok (.putfield 192, 3) := by decide +kernel
theorem dX8_asTold_35 : decode cX8_asTold 35 = .ok (.return_, 1) := by decide +kernel
theorem dX8_befalls_0 : decode cX8_befalls 0 = .ok (.aload_n 0, 1) := by decide +kernel
theorem dX8_befalls_1 : decode cX8_befalls 1 = .ok (.iconst 0, 1) := by decide +kernel
theorem dX8_befalls_2 : decode cX8_befalls 2 = .ok (.putfield 195, 3) := by decide +kernel
theorem dX8_befalls_5 : decode cX8_befalls 5 = .ok (.aload_n 0, 1) := by decide +kernel
theorem dX8_befalls_6 : decode cX8_befalls 6 = .ok (.iconst 0, 1) := by decide +kernel
theorem dX8_befalls_7 : decode cX8_befalls 7 = .ok (.putfield 199, 3) := by decide +kernel
theorem dX8_befalls_10 : decode cX8_befalls 10 = .ok (.iconst 0, 1) := by decide +kernel
theorem dX8_befalls_11 : decode cX8_befalls 11 = .ok (.istore_n 2, 1) := by decide +kernel
theorem dX8_befalls_12 : decode cX8_befalls 12 = .ok (.iload_n 2, 1) := by decide +kernel
theorem dX8_befalls_13 : decode cX8_befalls 13 = .ok (.aload_n 0, 1) := by decide +kernel
theorem dX8_befalls_14 : decode cX8_befalls 14 = .ok (.getfield 179, 3) := by decide +kernel
theorem dX8_befalls_17 : decode cX8_befalls 17 = .ok (.if_icmp .ge 112, 3) := by decide +kernel
theorem dX8_befalls_20 : decode cX8_befalls 20 = .ok (.aload_n 0, 1) := by decide +kernel
theorem dX8_befalls_21 : decode cX8_befalls 21 = .ok (.getfield 40, 3) := by decide +kernel
theorem dX8_befalls_24 : decode cX8_befalls 24 = .ok (.iload_n 2, 1) := by decide +kernel
theorem dX8_befalls_25 : decode cX8_befalls 25 = .ok (.iaload, 1) := by decide +kernel
theorem dX8_befalls_26 : decode cX8_befalls 26 = .ok (.iload_n 1, 1) := by decide +kernel
theorem dX8_befalls_27 : decode cX8_befalls 27 = .ok (.if_icmp .ne 96, 3) := by decide +kernel
theorem dX8_befalls_30 : decode cX8_befalls 30 = .ok (.aload_n 0, 1) := by decide +kernel
theorem dX8_befalls_31 : decode cX8_befalls 31 = .ok (.getfield 192, 3) := by decide +kernel
theorem dX8_befalls_34 : decode cX8_befalls 34 = .ok (.iload_n 2, 1) := by decide +kernel
theorem dX8_befalls_35 : decode cX8_befalls 35 = .ok (.invokestatic 202, 3) := by decide +kernel
theorem dX8_befalls_38 : decode cX8_befalls 38 = .ok (.ifCond .ne 85, 3) := by decide +kernel
theorem dX8_befalls_41 : decode cX8_befalls 41 = .ok (.aload_n 0, 1) := by decide +kernel
theorem dX8_befalls_42 : decode cX8_befalls 42 = .ok (.aload_n 0, 1) := by decide +kernel
theorem dX8_befalls_43 : decode cX8_befalls 43 = .ok (.getfield 195, 3) := by decide +kernel
theorem dX8_befalls_46 : decode cX8_befalls 46 = .ok (.ifCond .ne 12, 3) := by decide +kernel
theorem dX8_befalls_49 : decode cX8_befalls 49 = .ok (.aload_n 0, 1) := by decide +kernel
theorem dX8_befalls_50 : decode cX8_befalls 50 = .ok (.getfield 37, 3) := by decide +kernel
theorem dX8_befalls_53 : decode cX8_befalls 53 = .ok (.iload_n 2, 1) := by decide +kernel
theorem dX8_befalls_54 : decode cX8_befalls 54 = .ok (.iaload, 1) := by decide +kernel
theorem dX8_befalls_55 : decode cX8_befalls 55 = .ok (.ifCond .ne 7, 3) := by decide +kernel
theorem dX8_befalls_58 : decode cX8_befalls 58 = .ok (.iconst 1, 1) := by decide +kernel
theorem dX8_befalls_59 : decode cX8_befalls 59 = .ok (.goto 4, 3) := by decide +kernel
theorem dX8_befalls_62 : decode cX8_befalls 62 = .ok (.iconst 0, 1) := by decide +kernel
theorem dX8_befalls_63 : decode cX8_befalls 63 = .ok (.putfield 195, 3) := by decide +kernel
theorem dX8_befalls_66 : decode cX8_befalls 66 = .ok (.aload_n 0, 1) := by decide +kernel
theorem dX8_befalls_67 : decode cX8_befalls 67 = .ok (.aload_n 0, 1) := by decide +kernel
theorem dX8_befalls_68 : decode cX8_befalls 68 = .ok (.getfield 199, 3) := by decide +kernel
theorem dX8_befalls_71 : decode cX8_befalls 71 = .ok (.ifCond .ne 13, 3) := by decide +kernel
theorem dX8_befalls_74 : decode cX8_befalls 74 = .ok (.aload_n 0, 1) := by decide +kernel
theorem dX8_befalls_75 : decode cX8_befalls 75 = .ok (.getfield 37, 3) := by decide +kernel
theorem dX8_befalls_78 : decode cX8_befalls 78 = .ok (.iload_n 2, 1) := by decide +kernel
theorem dX8_befalls_79 : decode cX8_befalls 79 = .ok (.iaload, 1) := by decide +kernel
theorem dX8_befalls_80 : decode cX8_befalls 80 = .ok (.iconst 1, 1) := by decide +kernel
theorem dX8_befalls_81 : decode cX8_befalls 81 = .ok (.if_icmp .ne 7, 3) := by decide +kernel
theorem dX8_befalls_84 : decode cX8_befalls 84 = .ok (.iconst 1, 1) := by decide +kernel
theorem dX8_befalls_85 : decode cX8_befalls 85 = .ok (.goto 4, 3) := by decide +kernel
theorem dX8_befalls_88 : decode cX8_befalls 88 = .ok (.iconst 0, 1) := by decide +kernel
theorem dX8_befalls_89 : decode cX8_befalls 89 = .ok (.putfield 199, 3) := by decide +kernel
theorem dX8_befalls_92 : decode cX8_befalls 92 = .ok (.aload_n 0, 1) := by decide +kernel
theorem dX8_befalls_93 : decode cX8_befalls 93 = .ok (.dup, 1) := by decide +kernel
theorem dX8_befalls_94 : decode cX8_befalls 94 = .ok (.getfield 205, 3) := by decide +kernel
theorem dX8_befalls_97 : decode cX8_befalls 97 = .ok (.aload_n 0, 1) := by decide +kernel
theorem dX8_befalls_98 : decode cX8_befalls 98 = .ok (.getfield 37, 3) := by decide +kernel
theorem dX8_befalls_101 : decode cX8_befalls 101 = .ok (.iload_n 2, 1) := by decide +kernel
theorem dX8_befalls_102 : decode cX8_befalls 102 = .ok (.iaload, 1) := by decide +kernel
theorem dX8_befalls_103 : decode cX8_befalls 103 = .ok (.iconst 2, 1) := by decide +kernel
theorem dX8_befalls_104 : decode cX8_befalls 104 = .ok (.if_icmp .ne 14, 3) := by decide +kernel
theorem dX8_befalls_107 : decode cX8_befalls 107 = .ok (.iconst 1, 1) := by decide +kernel
theorem dX8_befalls_108 : decode cX8_befalls 108 = .ok (.aload_n 0, 1) := by decide +kernel
theorem dX8_befalls_109 : decode cX8_befalls 109 = .ok (.getfield 43, 3) := by decide +kernel
theorem dX8_befalls_112 : decode cX8_befalls 112 = .ok (.iload_n 2, 1) := by decide +kernel
theorem dX8_befalls_113 : decode cX8_befalls 113 = .ok (.iaload, 1) := by decide +kernel
theorem dX8_befalls_114 : decode cX8_befalls 114 = .ok (.ishl, 1) := by decide +kernel
theorem dX8_befalls_115 : decode cX8_befalls 115 = .ok (.goto 4, 3) := by decide +kernel
theorem dX8_befalls_118 : decode cX8_befalls 118 = .ok (.iconst 0, 1) := by decide +kernel
theorem dX8_befalls_119 : decode cX8_befalls 119 = .ok (.ior, 1) := by decide +kernel
theorem dX8_befalls_120 : decode cX8_befalls 120 = .ok (.putfield 205, 3) := by decide +kernel
theorem dX8_befalls_123 : decode cX8_befalls 123 = .ok (.iinc 2 1, 3) := by decide +kernel
theorem dX8_befalls_126 : decode cX8_befalls 126 = .ok (.goto (-114), 3) := by decide +kernel
theorem dX8_befalls_129 : decode cX8_befalls 129 = .ok (.iconst 0, 1) := by decide +kernel
theorem dX8_befalls_130 : decode cX8_befalls 130 = .ok (.istore_n 2, 1) := by decide +kernel
theorem dX8_befalls_131 : decode cX8_befalls 131 = .ok (.iload_n 2, 1) := by decide +kernel
theorem dX8_befalls_132 : decode cX8_befalls 132 = .ok (.aload_n 0, 1) := by decide +kernel
theorem dX8_befalls_133 : decode cX8_befalls 133 = .ok (.getfield 139, 3) := by decide +kernel
theorem dX8_befalls_136 : decode cX8_befalls 136 = .ok (.if_icmp .ge 43, 3) := by decide +kernel
theorem dX8_befalls_139 : decode cX8_befalls 139 = .ok (.aload_n 0, 1) := by decide +kernel
theorem dX8_befalls_140 : decode cX8_befalls 140 = .ok (.getfield 58, 3) := by decide +kernel
theorem dX8_befalls_143 : decode cX8_befalls 143 = .ok (.aload_n 0, 1) := by decide +kernel
theorem dX8_befalls_144 : decode cX8_befalls 144 = .ok (.getfield 28, 3) := by decide +kernel
theorem dX8_befalls_147 : decode cX8_befalls 147 = .ok (.iload_n 2, 1) := by decide +kernel
theorem dX8_befalls_148 : decode cX8_befalls 148 = .ok (.iaload, 1) := by decide +kernel
theorem dX8_befalls_149 : decode cX8_befalls 149 = .ok (.dup2, 1) := by decide +kernel
theorem dX8_befalls_150 : decode cX8_befalls 150 = .ok (.iaload, 1) := by decide +kernel
theorem dX8_befalls_151 : decode cX8_befalls 151 = .ok (.aload_n 0, 1) := by decide +kernel
theorem dX8_befalls_152 : decode cX8_befalls 152 = .ok (.getfield 25, 3) := by decide +kernel
theorem dX8_befalls_155 : decode cX8_befalls 155 = .ok (.iload_n 2, 1) := by decide +kernel
theorem dX8_befalls_156 : decode cX8_befalls 156 = .ok (.iaload, 1) := by decide +kernel
theorem dX8_befalls_157 : decode cX8_befalls 157 = .ok (.iload_n 1, 1) := by decide +kernel
theorem dX8_befalls_158 : decode cX8_befalls 158 = .ok (.if_icmp .ne 12, 3) := by decide +kernel
theorem dX8_befalls_161 : decode cX8_befalls 161 = .ok (.aload_n 0, 1) := by decide +kernel
theorem dX8_befalls_162 : decode cX8_befalls 162 = .ok (.getfield 31, 3) := by decide +kernel
theorem dX8_befalls_165 : decode cX8_befalls 165 = .ok (.iload_n 2, 1) := by decide +kernel
theorem dX8_befalls_166 : decode cX8_befalls 166 = .ok (.iaload, 1) := by decide +kernel
theorem dX8_befalls_167 : decode cX8_befalls 167 = .ok (.goto 4, 3) := by decide +kernel
theorem dX8_befalls_170 : decode cX8_befalls 170 = .ok (.iconst 0, 1) := by decide +kernel
theorem dX8_befalls_171 : decode cX8_befalls 171 = .ok (.iadd, 1) := by decide +kernel
theorem dX8_befalls_172 : decode cX8_befalls 172 = .ok (.iastore, 1) := by decide +kernel
theorem dX8_befalls_173 : decode cX8_befalls 173 = .ok (.iinc 2 1, 3) := by decide +kernel
theorem dX8_befalls_176 : decode cX8_befalls 176 = .ok (.goto (-45), 3) := by decide +kernel
theorem dX8_befalls_179 : decode cX8_befalls 179 = .ok (.return_, 1) := by decide +kernel
theorem dX8_getsOut_0 : decode cX8_getsOut 0 = .ok (.aload_n 0, 1) := by decide +kernel
theorem dX8_getsOut_1 : decode cX8_getsOut 1 = .ok (.getfield 49, 3) := by decide +kernel
theorem dX8_getsOut_4 : decode cX8_getsOut 4 = .ok (.iload_n 1, 1) := by decide +kernel
theorem dX8_getsOut_5 : decode cX8_getsOut 5 = .ok (.iaload, 1) := by decide +kernel
theorem dX8_getsOut_6 : decode cX8_getsOut 6 = .ok (.bipush 12, 2) := by decide +kernel
theorem dX8_getsOut_8 : decode cX8_getsOut 8 = .ok (.idiv, 1) := by decide +kernel
theorem dX8_getsOut_9 : decode cX8_getsOut 9 = .ok (.istore_n 3, 1) := by decide +kernel
theorem dX8_getsOut_10 : decode cX8_getsOut 10 = .ok (.aload_n 0, 1) := by decide +kernel
theorem dX8_getsOut_11 : decode cX8_getsOut 11 = .ok (.getfield 52, 3) := by decide +kernel
theorem dX8_getsOut_14 : decode cX8_getsOut 14 = .ok (.iload_n 1, 1) := by decide +kernel
theorem dX8_getsOut_15 : decode cX8_getsOut 15 = .ok (.iaload, 1) := by decide +kernel
theorem dX8_getsOut_16 : decode cX8_getsOut 16 = .ok (.ifCond .le 43, 3) := by decide +kernel
theorem dX8_getsOut_19 : decode cX8_getsOut 19 = .ok (.aload_n 0, 1) := by decide +kernel
theorem dX8_getsOut_20 : decode cX8_getsOut 20 = .ok (.aload_n 0, 1) := by decide +kernel
theorem dX8_getsOut_21 : decode cX8_getsOut 21 = .ok (.getfield 208, 3) := by decide +kernel
theorem dX8_getsOut_24 : decode cX8_getsOut 24 = .ok (.iconst (-1), 1) := by decide +kernel
theorem dX8_getsOut_25 : decode cX8_getsOut 25 = .ok (.if_icmp .ne 7, 3) := by decide +kernel
theorem dX8_getsOut_28 : decode cX8_getsOut 28 = .ok (.iload_n 1, 1) := by decide +kernel
theorem dX8_getsOut_29 : decode cX8_getsOut 29 = .ok (.goto 7, 3) := by decide +kernel
theorem dX8_getsOut_32 : decode cX8_getsOut 32 = .ok (.aload_n 0, 1) := by decide +kernel
theorem dX8_getsOut_33 : decode cX8_getsOut 33 = .ok (.getfield 211, 3) := by decide +kernel
theorem dX8_getsOut_36 : decode cX8_getsOut 36 = .ok (.putfield 211, 3) := by decide +kernel
theorem dX8_getsOut_39 : decode cX8_getsOut 39 = .ok (.aload_n 0, 1) := by decide +kernel
theorem dX8_getsOut_40 : decode cX8_getsOut 40 = .ok (.aload_n 0, 1) := by decide +kernel
theorem dX8_getsOut_41 : decode cX8_getsOut 41 = .ok (.getfield 208, 3) := by decide +kernel
theorem dX8_getsOut_44 : decode cX8_getsOut 44 = .ok (.iconst (-1), 1) := by decide +kernel
theorem dX8_getsOut_45 : decode cX8_getsOut 45 = .ok (.if_icmp .ne 7, 3) := by decide +kernel
theorem dX8_getsOut_48 : decode cX8_getsOut 48 = .ok (.iload_n 2, 1) := by decide +kernel
theorem dX8_getsOut_49 : decode cX8_getsOut 49 = .ok (.goto 7, 3) := by decide +kernel
theorem dX8_getsOut_52 : decode cX8_getsOut 52 = .ok (.aload_n 0, 1) := by decide +kernel
theorem dX8_getsOut_53 : decode cX8_getsOut 53 = .ok (.getfield 208, 3) := by decide +kernel
theorem dX8_getsOut_56 : decode cX8_getsOut 56 = .ok (.putfield 208, 3) := by decide +kernel
theorem dX8_getsOut_59 : decode cX8_getsOut 59 = .ok (.aload_n 0, 1) := by decide +kernel
theorem dX8_getsOut_60 : decode cX8_getsOut 60 = .ok (.getfield 61, 3) := by decide +kernel
theorem dX8_getsOut_63 : decode cX8_getsOut 63 = .ok (.iload_n 3, 1) := by decide +kernel
theorem dX8_getsOut_64 : decode cX8_getsOut 64 = .ok (.dup2, 1) := by decide +kernel
theorem dX8_getsOut_65 : decode cX8_getsOut 65 = .ok (.iaload, 1) := by decide +kernel
theorem dX8_getsOut_66 : decode cX8_getsOut 66 = .ok (.aload_n 0, 1) := by decide +kernel
theorem dX8_getsOut_67 : decode cX8_getsOut 67 = .ok (.getfield 52, 3) := by decide +kernel
theorem dX8_getsOut_70 : decode cX8_getsOut 70 = .ok (.iload_n 1, 1) := by decide +kernel
theorem dX8_getsOut_71 : decode cX8_getsOut 71 = .ok (.iaload, 1) := by decide +kernel
theorem dX8_getsOut_72 : decode cX8_getsOut 72 = .ok (.iadd, 1) := by decide +kernel
theorem dX8_getsOut_73 : decode cX8_getsOut 73 = .ok (.iastore, 1) := by decide +kernel
theorem dX8_getsOut_74 : decode cX8_getsOut 74 = .ok (.aload_n 0, 1) := by decide +kernel
theorem dX8_getsOut_75 : decode cX8_getsOut 75 = .ok (.getfield 55, 3) := by decide +kernel
theorem dX8_getsOut_78 : decode cX8_getsOut 78 = .ok (.iload_n 1, 1) := by decide +kernel
theorem dX8_getsOut_79 : decode cX8_getsOut 79 = .ok (.dup2, 1) := by decide +kernel
theorem dX8_getsOut_80 : decode cX8_getsOut 80 = .ok (.iaload, 1) := by decide +kernel
theorem dX8_getsOut_81 : decode cX8_getsOut 81 = .ok (.aload_n 0, 1) := by decide +kernel
theorem dX8_getsOut_82 : decode cX8_getsOut 82 = .ok (.getfield 52, 3) := by decide +kernel
theorem dX8_getsOut_85 : decode cX8_getsOut 85 = .ok (.iload_n 1, 1) := by decide +kernel
theorem dX8_getsOut_86 : decode cX8_getsOut 86 = .ok (.iaload, 1) := by decide +kernel
theorem dX8_getsOut_87 : decode cX8_getsOut 87 = .ok (.iadd, 1) := by decide +kernel
theorem dX8_getsOut_88 : decode cX8_getsOut 88 = .ok (.iastore, 1) := by decide +kernel
theorem dX8_getsOut_89 : decode cX8_getsOut 89 = .ok (.aload_n 0, 1) := by decide +kernel
theorem dX8_getsOut_90 : decode cX8_getsOut 90 = .ok (.getfield 52, 3) := by decide +kernel
theorem dX8_getsOut_93 : decode cX8_getsOut 93 = .ok (.iload_n 1, 1) := by decide +kernel
theorem dX8_getsOut_94 : decode cX8_getsOut 94 = .ok (.iconst 0, 1) := by decide +kernel
theorem dX8_getsOut_95 : decode cX8_getsOut 95 = .ok (.iastore, 1) := by decide +kernel
theorem dX8_getsOut_96 : decode cX8_getsOut 96 = .ok (.return_, 1) := by decide +kernel
theorem dX8_getsIn_0 : decode cX8_getsIn 0 = .ok (.aload_n 0, 1) := by decide +kernel
theorem dX8_getsIn_1 : decode cX8_getsIn 1 = .ok (.getfield 49, 3) := by decide +kernel
theorem dX8_getsIn_4 : decode cX8_getsIn 4 = .ok (.iload_n 1, 1) := by decide +kernel
theorem dX8_getsIn_5 : decode cX8_getsIn 5 = .ok (.iaload, 1) := by decide +kernel
theorem dX8_getsIn_6 : decode cX8_getsIn 6 = .ok (.bipush 12, 2) := by decide +kernel
theorem dX8_getsIn_8 : decode cX8_getsIn 8 = .ok (.idiv, 1) := by decide +kernel
theorem dX8_getsIn_9 : decode cX8_getsIn 9 = .ok (.istore_n 2, 1) := by decide +kernel
theorem dX8_getsIn_10 : decode cX8_getsIn 10 = .ok (.aload_n 0, 1) := by decide +kernel
theorem dX8_getsIn_11 : decode cX8_getsIn 11 = .ok (.getfield 19, 3) := by decide +kernel
theorem dX8_getsIn_14 : decode cX8_getsIn 14 = .ok (.iload_n 1, 1) := by decide +kernel
theorem dX8_getsIn_15 : decode cX8_getsIn 15 = .ok (.iaload, 1) := by decide +kernel
theorem dX8_getsIn_16 : decode cX8_getsIn 16 = .ok (.iconst 2, 1) := by decide +kernel
theorem dX8_getsIn_17 : decode cX8_getsIn 17 = .ok (.if_icmp .ne 14, 3) := by decide +kernel
theorem dX8_getsIn_20 : decode cX8_getsIn 20 = .ok (.aload_n 0, 1) := by decide +kernel
theorem dX8_getsIn_21 : decode cX8_getsIn 21 = .ok (.getfield 22, 3) := by decide +kernel
theorem dX8_getsIn_24 : decode cX8_getsIn 24 = .ok (.iload_n 1, 1) := by decide +kernel
theorem dX8_getsIn_25 : decode cX8_getsIn 25 = .ok (.iaload, 1) := by decide +kernel
theorem dX8_getsIn_26 : decode cX8_getsIn 26 = .ok (.iconst 2, 1) := by decide +kernel
theorem dX8_getsIn_27 : decode cX8_getsIn 27 = .ok (.idiv, 1) := by decide +kernel
theorem dX8_getsIn_28 : decode cX8_getsIn 28 = .ok (.goto 9, 3) := by decide +kernel
theorem dX8_getsIn_31 : decode cX8_getsIn 31 = .ok (.aload_n 0, 1) := by decide +kernel
theorem dX8_getsIn_32 : decode cX8_getsIn 32 = .ok (.getfield 22, 3) := by decide +kernel
theorem dX8_getsIn_35 : decode cX8_getsIn 35 = .ok (.iload_n 1, 1) := by decide +kernel
theorem dX8_getsIn_36 : decode cX8_getsIn 36 = .ok (.iaload, 1) := by decide +kernel
theorem dX8_getsIn_37 : decode cX8_getsIn 37 = .ok (.aload_n 0, 1) := by decide +kernel
theorem dX8_getsIn_38 : decode cX8_getsIn 38 = .ok (.getfield 52, 3) := by decide +kernel
theorem dX8_getsIn_41 : decode cX8_getsIn 41 = .ok (.iload_n 1, 1) := by decide +kernel
theorem dX8_getsIn_42 : decode cX8_getsIn 42 = .ok (.iaload, 1) := by decide +kernel
theorem dX8_getsIn_43 : decode cX8_getsIn 43 = .ok (.isub, 1) := by decide +kernel
theorem dX8_getsIn_44 : decode cX8_getsIn 44 = .ok (.istore_n 3, 1) := by decide +kernel
theorem dX8_getsIn_45 : decode cX8_getsIn 45 = .ok (.aload_n 0, 1) := by decide +kernel
theorem dX8_getsIn_46 : decode cX8_getsIn 46 = .ok (.getfield 58, 3) := by decide +kernel
theorem dX8_getsIn_49 : decode cX8_getsIn 49 = .ok (.iload_n 2, 1) := by decide +kernel
theorem dX8_getsIn_50 : decode cX8_getsIn 50 = .ok (.iaload, 1) := by decide +kernel
theorem dX8_getsIn_51 : decode cX8_getsIn 51 = .ok (.iload_n 3, 1) := by decide +kernel
theorem dX8_getsIn_52 : decode cX8_getsIn 52 = .ok (.if_icmp .ge 12, 3) := by decide +kernel
theorem dX8_getsIn_55 : decode cX8_getsIn 55 = .ok (.aload_n 0, 1) := by decide +kernel
theorem dX8_getsIn_56 : decode cX8_getsIn 56 = .ok (.getfield 58, 3) := by decide +kernel
theorem dX8_getsIn_59 : decode cX8_getsIn 59 = .ok (.iload_n 2, 1) := by decide +kernel
theorem dX8_getsIn_60 : decode cX8_getsIn 60 = .ok (.iaload, 1) := by decide +kernel
theorem dX8_getsIn_61 : decode cX8_getsIn 61 = .ok (.goto 4, 3) := by decide +kernel
theorem dX8_getsIn_64 : decode cX8_getsIn 64 = .ok (.iload_n 3, 1) := by decide +kernel
theorem dX8_getsIn_65 : decode cX8_getsIn 65 = .ok (.istore 4, 2) := by decide +kernel
theorem dX8_getsIn_67 : decode cX8_getsIn 67 = .ok (.aload_n 0, 1) := by decide +kernel
theorem dX8_getsIn_68 : decode cX8_getsIn 68 = .ok (.getfield 52, 3) := by decide +kernel
theorem dX8_getsIn_71 : decode cX8_getsIn 71 = .ok (.iload_n 1, 1) := by decide +kernel
theorem dX8_getsIn_72 : decode cX8_getsIn 72 = .ok (.dup2, 1) := by decide +kernel
theorem dX8_getsIn_73 : decode cX8_getsIn 73 = .ok (.iaload, 1) := by decide +kernel
theorem dX8_getsIn_74 : decode cX8_getsIn 74 = .ok (.iload 4, 2) := by decide +kernel
theorem dX8_getsIn_76 : decode cX8_getsIn 76 = .ok (.iadd, 1) := by decide +kernel
theorem dX8_getsIn_77 : decode cX8_getsIn 77 = .ok (.iastore, 1) := by decide +kernel
theorem dX8_getsIn_78 : decode cX8_getsIn 78 = .ok (.aload_n 0, 1) := by decide +kernel
theorem dX8_getsIn_79 : decode cX8_getsIn 79 = .ok (.getfield 58, 3) := by decide +kernel
theorem dX8_getsIn_82 : decode cX8_getsIn 82 = .ok (.iload_n 2, 1) := by decide +kernel
theorem dX8_getsIn_83 : decode cX8_getsIn 83 = .ok (.dup2, 1) := by decide +kernel
theorem dX8_getsIn_84 : decode cX8_getsIn 84 = .ok (.iaload, 1) := by decide +kernel
theorem dX8_getsIn_85 : decode cX8_getsIn 85 = .ok (.iload 4, 2) := by decide +kernel
theorem dX8_getsIn_87 : decode cX8_getsIn 87 = .ok (.isub, 1) := by decide +kernel
theorem dX8_getsIn_88 : decode cX8_getsIn 88 = .ok (.iastore, 1) := by decide +kernel
theorem dX8_getsIn_89 : decode cX8_getsIn 89 = .ok (.aload_n 0, 1) := by decide +kernel
theorem dX8_getsIn_90 : decode cX8_getsIn 90 = .ok (.dup, 1) := by decide +kernel
theorem dX8_getsIn_91 : decode cX8_getsIn 91 = .ok (.getfield 214, 3) := by decide +kernel
theorem dX8_getsIn_94 : decode cX8_getsIn 94 = .ok (.iload 4, 2) := by decide +kernel
theorem dX8_getsIn_96 : decode cX8_getsIn 96 = .ok (.ifCond .le 9, 3) := by decide +kernel
theorem dX8_getsIn_99 : decode cX8_getsIn 99 = .ok (.iconst 1, 1) := by decide +kernel
theorem dX8_getsIn_100 : decode cX8_getsIn 100 = .ok (.iload_n 1, 1) := by decide +kernel
theorem dX8_getsIn_101 : decode cX8_getsIn 101 = .ok (.ishl, 1) := by decide +kernel
theorem dX8_getsIn_102 : decode cX8_getsIn 102 = .ok (.goto 4, 3) := by decide +kernel
theorem dX8_getsIn_105 : decode cX8_getsIn 105 = .ok (.iconst 0, 1) := by decide +kernel
theorem dX8_getsIn_106 : decode cX8_getsIn 106 = .ok (.ior, 1) := by decide +kernel
theorem dX8_getsIn_107 : decode cX8_getsIn 107 = .ok (.putfield 214, 3) := by decide +kernel
theorem dX8_getsIn_110 : decode cX8_getsIn 110 = .ok (.return_, 1) := by decide +kernel
theorem dX8_servesAll_0 : decode cX8_servesAll 0 = .ok (.iconst 0, 1) := by decide +kernel
theorem dX8_servesAll_1 : decode cX8_servesAll 1 = .ok (.istore_n 3, 1) := by decide +kernel
theorem dX8_servesAll_2 : decode cX8_servesAll 2 = .ok (.iload_n 3, 1) := by decide +kernel
theorem dX8_servesAll_3 : decode cX8_servesAll 3 = .ok (.aload_n 0, 1) := by decide +kernel
theorem dX8_servesAll_4 : decode cX8_servesAll 4 = .ok (.getfield 135, 3) := by decide +kernel
theorem dX8_servesAll_7 : decode cX8_servesAll 7 = .ok (.if_icmp .ge 80, 3) := by decide +kernel
theorem dX8_servesAll_10 : decode cX8_servesAll 10 = .ok (.aload_n 0, 1) := by decide +kernel
theorem dX8_servesAll_11 : decode cX8_servesAll 11 = .ok (.getfield 49, 3) := by decide +kernel
theorem dX8_servesAll_14 : decode cX8_servesAll 14 = .ok (.iload_n 3, 1) := by decide +kernel
theorem dX8_servesAll_15 : decode cX8_servesAll 15 = .ok (.iaload, 1) := by decide +kernel
theorem dX8_servesAll_16 : decode cX8_servesAll 16 = .ok (.bipush 12, 2) := by decide +kernel
theorem dX8_servesAll_18 : decode cX8_servesAll 18 = .ok (.irem, 1) := by decide +kernel
theorem dX8_servesAll_19 : decode cX8_servesAll 19 = .ok (.ifCond .ne 34, 3) := by decide +kernel
theorem dX8_servesAll_22 : decode cX8_servesAll 22 = .ok (.aload_n 0, 1) := by decide +kernel
theorem dX8_servesAll_23 : decode cX8_servesAll 23 = .ok (.getfield 205, 3) := by decide +kernel
theorem dX8_servesAll_26 : decode cX8_servesAll 26 = .ok (.iload_n 3, 1) := by decide +kernel
theorem dX8_servesAll_27 : decode cX8_servesAll 27 = .ok (.invokestatic 202, 3) := by decide +kernel
theorem dX8_servesAll_30 : decode cX8_servesAll 30 = .ok (.ifCond .ne 23, 3) := by decide +kernel
theorem dX8_servesAll_33 : decode cX8_servesAll 33 = .ok (.aload_n 0, 1) := by decide +kernel
theorem dX8_servesAll_34 : decode cX8_servesAll 34 = .ok (.getfield 195, 3) := by decide +kernel
theorem dX8_servesAll_37 : decode cX8_servesAll 37 = .ok (.ifCond .eq 12, 3) := by decide +kernel
theorem dX8_servesAll_40 : decode cX8_servesAll 40 = .ok (.aload_n 0, 1) := by decide +kernel
theorem dX8_servesAll_41 : decode cX8_servesAll 41 = .ok (.getfield 19, 3) := by decide +kernel
theorem dX8_servesAll_44 : decode cX8_servesAll 44 = .ok (.iload_n 3, 1) := by decide +kernel
theorem dX8_servesAll_45 : decode cX8_servesAll 45 = .ok (.iaload, 1) := by decide +kernel
theorem dX8_servesAll_46 : decode cX8_servesAll 46 = .ok (.ifCond .eq 7, 3) := by decide +kernel
theorem dX8_servesAll_49 : decode cX8_servesAll 49 = .ok (.iconst 1, 1) := by decide +kernel
theorem dX8_servesAll_50 : decode cX8_servesAll 50 = .ok (.goto 4, 3) := by decide +kernel
theorem dX8_servesAll_53 : decode cX8_servesAll 53 = .ok (.iconst 0, 1) := by decide +kernel
theorem dX8_servesAll_54 : decode cX8_servesAll 54 = .ok (.istore 4, 2) := by decide +kernel
theorem dX8_servesAll_56 : decode cX8_servesAll 56 = .ok (.iload 4, 2) := by decide +kernel
theorem dX8_servesAll_58 : decode cX8_servesAll 58 = .ok (.ifCond .eq 13, 3) := by decide +kernel
theorem dX8_servesAll_61 : decode cX8_servesAll 61 = .ok (.iload_n 2, 1) := by decide +kernel
theorem dX8_servesAll_62 : decode cX8_servesAll 62 = .ok (.ifCond .eq 9, 3) := by decide +kernel
theorem dX8_servesAll_65 : decode cX8_servesAll 65 = .ok (.aload_n 0, 1) := by decide +kernel
theorem dX8_servesAll_66 : decode cX8_servesAll 66 = .ok (.iload_n 3, 1) := by decide +kernel
theorem dX8_servesAll_67 : decode cX8_servesAll 67 = .ok (.iload_n 1, 1) := by decide +kernel
theorem dX8_servesAll_68 : decode cX8_servesAll 68 = .ok (.invokevirtual 217, 3) := by decide +kernel
theorem dX8_servesAll_71 : decode cX8_servesAll 71 = .ok (.iload 4, 2) := by decide +kernel
theorem dX8_servesAll_73 : decode cX8_servesAll 73 = .ok (.ifCond .eq 8, 3) := by decide +kernel
theorem dX8_servesAll_76 : decode cX8_servesAll 76 = .ok (.aload_n 0, 1) := by decide +kernel
theorem dX8_servesAll_77 : decode cX8_servesAll 77 = .ok (.iload_n 3, 1) := by decide +kernel
theorem dX8_servesAll_78 : decode cX8_servesAll 78 = .ok (.invokevirtual 221, 3) := by decide +kernel
theorem dX8_servesAll_81 : decode cX8_servesAll 81 = .ok (.iinc 3 1, 3) := by decide +kernel
theorem dX8_servesAll_84 : decode cX8_servesAll 84 = .ok (.goto (-82), 3) := by decide +kernel
theorem dX8_servesAll_87 : decode cX8_servesAll 87 = .ok (.return_, 1) := by decide +kernel
theorem dX8_goesOn_0 : decode cX8_goesOn 0 = .ok (.iconst 0, 1) := by decide +kernel
theorem dX8_goesOn_1 : decode cX8_goesOn 1 = .ok (.istore_n 1, 1) := by decide +kernel
theorem dX8_goesOn_2 : decode cX8_goesOn 2 = .ok (.iconst 0, 1) := by decide +kernel
theorem dX8_goesOn_3 : decode cX8_goesOn 3 = .ok (.istore_n 2, 1) := by decide +kernel
theorem dX8_goesOn_4 : decode cX8_goesOn 4 = .ok (.iload_n 2, 1) := by decide +kernel
theorem dX8_goesOn_5 : decode cX8_goesOn 5 = .ok (.aload_n 0, 1) := by decide +kernel
theorem dX8_goesOn_6 : decode cX8_goesOn 6 = .ok (.getfield 135, 3) := by decide +kernel
theorem dX8_goesOn_9 : decode cX8_goesOn 9 = .ok (.if_icmp .ge 56, 3) := by decide +kernel
theorem dX8_goesOn_12 : decode cX8_goesOn 12 = .ok (.iload_n 1, 1) := by decide +kernel
theorem dX8_goesOn_13 : decode cX8_goesOn 13 = .ok (.aload_n 0, 1) := by decide +kernel
theorem dX8_goesOn_14 : decode cX8_goesOn 14 = .ok (.getfield 49, 3) := by decide +kernel
theorem dX8_goesOn_17 : decode cX8_goesOn 17 = .ok (.iload_n 2, 1) := by decide +kernel
theorem dX8_goesOn_18 : decode cX8_goesOn 18 = .ok (.iaload, 1) := by decide +kernel
theorem dX8_goesOn_19 : decode cX8_goesOn 19 = .ok (.bipush 12, 2) := by decide +kernel
theorem dX8_goesOn_21 : decode cX8_goesOn 21 = .ok (.if_icmp .ge 12, 3) := by decide +kernel
theorem dX8_goesOn_24 : decode cX8_goesOn 24 = .ok (.aload_n 0, 1) := by decide +kernel
theorem dX8_goesOn_25 : decode cX8_goesOn 25 = .ok (.getfield 52, 3) := by decide +kernel
theorem dX8_goesOn_28 : decode cX8_goesOn 28 = .ok (.iload_n 2, 1) := by decide +kernel
theorem dX8_goesOn_29 : decode cX8_goesOn 29 = .ok (.iaload, 1) := by decide +kernel
theorem dX8_goesOn_30 : decode cX8_goesOn 30 = .ok (.goto 10, 3) := by decide +kernel
theorem dX8_goesOn_33 : decode cX8_goesOn 33 = .ok (.aload_n 0, 1) := by decide +kernel
theorem dX8_goesOn_34 : decode cX8_goesOn 34 = .ok (.getfield 52, 3) := by decide +kernel
theorem dX8_goesOn_37 : decode cX8_goesOn 37 = .ok (.iload_n 2, 1) := by decide +kernel
theorem dX8_goesOn_38 : decode cX8_goesOn 38 = .ok (.iaload, 1) := by decide +kernel
theorem dX8_goesOn_39 : decode cX8_goesOn 39 = .ok (.ineg, 1) := by decide +kernel
theorem dX8_goesOn_40 : decode cX8_goesOn 40 = .ok (.iadd, 1) := by decide +kernel
theorem dX8_goesOn_41 : decode cX8_goesOn 41 = .ok (.istore_n 1, 1) := by decide +kernel
theorem dX8_goesOn_42 : decode cX8_goesOn 42 = .ok (.aload_n 0, 1) := by decide +kernel
theorem dX8_goesOn_43 : decode cX8_goesOn 43 = .ok (.getfield 49, 3) := by decide +kernel
theorem dX8_goesOn_46 : decode cX8_goesOn 46 = .ok (.iload_n 2, 1) := by decide +kernel
theorem dX8_goesOn_47 : decode cX8_goesOn 47 = .ok (.aload_n 0, 1) := by decide +kernel
theorem dX8_goesOn_48 : decode cX8_goesOn 48 = .ok (.getfield 49, 3) := by decide +kernel
theorem dX8_goesOn_51 : decode cX8_goesOn 51 = .ok (.iload_n 2, 1) := by decide +kernel
theorem dX8_goesOn_52 : decode cX8_goesOn 52 = .ok (.iaload, 1) := by decide +kernel
theorem dX8_goesOn_53 : decode cX8_goesOn 53 = .ok (.iconst 1, 1) := by decide +kernel
theorem dX8_goesOn_54 : decode cX8_goesOn 54 = .ok (.iadd, 1) := by decide +kernel
theorem dX8_goesOn_55 : decode cX8_goesOn 55 = .ok (.bipush 24, 2) := by decide +kernel
theorem dX8_goesOn_57 : decode cX8_goesOn 57 = .ok (.irem, 1) := by decide +kernel
theorem dX8_goesOn_58 : decode cX8_goesOn 58 = .ok (.iastore, 1) := by decide +kernel
theorem dX8_goesOn_59 : decode cX8_goesOn 59 = .ok (.iinc 2 1, 3) := by decide +kernel
theorem dX8_goesOn_62 : decode cX8_goesOn 62 = .ok (.goto (-58), 3) := by decide +kernel
theorem dX8_goesOn_65 : decode cX8_goesOn 65 = .ok (.aload_n 0, 1) := by decide +kernel
theorem dX8_goesOn_66 : decode cX8_goesOn 66 = .ok (.dup, 1) := by decide +kernel
theorem dX8_goesOn_67 : decode cX8_goesOn 67 = .ok (.getfield 225, 3) := by decide +kernel
theorem dX8_goesOn_70 : decode cX8_goesOn 70 = .ok (.iload_n 1, 1) := by decide +kernel
theorem dX8_goesOn_71 : decode cX8_goesOn 71 = .ok (.ifCond .le 7, 3) := by decide +kernel
theorem dX8_goesOn_74 : decode cX8_goesOn 74 = .ok (.iload_n 1, 1) := by decide +kernel
theorem dX8_goesOn_75 : decode cX8_goesOn 75 = .ok (.goto 4, 3) := by decide +kernel
theorem dX8_goesOn_78 : decode cX8_goesOn 78 = .ok (.iconst 0, 1) := by decide +kernel
theorem dX8_goesOn_79 : decode cX8_goesOn 79 = .ok (.iadd, 1) := by decide +kernel
theorem dX8_goesOn_80 : decode cX8_goesOn 80 = .ok (.putfield 225, 3) := by decide +kernel
theorem dX8_goesOn_83 : decode cX8_goesOn 83 = .ok (.return_, 1) := by decide +kernel
theorem dX8_goesBy_0 : decode cX8_goesBy 0 = .ok (.aload_n 0, 1) := by decide +kernel
theorem dX8_goesBy_1 : decode cX8_goesBy 1 = .ok (.iload_n 1, 1) := by decide +kernel
theorem dX8_goesBy_2 : decode cX8_goesBy 2 = .ok (.invokevirtual 228, 3) := by decide +kernel
theorem dX8_goesBy_5 : decode cX8_goesBy 5 = .ok (.aload_n 0, 1) := by decide +kernel
theorem dX8_goesBy_6 : decode cX8_goesBy 6 = .ok (.iconst 0, 1) := by decide +kernel
theorem dX8_goesBy_7 : decode cX8_goesBy 7 = .ok (.putfield 225, 3) := by decide +kernel
theorem dX8_goesBy_10 : decode cX8_goesBy 10 = .ok (.aload_n 0, 1) := by decide +kernel
theorem dX8_goesBy_11 : decode cX8_goesBy 11 = .ok (.getfield 199, 3) := by decide +kernel
theorem dX8_goesBy_14 : decode cX8_goesBy 14 = .ok (.ifCond .eq 7, 3) := by decide +kernel
theorem dX8_goesBy_17 : decode cX8_goesBy 17 = .ok (.iconst 0, 1) := by decide +kernel
theorem dX8_goesBy_18 : decode cX8_goesBy 18 = .ok (.goto 9, 3) := by decide +kernel
theorem dX8_goesBy_21 : decode cX8_goesBy 21 = .ok (.aload_n 0, 1) := by decide +kernel
theorem dX8_goesBy_22 : decode cX8_goesBy 22 = .ok (.getfield 46, 3) := by decide +kernel
theorem dX8_goesBy_25 : decode cX8_goesBy 25 = .ok (.iload_n 1, 1) := by decide +kernel
theorem dX8_goesBy_26 : decode cX8_goesBy 26 = .ok (.iaload, 1) := by decide +kernel
theorem dX8_goesBy_27 : decode cX8_goesBy 27 = .ok (.istore_n 2, 1) := by decide +kernel
theorem dX8_goesBy_28 : decode cX8_goesBy 28 = .ok (.iconst 0, 1) := by decide +kernel
theorem dX8_goesBy_29 : decode cX8_goesBy 29 = .ok (.istore_n 3, 1) := by decide +kernel
theorem dX8_goesBy_30 : decode cX8_goesBy 30 = .ok (.iload_n 3, 1) := by decide +kernel
theorem dX8_goesBy_31 : decode cX8_goesBy 31 = .ok (.iload_n 2, 1) := by decide +kernel
theorem dX8_goesBy_32 : decode cX8_goesBy 32 = .ok (.if_icmp .ge 19, 3) := by decide +kernel
theorem dX8_goesBy_35 : decode cX8_goesBy 35 = .ok (.aload_n 0, 1) := by decide +kernel
theorem dX8_goesBy_36 : decode cX8_goesBy 36 = .ok (.invokevirtual 231, 3) := by decide +kernel
theorem dX8_goesBy_39 : decode cX8_goesBy 39 = .ok (.aload_n 0, 1) := by decide +kernel
theorem dX8_goesBy_40 : decode cX8_goesBy 40 = .ok (.iload_n 1, 1) := by decide +kernel
theorem dX8_goesBy_41 : decode cX8_goesBy 41 = .ok (.iconst 1, 1) := by decide +kernel
theorem dX8_goesBy_42 : decode cX8_goesBy 42 = .ok (.invokevirtual 234, 3) := by decide +kernel
theorem dX8_goesBy_45 : decode cX8_goesBy 45 = .ok (.iinc 3 1, 3) := by decide +kernel
theorem dX8_goesBy_48 : decode cX8_goesBy 48 = .ok (.goto (-18), 3) := by decide +kernel
theorem dX8_goesBy_51 : decode cX8_goesBy 51 = .ok (.iload_n 2, 1) := by decide +kernel
theorem dX8_goesBy_52 : decode cX8_goesBy 52 = .ok (.ifCond .ne 9, 3) := by decide +kernel
theorem dX8_goesBy_55 : decode cX8_goesBy 55 = .ok (.aload_n 0, 1) := by decide +kernel
theorem dX8_goesBy_56 : decode cX8_goesBy 56 = .ok (.iload_n 1, 1) := by decide +kernel
theorem dX8_goesBy_57 : decode cX8_goesBy 57 = .ok (.iconst 0, 1) := by decide +kernel
theorem dX8_goesBy_58 : decode cX8_goesBy 58 = .ok (.invokevirtual 234, 3) := by decide +kernel
theorem dX8_goesBy_61 : decode cX8_goesBy 61 = .ok (.aload_n 0, 1) := by decide +kernel
theorem dX8_goesBy_62 : decode cX8_goesBy 62 = .ok (.dup, 1) := by decide +kernel
theorem dX8_goesBy_63 : decode cX8_goesBy 63 = .ok (.getfield 238, 3) := by decide +kernel
theorem dX8_goesBy_66 : decode cX8_goesBy 66 = .ok (.aload_n 0, 1) := by decide +kernel
theorem dX8_goesBy_67 : decode cX8_goesBy 67 = .ok (.getfield 225, 3) := by decide +kernel
theorem dX8_goesBy_70 : decode cX8_goesBy 70 = .ok (.iadd, 1) := by decide +kernel
theorem dX8_goesBy_71 : decode cX8_goesBy 71 = .ok (.putfield 238, 3) := by decide +kernel
theorem dX8_goesBy_74 : decode cX8_goesBy 74 = .ok (.aload_n 0, 1) := by decide +kernel
theorem dX8_goesBy_75 : decode cX8_goesBy 75 = .ok (.getfield 64, 3) := by decide +kernel
theorem dX8_goesBy_78 : decode cX8_goesBy 78 = .ok (.iconst 2, 1) := by decide +kernel
theorem dX8_goesBy_79 : decode cX8_goesBy 79 = .ok (.iload_n 1, 1) := by decide +kernel
theorem dX8_goesBy_80 : decode cX8_goesBy 80 = .ok (.imul, 1) := by decide +kernel
theorem dX8_goesBy_81 : decode cX8_goesBy 81 = .ok (.aload_n 0, 1) := by decide +kernel
theorem dX8_goesBy_82 : decode cX8_goesBy 82 = .ok (.getfield 58, 3) := by decide +kernel
theorem dX8_goesBy_85 : decode cX8_goesBy 85 = .ok (.iconst 0, 1) := by decide +kernel
theorem dX8_goesBy_86 : decode cX8_goesBy 86 = .ok (.iaload, 1) := by decide +kernel
theorem dX8_goesBy_87 : decode cX8_goesBy 87 = .ok (.iastore, 1) := by decide +kernel
theorem dX8_goesBy_88 : decode cX8_goesBy 88 = .ok (.aload_n 0, 1) := by decide +kernel
theorem dX8_goesBy_89 : decode cX8_goesBy 89 = .ok (.getfield 64, 3) := by decide +kernel
theorem dX8_goesBy_92 : decode cX8_goesBy 92 = .ok (.iconst 2, 1) := by decide +kernel
theorem dX8_goesBy_93 : decode cX8_goesBy 93 = .ok (.iload_n 1, 1) := by decide +kernel
theorem dX8_goesBy_94 : decode cX8_goesBy 94 = .ok (.imul, 1) := by decide +kernel
theorem dX8_goesBy_95 : decode cX8_goesBy 95 = .ok (.iconst 1, 1) := by decide +kernel
theorem dX8_goesBy_96 : decode cX8_goesBy 96 = .ok (.iadd, 1) := by decide +kernel
theorem dX8_goesBy_97 : decode cX8_goesBy 97 = .ok (.aload_n 0, 1) := by decide +kernel
theorem dX8_goesBy_98 : decode cX8_goesBy 98 = .ok (.getfield 58, 3) := by decide +kernel
theorem dX8_goesBy_101 : decode cX8_goesBy 101 = .ok (.iconst 1, 1) := by decide +kernel
theorem dX8_goesBy_102 : decode cX8_goesBy 102 = .ok (.iaload, 1) := by decide +kernel
theorem dX8_goesBy_103 : decode cX8_goesBy 103 = .ok (.iastore, 1) := by decide +kernel
theorem dX8_goesBy_104 : decode cX8_goesBy 104 = .ok (.aload_n 0, 1) := by decide +kernel
theorem dX8_goesBy_105 : decode cX8_goesBy 105 = .ok (.getfield 70, 3) := by decide +kernel
theorem dX8_goesBy_108 : decode cX8_goesBy 108 = .ok (.iload_n 1, 1) := by decide +kernel
theorem dX8_goesBy_109 : decode cX8_goesBy 109 = .ok (.aload_n 0, 1) := by decide +kernel
theorem dX8_goesBy_110 : decode cX8_goesBy 110 = .ok (.getfield 225, 3) := by decide +kernel
theorem dX8_goesBy_113 : decode cX8_goesBy 113 = .ok (.iastore, 1) := by decide +kernel
theorem dX8_goesBy_114 : decode cX8_goesBy 114 = .ok (.aload_n 0, 1) := by decide +kernel
theorem dX8_goesBy_115 : decode cX8_goesBy 115 = .ok (.getfield 67, 3) := by decide +kernel
theorem dX8_goesBy_118 : decode cX8_goesBy 118 = .ok (.iload_n 1, 1) := by decide +kernel
theorem dX8_goesBy_119 : decode cX8_goesBy 119 = .ok (.iconst 0, 1) := by decide +kernel
theorem dX8_goesBy_120 : decode cX8_goesBy 120 = .ok (.iastore, 1) := by decide +kernel
theorem dX8_goesBy_121 : decode cX8_goesBy 121 = .ok (.iconst 0, 1) := by decide +kernel
theorem dX8_goesBy_122 : decode cX8_goesBy 122 = .ok (.istore_n 3, 1) := by decide +kernel
theorem dX8_goesBy_123 : decode cX8_goesBy 123 = .ok (.iload_n 3, 1) := by decide +kernel
theorem dX8_goesBy_124 : decode cX8_goesBy 124 = .ok (.aload_n 0, 1) := by decide +kernel
theorem dX8_goesBy_125 : decode cX8_goesBy 125 = .ok (.getfield 135, 3) := by decide +kernel
theorem dX8_goesBy_128 : decode cX8_goesBy 128 = .ok (.if_icmp .ge 58, 3) := by decide +kernel
theorem dX8_goesBy_131 : decode cX8_goesBy 131 = .ok (.aload_n 0, 1) := by decide +kernel
theorem dX8_goesBy_132 : decode cX8_goesBy 132 = .ok (.getfield 73, 3) := by decide +kernel
theorem dX8_goesBy_135 : decode cX8_goesBy 135 = .ok (.bipush 6, 2) := by decide +kernel
theorem dX8_goesBy_137 : decode cX8_goesBy 137 = .ok (.iload_n 1, 1) := by decide +kernel
theorem dX8_goesBy_138 : decode cX8_goesBy 138 = .ok (.imul, 1) := by decide +kernel
theorem dX8_goesBy_139 : decode cX8_goesBy 139 = .ok (.iload_n 3, 1) := by decide +kernel
theorem dX8_goesBy_140 : decode cX8_goesBy 140 = .ok (.iadd, 1) := by decide +kernel
theorem dX8_goesBy_141 : decode cX8_goesBy 141 = .ok (.aload_n 0, 1) := by decide +kernel
theorem dX8_goesBy_142 : decode cX8_goesBy 142 = .ok (.getfield 49, 3) := by decide +kernel
theorem dX8_goesBy_145 : decode cX8_goesBy 145 = .ok (.iload_n 3, 1) := by decide +kernel
theorem dX8_goesBy_146 : decode cX8_goesBy 146 = .ok (.iaload, 1) := by decide +kernel
theorem dX8_goesBy_147 : decode cX8_goesBy 147 = .ok (.iastore, 1) := by decide +kernel
theorem dX8_goesBy_148 : decode cX8_goesBy 148 = .ok (.aload_n 0, 1) := by decide +kernel
theorem dX8_goesBy_149 : decode cX8_goesBy 149 = .ok (.getfield 76, 3) := by decide +kernel
theorem dX8_goesBy_152 : decode cX8_goesBy 152 = .ok (.bipush 6, 2) := by decide +kernel
theorem dX8_goesBy_154 : decode cX8_goesBy 154 = .ok (.iload_n 1, 1) := by decide +kernel
theorem dX8_goesBy_155 : decode cX8_goesBy 155 = .ok (.imul, 1) := by decide +kernel
theorem dX8_goesBy_156 : decode cX8_goesBy 156 = .ok (.iload_n 3, 1) := by decide +kernel
theorem dX8_goesBy_157 : decode cX8_goesBy 157 = .ok (.iadd, 1) := by decide +kernel
theorem dX8_goesBy_158 : decode cX8_goesBy 158 = .ok (.aload_n 0, 1) := by decide +kernel
theorem dX8_goesBy_159 : decode cX8_goesBy 159 = .ok (.getfield 52, 3) := by decide +kernel
theorem dX8_goesBy_162 : decode cX8_goesBy 162 = .ok (.iload_n 3, 1) := by decide +kernel
theorem dX8_goesBy_163 : decode cX8_goesBy 163 = .ok (.iaload, 1) := by decide +kernel
theorem dX8_goesBy_164 : decode cX8_goesBy 164 = .ok (.iastore, 1) := by decide +kernel
theorem dX8_goesBy_165 : decode cX8_goesBy 165 = .ok (.aload_n 0, 1) := by decide +kernel
theorem dX8_goesBy_166 : decode cX8_goesBy 166 = .ok (.getfield 67, 3) := by decide +kernel
theorem dX8_goesBy_169 : decode cX8_goesBy 169 = .ok (.iload_n 1, 1) := by decide +kernel
theorem dX8_goesBy_170 : decode cX8_goesBy 170 = .ok (.dup2, 1) := by decide +kernel
theorem dX8_goesBy_171 : decode cX8_goesBy 171 = .ok (.iaload, 1) := by decide +kernel
theorem dX8_goesBy_172 : decode cX8_goesBy 172 = .ok (.aload_n 0, 1) := by decide +kernel
theorem dX8_goesBy_173 : decode cX8_goesBy 173 = .ok (.getfield 52, 3) := by decide +kernel
theorem dX8_goesBy_176 : decode cX8_goesBy 176 = .ok (.iload_n 3, 1) := by decide +kernel
theorem dX8_goesBy_177 : decode cX8_goesBy 177 = .ok (.iaload, 1) := by decide +kernel
theorem dX8_goesBy_178 : decode cX8_goesBy 178 = .ok (.iadd, 1) := by decide +kernel
theorem dX8_goesBy_179 : decode cX8_goesBy 179 = .ok (.iastore, 1) := by decide +kernel
theorem dX8_goesBy_180 : decode cX8_goesBy 180 = .ok (.iinc 3 1, 3) := by decide +kernel
theorem dX8_goesBy_183 : decode cX8_goesBy 183 = .ok (.goto (-60), 3) := by decide +kernel
theorem dX8_goesBy_186 : decode cX8_goesBy 186 = .ok (.return_, 1) := by decide +kernel
theorem dX8_runs_0 : decode cX8_runs 0 = .ok (.aload_n 0, 1) := by decide +kernel
theorem dX8_runs_1 : decode cX8_runs 1 = .ok (.iconst 0, 1) := by decide +kernel
theorem dX8_runs_2 : decode cX8_runs 2 = .ok (.putfield 205, 3) := by decide +kernel
theorem dX8_runs_5 : decode cX8_runs 5 = .ok (.aload_n 0, 1) := by decide +kernel
theorem dX8_runs_6 : decode cX8_runs 6 = .ok (.iconst 0, 1) := by decide +kernel
theorem dX8_runs_7 : decode cX8_runs 7 = .ok (.putfield 214, 3) := by decide +kernel
theorem dX8_runs_10 : decode cX8_runs 10 = .ok (.aload_n 0, 1) := by decide +kernel
theorem dX8_runs_11 : decode cX8_runs 11 = .ok (.iconst 0, 1) := by decide +kernel
theorem dX8_runs_12 : decode cX8_runs 12 = .ok (.putfield 238, 3) := by decide +kernel
theorem dX8_runs_15 : decode cX8_runs 15 = .ok (.aload_n 0, 1) := by decide +kernel
theorem dX8_runs_16 : decode cX8_runs 16 = .ok (.iconst (-1), 1) := by decide +kernel
theorem dX8_runs_17 : decode cX8_runs 17 = .ok (.putfield 208, 3) := by decide +kernel
theorem dX8_runs_20 : decode cX8_runs 20 = .ok (.aload_n 0, 1) := by decide +kernel
theorem dX8_runs_21 : decode cX8_runs 21 = .ok (.iconst (-1), 1) := by decide +kernel
theorem dX8_runs_22 : decode cX8_runs 22 = .ok (.putfield 211, 3) := by decide +kernel
theorem dX8_runs_25 : decode cX8_runs 25 = .ok (.iconst 0, 1) := by decide +kernel
theorem dX8_runs_26 : decode cX8_runs 26 = .ok (.istore_n 1, 1) := by decide +kernel
theorem dX8_runs_27 : decode cX8_runs 27 = .ok (.iload_n 1, 1) := by decide +kernel
theorem dX8_runs_28 : decode cX8_runs 28 = .ok (.iconst 2, 1) := by decide +kernel
theorem dX8_runs_29 : decode cX8_runs 29 = .ok (.if_icmp .ge 23, 3) := by decide +kernel
theorem dX8_runs_32 : decode cX8_runs 32 = .ok (.aload_n 0, 1) := by decide +kernel
theorem dX8_runs_33 : decode cX8_runs 33 = .ok (.getfield 58, 3) := by decide +kernel
theorem dX8_runs_36 : decode cX8_runs 36 = .ok (.iload_n 1, 1) := by decide +kernel
theorem dX8_runs_37 : decode cX8_runs 37 = .ok (.iconst 0, 1) := by decide +kernel
theorem dX8_runs_38 : decode cX8_runs 38 = .ok (.iastore, 1) := by decide +kernel
theorem dX8_runs_39 : decode cX8_runs 39 = .ok (.aload_n 0, 1) := by decide +kernel
theorem dX8_runs_40 : decode cX8_runs 40 = .ok (.getfield 61, 3) := by decide +kernel
theorem dX8_runs_43 : decode cX8_runs 43 = .ok (.iload_n 1, 1) := by decide +kernel
theorem dX8_runs_44 : decode cX8_runs 44 = .ok (.iconst 0, 1) := by decide +kernel
theorem dX8_runs_45 : decode cX8_runs 45 = .ok (.iastore, 1) := by decide +kernel
theorem dX8_runs_46 : decode cX8_runs 46 = .ok (.iinc 1 1, 3) := by decide +kernel
theorem dX8_runs_49 : decode cX8_runs 49 = .ok (.goto (-22), 3) := by decide +kernel
theorem dX8_runs_52 : decode cX8_runs 52 = .ok (.iconst 0, 1) := by decide +kernel
theorem dX8_runs_53 : decode cX8_runs 53 = .ok (.istore_n 1, 1) := by decide +kernel
theorem dX8_runs_54 : decode cX8_runs 54 = .ok (.iload_n 1, 1) := by decide +kernel
theorem dX8_runs_55 : decode cX8_runs 55 = .ok (.bipush 6, 2) := by decide +kernel
theorem dX8_runs_57 : decode cX8_runs 57 = .ok (.if_icmp .ge 35, 3) := by decide +kernel
theorem dX8_runs_60 : decode cX8_runs 60 = .ok (.aload_n 0, 1) := by decide +kernel
theorem dX8_runs_61 : decode cX8_runs 61 = .ok (.getfield 49, 3) := by decide +kernel
theorem dX8_runs_64 : decode cX8_runs 64 = .ok (.iload_n 1, 1) := by decide +kernel
theorem dX8_runs_65 : decode cX8_runs 65 = .ok (.aload_n 0, 1) := by decide +kernel
theorem dX8_runs_66 : decode cX8_runs 66 = .ok (.getfield 16, 3) := by decide +kernel
theorem dX8_runs_69 : decode cX8_runs 69 = .ok (.iload_n 1, 1) := by decide +kernel
theorem dX8_runs_70 : decode cX8_runs 70 = .ok (.iaload, 1) := by decide +kernel
theorem dX8_runs_71 : decode cX8_runs 71 = .ok (.iastore, 1) := by decide +kernel
theorem dX8_runs_72 : decode cX8_runs 72 = .ok (.aload_n 0, 1) := by decide +kernel
theorem dX8_runs_73 : decode cX8_runs 73 = .ok (.getfield 52, 3) := by decide +kernel
theorem dX8_runs_76 : decode cX8_runs 76 = .ok (.iload_n 1, 1) := by decide +kernel
theorem dX8_runs_77 : decode cX8_runs 77 = .ok (.iconst 0, 1) := by decide +kernel
theorem dX8_runs_78 : decode cX8_runs 78 = .ok (.iastore, 1) := by decide +kernel
theorem dX8_runs_79 : decode cX8_runs 79 = .ok (.aload_n 0, 1) := by decide +kernel
theorem dX8_runs_80 : decode cX8_runs 80 = .ok (.getfield 55, 3) := by decide +kernel
theorem dX8_runs_83 : decode cX8_runs 83 = .ok (.iload_n 1, 1) := by decide +kernel
theorem dX8_runs_84 : decode cX8_runs 84 = .ok (.iconst 0, 1) := by decide +kernel
theorem dX8_runs_85 : decode cX8_runs 85 = .ok (.iastore, 1) := by decide +kernel
theorem dX8_runs_86 : decode cX8_runs 86 = .ok (.iinc 1 1, 3) := by decide +kernel
theorem dX8_runs_89 : decode cX8_runs 89 = .ok (.goto (-35), 3) := by decide +kernel
theorem dX8_runs_92 : decode cX8_runs 92 = .ok (.iconst 0, 1) := by decide +kernel
theorem dX8_runs_93 : decode cX8_runs 93 = .ok (.istore_n 1, 1) := by decide +kernel
theorem dX8_runs_94 : decode cX8_runs 94 = .ok (.iload_n 1, 1) := by decide +kernel
theorem dX8_runs_95 : decode cX8_runs 95 = .ok (.bipush 24, 2) := by decide +kernel
theorem dX8_runs_97 : decode cX8_runs 97 = .ok (.if_icmp .ge 14, 3) := by decide +kernel
theorem dX8_runs_100 : decode cX8_runs 100 = .ok (.aload_n 0, 1) := by decide +kernel
theorem dX8_runs_101 : decode cX8_runs 101 = .ok (.iload_n 1, 1) := by decide +kernel
theorem dX8_runs_102 : decode cX8_runs 102 = .ok (.invokevirtual 241, 3) := by decide +kernel
theorem dX8_runs_105 : decode cX8_runs 105 = .ok (.iinc 1 1, 3) := by decide +kernel
theorem dX8_runs_108 : decode cX8_runs 108 = .ok (.goto (-14), 3) := by decide +kernel
theorem dX8_runs_111 : decode cX8_runs 111 = .ok (.return_, 1) := by decide +kernel
theorem dX8_runsTold_0 : decode cX8_runsTold 0 = .ok (.aload_n 0, 1) := by decide +kernel
theorem dX8_runsTold_1 : decode cX8_runsTold 1 = .ok (.invokevirtual 244, 3) := by decide +kernel
theorem dX8_runsTold_4 : decode cX8_runsTold 4 = .ok (.aload_n 0, 1) := by decide +kernel
theorem dX8_runsTold_5 : decode cX8_runsTold 5 = .ok (.invokevirtual 247, 3) := by decide +kernel
theorem dX8_runsTold_8 : decode cX8_runsTold 8 = .ok (.return_, 1) := by decide +kernel
theorem dX8_atOf_0 : decode cX8_atOf 0 = .ok (.aload_n 0, 1) := by decide +kernel
theorem dX8_atOf_1 : decode cX8_atOf 1 = .ok (.invokevirtual 250, 3) := by decide +kernel
theorem dX8_atOf_4 : decode cX8_atOf 4 = .ok (.iload_n 3, 1) := by decide +kernel
theorem dX8_atOf_5 : decode cX8_atOf 5 = .ok (.ifCond .ne 17, 3) := by decide +kernel
theorem dX8_atOf_8 : decode cX8_atOf 8 = .ok (.aload_n 0, 1) := by decide +kernel
theorem dX8_atOf_9 : decode cX8_atOf 9 = .ok (.getfield 73, 3) := by decide +kernel
theorem dX8_atOf_12 : decode cX8_atOf 12 = .ok (.bipush 6, 2) := by decide +kernel
theorem dX8_atOf_14 : decode cX8_atOf 14 = .ok (.iload_n 1, 1) := by decide +kernel
theorem dX8_atOf_15 : decode cX8_atOf 15 = .ok (.imul, 1) := by decide +kernel
theorem dX8_atOf_16 : decode cX8_atOf 16 = .ok (.iload_n 2, 1) := by decide +kernel
theorem dX8_atOf_17 : decode cX8_atOf 17 = .ok (.iadd, 1) := by decide +kernel
theorem dX8_atOf_18 : decode cX8_atOf 18 = .ok (.iaload, 1) := by decide +kernel
theorem dX8_atOf_19 : decode cX8_atOf 19 = .ok (.goto 14, 3) := by decide +kernel
theorem dX8_atOf_22 : decode cX8_atOf 22 = .ok (.aload_n 0, 1) := by decide +kernel
theorem dX8_atOf_23 : decode cX8_atOf 23 = .ok (.getfield 76, 3) := by decide +kernel
theorem dX8_atOf_26 : decode cX8_atOf 26 = .ok (.bipush 6, 2) := by decide +kernel
theorem dX8_atOf_28 : decode cX8_atOf 28 = .ok (.iload_n 1, 1) := by decide +kernel
theorem dX8_atOf_29 : decode cX8_atOf 29 = .ok (.imul, 1) := by decide +kernel
theorem dX8_atOf_30 : decode cX8_atOf 30 = .ok (.iload_n 2, 1) := by decide +kernel
theorem dX8_atOf_31 : decode cX8_atOf 31 = .ok (.iadd, 1) := by decide +kernel
theorem dX8_atOf_32 : decode cX8_atOf 32 = .ok (.iaload, 1) := by decide +kernel
theorem dX8_atOf_33 : decode cX8_atOf 33 = .ok (.ireturn, 1) := by decide +kernel
theorem dX8_at_0 : decode cX8_at 0 = .ok (.iload_n 1, 1) := by decide +kernel
theorem dX8_at_1 : decode cX8_at 1 = .ok (.invokestatic 132, 3) := by decide +kernel
theorem dX8_at_4 : decode cX8_at 4 = .ok (.ifCond .eq 28, 3) := by decide +kernel
theorem dX8_at_7 : decode cX8_at 7 = .ok (.aload_n 0, 1) := by decide +kernel
theorem dX8_at_8 : decode cX8_at 8 = .ok (.iload_n 2, 1) := by decide +kernel
theorem dX8_at_9 : decode cX8_at 9 = .ok (.invokevirtual 164, 3) := by decide +kernel
theorem dX8_at_12 : decode cX8_at 12 = .ok (.ifCond .eq 20, 3) := by decide +kernel
theorem dX8_at_15 : decode cX8_at 15 = .ok (.iload_n 3, 1) := by decide +kernel
theorem dX8_at_16 : decode cX8_at 16 = .ok (.invokestatic 253, 3) := by decide +kernel
theorem dX8_at_19 : decode cX8_at 19 = .ok (.ifCond .eq 13, 3) := by decide +kernel
theorem dX8_at_22 : decode cX8_at 22 = .ok (.aload_n 0, 1) := by decide +kernel
theorem dX8_at_23 : decode cX8_at 23 = .ok (.iload_n 1, 1) := by decide +kernel
theorem dX8_at_24 : decode cX8_at 24 = .ok (.iload_n 2, 1) := by decide +kernel
theorem dX8_at_25 : decode cX8_at 25 = .ok (.iload_n 3, 1) := by decide +kernel
theorem dX8_at_26 : decode cX8_at 26 = .ok (.invokevirtual 256, 3) := by decide +kernel
theorem dX8_at_29 : decode cX8_at 29 = .ok (.goto 5, 3) := by decide +kernel
theorem dX8_at_32 : decode cX8_at 32 = .ok (.bipush (-2), 2) := by decide +kernel
theorem dX8_at_34 : decode cX8_at 34 = .ok (.ireturn, 1) := by decide +kernel
theorem dX8_waitsOf_0 : decode cX8_waitsOf 0 = .ok (.aload_n 0, 1) := by decide +kernel
theorem dX8_waitsOf_1 : decode cX8_waitsOf 1 = .ok (.invokevirtual 250, 3) := by decide +kernel
theorem dX8_waitsOf_4 : decode cX8_waitsOf 4 = .ok (.iload_n 2, 1) := by decide +kernel
theorem dX8_waitsOf_5 : decode cX8_waitsOf 5 = .ok (.iconst 2, 1) := by decide +kernel
theorem dX8_waitsOf_6 : decode cX8_waitsOf 6 = .ok (.if_icmp .ge 16, 3) := by decide +kernel
theorem dX8_waitsOf_9 : decode cX8_waitsOf 9 = .ok (.aload_n 0, 1) := by decide +kernel
theorem dX8_waitsOf_10 : decode cX8_waitsOf 10 = .ok (.getfield 64, 3) := by decide +kernel
theorem dX8_waitsOf_13 : decode cX8_waitsOf 13 = .ok (.iconst 2, 1) := by decide +kernel
theorem dX8_waitsOf_14 : decode cX8_waitsOf 14 = .ok (.iload_n 1, 1) := by decide +kernel
theorem dX8_waitsOf_15 : decode cX8_waitsOf 15 = .ok (.imul, 1) := by decide +kernel
theorem dX8_waitsOf_16 : decode cX8_waitsOf 16 = .ok (.iload_n 2, 1) := by decide +kernel
theorem dX8_waitsOf_17 : decode cX8_waitsOf 17 = .ok (.iadd, 1) := by decide +kernel
theorem dX8_waitsOf_18 : decode cX8_waitsOf 18 = .ok (.iaload, 1) := by decide +kernel
theorem dX8_waitsOf_19 : decode cX8_waitsOf 19 = .ok (.goto 23, 3) := by decide +kernel
theorem dX8_waitsOf_22 : decode cX8_waitsOf 22 = .ok (.iload_n 2, 1) := by decide +kernel
theorem dX8_waitsOf_23 : decode cX8_waitsOf 23 = .ok (.iconst 2, 1) := by decide +kernel
theorem dX8_waitsOf_24 : decode cX8_waitsOf 24 = .ok (.if_icmp .ne 12, 3) := by decide +kernel
theorem dX8_waitsOf_27 : decode cX8_waitsOf 27 = .ok (.aload_n 0, 1) := by decide +kernel
theorem dX8_waitsOf_28 : decode cX8_waitsOf 28 = .ok (.getfield 67, 3) := by decide +kernel
theorem dX8_waitsOf_31 : decode cX8_waitsOf 31 = .ok (.iload_n 1, 1) := by decide +kernel
theorem dX8_waitsOf_32 : decode cX8_waitsOf 32 = .ok (.iaload, 1) := by decide +kernel
theorem dX8_waitsOf_33 : decode cX8_waitsOf 33 = .ok (.goto 9, 3) := by decide +kernel
theorem dX8_waitsOf_36 : decode cX8_waitsOf 36 = .ok (.aload_n 0, 1) := by decide +kernel
theorem dX8_waitsOf_37 : decode cX8_waitsOf 37 = .ok (.getfield 70, 3) := by decide +kernel
theorem dX8_waitsOf_40 : decode cX8_waitsOf 40 = .ok (.iload_n 1, 1) := by decide +kernel
theorem dX8_waitsOf_41 : decode cX8_waitsOf 41 = .ok (.iaload, 1) := by decide +kernel
theorem dX8_waitsOf_42 : decode cX8_waitsOf 42 = .ok (.ireturn, 1) := by decide +kernel
theorem dX8_waits_0 : decode cX8_waits 0 = .ok (.iload_n 1, 1) := by decide +kernel
theorem dX8_waits_1 : decode cX8_waits 1 = .ok (.invokestatic 132, 3) := by decide +kernel
theorem dX8_waits_4 : decode cX8_waits 4 = .ok (.ifCond .eq 21, 3) := by decide +kernel
theorem dX8_waits_7 : decode cX8_waits 7 = .ok (.iload_n 2, 1) := by decide +kernel
theorem dX8_waits_8 : decode cX8_waits 8 = .ok (.iconst 0, 1) := by decide +kernel
theorem dX8_waits_9 : decode cX8_waits 9 = .ok (.iconst 3, 1) := by decide +kernel
theorem dX8_waits_10 : decode cX8_waits 10 = .ok (.invokestatic 112, 3) := by decide +kernel
theorem dX8_waits_13 : decode cX8_waits 13 = .ok (.ifCond .eq 12, 3) := by decide +kernel
theorem dX8_waits_16 : decode cX8_waits 16 = .ok (.aload_n 0, 1) := by decide +kernel
theorem dX8_waits_17 : decode cX8_waits 17 = .ok (.iload_n 1, 1) := by decide +kernel
theorem dX8_waits_18 : decode cX8_waits 18 = .ok (.iload_n 2, 1) := by decide +kernel
theorem dX8_waits_19 : decode cX8_waits 19 = .ok (.invokevirtual 259, 3) := by decide +kernel
theorem dX8_waits_22 : decode cX8_waits 22 = .ok (.goto 5, 3) := by decide +kernel
theorem dX8_waits_25 : decode cX8_waits 25 = .ok (.bipush (-2), 2) := by decide +kernel
theorem dX8_waits_27 : decode cX8_waits 27 = .ok (.ireturn, 1) := by decide +kernel
theorem dX8_overOf_0 : decode cX8_overOf 0 = .ok (.aload_n 0, 1) := by decide +kernel
theorem dX8_overOf_1 : decode cX8_overOf 1 = .ok (.invokevirtual 250, 3) := by decide +kernel
theorem dX8_overOf_4 : decode cX8_overOf 4 = .ok (.aload_n 0, 1) := by decide +kernel
theorem dX8_overOf_5 : decode cX8_overOf 5 = .ok (.getfield 61, 3) := by decide +kernel
theorem dX8_overOf_8 : decode cX8_overOf 8 = .ok (.iload_n 1, 1) := by decide +kernel
theorem dX8_overOf_9 : decode cX8_overOf 9 = .ok (.iaload, 1) := by decide +kernel
theorem dX8_overOf_10 : decode cX8_overOf 10 = .ok (.ireturn, 1) := by decide +kernel
theorem dX8_over_0 : decode cX8_over 0 = .ok (.iload_n 1, 1) := by decide +kernel
theorem dX8_over_1 : decode cX8_over 1 = .ok (.invokestatic 253, 3) := by decide +kernel
theorem dX8_over_4 : decode cX8_over 4 = .ok (.ifCond .eq 11, 3) := by decide +kernel
theorem dX8_over_7 : decode cX8_over 7 = .ok (.aload_n 0, 1) := by decide +kernel
theorem dX8_over_8 : decode cX8_over 8 = .ok (.iload_n 1, 1) := by decide +kernel
theorem dX8_over_9 : decode cX8_over 9 = .ok (.invokevirtual 262, 3) := by decide +kernel
theorem dX8_over_12 : decode cX8_over 12 = .ok (.goto 5, 3) := by decide +kernel
theorem dX8_over_15 : decode cX8_over 15 = .ok (.bipush (-2), 2) := by decide +kernel
theorem dX8_over_17 : decode cX8_over 17 = .ok (.ireturn, 1) := by decide +kernel
theorem dX8_sumOf_0 : decode cX8_sumOf 0 = .ok (.aload_n 0, 1) := by decide +kernel
theorem dX8_sumOf_1 : decode cX8_sumOf 1 = .ok (.invokevirtual 250, 3) := by decide +kernel
theorem dX8_sumOf_4 : decode cX8_sumOf 4 = .ok (.aload_n 0, 1) := by decide +kernel
theorem dX8_sumOf_5 : decode cX8_sumOf 5 = .ok (.getfield 238, 3) := by decide +kernel
theorem dX8_sumOf_8 : decode cX8_sumOf 8 = .ok (.ireturn, 1) := by decide +kernel
theorem dX8_sum_0 : decode cX8_sum 0 = .ok (.aload_n 0, 1) := by decide +kernel
theorem dX8_sum_1 : decode cX8_sum 1 = .ok (.invokevirtual 265, 3) := by decide +kernel
theorem dX8_sum_4 : decode cX8_sum 4 = .ok (.ireturn, 1) := by decide +kernel
theorem dX8_crowdOf_0 : decode cX8_crowdOf 0 = .ok (.aload_n 0, 1) := by decide +kernel
theorem dX8_crowdOf_1 : decode cX8_crowdOf 1 = .ok (.invokevirtual 250, 3) := by decide +kernel
theorem dX8_crowdOf_4 : decode cX8_crowdOf 4 = .ok (.iconst 0, 1) := by decide +kernel
theorem dX8_crowdOf_5 : decode cX8_crowdOf 5 = .ok (.istore_n 3, 1) := by decide +kernel
theorem dX8_crowdOf_6 : decode cX8_crowdOf 6 = .ok (.iconst 1, 1) := by decide +kernel
theorem dX8_crowdOf_7 : decode cX8_crowdOf 7 = .ok (.istore 4, 2) := by decide +kernel
theorem dX8_crowdOf_9 : decode cX8_crowdOf 9 = .ok (.iload 4, 2) := by decide +kernel
theorem dX8_crowdOf_11 : decode cX8_crowdOf 11 = .ok (.bipush 24, 2) := by decide +kernel
theorem dX8_crowdOf_13 : decode cX8_crowdOf 13 = .ok (.if_icmp .ge 40, 3) := by decide +kernel
theorem dX8_crowdOf_16 : decode cX8_crowdOf 16 = .ok (.aload_n 0, 1) := by decide +kernel
theorem dX8_crowdOf_17 : decode cX8_crowdOf 17 = .ok (.getfield 64, 3) := by decide +kernel
theorem dX8_crowdOf_20 : decode cX8_crowdOf 20 = .ok (.iconst 2, 1) := by decide +kernel
theorem dX8_crowdOf_21 : decode cX8_crowdOf 21 = .ok (.iload 4, 2) := by decide +kernel
theorem dX8_crowdOf_23 : decode cX8_crowdOf 23 = .ok (.imul, 1) := by decide +kernel
theorem dX8_crowdOf_24 : decode cX8_crowdOf 24 = .ok (.iload_n 1, 1) := by decide +kernel
theorem dX8_crowdOf_25 : decode cX8_crowdOf 25 = .ok (.iadd, 1) := by decide +kernel
theorem dX8_crowdOf_26 : decode cX8_crowdOf 26 = .ok (.iaload, 1) := by decide +kernel
theorem dX8_crowdOf_27 : decode cX8_crowdOf 27 = .ok (.aload_n 0, 1) := by decide +kernel
theorem dX8_crowdOf_28 : decode cX8_crowdOf 28 = .ok (.getfield 64, 3) := by decide +kernel
theorem dX8_crowdOf_31 : decode cX8_crowdOf 31 = .ok (.iconst 2, 1) := by decide +kernel
theorem dX8_crowdOf_32 : decode cX8_crowdOf 32 = .ok (.iload_n 3, 1) := by decide +kernel
theorem dX8_crowdOf_33 : decode cX8_crowdOf 33 = .ok (.imul, 1) := by decide +kernel
theorem dX8_crowdOf_34 : decode cX8_crowdOf 34 = .ok (.iload_n 1, 1) := by decide +kernel
theorem dX8_crowdOf_35 : decode cX8_crowdOf 35 = .ok (.iadd, 1) := by decide +kernel
theorem dX8_crowdOf_36 : decode cX8_crowdOf 36 = .ok (.iaload, 1) := by decide +kernel
theorem dX8_crowdOf_37 : decode cX8_crowdOf 37 = .ok (.if_icmp .le 8, 3) := by decide +kernel
theorem dX8_crowdOf_40 : decode cX8_crowdOf 40 = .ok (.iload 4, 2) := by decide +kernel
theorem dX8_crowdOf_42 : decode cX8_crowdOf 42 = .ok (.goto 4, 3) := by decide +kernel
theorem dX8_crowdOf_45 : decode cX8_crowdOf 45 = .ok (.iload_n 3, 1) := by decide +kernel
theorem dX8_crowdOf_46 : decode cX8_crowdOf 46 = .ok (.istore_n 3, 1) := by decide +kernel
theorem dX8_crowdOf_47 : decode cX8_crowdOf 47 = .ok (.iinc 4 1, 3) := by decide +kernel
theorem dX8_crowdOf_50 : decode cX8_crowdOf 50 = .ok (.goto (-41), 3) := by decide +kernel
theorem dX8_crowdOf_53 : decode cX8_crowdOf 53 = .ok (.iload_n 2, 1) := by decide +kernel
theorem dX8_crowdOf_54 : decode cX8_crowdOf 54 = .ok (.ifCond .ne 7, 3) := by decide +kernel
theorem dX8_crowdOf_57 : decode cX8_crowdOf 57 = .ok (.iload_n 3, 1) := by decide +kernel
theorem dX8_crowdOf_58 : decode cX8_crowdOf 58 = .ok (.goto 13, 3) := by decide +kernel
theorem dX8_crowdOf_61 : decode cX8_crowdOf 61 = .ok (.aload_n 0, 1) := by decide +kernel
theorem dX8_crowdOf_62 : decode cX8_crowdOf 62 = .ok (.getfield 64, 3) := by decide +kernel
theorem dX8_crowdOf_65 : decode cX8_crowdOf 65 = .ok (.iconst 2, 1) := by decide +kernel
theorem dX8_crowdOf_66 : decode cX8_crowdOf 66 = .ok (.iload_n 3, 1) := by decide +kernel
theorem dX8_crowdOf_67 : decode cX8_crowdOf 67 = .ok (.imul, 1) := by decide +kernel
theorem dX8_crowdOf_68 : decode cX8_crowdOf 68 = .ok (.iload_n 1, 1) := by decide +kernel
theorem dX8_crowdOf_69 : decode cX8_crowdOf 69 = .ok (.iadd, 1) := by decide +kernel
theorem dX8_crowdOf_70 : decode cX8_crowdOf 70 = .ok (.iaload, 1) := by decide +kernel
theorem dX8_crowdOf_71 : decode cX8_crowdOf 71 = .ok (.ireturn, 1) := by decide +kernel
theorem dX8_crowd_0 : decode cX8_crowd 0 = .ok (.iload_n 1, 1) := by decide +kernel
theorem dX8_crowd_1 : decode cX8_crowd 1 = .ok (.invokestatic 253, 3) := by decide +kernel
theorem dX8_crowd_4 : decode cX8_crowd 4 = .ok (.ifCond .eq 19, 3) := by decide +kernel
theorem dX8_crowd_7 : decode cX8_crowd 7 = .ok (.iload_n 2, 1) := by decide +kernel
theorem dX8_crowd_8 : decode cX8_crowd 8 = .ok (.invokestatic 253, 3) := by decide +kernel
theorem dX8_crowd_11 : decode cX8_crowd 11 = .ok (.ifCond .eq 12, 3) := by decide +kernel
theorem dX8_crowd_14 : decode cX8_crowd 14 = .ok (.aload_n 0, 1) := by decide +kernel
theorem dX8_crowd_15 : decode cX8_crowd 15 = .ok (.iload_n 1, 1) := by decide +kernel
theorem dX8_crowd_16 : decode cX8_crowd 16 = .ok (.iload_n 2, 1) := by decide +kernel
theorem dX8_crowd_17 : decode cX8_crowd 17 = .ok (.invokevirtual 268, 3) := by decide +kernel
theorem dX8_crowd_20 : decode cX8_crowd 20 = .ok (.goto 5, 3) := by decide +kernel
theorem dX8_crowd_23 : decode cX8_crowd 23 = .ok (.bipush (-2), 2) := by decide +kernel
theorem dX8_crowd_25 : decode cX8_crowd 25 = .ok (.ireturn, 1) := by decide +kernel
theorem dX8_firstOf_0 : decode cX8_firstOf 0 = .ok (.aload_n 0, 1) := by decide +kernel
theorem dX8_firstOf_1 : decode cX8_firstOf 1 = .ok (.invokevirtual 250, 3) := by decide +kernel
theorem dX8_firstOf_4 : decode cX8_firstOf 4 = .ok (.iload_n 1, 1) := by decide +kernel
theorem dX8_firstOf_5 : decode cX8_firstOf 5 = .ok (.ifCond .ne 10, 3) := by decide +kernel
theorem dX8_firstOf_8 : decode cX8_firstOf 8 = .ok (.aload_n 0, 1) := by decide +kernel
theorem dX8_firstOf_9 : decode cX8_firstOf 9 = .ok (.getfield 208, 3) := by decide +kernel
theorem dX8_firstOf_12 : decode cX8_firstOf 12 = .ok (.goto 7, 3) := by decide +kernel
theorem dX8_firstOf_15 : decode cX8_firstOf 15 = .ok (.aload_n 0, 1) := by decide +kernel
theorem dX8_firstOf_16 : decode cX8_firstOf 16 = .ok (.getfield 211, 3) := by decide +kernel
theorem dX8_firstOf_19 : decode cX8_firstOf 19 = .ok (.ireturn, 1) := by decide +kernel
theorem dX8_first_0 : decode cX8_first 0 = .ok (.iload_n 1, 1) := by decide +kernel
theorem dX8_first_1 : decode cX8_first 1 = .ok (.invokestatic 253, 3) := by decide +kernel
theorem dX8_first_4 : decode cX8_first 4 = .ok (.ifCond .eq 11, 3) := by decide +kernel
theorem dX8_first_7 : decode cX8_first 7 = .ok (.aload_n 0, 1) := by decide +kernel
theorem dX8_first_8 : decode cX8_first 8 = .ok (.iload_n 1, 1) := by decide +kernel
theorem dX8_first_9 : decode cX8_first 9 = .ok (.invokevirtual 271, 3) := by decide +kernel
theorem dX8_first_12 : decode cX8_first 12 = .ok (.goto 5, 3) := by decide +kernel
theorem dX8_first_15 : decode cX8_first 15 = .ok (.bipush (-2), 2) := by decide +kernel
theorem dX8_first_17 : decode cX8_first 17 = .ok (.ireturn, 1) := by decide +kernel
theorem dX8_carriedOf_0 : decode cX8_carriedOf 0 = .ok (.aload_n 0, 1) := by decide +kernel
theorem dX8_carriedOf_1 : decode cX8_carriedOf 1 = .ok (.invokevirtual 250, 3) := by decide +kernel
theorem dX8_carriedOf_4 : decode cX8_carriedOf 4 = .ok (.aload_n 0, 1) := by decide +kernel
theorem dX8_carriedOf_5 : decode cX8_carriedOf 5 = .ok (.getfield 55, 3) := by decide +kernel
theorem dX8_carriedOf_8 : decode cX8_carriedOf 8 = .ok (.iload_n 1, 1) := by decide +kernel
theorem dX8_carriedOf_9 : decode cX8_carriedOf 9 = .ok (.iaload, 1) := by decide +kernel
theorem dX8_carriedOf_10 : decode cX8_carriedOf 10 = .ok (.ireturn, 1) := by decide +kernel
theorem dX8_carried_0 : decode cX8_carried 0 = .ok (.aload_n 0, 1) := by decide +kernel
theorem dX8_carried_1 : decode cX8_carried 1 = .ok (.iload_n 1, 1) := by decide +kernel
theorem dX8_carried_2 : decode cX8_carried 2 = .ok (.invokevirtual 164, 3) := by decide +kernel
theorem dX8_carried_5 : decode cX8_carried 5 = .ok (.ifCond .eq 11, 3) := by decide +kernel
theorem dX8_carried_8 : decode cX8_carried 8 = .ok (.aload_n 0, 1) := by decide +kernel
theorem dX8_carried_9 : decode cX8_carried 9 = .ok (.iload_n 1, 1) := by decide +kernel
theorem dX8_carried_10 : decode cX8_carried 10 = .ok (.invokevirtual 274, 3) := by decide +kernel
theorem dX8_carried_13 : decode cX8_carried 13 = .ok (.goto 5, 3) := by decide +kernel
theorem dX8_carried_16 : decode cX8_carried 16 = .ok (.bipush (-2), 2) := by decide +kernel
theorem dX8_carried_18 : decode cX8_carried 18 = .ok (.ireturn, 1) := by decide +kernel
theorem dX8_idleOf_0 : decode cX8_idleOf 0 = .ok (.aload_n 0, 1) := by decide +kernel
theorem dX8_idleOf_1 : decode cX8_idleOf 1 = .ok (.invokevirtual 250, 3) := by decide +kernel
theorem dX8_idleOf_4 : decode cX8_idleOf 4 = .ok (.iconst 1, 1) := by decide +kernel
theorem dX8_idleOf_5 : decode cX8_idleOf 5 = .ok (.aload_n 0, 1) := by decide +kernel
theorem dX8_idleOf_6 : decode cX8_idleOf 6 = .ok (.getfield 135, 3) := by decide +kernel
theorem dX8_idleOf_9 : decode cX8_idleOf 9 = .ok (.ishl, 1) := by decide +kernel
theorem dX8_idleOf_10 : decode cX8_idleOf 10 = .ok (.iconst 1, 1) := by decide +kernel
theorem dX8_idleOf_11 : decode cX8_idleOf 11 = .ok (.isub, 1) := by decide +kernel
theorem dX8_idleOf_12 : decode cX8_idleOf 12 = .ok (.aload_n 0, 1) := by decide +kernel
theorem dX8_idleOf_13 : decode cX8_idleOf 13 = .ok (.getfield 214, 3) := by decide +kernel
theorem dX8_idleOf_16 : decode cX8_idleOf 16 = .ok (.iconst (-1), 1) := by decide +kernel
theorem dX8_idleOf_17 : decode cX8_idleOf 17 = .ok (.ixor, 1) := by decide +kernel
theorem dX8_idleOf_18 : decode cX8_idleOf 18 = .ok (.iand, 1) := by decide +kernel
theorem dX8_idleOf_19 : decode cX8_idleOf 19 = .ok (.ireturn, 1) := by decide +kernel
theorem dX8_idle_0 : decode cX8_idle 0 = .ok (.aload_n 0, 1) := by decide +kernel
theorem dX8_idle_1 : decode cX8_idle 1 = .ok (.invokevirtual 277, 3) := by decide +kernel
theorem dX8_idle_4 : decode cX8_idle 4 = .ok (.ireturn, 1) := by decide +kernel
theorem dX8_leftNow_0 : decode cX8_leftNow 0 = .ok (.aload_n 0, 1) := by decide +kernel
theorem dX8_leftNow_1 : decode cX8_leftNow 1 = .ok (.getfield 58, 3) := by decide +kernel
theorem dX8_leftNow_4 : decode cX8_leftNow 4 = .ok (.iconst 0, 1) := by decide +kernel
theorem dX8_leftNow_5 : decode cX8_leftNow 5 = .ok (.iaload, 1) := by decide +kernel
theorem dX8_leftNow_6 : decode cX8_leftNow 6 = .ok (.aload_n 0, 1) := by decide +kernel
theorem dX8_leftNow_7 : decode cX8_leftNow 7 = .ok (.getfield 58, 3) := by decide +kernel
theorem dX8_leftNow_10 : decode cX8_leftNow 10 = .ok (.iconst 1, 1) := by decide +kernel
theorem dX8_leftNow_11 : decode cX8_leftNow 11 = .ok (.iaload, 1) := by decide +kernel
theorem dX8_leftNow_12 : decode cX8_leftNow 12 = .ok (.iadd, 1) := by decide +kernel
theorem dX8_leftNow_13 : decode cX8_leftNow 13 = .ok (.aload_n 0, 1) := by decide +kernel
theorem dX8_leftNow_14 : decode cX8_leftNow 14 = .ok (.getfield 67, 3) := by decide +kernel
theorem dX8_leftNow_17 : decode cX8_leftNow 17 = .ok (.bipush 23, 2) := by decide +kernel
theorem dX8_leftNow_19 : decode cX8_leftNow 19 = .ok (.iaload, 1) := by decide +kernel
theorem dX8_leftNow_20 : decode cX8_leftNow 20 = .ok (.iadd, 1) := by decide +kernel
theorem dX8_leftNow_21 : decode cX8_leftNow 21 = .ok (.ireturn, 1) := by decide +kernel
theorem dX8_leftOf_0 : decode cX8_leftOf 0 = .ok (.aload_n 0, 1) := by decide +kernel
theorem dX8_leftOf_1 : decode cX8_leftOf 1 = .ok (.invokevirtual 250, 3) := by decide +kernel
theorem dX8_leftOf_4 : decode cX8_leftOf 4 = .ok (.aload_n 0, 1) := by decide +kernel
theorem dX8_leftOf_5 : decode cX8_leftOf 5 = .ok (.invokevirtual 280, 3) := by decide +kernel
theorem dX8_leftOf_8 : decode cX8_leftOf 8 = .ok (.ireturn, 1) := by decide +kernel
theorem dX8_left_0 : decode cX8_left 0 = .ok (.aload_n 0, 1) := by decide +kernel
theorem dX8_left_1 : decode cX8_left 1 = .ok (.invokevirtual 283, 3) := by decide +kernel
theorem dX8_left_4 : decode cX8_left 4 = .ok (.ireturn, 1) := by decide +kernel
theorem dX8_bothOver_0 : decode cX8_bothOver 0 = .ok (.aload_n 0, 1) := by decide +kernel
theorem dX8_bothOver_1 : decode cX8_bothOver 1 = .ok (.getfield 61, 3) := by decide +kernel
theorem dX8_bothOver_4 : decode cX8_bothOver 4 = .ok (.iconst 0, 1) := by decide +kernel
theorem dX8_bothOver_5 : decode cX8_bothOver 5 = .ok (.iaload, 1) := by decide +kernel
theorem dX8_bothOver_6 : decode cX8_bothOver 6 = .ok (.aload_n 0, 1) := by decide +kernel
theorem dX8_bothOver_7 : decode cX8_bothOver 7 = .ok (.getfield 61, 3) := by decide +kernel
theorem dX8_bothOver_10 : decode cX8_bothOver 10 = .ok (.iconst 1, 1) := by decide +kernel
theorem dX8_bothOver_11 : decode cX8_bothOver 11 = .ok (.iaload, 1) := by decide +kernel
theorem dX8_bothOver_12 : decode cX8_bothOver 12 = .ok (.iadd, 1) := by decide +kernel
theorem dX8_bothOver_13 : decode cX8_bothOver 13 = .ok (.ireturn, 1) := by decide +kernel
theorem dX8_isOther_0 : decode cX8_isOther 0 = .ok (.iconst 0, 1) := by decide +kernel
theorem dX8_isOther_1 : decode cX8_isOther 1 = .ok (.istore_n 3, 1) := by decide +kernel
theorem dX8_isOther_2 : decode cX8_isOther 2 = .ok (.iconst 0, 1) := by decide +kernel
theorem dX8_isOther_3 : decode cX8_isOther 3 = .ok (.istore 4, 2) := by decide +kernel
theorem dX8_isOther_5 : decode cX8_isOther 5 = .ok (.iload 4, 2) := by decide +kernel
theorem dX8_isOther_7 : decode cX8_isOther 7 = .ok (.aload_n 0, 1) := by decide +kernel
theorem dX8_isOther_8 : decode cX8_isOther 8 = .ok (.getfield 135, 3) := by decide +kernel
theorem dX8_isOther_11 : decode cX8_isOther 11 = .ok (.if_icmp .ge 36, 3) := by decide +kernel
theorem dX8_isOther_14 : decode cX8_isOther 14 = .ok (.iload_n 3, 1) := by decide +kernel
theorem dX8_isOther_15 : decode cX8_isOther 15 = .ok (.ifCond .ne 20, 3) := by decide +kernel
theorem dX8_isOther_18 : decode cX8_isOther 18 = .ok (.iload 4, 2) := by decide +kernel
theorem dX8_isOther_20 : decode cX8_isOther 20 = .ok (.iload_n 1, 1) := by decide +kernel
theorem dX8_isOther_21 : decode cX8_isOther 21 = .ok (.if_icmp .eq 18, 3) := by decide +kernel
theorem dX8_isOther_24 : decode cX8_isOther 24 = .ok (.aload_n 0, 1) := by decide +kernel
theorem dX8_isOther_25 : decode cX8_isOther 25 = .ok (.getfield 16, 3) := by decide +kernel
theorem dX8_isOther_28 : decode cX8_isOther 28 = .ok (.iload 4, 2) := by decide +kernel
theorem dX8_isOther_30 : decode cX8_isOther 30 = .ok (.iaload, 1) := by decide +kernel
theorem dX8_isOther_31 : decode cX8_isOther 31 = .ok (.iload_n 2, 1) := by decide +kernel
theorem dX8_isOther_32 : decode cX8_isOther 32 = .ok (.if_icmp .ne 7, 3) := by decide +kernel
theorem dX8_isOther_35 : decode cX8_isOther 35 = .ok (.iconst 1, 1) := by decide +kernel
theorem dX8_isOther_36 : decode cX8_isOther 36 = .ok (.goto 4, 3) := by decide +kernel
theorem dX8_isOther_39 : decode cX8_isOther 39 = .ok (.iconst 0, 1) := by decide +kernel
theorem dX8_isOther_40 : decode cX8_isOther 40 = .ok (.istore_n 3, 1) := by decide +kernel
theorem dX8_isOther_41 : decode cX8_isOther 41 = .ok (.iinc 4 1, 3) := by decide +kernel
theorem dX8_isOther_44 : decode cX8_isOther 44 = .ok (.goto (-39), 3) := by decide +kernel
theorem dX8_isOther_47 : decode cX8_isOther 47 = .ok (.iload_n 3, 1) := by decide +kernel
theorem dX8_isOther_48 : decode cX8_isOther 48 = .ok (.ireturn, 1) := by decide +kernel
theorem dX8_hangOf_0 : decode cX8_hangOf 0 = .ok (.aload_n 0, 1) := by decide +kernel
theorem dX8_hangOf_1 : decode cX8_hangOf 1 = .ok (.invokevirtual 244, 3) := by decide +kernel
theorem dX8_hangOf_4 : decode cX8_hangOf 4 = .ok (.aload_n 0, 1) := by decide +kernel
theorem dX8_hangOf_5 : decode cX8_hangOf 5 = .ok (.getfield 16, 3) := by decide +kernel
theorem dX8_hangOf_8 : decode cX8_hangOf 8 = .ok (.iload_n 1, 1) := by decide +kernel
theorem dX8_hangOf_9 : decode cX8_hangOf 9 = .ok (.iaload, 1) := by decide +kernel
theorem dX8_hangOf_10 : decode cX8_hangOf 10 = .ok (.istore_n 3, 1) := by decide +kernel
theorem dX8_hangOf_11 : decode cX8_hangOf 11 = .ok (.iconst (-1), 1) := by decide +kernel
theorem dX8_hangOf_12 : decode cX8_hangOf 12 = .ok (.istore 4, 2) := by decide +kernel
theorem dX8_hangOf_14 : decode cX8_hangOf 14 = .ok (.iconst (-1), 1) := by decide +kernel
theorem dX8_hangOf_15 : decode cX8_hangOf 15 = .ok (.istore 5, 2) := by decide +kernel
theorem dX8_hangOf_17 : decode cX8_hangOf 17 = .ok (.iconst 0, 1) := by decide +kernel
theorem dX8_hangOf_18 : decode cX8_hangOf 18 = .ok (.istore 6, 2) := by decide +kernel
theorem dX8_hangOf_20 : decode cX8_hangOf 20 = .ok (.iload 6, 2) := by decide +kernel
theorem dX8_hangOf_22 : decode cX8_hangOf 22 = .ok (.bipush 24, 2) := by decide +kernel
theorem dX8_hangOf_24 : decode cX8_hangOf 24 = .ok (.if_icmp .ge 69, 3) := by decide +kernel
theorem dX8_hangOf_27 : decode cX8_hangOf 27 = .ok (.aload_n 0, 1) := by decide +kernel
theorem dX8_hangOf_28 : decode cX8_hangOf 28 = .ok (.iload_n 1, 1) := by decide +kernel
theorem dX8_hangOf_29 : decode cX8_hangOf 29 = .ok (.iload 6, 2) := by decide +kernel
theorem dX8_hangOf_31 : decode cX8_hangOf 31 = .ok (.invokevirtual 286, 3) := by decide +kernel
theorem dX8_hangOf_34 : decode cX8_hangOf 34 = .ok (.ifCond .ne 53, 3) := by decide +kernel
theorem dX8_hangOf_37 : decode cX8_hangOf 37 = .ok (.aload_n 0, 1) := by decide +kernel
theorem dX8_hangOf_38 : decode cX8_hangOf 38 = .ok (.getfield 16, 3) := by decide +kernel
theorem dX8_hangOf_41 : decode cX8_hangOf 41 = .ok (.iload_n 1, 1) := by decide +kernel
theorem dX8_hangOf_42 : decode cX8_hangOf 42 = .ok (.iload 6, 2) := by decide +kernel
theorem dX8_hangOf_44 : decode cX8_hangOf 44 = .ok (.iastore, 1) := by decide +kernel
theorem dX8_hangOf_45 : decode cX8_hangOf 45 = .ok (.aload_n 0, 1) := by decide +kernel
theorem dX8_hangOf_46 : decode cX8_hangOf 46 = .ok (.invokevirtual 247, 3) := by decide +kernel
theorem dX8_hangOf_49 : decode cX8_hangOf 49 = .ok (.aload_n 0, 1) := by decide +kernel
theorem dX8_hangOf_50 : decode cX8_hangOf 50 = .ok (.invokevirtual 289, 3) := by decide +kernel
theorem dX8_hangOf_53 : decode cX8_hangOf 53 = .ok (.istore 7, 2) := by decide +kernel
theorem dX8_hangOf_55 : decode cX8_hangOf 55 = .ok (.iload 7, 2) := by decide +kernel
theorem dX8_hangOf_57 : decode cX8_hangOf 57 = .ok (.iload 5, 2) := by decide +kernel
theorem dX8_hangOf_59 : decode cX8_hangOf 59 = .ok (.if_icmp .le 8, 3) := by decide +kernel
theorem dX8_hangOf_62 : decode cX8_hangOf 62 = .ok (.iload 6, 2) := by decide +kernel
theorem dX8_hangOf_64 : decode cX8_hangOf 64 = .ok (.goto 5, 3) := by decide +kernel
theorem dX8_hangOf_67 : decode cX8_hangOf 67 = .ok (.iload 4, 2) := by decide +kernel
theorem dX8_hangOf_69 : decode cX8_hangOf 69 = .ok (.istore 4, 2) := by decide +kernel
theorem dX8_hangOf_71 : decode cX8_hangOf 71 = .ok (.iload 7, 2) := by decide +kernel
theorem dX8_hangOf_73 : decode cX8_hangOf 73 = .ok (.iload 5, 2) := by decide +kernel
theorem dX8_hangOf_75 : decode cX8_hangOf 75 = .ok (.if_icmp .le 8, 3) := by decide +kernel
theorem dX8_hangOf_78 : decode cX8_hangOf 78 = .ok (.iload 7, 2) := by decide +kernel
theorem dX8_hangOf_80 : decode cX8_hangOf 80 = .ok (.goto 5, 3) := by decide +kernel
theorem dX8_hangOf_83 : decode cX8_hangOf 83 = .ok (.iload 5, 2) := by decide +kernel
theorem dX8_hangOf_85 : decode cX8_hangOf 85 = .ok (.istore 5, 2) := by decide +kernel
theorem dX8_hangOf_87 : decode cX8_hangOf 87 = .ok (.iinc 6 1, 3) := by decide +kernel
theorem dX8_hangOf_90 : decode cX8_hangOf 90 = .ok (.goto (-70), 3) := by decide +kernel
theorem dX8_hangOf_93 : decode cX8_hangOf 93 = .ok (.aload_n 0, 1) := by decide +kernel
theorem dX8_hangOf_94 : decode cX8_hangOf 94 = .ok (.getfield 16, 3) := by decide +kernel
theorem dX8_hangOf_97 : decode cX8_hangOf 97 = .ok (.iload_n 1, 1) := by decide +kernel
theorem dX8_hangOf_98 : decode cX8_hangOf 98 = .ok (.iload_n 3, 1) := by decide +kernel
theorem dX8_hangOf_99 : decode cX8_hangOf 99 = .ok (.iastore, 1) := by decide +kernel
theorem dX8_hangOf_100 : decode cX8_hangOf 100 = .ok (.iload_n 2, 1) := by decide +kernel
theorem dX8_hangOf_101 : decode cX8_hangOf 101 = .ok (.ifCond .ne 8, 3) := by decide +kernel
theorem dX8_hangOf_104 : decode cX8_hangOf 104 = .ok (.iload 4, 2) := by decide +kernel
theorem dX8_hangOf_106 : decode cX8_hangOf 106 = .ok (.goto 5, 3) := by decide +kernel
theorem dX8_hangOf_109 : decode cX8_hangOf 109 = .ok (.iload 5, 2) := by decide +kernel
theorem dX8_hangOf_111 : decode cX8_hangOf 111 = .ok (.ireturn, 1) := by decide +kernel
theorem dX8_hang_0 : decode cX8_hang 0 = .ok (.aload_n 0, 1) := by decide +kernel
theorem dX8_hang_1 : decode cX8_hang 1 = .ok (.iload_n 1, 1) := by decide +kernel
theorem dX8_hang_2 : decode cX8_hang 2 = .ok (.invokevirtual 164, 3) := by decide +kernel
theorem dX8_hang_5 : decode cX8_hang 5 = .ok (.ifCond .eq 19, 3) := by decide +kernel
theorem dX8_hang_8 : decode cX8_hang 8 = .ok (.iload_n 2, 1) := by decide +kernel
theorem dX8_hang_9 : decode cX8_hang 9 = .ok (.invokestatic 253, 3) := by decide +kernel
theorem dX8_hang_12 : decode cX8_hang 12 = .ok (.ifCond .eq 12, 3) := by decide +kernel
theorem dX8_hang_15 : decode cX8_hang 15 = .ok (.aload_n 0, 1) := by decide +kernel
theorem dX8_hang_16 : decode cX8_hang 16 = .ok (.iload_n 1, 1) := by decide +kernel
theorem dX8_hang_17 : decode cX8_hang 17 = .ok (.iload_n 2, 1) := by decide +kernel
theorem dX8_hang_18 : decode cX8_hang 18 = .ok (.invokevirtual 292, 3) := by decide +kernel
theorem dX8_hang_21 : decode cX8_hang 21 = .ok (.goto 5, 3) := by decide +kernel
theorem dX8_hang_24 : decode cX8_hang 24 = .ok (.bipush (-2), 2) := by decide +kernel
theorem dX8_hang_26 : decode cX8_hang 26 = .ok (.ireturn, 1) := by decide +kernel
theorem dX8_paceOf_0 : decode cX8_paceOf 0 = .ok (.aload_n 0, 1) := by decide +kernel
theorem dX8_paceOf_1 : decode cX8_paceOf 1 = .ok (.invokevirtual 244, 3) := by decide +kernel
theorem dX8_paceOf_4 : decode cX8_paceOf 4 = .ok (.iconst (-1), 1) := by decide +kernel
theorem dX8_paceOf_5 : decode cX8_paceOf 5 = .ok (.istore_n 3, 1) := by decide +kernel
theorem dX8_paceOf_6 : decode cX8_paceOf 6 = .ok (.iconst (-1), 1) := by decide +kernel
theorem dX8_paceOf_7 : decode cX8_paceOf 7 = .ok (.istore 4, 2) := by decide +kernel
theorem dX8_paceOf_9 : decode cX8_paceOf 9 = .ok (.iconst 0, 1) := by decide +kernel
theorem dX8_paceOf_10 : decode cX8_paceOf 10 = .ok (.istore 5, 2) := by decide +kernel
theorem dX8_paceOf_12 : decode cX8_paceOf 12 = .ok (.iload 5, 2) := by decide +kernel
theorem dX8_paceOf_14 : decode cX8_paceOf 14 = .ok (.iconst 4, 1) := by decide +kernel
theorem dX8_paceOf_15 : decode cX8_paceOf 15 = .ok (.if_icmp .ge 57, 3) := by decide +kernel
theorem dX8_paceOf_18 : decode cX8_paceOf 18 = .ok (.aload_n 0, 1) := by decide +kernel
theorem dX8_paceOf_19 : decode cX8_paceOf 19 = .ok (.getfield 46, 3) := by decide +kernel
theorem dX8_paceOf_22 : decode cX8_paceOf 22 = .ok (.iload_n 1, 1) := by decide +kernel
theorem dX8_paceOf_23 : decode cX8_paceOf 23 = .ok (.iload 5, 2) := by decide +kernel
theorem dX8_paceOf_25 : decode cX8_paceOf 25 = .ok (.iastore, 1) := by decide +kernel
theorem dX8_paceOf_26 : decode cX8_paceOf 26 = .ok (.aload_n 0, 1) := by decide +kernel
theorem dX8_paceOf_27 : decode cX8_paceOf 27 = .ok (.invokevirtual 247, 3) := by decide +kernel
theorem dX8_paceOf_30 : decode cX8_paceOf 30 = .ok (.aload_n 0, 1) := by decide +kernel
theorem dX8_paceOf_31 : decode cX8_paceOf 31 = .ok (.invokevirtual 289, 3) := by decide +kernel
theorem dX8_paceOf_34 : decode cX8_paceOf 34 = .ok (.istore 6, 2) := by decide +kernel
theorem dX8_paceOf_36 : decode cX8_paceOf 36 = .ok (.iload 6, 2) := by decide +kernel
theorem dX8_paceOf_38 : decode cX8_paceOf 38 = .ok (.iload 4, 2) := by decide +kernel
theorem dX8_paceOf_40 : decode cX8_paceOf 40 = .ok (.if_icmp .le 8, 3) := by decide +kernel
theorem dX8_paceOf_43 : decode cX8_paceOf 43 = .ok (.iload 5, 2) := by decide +kernel
theorem dX8_paceOf_45 : decode cX8_paceOf 45 = .ok (.goto 4, 3) := by decide +kernel
theorem dX8_paceOf_48 : decode cX8_paceOf 48 = .ok (.iload_n 3, 1) := by decide +kernel
theorem dX8_paceOf_49 : decode cX8_paceOf 49 = .ok (.istore_n 3, 1) := by decide +kernel
theorem dX8_paceOf_50 : decode cX8_paceOf 50 = .ok (.iload 6, 2) := by decide +kernel
theorem dX8_paceOf_52 : decode cX8_paceOf 52 = .ok (.iload 4, 2) := by decide +kernel
theorem dX8_paceOf_54 : decode cX8_paceOf 54 = .ok (.if_icmp .le 8, 3) := by decide +kernel
theorem dX8_paceOf_57 : decode cX8_paceOf 57 = .ok (.iload 6, 2) := by decide +kernel
theorem dX8_paceOf_59 : decode cX8_paceOf 59 = .ok (.goto 5, 3) := by decide +kernel
theorem dX8_paceOf_62 : decode cX8_paceOf 62 = .ok (.iload 4, 2) := by decide +kernel
theorem dX8_paceOf_64 : decode cX8_paceOf 64 = .ok (.istore 4, 2) := by decide +kernel
theorem dX8_paceOf_66 : decode cX8_paceOf 66 = .ok (.iinc 5 1, 3) := by decide +kernel
theorem dX8_paceOf_69 : decode cX8_paceOf 69 = .ok (.goto (-57), 3) := by decide +kernel
theorem dX8_paceOf_72 : decode cX8_paceOf 72 = .ok (.iload_n 2, 1) := by decide +kernel
theorem dX8_paceOf_73 : decode cX8_paceOf 73 = .ok (.ifCond .ne 7, 3) := by decide +kernel
theorem dX8_paceOf_76 : decode cX8_paceOf 76 = .ok (.iload_n 3, 1) := by decide +kernel
theorem dX8_paceOf_77 : decode cX8_paceOf 77 = .ok (.goto 5, 3) := by decide +kernel
theorem dX8_paceOf_80 : decode cX8_paceOf 80 = .ok (.iload 4, 2) := by decide +kernel
theorem dX8_paceOf_82 : decode cX8_paceOf 82 = .ok (.ireturn, 1) := by decide +kernel
theorem dX8_pace_0 : decode cX8_pace 0 = .ok (.iload_n 1, 1) := by decide +kernel
theorem dX8_pace_1 : decode cX8_pace 1 = .ok (.invokestatic 132, 3) := by decide +kernel
theorem dX8_pace_4 : decode cX8_pace 4 = .ok (.ifCond .eq 19, 3) := by decide +kernel
theorem dX8_pace_7 : decode cX8_pace 7 = .ok (.iload_n 2, 1) := by decide +kernel
theorem dX8_pace_8 : decode cX8_pace 8 = .ok (.invokestatic 253, 3) := by decide +kernel
theorem dX8_pace_11 : decode cX8_pace 11 = .ok (.ifCond .eq 12, 3) := by decide +kernel
theorem dX8_pace_14 : decode cX8_pace 14 = .ok (.aload_n 0, 1) := by decide +kernel
theorem dX8_pace_15 : decode cX8_pace 15 = .ok (.iload_n 1, 1) := by decide +kernel
theorem dX8_pace_16 : decode cX8_pace 16 = .ok (.iload_n 2, 1) := by decide +kernel
theorem dX8_pace_17 : decode cX8_pace 17 = .ok (.invokevirtual 295, 3) := by decide +kernel
theorem dX8_pace_20 : decode cX8_pace 20 = .ok (.goto 5, 3) := by decide +kernel
theorem dX8_pace_23 : decode cX8_pace 23 = .ok (.bipush (-2), 2) := by decide +kernel
theorem dX8_pace_25 : decode cX8_pace 25 = .ok (.ireturn, 1) := by decide +kernel
theorem dX8_cheapOf_0 : decode cX8_cheapOf 0 = .ok (.aload_n 0, 1) := by decide +kernel
theorem dX8_cheapOf_1 : decode cX8_cheapOf 1 = .ok (.invokevirtual 244, 3) := by decide +kernel
theorem dX8_cheapOf_4 : decode cX8_cheapOf 4 = .ok (.iconst (-1), 1) := by decide +kernel
theorem dX8_cheapOf_5 : decode cX8_cheapOf 5 = .ok (.istore_n 3, 1) := by decide +kernel
theorem dX8_cheapOf_6 : decode cX8_cheapOf 6 = .ok (.iconst 0, 1) := by decide +kernel
theorem dX8_cheapOf_7 : decode cX8_cheapOf 7 = .ok (.istore 4, 2) := by decide +kernel
theorem dX8_cheapOf_9 : decode cX8_cheapOf 9 = .ok (.iconst 0, 1) := by decide +kernel
theorem dX8_cheapOf_10 : decode cX8_cheapOf 10 = .ok (.istore 5, 2) := by decide +kernel
theorem dX8_cheapOf_12 : decode cX8_cheapOf 12 = .ok (.iload 5, 2) := by decide +kernel
theorem dX8_cheapOf_14 : decode cX8_cheapOf 14 = .ok (.iconst 4, 1) := by decide +kernel
theorem dX8_cheapOf_15 : decode cX8_cheapOf 15 = .ok (.if_icmp .ge 70, 3) := by decide +kernel
theorem dX8_cheapOf_18 : decode cX8_cheapOf 18 = .ok (.aload_n 0, 1) := by decide +kernel
theorem dX8_cheapOf_19 : decode cX8_cheapOf 19 = .ok (.getfield 46, 3) := by decide +kernel
theorem dX8_cheapOf_22 : decode cX8_cheapOf 22 = .ok (.iload_n 1, 1) := by decide +kernel
theorem dX8_cheapOf_23 : decode cX8_cheapOf 23 = .ok (.iload 5, 2) := by decide +kernel
theorem dX8_cheapOf_25 : decode cX8_cheapOf 25 = .ok (.iastore, 1) := by decide +kernel
theorem dX8_cheapOf_26 : decode cX8_cheapOf 26 = .ok (.aload_n 0, 1) := by decide +kernel
theorem dX8_cheapOf_27 : decode cX8_cheapOf 27 = .ok (.invokevirtual 247, 3) := by decide +kernel
theorem dX8_cheapOf_30 : decode cX8_cheapOf 30 = .ok (.iload_n 3, 1) := by decide +kernel
theorem dX8_cheapOf_31 : decode cX8_cheapOf 31 = .ok (.iconst (-1), 1) := by decide +kernel
theorem dX8_cheapOf_32 : decode cX8_cheapOf 32 = .ok (.if_icmp .eq 12, 3) := by decide +kernel
theorem dX8_cheapOf_35 : decode cX8_cheapOf 35 = .ok (.aload_n 0, 1) := by decide +kernel
theorem dX8_cheapOf_36 : decode cX8_cheapOf 36 = .ok (.getfield 238, 3) := by decide +kernel
theorem dX8_cheapOf_39 : decode cX8_cheapOf 39 = .ok (.iload 4, 2) := by decide +kernel
theorem dX8_cheapOf_41 : decode cX8_cheapOf 41 = .ok (.if_icmp .ge 7, 3) := by decide +kernel
theorem dX8_cheapOf_44 : decode cX8_cheapOf 44 = .ok (.iconst 1, 1) := by decide +kernel
theorem dX8_cheapOf_45 : decode cX8_cheapOf 45 = .ok (.goto 4, 3) := by decide +kernel
theorem dX8_cheapOf_48 : decode cX8_cheapOf 48 = .ok (.iconst 0, 1) := by decide +kernel
theorem dX8_cheapOf_49 : decode cX8_cheapOf 49 = .ok (.istore 6, 2) := by decide +kernel
theorem dX8_cheapOf_51 : decode cX8_cheapOf 51 = .ok (.iload 6, 2) := by decide +kernel
theorem dX8_cheapOf_53 : decode cX8_cheapOf 53 = .ok (.ifCond .eq 8, 3) := by decide +kernel
theorem dX8_cheapOf_56 : decode cX8_cheapOf 56 = .ok (.iload 5, 2) := by decide +kernel
theorem dX8_cheapOf_58 : decode cX8_cheapOf 58 = .ok (.goto 4, 3) := by decide +kernel
theorem dX8_cheapOf_61 : decode cX8_cheapOf 61 = .ok (.iload_n 3, 1) := by decide +kernel
theorem dX8_cheapOf_62 : decode cX8_cheapOf 62 = .ok (.istore_n 3, 1) := by decide +kernel
theorem dX8_cheapOf_63 : decode cX8_cheapOf 63 = .ok (.iload 6, 2) := by decide +kernel
theorem dX8_cheapOf_65 : decode cX8_cheapOf 65 = .ok (.ifCond .eq 10, 3) := by decide +kernel
theorem dX8_cheapOf_68 : decode cX8_cheapOf 68 = .ok (.aload_n 0, 1) := by decide +kernel
theorem dX8_cheapOf_69 : decode cX8_cheapOf 69 = .ok (.getfield 238, 3) := by decide +kernel
theorem dX8_cheapOf_72 : decode cX8_cheapOf 72 = .ok (.goto 5, 3) := by decide +kernel
theorem dX8_cheapOf_75 : decode cX8_cheapOf 75 = .ok (.iload 4, 2) := by decide +kernel
theorem dX8_cheapOf_77 : decode cX8_cheapOf 77 = .ok (.istore 4, 2) := by decide +kernel
theorem dX8_cheapOf_79 : decode cX8_cheapOf 79 = .ok (.iinc 5 1, 3) := by decide +kernel
theorem dX8_cheapOf_82 : decode cX8_cheapOf 82 = .ok (.goto (-70), 3) := by decide +kernel
theorem dX8_cheapOf_85 : decode cX8_cheapOf 85 = .ok (.iload_n 2, 1) := by decide +kernel
theorem dX8_cheapOf_86 : decode cX8_cheapOf 86 = .ok (.ifCond .ne 7, 3) := by decide +kernel
theorem dX8_cheapOf_89 : decode cX8_cheapOf 89 = .ok (.iload_n 3, 1) := by decide +kernel
theorem dX8_cheapOf_90 : decode cX8_cheapOf 90 = .ok (.goto 5, 3) := by decide +kernel
theorem dX8_cheapOf_93 : decode cX8_cheapOf 93 = .ok (.iload 4, 2) := by decide +kernel
theorem dX8_cheapOf_95 : decode cX8_cheapOf 95 = .ok (.ireturn, 1) := by decide +kernel
theorem dX8_cheap_0 : decode cX8_cheap 0 = .ok (.iload_n 1, 1) := by decide +kernel
theorem dX8_cheap_1 : decode cX8_cheap 1 = .ok (.invokestatic 132, 3) := by decide +kernel
theorem dX8_cheap_4 : decode cX8_cheap 4 = .ok (.ifCond .eq 19, 3) := by decide +kernel
theorem dX8_cheap_7 : decode cX8_cheap 7 = .ok (.iload_n 2, 1) := by decide +kernel
theorem dX8_cheap_8 : decode cX8_cheap 8 = .ok (.invokestatic 253, 3) := by decide +kernel
theorem dX8_cheap_11 : decode cX8_cheap 11 = .ok (.ifCond .eq 12, 3) := by decide +kernel
theorem dX8_cheap_14 : decode cX8_cheap 14 = .ok (.aload_n 0, 1) := by decide +kernel
theorem dX8_cheap_15 : decode cX8_cheap 15 = .ok (.iload_n 1, 1) := by decide +kernel
theorem dX8_cheap_16 : decode cX8_cheap 16 = .ok (.iload_n 2, 1) := by decide +kernel
theorem dX8_cheap_17 : decode cX8_cheap 17 = .ok (.invokevirtual 298, 3) := by decide +kernel
theorem dX8_cheap_20 : decode cX8_cheap 20 = .ok (.goto 5, 3) := by decide +kernel
theorem dX8_cheap_23 : decode cX8_cheap 23 = .ok (.bipush (-2), 2) := by decide +kernel
theorem dX8_cheap_25 : decode cX8_cheap 25 = .ok (.ireturn, 1) := by decide +kernel
theorem dX8_isSpared_0 : decode cX8_isSpared 0 = .ok (.aload_n 0, 1) := by decide +kernel
theorem dX8_isSpared_1 : decode cX8_isSpared 1 = .ok (.iload_n 1, 1) := by decide +kernel
theorem dX8_isSpared_2 : decode cX8_isSpared 2 = .ok (.putfield 192, 3) := by decide +kernel
theorem dX8_isSpared_5 : decode cX8_isSpared 5 = .ok (.aload_n 0, 1) := by decide +kernel
theorem dX8_isSpared_6 : decode cX8_isSpared 6 = .ok (.invokevirtual 247, 3) := by decide +kernel
theorem dX8_isSpared_9 : decode cX8_isSpared 9 = .ok (.aload_n 0, 1) := by decide +kernel
theorem dX8_isSpared_10 : decode cX8_isSpared 10 = .ok (.invokevirtual 280, 3) := by decide +kernel
theorem dX8_isSpared_13 : decode cX8_isSpared 13 = .ok (.ifCond .ne 7, 3) := by decide +kernel
theorem dX8_isSpared_16 : decode cX8_isSpared 16 = .ok (.iconst 1, 1) := by decide +kernel
theorem dX8_isSpared_17 : decode cX8_isSpared 17 = .ok (.goto 4, 3) := by decide +kernel
theorem dX8_isSpared_20 : decode cX8_isSpared 20 = .ok (.iconst 0, 1) := by decide +kernel
theorem dX8_isSpared_21 : decode cX8_isSpared 21 = .ok (.ireturn, 1) := by decide +kernel
theorem dX8_spareBy_0 : decode cX8_spareBy 0 = .ok (.aload_n 0, 1) := by decide +kernel
theorem dX8_spareBy_1 : decode cX8_spareBy 1 = .ok (.invokevirtual 244, 3) := by decide +kernel
theorem dX8_spareBy_4 : decode cX8_spareBy 4 = .ok (.aload_n 0, 1) := by decide +kernel
theorem dX8_spareBy_5 : decode cX8_spareBy 5 = .ok (.iconst 0, 1) := by decide +kernel
theorem dX8_spareBy_6 : decode cX8_spareBy 6 = .ok (.invokevirtual 301, 3) := by decide +kernel
theorem dX8_spareBy_9 : decode cX8_spareBy 9 = .ok (.ifCond .eq 5, 3) := by decide +kernel
theorem dX8_spareBy_12 : decode cX8_spareBy 12 = .ok (.iconst 0, 1) := by decide +kernel
theorem dX8_spareBy_13 : decode cX8_spareBy 13 = .ok (.ireturn, 1) := by decide +kernel
theorem dX8_spareBy_14 : decode cX8_spareBy 14 = .ok (.iconst 0, 1) := by decide +kernel
theorem dX8_spareBy_15 : decode cX8_spareBy 15 = .ok (.istore_n 1, 1) := by decide +kernel
theorem dX8_spareBy_16 : decode cX8_spareBy 16 = .ok (.iload_n 1, 1) := by decide +kernel
theorem dX8_spareBy_17 : decode cX8_spareBy 17 = .ok (.aload_n 0, 1) := by decide +kernel
theorem dX8_spareBy_18 : decode cX8_spareBy 18 = .ok (.getfield 179, 3) := by decide +kernel
theorem dX8_spareBy_21 : decode cX8_spareBy 21 = .ok (.if_icmp .ge 28, 3) := by decide +kernel
theorem dX8_spareBy_24 : decode cX8_spareBy 24 = .ok (.aload_n 0, 1) := by decide +kernel
theorem dX8_spareBy_25 : decode cX8_spareBy 25 = .ok (.getfield 79, 3) := by decide +kernel
theorem dX8_spareBy_28 : decode cX8_spareBy 28 = .ok (.iconst 0, 1) := by decide +kernel
theorem dX8_spareBy_29 : decode cX8_spareBy 29 = .ok (.iload_n 1, 1) := by decide +kernel
theorem dX8_spareBy_30 : decode cX8_spareBy 30 = .ok (.iastore, 1) := by decide +kernel
theorem dX8_spareBy_31 : decode cX8_spareBy 31 = .ok (.aload_n 0, 1) := by decide +kernel
theorem dX8_spareBy_32 : decode cX8_spareBy 32 = .ok (.iconst 1, 1) := by decide +kernel
theorem dX8_spareBy_33 : decode cX8_spareBy 33 = .ok (.iload_n 1, 1) := by decide +kernel
theorem dX8_spareBy_34 : decode cX8_spareBy 34 = .ok (.ishl, 1) := by decide +kernel
theorem dX8_spareBy_35 : decode cX8_spareBy 35 = .ok (.invokevirtual 301, 3) := by decide +kernel
theorem dX8_spareBy_38 : decode cX8_spareBy 38 = .ok (.ifCond .eq 5, 3) := by decide +kernel
theorem dX8_spareBy_41 : decode cX8_spareBy 41 = .ok (.iconst 1, 1) := by decide +kernel
theorem dX8_spareBy_42 : decode cX8_spareBy 42 = .ok (.ireturn, 1) := by decide +kernel
theorem dX8_spareBy_43 : decode cX8_spareBy 43 = .ok (.iinc 1 1, 3) := by decide +kernel
theorem dX8_spareBy_46 : decode cX8_spareBy 46 = .ok (.goto (-30), 3) := by decide +kernel
theorem dX8_spareBy_49 : decode cX8_spareBy 49 = .ok (.iconst 0, 1) := by decide +kernel
theorem dX8_spareBy_50 : decode cX8_spareBy 50 = .ok (.istore_n 1, 1) := by decide +kernel
theorem dX8_spareBy_51 : decode cX8_spareBy 51 = .ok (.iload_n 1, 1) := by decide +kernel
theorem dX8_spareBy_52 : decode cX8_spareBy 52 = .ok (.aload_n 0, 1) := by decide +kernel
theorem dX8_spareBy_53 : decode cX8_spareBy 53 = .ok (.getfield 179, 3) := by decide +kernel
theorem dX8_spareBy_56 : decode cX8_spareBy 56 = .ok (.if_icmp .ge 57, 3) := by decide +kernel
