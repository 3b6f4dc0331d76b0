theorem dX0_init_0 : decode cX0_init 0 = .ok (.aload_n 0, 1) := by decide +kernel
theorem dX0_init_1 : decode cX0_init 1 = .ok (.invokespecial 3, 3) := by decide +kernel
theorem dX0_init_4 : decode cX0_init 4 = .ok (.aload_n 0, 1) := by decide +kernel
theorem dX0_init_5 : decode cX0_init 5 = .ok (.bipush 8, 2) := by decide +kernel
theorem dX0_init_7 : decode cX0_init 7 = .ok (.newarray .int, 2) := by decide +kernel
theorem dX0_init_9 : decode cX0_init 9 = .ok (.putfield 9, 3) := by decide +kernel
theorem dX0_init_12 : decode cX0_init 12 = .ok (.aload_n 0, 1) := by decide +kernel
theorem dX0_init_13 : decode cX0_init 13 = .ok (.bipush 8, 2) := by decide +kernel
theorem dX0_init_15 : decode cX0_init 15 = .ok (.newarray .int, 2) := by decide +kernel
theorem dX0_init_17 : decode cX0_init 17 = .ok (.putfield 15, 3) := by decide +kernel
theorem dX0_init_20 : decode cX0_init 20 = .ok (.aload_n 0, 1) := by decide +kernel
theorem dX0_init_21 : decode cX0_init 21 = .ok (.bipush 8, 2) := by decide +kernel
theorem dX0_init_23 : decode cX0_init 23 = .ok (.newarray .int, 2) := by decide +kernel
theorem dX0_init_25 : decode cX0_init 25 = .ok (.putfield 18, 3) := by decide +kernel
theorem dX0_init_28 : decode cX0_init 28 = .ok (.aload_n 0, 1) := by decide +kernel
theorem dX0_init_29 : decode cX0_init 29 = .ok (.iconst 0, 1) := by decide +kernel
theorem dX0_init_30 : decode cX0_init 30 = .ok (.putfield 21, 3) := by decide +kernel
theorem dX0_init_33 : decode cX0_init 33 = .ok (.return_, 1) := by decide +kernel
theorem dX0_mayBe_0 : decode cX0_mayBe 0 = .ok (.iload_n 1, 1) := by decide +kernel
theorem dX0_mayBe_1 : decode cX0_mayBe 1 = .ok (.iconst 0, 1) := by decide +kernel
theorem dX0_mayBe_2 : decode cX0_mayBe 2 = .ok (.iconst 2, 1) := by decide +kernel
theorem dX0_mayBe_3 : decode cX0_mayBe 3 = .ok (.invokestatic 25, 3) := by decide +kernel
theorem dX0_mayBe_6 : decode cX0_mayBe 6 = .ok (.ifCond .eq 23, 3) := by decide +kernel
theorem dX0_mayBe_9 : decode cX0_mayBe 9 = .ok (.iload_n 2, 1) := by decide +kernel
theorem dX0_mayBe_10 : decode cX0_mayBe 10 = .ok (.invokestatic 29, 3) := by decide +kernel
theorem dX0_mayBe_13 : decode cX0_mayBe 13 = .ok (.ifCond .eq 16, 3) := by decide +kernel
theorem dX0_mayBe_16 : decode cX0_mayBe 16 = .ok (.iload_n 3, 1) := by decide +kernel
theorem dX0_mayBe_17 : decode cX0_mayBe 17 = .ok (.iconst 0, 1) := by decide +kernel
theorem dX0_mayBe_18 : decode cX0_mayBe 18 = .ok (.iconst 5, 1) := by decide +kernel
theorem dX0_mayBe_19 : decode cX0_mayBe 19 = .ok (.invokestatic 25, 3) := by decide +kernel
theorem dX0_mayBe_22 : decode cX0_mayBe 22 = .ok (.ifCond .eq 7, 3) := by decide +kernel
theorem dX0_mayBe_25 : decode cX0_mayBe 25 = .ok (.iconst 1, 1) := by decide +kernel
theorem dX0_mayBe_26 : decode cX0_mayBe 26 = .ok (.goto 4, 3) := by decide +kernel
theorem dX0_mayBe_29 : decode cX0_mayBe 29 = .ok (.iconst 0, 1) := by decide +kernel
theorem dX0_mayBe_30 : decode cX0_mayBe 30 = .ok (.ireturn, 1) := by decide +kernel
theorem dX0_hasSpace_0 : decode cX0_hasSpace 0 = .ok (.aload_n 0, 1) := by decide +kernel
theorem dX0_hasSpace_1 : decode cX0_hasSpace 1 = .ok (.getfield 21, 3) := by decide +kernel
theorem dX0_hasSpace_4 : decode cX0_hasSpace 4 = .ok (.bipush 8, 2) := by decide +kernel
theorem dX0_hasSpace_6 : decode cX0_hasSpace 6 = .ok (.if_icmp .ge 7, 3) := by decide +kernel
theorem dX0_hasSpace_9 : decode cX0_hasSpace 9 = .ok (.iconst 1, 1) := by decide +kernel
theorem dX0_hasSpace_10 : decode cX0_hasSpace 10 = .ok (.goto 4, 3) := by decide +kernel
theorem dX0_hasSpace_13 : decode cX0_hasSpace 13 = .ok (.iconst 0, 1) := by decide +kernel
theorem dX0_hasSpace_14 : decode cX0_hasSpace 14 = .ok (.ireturn, 1) := by decide +kernel
theorem dX0_append_0 : decode cX0_append 0 = .ok (.aload_n 0, 1) := by decide +kernel
theorem dX0_append_1 : decode cX0_append 1 = .ok (.invokevirtual 33, 3) := by decide +kernel
theorem dX0_append_4 : decode cX0_append 4 = .ok (.ifCond .eq 43, 3) := by decide +kernel
theorem dX0_append_7 : decode cX0_append 7 = .ok (.aload_n 0, 1) := by decide +kernel
theorem dX0_append_8 : decode cX0_append 8 = .ok (.getfield 9, 3) := by decide +kernel
theorem dX0_append_11 : decode cX0_append 11 = .ok (.aload_n 0, 1) := by decide +kernel
theorem dX0_append_12 : decode cX0_append 12 = .ok (.getfield 21, 3) := by decide +kernel
theorem dX0_append_15 : decode cX0_append 15 = .ok (.iload_n 1, 1) := by decide +kernel
theorem dX0_append_16 : decode cX0_append 16 = .ok (.iastore, 1) := by decide +kernel
theorem dX0_append_17 : decode cX0_append 17 = .ok (.aload_n 0, 1) := by decide +kernel
theorem dX0_append_18 : decode cX0_append 18 = .ok (.getfield 15, 3) := by decide +kernel
theorem dX0_append_21 : decode cX0_append 21 = .ok (.aload_n 0, 1) := by decide +kernel
theorem dX0_append_22 : decode cX0_append 22 = .ok (.getfield 21, 3) := by decide +kernel
theorem dX0_append_25 : decode cX0_append 25 = .ok (.iload_n 2, 1) := by decide +kernel
theorem dX0_append_26 : decode cX0_append 26 = .ok (.iastore, 1) := by decide +kernel
theorem dX0_append_27 : decode cX0_append 27 = .ok (.aload_n 0, 1) := by decide +kernel
theorem dX0_append_28 : decode cX0_append 28 = .ok (.getfield 18, 3) := by decide +kernel
theorem dX0_append_31 : decode cX0_append 31 = .ok (.aload_n 0, 1) := by decide +kernel
theorem dX0_append_32 : decode cX0_append 32 = .ok (.getfield 21, 3) := by decide +kernel
theorem dX0_append_35 : decode cX0_append 35 = .ok (.iload_n 3, 1) := by decide +kernel
theorem dX0_append_36 : decode cX0_append 36 = .ok (.iastore, 1) := by decide +kernel
theorem dX0_append_37 : decode cX0_append 37 = .ok (.aload_n 0, 1) := by decide +kernel
theorem dX0_append_38 : decode cX0_append 38 = .ok (.dup, 1) := by decide +kernel
theorem dX0_append_39 : decode cX0_append 39 = .ok (.getfield 21, 3) := by decide +kernel
theorem dX0_append_42 : decode cX0_append 42 = .ok (.iconst 1, 1) := by decide +kernel
theorem dX0_append_43 : decode cX0_append 43 = .ok (.iadd, 1) := by decide +kernel
theorem dX0_append_44 : decode cX0_append 44 = .ok (.putfield 21, 3) := by decide +kernel
theorem dX0_append_47 : decode cX0_append 47 = .ok (.return_, 1) := by decide +kernel
theorem dX1_init_0 : decode cX1_init 0 = .ok (.aload_n 0, 1) := by decide +kernel
theorem dX1_init_1 : decode cX1_init 1 = .ok (.invokespecial 3, 3) := by decide +kernel
theorem dX1_init_4 : decode cX1_init 4 = .ok (.aload_n 0, 1) := by decide +kernel
theorem dX1_init_5 : decode cX1_init 5 = .ok (.iconst 0, 1) := by decide +kernel
theorem dX1_init_6 : decode cX1_init 6 = .ok (.putfield 9, 3) := by decide +kernel
theorem dX1_init_9 : decode cX1_init 9 = .ok (.aload_n 0, 1) := by decide +kernel
theorem dX1_init_10 : decode cX1_init 10 = .ok (.bipush 6, 2) := by decide +kernel
theorem dX1_init_12 : decode cX1_init 12 = .ok (.newarray .int, 2) := by decide +kernel
theorem dX1_init_14 : decode cX1_init 14 = .ok (.putfield 15, 3) := by decide +kernel
theorem dX1_init_17 : decode cX1_init 17 = .ok (.aload_n 0, 1) := by decide +kernel
theorem dX1_init_18 : decode cX1_init 18 = .ok (.bipush 6, 2) := by decide +kernel
theorem dX1_init_20 : decode cX1_init 20 = .ok (.newarray .int, 2) := by decide +kernel
theorem dX1_init_22 : decode cX1_init 22 = .ok (.putfield 19, 3) := by decide +kernel
theorem dX1_init_25 : decode cX1_init 25 = .ok (.aload_n 0, 1) := by decide +kernel
theorem dX1_init_26 : decode cX1_init 26 = .ok (.bipush 6, 2) := by decide +kernel
theorem dX1_init_28 : decode cX1_init 28 = .ok (.newarray .int, 2) := by decide +kernel
theorem dX1_init_30 : decode cX1_init 30 = .ok (.putfield 22, 3) := by decide +kernel
theorem dX1_init_33 : decode cX1_init 33 = .ok (.aload_n 0, 1) := by decide +kernel
theorem dX1_init_34 : decode cX1_init 34 = .ok (.bipush 6, 2) := by decide +kernel
theorem dX1_init_36 : decode cX1_init 36 = .ok (.newarray .int, 2) := by decide +kernel
theorem dX1_init_38 : decode cX1_init 38 = .ok (.putfield 25, 3) := by decide +kernel
theorem dX1_init_41 : decode cX1_init 41 = .ok (.aload_n 0, 1) := by decide +kernel
theorem dX1_init_42 : decode cX1_init 42 = .ok (.iconst 2, 1) := by decide +kernel
theorem dX1_init_43 : decode cX1_init 43 = .ok (.bipush 24, 2) := by decide +kernel
theorem dX1_init_45 : decode cX1_init 45 = .ok (.multianewarray 28 2, 4) := by decide +kernel
theorem dX1_init_49 : decode cX1_init 49 = .ok (.putfield 30, 3) := by decide +kernel
theorem dX1_init_52 : decode cX1_init 52 = .ok (.aload_n 0, 1) := by decide +kernel
theorem dX1_init_53 : decode cX1_init 53 = .ok (.bipush 24, 2) := by decide +kernel
theorem dX1_init_55 : decode cX1_init 55 = .ok (.newarray .int, 2) := by decide +kernel
theorem dX1_init_57 : decode cX1_init 57 = .ok (.putfield 33, 3) := by decide +kernel
theorem dX1_init_60 : decode cX1_init 60 = .ok (.aload_n 0, 1) := by decide +kernel
theorem dX1_init_61 : decode cX1_init 61 = .ok (.bipush 24, 2) := by decide +kernel
theorem dX1_init_63 : decode cX1_init 63 = .ok (.newarray .boolean, 2) := by decide +kernel
theorem dX1_init_65 : decode cX1_init 65 = .ok (.putfield 36, 3) := by decide +kernel
theorem dX1_init_68 : decode cX1_init 68 = .ok (.aload_n 0, 1) := by decide +kernel
theorem dX1_init_69 : decode cX1_init 69 = .ok (.bipush 24, 2) := by decide +kernel
theorem dX1_init_71 : decode cX1_init 71 = .ok (.newarray .boolean, 2) := by decide +kernel
theorem dX1_init_73 : decode cX1_init 73 = .ok (.putfield 40, 3) := by decide +kernel
theorem dX1_init_76 : decode cX1_init 76 = .ok (.return_, 1) := by decide +kernel
theorem dX1_takeCars_0 : decode cX1_takeCars 0 = .ok (.aload_n 0, 1) := by decide +kernel
theorem dX1_takeCars_1 : decode cX1_takeCars 1 = .ok (.aload_n 1, 1) := by decide +kernel
theorem dX1_takeCars_2 : decode cX1_takeCars 2 = .ok (.getfield 43, 3) := by decide +kernel
theorem dX1_takeCars_5 : decode cX1_takeCars 5 = .ok (.bipush 6, 2) := by decide +kernel
theorem dX1_takeCars_7 : decode cX1_takeCars 7 = .ok (.invokestatic 48, 3) := by decide +kernel
theorem dX1_takeCars_10 : decode cX1_takeCars 10 = .ok (.putfield 9, 3) := by decide +kernel
theorem dX1_takeCars_13 : decode cX1_takeCars 13 = .ok (.iconst 0, 1) := by decide +kernel
theorem dX1_takeCars_14 : decode cX1_takeCars 14 = .ok (.istore_n 2, 1) := by decide +kernel
theorem dX1_takeCars_15 : decode cX1_takeCars 15 = .ok (.iload_n 2, 1) := by decide +kernel
theorem dX1_takeCars_16 : decode cX1_takeCars 16 = .ok (.aload_n 0, 1) := by decide +kernel
theorem dX1_takeCars_17 : decode cX1_takeCars 17 = .ok (.getfield 9, 3) := by decide +kernel
theorem dX1_takeCars_20 : decode cX1_takeCars 20 = .ok (.if_icmp .ge 45, 3) := by decide +kernel
theorem dX1_takeCars_23 : decode cX1_takeCars 23 = .ok (.aload_n 0, 1) := by decide +kernel
theorem dX1_takeCars_24 : decode cX1_takeCars 24 = .ok (.getfield 15, 3) := by decide +kernel
theorem dX1_takeCars_27 : decode cX1_takeCars 27 = .ok (.iload_n 2, 1) := by decide +kernel
theorem dX1_takeCars_28 : decode cX1_takeCars 28 = .ok (.aload_n 1, 1) := by decide +kernel
theorem dX1_takeCars_29 : decode cX1_takeCars 29 = .ok (.getfield 54, 3) := by decide +kernel
theorem dX1_takeCars_32 : decode cX1_takeCars 32 = .ok (.iload_n 2, 1) := by decide +kernel
theorem dX1_takeCars_33 : decode cX1_takeCars 33 = .ok (.iaload, 1) := by decide +kernel
theorem dX1_takeCars_34 : decode cX1_takeCars 34 = .ok (.iastore, 1) := by decide +kernel
theorem dX1_takeCars_35 : decode cX1_takeCars 35 = .ok (.aload_n 0, 1) := by decide +kernel
theorem dX1_takeCars_36 : decode cX1_takeCars 36 = .ok (.getfield 19, 3) := by decide +kernel
theorem dX1_takeCars_39 : decode cX1_takeCars 39 = .ok (.iload_n 2, 1) := by decide +kernel
theorem dX1_takeCars_40 : decode cX1_takeCars 40 = .ok (.aload_n 1, 1) := by decide +kernel
theorem dX1_takeCars_41 : decode cX1_takeCars 41 = .ok (.getfield 57, 3) := by decide +kernel
theorem dX1_takeCars_44 : decode cX1_takeCars 44 = .ok (.iload_n 2, 1) := by decide +kernel
theorem dX1_takeCars_45 : decode cX1_takeCars 45 = .ok (.iaload, 1) := by decide +kernel
theorem dX1_takeCars_46 : decode cX1_takeCars 46 = .ok (.iastore, 1) := by decide +kernel
theorem dX1_takeCars_47 : decode cX1_takeCars 47 = .ok (.aload_n 0, 1) := by decide +kernel
theorem dX1_takeCars_48 : decode cX1_takeCars 48 = .ok (.getfield 22, 3) := by decide +kernel
theorem dX1_takeCars_51 : decode cX1_takeCars 51 = .ok (.iload_n 2, 1) := by decide +kernel
theorem dX1_takeCars_52 : decode cX1_takeCars 52 = .ok (.aload_n 1, 1) := by decide +kernel
theorem dX1_takeCars_53 : decode cX1_takeCars 53 = .ok (.getfield 60, 3) := by decide +kernel
theorem dX1_takeCars_56 : decode cX1_takeCars 56 = .ok (.iload_n 2, 1) := by decide +kernel
theorem dX1_takeCars_57 : decode cX1_takeCars 57 = .ok (.iaload, 1) := by decide +kernel
theorem dX1_takeCars_58 : decode cX1_takeCars 58 = .ok (.iastore, 1) := by decide +kernel
theorem dX1_takeCars_59 : decode cX1_takeCars 59 = .ok (.iinc 2 1, 3) := by decide +kernel
theorem dX1_takeCars_62 : decode cX1_takeCars 62 = .ok (.goto (-47), 3) := by decide +kernel
theorem dX1_takeCars_65 : decode cX1_takeCars 65 = .ok (.return_, 1) := by decide +kernel
theorem dX1_takeComings_0 : decode cX1_takeComings 0 = .ok (.aload_n 0, 1) := by decide +kernel
theorem dX1_takeComings_1 : decode cX1_takeComings 1 = .ok (.getfield 30, 3) := by decide +kernel
theorem dX1_takeComings_4 : decode cX1_takeComings 4 = .ok (.iconst 0, 1) := by decide +kernel
theorem dX1_takeComings_5 : decode cX1_takeComings 5 = .ok (.aaload, 1) := by decide +kernel
theorem dX1_takeComings_6 : decode cX1_takeComings 6 = .ok (.iconst 0, 1) := by decide +kernel
theorem dX1_takeComings_7 : decode cX1_takeComings 7 = .ok (.invokestatic 63, 3) := by decide +kernel
theorem dX1_takeComings_10 : decode cX1_takeComings 10 = .ok (.aload_n 0, 1) := by decide +kernel
theorem dX1_takeComings_11 : decode cX1_takeComings 11 = .ok (.getfield 30, 3) := by decide +kernel
theorem dX1_takeComings_14 : decode cX1_takeComings 14 = .ok (.iconst 1, 1) := by decide +kernel
theorem dX1_takeComings_15 : decode cX1_takeComings 15 = .ok (.aaload, 1) := by decide +kernel
theorem dX1_takeComings_16 : decode cX1_takeComings 16 = .ok (.iconst 0, 1) := by decide +kernel
theorem dX1_takeComings_17 : decode cX1_takeComings 17 = .ok (.invokestatic 63, 3) := by decide +kernel
theorem dX1_takeComings_20 : decode cX1_takeComings 20 = .ok (.iconst 0, 1) := by decide +kernel
theorem dX1_takeComings_21 : decode cX1_takeComings 21 = .ok (.istore_n 2, 1) := by decide +kernel
theorem dX1_takeComings_22 : decode cX1_takeComings 22 = .ok (.iload_n 2, 1) := by decide +kernel
theorem dX1_takeComings_23 : decode cX1_takeComings 23 = .ok (.aload_n 1, 1) := by decide +kernel
theorem dX1_takeComings_24 : decode cX1_takeComings 24 = .ok (.getfield 43, 3) := by decide +kernel
theorem dX1_takeComings_27 : decode cX1_takeComings 27 = .ok (.if_icmp .ge 36, 3) := by decide +kernel
theorem dX1_takeComings_30 : decode cX1_takeComings 30 = .ok (.aload_n 0, 1) := by decide +kernel
theorem dX1_takeComings_31 : decode cX1_takeComings 31 = .ok (.getfield 30, 3) := by decide +kernel
theorem dX1_takeComings_34 : decode cX1_takeComings 34 = .ok (.aload_n 1, 1) := by decide +kernel
theorem dX1_takeComings_35 : decode cX1_takeComings 35 = .ok (.getfield 57, 3) := by decide +kernel
theorem dX1_takeComings_38 : decode cX1_takeComings 38 = .ok (.iload_n 2, 1) := by decide +kernel
theorem dX1_takeComings_39 : decode cX1_takeComings 39 = .ok (.iaload, 1) := by decide +kernel
theorem dX1_takeComings_40 : decode cX1_takeComings 40 = .ok (.aaload, 1) := by decide +kernel
theorem dX1_takeComings_41 : decode cX1_takeComings 41 = .ok (.aload_n 1, 1) := by decide +kernel
theorem dX1_takeComings_42 : decode cX1_takeComings 42 = .ok (.getfield 54, 3) := by decide +kernel
theorem dX1_takeComings_45 : decode cX1_takeComings 45 = .ok (.iload_n 2, 1) := by decide +kernel
theorem dX1_takeComings_46 : decode cX1_takeComings 46 = .ok (.iaload, 1) := by decide +kernel
theorem dX1_takeComings_47 : decode cX1_takeComings 47 = .ok (.dup2, 1) := by decide +kernel
theorem dX1_takeComings_48 : decode cX1_takeComings 48 = .ok (.iaload, 1) := by decide +kernel
theorem dX1_takeComings_49 : decode cX1_takeComings 49 = .ok (.aload_n 1, 1) := by decide +kernel
theorem dX1_takeComings_50 : decode cX1_takeComings 50 = .ok (.getfield 60, 3) := by decide +kernel
theorem dX1_takeComings_53 : decode cX1_takeComings 53 = .ok (.iload_n 2, 1) := by decide +kernel
theorem dX1_takeComings_54 : decode cX1_takeComings 54 = .ok (.iaload, 1) := by decide +kernel
theorem dX1_takeComings_55 : decode cX1_takeComings 55 = .ok (.iadd, 1) := by decide +kernel
theorem dX1_takeComings_56 : decode cX1_takeComings 56 = .ok (.iastore, 1) := by decide +kernel
theorem dX1_takeComings_57 : decode cX1_takeComings 57 = .ok (.iinc 2 1, 3) := by decide +kernel
theorem dX1_takeComings_60 : decode cX1_takeComings 60 = .ok (.goto (-38), 3) := by decide +kernel
theorem dX1_takeComings_63 : decode cX1_takeComings 63 = .ok (.return_, 1) := by decide +kernel
theorem dX1_takeEvents_0 : decode cX1_takeEvents 0 = .ok (.iconst 0, 1) := by decide +kernel
theorem dX1_takeEvents_1 : decode cX1_takeEvents 1 = .ok (.istore_n 3, 1) := by decide +kernel
theorem dX1_takeEvents_2 : decode cX1_takeEvents 2 = .ok (.iload_n 3, 1) := by decide +kernel
theorem dX1_takeEvents_3 : decode cX1_takeEvents 3 = .ok (.bipush 24, 2) := by decide +kernel
theorem dX1_takeEvents_5 : decode cX1_takeEvents 5 = .ok (.if_icmp .ge 23, 3) := by decide +kernel
theorem dX1_takeEvents_8 : decode cX1_takeEvents 8 = .ok (.aload_n 0, 1) := by decide +kernel
theorem dX1_takeEvents_9 : decode cX1_takeEvents 9 = .ok (.getfield 36, 3) := by decide +kernel
theorem dX1_takeEvents_12 : decode cX1_takeEvents 12 = .ok (.iload_n 3, 1) := by decide +kernel
theorem dX1_takeEvents_13 : decode cX1_takeEvents 13 = .ok (.iconst 0, 1) := by decide +kernel
theorem dX1_takeEvents_14 : decode cX1_takeEvents 14 = .ok (.bastore, 1) := by decide +kernel
theorem dX1_takeEvents_15 : decode cX1_takeEvents 15 = .ok (.aload_n 0, 1) := by decide +kernel
theorem dX1_takeEvents_16 : decode cX1_takeEvents 16 = .ok (.getfield 40, 3) := by decide +kernel
theorem dX1_takeEvents_19 : decode cX1_takeEvents 19 = .ok (.iload_n 3, 1) := by decide +kernel
theorem dX1_takeEvents_20 : decode cX1_takeEvents 20 = .ok (.iconst 0, 1) := by decide +kernel
theorem dX1_takeEvents_21 : decode cX1_takeEvents 21 = .ok (.bastore, 1) := by decide +kernel
theorem dX1_takeEvents_22 : decode cX1_takeEvents 22 = .ok (.iinc 3 1, 3) := by decide +kernel
theorem dX1_takeEvents_25 : decode cX1_takeEvents 25 = .ok (.goto (-23), 3) := by decide +kernel
theorem dX1_takeEvents_28 : decode cX1_takeEvents 28 = .ok (.aload_n 0, 1) := by decide +kernel
theorem dX1_takeEvents_29 : decode cX1_takeEvents 29 = .ok (.getfield 25, 3) := by decide +kernel
theorem dX1_takeEvents_32 : decode cX1_takeEvents 32 = .ok (.bipush 24, 2) := by decide +kernel
theorem dX1_takeEvents_34 : decode cX1_takeEvents 34 = .ok (.invokestatic 63, 3) := by decide +kernel
theorem dX1_takeEvents_37 : decode cX1_takeEvents 37 = .ok (.iconst 0, 1) := by decide +kernel
theorem dX1_takeEvents_38 : decode cX1_takeEvents 38 = .ok (.istore_n 3, 1) := by decide +kernel
theorem dX1_takeEvents_39 : decode cX1_takeEvents 39 = .ok (.iload_n 3, 1) := by decide +kernel
theorem dX1_takeEvents_40 : decode cX1_takeEvents 40 = .ok (.aload_n 1, 1) := by decide +kernel
theorem dX1_takeEvents_41 : decode cX1_takeEvents 41 = .ok (.getfield 69, 3) := by decide +kernel
theorem dX1_takeEvents_44 : decode cX1_takeEvents 44 = .ok (.if_icmp .ge 40, 3) := by decide +kernel
theorem dX1_takeEvents_47 : decode cX1_takeEvents 47 = .ok (.iload_n 2, 1) := by decide +kernel
theorem dX1_takeEvents_48 : decode cX1_takeEvents 48 = .ok (.iload_n 3, 1) := by decide +kernel
theorem dX1_takeEvents_49 : decode cX1_takeEvents 49 = .ok (.ishr, 1) := by decide +kernel
theorem dX1_takeEvents_50 : decode cX1_takeEvents 50 = .ok (.iconst 1, 1) := by decide +kernel
theorem dX1_takeEvents_51 : decode cX1_takeEvents 51 = .ok (.iand, 1) := by decide +kernel
theorem dX1_takeEvents_52 : decode cX1_takeEvents 52 = .ok (.iconst 1, 1) := by decide +kernel
theorem dX1_takeEvents_53 : decode cX1_takeEvents 53 = .ok (.if_icmp .ne 25, 3) := by decide +kernel
theorem dX1_takeEvents_56 : decode cX1_takeEvents 56 = .ok (.aload_n 0, 1) := by decide +kernel
theorem dX1_takeEvents_57 : decode cX1_takeEvents 57 = .ok (.aload_n 1, 1) := by decide +kernel
theorem dX1_takeEvents_58 : decode cX1_takeEvents 58 = .ok (.getfield 72, 3) := by decide +kernel
theorem dX1_takeEvents_61 : decode cX1_takeEvents 61 = .ok (.iload_n 3, 1) := by decide +kernel
theorem dX1_takeEvents_62 : decode cX1_takeEvents 62 = .ok (.iaload, 1) := by decide +kernel
theorem dX1_takeEvents_63 : decode cX1_takeEvents 63 = .ok (.aload_n 1, 1) := by decide +kernel
theorem dX1_takeEvents_64 : decode cX1_takeEvents 64 = .ok (.getfield 75, 3) := by decide +kernel
theorem dX1_takeEvents_67 : decode cX1_takeEvents 67 = .ok (.iload_n 3, 1) := by decide +kernel
theorem dX1_takeEvents_68 : decode cX1_takeEvents 68 = .ok (.iaload, 1) := by decide +kernel
theorem dX1_takeEvents_69 : decode cX1_takeEvents 69 = .ok (.aload_n 1, 1) := by decide +kernel
theorem dX1_takeEvents_70 : decode cX1_takeEvents 70 = .ok (.getfield 78, 3) := by decide +kernel
theorem dX1_takeEvents_73 : decode cX1_takeEvents 73 = .ok (.iload_n 3, 1) := by decide +kernel
theorem dX1_takeEvents_74 : decode cX1_takeEvents 74 = .ok (.iaload, 1) := by decide +kernel
theorem dX1_takeEvents_75 : decode cX1_takeEvents 75 = .ok (.invokevirtual 81, 3) := by decide +kernel
theorem dX1_takeEvents_78 : decode cX1_takeEvents 78 = .ok (.iinc 3 1, 3) := by decide +kernel
theorem dX1_takeEvents_81 : decode cX1_takeEvents 81 = .ok (.goto (-42), 3) := by decide +kernel
theorem dX1_takeEvents_84 : decode cX1_takeEvents 84 = .ok (.return_, 1) := by decide +kernel
theorem dX1_takeEvent_0 : decode cX1_takeEvent 0 = .ok (.iload_n 1, 1) := by decide +kernel
theorem dX1_takeEvent_1 : decode cX1_takeEvent 1 = .ok (.ifCond .ne 10, 3) := by decide +kernel
theorem dX1_takeEvent_4 : decode cX1_takeEvent 4 = .ok (.aload_n 0, 1) := by decide +kernel
theorem dX1_takeEvent_5 : decode cX1_takeEvent 5 = .ok (.getfield 36, 3) := by decide +kernel
theorem dX1_takeEvent_8 : decode cX1_takeEvent 8 = .ok (.iload_n 2, 1) := by decide +kernel
theorem dX1_takeEvent_9 : decode cX1_takeEvent 9 = .ok (.iconst 1, 1) := by decide +kernel
theorem dX1_takeEvent_10 : decode cX1_takeEvent 10 = .ok (.bastore, 1) := by decide +kernel
theorem dX1_takeEvent_11 : decode cX1_takeEvent 11 = .ok (.iload_n 1, 1) := by decide +kernel
theorem dX1_takeEvent_12 : decode cX1_takeEvent 12 = .ok (.iconst 1, 1) := by decide +kernel
theorem dX1_takeEvent_13 : decode cX1_takeEvent 13 = .ok (.if_icmp .ne 10, 3) := by decide +kernel
theorem dX1_takeEvent_16 : decode cX1_takeEvent 16 = .ok (.aload_n 0, 1) := by decide +kernel
theorem dX1_takeEvent_17 : decode cX1_takeEvent 17 = .ok (.getfield 40, 3) := by decide +kernel
theorem dX1_takeEvent_20 : decode cX1_takeEvent 20 = .ok (.iload_n 2, 1) := by decide +kernel
theorem dX1_takeEvent_21 : decode cX1_takeEvent 21 = .ok (.iconst 1, 1) := by decide +kernel
theorem dX1_takeEvent_22 : decode cX1_takeEvent 22 = .ok (.bastore, 1) := by decide +kernel
theorem dX1_takeEvent_23 : decode cX1_takeEvent 23 = .ok (.iload_n 1, 1) := by decide +kernel
theorem dX1_takeEvent_24 : decode cX1_takeEvent 24 = .ok (.iconst 2, 1) := by decide +kernel
theorem dX1_takeEvent_25 : decode cX1_takeEvent 25 = .ok (.if_icmp .ne 19, 3) := by decide +kernel
theorem dX1_takeEvent_28 : decode cX1_takeEvent 28 = .ok (.aload_n 0, 1) := by decide +kernel
theorem dX1_takeEvent_29 : decode cX1_takeEvent 29 = .ok (.getfield 25, 3) := by decide +kernel
theorem dX1_takeEvent_32 : decode cX1_takeEvent 32 = .ok (.iload_n 3, 1) := by decide +kernel
theorem dX1_takeEvent_33 : decode cX1_takeEvent 33 = .ok (.aload_n 0, 1) := by decide +kernel
theorem dX1_takeEvent_34 : decode cX1_takeEvent 34 = .ok (.getfield 25, 3) := by decide +kernel
theorem dX1_takeEvent_37 : decode cX1_takeEvent 37 = .ok (.iload_n 3, 1) := by decide +kernel
theorem dX1_takeEvent_38 : decode cX1_takeEvent 38 = .ok (.iaload, 1) := by decide +kernel
theorem dX1_takeEvent_39 : decode cX1_takeEvent 39 = .ok (.iload_n 2, 1) := by decide +kernel
theorem dX1_takeEvent_40 : decode cX1_takeEvent 40 = .ok (.invokestatic 48, 3) := by decide +kernel
theorem dX1_takeEvent_43 : decode cX1_takeEvent 43 = .ok (.iastore, 1) := by decide +kernel
theorem dX1_takeEvent_44 : decode cX1_takeEvent 44 = .ok (.return_, 1) := by decide +kernel
theorem dX1_places_0 : decode cX1_places 0 = .ok (.aload_n 0, 1) := by decide +kernel
theorem dX1_places_1 : decode cX1_places 1 = .ok (.getfield 40, 3) := by decide +kernel
theorem dX1_places_4 : decode cX1_places 4 = .ok (.iload_n 1, 1) := by decide +kernel
theorem dX1_places_5 : decode cX1_places 5 = .ok (.baload, 1) := by decide +kernel
theorem dX1_places_6 : decode cX1_places 6 = .ok (.ifCond .eq 7, 3) := by decide +kernel
theorem dX1_places_9 : decode cX1_places 9 = .ok (.iconst 0, 1) := by decide +kernel
theorem dX1_places_10 : decode cX1_places 10 = .ok (.goto 9, 3) := by decide +kernel
theorem dX1_places_13 : decode cX1_places 13 = .ok (.aload_n 0, 1) := by decide +kernel
theorem dX1_places_14 : decode cX1_places 14 = .ok (.getfield 33, 3) := by decide +kernel
theorem dX1_places_17 : decode cX1_places 17 = .ok (.iload_n 1, 1) := by decide +kernel
theorem dX1_places_18 : decode cX1_places 18 = .ok (.iaload, 1) := by decide +kernel
theorem dX1_places_19 : decode cX1_places 19 = .ok (.ireturn, 1) := by decide +kernel
theorem dX1_roomIn_0 : decode cX1_roomIn 0 = .ok (.aload_n 0, 1) := by decide +kernel
theorem dX1_roomIn_1 : decode cX1_roomIn 1 = .ok (.getfield 19, 3) := by decide +kernel
theorem dX1_roomIn_4 : decode cX1_roomIn 4 = .ok (.iload_n 1, 1) := by decide +kernel
theorem dX1_roomIn_5 : decode cX1_roomIn 5 = .ok (.iaload, 1) := by decide +kernel
theorem dX1_roomIn_6 : decode cX1_roomIn 6 = .ok (.iconst 2, 1) := by decide +kernel
theorem dX1_roomIn_7 : decode cX1_roomIn 7 = .ok (.if_icmp .ne 14, 3) := by decide +kernel
theorem dX1_roomIn_10 : decode cX1_roomIn 10 = .ok (.aload_n 0, 1) := by decide +kernel
theorem dX1_roomIn_11 : decode cX1_roomIn 11 = .ok (.getfield 22, 3) := by decide +kernel
theorem dX1_roomIn_14 : decode cX1_roomIn 14 = .ok (.iload_n 1, 1) := by decide +kernel
theorem dX1_roomIn_15 : decode cX1_roomIn 15 = .ok (.iaload, 1) := by decide +kernel
theorem dX1_roomIn_16 : decode cX1_roomIn 16 = .ok (.iconst 2, 1) := by decide +kernel
theorem dX1_roomIn_17 : decode cX1_roomIn 17 = .ok (.idiv, 1) := by decide +kernel
theorem dX1_roomIn_18 : decode cX1_roomIn 18 = .ok (.goto 9, 3) := by decide +kernel
theorem dX1_roomIn_21 : decode cX1_roomIn 21 = .ok (.aload_n 0, 1) := by decide +kernel
theorem dX1_roomIn_22 : decode cX1_roomIn 22 = .ok (.getfield 22, 3) := by decide +kernel
theorem dX1_roomIn_25 : decode cX1_roomIn 25 = .ok (.iload_n 1, 1) := by decide +kernel
theorem dX1_roomIn_26 : decode cX1_roomIn 26 = .ok (.iaload, 1) := by decide +kernel
theorem dX1_roomIn_27 : decode cX1_roomIn 27 = .ok (.ireturn, 1) := by decide +kernel
theorem dX1_isClosed_0 : decode cX1_isClosed 0 = .ok (.iload_n 2, 1) := by decide +kernel
theorem dX1_isClosed_1 : decode cX1_isClosed 1 = .ok (.aload_n 0, 1) := by decide +kernel
theorem dX1_isClosed_2 : decode cX1_isClosed 2 = .ok (.getfield 25, 3) := by decide +kernel
theorem dX1_isClosed_5 : decode cX1_isClosed 5 = .ok (.iload_n 1, 1) := by decide +kernel
theorem dX1_isClosed_6 : decode cX1_isClosed 6 = .ok (.iaload, 1) := by decide +kernel
theorem dX1_isClosed_7 : decode cX1_isClosed 7 = .ok (.if_icmp .ge 21, 3) := by decide +kernel
theorem dX1_isClosed_10 : decode cX1_isClosed 10 = .ok (.aload_n 0, 1) := by decide +kernel
theorem dX1_isClosed_11 : decode cX1_isClosed 11 = .ok (.getfield 36, 3) := by decide +kernel
theorem dX1_isClosed_14 : decode cX1_isClosed 14 = .ok (.iload_n 2, 1) := by decide +kernel
theorem dX1_isClosed_15 : decode cX1_isClosed 15 = .ok (.baload, 1) := by decide +kernel
theorem dX1_isClosed_16 : decode cX1_isClosed 16 = .ok (.ifCond .eq 16, 3) := by decide +kernel
theorem dX1_isClosed_19 : decode cX1_isClosed 19 = .ok (.aload_n 0, 1) := by decide +kernel
theorem dX1_isClosed_20 : decode cX1_isClosed 20 = .ok (.getfield 19, 3) := by decide +kernel
theorem dX1_isClosed_23 : decode cX1_isClosed 23 = .ok (.iload_n 1, 1) := by decide +kernel
theorem dX1_isClosed_24 : decode cX1_isClosed 24 = .ok (.iaload, 1) := by decide +kernel
theorem dX1_isClosed_25 : decode cX1_isClosed 25 = .ok (.ifCond .ne 7, 3) := by decide +kernel
theorem dX1_isClosed_28 : decode cX1_isClosed 28 = .ok (.iconst 1, 1) := by decide +kernel
theorem dX1_isClosed_29 : decode cX1_isClosed 29 = .ok (.goto 4, 3) := by decide +kernel
theorem dX1_isClosed_32 : decode cX1_isClosed 32 = .ok (.iconst 0, 1) := by decide +kernel
theorem dX1_isClosed_33 : decode cX1_isClosed 33 = .ok (.ireturn, 1) := by decide +kernel
theorem dX2_init_0 : decode cX2_init 0 = .ok (.aload_n 0, 1) := by decide +kernel
theorem dX2_init_1 : decode cX2_init 1 = .ok (.invokespecial 3, 3) := by decide +kernel
theorem dX2_init_4 : decode cX2_init 4 = .ok (.aload_n 0, 1) := by decide +kernel
theorem dX2_init_5 : decode cX2_init 5 = .ok (.bipush 6, 2) := by decide +kernel
theorem dX2_init_7 : decode cX2_init 7 = .ok (.bipush 24, 2) := by decide +kernel
theorem dX2_init_9 : decode cX2_init 9 = .ok (.multianewarray 9 2, 4) := by decide +kernel
theorem dX2_init_13 : decode cX2_init 13 = .ok (.putfield 11, 3) := by decide +kernel
theorem dX2_init_16 : decode cX2_init 16 = .ok (.aload_n 0, 1) := by decide +kernel
theorem dX2_init_17 : decode cX2_init 17 = .ok (.bipush 6, 2) := by decide +kernel
theorem dX2_init_19 : decode cX2_init 19 = .ok (.bipush 24, 2) := by decide +kernel
theorem dX2_init_21 : decode cX2_init 21 = .ok (.multianewarray 9 2, 4) := by decide +kernel
theorem dX2_init_25 : decode cX2_init 25 = .ok (.putfield 16, 3) := by decide +kernel
theorem dX2_init_28 : decode cX2_init 28 = .ok (.aload_n 0, 1) := by decide +kernel
theorem dX2_init_29 : decode cX2_init 29 = .ok (.iconst 2, 1) := by decide +kernel
theorem dX2_init_30 : decode cX2_init 30 = .ok (.bipush 24, 2) := by decide +kernel
theorem dX2_init_32 : decode cX2_init 32 = .ok (.multianewarray 9 2, 4) := by decide +kernel
theorem dX2_init_36 : decode cX2_init 36 = .ok (.putfield 19, 3) := by decide +kernel
theorem dX2_init_39 : decode cX2_init 39 = .ok (.aload_n 0, 1) := by decide +kernel
theorem dX2_init_40 : decode cX2_init 40 = .ok (.bipush 24, 2) := by decide +kernel
theorem dX2_init_42 : decode cX2_init 42 = .ok (.newarray .int, 2) := by decide +kernel
theorem dX2_init_44 : decode cX2_init 44 = .ok (.putfield 22, 3) := by decide +kernel
theorem dX2_init_47 : decode cX2_init 47 = .ok (.aload_n 0, 1) := by decide +kernel
theorem dX2_init_48 : decode cX2_init 48 = .ok (.bipush 6, 2) := by decide +kernel
theorem dX2_init_50 : decode cX2_init 50 = .ok (.newarray .int, 2) := by decide +kernel
theorem dX2_init_52 : decode cX2_init 52 = .ok (.putfield 26, 3) := by decide +kernel
theorem dX2_init_55 : decode cX2_init 55 = .ok (.aload_n 0, 1) := by decide +kernel
theorem dX2_init_56 : decode cX2_init 56 = .ok (.bipush 6, 2) := by decide +kernel
theorem dX2_init_58 : decode cX2_init 58 = .ok (.newarray .int, 2) := by decide +kernel
theorem dX2_init_60 : decode cX2_init 60 = .ok (.putfield 29, 3) := by decide +kernel
theorem dX2_init_63 : decode cX2_init 63 = .ok (.aload_n 0, 1) := by decide +kernel
theorem dX2_init_64 : decode cX2_init 64 = .ok (.bipush 6, 2) := by decide +kernel
theorem dX2_init_66 : decode cX2_init 66 = .ok (.newarray .int, 2) := by decide +kernel
theorem dX2_init_68 : decode cX2_init 68 = .ok (.putfield 32, 3) := by decide +kernel
theorem dX2_init_71 : decode cX2_init 71 = .ok (.aload_n 0, 1) := by decide +kernel
theorem dX2_init_72 : decode cX2_init 72 = .ok (.iconst 2, 1) := by decide +kernel
theorem dX2_init_73 : decode cX2_init 73 = .ok (.newarray .int, 2) := by decide +kernel
theorem dX2_init_75 : decode cX2_init 75 = .ok (.putfield 35, 3) := by decide +kernel
theorem dX2_init_78 : decode cX2_init 78 = .ok (.aload_n 0, 1) := by decide +kernel
theorem dX2_init_79 : decode cX2_init 79 = .ok (.iconst 2, 1) := by decide +kernel
theorem dX2_init_80 : decode cX2_init 80 = .ok (.newarray .int, 2) := by decide +kernel
theorem dX2_init_82 : decode cX2_init 82 = .ok (.putfield 38, 3) := by decide +kernel
theorem dX2_init_85 : decode cX2_init 85 = .ok (.aload_n 0, 1) := by decide +kernel
theorem dX2_init_86 : decode cX2_init 86 = .ok (.iconst 0, 1) := by decide +kernel
theorem dX2_init_87 : decode cX2_init 87 = .ok (.putfield 41, 3) := by decide +kernel
theorem dX2_init_90 : decode cX2_init 90 = .ok (.aload_n 0, 1) := by decide +kernel
theorem dX2_init_91 : decode cX2_init 91 = .ok (.iconst 0, 1) := by decide +kernel
theorem dX2_init_92 : decode cX2_init 92 = .ok (.putfield 45, 3) := by decide +kernel
theorem dX2_init_95 : decode cX2_init 95 = .ok (.aload_n 0, 1) := by decide +kernel
theorem dX2_init_96 : decode cX2_init 96 = .ok (.iconst (-1), 1) := by decide +kernel
theorem dX2_init_97 : decode cX2_init 97 = .ok (.putfield 48, 3) := by decide +kernel
theorem dX2_init_100 : decode cX2_init 100 = .ok (.aload_n 0, 1) := by decide +kernel
theorem dX2_init_101 : decode cX2_init 101 = .ok (.iconst (-1), 1) := by decide +kernel
theorem dX2_init_102 : decode cX2_init 102 = .ok (.putfield 51, 3) := by decide +kernel
theorem dX2_init_105 : decode cX2_init 105 = .ok (.return_, 1) := by decide +kernel
theorem dX2_run_0 : decode cX2_run 0 = .ok (.aload_n 0, 1) := by decide +kernel
theorem dX2_run_1 : decode cX2_run 1 = .ok (.aload_n 1, 1) := by decide +kernel
theorem dX2_run_2 : decode cX2_run 2 = .ok (.invokevirtual 54, 3) := by decide +kernel
theorem dX2_run_5 : decode cX2_run 5 = .ok (.iconst 0, 1) := by decide +kernel
theorem dX2_run_6 : decode cX2_run 6 = .ok (.istore_n 3, 1) := by decide +kernel
theorem dX2_run_7 : decode cX2_run 7 = .ok (.iload_n 3, 1) := by decide +kernel
theorem dX2_run_8 : decode cX2_run 8 = .ok (.bipush 24, 2) := by decide +kernel
theorem dX2_run_10 : decode cX2_run 10 = .ok (.if_icmp .ge 109, 3) := by decide +kernel
theorem dX2_run_13 : decode cX2_run 13 = .ok (.iload_n 3, 1) := by decide +kernel
theorem dX2_run_14 : decode cX2_run 14 = .ok (.iload_n 2, 1) := by decide +kernel
theorem dX2_run_15 : decode cX2_run 15 = .ok (.if_icmp .gt 104, 3) := by decide +kernel
theorem dX2_run_18 : decode cX2_run 18 = .ok (.aload_n 0, 1) := by decide +kernel
theorem dX2_run_19 : decode cX2_run 19 = .ok (.getfield 35, 3) := by decide +kernel
theorem dX2_run_22 : decode cX2_run 22 = .ok (.iconst 0, 1) := by decide +kernel
theorem dX2_run_23 : decode cX2_run 23 = .ok (.dup2, 1) := by decide +kernel
theorem dX2_run_24 : decode cX2_run 24 = .ok (.iaload, 1) := by decide +kernel
theorem dX2_run_25 : decode cX2_run 25 = .ok (.aload_n 1, 1) := by decide +kernel
theorem dX2_run_26 : decode cX2_run 26 = .ok (.getfield 58, 3) := by decide +kernel
theorem dX2_run_29 : decode cX2_run 29 = .ok (.iconst 0, 1) := by decide +kernel
theorem dX2_run_30 : decode cX2_run 30 = .ok (.aaload, 1) := by decide +kernel
theorem dX2_run_31 : decode cX2_run 31 = .ok (.iload_n 3, 1) := by decide +kernel
theorem dX2_run_32 : decode cX2_run 32 = .ok (.iaload, 1) := by decide +kernel
theorem dX2_run_33 : decode cX2_run 33 = .ok (.iadd, 1) := by decide +kernel
theorem dX2_run_34 : decode cX2_run 34 = .ok (.iastore, 1) := by decide +kernel
theorem dX2_run_35 : decode cX2_run 35 = .ok (.aload_n 0, 1) := by decide +kernel
theorem dX2_run_36 : decode cX2_run 36 = .ok (.getfield 35, 3) := by decide +kernel
theorem dX2_run_39 : decode cX2_run 39 = .ok (.iconst 1, 1) := by decide +kernel
theorem dX2_run_40 : decode cX2_run 40 = .ok (.dup2, 1) := by decide +kernel
theorem dX2_run_41 : decode cX2_run 41 = .ok (.iaload, 1) := by decide +kernel
theorem dX2_run_42 : decode cX2_run 42 = .ok (.aload_n 1, 1) := by decide +kernel
theorem dX2_run_43 : decode cX2_run 43 = .ok (.getfield 58, 3) := by decide +kernel
theorem dX2_run_46 : decode cX2_run 46 = .ok (.iconst 1, 1) := by decide +kernel
theorem dX2_run_47 : decode cX2_run 47 = .ok (.aaload, 1) := by decide +kernel
theorem dX2_run_48 : decode cX2_run 48 = .ok (.iload_n 3, 1) := by decide +kernel
theorem dX2_run_49 : decode cX2_run 49 = .ok (.iaload, 1) := by decide +kernel
theorem dX2_run_50 : decode cX2_run 50 = .ok (.iadd, 1) := by decide +kernel
theorem dX2_run_51 : decode cX2_run 51 = .ok (.iastore, 1) := by decide +kernel
theorem dX2_run_52 : decode cX2_run 52 = .ok (.aload_n 1, 1) := by decide +kernel
theorem dX2_run_53 : decode cX2_run 53 = .ok (.iload_n 3, 1) := by decide +kernel
theorem dX2_run_54 : decode cX2_run 54 = .ok (.invokevirtual 63, 3) := by decide +kernel
theorem dX2_run_57 : decode cX2_run 57 = .ok (.istore 4, 2) := by decide +kernel
theorem dX2_run_59 : decode cX2_run 59 = .ok (.iconst 0, 1) := by decide +kernel
theorem dX2_run_60 : decode cX2_run 60 = .ok (.istore 5, 2) := by decide +kernel
theorem dX2_run_62 : decode cX2_run 62 = .ok (.iconst 0, 1) := by decide +kernel
theorem dX2_run_63 : decode cX2_run 63 = .ok (.istore 6, 2) := by decide +kernel
theorem dX2_run_65 : decode cX2_run 65 = .ok (.iload 6, 2) := by decide +kernel
theorem dX2_run_67 : decode cX2_run 67 = .ok (.iload 4, 2) := by decide +kernel
theorem dX2_run_69 : decode cX2_run 69 = .ok (.if_icmp .ge 20, 3) := by decide +kernel
theorem dX2_run_72 : decode cX2_run 72 = .ok (.iload 5, 2) := by decide +kernel
theorem dX2_run_74 : decode cX2_run 74 = .ok (.aload_n 0, 1) := by decide +kernel
theorem dX2_run_75 : decode cX2_run 75 = .ok (.aload_n 1, 1) := by decide +kernel
theorem dX2_run_76 : decode cX2_run 76 = .ok (.iload_n 3, 1) := by decide +kernel
theorem dX2_run_77 : decode cX2_run 77 = .ok (.invokevirtual 67, 3) := by decide +kernel
theorem dX2_run_80 : decode cX2_run 80 = .ok (.iadd, 1) := by decide +kernel
theorem dX2_run_81 : decode cX2_run 81 = .ok (.istore 5, 2) := by decide +kernel
theorem dX2_run_83 : decode cX2_run 83 = .ok (.iinc 6 1, 3) := by decide +kernel
theorem dX2_run_86 : decode cX2_run 86 = .ok (.goto (-21), 3) := by decide +kernel
theorem dX2_run_89 : decode cX2_run 89 = .ok (.iload 4, 2) := by decide +kernel
theorem dX2_run_91 : decode cX2_run 91 = .ok (.ifCond .ne 9, 3) := by decide +kernel
theorem dX2_run_94 : decode cX2_run 94 = .ok (.aload_n 0, 1) := by decide +kernel
theorem dX2_run_95 : decode cX2_run 95 = .ok (.aload_n 1, 1) := by decide +kernel
theorem dX2_run_96 : decode cX2_run 96 = .ok (.iload_n 3, 1) := by decide +kernel
theorem dX2_run_97 : decode cX2_run 97 = .ok (.invokevirtual 71, 3) := by decide +kernel
theorem dX2_run_100 : decode cX2_run 100 = .ok (.aload_n 0, 1) := by decide +kernel
theorem dX2_run_101 : decode cX2_run 101 = .ok (.getfield 22, 3) := by decide +kernel
theorem dX2_run_104 : decode cX2_run 104 = .ok (.iload_n 3, 1) := by decide +kernel
theorem dX2_run_105 : decode cX2_run 105 = .ok (.iload 5, 2) := by decide +kernel
theorem dX2_run_107 : decode cX2_run 107 = .ok (.iastore, 1) := by decide +kernel
theorem dX2_run_108 : decode cX2_run 108 = .ok (.aload_n 0, 1) := by decide +kernel
theorem dX2_run_109 : decode cX2_run 109 = .ok (.iload_n 3, 1) := by decide +kernel
theorem dX2_run_110 : decode cX2_run 110 = .ok (.invokevirtual 75, 3) := by decide +kernel
theorem dX2_run_113 : decode cX2_run 113 = .ok (.iinc 3 1, 3) := by decide +kernel
theorem dX2_run_116 : decode cX2_run 116 = .ok (.goto (-109), 3) := by decide +kernel
theorem dX2_run_119 : decode cX2_run 119 = .ok (.return_, 1) := by decide +kernel
theorem dX2_allInside_0 : decode cX2_allInside 0 = .ok (.iconst 0, 1) := by decide +kernel
theorem dX2_allInside_1 : decode cX2_allInside 1 = .ok (.istore_n 2, 1) := by decide +kernel
theorem dX2_allInside_2 : decode cX2_allInside 2 = .ok (.iconst 0, 1) := by decide +kernel
theorem dX2_allInside_3 : decode cX2_allInside 3 = .ok (.istore_n 3, 1) := by decide +kernel
theorem dX2_allInside_4 : decode cX2_allInside 4 = .ok (.iload_n 3, 1) := by decide +kernel
theorem dX2_allInside_5 : decode cX2_allInside 5 = .ok (.aload_n 0, 1) := by decide +kernel
theorem dX2_allInside_6 : decode cX2_allInside 6 = .ok (.getfield 41, 3) := by decide +kernel
theorem dX2_allInside_9 : decode cX2_allInside 9 = .ok (.if_icmp .ge 20, 3) := by decide +kernel
theorem dX2_allInside_12 : decode cX2_allInside 12 = .ok (.iload_n 2, 1) := by decide +kernel
theorem dX2_allInside_13 : decode cX2_allInside 13 = .ok (.aload_n 0, 1) := by decide +kernel
theorem dX2_allInside_14 : decode cX2_allInside 14 = .ok (.getfield 16, 3) := by decide +kernel
theorem dX2_allInside_17 : decode cX2_allInside 17 = .ok (.iload_n 3, 1) := by decide +kernel
theorem dX2_allInside_18 : decode cX2_allInside 18 = .ok (.aaload, 1) := by decide +kernel
theorem dX2_allInside_19 : decode cX2_allInside 19 = .ok (.iload_n 1, 1) := by decide +kernel
theorem dX2_allInside_20 : decode cX2_allInside 20 = .ok (.iaload, 1) := by decide +kernel
theorem dX2_allInside_21 : decode cX2_allInside 21 = .ok (.iadd, 1) := by decide +kernel
theorem dX2_allInside_22 : decode cX2_allInside 22 = .ok (.istore_n 2, 1) := by decide +kernel
theorem dX2_allInside_23 : decode cX2_allInside 23 = .ok (.iinc 3 1, 3) := by decide +kernel
theorem dX2_allInside_26 : decode cX2_allInside 26 = .ok (.goto (-22), 3) := by decide +kernel
theorem dX2_allInside_29 : decode cX2_allInside 29 = .ok (.iload_n 2, 1) := by decide +kernel
theorem dX2_allInside_30 : decode cX2_allInside 30 = .ok (.ireturn, 1) := by decide +kernel
theorem dX2_allOver_0 : decode cX2_allOver 0 = .ok (.aload_n 0, 1) := by decide +kernel
theorem dX2_allOver_1 : decode cX2_allOver 1 = .ok (.getfield 38, 3) := by decide +kernel
theorem dX2_allOver_4 : decode cX2_allOver 4 = .ok (.iconst 0, 1) := by decide +kernel
theorem dX2_allOver_5 : decode cX2_allOver 5 = .ok (.iaload, 1) := by decide +kernel
theorem dX2_allOver_6 : decode cX2_allOver 6 = .ok (.aload_n 0, 1) := by decide +kernel
theorem dX2_allOver_7 : decode cX2_allOver 7 = .ok (.getfield 38, 3) := by decide +kernel
theorem dX2_allOver_10 : decode cX2_allOver 10 = .ok (.iconst 1, 1) := by decide +kernel
theorem dX2_allOver_11 : decode cX2_allOver 11 = .ok (.iaload, 1) := by decide +kernel
theorem dX2_allOver_12 : decode cX2_allOver 12 = .ok (.iadd, 1) := by decide +kernel
theorem dX2_allOver_13 : decode cX2_allOver 13 = .ok (.ireturn, 1) := by decide +kernel
theorem dX2_allPower_0 : decode cX2_allPower 0 = .ok (.iconst 0, 1) := by decide +kernel
theorem dX2_allPower_1 : decode cX2_allPower 1 = .ok (.istore_n 1, 1) := by decide +kernel
theorem dX2_allPower_2 : decode cX2_allPower 2 = .ok (.iconst 0, 1) := by decide +kernel
theorem dX2_allPower_3 : decode cX2_allPower 3 = .ok (.istore_n 2, 1) := by decide +kernel
theorem dX2_allPower_4 : decode cX2_allPower 4 = .ok (.iload_n 2, 1) := by decide +kernel
theorem dX2_allPower_5 : decode cX2_allPower 5 = .ok (.bipush 24, 2) := by decide +kernel
theorem dX2_allPower_7 : decode cX2_allPower 7 = .ok (.if_icmp .ge 18, 3) := by decide +kernel
theorem dX2_allPower_10 : decode cX2_allPower 10 = .ok (.iload_n 1, 1) := by decide +kernel
theorem dX2_allPower_11 : decode cX2_allPower 11 = .ok (.aload_n 0, 1) := by decide +kernel
theorem dX2_allPower_12 : decode cX2_allPower 12 = .ok (.getfield 22, 3) := by decide +kernel
theorem dX2_allPower_15 : decode cX2_allPower 15 = .ok (.iload_n 2, 1) := by decide +kernel
theorem dX2_allPower_16 : decode cX2_allPower 16 = .ok (.iaload, 1) := by decide +kernel
theorem dX2_allPower_17 : decode cX2_allPower 17 = .ok (.iadd, 1) := by decide +kernel
theorem dX2_allPower_18 : decode cX2_allPower 18 = .ok (.istore_n 1, 1) := by decide +kernel
theorem dX2_allPower_19 : decode cX2_allPower 19 = .ok (.iinc 2 1, 3) := by decide +kernel
theorem dX2_allPower_22 : decode cX2_allPower 22 = .ok (.goto (-18), 3) := by decide +kernel
theorem dX2_allPower_25 : decode cX2_allPower 25 = .ok (.iload_n 1, 1) := by decide +kernel
theorem dX2_allPower_26 : decode cX2_allPower 26 = .ok (.ireturn, 1) := by decide +kernel
theorem dX2_crowdKey_0 : decode cX2_crowdKey 0 = .ok (.aload_n 0, 1) := by decide +kernel
theorem dX2_crowdKey_1 : decode cX2_crowdKey 1 = .ok (.getfield 19, 3) := by decide +kernel
theorem dX2_crowdKey_4 : decode cX2_crowdKey 4 = .ok (.iconst 0, 1) := by decide +kernel
theorem dX2_crowdKey_5 : decode cX2_crowdKey 5 = .ok (.aaload, 1) := by decide +kernel
theorem dX2_crowdKey_6 : decode cX2_crowdKey 6 = .ok (.iload_n 1, 1) := by decide +kernel
theorem dX2_crowdKey_7 : decode cX2_crowdKey 7 = .ok (.iaload, 1) := by decide +kernel
theorem dX2_crowdKey_8 : decode cX2_crowdKey 8 = .ok (.bipush 109, 2) := by decide +kernel
theorem dX2_crowdKey_10 : decode cX2_crowdKey 10 = .ok (.imul, 1) := by decide +kernel
theorem dX2_crowdKey_11 : decode cX2_crowdKey 11 = .ok (.aload_n 0, 1) := by decide +kernel
theorem dX2_crowdKey_12 : decode cX2_crowdKey 12 = .ok (.getfield 19, 3) := by decide +kernel
theorem dX2_crowdKey_15 : decode cX2_crowdKey 15 = .ok (.iconst 1, 1) := by decide +kernel
theorem dX2_crowdKey_16 : decode cX2_crowdKey 16 = .ok (.aaload, 1) := by decide +kernel
theorem dX2_crowdKey_17 : decode cX2_crowdKey 17 = .ok (.iload_n 1, 1) := by decide +kernel
theorem dX2_crowdKey_18 : decode cX2_crowdKey 18 = .ok (.iaload, 1) := by decide +kernel
theorem dX2_crowdKey_19 : decode cX2_crowdKey 19 = .ok (.iadd, 1) := by decide +kernel
theorem dX2_crowdKey_20 : decode cX2_crowdKey 20 = .ok (.ireturn, 1) := by decide +kernel
theorem dX2_start_0 : decode cX2_start 0 = .ok (.aload_n 0, 1) := by decide +kernel
theorem dX2_start_1 : decode cX2_start 1 = .ok (.aload_n 1, 1) := by decide +kernel
theorem dX2_start_2 : decode cX2_start 2 = .ok (.getfield 79, 3) := by decide +kernel
theorem dX2_start_5 : decode cX2_start 5 = .ok (.putfield 41, 3) := by decide +kernel
theorem dX2_start_8 : decode cX2_start 8 = .ok (.iconst 0, 1) := by decide +kernel
theorem dX2_start_9 : decode cX2_start 9 = .ok (.istore_n 2, 1) := by decide +kernel
theorem dX2_start_10 : decode cX2_start 10 = .ok (.iload_n 2, 1) := by decide +kernel
theorem dX2_start_11 : decode cX2_start 11 = .ok (.aload_n 0, 1) := by decide +kernel
theorem dX2_start_12 : decode cX2_start 12 = .ok (.getfield 41, 3) := by decide +kernel
theorem dX2_start_15 : decode cX2_start 15 = .ok (.if_icmp .ge 35, 3) := by decide +kernel
theorem dX2_start_18 : decode cX2_start 18 = .ok (.aload_n 0, 1) := by decide +kernel
theorem dX2_start_19 : decode cX2_start 19 = .ok (.getfield 26, 3) := by decide +kernel
theorem dX2_start_22 : decode cX2_start 22 = .ok (.iload_n 2, 1) := by decide +kernel
theorem dX2_start_23 : decode cX2_start 23 = .ok (.aload_n 1, 1) := by decide +kernel
theorem dX2_start_24 : decode cX2_start 24 = .ok (.getfield 80, 3) := by decide +kernel
theorem dX2_start_27 : decode cX2_start 27 = .ok (.iload_n 2, 1) := by decide +kernel
theorem dX2_start_28 : decode cX2_start 28 = .ok (.iaload, 1) := by decide +kernel
theorem dX2_start_29 : decode cX2_start 29 = .ok (.iastore, 1) := by decide +kernel
theorem dX2_start_30 : decode cX2_start 30 = .ok (.aload_n 0, 1) := by decide +kernel
theorem dX2_start_31 : decode cX2_start 31 = .ok (.getfield 29, 3) := by decide +kernel
theorem dX2_start_34 : decode cX2_start 34 = .ok (.iload_n 2, 1) := by decide +kernel
theorem dX2_start_35 : decode cX2_start 35 = .ok (.iconst 0, 1) := by decide +kernel
theorem dX2_start_36 : decode cX2_start 36 = .ok (.iastore, 1) := by decide +kernel
theorem dX2_start_37 : decode cX2_start 37 = .ok (.aload_n 0, 1) := by decide +kernel
theorem dX2_start_38 : decode cX2_start 38 = .ok (.getfield 32, 3) := by decide +kernel
theorem dX2_start_41 : decode cX2_start 41 = .ok (.iload_n 2, 1) := by decide +kernel
theorem dX2_start_42 : decode cX2_start 42 = .ok (.iconst 0, 1) := by decide +kernel
theorem dX2_start_43 : decode cX2_start 43 = .ok (.iastore, 1) := by decide +kernel
theorem dX2_start_44 : decode cX2_start 44 = .ok (.iinc 2 1, 3) := by decide +kernel
theorem dX2_start_47 : decode cX2_start 47 = .ok (.goto (-37), 3) := by decide +kernel
theorem dX2_start_50 : decode cX2_start 50 = .ok (.iconst 0, 1) := by decide +kernel
theorem dX2_start_51 : decode cX2_start 51 = .ok (.istore_n 2, 1) := by decide +kernel
theorem dX2_start_52 : decode cX2_start 52 = .ok (.iload_n 2, 1) := by decide +kernel
theorem dX2_start_53 : decode cX2_start 53 = .ok (.iconst 2, 1) := by decide +kernel
theorem dX2_start_54 : decode cX2_start 54 = .ok (.if_icmp .ge 23, 3) := by decide +kernel
theorem dX2_start_57 : decode cX2_start 57 = .ok (.aload_n 0, 1) := by decide +kernel
theorem dX2_start_58 : decode cX2_start 58 = .ok (.getfield 35, 3) := by decide +kernel
theorem dX2_start_61 : decode cX2_start 61 = .ok (.iload_n 2, 1) := by decide +kernel
theorem dX2_start_62 : decode cX2_start 62 = .ok (.iconst 0, 1) := by decide +kernel
theorem dX2_start_63 : decode cX2_start 63 = .ok (.iastore, 1) := by decide +kernel
theorem dX2_start_64 : decode cX2_start 64 = .ok (.aload_n 0, 1) := by decide +kernel
theorem dX2_start_65 : decode cX2_start 65 = .ok (.getfield 38, 3) := by decide +kernel
theorem dX2_start_68 : decode cX2_start 68 = .ok (.iload_n 2, 1) := by decide +kernel
theorem dX2_start_69 : decode cX2_start 69 = .ok (.iconst 0, 1) := by decide +kernel
theorem dX2_start_70 : decode cX2_start 70 = .ok (.iastore, 1) := by decide +kernel
theorem dX2_start_71 : decode cX2_start 71 = .ok (.iinc 2 1, 3) := by decide +kernel
theorem dX2_start_74 : decode cX2_start 74 = .ok (.goto (-22), 3) := by decide +kernel
theorem dX2_start_77 : decode cX2_start 77 = .ok (.aload_n 0, 1) := by decide +kernel
theorem dX2_start_78 : decode cX2_start 78 = .ok (.iconst 0, 1) := by decide +kernel
theorem dX2_start_79 : decode cX2_start 79 = .ok (.putfield 45, 3) := by decide +kernel
theorem dX2_start_82 : decode cX2_start 82 = .ok (.aload_n 0, 1) := by decide +kernel
theorem dX2_start_83 : decode cX2_start 83 = .ok (.iconst (-1), 1) := by decide +kernel
theorem dX2_start_84 : decode cX2_start 84 = .ok (.putfield 48, 3) := by decide +kernel
theorem dX2_start_87 : decode cX2_start 87 = .ok (.aload_n 0, 1) := by decide +kernel
theorem dX2_start_88 : decode cX2_start 88 = .ok (.iconst (-1), 1) := by decide +kernel
theorem dX2_start_89 : decode cX2_start 89 = .ok (.putfield 51, 3) := by decide +kernel
theorem dX2_start_92 : decode cX2_start 92 = .ok (.return_, 1) := by decide +kernel
theorem dX2_goOn_0 : decode cX2_goOn 0 = .ok (.iconst 0, 1) := by decide +kernel
theorem dX2_goOn_1 : decode cX2_goOn 1 = .ok (.istore_n 3, 1) := by decide +kernel
theorem dX2_goOn_2 : decode cX2_goOn 2 = .ok (.iconst 0, 1) := by decide +kernel
theorem dX2_goOn_3 : decode cX2_goOn 3 = .ok (.istore 4, 2) := by decide +kernel
theorem dX2_goOn_5 : decode cX2_goOn 5 = .ok (.iload 4, 2) := by decide +kernel
theorem dX2_goOn_7 : decode cX2_goOn 7 = .ok (.aload_n 0, 1) := by decide +kernel
theorem dX2_goOn_8 : decode cX2_goOn 8 = .ok (.getfield 41, 3) := by decide +kernel
theorem dX2_goOn_11 : decode cX2_goOn 11 = .ok (.if_icmp .ge 112, 3) := by decide +kernel
theorem dX2_goOn_14 : decode cX2_goOn 14 = .ok (.iload_n 3, 1) := by decide +kernel
theorem dX2_goOn_15 : decode cX2_goOn 15 = .ok (.aload_n 0, 1) := by decide +kernel
theorem dX2_goOn_16 : decode cX2_goOn 16 = .ok (.getfield 26, 3) := by decide +kernel
theorem dX2_goOn_19 : decode cX2_goOn 19 = .ok (.iload 4, 2) := by decide +kernel
theorem dX2_goOn_21 : decode cX2_goOn 21 = .ok (.iaload, 1) := by decide +kernel
theorem dX2_goOn_22 : decode cX2_goOn 22 = .ok (.bipush 12, 2) := by decide +kernel
theorem dX2_goOn_24 : decode cX2_goOn 24 = .ok (.if_icmp .ge 13, 3) := by decide +kernel
theorem dX2_goOn_27 : decode cX2_goOn 27 = .ok (.aload_n 0, 1) := by decide +kernel
theorem dX2_goOn_28 : decode cX2_goOn 28 = .ok (.getfield 29, 3) := by decide +kernel
theorem dX2_goOn_31 : decode cX2_goOn 31 = .ok (.iload 4, 2) := by decide +kernel
theorem dX2_goOn_33 : decode cX2_goOn 33 = .ok (.iaload, 1) := by decide +kernel
theorem dX2_goOn_34 : decode cX2_goOn 34 = .ok (.goto 11, 3) := by decide +kernel
theorem dX2_goOn_37 : decode cX2_goOn 37 = .ok (.aload_n 0, 1) := by decide +kernel
theorem dX2_goOn_38 : decode cX2_goOn 38 = .ok (.getfield 29, 3) := by decide +kernel
theorem dX2_goOn_41 : decode cX2_goOn 41 = .ok (.iload 4, 2) := by decide +kernel
theorem dX2_goOn_43 : decode cX2_goOn 43 = .ok (.iaload, 1) := by decide +kernel
theorem dX2_goOn_44 : decode cX2_goOn 44 = .ok (.ineg, 1) := by decide +kernel
theorem dX2_goOn_45 : decode cX2_goOn 45 = .ok (.iadd, 1) := by decide +kernel
theorem dX2_goOn_46 : decode cX2_goOn 46 = .ok (.istore_n 3, 1) := by decide +kernel
theorem dX2_goOn_47 : decode cX2_goOn 47 = .ok (.aload_n 0, 1) := by decide +kernel
theorem dX2_goOn_48 : decode cX2_goOn 48 = .ok (.getfield 26, 3) := by decide +kernel
theorem dX2_goOn_51 : decode cX2_goOn 51 = .ok (.iload 4, 2) := by decide +kernel
theorem dX2_goOn_53 : decode cX2_goOn 53 = .ok (.aload_n 0, 1) := by decide +kernel
theorem dX2_goOn_54 : decode cX2_goOn 54 = .ok (.getfield 26, 3) := by decide +kernel
theorem dX2_goOn_57 : decode cX2_goOn 57 = .ok (.iload 4, 2) := by decide +kernel
theorem dX2_goOn_59 : decode cX2_goOn 59 = .ok (.iaload, 1) := by decide +kernel
theorem dX2_goOn_60 : decode cX2_goOn 60 = .ok (.iconst 1, 1) := by decide +kernel
theorem dX2_goOn_61 : decode cX2_goOn 61 = .ok (.iadd, 1) := by decide +kernel
theorem dX2_goOn_62 : decode cX2_goOn 62 = .ok (.bipush 24, 2) := by decide +kernel
theorem dX2_goOn_64 : decode cX2_goOn 64 = .ok (.irem, 1) := by decide +kernel
theorem dX2_goOn_65 : decode cX2_goOn 65 = .ok (.iastore, 1) := by decide +kernel
theorem dX2_goOn_66 : decode cX2_goOn 66 = .ok (.aload_n 0, 1) := by decide +kernel
theorem dX2_goOn_67 : decode cX2_goOn 67 = .ok (.getfield 26, 3) := by decide +kernel
theorem dX2_goOn_70 : decode cX2_goOn 70 = .ok (.iload 4, 2) := by decide +kernel
theorem dX2_goOn_72 : decode cX2_goOn 72 = .ok (.iaload, 1) := by decide +kernel
theorem dX2_goOn_73 : decode cX2_goOn 73 = .ok (.invokestatic 81, 3) := by decide +kernel
theorem dX2_goOn_76 : decode cX2_goOn 76 = .ok (.istore 5, 2) := by decide +kernel
theorem dX2_goOn_78 : decode cX2_goOn 78 = .ok (.iload 5, 2) := by decide +kernel
theorem dX2_goOn_80 : decode cX2_goOn 80 = .ok (.iconst (-1), 1) := by decide +kernel
theorem dX2_goOn_81 : decode cX2_goOn 81 = .ok (.if_icmp .eq 36, 3) := by decide +kernel
theorem dX2_goOn_84 : decode cX2_goOn 84 = .ok (.aload_n 1, 1) := by decide +kernel
theorem dX2_goOn_85 : decode cX2_goOn 85 = .ok (.iload 4, 2) := by decide +kernel
theorem dX2_goOn_87 : decode cX2_goOn 87 = .ok (.iload_n 2, 1) := by decide +kernel
theorem dX2_goOn_88 : decode cX2_goOn 88 = .ok (.invokevirtual 84, 3) := by decide +kernel
theorem dX2_goOn_91 : decode cX2_goOn 91 = .ok (.ifCond .ne 26, 3) := by decide +kernel
theorem dX2_goOn_94 : decode cX2_goOn 94 = .ok (.aload_n 0, 1) := by decide +kernel
theorem dX2_goOn_95 : decode cX2_goOn 95 = .ok (.iload 4, 2) := by decide +kernel
theorem dX2_goOn_97 : decode cX2_goOn 97 = .ok (.iload 5, 2) := by decide +kernel
theorem dX2_goOn_99 : decode cX2_goOn 99 = .ok (.iload_n 2, 1) := by decide +kernel
theorem dX2_goOn_100 : decode cX2_goOn 100 = .ok (.invokevirtual 88, 3) := by decide +kernel
theorem dX2_goOn_103 : decode cX2_goOn 103 = .ok (.aload_n 0, 1) := by decide +kernel
theorem dX2_goOn_104 : decode cX2_goOn 104 = .ok (.iload 4, 2) := by decide +kernel
theorem dX2_goOn_106 : decode cX2_goOn 106 = .ok (.iload 5, 2) := by decide +kernel
theorem dX2_goOn_108 : decode cX2_goOn 108 = .ok (.aload_n 1, 1) := by decide +kernel
theorem dX2_goOn_109 : decode cX2_goOn 109 = .ok (.iload 4, 2) := by decide +kernel
theorem dX2_goOn_111 : decode cX2_goOn 111 = .ok (.invokevirtual 92, 3) := by decide +kernel
theorem dX2_goOn_114 : decode cX2_goOn 114 = .ok (.invokevirtual 95, 3) := by decide +kernel
theorem dX2_goOn_117 : decode cX2_goOn 117 = .ok (.iinc 4 1, 3) := by decide +kernel
theorem dX2_goOn_120 : decode cX2_goOn 120 = .ok (.goto (-115), 3) := by decide +kernel
theorem dX2_goOn_123 : decode cX2_goOn 123 = .ok (.iconst 0, 1) := by decide +kernel
theorem dX2_goOn_124 : decode cX2_goOn 124 = .ok (.iload_n 3, 1) := by decide +kernel
theorem dX2_goOn_125 : decode cX2_goOn 125 = .ok (.invokestatic 98, 3) := by decide +kernel
theorem dX2_goOn_128 : decode cX2_goOn 128 = .ok (.ireturn, 1) := by decide +kernel
theorem dX2_stand_0 : decode cX2_stand 0 = .ok (.iconst 0, 1) := by decide +kernel
theorem dX2_stand_1 : decode cX2_stand 1 = .ok (.istore_n 3, 1) := by decide +kernel
theorem dX2_stand_2 : decode cX2_stand 2 = .ok (.iload_n 3, 1) := by decide +kernel
theorem dX2_stand_3 : decode cX2_stand 3 = .ok (.aload_n 0, 1) := by decide +kernel
theorem dX2_stand_4 : decode cX2_stand 4 = .ok (.getfield 41, 3) := by decide +kernel
theorem dX2_stand_7 : decode cX2_stand 7 = .ok (.if_icmp .ge 54, 3) := by decide +kernel
theorem dX2_stand_10 : decode cX2_stand 10 = .ok (.aload_n 0, 1) := by decide +kernel
theorem dX2_stand_11 : decode cX2_stand 11 = .ok (.getfield 26, 3) := by decide +kernel
theorem dX2_stand_14 : decode cX2_stand 14 = .ok (.iload_n 3, 1) := by decide +kernel
theorem dX2_stand_15 : decode cX2_stand 15 = .ok (.iaload, 1) := by decide +kernel
theorem dX2_stand_16 : decode cX2_stand 16 = .ok (.invokestatic 81, 3) := by decide +kernel
theorem dX2_stand_19 : decode cX2_stand 19 = .ok (.istore 4, 2) := by decide +kernel
theorem dX2_stand_21 : decode cX2_stand 21 = .ok (.iload 4, 2) := by decide +kernel
theorem dX2_stand_23 : decode cX2_stand 23 = .ok (.iconst (-1), 1) := by decide +kernel
theorem dX2_stand_24 : decode cX2_stand 24 = .ok (.if_icmp .eq 31, 3) := by decide +kernel
theorem dX2_stand_27 : decode cX2_stand 27 = .ok (.aload_n 1, 1) := by decide +kernel
theorem dX2_stand_28 : decode cX2_stand 28 = .ok (.iload_n 3, 1) := by decide +kernel
theorem dX2_stand_29 : decode cX2_stand 29 = .ok (.iload_n 2, 1) := by decide +kernel
theorem dX2_stand_30 : decode cX2_stand 30 = .ok (.invokevirtual 84, 3) := by decide +kernel
theorem dX2_stand_33 : decode cX2_stand 33 = .ok (.ifCond .ne 22, 3) := by decide +kernel
theorem dX2_stand_36 : decode cX2_stand 36 = .ok (.aload_n 0, 1) := by decide +kernel
theorem dX2_stand_37 : decode cX2_stand 37 = .ok (.iload_n 3, 1) := by decide +kernel
theorem dX2_stand_38 : decode cX2_stand 38 = .ok (.iload 4, 2) := by decide +kernel
theorem dX2_stand_40 : decode cX2_stand 40 = .ok (.aload_n 1, 1) := by decide +kernel
theorem dX2_stand_41 : decode cX2_stand 41 = .ok (.iload_n 3, 1) := by decide +kernel
theorem dX2_stand_42 : decode cX2_stand 42 = .ok (.invokevirtual 92, 3) := by decide +kernel
theorem dX2_stand_45 : decode cX2_stand 45 = .ok (.aload_n 0, 1) := by decide +kernel
theorem dX2_stand_46 : decode cX2_stand 46 = .ok (.getfield 29, 3) := by decide +kernel
theorem dX2_stand_49 : decode cX2_stand 49 = .ok (.iload_n 3, 1) := by decide +kernel
theorem dX2_stand_50 : decode cX2_stand 50 = .ok (.iaload, 1) := by decide +kernel
theorem dX2_stand_51 : decode cX2_stand 51 = .ok (.isub, 1) := by decide +kernel
theorem dX2_stand_52 : decode cX2_stand 52 = .ok (.invokevirtual 95, 3) := by decide +kernel
theorem dX2_stand_55 : decode cX2_stand 55 = .ok (.iinc 3 1, 3) := by decide +kernel
theorem dX2_stand_58 : decode cX2_stand 58 = .ok (.goto (-56), 3) := by decide +kernel
theorem dX2_stand_61 : decode cX2_stand 61 = .ok (.return_, 1) := by decide +kernel
theorem dX2_letOut_0 : decode cX2_letOut 0 = .ok (.aload_n 0, 1) := by decide +kernel
theorem dX2_letOut_1 : decode cX2_letOut 1 = .ok (.getfield 29, 3) := by decide +kernel
theorem dX2_letOut_4 : decode cX2_letOut 4 = .ok (.iload_n 1, 1) := by decide +kernel
theorem dX2_letOut_5 : decode cX2_letOut 5 = .ok (.iaload, 1) := by decide +kernel
theorem dX2_letOut_6 : decode cX2_letOut 6 = .ok (.ifCond .le 21, 3) := by decide +kernel
theorem dX2_letOut_9 : decode cX2_letOut 9 = .ok (.aload_n 0, 1) := by decide +kernel
theorem dX2_letOut_10 : decode cX2_letOut 10 = .ok (.getfield 48, 3) := by decide +kernel
theorem dX2_letOut_13 : decode cX2_letOut 13 = .ok (.iconst (-1), 1) := by decide +kernel
theorem dX2_letOut_14 : decode cX2_letOut 14 = .ok (.if_icmp .ne 13, 3) := by decide +kernel
theorem dX2_letOut_17 : decode cX2_letOut 17 = .ok (.aload_n 0, 1) := by decide +kernel
theorem dX2_letOut_18 : decode cX2_letOut 18 = .ok (.iload_n 3, 1) := by decide +kernel
theorem dX2_letOut_19 : decode cX2_letOut 19 = .ok (.putfield 48, 3) := by decide +kernel
theorem dX2_letOut_22 : decode cX2_letOut 22 = .ok (.aload_n 0, 1) := by decide +kernel
theorem dX2_letOut_23 : decode cX2_letOut 23 = .ok (.iload_n 1, 1) := by decide +kernel
theorem dX2_letOut_24 : decode cX2_letOut 24 = .ok (.putfield 51, 3) := by decide +kernel
theorem dX2_letOut_27 : decode cX2_letOut 27 = .ok (.aload_n 0, 1) := by decide +kernel
theorem dX2_letOut_28 : decode cX2_letOut 28 = .ok (.getfield 38, 3) := by decide +kernel
theorem dX2_letOut_31 : decode cX2_letOut 31 = .ok (.iload_n 2, 1) := by decide +kernel
theorem dX2_letOut_32 : decode cX2_letOut 32 = .ok (.dup2, 1) := by decide +kernel
theorem dX2_letOut_33 : decode cX2_letOut 33 = .ok (.iaload, 1) := by decide +kernel
theorem dX2_letOut_34 : decode cX2_letOut 34 = .ok (.aload_n 0, 1) := by decide +kernel
theorem dX2_letOut_35 : decode cX2_letOut 35 = .ok (.getfield 29, 3) := by decide +kernel
theorem dX2_letOut_38 : decode cX2_letOut 38 = .ok (.iload_n 1, 1) := by decide +kernel
theorem dX2_letOut_39 : decode cX2_letOut 39 = .ok (.iaload, 1) := by decide +kernel
theorem dX2_letOut_40 : decode cX2_letOut 40 = .ok (.iadd, 1) := by decide +kernel
theorem dX2_letOut_41 : decode cX2_letOut 41 = .ok (.iastore, 1) := by decide +kernel
theorem dX2_letOut_42 : decode cX2_letOut 42 = .ok (.aload_n 0, 1) := by decide +kernel
theorem dX2_letOut_43 : decode cX2_letOut 43 = .ok (.getfield 32, 3) := by decide +kernel
theorem dX2_letOut_46 : decode cX2_letOut 46 = .ok (.iload_n 1, 1) := by decide +kernel
theorem dX2_letOut_47 : decode cX2_letOut 47 = .ok (.dup2, 1) := by decide +kernel
theorem dX2_letOut_48 : decode cX2_letOut 48 = .ok (.iaload, 1) := by decide +kernel
theorem dX2_letOut_49 : decode cX2_letOut 49 = .ok (.aload_n 0, 1) := by decide +kernel
theorem dX2_letOut_50 : decode cX2_letOut 50 = .ok (.getfield 29, 3) := by decide +kernel
theorem dX2_letOut_53 : decode cX2_letOut 53 = .ok (.iload_n 1, 1) := by decide +kernel
theorem dX2_letOut_54 : decode cX2_letOut 54 = .ok (.iaload, 1) := by decide +kernel
theorem dX2_letOut_55 : decode cX2_letOut 55 = .ok (.iadd, 1) := by decide +kernel
theorem dX2_letOut_56 : decode cX2_letOut 56 = .ok (.iastore, 1) := by decide +kernel
theorem dX2_letOut_57 : decode cX2_letOut 57 = .ok (.aload_n 0, 1) := by decide +kernel
theorem dX2_letOut_58 : decode cX2_letOut 58 = .ok (.getfield 29, 3) := by decide +kernel
theorem dX2_letOut_61 : decode cX2_letOut 61 = .ok (.iload_n 1, 1) := by decide +kernel
theorem dX2_letOut_62 : decode cX2_letOut 62 = .ok (.iconst 0, 1) := by decide +kernel
theorem dX2_letOut_63 : decode cX2_letOut 63 = .ok (.iastore, 1) := by decide +kernel
theorem dX2_letOut_64 : decode cX2_letOut 64 = .ok (.return_, 1) := by decide +kernel
theorem dX2_letIn_0 : decode cX2_letIn 0 = .ok (.aload_n 0, 1) := by decide +kernel
theorem dX2_letIn_1 : decode cX2_letIn 1 = .ok (.getfield 35, 3) := by decide +kernel
theorem dX2_letIn_4 : decode cX2_letIn 4 = .ok (.iload_n 2, 1) := by decide +kernel
theorem dX2_letIn_5 : decode cX2_letIn 5 = .ok (.iaload, 1) := by decide +kernel
theorem dX2_letIn_6 : decode cX2_letIn 6 = .ok (.iload_n 3, 1) := by decide +kernel
theorem dX2_letIn_7 : decode cX2_letIn 7 = .ok (.invokestatic 104, 3) := by decide +kernel
theorem dX2_letIn_10 : decode cX2_letIn 10 = .ok (.istore 4, 2) := by decide +kernel
theorem dX2_letIn_12 : decode cX2_letIn 12 = .ok (.iload 4, 2) := by decide +kernel
theorem dX2_letIn_14 : decode cX2_letIn 14 = .ok (.ifCond .le 37, 3) := by decide +kernel
theorem dX2_letIn_17 : decode cX2_letIn 17 = .ok (.aload_n 0, 1) := by decide +kernel
theorem dX2_letIn_18 : decode cX2_letIn 18 = .ok (.getfield 35, 3) := by decide +kernel
theorem dX2_letIn_21 : decode cX2_letIn 21 = .ok (.iload_n 2, 1) := by decide +kernel
theorem dX2_letIn_22 : decode cX2_letIn 22 = .ok (.dup2, 1) := by decide +kernel
theorem dX2_letIn_23 : decode cX2_letIn 23 = .ok (.iaload, 1) := by decide +kernel
theorem dX2_letIn_24 : decode cX2_letIn 24 = .ok (.iload 4, 2) := by decide +kernel
theorem dX2_letIn_26 : decode cX2_letIn 26 = .ok (.isub, 1) := by decide +kernel
theorem dX2_letIn_27 : decode cX2_letIn 27 = .ok (.iastore, 1) := by decide +kernel
theorem dX2_letIn_28 : decode cX2_letIn 28 = .ok (.aload_n 0, 1) := by decide +kernel
theorem dX2_letIn_29 : decode cX2_letIn 29 = .ok (.getfield 29, 3) := by decide +kernel
theorem dX2_letIn_32 : decode cX2_letIn 32 = .ok (.iload_n 1, 1) := by decide +kernel
theorem dX2_letIn_33 : decode cX2_letIn 33 = .ok (.dup2, 1) := by decide +kernel
theorem dX2_letIn_34 : decode cX2_letIn 34 = .ok (.iaload, 1) := by decide +kernel
theorem dX2_letIn_35 : decode cX2_letIn 35 = .ok (.iload 4, 2) := by decide +kernel
theorem dX2_letIn_37 : decode cX2_letIn 37 = .ok (.iadd, 1) := by decide +kernel
theorem dX2_letIn_38 : decode cX2_letIn 38 = .ok (.iastore, 1) := by decide +kernel
theorem dX2_letIn_39 : decode cX2_letIn 39 = .ok (.aload_n 0, 1) := by decide +kernel
theorem dX2_letIn_40 : decode cX2_letIn 40 = .ok (.dup, 1) := by decide +kernel
theorem dX2_letIn_41 : decode cX2_letIn 41 = .ok (.getfield 45, 3) := by decide +kernel
theorem dX2_letIn_44 : decode cX2_letIn 44 = .ok (.iconst 1, 1) := by decide +kernel
theorem dX2_letIn_45 : decode cX2_letIn 45 = .ok (.iload_n 1, 1) := by decide +kernel
theorem dX2_letIn_46 : decode cX2_letIn 46 = .ok (.ishl, 1) := by decide +kernel
theorem dX2_letIn_47 : decode cX2_letIn 47 = .ok (.ior, 1) := by decide +kernel
theorem dX2_letIn_48 : decode cX2_letIn 48 = .ok (.putfield 45, 3) := by decide +kernel
theorem dX2_letIn_51 : decode cX2_letIn 51 = .ok (.return_, 1) := by decide +kernel
theorem dX2_note_0 : decode cX2_note 0 = .ok (.iconst 0, 1) := by decide +kernel
theorem dX2_note_1 : decode cX2_note 1 = .ok (.istore_n 2, 1) := by decide +kernel
theorem dX2_note_2 : decode cX2_note 2 = .ok (.iload_n 2, 1) := by decide +kernel
theorem dX2_note_3 : decode cX2_note 3 = .ok (.aload_n 0, 1) := by decide +kernel
theorem dX2_note_4 : decode cX2_note 4 = .ok (.getfield 41, 3) := by decide +kernel
theorem dX2_note_7 : decode cX2_note 7 = .ok (.if_icmp .ge 37, 3) := by decide +kernel
theorem dX2_note_10 : decode cX2_note 10 = .ok (.aload_n 0, 1) := by decide +kernel
theorem dX2_note_11 : decode cX2_note 11 = .ok (.getfield 11, 3) := by decide +kernel
theorem dX2_note_14 : decode cX2_note 14 = .ok (.iload_n 2, 1) := by decide +kernel
theorem dX2_note_15 : decode cX2_note 15 = .ok (.aaload, 1) := by decide +kernel
theorem dX2_note_16 : decode cX2_note 16 = .ok (.iload_n 1, 1) := by decide +kernel
theorem dX2_note_17 : decode cX2_note 17 = .ok (.aload_n 0, 1) := by decide +kernel
theorem dX2_note_18 : decode cX2_note 18 = .ok (.getfield 26, 3) := by decide +kernel
theorem dX2_note_21 : decode cX2_note 21 = .ok (.iload_n 2, 1) := by decide +kernel
theorem dX2_note_22 : decode cX2_note 22 = .ok (.iaload, 1) := by decide +kernel
theorem dX2_note_23 : decode cX2_note 23 = .ok (.iastore, 1) := by decide +kernel
theorem dX2_note_24 : decode cX2_note 24 = .ok (.aload_n 0, 1) := by decide +kernel
theorem dX2_note_25 : decode cX2_note 25 = .ok (.getfield 16, 3) := by decide +kernel
theorem dX2_note_28 : decode cX2_note 28 = .ok (.iload_n 2, 1) := by decide +kernel
theorem dX2_note_29 : decode cX2_note 29 = .ok (.aaload, 1) := by decide +kernel
theorem dX2_note_30 : decode cX2_note 30 = .ok (.iload_n 1, 1) := by decide +kernel
theorem dX2_note_31 : decode cX2_note 31 = .ok (.aload_n 0, 1) := by decide +kernel
theorem dX2_note_32 : decode cX2_note 32 = .ok (.getfield 29, 3) := by decide +kernel
theorem dX2_note_35 : decode cX2_note 35 = .ok (.iload_n 2, 1) := by decide +kernel
theorem dX2_note_36 : decode cX2_note 36 = .ok (.iaload, 1) := by decide +kernel
theorem dX2_note_37 : decode cX2_note 37 = .ok (.iastore, 1) := by decide +kernel
theorem dX2_note_38 : decode cX2_note 38 = .ok (.iinc 2 1, 3) := by decide +kernel
theorem dX2_note_41 : decode cX2_note 41 = .ok (.goto (-39), 3) := by decide +kernel
theorem dX2_note_44 : decode cX2_note 44 = .ok (.aload_n 0, 1) := by decide +kernel
theorem dX2_note_45 : decode cX2_note 45 = .ok (.getfield 19, 3) := by decide +kernel
theorem dX2_note_48 : decode cX2_note 48 = .ok (.iconst 0, 1) := by decide +kernel
theorem dX2_note_49 : decode cX2_note 49 = .ok (.aaload, 1) := by decide +kernel
theorem dX2_note_50 : decode cX2_note 50 = .ok (.iload_n 1, 1) := by decide +kernel
theorem dX2_note_51 : decode cX2_note 51 = .ok (.aload_n 0, 1) := by decide +kernel
theorem dX2_note_52 : decode cX2_note 52 = .ok (.getfield 35, 3) := by decide +kernel
theorem dX2_note_55 : decode cX2_note 55 = .ok (.iconst 0, 1) := by decide +kernel
theorem dX2_note_56 : decode cX2_note 56 = .ok (.iaload, 1) := by decide +kernel
theorem dX2_note_57 : decode cX2_note 57 = .ok (.iastore, 1) := by decide +kernel
theorem dX2_note_58 : decode cX2_note 58 = .ok (.aload_n 0, 1) := by decide +kernel
theorem dX2_note_59 : decode cX2_note 59 = .ok (.getfield 19, 3) := by decide +kernel
theorem dX2_note_62 : decode cX2_note 62 = .ok (.iconst 1, 1) := by decide +kernel
theorem dX2_note_63 : decode cX2_note 63 = .ok (.aaload, 1) := by decide +kernel
theorem dX2_note_64 : decode cX2_note 64 = .ok (.iload_n 1, 1) := by decide +kernel
theorem dX2_note_65 : decode cX2_note 65 = .ok (.aload_n 0, 1) := by decide +kernel
theorem dX2_note_66 : decode cX2_note 66 = .ok (.getfield 35, 3) := by decide +kernel
theorem dX2_note_69 : decode cX2_note 69 = .ok (.iconst 1, 1) := by decide +kernel
theorem dX2_note_70 : decode cX2_note 70 = .ok (.iaload, 1) := by decide +kernel
theorem dX2_note_71 : decode cX2_note 71 = .ok (.iastore, 1) := by decide +kernel
theorem dX2_note_72 : decode cX2_note 72 = .ok (.return_, 1) := by decide +kernel
theorem dX2_stationAt_0 : decode cX2_stationAt 0 = .ok (.iload_n 0, 1) := by decide +kernel
theorem dX2_stationAt_1 : decode cX2_stationAt 1 = .ok (.ifCond .ne 5, 3) := by decide +kernel
theorem dX2_stationAt_4 : decode cX2_stationAt 4 = .ok (.iconst 0, 1) := by decide +kernel
theorem dX2_stationAt_5 : decode cX2_stationAt 5 = .ok (.ireturn, 1) := by decide +kernel
theorem dX2_stationAt_6 : decode cX2_stationAt 6 = .ok (.iload_n 0, 1) := by decide +kernel
theorem dX2_stationAt_7 : decode cX2_stationAt 7 = .ok (.bipush 12, 2) := by decide +kernel
theorem dX2_stationAt_9 : decode cX2_stationAt 9 = .ok (.if_icmp .ne 7, 3) := by decide +kernel
theorem dX2_stationAt_12 : decode cX2_stationAt 12 = .ok (.iconst 1, 1) := by decide +kernel
theorem dX2_stationAt_13 : decode cX2_stationAt 13 = .ok (.goto 4, 3) := by decide +kernel
theorem dX2_stationAt_16 : decode cX2_stationAt 16 = .ok (.iconst (-1), 1) := by decide +kernel
theorem dX2_stationAt_17 : decode cX2_stationAt 17 = .ok (.ireturn, 1) := by decide +kernel
theorem dX3_init_0 : decode cX3_init 0 = .ok (.aload_n 0, 1) := by decide +kernel
theorem dX3_init_1 : decode cX3_init 1 = .ok (.invokespecial 3, 3) := by decide +kernel
theorem dX3_init_4 : decode cX3_init 4 = .ok (.aload_n 0, 1) := by decide +kernel
theorem dX3_init_5 : decode cX3_init 5 = .ok (.bipush 60, 2) := by decide +kernel
theorem dX3_init_7 : decode cX3_init 7 = .ok (.newarray .int, 2) := by decide +kernel
theorem dX3_init_9 : decode cX3_init 9 = .ok (.putfield 9, 3) := by decide +kernel
theorem dX3_init_12 : decode cX3_init 12 = .ok (.aload_n 0, 1) := by decide +kernel
theorem dX3_init_13 : decode cX3_init 13 = .ok (.iconst 1, 1) := by decide +kernel
theorem dX3_init_14 : decode cX3_init 14 = .ok (.putfield 15, 3) := by decide +kernel
theorem dX3_init_17 : decode cX3_init 17 = .ok (.aload_n 0, 1) := by decide +kernel
theorem dX3_init_18 : decode cX3_init 18 = .ok (.iconst 0, 1) := by decide +kernel
theorem dX3_init_19 : decode cX3_init 19 = .ok (.putfield 19, 3) := by decide +kernel
theorem dX3_init_22 : decode cX3_init 22 = .ok (.aload_n 0, 1) := by decide +kernel
theorem dX3_init_23 : decode cX3_init 23 = .ok (.iconst 0, 1) := by decide +kernel
theorem dX3_init_24 : decode cX3_init 24 = .ok (.putfield 23, 3) := by decide +kernel
theorem dX3_init_27 : decode cX3_init 27 = .ok (.return_, 1) := by decide +kernel
theorem dX3_renew_0 : decode cX3_renew 0 = .ok (.aload_n 0, 1) := by decide +kernel
theorem dX3_renew_1 : decode cX3_renew 1 = .ok (.getfield 9, 3) := by decide +kernel
theorem dX3_renew_4 : decode cX3_renew 4 = .ok (.iconst 0, 1) := by decide +kernel
theorem dX3_renew_5 : decode cX3_renew 5 = .ok (.invokestatic 26, 3) := by decide +kernel
theorem dX3_renew_8 : decode cX3_renew 8 = .ok (.aload_n 0, 1) := by decide +kernel
theorem dX3_renew_9 : decode cX3_renew 9 = .ok (.iload_n 1, 1) := by decide +kernel
theorem dX3_renew_10 : decode cX3_renew 10 = .ok (.putfield 19, 3) := by decide +kernel
theorem dX3_renew_13 : decode cX3_renew 13 = .ok (.aload_n 0, 1) := by decide +kernel
theorem dX3_renew_14 : decode cX3_renew 14 = .ok (.iconst 0, 1) := by decide +kernel
theorem dX3_renew_15 : decode cX3_renew 15 = .ok (.iload_n 2, 1) := by decide +kernel
theorem dX3_renew_16 : decode cX3_renew 16 = .ok (.bipush 60, 2) := by decide +kernel
theorem dX3_renew_18 : decode cX3_renew 18 = .ok (.invokestatic 32, 3) := by decide +kernel
theorem dX3_renew_21 : decode cX3_renew 21 = .ok (.invokestatic 38, 3) := by decide +kernel
theorem dX3_renew_24 : decode cX3_renew 24 = .ok (.putfield 23, 3) := by decide +kernel
theorem dX3_renew_27 : decode cX3_renew 27 = .ok (.aload_n 0, 1) := by decide +kernel
theorem dX3_renew_28 : decode cX3_renew 28 = .ok (.iconst 0, 1) := by decide +kernel
theorem dX3_renew_29 : decode cX3_renew 29 = .ok (.putfield 15, 3) := by decide +kernel
theorem dX3_renew_32 : decode cX3_renew 32 = .ok (.return_, 1) := by decide +kernel
theorem dX3_wrongWith_0 : decode cX3_wrongWith 0 = .ok (.aload_n 0, 1) := by decide +kernel
theorem dX3_wrongWith_1 : decode cX3_wrongWith 1 = .ok (.getfield 15, 3) := by decide +kernel
theorem dX3_wrongWith_4 : decode cX3_wrongWith 4 = .ok (.ifCond .eq 5, 3) := by decide +kernel
theorem dX3_wrongWith_7 : decode cX3_wrongWith 7 = .ok (.iconst 1, 1) := by decide +kernel
theorem dX3_wrongWith_8 : decode cX3_wrongWith 8 = .ok (.ireturn, 1) := by decide +kernel
theorem dX3_wrongWith_9 : decode cX3_wrongWith 9 = .ok (.iload_n 1, 1) := by decide +kernel
theorem dX3_wrongWith_10 : decode cX3_wrongWith 10 = .ok (.aload_n 0, 1) := by decide +kernel
theorem dX3_wrongWith_11 : decode cX3_wrongWith 11 = .ok (.getfield 19, 3) := by decide +kernel
theorem dX3_wrongWith_14 : decode cX3_wrongWith 14 = .ok (.if_icmp .eq 5, 3) := by decide +kernel
theorem dX3_wrongWith_17 : decode cX3_wrongWith 17 = .ok (.iconst 3, 1) := by decide +kernel
theorem dX3_wrongWith_18 : decode cX3_wrongWith 18 = .ok (.ireturn, 1) := by decide +kernel
theorem dX3_wrongWith_19 : decode cX3_wrongWith 19 = .ok (.aload_n 0, 1) := by decide +kernel
theorem dX3_wrongWith_20 : decode cX3_wrongWith 20 = .ok (.iload_n 2, 1) := by decide +kernel
theorem dX3_wrongWith_21 : decode cX3_wrongWith 21 = .ok (.iconst 1, 1) := by decide +kernel
theorem dX3_wrongWith_22 : decode cX3_wrongWith 22 = .ok (.invokevirtual 41, 3) := by decide +kernel
theorem dX3_wrongWith_25 : decode cX3_wrongWith 25 = .ok (.ifCond .eq 7, 3) := by decide +kernel
theorem dX3_wrongWith_28 : decode cX3_wrongWith 28 = .ok (.iconst 0, 1) := by decide +kernel
theorem dX3_wrongWith_29 : decode cX3_wrongWith 29 = .ok (.goto 4, 3) := by decide +kernel
theorem dX3_wrongWith_32 : decode cX3_wrongWith 32 = .ok (.iconst 2, 1) := by decide +kernel
theorem dX3_wrongWith_33 : decode cX3_wrongWith 33 = .ok (.ireturn, 1) := by decide +kernel
theorem dX3_hasRun_0 : decode cX3_hasRun 0 = .ok (.iload_n 1, 1) := by decide +kernel
theorem dX3_hasRun_1 : decode cX3_hasRun 1 = .ok (.ifCond .lt 29, 3) := by decide +kernel
theorem dX3_hasRun_4 : decode cX3_hasRun 4 = .ok (.iload_n 2, 1) := by decide +kernel
theorem dX3_hasRun_5 : decode cX3_hasRun 5 = .ok (.ifCond .lt 25, 3) := by decide +kernel
theorem dX3_hasRun_8 : decode cX3_hasRun 8 = .ok (.iload_n 1, 1) := by decide +kernel
theorem dX3_hasRun_9 : decode cX3_hasRun 9 = .ok (.aload_n 0, 1) := by decide +kernel
theorem dX3_hasRun_10 : decode cX3_hasRun 10 = .ok (.getfield 23, 3) := by decide +kernel
theorem dX3_hasRun_13 : decode cX3_hasRun 13 = .ok (.if_icmp .gt 17, 3) := by decide +kernel
theorem dX3_hasRun_16 : decode cX3_hasRun 16 = .ok (.iload_n 2, 1) := by decide +kernel
theorem dX3_hasRun_17 : decode cX3_hasRun 17 = .ok (.aload_n 0, 1) := by decide +kernel
theorem dX3_hasRun_18 : decode cX3_hasRun 18 = .ok (.getfield 23, 3) := by decide +kernel
theorem dX3_hasRun_21 : decode cX3_hasRun 21 = .ok (.iload_n 1, 1) := by decide +kernel
theorem dX3_hasRun_22 : decode cX3_hasRun 22 = .ok (.isub, 1) := by decide +kernel
theorem dX3_hasRun_23 : decode cX3_hasRun 23 = .ok (.if_icmp .gt 7, 3) := by decide +kernel
theorem dX3_hasRun_26 : decode cX3_hasRun 26 = .ok (.iconst 1, 1) := by decide +kernel
theorem dX3_hasRun_27 : decode cX3_hasRun 27 = .ok (.goto 4, 3) := by decide +kernel
theorem dX3_hasRun_30 : decode cX3_hasRun 30 = .ok (.iconst 0, 1) := by decide +kernel
theorem dX3_hasRun_31 : decode cX3_hasRun 31 = .ok (.ireturn, 1) := by decide +kernel
theorem dX3_store_0 : decode cX3_store 0 = .ok (.aload_n 0, 1) := by decide +kernel
theorem dX3_store_1 : decode cX3_store 1 = .ok (.iload_n 1, 1) := by decide +kernel
theorem dX3_store_2 : decode cX3_store 2 = .ok (.iconst 1, 1) := by decide +kernel
theorem dX3_store_3 : decode cX3_store 3 = .ok (.invokevirtual 41, 3) := by decide +kernel
theorem dX3_store_6 : decode cX3_store 6 = .ok (.ifCond .ne 4, 3) := by decide +kernel
theorem dX3_store_9 : decode cX3_store 9 = .ok (.return_, 1) := by decide +kernel
theorem dX3_store_10 : decode cX3_store 10 = .ok (.aload_n 0, 1) := by decide +kernel
theorem dX3_store_11 : decode cX3_store 11 = .ok (.getfield 19, 3) := by decide +kernel
theorem dX3_store_14 : decode cX3_store 14 = .ok (.lookupswitch 48 #[(0, 26), (1, 37)], 26) := by decide +kernel
theorem dX3_store_40 : decode cX3_store 40 = .ok (.aload_n 0, 1) := by decide +kernel
theorem dX3_store_41 : decode cX3_store 41 = .ok (.getfield 9, 3) := by decide +kernel
theorem dX3_store_44 : decode cX3_store 44 = .ok (.iload_n 1, 1) := by decide +kernel
theorem dX3_store_45 : decode cX3_store 45 = .ok (.iload_n 2, 1) := by decide +kernel
theorem dX3_store_46 : decode cX3_store 46 = .ok (.i2b, 1) := by decide +kernel
theorem dX3_store_47 : decode cX3_store 47 = .ok (.iastore, 1) := by decide +kernel
theorem dX3_store_48 : decode cX3_store 48 = .ok (.goto 21, 3) := by decide +kernel
theorem dX3_store_51 : decode cX3_store 51 = .ok (.aload_n 0, 1) := by decide +kernel
theorem dX3_store_52 : decode cX3_store 52 = .ok (.getfield 9, 3) := by decide +kernel
theorem dX3_store_55 : decode cX3_store 55 = .ok (.iload_n 1, 1) := by decide +kernel
theorem dX3_store_56 : decode cX3_store 56 = .ok (.iload_n 2, 1) := by decide +kernel
theorem dX3_store_57 : decode cX3_store 57 = .ok (.i2s, 1) := by decide +kernel
theorem dX3_store_58 : decode cX3_store 58 = .ok (.iastore, 1) := by decide +kernel
theorem dX3_store_59 : decode cX3_store 59 = .ok (.goto 10, 3) := by decide +kernel
theorem dX3_store_62 : decode cX3_store 62 = .ok (.aload_n 0, 1) := by decide +kernel
theorem dX3_store_63 : decode cX3_store 63 = .ok (.getfield 9, 3) := by decide +kernel
theorem dX3_store_66 : decode cX3_store 66 = .ok (.iload_n 1, 1) := by decide +kernel
theorem dX3_store_67 : decode cX3_store 67 = .ok (.iload_n 2, 1) := by decide +kernel
theorem dX3_store_68 : decode cX3_store 68 = .ok (.iastore, 1) := by decide +kernel
theorem dX3_store_69 : decode cX3_store 69 = .ok (.return_, 1) := by decide +kernel
theorem dX4_init_0 : decode cX4_init 0 = .ok (.aload_n 0, 1) := by decide +kernel
theorem dX4_init_1 : decode cX4_init 1 = .ok (.invokespecial 3, 3) := by decide +kernel
theorem dX4_init_4 : decode cX4_init 4 = .ok (.aload_n 0, 1) := by decide +kernel
theorem dX4_init_5 : decode cX4_init 5 = .ok (.bipush 8, 2) := by decide +kernel
theorem dX4_init_7 : decode cX4_init 7 = .ok (.newarray .int, 2) := by decide +kernel
theorem dX4_init_9 : decode cX4_init 9 = .ok (.putfield 9, 3) := by decide +kernel
theorem dX4_init_12 : decode cX4_init 12 = .ok (.aload_n 0, 1) := by decide +kernel
theorem dX4_init_13 : decode cX4_init 13 = .ok (.bipush 8, 2) := by decide +kernel
theorem dX4_init_15 : decode cX4_init 15 = .ok (.newarray .int, 2) := by decide +kernel
theorem dX4_init_17 : decode cX4_init 17 = .ok (.putfield 15, 3) := by decide +kernel
theorem dX4_init_20 : decode cX4_init 20 = .ok (.aload_n 0, 1) := by decide +kernel
theorem dX4_init_21 : decode cX4_init 21 = .ok (.bipush 8, 2) := by decide +kernel
theorem dX4_init_23 : decode cX4_init 23 = .ok (.newarray .int, 2) := by decide +kernel
theorem dX4_init_25 : decode cX4_init 25 = .ok (.putfield 18, 3) := by decide +kernel
theorem dX4_init_28 : decode cX4_init 28 = .ok (.aload_n 0, 1) := by decide +kernel
theorem dX4_init_29 : decode cX4_init 29 = .ok (.iconst 0, 1) := by decide +kernel
theorem dX4_init_30 : decode cX4_init 30 = .ok (.putfield 21, 3) := by decide +kernel
theorem dX4_init_33 : decode cX4_init 33 = .ok (.return_, 1) := by decide +kernel
theorem dX4_hasSpace_0 : decode cX4_hasSpace 0 = .ok (.aload_n 0, 1) := by decide +kernel
theorem dX4_hasSpace_1 : decode cX4_hasSpace 1 = .ok (.getfield 21, 3) := by decide +kernel
theorem dX4_hasSpace_4 : decode cX4_hasSpace 4 = .ok (.bipush 8, 2) := by decide +kernel
theorem dX4_hasSpace_6 : decode cX4_hasSpace 6 = .ok (.if_icmp .ge 7, 3) := by decide +kernel
theorem dX4_hasSpace_9 : decode cX4_hasSpace 9 = .ok (.iconst 1, 1) := by decide +kernel
theorem dX4_hasSpace_10 : decode cX4_hasSpace 10 = .ok (.goto 4, 3) := by decide +kernel
theorem dX4_hasSpace_13 : decode cX4_hasSpace 13 = .ok (.iconst 0, 1) := by decide +kernel
theorem dX4_hasSpace_14 : decode cX4_hasSpace 14 = .ok (.ireturn, 1) := by decide +kernel
theorem dX4_append_0 : decode cX4_append 0 = .ok (.aload_n 0, 1) := by decide +kernel
theorem dX4_append_1 : decode cX4_append 1 = .ok (.invokevirtual 25, 3) := by decide +kernel
theorem dX4_append_4 : decode cX4_append 4 = .ok (.ifCond .eq 43, 3) := by decide +kernel
theorem dX4_append_7 : decode cX4_append 7 = .ok (.aload_n 0, 1) := by decide +kernel
theorem dX4_append_8 : decode cX4_append 8 = .ok (.getfield 9, 3) := by decide +kernel
theorem dX4_append_11 : decode cX4_append 11 = .ok (.aload_n 0, 1) := by decide +kernel
theorem dX4_append_12 : decode cX4_append 12 = .ok (.getfield 21, 3) := by decide +kernel
theorem dX4_append_15 : decode cX4_append 15 = .ok (.iload_n 1, 1) := by decide +kernel
theorem dX4_append_16 : decode cX4_append 16 = .ok (.iastore, 1) := by decide +kernel
theorem dX4_append_17 : decode cX4_append 17 = .ok (.aload_n 0, 1) := by decide +kernel
theorem dX4_append_18 : decode cX4_append 18 = .ok (.getfield 15, 3) := by decide +kernel
theorem dX4_append_21 : decode cX4_append 21 = .ok (.aload_n 0, 1) := by decide +kernel
theorem dX4_append_22 : decode cX4_append 22 = .ok (.getfield 21, 3) := by decide +kernel
theorem dX4_append_25 : decode cX4_append 25 = .ok (.iload_n 2, 1) := by decide +kernel
theorem dX4_append_26 : decode cX4_append 26 = .ok (.iastore, 1) := by decide +kernel
theorem dX4_append_27 : decode cX4_append 27 = .ok (.aload_n 0, 1) := by decide +kernel
theorem dX4_append_28 : decode cX4_append 28 = .ok (.getfield 18, 3) := by decide +kernel
theorem dX4_append_31 : decode cX4_append 31 = .ok (.aload_n 0, 1) := by decide +kernel
theorem dX4_append_32 : decode cX4_append 32 = .ok (.getfield 21, 3) := by decide +kernel
theorem dX4_append_35 : decode cX4_append 35 = .ok (.iload_n 3, 1) := by decide +kernel
theorem dX4_append_36 : decode cX4_append 36 = .ok (.iastore, 1) := by decide +kernel
theorem dX4_append_37 : decode cX4_append 37 = .ok (.aload_n 0, 1) := by decide +kernel
theorem dX4_append_38 : decode cX4_append 38 = .ok (.dup, 1) := by decide +kernel
theorem dX4_append_39 : decode cX4_append 39 = .ok (.getfield 21, 3) := by decide +kernel
theorem dX4_append_42 : decode cX4_append 42 = .ok (.iconst 1, 1) := by decide +kernel
theorem dX4_append_43 : decode cX4_append 43 = .ok (.iadd, 1) := by decide +kernel
theorem dX4_append_44 : decode cX4_append 44 = .ok (.putfield 21, 3) := by decide +kernel
theorem dX4_append_47 : decode cX4_append 47 = .ok (.return_, 1) := by decide +kernel
theorem dX4_agreeWith_0 : decode cX4_agreeWith 0 = .ok (.iconst 0, 1) := by decide +kernel
theorem dX4_agreeWith_1 : decode cX4_agreeWith 1 = .ok (.istore_n 2, 1) := by decide +kernel
theorem dX4_agreeWith_2 : decode cX4_agreeWith 2 = .ok (.iload_n 2, 1) := by decide +kernel
theorem dX4_agreeWith_3 : decode cX4_agreeWith 3 = .ok (.aload_n 0, 1) := by decide +kernel
theorem dX4_agreeWith_4 : decode cX4_agreeWith 4 = .ok (.getfield 21, 3) := by decide +kernel
theorem dX4_agreeWith_7 : decode cX4_agreeWith 7 = .ok (.if_icmp .ge 38, 3) := by decide +kernel
theorem dX4_agreeWith_10 : decode cX4_agreeWith 10 = .ok (.aload_n 1, 1) := by decide +kernel
theorem dX4_agreeWith_11 : decode cX4_agreeWith 11 = .ok (.getfield 29, 3) := by decide +kernel
theorem dX4_agreeWith_14 : decode cX4_agreeWith 14 = .ok (.aload_n 0, 1) := by decide +kernel
theorem dX4_agreeWith_15 : decode cX4_agreeWith 15 = .ok (.getfield 15, 3) := by decide +kernel
theorem dX4_agreeWith_18 : decode cX4_agreeWith 18 = .ok (.iload_n 2, 1) := by decide +kernel
theorem dX4_agreeWith_19 : decode cX4_agreeWith 19 = .ok (.iaload, 1) := by decide +kernel
theorem dX4_agreeWith_20 : decode cX4_agreeWith 20 = .ok (.aaload, 1) := by decide +kernel
theorem dX4_agreeWith_21 : decode cX4_agreeWith 21 = .ok (.aload_n 0, 1) := by decide +kernel
theorem dX4_agreeWith_22 : decode cX4_agreeWith 22 = .ok (.getfield 9, 3) := by decide +kernel
theorem dX4_agreeWith_25 : decode cX4_agreeWith 25 = .ok (.iload_n 2, 1) := by decide +kernel
theorem dX4_agreeWith_26 : decode cX4_agreeWith 26 = .ok (.iaload, 1) := by decide +kernel
theorem dX4_agreeWith_27 : decode cX4_agreeWith 27 = .ok (.iaload, 1) := by decide +kernel
theorem dX4_agreeWith_28 : decode cX4_agreeWith 28 = .ok (.aload_n 0, 1) := by decide +kernel
theorem dX4_agreeWith_29 : decode cX4_agreeWith 29 = .ok (.getfield 18, 3) := by decide +kernel
theorem dX4_agreeWith_32 : decode cX4_agreeWith 32 = .ok (.iload_n 2, 1) := by decide +kernel
theorem dX4_agreeWith_33 : decode cX4_agreeWith 33 = .ok (.iaload, 1) := by decide +kernel
theorem dX4_agreeWith_34 : decode cX4_agreeWith 34 = .ok (.if_icmp .eq 5, 3) := by decide +kernel
theorem dX4_agreeWith_37 : decode cX4_agreeWith 37 = .ok (.iconst 0, 1) := by decide +kernel
theorem dX4_agreeWith_38 : decode cX4_agreeWith 38 = .ok (.ireturn, 1) := by decide +kernel
theorem dX4_agreeWith_39 : decode cX4_agreeWith 39 = .ok (.iinc 2 1, 3) := by decide +kernel
theorem dX4_agreeWith_42 : decode cX4_agreeWith 42 = .ok (.goto (-40), 3) := by decide +kernel
theorem dX4_agreeWith_45 : decode cX4_agreeWith 45 = .ok (.iconst 1, 1) := by decide +kernel
theorem dX4_agreeWith_46 : decode cX4_agreeWith 46 = .ok (.ireturn, 1) := by decide +kernel
theorem dX5_init_0 : decode cX5_init 0 = .ok (.aload_n 0, 1) := by decide +kernel
theorem dX5_init_1 : decode cX5_init 1 = .ok (.invokespecial 3, 3) := by decide +kernel
theorem dX5_init_4 : decode cX5_init 4 = .ok (.aload_n 0, 1) := by decide +kernel
theorem dX5_init_5 : decode cX5_init 5 = .ok (.bipush 47, 2) := by decide +kernel
theorem dX5_init_7 : decode cX5_init 7 = .ok (.newarray .int, 2) := by decide +kernel
theorem dX5_init_9 : decode cX5_init 9 = .ok (.putfield 9, 3) := by decide +kernel
theorem dX5_init_12 : decode cX5_init 12 = .ok (.aload_n 0, 1) := by decide +kernel
theorem dX5_init_13 : decode cX5_init 13 = .ok (.iconst 0, 1) := by decide +kernel
theorem dX5_init_14 : decode cX5_init 14 = .ok (.putfield 15, 3) := by decide +kernel
theorem dX5_init_17 : decode cX5_init 17 = .ok (.aload_n 0, 1) := by decide +kernel
theorem dX5_init_18 : decode cX5_init 18 = .ok (.iload_n 1, 1) := by decide +kernel
theorem dX5_init_19 : decode cX5_init 19 = .ok (.bipush 47, 2) := by decide +kernel
theorem dX5_init_21 : decode cX5_init 21 = .ok (.invokestatic 19, 3) := by decide +kernel
theorem dX5_init_24 : decode cX5_init 24 = .ok (.putfield 25, 3) := by decide +kernel
theorem dX5_init_27 : decode cX5_init 27 = .ok (.return_, 1) := by decide +kernel
theorem dX5_hasSpace_0 : decode cX5_hasSpace 0 = .ok (.aload_n 0, 1) := by decide +kernel
theorem dX5_hasSpace_1 : decode cX5_hasSpace 1 = .ok (.getfield 15, 3) := by decide +kernel
theorem dX5_hasSpace_4 : decode cX5_hasSpace 4 = .ok (.aload_n 0, 1) := by decide +kernel
theorem dX5_hasSpace_5 : decode cX5_hasSpace 5 = .ok (.getfield 25, 3) := by decide +kernel
theorem dX5_hasSpace_8 : decode cX5_hasSpace 8 = .ok (.if_icmp .ge 7, 3) := by decide +kernel
theorem dX5_hasSpace_11 : decode cX5_hasSpace 11 = .ok (.iconst 1, 1) := by decide +kernel
theorem dX5_hasSpace_12 : decode cX5_hasSpace 12 = .ok (.goto 4, 3) := by decide +kernel
theorem dX5_hasSpace_15 : decode cX5_hasSpace 15 = .ok (.iconst 0, 1) := by decide +kernel
theorem dX5_hasSpace_16 : decode cX5_hasSpace 16 = .ok (.ireturn, 1) := by decide +kernel
theorem dX5_append_0 : decode cX5_append 0 = .ok (.aload_n 0, 1) := by decide +kernel
theorem dX5_append_1 : decode cX5_append 1 = .ok (.invokevirtual 28, 3) := by decide +kernel
theorem dX5_append_4 : decode cX5_append 4 = .ok (.ifCond .eq 23, 3) := by decide +kernel
theorem dX5_append_7 : decode cX5_append 7 = .ok (.aload_n 0, 1) := by decide +kernel
theorem dX5_append_8 : decode cX5_append 8 = .ok (.getfield 9, 3) := by decide +kernel
theorem dX5_append_11 : decode cX5_append 11 = .ok (.aload_n 0, 1) := by decide +kernel
theorem dX5_append_12 : decode cX5_append 12 = .ok (.getfield 15, 3) := by decide +kernel
theorem dX5_append_15 : decode cX5_append 15 = .ok (.iload_n 1, 1) := by decide +kernel
theorem dX5_append_16 : decode cX5_append 16 = .ok (.iastore, 1) := by decide +kernel
theorem dX5_append_17 : decode cX5_append 17 = .ok (.aload_n 0, 1) := by decide +kernel
theorem dX5_append_18 : decode cX5_append 18 = .ok (.dup, 1) := by decide +kernel
theorem dX5_append_19 : decode cX5_append 19 = .ok (.getfield 15, 3) := by decide +kernel
theorem dX5_append_22 : decode cX5_append 22 = .ok (.iconst 1, 1) := by decide +kernel
theorem dX5_append_23 : decode cX5_append 23 = .ok (.iadd, 1) := by decide +kernel
theorem dX5_append_24 : decode cX5_append 24 = .ok (.putfield 15, 3) := by decide +kernel
theorem dX5_append_27 : decode cX5_append 27 = .ok (.return_, 1) := by decide +kernel
theorem dX6_init_0 : decode cX6_init 0 = .ok (.aload_n 0, 1) := by decide +kernel
theorem dX6_init_1 : decode cX6_init 1 = .ok (.invokespecial 3, 3) := by decide +kernel
theorem dX6_init_4 : decode cX6_init 4 = .ok (.aload_n 0, 1) := by decide +kernel
theorem dX6_init_5 : decode cX6_init 5 = .ok (.bipush 12, 2) := by decide +kernel
theorem dX6_init_7 : decode cX6_init 7 = .ok (.newarray .int, 2) := by decide +kernel
theorem dX6_init_9 : decode cX6_init 9 = .ok (.putfield 9, 3) := by decide +kernel
theorem dX6_init_12 : decode cX6_init 12 = .ok (.aload_n 0, 1) := by decide +kernel
theorem dX6_init_13 : decode cX6_init 13 = .ok (.bipush 12, 2) := by decide +kernel
theorem dX6_init_15 : decode cX6_init 15 = .ok (.newarray .int, 2) := by decide +kernel
theorem dX6_init_17 : decode cX6_init 17 = .ok (.putfield 15, 3) := by decide +kernel
theorem dX6_init_20 : decode cX6_init 20 = .ok (.aload_n 0, 1) := by decide +kernel
theorem dX6_init_21 : decode cX6_init 21 = .ok (.bipush 12, 2) := by decide +kernel
theorem dX6_init_23 : decode cX6_init 23 = .ok (.newarray .int, 2) := by decide +kernel
theorem dX6_init_25 : decode cX6_init 25 = .ok (.putfield 18, 3) := by decide +kernel
theorem dX6_init_28 : decode cX6_init 28 = .ok (.aload_n 0, 1) := by decide +kernel
theorem dX6_init_29 : decode cX6_init 29 = .ok (.iconst 0, 1) := by decide +kernel
theorem dX6_init_30 : decode cX6_init 30 = .ok (.putfield 21, 3) := by decide +kernel
theorem dX6_init_33 : decode cX6_init 33 = .ok (.aload_n 0, 1) := by decide +kernel
theorem dX6_init_34 : decode cX6_init 34 = .ok (.iconst (-1), 1) := by decide +kernel
theorem dX6_init_35 : decode cX6_init 35 = .ok (.putfield 25, 3) := by decide +kernel
theorem dX6_init_38 : decode cX6_init 38 = .ok (.aload_n 0, 1) := by decide +kernel
theorem dX6_init_39 : decode cX6_init 39 = .ok (.aload_n 1, 1) := by decide +kernel
theorem dX6_init_40 : decode cX6_init 40 = .ok (.putfield 28, 3) := by decide +kernel
theorem dX6_init_43 : decode cX6_init 43 = .ok (.aload_n 0, 1) := by decide +kernel
theorem dX6_init_44 : decode cX6_init 44 = .ok (.iload_n 2, 1) := by decide +kernel
theorem dX6_init_45 : decode cX6_init 45 = .ok (.bipush 12, 2) := by decide +kernel
theorem dX6_init_47 : decode cX6_init 47 = .ok (.invokestatic 32, 3) := by decide +kernel
theorem dX6_init_50 : decode cX6_init 50 = .ok (.putfield 38, 3) := by decide +kernel
theorem dX6_init_53 : decode cX6_init 53 = .ok (.aload_n 0, 1) := by decide +kernel
theorem dX6_init_54 : decode cX6_init 54 = .ok (.iload_n 3, 1) := by decide +kernel
theorem dX6_init_55 : decode cX6_init 55 = .ok (.putfield 41, 3) := by decide +kernel
theorem dX6_init_58 : decode cX6_init 58 = .ok (.return_, 1) := by decide +kernel
theorem dX6_part_0 : decode cX6_part 0 = .ok (.iload_n 2, 1) := by decide +kernel
theorem dX6_part_1 : decode cX6_part 1 = .ok (.lookupswitch 41 #[(0, 27), (1, 34)], 27) := by decide +kernel
theorem dX6_part_28 : decode cX6_part 28 = .ok (.aload_n 0, 1) := by decide +kernel
theorem dX6_part_29 : decode cX6_part 29 = .ok (.getfield 9, 3) := by decide +kernel
theorem dX6_part_32 : decode cX6_part 32 = .ok (.iload_n 1, 1) := by decide +kernel
theorem dX6_part_33 : decode cX6_part 33 = .ok (.iaload, 1) := by decide +kernel
theorem dX6_part_34 : decode cX6_part 34 = .ok (.ireturn, 1) := by decide +kernel
theorem dX6_part_35 : decode cX6_part 35 = .ok (.aload_n 0, 1) := by decide +kernel
theorem dX6_part_36 : decode cX6_part 36 = .ok (.getfield 15, 3) := by decide +kernel
theorem dX6_part_39 : decode cX6_part 39 = .ok (.iload_n 1, 1) := by decide +kernel
theorem dX6_part_40 : decode cX6_part 40 = .ok (.iaload, 1) := by decide +kernel
theorem dX6_part_41 : decode cX6_part 41 = .ok (.ireturn, 1) := by decide +kernel
theorem dX6_part_42 : decode cX6_part 42 = .ok (.aload_n 0, 1) := by decide +kernel
theorem dX6_part_43 : decode cX6_part 43 = .ok (.getfield 18, 3) := by decide +kernel
theorem dX6_part_46 : decode cX6_part 46 = .ok (.iload_n 1, 1) := by decide +kernel
theorem dX6_part_47 : decode cX6_part 47 = .ok (.iaload, 1) := by decide +kernel
theorem dX6_part_48 : decode cX6_part 48 = .ok (.ireturn, 1) := by decide +kernel
theorem dX6_parse_0 : decode cX6_parse 0 = .ok (.aload_n 0, 1) := by decide +kernel
theorem dX6_parse_1 : decode cX6_parse 1 = .ok (.aload_n 0, 1) := by decide +kernel
theorem dX6_parse_2 : decode cX6_parse 2 = .ok (.aload_n 1, 1) := by decide +kernel
theorem dX6_parse_3 : decode cX6_parse 3 = .ok (.invokevirtual 45, 3) := by decide +kernel
theorem dX6_parse_6 : decode cX6_parse 6 = .ok (.putfield 25, 3) := by decide +kernel
theorem dX6_parse_9 : decode cX6_parse 9 = .ok (.aload_n 0, 1) := by decide +kernel
theorem dX6_parse_10 : decode cX6_parse 10 = .ok (.iconst 0, 1) := by decide +kernel
theorem dX6_parse_11 : decode cX6_parse 11 = .ok (.putfield 21, 3) := by decide +kernel
theorem dX6_parse_14 : decode cX6_parse 14 = .ok (.aload_n 0, 1) := by decide +kernel
theorem dX6_parse_15 : decode cX6_parse 15 = .ok (.getfield 25, 3) := by decide +kernel
theorem dX6_parse_18 : decode cX6_parse 18 = .ok (.iconst (-1), 1) := by decide +kernel
theorem dX6_parse_19 : decode cX6_parse 19 = .ok (.if_icmp .eq 4, 3) := by decide +kernel
theorem dX6_parse_22 : decode cX6_parse 22 = .ok (.return_, 1) := by decide +kernel
theorem dX6_parse_23 : decode cX6_parse 23 = .ok (.iconst 0, 1) := by decide +kernel
theorem dX6_parse_24 : decode cX6_parse 24 = .ok (.istore_n 2, 1) := by decide +kernel
theorem dX6_parse_25 : decode cX6_parse 25 = .ok (.iload_n 2, 1) := by decide +kernel
theorem dX6_parse_26 : decode cX6_parse 26 = .ok (.iconst 2, 1) := by decide +kernel
theorem dX6_parse_27 : decode cX6_parse 27 = .ok (.iadd, 1) := by decide +kernel
theorem dX6_parse_28 : decode cX6_parse 28 = .ok (.aload_n 1, 1) := by decide +kernel
theorem dX6_parse_29 : decode cX6_parse 29 = .ok (.getfield 49, 3) := by decide +kernel
theorem dX6_parse_32 : decode cX6_parse 32 = .ok (.if_icmp .ge 93, 3) := by decide +kernel
theorem dX6_parse_35 : decode cX6_parse 35 = .ok (.aload_n 0, 1) := by decide +kernel
theorem dX6_parse_36 : decode cX6_parse 36 = .ok (.getfield 21, 3) := by decide +kernel
theorem dX6_parse_39 : decode cX6_parse 39 = .ok (.aload_n 0, 1) := by decide +kernel
theorem dX6_parse_40 : decode cX6_parse 40 = .ok (.getfield 38, 3) := by decide +kernel
theorem dX6_parse_43 : decode cX6_parse 43 = .ok (.if_icmp .ge 82, 3) := by decide +kernel
theorem dX6_parse_46 : decode cX6_parse 46 = .ok (.aload_n 0, 1) := by decide +kernel
theorem dX6_parse_47 : decode cX6_parse 47 = .ok (.getfield 9, 3) := by decide +kernel
theorem dX6_parse_50 : decode cX6_parse 50 = .ok (.aload_n 0, 1) := by decide +kernel
theorem dX6_parse_51 : decode cX6_parse 51 = .ok (.getfield 21, 3) := by decide +kernel
theorem dX6_parse_54 : decode cX6_parse 54 = .ok (.aload_n 1, 1) := by decide +kernel
theorem dX6_parse_55 : decode cX6_parse 55 = .ok (.getfield 54, 3) := by decide +kernel
theorem dX6_parse_58 : decode cX6_parse 58 = .ok (.iload_n 2, 1) := by decide +kernel
theorem dX6_parse_59 : decode cX6_parse 59 = .ok (.iaload, 1) := by decide +kernel
theorem dX6_parse_60 : decode cX6_parse 60 = .ok (.bipush 97, 2) := by decide +kernel
theorem dX6_parse_62 : decode cX6_parse 62 = .ok (.isub, 1) := by decide +kernel
theorem dX6_parse_63 : decode cX6_parse 63 = .ok (.iastore, 1) := by decide +kernel
theorem dX6_parse_64 : decode cX6_parse 64 = .ok (.aload_n 0, 1) := by decide +kernel
theorem dX6_parse_65 : decode cX6_parse 65 = .ok (.getfield 15, 3) := by decide +kernel
theorem dX6_parse_68 : decode cX6_parse 68 = .ok (.aload_n 0, 1) := by decide +kernel
theorem dX6_parse_69 : decode cX6_parse 69 = .ok (.getfield 21, 3) := by decide +kernel
theorem dX6_parse_72 : decode cX6_parse 72 = .ok (.aload_n 0, 1) := by decide +kernel
theorem dX6_parse_73 : decode cX6_parse 73 = .ok (.getfield 28, 3) := by decide +kernel
theorem dX6_parse_76 : decode cX6_parse 76 = .ok (.aload_n 1, 1) := by decide +kernel
theorem dX6_parse_77 : decode cX6_parse 77 = .ok (.getfield 54, 3) := by decide +kernel
theorem dX6_parse_80 : decode cX6_parse 80 = .ok (.iload_n 2, 1) := by decide +kernel
theorem dX6_parse_81 : decode cX6_parse 81 = .ok (.iconst 1, 1) := by decide +kernel
theorem dX6_parse_82 : decode cX6_parse 82 = .ok (.iadd, 1) := by decide +kernel
theorem dX6_parse_83 : decode cX6_parse 83 = .ok (.iaload, 1) := by decide +kernel
theorem dX6_parse_84 : decode cX6_parse 84 = .ok (.i2c, 1) := by decide +kernel
theorem dX6_parse_85 : decode cX6_parse 85 = .ok (.invokevirtual 57, 3) := by decide +kernel
theorem dX6_parse_88 : decode cX6_parse 88 = .ok (.iastore, 1) := by decide +kernel
theorem dX6_parse_89 : decode cX6_parse 89 = .ok (.aload_n 0, 1) := by decide +kernel
theorem dX6_parse_90 : decode cX6_parse 90 = .ok (.getfield 18, 3) := by decide +kernel
theorem dX6_parse_93 : decode cX6_parse 93 = .ok (.aload_n 0, 1) := by decide +kernel
theorem dX6_parse_94 : decode cX6_parse 94 = .ok (.getfield 21, 3) := by decide +kernel
theorem dX6_parse_97 : decode cX6_parse 97 = .ok (.aload_n 1, 1) := by decide +kernel
theorem dX6_parse_98 : decode cX6_parse 98 = .ok (.getfield 54, 3) := by decide +kernel
theorem dX6_parse_101 : decode cX6_parse 101 = .ok (.iload_n 2, 1) := by decide +kernel
theorem dX6_parse_102 : decode cX6_parse 102 = .ok (.iconst 2, 1) := by decide +kernel
theorem dX6_parse_103 : decode cX6_parse 103 = .ok (.iadd, 1) := by decide +kernel
theorem dX6_parse_104 : decode cX6_parse 104 = .ok (.iaload, 1) := by decide +kernel
theorem dX6_parse_105 : decode cX6_parse 105 = .ok (.bipush 48, 2) := by decide +kernel
theorem dX6_parse_107 : decode cX6_parse 107 = .ok (.isub, 1) := by decide +kernel
theorem dX6_parse_108 : decode cX6_parse 108 = .ok (.iastore, 1) := by decide +kernel
theorem dX6_parse_109 : decode cX6_parse 109 = .ok (.aload_n 0, 1) := by decide +kernel
theorem dX6_parse_110 : decode cX6_parse 110 = .ok (.dup, 1) := by decide +kernel
theorem dX6_parse_111 : decode cX6_parse 111 = .ok (.getfield 21, 3) := by decide +kernel
theorem dX6_parse_114 : decode cX6_parse 114 = .ok (.iconst 1, 1) := by decide +kernel
theorem dX6_parse_115 : decode cX6_parse 115 = .ok (.iadd, 1) := by decide +kernel
theorem dX6_parse_116 : decode cX6_parse 116 = .ok (.putfield 21, 3) := by decide +kernel
theorem dX6_parse_119 : decode cX6_parse 119 = .ok (.iinc 2 4, 3) := by decide +kernel
theorem dX6_parse_122 : decode cX6_parse 122 = .ok (.goto (-97), 3) := by decide +kernel
theorem dX6_parse_125 : decode cX6_parse 125 = .ok (.return_, 1) := by decide +kernel
theorem dX6_faultIn_0 : decode cX6_faultIn 0 = .ok (.iconst 0, 1) := by decide +kernel
theorem dX6_faultIn_1 : decode cX6_faultIn 1 = .ok (.istore_n 2, 1) := by decide +kernel
theorem dX6_faultIn_2 : decode cX6_faultIn 2 = .ok (.iload_n 2, 1) := by decide +kernel
theorem dX6_faultIn_3 : decode cX6_faultIn 3 = .ok (.aload_n 1, 1) := by decide +kernel
theorem dX6_faultIn_4 : decode cX6_faultIn 4 = .ok (.getfield 49, 3) := by decide +kernel
theorem dX6_faultIn_7 : decode cX6_faultIn 7 = .ok (.if_icmp .ge 20, 3) := by decide +kernel
theorem dX6_faultIn_10 : decode cX6_faultIn 10 = .ok (.aload_n 0, 1) := by decide +kernel
theorem dX6_faultIn_11 : decode cX6_faultIn 11 = .ok (.aload_n 1, 1) := by decide +kernel
theorem dX6_faultIn_12 : decode cX6_faultIn 12 = .ok (.iload_n 2, 1) := by decide +kernel
theorem dX6_faultIn_13 : decode cX6_faultIn 13 = .ok (.invokevirtual 63, 3) := by decide +kernel
theorem dX6_faultIn_16 : decode cX6_faultIn 16 = .ok (.ifCond .ne 5, 3) := by decide +kernel
theorem dX6_faultIn_19 : decode cX6_faultIn 19 = .ok (.iload_n 2, 1) := by decide +kernel
theorem dX6_faultIn_20 : decode cX6_faultIn 20 = .ok (.ireturn, 1) := by decide +kernel
theorem dX6_faultIn_21 : decode cX6_faultIn 21 = .ok (.iinc 2 1, 3) := by decide +kernel
theorem dX6_faultIn_24 : decode cX6_faultIn 24 = .ok (.goto (-22), 3) := by decide +kernel
theorem dX6_faultIn_27 : decode cX6_faultIn 27 = .ok (.aload_n 1, 1) := by decide +kernel
theorem dX6_faultIn_28 : decode cX6_faultIn 28 = .ok (.getfield 49, 3) := by decide +kernel
theorem dX6_faultIn_31 : decode cX6_faultIn 31 = .ok (.ifCond .eq 13, 3) := by decide +kernel
theorem dX6_faultIn_34 : decode cX6_faultIn 34 = .ok (.aload_n 1, 1) := by decide +kernel
theorem dX6_faultIn_35 : decode cX6_faultIn 35 = .ok (.getfield 49, 3) := by decide +kernel
theorem dX6_faultIn_38 : decode cX6_faultIn 38 = .ok (.iconst 4, 1) := by decide +kernel
theorem dX6_faultIn_39 : decode cX6_faultIn 39 = .ok (.irem, 1) := by decide +kernel
theorem dX6_faultIn_40 : decode cX6_faultIn 40 = .ok (.iconst 3, 1) := by decide +kernel
theorem dX6_faultIn_41 : decode cX6_faultIn 41 = .ok (.if_icmp .ne 7, 3) := by decide +kernel
theorem dX6_faultIn_44 : decode cX6_faultIn 44 = .ok (.iconst (-1), 1) := by decide +kernel
theorem dX6_faultIn_45 : decode cX6_faultIn 45 = .ok (.goto 7, 3) := by decide +kernel
theorem dX6_faultIn_48 : decode cX6_faultIn 48 = .ok (.aload_n 1, 1) := by decide +kernel
theorem dX6_faultIn_49 : decode cX6_faultIn 49 = .ok (.getfield 49, 3) := by decide +kernel
theorem dX6_faultIn_52 : decode cX6_faultIn 52 = .ok (.ireturn, 1) := by decide +kernel
theorem dX6_goesOn_0 : decode cX6_goesOn 0 = .ok (.aload_n 1, 1) := by decide +kernel
theorem dX6_goesOn_1 : decode cX6_goesOn 1 = .ok (.getfield 54, 3) := by decide +kernel
theorem dX6_goesOn_4 : decode cX6_goesOn 4 = .ok (.iload_n 2, 1) := by decide +kernel
theorem dX6_goesOn_5 : decode cX6_goesOn 5 = .ok (.iaload, 1) := by decide +kernel
theorem dX6_goesOn_6 : decode cX6_goesOn 6 = .ok (.istore_n 3, 1) := by decide +kernel
theorem dX6_goesOn_7 : decode cX6_goesOn 7 = .ok (.iload_n 2, 1) := by decide +kernel
theorem dX6_goesOn_8 : decode cX6_goesOn 8 = .ok (.iconst 4, 1) := by decide +kernel
theorem dX6_goesOn_9 : decode cX6_goesOn 9 = .ok (.irem, 1) := by decide +kernel
theorem dX6_goesOn_10 : decode cX6_goesOn 10 = .ok (.tableswitch 96 0 2 #[26, 69, 87], 26) := by decide +kernel
theorem dX6_goesOn_36 : decode cX6_goesOn 36 = .ok (.iload_n 2, 1) := by decide +kernel
theorem dX6_goesOn_37 : decode cX6_goesOn 37 = .ok (.iconst 4, 1) := by decide +kernel
theorem dX6_goesOn_38 : decode cX6_goesOn 38 = .ok (.idiv, 1) := by decide +kernel
theorem dX6_goesOn_39 : decode cX6_goesOn 39 = .ok (.aload_n 0, 1) := by decide +kernel
theorem dX6_goesOn_40 : decode cX6_goesOn 40 = .ok (.getfield 38, 3) := by decide +kernel
theorem dX6_goesOn_43 : decode cX6_goesOn 43 = .ok (.if_icmp .ge 34, 3) := by decide +kernel
theorem dX6_goesOn_46 : decode cX6_goesOn 46 = .ok (.iload_n 3, 1) := by decide +kernel
theorem dX6_goesOn_47 : decode cX6_goesOn 47 = .ok (.bipush 97, 2) := by decide +kernel
theorem dX6_goesOn_49 : decode cX6_goesOn 49 = .ok (.bipush 120, 2) := by decide +kernel
theorem dX6_goesOn_51 : decode cX6_goesOn 51 = .ok (.invokestatic 67, 3) := by decide +kernel
theorem dX6_goesOn_54 : decode cX6_goesOn 54 = .ok (.ifCond .eq 23, 3) := by decide +kernel
theorem dX6_goesOn_57 : decode cX6_goesOn 57 = .ok (.aload_n 0, 1) := by decide +kernel
theorem dX6_goesOn_58 : decode cX6_goesOn 58 = .ok (.getfield 41, 3) := by decide +kernel
theorem dX6_goesOn_61 : decode cX6_goesOn 61 = .ok (.ifCond .eq 12, 3) := by decide +kernel
theorem dX6_goesOn_64 : decode cX6_goesOn 64 = .ok (.aload_n 0, 1) := by decide +kernel
theorem dX6_goesOn_65 : decode cX6_goesOn 65 = .ok (.aload_n 1, 1) := by decide +kernel
theorem dX6_goesOn_66 : decode cX6_goesOn 66 = .ok (.iload_n 2, 1) := by decide +kernel
theorem dX6_goesOn_67 : decode cX6_goesOn 67 = .ok (.invokevirtual 71, 3) := by decide +kernel
theorem dX6_goesOn_70 : decode cX6_goesOn 70 = .ok (.ifCond .ne 7, 3) := by decide +kernel
theorem dX6_goesOn_73 : decode cX6_goesOn 73 = .ok (.iconst 1, 1) := by decide +kernel
theorem dX6_goesOn_74 : decode cX6_goesOn 74 = .ok (.goto 4, 3) := by decide +kernel
theorem dX6_goesOn_77 : decode cX6_goesOn 77 = .ok (.iconst 0, 1) := by decide +kernel
theorem dX6_goesOn_78 : decode cX6_goesOn 78 = .ok (.ireturn, 1) := by decide +kernel
theorem dX6_goesOn_79 : decode cX6_goesOn 79 = .ok (.aload_n 0, 1) := by decide +kernel
theorem dX6_goesOn_80 : decode cX6_goesOn 80 = .ok (.getfield 28, 3) := by decide +kernel
theorem dX6_goesOn_83 : decode cX6_goesOn 83 = .ok (.iload_n 3, 1) := by decide +kernel
theorem dX6_goesOn_84 : decode cX6_goesOn 84 = .ok (.i2c, 1) := by decide +kernel
theorem dX6_goesOn_85 : decode cX6_goesOn 85 = .ok (.invokevirtual 57, 3) := by decide +kernel
theorem dX6_goesOn_88 : decode cX6_goesOn 88 = .ok (.ifCond .lt 7, 3) := by decide +kernel
theorem dX6_goesOn_91 : decode cX6_goesOn 91 = .ok (.iconst 1, 1) := by decide +kernel
theorem dX6_goesOn_92 : decode cX6_goesOn 92 = .ok (.goto 4, 3) := by decide +kernel
theorem dX6_goesOn_95 : decode cX6_goesOn 95 = .ok (.iconst 0, 1) := by decide +kernel
theorem dX6_goesOn_96 : decode cX6_goesOn 96 = .ok (.ireturn, 1) := by decide +kernel
theorem dX6_goesOn_97 : decode cX6_goesOn 97 = .ok (.iload_n 3, 1) := by decide +kernel
theorem dX6_goesOn_98 : decode cX6_goesOn 98 = .ok (.bipush 49, 2) := by decide +kernel
theorem dX6_goesOn_100 : decode cX6_goesOn 100 = .ok (.bipush 57, 2) := by decide +kernel
theorem dX6_goesOn_102 : decode cX6_goesOn 102 = .ok (.invokestatic 67, 3) := by decide +kernel
theorem dX6_goesOn_105 : decode cX6_goesOn 105 = .ok (.ireturn, 1) := by decide +kernel
theorem dX6_goesOn_106 : decode cX6_goesOn 106 = .ok (.iload_n 3, 1) := by decide +kernel
theorem dX6_goesOn_107 : decode cX6_goesOn 107 = .ok (.bipush 59, 2) := by decide +kernel
theorem dX6_goesOn_109 : decode cX6_goesOn 109 = .ok (.if_icmp .ne 7, 3) := by decide +kernel
theorem dX6_goesOn_112 : decode cX6_goesOn 112 = .ok (.iconst 1, 1) := by decide +kernel
theorem dX6_goesOn_113 : decode cX6_goesOn 113 = .ok (.goto 4, 3) := by decide +kernel
theorem dX6_goesOn_116 : decode cX6_goesOn 116 = .ok (.iconst 0, 1) := by decide +kernel
theorem dX6_goesOn_117 : decode cX6_goesOn 117 = .ok (.ireturn, 1) := by decide +kernel
theorem dX6_isTaken_0 : decode cX6_isTaken 0 = .ok (.iconst 0, 1) := by decide +kernel
theorem dX6_isTaken_1 : decode cX6_isTaken 1 = .ok (.istore_n 3, 1) := by decide +kernel
theorem dX6_isTaken_2 : decode cX6_isTaken 2 = .ok (.iload_n 3, 1) := by decide +kernel
theorem dX6_isTaken_3 : decode cX6_isTaken 3 = .ok (.iload_n 2, 1) := by decide +kernel
theorem dX6_isTaken_4 : decode cX6_isTaken 4 = .ok (.if_icmp .ge 26, 3) := by decide +kernel
theorem dX6_isTaken_7 : decode cX6_isTaken 7 = .ok (.aload_n 1, 1) := by decide +kernel
theorem dX6_isTaken_8 : decode cX6_isTaken 8 = .ok (.getfield 54, 3) := by decide +kernel
theorem dX6_isTaken_11 : decode cX6_isTaken 11 = .ok (.iload_n 3, 1) := by decide +kernel
theorem dX6_isTaken_12 : decode cX6_isTaken 12 = .ok (.iaload, 1) := by decide +kernel
theorem dX6_isTaken_13 : decode cX6_isTaken 13 = .ok (.aload_n 1, 1) := by decide +kernel
theorem dX6_isTaken_14 : decode cX6_isTaken 14 = .ok (.getfield 54, 3) := by decide +kernel
theorem dX6_isTaken_17 : decode cX6_isTaken 17 = .ok (.iload_n 2, 1) := by decide +kernel
theorem dX6_isTaken_18 : decode cX6_isTaken 18 = .ok (.iaload, 1) := by decide +kernel
theorem dX6_isTaken_19 : decode cX6_isTaken 19 = .ok (.if_icmp .ne 5, 3) := by decide +kernel
theorem dX6_isTaken_22 : decode cX6_isTaken 22 = .ok (.iconst 1, 1) := by decide +kernel
theorem dX6_isTaken_23 : decode cX6_isTaken 23 = .ok (.ireturn, 1) := by decide +kernel
theorem dX6_isTaken_24 : decode cX6_isTaken 24 = .ok (.iinc 3 4, 3) := by decide +kernel
theorem dX6_isTaken_27 : decode cX6_isTaken 27 = .ok (.goto (-25), 3) := by decide +kernel
theorem dX6_isTaken_30 : decode cX6_isTaken 30 = .ok (.iconst 0, 1) := by decide +kernel
theorem dX6_isTaken_31 : decode cX6_isTaken 31 = .ok (.ireturn, 1) := by decide +kernel
theorem dX7_init_0 : decode cX7_init 0 = .ok (.aload_n 0, 1) := by decide +kernel
theorem dX7_init_1 : decode cX7_init 1 = .ok (.invokespecial 1, 3) := by decide +kernel
theorem dX7_init_4 : decode cX7_init 4 = .ok (.aload_n 0, 1) := by decide +kernel
theorem dX7_init_5 : decode cX7_init 5 = .ok (.new 7, 3) := by decide +kernel
theorem dX7_init_8 : decode cX7_init 8 = .ok (.dup, 1) := by decide +kernel
theorem dX7_init_9 : decode cX7_init 9 = .ok (.bipush 23, 2) := by decide +kernel
theorem dX7_init_11 : decode cX7_init 11 = .ok (.invokespecial 11, 3) := by decide +kernel
theorem dX7_init_14 : decode cX7_init 14 = .ok (.putfield 14, 3) := by decide +kernel
theorem dX7_init_17 : decode cX7_init 17 = .ok (.aload_n 0, 1) := by decide +kernel
theorem dX7_init_18 : decode cX7_init 18 = .ok (.new 7, 3) := by decide +kernel
theorem dX7_init_21 : decode cX7_init 21 = .ok (.dup, 1) := by decide +kernel
theorem dX7_init_22 : decode cX7_init 22 = .ok (.bipush 47, 2) := by decide +kernel
theorem dX7_init_24 : decode cX7_init 24 = .ok (.invokespecial 11, 3) := by decide +kernel
theorem dX7_init_27 : decode cX7_init 27 = .ok (.putfield 18, 3) := by decide +kernel
theorem dX7_init_30 : decode cX7_init 30 = .ok (.aload_n 0, 1) := by decide +kernel
theorem dX7_init_31 : decode cX7_init 31 = .ok (.new 7, 3) := by decide +kernel
theorem dX7_init_34 : decode cX7_init 34 = .ok (.dup, 1) := by decide +kernel
theorem dX7_init_35 : decode cX7_init 35 = .ok (.bipush 24, 2) := by decide +kernel
theorem dX7_init_37 : decode cX7_init 37 = .ok (.invokespecial 11, 3) := by decide +kernel
theorem dX7_init_40 : decode cX7_init 40 = .ok (.putfield 21, 3) := by decide +kernel
theorem dX7_init_43 : decode cX7_init 43 = .ok (.aload_n 0, 1) := by decide +kernel
theorem dX7_init_44 : decode cX7_init 44 = .ok (.new 24, 3) := by decide +kernel
theorem dX7_init_47 : decode cX7_init 47 = .ok (.dup, 1) := by decide +kernel
theorem dX7_init_48 : decode cX7_init 48 = .ok (.ldc 26, 2) := by decide +kernel
theorem dX7_init_50 : decode cX7_init 50 = .ok (.bipush 6, 2) := by decide +kernel
theorem dX7_init_52 : decode cX7_init 52 = .ok (.iconst 1, 1) := by decide +kernel
theorem dX7_init_53 : decode cX7_init 53 = .ok (.invokespecial 28, 3) := by decide +kernel
theorem dX7_init_56 : decode cX7_init 56 = .ok (.putfield 31, 3) := by decide +kernel
theorem dX7_init_59 : decode cX7_init 59 = .ok (.aload_n 0, 1) := by decide +kernel
theorem dX7_init_60 : decode cX7_init 60 = .ok (.new 24, 3) := by decide +kernel
theorem dX7_init_63 : decode cX7_init 63 = .ok (.dup, 1) := by decide +kernel
theorem dX7_init_64 : decode cX7_init 64 = .ok (.ldc 35, 2) := by decide +kernel
theorem dX7_init_66 : decode cX7_init 66 = .ok (.bipush 12, 2) := by decide +kernel
theorem dX7_init_68 : decode cX7_init 68 = .ok (.iconst 0, 1) := by decide +kernel
theorem dX7_init_69 : decode cX7_init 69 = .ok (.invokespecial 28, 3) := by decide +kernel
theorem dX7_init_72 : decode cX7_init 72 = .ok (.putfield 37, 3) := by decide +kernel
theorem dX7_init_75 : decode cX7_init 75 = .ok (.aload_n 0, 1) := by decide +kernel
theorem dX7_init_76 : decode cX7_init 76 = .ok (.new 40, 3) := by decide +kernel
theorem dX7_init_79 : decode cX7_init 79 = .ok (.dup, 1) := by decide +kernel
theorem dX7_init_80 : decode cX7_init 80 = .ok (.invokespecial 42, 3) := by decide +kernel
theorem dX7_init_83 : decode cX7_init 83 = .ok (.putfield 43, 3) := by decide +kernel
theorem dX7_init_86 : decode cX7_init 86 = .ok (.aload_n 0, 1) := by decide +kernel
theorem dX7_init_87 : decode cX7_init 87 = .ok (.new 47, 3) := by decide +kernel
theorem dX7_init_90 : decode cX7_init 90 = .ok (.dup, 1) := by decide +kernel
theorem dX7_init_91 : decode cX7_init 91 = .ok (.invokespecial 49, 3) := by decide +kernel
theorem dX7_init_94 : decode cX7_init 94 = .ok (.putfield 50, 3) := by decide +kernel
theorem dX7_init_97 : decode cX7_init 97 = .ok (.aload_n 0, 1) := by decide +kernel
theorem dX7_init_98 : decode cX7_init 98 = .ok (.new 54, 3) := by decide +kernel
theorem dX7_init_101 : decode cX7_init 101 = .ok (.dup, 1) := by decide +kernel
theorem dX7_init_102 : decode cX7_init 102 = .ok (.invokespecial 56, 3) := by decide +kernel
theorem dX7_init_105 : decode cX7_init 105 = .ok (.putfield 57, 3) := by decide +kernel
theorem dX7_init_108 : decode cX7_init 108 = .ok (.aload_n 0, 1) := by decide +kernel
theorem dX7_init_109 : decode cX7_init 109 = .ok (.new 54, 3) := by decide +kernel
theorem dX7_init_112 : decode cX7_init 112 = .ok (.dup, 1) := by decide +kernel
theorem dX7_init_113 : decode cX7_init 113 = .ok (.invokespecial 56, 3) := by decide +kernel
theorem dX7_init_116 : decode cX7_init 116 = .ok (.putfield 61, 3) := by decide +kernel
theorem dX7_init_119 : decode cX7_init 119 = .ok (.aload_n 0, 1) := by decide +kernel
theorem dX7_init_120 : decode cX7_init 120 = .ok (.new 54, 3) := by decide +kernel
theorem dX7_init_123 : decode cX7_init 123 = .ok (.dup, 1) := by decide +kernel
theorem dX7_init_124 : decode cX7_init 124 = .ok (.invokespecial 56, 3) := by decide +kernel
theorem dX7_init_127 : decode cX7_init 127 = .ok (.putfield 64, 3) := by decide +kernel
theorem dX7_init_130 : decode cX7_init 130 = .ok (.aload_n 0, 1) := by decide +kernel
theorem dX7_init_131 : decode cX7_init 131 = .ok (.new 54, 3) := by decide +kernel
theorem dX7_init_134 : decode cX7_init 134 = .ok (.dup, 1) := by decide +kernel
theorem dX7_init_135 : decode cX7_init 135 = .ok (.invokespecial 56, 3) := by decide +kernel
theorem dX7_init_138 : decode cX7_init 138 = .ok (.putfield 67, 3) := by decide +kernel
theorem dX7_init_141 : decode cX7_init 141 = .ok (.aload_n 0, 1) := by decide +kernel
theorem dX7_init_142 : decode cX7_init 142 = .ok (.new 70, 3) := by decide +kernel
theorem dX7_init_145 : decode cX7_init 145 = .ok (.dup, 1) := by decide +kernel
theorem dX7_init_146 : decode cX7_init 146 = .ok (.invokespecial 72, 3) := by decide +kernel
theorem dX7_init_149 : decode cX7_init 149 = .ok (.putfield 73, 3) := by decide +kernel
theorem dX7_init_152 : decode cX7_init 152 = .ok (.aload_n 0, 1) := by decide +kernel
theorem dX7_init_153 : decode cX7_init 153 = .ok (.new 77, 3) := by decide +kernel
theorem dX7_init_156 : decode cX7_init 156 = .ok (.dup, 1) := by decide +kernel
theorem dX7_init_157 : decode cX7_init 157 = .ok (.invokespecial 79, 3) := by decide +kernel
theorem dX7_init_160 : decode cX7_init 160 = .ok (.putfield 80, 3) := by decide +kernel
theorem dX7_init_163 : decode cX7_init 163 = .ok (.aload_n 0, 1) := by decide +kernel
theorem dX7_init_164 : decode cX7_init 164 = .ok (.new 77, 3) := by decide +kernel
theorem dX7_init_167 : decode cX7_init 167 = .ok (.dup, 1) := by decide +kernel
theorem dX7_init_168 : decode cX7_init 168 = .ok (.invokespecial 79, 3) := by decide +kernel
theorem dX7_init_171 : decode cX7_init 171 = .ok (.putfield 84, 3) := by decide +kernel
theorem dX7_init_174 : decode cX7_init 174 = .ok (.aload_n 0, 1) := by decide +kernel
theorem dX7_init_175 : decode cX7_init 175 = .ok (.bipush 10, 2) := by decide +kernel
theorem dX7_init_177 : decode cX7_init 177 = .ok (.bipush 24, 2) := by decide +kernel
theorem dX7_init_179 : decode cX7_init 179 = .ok (.multianewarray 87 2, 4) := by decide +kernel
theorem dX7_init_183 : decode cX7_init 183 = .ok (.putfield 89, 3) := by decide +kernel
theorem dX7_init_186 : decode cX7_init 186 = .ok (.aload_n 0, 1) := by decide +kernel
theorem dX7_init_187 : decode cX7_init 187 = .ok (.iconst (-1), 1) := by decide +kernel
theorem dX7_init_188 : decode cX7_init 188 = .ok (.putfield 92, 3) := by decide +kernel
theorem dX7_init_191 : decode cX7_init 191 = .ok (.aload_n 0, 1) := by decide +kernel
theorem dX7_init_192 : decode cX7_init 192 = .ok (.iconst 1, 1) := by decide +kernel
theorem dX7_init_193 : decode cX7_init 193 = .ok (.putfield 96, 3) := by decide +kernel
theorem dX7_init_196 : decode cX7_init 196 = .ok (.aload_n 0, 1) := by decide +kernel
theorem dX7_init_197 : decode cX7_init 197 = .ok (.iconst 0, 1) := by decide +kernel
theorem dX7_init_198 : decode cX7_init 198 = .ok (.putfield 100, 3) := by decide +kernel
theorem dX7_init_201 : decode cX7_init 201 = .ok (.return_, 1) := by decide +kernel
theorem dX7_type_0 : decode cX7_type 0 = .ok (.aload_n 0, 1) := by decide +kernel
theorem dX7_type_1 : decode cX7_type 1 = .ok (.iload_n 1, 1) := by decide +kernel
theorem dX7_type_2 : decode cX7_type 2 = .ok (.invokevirtual 103, 3) := by decide +kernel
theorem dX7_type_5 : decode cX7_type 5 = .ok (.astore_n 3, 1) := by decide +kernel
theorem dX7_type_6 : decode cX7_type 6 = .ok (.aload_n 3, 1) := by decide +kernel
theorem dX7_type_7 : decode cX7_type 7 = .ok (.ifnull 14, 3) := by decide +kernel
theorem dX7_type_10 : decode cX7_type 10 = .ok (.iload_n 2, 1) := by decide +kernel
theorem dX7_type_11 : decode cX7_type 11 = .ok (.iconst 0, 1) := by decide +kernel
theorem dX7_type_12 : decode cX7_type 12 = .ok (.sipush 255, 3) := by decide +kernel
theorem dX7_type_15 : decode cX7_type 15 = .ok (.invokestatic 107, 3) := by decide +kernel
theorem dX7_type_18 : decode cX7_type 18 = .ok (.ifCond .ne 6, 3) := by decide +kernel
theorem dX7_type_21 : decode cX7_type 21 = .ok (.bipush (-2), 2) := by decide +kernel
theorem dX7_type_23 : decode cX7_type 23 = .ok (.ireturn, 1) := by decide +kernel
theorem dX7_type_24 : decode cX7_type 24 = .ok (.aload_n 3, 1) := by decide +kernel
theorem dX7_type_25 : decode cX7_type 25 = .ok (.invokevirtual 111, 3) := by decide +kernel
theorem dX7_type_28 : decode cX7_type 28 = .ok (.ifCond .ne 6, 3) := by decide +kernel
theorem dX7_type_31 : decode cX7_type 31 = .ok (.bipush (-4), 2) := by decide +kernel
theorem dX7_type_33 : decode cX7_type 33 = .ok (.ireturn, 1) := by decide +kernel
theorem dX7_type_34 : decode cX7_type 34 = .ok (.aload_n 3, 1) := by decide +kernel
theorem dX7_type_35 : decode cX7_type 35 = .ok (.iload_n 2, 1) := by decide +kernel
theorem dX7_type_36 : decode cX7_type 36 = .ok (.invokevirtual 115, 3) := by decide +kernel
theorem dX7_type_39 : decode cX7_type 39 = .ok (.aload_n 0, 1) := by decide +kernel
theorem dX7_type_40 : decode cX7_type 40 = .ok (.iload_n 1, 1) := by decide +kernel
theorem dX7_type_41 : decode cX7_type 41 = .ok (.invokevirtual 118, 3) := by decide +kernel
theorem dX7_type_44 : decode cX7_type 44 = .ok (.aload_n 3, 1) := by decide +kernel
theorem dX7_type_45 : decode cX7_type 45 = .ok (.getfield 121, 3) := by decide +kernel
theorem dX7_type_48 : decode cX7_type 48 = .ok (.ireturn, 1) := by decide +kernel
theorem dX7_wipe_0 : decode cX7_wipe 0 = .ok (.aload_n 0, 1) := by decide +kernel
theorem dX7_wipe_1 : decode cX7_wipe 1 = .ok (.iload_n 1, 1) := by decide +kernel
theorem dX7_wipe_2 : decode cX7_wipe 2 = .ok (.invokevirtual 103, 3) := by decide +kernel
theorem dX7_wipe_5 : decode cX7_wipe 5 = .ok (.astore_n 2, 1) := by decide +kernel
theorem dX7_wipe_6 : decode cX7_wipe 6 = .ok (.aload_n 2, 1) := by decide +kernel
theorem dX7_wipe_7 : decode cX7_wipe 7 = .ok (.ifnonnull 6, 3) := by decide +kernel
theorem dX7_wipe_10 : decode cX7_wipe 10 = .ok (.bipush (-2), 2) := by decide +kernel
theorem dX7_wipe_12 : decode cX7_wipe 12 = .ok (.ireturn, 1) := by decide +kernel
theorem dX7_wipe_13 : decode cX7_wipe 13 = .ok (.aload_n 2, 1) := by decide +kernel
theorem dX7_wipe_14 : decode cX7_wipe 14 = .ok (.getfield 121, 3) := by decide +kernel
theorem dX7_wipe_17 : decode cX7_wipe 17 = .ok (.istore_n 3, 1) := by decide +kernel
theorem dX7_wipe_18 : decode cX7_wipe 18 = .ok (.aload_n 2, 1) := by decide +kernel
theorem dX7_wipe_19 : decode cX7_wipe 19 = .ok (.iconst 0, 1) := by decide +kernel
theorem dX7_wipe_20 : decode cX7_wipe 20 = .ok (.putfield 121, 3) := by decide +kernel
theorem dX7_wipe_23 : decode cX7_wipe 23 = .ok (.aload_n 0, 1) := by decide +kernel
theorem dX7_wipe_24 : decode cX7_wipe 24 = .ok (.iload_n 1, 1) := by decide +kernel
theorem dX7_wipe_25 : decode cX7_wipe 25 = .ok (.invokevirtual 118, 3) := by decide +kernel
theorem dX7_wipe_28 : decode cX7_wipe 28 = .ok (.iload_n 3, 1) := by decide +kernel
theorem dX7_wipe_29 : decode cX7_wipe 29 = .ok (.ireturn, 1) := by decide +kernel
theorem dX7_undo_0 : decode cX7_undo 0 = .ok (.aload_n 0, 1) := by decide +kernel
theorem dX7_undo_1 : decode cX7_undo 1 = .ok (.iload_n 1, 1) := by decide +kernel
theorem dX7_undo_2 : decode cX7_undo 2 = .ok (.invokevirtual 103, 3) := by decide +kernel
theorem dX7_undo_5 : decode cX7_undo 5 = .ok (.astore_n 2, 1) := by decide +kernel
theorem dX7_undo_6 : decode cX7_undo 6 = .ok (.aload_n 2, 1) := by decide +kernel
theorem dX7_undo_7 : decode cX7_undo 7 = .ok (.ifnonnull 6, 3) := by decide +kernel
theorem dX7_undo_10 : decode cX7_undo 10 = .ok (.bipush (-2), 2) := by decide +kernel
theorem dX7_undo_12 : decode cX7_undo 12 = .ok (.ireturn, 1) := by decide +kernel
theorem dX7_undo_13 : decode cX7_undo 13 = .ok (.aload_n 2, 1) := by decide +kernel
theorem dX7_undo_14 : decode cX7_undo 14 = .ok (.getfield 121, 3) := by decide +kernel
theorem dX7_undo_17 : decode cX7_undo 17 = .ok (.ifCond .ne 6, 3) := by decide +kernel
theorem dX7_undo_20 : decode cX7_undo 20 = .ok (.bipush (-3), 2) := by decide +kernel
theorem dX7_undo_22 : decode cX7_undo 22 = .ok (.ireturn, 1) := by decide +kernel
theorem dX7_undo_23 : decode cX7_undo 23 = .ok (.aload_n 2, 1) := by decide +kernel
theorem dX7_undo_24 : decode cX7_undo 24 = .ok (.dup, 1) := by decide +kernel
theorem dX7_undo_25 : decode cX7_undo 25 = .ok (.getfield 121, 3) := by decide +kernel
theorem dX7_undo_28 : decode cX7_undo 28 = .ok (.iconst 1, 1) := by decide +kernel
theorem dX7_undo_29 : decode cX7_undo 29 = .ok (.isub, 1) := by decide +kernel
theorem dX7_undo_30 : decode cX7_undo 30 = .ok (.putfield 121, 3) := by decide +kernel
theorem dX7_undo_33 : decode cX7_undo 33 = .ok (.aload_n 0, 1) := by decide +kernel
theorem dX7_undo_34 : decode cX7_undo 34 = .ok (.iload_n 1, 1) := by decide +kernel
theorem dX7_undo_35 : decode cX7_undo 35 = .ok (.invokevirtual 118, 3) := by decide +kernel
theorem dX7_undo_38 : decode cX7_undo 38 = .ok (.aload_n 2, 1) := by decide +kernel
theorem dX7_undo_39 : decode cX7_undo 39 = .ok (.getfield 121, 3) := by decide +kernel
theorem dX7_undo_42 : decode cX7_undo 42 = .ok (.ireturn, 1) := by decide +kernel
theorem dX7_fault_0 : decode cX7_fault 0 = .ok (.iload_n 1, 1) := by decide +kernel
theorem dX7_fault_1 : decode cX7_fault 1 = .ok (.tableswitch 48 0 2 #[27, 35, 43], 27) := by decide +kernel
theorem dX7_fault_28 : decode cX7_fault 28 = .ok (.aload_n 0, 1) := by decide +kernel
theorem dX7_fault_29 : decode cX7_fault 29 = .ok (.getfield 31, 3) := by decide +kernel
theorem dX7_fault_32 : decode cX7_fault 32 = .ok (.getfield 124, 3) := by decide +kernel
theorem dX7_fault_35 : decode cX7_fault 35 = .ok (.ireturn, 1) := by decide +kernel
theorem dX7_fault_36 : decode cX7_fault 36 = .ok (.aload_n 0, 1) := by decide +kernel
theorem dX7_fault_37 : decode cX7_fault 37 = .ok (.getfield 37, 3) := by decide +kernel
theorem dX7_fault_40 : decode cX7_fault 40 = .ok (.getfield 124, 3) := by decide +kernel
theorem dX7_fault_43 : decode cX7_fault 43 = .ok (.ireturn, 1) := by decide +kernel
theorem dX7_fault_44 : decode cX7_fault 44 = .ok (.aload_n 0, 1) := by decide +kernel
theorem dX7_fault_45 : decode cX7_fault 45 = .ok (.getfield 92, 3) := by decide +kernel
theorem dX7_fault_48 : decode cX7_fault 48 = .ok (.ireturn, 1) := by decide +kernel
theorem dX7_fault_49 : decode cX7_fault 49 = .ok (.bipush (-2), 2) := by decide +kernel
theorem dX7_fault_51 : decode cX7_fault 51 = .ok (.ireturn, 1) := by decide +kernel
theorem dX7_car_0 : decode cX7_car 0 = .ok (.aload_n 0, 1) := by decide +kernel
theorem dX7_car_1 : decode cX7_car 1 = .ok (.iload_n 1, 1) := by decide +kernel
theorem dX7_car_2 : decode cX7_car 2 = .ok (.invokevirtual 127, 3) := by decide +kernel
theorem dX7_car_5 : decode cX7_car 5 = .ok (.ifCond .eq 12, 3) := by decide +kernel
theorem dX7_car_8 : decode cX7_car 8 = .ok (.iload_n 2, 1) := by decide +kernel
theorem dX7_car_9 : decode cX7_car 9 = .ok (.iconst 0, 1) := by decide +kernel
theorem dX7_car_10 : decode cX7_car 10 = .ok (.iconst 2, 1) := by decide +kernel
theorem dX7_car_11 : decode cX7_car 11 = .ok (.invokestatic 107, 3) := by decide +kernel
theorem dX7_car_14 : decode cX7_car 14 = .ok (.ifCond .ne 6, 3) := by decide +kernel
theorem dX7_car_17 : decode cX7_car 17 = .ok (.bipush (-2), 2) := by decide +kernel
theorem dX7_car_19 : decode cX7_car 19 = .ok (.ireturn, 1) := by decide +kernel
theorem dX7_car_20 : decode cX7_car 20 = .ok (.aload_n 0, 1) := by decide +kernel
theorem dX7_car_21 : decode cX7_car 21 = .ok (.getfield 31, 3) := by decide +kernel
theorem dX7_car_24 : decode cX7_car 24 = .ok (.iload_n 1, 1) := by decide +kernel
theorem dX7_car_25 : decode cX7_car 25 = .ok (.iload_n 2, 1) := by decide +kernel
theorem dX7_car_26 : decode cX7_car 26 = .ok (.invokevirtual 131, 3) := by decide +kernel
theorem dX7_car_29 : decode cX7_car 29 = .ok (.ireturn, 1) := by decide +kernel
theorem dX7_coming_0 : decode cX7_coming 0 = .ok (.iload_n 1, 1) := by decide +kernel
theorem dX7_coming_1 : decode cX7_coming 1 = .ok (.iconst 0, 1) := by decide +kernel
theorem dX7_coming_2 : decode cX7_coming 2 = .ok (.bipush 11, 2) := by decide +kernel
theorem dX7_coming_4 : decode cX7_coming 4 = .ok (.invokestatic 107, 3) := by decide +kernel
theorem dX7_coming_7 : decode cX7_coming 7 = .ok (.ifCond .eq 12, 3) := by decide +kernel
theorem dX7_coming_10 : decode cX7_coming 10 = .ok (.iload_n 2, 1) := by decide +kernel
theorem dX7_coming_11 : decode cX7_coming 11 = .ok (.iconst 0, 1) := by decide +kernel
theorem dX7_coming_12 : decode cX7_coming 12 = .ok (.iconst 2, 1) := by decide +kernel
theorem dX7_coming_13 : decode cX7_coming 13 = .ok (.invokestatic 107, 3) := by decide +kernel
theorem dX7_coming_16 : decode cX7_coming 16 = .ok (.ifCond .ne 6, 3) := by decide +kernel
theorem dX7_coming_19 : decode cX7_coming 19 = .ok (.bipush (-2), 2) := by decide +kernel
theorem dX7_coming_21 : decode cX7_coming 21 = .ok (.ireturn, 1) := by decide +kernel
theorem dX7_coming_22 : decode cX7_coming 22 = .ok (.iload_n 1, 1) := by decide +kernel
theorem dX7_coming_23 : decode cX7_coming 23 = .ok (.aload_n 0, 1) := by decide +kernel
theorem dX7_coming_24 : decode cX7_coming 24 = .ok (.getfield 37, 3) := by decide +kernel
theorem dX7_coming_27 : decode cX7_coming 27 = .ok (.getfield 135, 3) := by decide +kernel
theorem dX7_coming_30 : decode cX7_coming 30 = .ok (.if_icmp .ge 15, 3) := by decide +kernel
theorem dX7_coming_33 : decode cX7_coming 33 = .ok (.aload_n 0, 1) := by decide +kernel
theorem dX7_coming_34 : decode cX7_coming 34 = .ok (.getfield 37, 3) := by decide +kernel
theorem dX7_coming_37 : decode cX7_coming 37 = .ok (.iload_n 1, 1) := by decide +kernel
theorem dX7_coming_38 : decode cX7_coming 38 = .ok (.iload_n 2, 1) := by decide +kernel
theorem dX7_coming_39 : decode cX7_coming 39 = .ok (.invokevirtual 131, 3) := by decide +kernel
theorem dX7_coming_42 : decode cX7_coming 42 = .ok (.goto 4, 3) := by decide +kernel
theorem dX7_coming_45 : decode cX7_coming 45 = .ok (.iconst (-1), 1) := by decide +kernel
theorem dX7_coming_46 : decode cX7_coming 46 = .ok (.ireturn, 1) := by decide +kernel
theorem dX7_speed_0 : decode cX7_speed 0 = .ok (.iload_n 1, 1) := by decide +kernel
theorem dX7_speed_1 : decode cX7_speed 1 = .ok (.invokestatic 138, 3) := by decide +kernel
theorem dX7_speed_4 : decode cX7_speed 4 = .ok (.ifCond .eq 11, 3) := by decide +kernel
theorem dX7_speed_7 : decode cX7_speed 7 = .ok (.aload_n 0, 1) := by decide +kernel
theorem dX7_speed_8 : decode cX7_speed 8 = .ok (.iload_n 1, 1) := by decide +kernel
theorem dX7_speed_9 : decode cX7_speed 9 = .ok (.invokevirtual 141, 3) := by decide +kernel
theorem dX7_speed_12 : decode cX7_speed 12 = .ok (.goto 5, 3) := by decide +kernel
theorem dX7_speed_15 : decode cX7_speed 15 = .ok (.bipush (-2), 2) := by decide +kernel
theorem dX7_speed_17 : decode cX7_speed 17 = .ok (.ireturn, 1) := by decide +kernel
theorem dX7_event_0 : decode cX7_event 0 = .ok (.aload_n 0, 1) := by decide +kernel
theorem dX7_event_1 : decode cX7_event 1 = .ok (.getfield 43, 3) := by decide +kernel
theorem dX7_event_4 : decode cX7_event 4 = .ok (.iload_n 1, 1) := by decide +kernel
theorem dX7_event_5 : decode cX7_event 5 = .ok (.iload_n 2, 1) := by decide +kernel
theorem dX7_event_6 : decode cX7_event 6 = .ok (.iload_n 3, 1) := by decide +kernel
theorem dX7_event_7 : decode cX7_event 7 = .ok (.invokevirtual 145, 3) := by decide +kernel
theorem dX7_event_10 : decode cX7_event 10 = .ok (.ifCond .ne 6, 3) := by decide +kernel
theorem dX7_event_13 : decode cX7_event 13 = .ok (.bipush (-2), 2) := by decide +kernel
theorem dX7_event_15 : decode cX7_event 15 = .ok (.ireturn, 1) := by decide +kernel
theorem dX7_event_16 : decode cX7_event 16 = .ok (.aload_n 0, 1) := by decide +kernel
theorem dX7_event_17 : decode cX7_event 17 = .ok (.getfield 43, 3) := by decide +kernel
theorem dX7_event_20 : decode cX7_event 20 = .ok (.invokevirtual 148, 3) := by decide +kernel
theorem dX7_event_23 : decode cX7_event 23 = .ok (.ifCond .ne 6, 3) := by decide +kernel
theorem dX7_event_26 : decode cX7_event 26 = .ok (.bipush (-4), 2) := by decide +kernel
theorem dX7_event_28 : decode cX7_event 28 = .ok (.ireturn, 1) := by decide +kernel
theorem dX7_event_29 : decode cX7_event 29 = .ok (.aload_n 0, 1) := by decide +kernel
theorem dX7_event_30 : decode cX7_event 30 = .ok (.getfield 43, 3) := by decide +kernel
theorem dX7_event_33 : decode cX7_event 33 = .ok (.iload_n 1, 1) := by decide +kernel
theorem dX7_event_34 : decode cX7_event 34 = .ok (.iload_n 2, 1) := by decide +kernel
theorem dX7_event_35 : decode cX7_event 35 = .ok (.iload_n 3, 1) := by decide +kernel
theorem dX7_event_36 : decode cX7_event 36 = .ok (.invokevirtual 149, 3) := by decide +kernel
theorem dX7_event_39 : decode cX7_event 39 = .ok (.aload_n 0, 1) := by decide +kernel
theorem dX7_event_40 : decode cX7_event 40 = .ok (.iconst 1, 1) := by decide +kernel
theorem dX7_event_41 : decode cX7_event 41 = .ok (.putfield 96, 3) := by decide +kernel
theorem dX7_event_44 : decode cX7_event 44 = .ok (.aload_n 0, 1) := by decide +kernel
theorem dX7_event_45 : decode cX7_event 45 = .ok (.getfield 43, 3) := by decide +kernel
theorem dX7_event_48 : decode cX7_event 48 = .ok (.getfield 152, 3) := by decide +kernel
theorem dX7_event_51 : decode cX7_event 51 = .ok (.ireturn, 1) := by decide +kernel
theorem dX7_back_0 : decode cX7_back 0 = .ok (.aload_n 0, 1) := by decide +kernel
theorem dX7_back_1 : decode cX7_back 1 = .ok (.getfield 43, 3) := by decide +kernel
theorem dX7_back_4 : decode cX7_back 4 = .ok (.getfield 152, 3) := by decide +kernel
theorem dX7_back_7 : decode cX7_back 7 = .ok (.ifCond .ne 6, 3) := by decide +kernel
theorem dX7_back_10 : decode cX7_back 10 = .ok (.bipush (-3), 2) := by decide +kernel
theorem dX7_back_12 : decode cX7_back 12 = .ok (.ireturn, 1) := by decide +kernel
theorem dX7_back_13 : decode cX7_back 13 = .ok (.aload_n 0, 1) := by decide +kernel
theorem dX7_back_14 : decode cX7_back 14 = .ok (.getfield 43, 3) := by decide +kernel
theorem dX7_back_17 : decode cX7_back 17 = .ok (.dup, 1) := by decide +kernel
theorem dX7_back_18 : decode cX7_back 18 = .ok (.getfield 152, 3) := by decide +kernel
theorem dX7_back_21 : decode cX7_back 21 = .ok (.iconst 1, 1) := by decide +kernel
theorem dX7_back_22 : decode cX7_back 22 = .ok (.isub, 1) := by decide +kernel
theorem dX7_back_23 : decode cX7_back 23 = .ok (.putfield 152, 3) := by decide +kernel
theorem dX7_back_26 : decode cX7_back 26 = .ok (.aload_n 0, 1) := by decide +kernel
theorem dX7_back_27 : decode cX7_back 27 = .ok (.iconst 1, 1) := by decide +kernel
theorem dX7_back_28 : decode cX7_back 28 = .ok (.putfield 96, 3) := by decide +kernel
theorem dX7_back_31 : decode cX7_back 31 = .ok (.aload_n 0, 1) := by decide +kernel
theorem dX7_back_32 : decode cX7_back 32 = .ok (.getfield 43, 3) := by decide +kernel
theorem dX7_back_35 : decode cX7_back 35 = .ok (.getfield 152, 3) := by decide +kernel
theorem dX7_back_38 : decode cX7_back 38 = .ok (.ireturn, 1) := by decide +kernel
theorem dX7_read_0 : decode cX7_read 0 = .ok (.aload_n 0, 1) := by decide +kernel
theorem dX7_read_1 : decode cX7_read 1 = .ok (.iload_n 1, 1) := by decide +kernel
theorem dX7_read_2 : decode cX7_read 2 = .ok (.invokevirtual 153, 3) := by decide +kernel
theorem dX7_read_5 : decode cX7_read 5 = .ok (.astore_n 2, 1) := by decide +kernel
theorem dX7_read_6 : decode cX7_read 6 = .ok (.aload_n 2, 1) := by decide +kernel
theorem dX7_read_7 : decode cX7_read 7 = .ok (.ifnonnull 6, 3) := by decide +kernel
theorem dX7_read_10 : decode cX7_read 10 = .ok (.bipush (-2), 2) := by decide +kernel
theorem dX7_read_12 : decode cX7_read 12 = .ok (.ireturn, 1) := by decide +kernel
theorem dX7_read_13 : decode cX7_read 13 = .ok (.aload_n 2, 1) := by decide +kernel
theorem dX7_read_14 : decode cX7_read 14 = .ok (.getfield 157, 3) := by decide +kernel
theorem dX7_read_17 : decode cX7_read 17 = .ok (.ifCond .eq 9, 3) := by decide +kernel
theorem dX7_read_20 : decode cX7_read 20 = .ok (.aload_n 0, 1) := by decide +kernel
theorem dX7_read_21 : decode cX7_read 21 = .ok (.iconst 1, 1) := by decide +kernel
theorem dX7_read_22 : decode cX7_read 22 = .ok (.invokevirtual 160, 3) := by decide +kernel
theorem dX7_read_25 : decode cX7_read 25 = .ok (.ireturn, 1) := by decide +kernel
theorem dX7_read_26 : decode cX7_read 26 = .ok (.iconst 0, 1) := by decide +kernel
theorem dX7_read_27 : decode cX7_read 27 = .ok (.istore_n 3, 1) := by decide +kernel
theorem dX7_read_28 : decode cX7_read 28 = .ok (.iconst 0, 1) := by decide +kernel
theorem dX7_read_29 : decode cX7_read 29 = .ok (.istore 4, 2) := by decide +kernel
theorem dX7_read_31 : decode cX7_read 31 = .ok (.iload 4, 2) := by decide +kernel
theorem dX7_read_33 : decode cX7_read 33 = .ok (.iconst 2, 1) := by decide +kernel
theorem dX7_read_34 : decode cX7_read 34 = .ok (.iadd, 1) := by decide +kernel
theorem dX7_read_35 : decode cX7_read 35 = .ok (.aload_n 2, 1) := by decide +kernel
theorem dX7_read_36 : decode cX7_read 36 = .ok (.getfield 163, 3) := by decide +kernel
theorem dX7_read_39 : decode cX7_read 39 = .ok (.if_icmp .ge 47, 3) := by decide +kernel
theorem dX7_read_42 : decode cX7_read 42 = .ok (.aload_n 0, 1) := by decide +kernel
theorem dX7_read_43 : decode cX7_read 43 = .ok (.aload_n 2, 1) := by decide +kernel
theorem dX7_read_44 : decode cX7_read 44 = .ok (.getfield 164, 3) := by decide +kernel
theorem dX7_read_47 : decode cX7_read 47 = .ok (.iload 4, 2) := by decide +kernel
theorem dX7_read_49 : decode cX7_read 49 = .ok (.iaload, 1) := by decide +kernel
theorem dX7_read_50 : decode cX7_read 50 = .ok (.aload_n 2, 1) := by decide +kernel
theorem dX7_read_51 : decode cX7_read 51 = .ok (.getfield 164, 3) := by decide +kernel
theorem dX7_read_54 : decode cX7_read 54 = .ok (.iload 4, 2) := by decide +kernel
theorem dX7_read_56 : decode cX7_read 56 = .ok (.iconst 1, 1) := by decide +kernel
theorem dX7_read_57 : decode cX7_read 57 = .ok (.iadd, 1) := by decide +kernel
theorem dX7_read_58 : decode cX7_read 58 = .ok (.iaload, 1) := by decide +kernel
theorem dX7_read_59 : decode cX7_read 59 = .ok (.aload_n 2, 1) := by decide +kernel
theorem dX7_read_60 : decode cX7_read 60 = .ok (.getfield 164, 3) := by decide +kernel
theorem dX7_read_63 : decode cX7_read 63 = .ok (.iload 4, 2) := by decide +kernel
theorem dX7_read_65 : decode cX7_read 65 = .ok (.iconst 2, 1) := by decide +kernel
theorem dX7_read_66 : decode cX7_read 66 = .ok (.iadd, 1) := by decide +kernel
theorem dX7_read_67 : decode cX7_read 67 = .ok (.iaload, 1) := by decide +kernel
theorem dX7_read_68 : decode cX7_read 68 = .ok (.invokevirtual 168, 3) := by decide +kernel
theorem dX7_read_71 : decode cX7_read 71 = .ok (.ifCond .ge 6, 3) := by decide +kernel
theorem dX7_read_74 : decode cX7_read 74 = .ok (.goto 12, 3) := by decide +kernel
theorem dX7_read_77 : decode cX7_read 77 = .ok (.iinc 3 1, 3) := by decide +kernel
theorem dX7_read_80 : decode cX7_read 80 = .ok (.iinc 4 3, 3) := by decide +kernel
theorem dX7_read_83 : decode cX7_read 83 = .ok (.goto (-52), 3) := by decide +kernel
theorem dX7_read_86 : decode cX7_read 86 = .ok (.iload_n 3, 1) := by decide +kernel
theorem dX7_read_87 : decode cX7_read 87 = .ok (.ireturn, 1) := by decide +kernel
theorem dX7_at_0 : decode cX7_at 0 = .ok (.iload_n 1, 1) := by decide +kernel
theorem dX7_at_1 : decode cX7_at 1 = .ok (.invokestatic 138, 3) := by decide +kernel
theorem dX7_at_4 : decode cX7_at 4 = .ok (.ifCond .eq 20, 3) := by decide +kernel
theorem dX7_at_7 : decode cX7_at 7 = .ok (.aload_n 0, 1) := by decide +kernel
theorem dX7_at_8 : decode cX7_at 8 = .ok (.iload_n 2, 1) := by decide +kernel
theorem dX7_at_9 : decode cX7_at 9 = .ok (.invokevirtual 127, 3) := by decide +kernel
theorem dX7_at_12 : decode cX7_at 12 = .ok (.ifCond .eq 12, 3) := by decide +kernel
theorem dX7_at_15 : decode cX7_at 15 = .ok (.iload_n 3, 1) := by decide +kernel
theorem dX7_at_16 : decode cX7_at 16 = .ok (.iconst 0, 1) := by decide +kernel
theorem dX7_at_17 : decode cX7_at 17 = .ok (.iconst 1, 1) := by decide +kernel
theorem dX7_at_18 : decode cX7_at 18 = .ok (.invokestatic 107, 3) := by decide +kernel
theorem dX7_at_21 : decode cX7_at 21 = .ok (.ifCond .ne 6, 3) := by decide +kernel
theorem dX7_at_24 : decode cX7_at 24 = .ok (.bipush (-2), 2) := by decide +kernel
theorem dX7_at_26 : decode cX7_at 26 = .ok (.ireturn, 1) := by decide +kernel
theorem dX7_at_27 : decode cX7_at 27 = .ok (.aload_n 0, 1) := by decide +kernel
theorem dX7_at_28 : decode cX7_at 28 = .ok (.invokevirtual 172, 3) := by decide +kernel
theorem dX7_at_31 : decode cX7_at 31 = .ok (.astore 4, 2) := by decide +kernel
theorem dX7_at_33 : decode cX7_at 33 = .ok (.iload_n 3, 1) := by decide +kernel
theorem dX7_at_34 : decode cX7_at 34 = .ok (.ifCond .ne 15, 3) := by decide +kernel
theorem dX7_at_37 : decode cX7_at 37 = .ok (.aload 4, 2) := by decide +kernel
theorem dX7_at_39 : decode cX7_at 39 = .ok (.getfield 176, 3) := by decide +kernel
theorem dX7_at_42 : decode cX7_at 42 = .ok (.iload_n 2, 1) := by decide +kernel
theorem dX7_at_43 : decode cX7_at 43 = .ok (.aaload, 1) := by decide +kernel
theorem dX7_at_44 : decode cX7_at 44 = .ok (.iload_n 1, 1) := by decide +kernel
theorem dX7_at_45 : decode cX7_at 45 = .ok (.iaload, 1) := by decide +kernel
theorem dX7_at_46 : decode cX7_at 46 = .ok (.goto 12, 3) := by decide +kernel
theorem dX7_at_49 : decode cX7_at 49 = .ok (.aload 4, 2) := by decide +kernel
theorem dX7_at_51 : decode cX7_at 51 = .ok (.getfield 179, 3) := by decide +kernel
theorem dX7_at_54 : decode cX7_at 54 = .ok (.iload_n 2, 1) := by decide +kernel
theorem dX7_at_55 : decode cX7_at 55 = .ok (.aaload, 1) := by decide +kernel
theorem dX7_at_56 : decode cX7_at 56 = .ok (.iload_n 1, 1) := by decide +kernel
theorem dX7_at_57 : decode cX7_at 57 = .ok (.iaload, 1) := by decide +kernel
theorem dX7_at_58 : decode cX7_at 58 = .ok (.ireturn, 1) := by decide +kernel
theorem dX7_waits_0 : decode cX7_waits 0 = .ok (.iload_n 1, 1) := by decide +kernel
theorem dX7_waits_1 : decode cX7_waits 1 = .ok (.invokestatic 138, 3) := by decide +kernel
theorem dX7_waits_4 : decode cX7_waits 4 = .ok (.ifCond .eq 12, 3) := by decide +kernel
theorem dX7_waits_7 : decode cX7_waits 7 = .ok (.iload_n 2, 1) := by decide +kernel
theorem dX7_waits_8 : decode cX7_waits 8 = .ok (.iconst 0, 1) := by decide +kernel
theorem dX7_waits_9 : decode cX7_waits 9 = .ok (.iconst 3, 1) := by decide +kernel
theorem dX7_waits_10 : decode cX7_waits 10 = .ok (.invokestatic 107, 3) := by decide +kernel
theorem dX7_waits_13 : decode cX7_waits 13 = .ok (.ifCond .ne 6, 3) := by decide +kernel
theorem dX7_waits_16 : decode cX7_waits 16 = .ok (.bipush (-2), 2) := by decide +kernel
theorem dX7_waits_18 : decode cX7_waits 18 = .ok (.ireturn, 1) := by decide +kernel
theorem dX7_waits_19 : decode cX7_waits 19 = .ok (.aload_n 0, 1) := by decide +kernel
theorem dX7_waits_20 : decode cX7_waits 20 = .ok (.invokevirtual 172, 3) := by decide +kernel
theorem dX7_waits_23 : decode cX7_waits 23 = .ok (.astore_n 3, 1) := by decide +kernel
theorem dX7_waits_24 : decode cX7_waits 24 = .ok (.iload_n 2, 1) := by decide +kernel
theorem dX7_waits_25 : decode cX7_waits 25 = .ok (.tableswitch 51 0 2 #[27, 36, 45], 27) := by decide +kernel
theorem dX7_waits_52 : decode cX7_waits 52 = .ok (.aload_n 3, 1) := by decide +kernel
theorem dX7_waits_53 : decode cX7_waits 53 = .ok (.getfield 182, 3) := by decide +kernel
theorem dX7_waits_56 : decode cX7_waits 56 = .ok (.iconst 0, 1) := by decide +kernel
theorem dX7_waits_57 : decode cX7_waits 57 = .ok (.aaload, 1) := by decide +kernel
theorem dX7_waits_58 : decode cX7_waits 58 = .ok (.iload_n 1, 1) := by decide +kernel
theorem dX7_waits_59 : decode cX7_waits 59 = .ok (.iaload, 1) := by decide +kernel
theorem dX7_waits_60 : decode cX7_waits 60 = .ok (.ireturn, 1) := by decide +kernel
theorem dX7_waits_61 : decode cX7_waits 61 = .ok (.aload_n 3, 1) := by decide +kernel
theorem dX7_waits_62 : decode cX7_waits 62 = .ok (.getfield 182, 3) := by decide +kernel
theorem dX7_waits_65 : decode cX7_waits 65 = .ok (.iconst 1, 1) := by decide +kernel
theorem dX7_waits_66 : decode cX7_waits 66 = .ok (.aaload, 1) := by decide +kernel
theorem dX7_waits_67 : decode cX7_waits 67 = .ok (.iload_n 1, 1) := by decide +kernel
theorem dX7_waits_68 : decode cX7_waits 68 = .ok (.iaload, 1) := by decide +kernel
theorem dX7_waits_69 : decode cX7_waits 69 = .ok (.ireturn, 1) := by decide +kernel
theorem dX7_waits_70 : decode cX7_waits 70 = .ok (.aload_n 3, 1) := by decide +kernel
theorem dX7_waits_71 : decode cX7_waits 71 = .ok (.iload_n 1, 1) := by decide +kernel
theorem dX7_waits_72 : decode cX7_waits 72 = .ok (.invokevirtual 185, 3) := by decide +kernel
theorem dX7_waits_75 : decode cX7_waits 75 = .ok (.ireturn, 1) := by decide +kernel
theorem dX7_waits_76 : decode cX7_waits 76 = .ok (.aload_n 3, 1) := by decide +kernel
theorem dX7_waits_77 : decode cX7_waits 77 = .ok (.getfield 188, 3) := by decide +kernel
theorem dX7_waits_80 : decode cX7_waits 80 = .ok (.iload_n 1, 1) := by decide +kernel
theorem dX7_waits_81 : decode cX7_waits 81 = .ok (.iaload, 1) := by decide +kernel
theorem dX7_waits_82 : decode cX7_waits 82 = .ok (.ireturn, 1) := by decide +kernel
theorem dX7_over_0 : decode cX7_over 0 = .ok (.iload_n 1, 1) := by decide +kernel
theorem dX7_over_1 : decode cX7_over 1 = .ok (.invokestatic 191, 3) := by decide +kernel
theorem dX7_over_4 : decode cX7_over 4 = .ok (.ifCond .eq 15, 3) := by decide +kernel
theorem dX7_over_7 : decode cX7_over 7 = .ok (.aload_n 0, 1) := by decide +kernel
theorem dX7_over_8 : decode cX7_over 8 = .ok (.invokevirtual 172, 3) := by decide +kernel
theorem dX7_over_11 : decode cX7_over 11 = .ok (.getfield 194, 3) := by decide +kernel
theorem dX7_over_14 : decode cX7_over 14 = .ok (.iload_n 1, 1) := by decide +kernel
theorem dX7_over_15 : decode cX7_over 15 = .ok (.iaload, 1) := by decide +kernel
theorem dX7_over_16 : decode cX7_over 16 = .ok (.goto 5, 3) := by decide +kernel
theorem dX7_over_19 : decode cX7_over 19 = .ok (.bipush (-2), 2) := by decide +kernel
theorem dX7_over_21 : decode cX7_over 21 = .ok (.ireturn, 1) := by decide +kernel
theorem dX7_sum_0 : decode cX7_sum 0 = .ok (.aload_n 0, 1) := by decide +kernel
theorem dX7_sum_1 : decode cX7_sum 1 = .ok (.invokevirtual 172, 3) := by decide +kernel
theorem dX7_sum_4 : decode cX7_sum 4 = .ok (.invokevirtual 197, 3) := by decide +kernel
theorem dX7_sum_7 : decode cX7_sum 7 = .ok (.ireturn, 1) := by decide +kernel
theorem dX7_crowd_0 : decode cX7_crowd 0 = .ok (.iload_n 1, 1) := by decide +kernel
theorem dX7_crowd_1 : decode cX7_crowd 1 = .ok (.invokestatic 191, 3) := by decide +kernel
theorem dX7_crowd_4 : decode cX7_crowd 4 = .ok (.ifCond .eq 12, 3) := by decide +kernel
theorem dX7_crowd_7 : decode cX7_crowd 7 = .ok (.iload_n 2, 1) := by decide +kernel
theorem dX7_crowd_8 : decode cX7_crowd 8 = .ok (.iconst 0, 1) := by decide +kernel
theorem dX7_crowd_9 : decode cX7_crowd 9 = .ok (.iconst 1, 1) := by decide +kernel
theorem dX7_crowd_10 : decode cX7_crowd 10 = .ok (.invokestatic 107, 3) := by decide +kernel
theorem dX7_crowd_13 : decode cX7_crowd 13 = .ok (.ifCond .ne 6, 3) := by decide +kernel
theorem dX7_crowd_16 : decode cX7_crowd 16 = .ok (.bipush (-2), 2) := by decide +kernel
theorem dX7_crowd_18 : decode cX7_crowd 18 = .ok (.ireturn, 1) := by decide +kernel
theorem dX7_crowd_19 : decode cX7_crowd 19 = .ok (.aload_n 0, 1) := by decide +kernel
theorem dX7_crowd_20 : decode cX7_crowd 20 = .ok (.invokevirtual 172, 3) := by decide +kernel
theorem dX7_crowd_23 : decode cX7_crowd 23 = .ok (.getfield 182, 3) := by decide +kernel
theorem dX7_crowd_26 : decode cX7_crowd 26 = .ok (.iload_n 1, 1) := by decide +kernel
theorem dX7_crowd_27 : decode cX7_crowd 27 = .ok (.aaload, 1) := by decide +kernel
theorem dX7_crowd_28 : decode cX7_crowd 28 = .ok (.astore_n 3, 1) := by decide +kernel
theorem dX7_crowd_29 : decode cX7_crowd 29 = .ok (.iconst 0, 1) := by decide +kernel
theorem dX7_crowd_30 : decode cX7_crowd 30 = .ok (.istore 4, 2) := by decide +kernel
theorem dX7_crowd_32 : decode cX7_crowd 32 = .ok (.iconst 1, 1) := by decide +kernel
theorem dX7_crowd_33 : decode cX7_crowd 33 = .ok (.istore 5, 2) := by decide +kernel
theorem dX7_crowd_35 : decode cX7_crowd 35 = .ok (.iload 5, 2) := by decide +kernel
theorem dX7_crowd_37 : decode cX7_crowd 37 = .ok (.bipush 24, 2) := by decide +kernel
theorem dX7_crowd_39 : decode cX7_crowd 39 = .ok (.if_icmp .ge 24, 3) := by decide +kernel
theorem dX7_crowd_42 : decode cX7_crowd 42 = .ok (.aload_n 3, 1) := by decide +kernel
theorem dX7_crowd_43 : decode cX7_crowd 43 = .ok (.iload 5, 2) := by decide +kernel
theorem dX7_crowd_45 : decode cX7_crowd 45 = .ok (.iaload, 1) := by decide +kernel
theorem dX7_crowd_46 : decode cX7_crowd 46 = .ok (.aload_n 3, 1) := by decide +kernel
theorem dX7_crowd_47 : decode cX7_crowd 47 = .ok (.iload 4, 2) := by decide +kernel
theorem dX7_crowd_49 : decode cX7_crowd 49 = .ok (.iaload, 1) := by decide +kernel
theorem dX7_crowd_50 : decode cX7_crowd 50 = .ok (.if_icmp .le 7, 3) := by decide +kernel
theorem dX7_crowd_53 : decode cX7_crowd 53 = .ok (.iload 5, 2) := by decide +kernel
theorem dX7_crowd_55 : decode cX7_crowd 55 = .ok (.istore 4, 2) := by decide +kernel
theorem dX7_crowd_57 : decode cX7_crowd 57 = .ok (.iinc 5 1, 3) := by decide +kernel
theorem dX7_crowd_60 : decode cX7_crowd 60 = .ok (.goto (-25), 3) := by decide +kernel
theorem dX7_crowd_63 : decode cX7_crowd 63 = .ok (.iload_n 2, 1) := by decide +kernel
theorem dX7_crowd_64 : decode cX7_crowd 64 = .ok (.ifCond .ne 8, 3) := by decide +kernel
theorem dX7_crowd_67 : decode cX7_crowd 67 = .ok (.iload 4, 2) := by decide +kernel
theorem dX7_crowd_69 : decode cX7_crowd 69 = .ok (.goto 7, 3) := by decide +kernel
theorem dX7_crowd_72 : decode cX7_crowd 72 = .ok (.aload_n 3, 1) := by decide +kernel
theorem dX7_crowd_73 : decode cX7_crowd 73 = .ok (.iload 4, 2) := by decide +kernel
theorem dX7_crowd_75 : decode cX7_crowd 75 = .ok (.iaload, 1) := by decide +kernel
theorem dX7_crowd_76 : decode cX7_crowd 76 = .ok (.ireturn, 1) := by decide +kernel
theorem dX7_first_0 : decode cX7_first 0 = .ok (.iload_n 1, 1) := by decide +kernel
theorem dX7_first_1 : decode cX7_first 1 = .ok (.lookupswitch 43 #[(0, 27), (1, 35)], 27) := by decide +kernel
theorem dX7_first_28 : decode cX7_first 28 = .ok (.aload_n 0, 1) := by decide +kernel
theorem dX7_first_29 : decode cX7_first 29 = .ok (.invokevirtual 172, 3) := by decide +kernel
theorem dX7_first_32 : decode cX7_first 32 = .ok (.getfield 201, 3) := by decide +kernel
theorem dX7_first_35 : decode cX7_first 35 = .ok (.ireturn, 1) := by decide +kernel
theorem dX7_first_36 : decode cX7_first 36 = .ok (.aload_n 0, 1) := by decide +kernel
theorem dX7_first_37 : decode cX7_first 37 = .ok (.invokevirtual 172, 3) := by decide +kernel
theorem dX7_first_40 : decode cX7_first 40 = .ok (.getfield 204, 3) := by decide +kernel
theorem dX7_first_43 : decode cX7_first 43 = .ok (.ireturn, 1) := by decide +kernel
theorem dX7_first_44 : decode cX7_first 44 = .ok (.bipush (-2), 2) := by decide +kernel
theorem dX7_first_46 : decode cX7_first 46 = .ok (.ireturn, 1) := by decide +kernel
theorem dX7_carried_0 : decode cX7_carried 0 = .ok (.aload_n 0, 1) := by decide +kernel
theorem dX7_carried_1 : decode cX7_carried 1 = .ok (.iload_n 1, 1) := by decide +kernel
theorem dX7_carried_2 : decode cX7_carried 2 = .ok (.invokevirtual 127, 3) := by decide +kernel
theorem dX7_carried_5 : decode cX7_carried 5 = .ok (.ifCond .eq 15, 3) := by decide +kernel
theorem dX7_carried_8 : decode cX7_carried 8 = .ok (.aload_n 0, 1) := by decide +kernel
theorem dX7_carried_9 : decode cX7_carried 9 = .ok (.invokevirtual 172, 3) := by decide +kernel
theorem dX7_carried_12 : decode cX7_carried 12 = .ok (.getfield 207, 3) := by decide +kernel
theorem dX7_carried_15 : decode cX7_carried 15 = .ok (.iload_n 1, 1) := by decide +kernel
theorem dX7_carried_16 : decode cX7_carried 16 = .ok (.iaload, 1) := by decide +kernel
theorem dX7_carried_17 : decode cX7_carried 17 = .ok (.goto 5, 3) := by decide +kernel
theorem dX7_carried_20 : decode cX7_carried 20 = .ok (.bipush (-2), 2) := by decide +kernel
theorem dX7_carried_22 : decode cX7_carried 22 = .ok (.ireturn, 1) := by decide +kernel
theorem dX7_idle_0 : decode cX7_idle 0 = .ok (.iconst 1, 1) := by decide +kernel
theorem dX7_idle_1 : decode cX7_idle 1 = .ok (.aload_n 0, 1) := by decide +kernel
theorem dX7_idle_2 : decode cX7_idle 2 = .ok (.getfield 31, 3) := by decide +kernel
theorem dX7_idle_5 : decode cX7_idle 5 = .ok (.getfield 135, 3) := by decide +kernel
theorem dX7_idle_8 : decode cX7_idle 8 = .ok (.ishl, 1) := by decide +kernel
theorem dX7_idle_9 : decode cX7_idle 9 = .ok (.iconst 1, 1) := by decide +kernel
theorem dX7_idle_10 : decode cX7_idle 10 = .ok (.isub, 1) := by decide +kernel
theorem dX7_idle_11 : decode cX7_idle 11 = .ok (.aload_n 0, 1) := by decide +kernel
theorem dX7_idle_12 : decode cX7_idle 12 = .ok (.invokevirtual 172, 3) := by decide +kernel
theorem dX7_idle_15 : decode cX7_idle 15 = .ok (.getfield 210, 3) := by decide +kernel
theorem dX7_idle_18 : decode cX7_idle 18 = .ok (.iconst (-1), 1) := by decide +kernel
theorem dX7_idle_19 : decode cX7_idle 19 = .ok (.ixor, 1) := by decide +kernel
theorem dX7_idle_20 : decode cX7_idle 20 = .ok (.iand, 1) := by decide +kernel
theorem dX7_idle_21 : decode cX7_idle 21 = .ok (.ireturn, 1) := by decide +kernel
theorem dX7_left_0 : decode cX7_left 0 = .ok (.aload_n 0, 1) := by decide +kernel
theorem dX7_left_1 : decode cX7_left 1 = .ok (.aload_n 0, 1) := by decide +kernel
theorem dX7_left_2 : decode cX7_left 2 = .ok (.invokevirtual 172, 3) := by decide +kernel
theorem dX7_left_5 : decode cX7_left 5 = .ok (.invokevirtual 213, 3) := by decide +kernel
theorem dX7_left_8 : decode cX7_left 8 = .ok (.ireturn, 1) := by decide +kernel
theorem dX7_hang_0 : decode cX7_hang 0 = .ok (.aload_n 0, 1) := by decide +kernel
theorem dX7_hang_1 : decode cX7_hang 1 = .ok (.iload_n 1, 1) := by decide +kernel
theorem dX7_hang_2 : decode cX7_hang 2 = .ok (.invokevirtual 127, 3) := by decide +kernel
theorem dX7_hang_5 : decode cX7_hang 5 = .ok (.ifCond .eq 12, 3) := by decide +kernel
theorem dX7_hang_8 : decode cX7_hang 8 = .ok (.iload_n 2, 1) := by decide +kernel
theorem dX7_hang_9 : decode cX7_hang 9 = .ok (.iconst 0, 1) := by decide +kernel
theorem dX7_hang_10 : decode cX7_hang 10 = .ok (.iconst 1, 1) := by decide +kernel
theorem dX7_hang_11 : decode cX7_hang 11 = .ok (.invokestatic 107, 3) := by decide +kernel
theorem dX7_hang_14 : decode cX7_hang 14 = .ok (.ifCond .ne 6, 3) := by decide +kernel
theorem dX7_hang_17 : decode cX7_hang 17 = .ok (.bipush (-2), 2) := by decide +kernel
theorem dX7_hang_19 : decode cX7_hang 19 = .ok (.ireturn, 1) := by decide +kernel
theorem dX7_hang_20 : decode cX7_hang 20 = .ok (.aload_n 0, 1) := by decide +kernel
theorem dX7_hang_21 : decode cX7_hang 21 = .ok (.invokevirtual 217, 3) := by decide +kernel
theorem dX7_hang_24 : decode cX7_hang 24 = .ok (.iconst (-1), 1) := by decide +kernel
theorem dX7_hang_25 : decode cX7_hang 25 = .ok (.istore_n 3, 1) := by decide +kernel
theorem dX7_hang_26 : decode cX7_hang 26 = .ok (.iconst (-1), 1) := by decide +kernel
theorem dX7_hang_27 : decode cX7_hang 27 = .ok (.istore 4, 2) := by decide +kernel
theorem dX7_hang_29 : decode cX7_hang 29 = .ok (.iconst 0, 1) := by decide +kernel
theorem dX7_hang_30 : decode cX7_hang 30 = .ok (.istore 5, 2) := by decide +kernel
theorem dX7_hang_32 : decode cX7_hang 32 = .ok (.iload 5, 2) := by decide +kernel
theorem dX7_hang_34 : decode cX7_hang 34 = .ok (.bipush 24, 2) := by decide +kernel
theorem dX7_hang_36 : decode cX7_hang 36 = .ok (.if_icmp .ge 70, 3) := by decide +kernel
theorem dX7_hang_39 : decode cX7_hang 39 = .ok (.aload_n 0, 1) := by decide +kernel
theorem dX7_hang_40 : decode cX7_hang 40 = .ok (.iload 5, 2) := by decide +kernel
theorem dX7_hang_42 : decode cX7_hang 42 = .ok (.iload_n 1, 1) := by decide +kernel
theorem dX7_hang_43 : decode cX7_hang 43 = .ok (.invokevirtual 220, 3) := by decide +kernel
theorem dX7_hang_46 : decode cX7_hang 46 = .ok (.ifCond .eq 6, 3) := by decide +kernel
theorem dX7_hang_49 : decode cX7_hang 49 = .ok (.goto 51, 3) := by decide +kernel
theorem dX7_hang_52 : decode cX7_hang 52 = .ok (.aload_n 0, 1) := by decide +kernel
theorem dX7_hang_53 : decode cX7_hang 53 = .ok (.getfield 73, 3) := by decide +kernel
theorem dX7_hang_56 : decode cX7_hang 56 = .ok (.getfield 224, 3) := by decide +kernel
theorem dX7_hang_59 : decode cX7_hang 59 = .ok (.iload_n 1, 1) := by decide +kernel
theorem dX7_hang_60 : decode cX7_hang 60 = .ok (.iload 5, 2) := by decide +kernel
theorem dX7_hang_62 : decode cX7_hang 62 = .ok (.iastore, 1) := by decide +kernel
theorem dX7_hang_63 : decode cX7_hang 63 = .ok (.aload_n 0, 1) := by decide +kernel
theorem dX7_hang_64 : decode cX7_hang 64 = .ok (.getfield 84, 3) := by decide +kernel
theorem dX7_hang_67 : decode cX7_hang 67 = .ok (.aload_n 0, 1) := by decide +kernel
theorem dX7_hang_68 : decode cX7_hang 68 = .ok (.getfield 73, 3) := by decide +kernel
theorem dX7_hang_71 : decode cX7_hang 71 = .ok (.bipush 23, 2) := by decide +kernel
theorem dX7_hang_73 : decode cX7_hang 73 = .ok (.invokevirtual 227, 3) := by decide +kernel
theorem dX7_hang_76 : decode cX7_hang 76 = .ok (.aload_n 0, 1) := by decide +kernel
theorem dX7_hang_77 : decode cX7_hang 77 = .ok (.getfield 84, 3) := by decide +kernel
theorem dX7_hang_80 : decode cX7_hang 80 = .ok (.invokevirtual 231, 3) := by decide +kernel
theorem dX7_hang_83 : decode cX7_hang 83 = .ok (.iload 4, 2) := by decide +kernel
theorem dX7_hang_85 : decode cX7_hang 85 = .ok (.if_icmp .le 15, 3) := by decide +kernel
theorem dX7_hang_88 : decode cX7_hang 88 = .ok (.iload 5, 2) := by decide +kernel
theorem dX7_hang_90 : decode cX7_hang 90 = .ok (.istore_n 3, 1) := by decide +kernel
theorem dX7_hang_91 : decode cX7_hang 91 = .ok (.aload_n 0, 1) := by decide +kernel
theorem dX7_hang_92 : decode cX7_hang 92 = .ok (.getfield 84, 3) := by decide +kernel
theorem dX7_hang_95 : decode cX7_hang 95 = .ok (.invokevirtual 231, 3) := by decide +kernel
theorem dX7_hang_98 : decode cX7_hang 98 = .ok (.istore 4, 2) := by decide +kernel
theorem dX7_hang_100 : decode cX7_hang 100 = .ok (.iinc 5 1, 3) := by decide +kernel
theorem dX7_hang_103 : decode cX7_hang 103 = .ok (.goto (-71), 3) := by decide +kernel
theorem dX7_hang_106 : decode cX7_hang 106 = .ok (.iload_n 2, 1) := by decide +kernel
theorem dX7_hang_107 : decode cX7_hang 107 = .ok (.ifCond .ne 7, 3) := by decide +kernel
theorem dX7_hang_110 : decode cX7_hang 110 = .ok (.iload_n 3, 1) := by decide +kernel
theorem dX7_hang_111 : decode cX7_hang 111 = .ok (.goto 5, 3) := by decide +kernel
theorem dX7_hang_114 : decode cX7_hang 114 = .ok (.iload 4, 2) := by decide +kernel
theorem dX7_hang_116 : decode cX7_hang 116 = .ok (.ireturn, 1) := by decide +kernel
theorem dX7_pace_0 : decode cX7_pace 0 = .ok (.iload_n 1, 1) := by decide +kernel
theorem dX7_pace_1 : decode cX7_pace 1 = .ok (.invokestatic 138, 3) := by decide +kernel
theorem dX7_pace_4 : decode cX7_pace 4 = .ok (.ifCond .eq 12, 3) := by decide +kernel
theorem dX7_pace_7 : decode cX7_pace 7 = .ok (.iload_n 2, 1) := by decide +kernel
theorem dX7_pace_8 : decode cX7_pace 8 = .ok (.iconst 0, 1) := by decide +kernel
theorem dX7_pace_9 : decode cX7_pace 9 = .ok (.iconst 1, 1) := by decide +kernel
theorem dX7_pace_10 : decode cX7_pace 10 = .ok (.invokestatic 107, 3) := by decide +kernel
theorem dX7_pace_13 : decode cX7_pace 13 = .ok (.ifCond .ne 6, 3) := by decide +kernel
theorem dX7_pace_16 : decode cX7_pace 16 = .ok (.bipush (-2), 2) := by decide +kernel
theorem dX7_pace_18 : decode cX7_pace 18 = .ok (.ireturn, 1) := by decide +kernel
theorem dX7_pace_19 : decode cX7_pace 19 = .ok (.aload_n 0, 1) := by decide +kernel
theorem dX7_pace_20 : decode cX7_pace 20 = .ok (.invokevirtual 217, 3) := by decide +kernel
theorem dX7_pace_23 : decode cX7_pace 23 = .ok (.iconst (-1), 1) := by decide +kernel
theorem dX7_pace_24 : decode cX7_pace 24 = .ok (.istore_n 3, 1) := by decide +kernel
theorem dX7_pace_25 : decode cX7_pace 25 = .ok (.iconst (-1), 1) := by decide +kernel
theorem dX7_pace_26 : decode cX7_pace 26 = .ok (.istore 4, 2) := by decide +kernel
theorem dX7_pace_28 : decode cX7_pace 28 = .ok (.iconst 0, 1) := by decide +kernel
theorem dX7_pace_29 : decode cX7_pace 29 = .ok (.istore 5, 2) := by decide +kernel
theorem dX7_pace_31 : decode cX7_pace 31 = .ok (.iload 5, 2) := by decide +kernel
theorem dX7_pace_33 : decode cX7_pace 33 = .ok (.iconst 3, 1) := by decide +kernel
theorem dX7_pace_34 : decode cX7_pace 34 = .ok (.if_icmp .gt 57, 3) := by decide +kernel
theorem dX7_pace_37 : decode cX7_pace 37 = .ok (.aload_n 0, 1) := by decide +kernel
theorem dX7_pace_38 : decode cX7_pace 38 = .ok (.getfield 73, 3) := by decide +kernel
theorem dX7_pace_41 : decode cX7_pace 41 = .ok (.getfield 234, 3) := by decide +kernel
theorem dX7_pace_44 : decode cX7_pace 44 = .ok (.iload_n 1, 1) := by decide +kernel
theorem dX7_pace_45 : decode cX7_pace 45 = .ok (.iload 5, 2) := by decide +kernel
theorem dX7_pace_47 : decode cX7_pace 47 = .ok (.iastore, 1) := by decide +kernel
theorem dX7_pace_48 : decode cX7_pace 48 = .ok (.aload_n 0, 1) := by decide +kernel
theorem dX7_pace_49 : decode cX7_pace 49 = .ok (.getfield 84, 3) := by decide +kernel
theorem dX7_pace_52 : decode cX7_pace 52 = .ok (.aload_n 0, 1) := by decide +kernel
theorem dX7_pace_53 : decode cX7_pace 53 = .ok (.getfield 73, 3) := by decide +kernel
theorem dX7_pace_56 : decode cX7_pace 56 = .ok (.bipush 23, 2) := by decide +kernel
theorem dX7_pace_58 : decode cX7_pace 58 = .ok (.invokevirtual 227, 3) := by decide +kernel
theorem dX7_pace_61 : decode cX7_pace 61 = .ok (.aload_n 0, 1) := by decide +kernel
theorem dX7_pace_62 : decode cX7_pace 62 = .ok (.getfield 84, 3) := by decide +kernel
theorem dX7_pace_65 : decode cX7_pace 65 = .ok (.invokevirtual 231, 3) := by decide +kernel
theorem dX7_pace_68 : decode cX7_pace 68 = .ok (.iload 4, 2) := by decide +kernel
theorem dX7_pace_70 : decode cX7_pace 70 = .ok (.if_icmp .le 15, 3) := by decide +kernel
theorem dX7_pace_73 : decode cX7_pace 73 = .ok (.iload 5, 2) := by decide +kernel
theorem dX7_pace_75 : decode cX7_pace 75 = .ok (.istore_n 3, 1) := by decide +kernel
theorem dX7_pace_76 : decode cX7_pace 76 = .ok (.aload_n 0, 1) := by decide +kernel
theorem dX7_pace_77 : decode cX7_pace 77 = .ok (.getfield 84, 3) := by decide +kernel
theorem dX7_pace_80 : decode cX7_pace 80 = .ok (.invokevirtual 231, 3) := by decide +kernel
theorem dX7_pace_83 : decode cX7_pace 83 = .ok (.istore 4, 2) := by decide +kernel
theorem dX7_pace_85 : decode cX7_pace 85 = .ok (.iinc 5 1, 3) := by decide +kernel
theorem dX7_pace_88 : decode cX7_pace 88 = .ok (.goto (-57), 3) := by decide +kernel
theorem dX7_pace_91 : decode cX7_pace 91 = .ok (.iload_n 2, 1) := by decide +kernel
theorem dX7_pace_92 : decode cX7_pace 92 = .ok (.ifCond .ne 7, 3) := by decide +kernel
theorem dX7_pace_95 : decode cX7_pace 95 = .ok (.iload_n 3, 1) := by decide +kernel
theorem dX7_pace_96 : decode cX7_pace 96 = .ok (.goto 5, 3) := by decide +kernel
theorem dX7_pace_99 : decode cX7_pace 99 = .ok (.iload 4, 2) := by decide +kernel
theorem dX7_pace_101 : decode cX7_pace 101 = .ok (.ireturn, 1) := by decide +kernel
theorem dX7_cheap_0 : decode cX7_cheap 0 = .ok (.iload_n 1, 1) := by decide +kernel
theorem dX7_cheap_1 : decode cX7_cheap 1 = .ok (.invokestatic 138, 3) := by decide +kernel
theorem dX7_cheap_4 : decode cX7_cheap 4 = .ok (.ifCond .eq 12, 3) := by decide +kernel
theorem dX7_cheap_7 : decode cX7_cheap 7 = .ok (.iload_n 2, 1) := by decide +kernel
theorem dX7_cheap_8 : decode cX7_cheap 8 = .ok (.iconst 0, 1) := by decide +kernel
theorem dX7_cheap_9 : decode cX7_cheap 9 = .ok (.iconst 1, 1) := by decide +kernel
theorem dX7_cheap_10 : decode cX7_cheap 10 = .ok (.invokestatic 107, 3) := by decide +kernel
theorem dX7_cheap_13 : decode cX7_cheap 13 = .ok (.ifCond .ne 6, 3) := by decide +kernel
theorem dX7_cheap_16 : decode cX7_cheap 16 = .ok (.bipush (-2), 2) := by decide +kernel
theorem dX7_cheap_18 : decode cX7_cheap 18 = .ok (.ireturn, 1) := by decide +kernel
theorem dX7_cheap_19 : decode cX7_cheap 19 = .ok (.aload_n 0, 1) := by decide +kernel
theorem dX7_cheap_20 : decode cX7_cheap 20 = .ok (.invokevirtual 217, 3) := by decide +kernel
theorem dX7_cheap_23 : decode cX7_cheap 23 = .ok (.iconst (-1), 1) := by decide +kernel
theorem dX7_cheap_24 : decode cX7_cheap 24 = .ok (.istore_n 3, 1) := by decide +kernel
theorem dX7_cheap_25 : decode cX7_cheap 25 = .ok (.iconst (-1), 1) := by decide +kernel
theorem dX7_cheap_26 : decode cX7_cheap 26 = .ok (.istore 4, 2) := by decide +kernel
theorem dX7_cheap_28 : decode cX7_cheap 28 = .ok (.iconst 0, 1) := by decide +kernel
theorem dX7_cheap_29 : decode cX7_cheap 29 = .ok (.istore 5, 2) := by decide +kernel
theorem dX7_cheap_31 : decode cX7_cheap 31 = .ok (.iload 5, 2) := by decide +kernel
theorem dX7_cheap_33 : decode cX7_cheap 33 = .ok (.iconst 3, 1) := by decide +kernel
theorem dX7_cheap_34 : decode cX7_cheap 34 = .ok (.if_icmp .gt 61, 3) := by decide +kernel
theorem dX7_cheap_37 : decode cX7_cheap 37 = .ok (.aload_n 0, 1) := by decide +kernel
theorem dX7_cheap_38 : decode cX7_cheap 38 = .ok (.getfield 73, 3) := by decide +kernel
theorem dX7_cheap_41 : decode cX7_cheap 41 = .ok (.getfield 234, 3) := by decide +kernel
theorem dX7_cheap_44 : decode cX7_cheap 44 = .ok (.iload_n 1, 1) := by decide +kernel
theorem dX7_cheap_45 : decode cX7_cheap 45 = .ok (.iload 5, 2) := by decide +kernel
theorem dX7_cheap_47 : decode cX7_cheap 47 = .ok (.iastore, 1) := by decide +kernel
theorem dX7_cheap_48 : decode cX7_cheap 48 = .ok (.aload_n 0, 1) := by decide +kernel
theorem dX7_cheap_49 : decode cX7_cheap 49 = .ok (.getfield 84, 3) := by decide +kernel
theorem dX7_cheap_52 : decode cX7_cheap 52 = .ok (.aload_n 0, 1) := by decide +kernel
theorem dX7_cheap_53 : decode cX7_cheap 53 = .ok (.getfield 73, 3) := by decide +kernel
theorem dX7_cheap_56 : decode cX7_cheap 56 = .ok (.bipush 23, 2) := by decide +kernel
theorem dX7_cheap_58 : decode cX7_cheap 58 = .ok (.invokevirtual 227, 3) := by decide +kernel
theorem dX7_cheap_61 : decode cX7_cheap 61 = .ok (.aload_n 0, 1) := by decide +kernel
theorem dX7_cheap_62 : decode cX7_cheap 62 = .ok (.getfield 84, 3) := by decide +kernel
theorem dX7_cheap_65 : decode cX7_cheap 65 = .ok (.invokevirtual 197, 3) := by decide +kernel
theorem dX7_cheap_68 : decode cX7_cheap 68 = .ok (.istore 6, 2) := by decide +kernel
theorem dX7_cheap_70 : decode cX7_cheap 70 = .ok (.iload_n 3, 1) := by decide +kernel
theorem dX7_cheap_71 : decode cX7_cheap 71 = .ok (.iconst (-1), 1) := by decide +kernel
theorem dX7_cheap_72 : decode cX7_cheap 72 = .ok (.if_icmp .eq 10, 3) := by decide +kernel
theorem dX7_cheap_75 : decode cX7_cheap 75 = .ok (.iload 6, 2) := by decide +kernel
theorem dX7_cheap_77 : decode cX7_cheap 77 = .ok (.iload 4, 2) := by decide +kernel
theorem dX7_cheap_79 : decode cX7_cheap 79 = .ok (.if_icmp .ge 10, 3) := by decide +kernel
theorem dX7_cheap_82 : decode cX7_cheap 82 = .ok (.iload 5, 2) := by decide +kernel
theorem dX7_cheap_84 : decode cX7_cheap 84 = .ok (.istore_n 3, 1) := by decide +kernel
theorem dX7_cheap_85 : decode cX7_cheap 85 = .ok (.iload 6, 2) := by decide +kernel
theorem dX7_cheap_87 : decode cX7_cheap 87 = .ok (.istore 4, 2) := by decide +kernel
theorem dX7_cheap_89 : decode cX7_cheap 89 = .ok (.iinc 5 1, 3) := by decide +kernel
theorem dX7_cheap_92 : decode cX7_cheap 92 = .ok (.goto (-61), 3) := by decide +kernel
theorem dX7_cheap_95 : decode cX7_cheap 95 = .ok (.iload_n 2, 1) := by decide +kernel
theorem dX7_cheap_96 : decode cX7_cheap 96 = .ok (.ifCond .ne 7, 3) := by decide +kernel
theorem dX7_cheap_99 : decode cX7_cheap 99 = .ok (.iload_n 3, 1) := by decide +kernel
theorem dX7_cheap_100 : decode cX7_cheap 100 = .ok (.goto 5, 3) := by decide +kernel
theorem dX7_cheap_103 : decode cX7_cheap 103 = .ok (.iload 4, 2) := by decide +kernel
theorem dX7_cheap_105 : decode cX7_cheap 105 = .ok (.ireturn, 1) := by decide +kernel
theorem dX7_spare_0 : decode cX7_spare 0 = .ok (.iload_n 1, 1) := by decide +kernel
theorem dX7_spare_1 : decode cX7_spare 1 = .ok (.iconst (-1), 1) := by decide +kernel
theorem dX7_spare_2 : decode cX7_spare 2 = .ok (.iconst 1, 1) := by decide +kernel
theorem dX7_spare_3 : decode cX7_spare 3 = .ok (.invokestatic 107, 3) := by decide +kernel
theorem dX7_spare_6 : decode cX7_spare 6 = .ok (.ifCond .ne 6, 3) := by decide +kernel
theorem dX7_spare_9 : decode cX7_spare 9 = .ok (.bipush (-2), 2) := by decide +kernel
theorem dX7_spare_11 : decode cX7_spare 11 = .ok (.ireturn, 1) := by decide +kernel
theorem dX7_spare_12 : decode cX7_spare 12 = .ok (.aload_n 0, 1) := by decide +kernel
theorem dX7_spare_13 : decode cX7_spare 13 = .ok (.invokevirtual 237, 3) := by decide +kernel
theorem dX7_spare_16 : decode cX7_spare 16 = .ok (.istore_n 2, 1) := by decide +kernel
theorem dX7_spare_17 : decode cX7_spare 17 = .ok (.iload_n 2, 1) := by decide +kernel
theorem dX7_spare_18 : decode cX7_spare 18 = .ok (.iconst (-1), 1) := by decide +kernel
theorem dX7_spare_19 : decode cX7_spare 19 = .ok (.if_icmp .ne 5, 3) := by decide +kernel
theorem dX7_spare_22 : decode cX7_spare 22 = .ok (.iconst (-1), 1) := by decide +kernel
theorem dX7_spare_23 : decode cX7_spare 23 = .ok (.ireturn, 1) := by decide +kernel
theorem dX7_spare_24 : decode cX7_spare 24 = .ok (.iload_n 1, 1) := by decide +kernel
theorem dX7_spare_25 : decode cX7_spare 25 = .ok (.iconst (-1), 1) := by decide +kernel
theorem dX7_spare_26 : decode cX7_spare 26 = .ok (.if_icmp .ne 10, 3) := by decide +kernel
theorem dX7_spare_29 : decode cX7_spare 29 = .ok (.iload_n 2, 1) := by decide +kernel
theorem dX7_spare_30 : decode cX7_spare 30 = .ok (.invokestatic 240, 3) := by decide +kernel
theorem dX7_spare_33 : decode cX7_spare 33 = .ok (.goto 8, 3) := by decide +kernel
theorem dX7_spare_36 : decode cX7_spare 36 = .ok (.iload_n 2, 1) := by decide +kernel
theorem dX7_spare_37 : decode cX7_spare 37 = .ok (.iload_n 1, 1) := by decide +kernel
theorem dX7_spare_38 : decode cX7_spare 38 = .ok (.invokestatic 245, 3) := by decide +kernel
theorem dX7_spare_41 : decode cX7_spare 41 = .ok (.ireturn, 1) := by decide +kernel
theorem dX7_seen_0 : decode cX7_seen 0 = .ok (.iload_n 1, 1) := by decide +kernel
theorem dX7_seen_1 : decode cX7_seen 1 = .ok (.invokestatic 138, 3) := by decide +kernel
theorem dX7_seen_4 : decode cX7_seen 4 = .ok (.ifCond .eq 20, 3) := by decide +kernel
theorem dX7_seen_7 : decode cX7_seen 7 = .ok (.iload_n 2, 1) := by decide +kernel
theorem dX7_seen_8 : decode cX7_seen 8 = .ok (.invokestatic 191, 3) := by decide +kernel
theorem dX7_seen_11 : decode cX7_seen 11 = .ok (.ifCond .eq 13, 3) := by decide +kernel
theorem dX7_seen_14 : decode cX7_seen 14 = .ok (.iload_n 3, 1) := by decide +kernel
theorem dX7_seen_15 : decode cX7_seen 15 = .ok (.iconst 0, 1) := by decide +kernel
theorem dX7_seen_16 : decode cX7_seen 16 = .ok (.bipush 108, 2) := by decide +kernel
theorem dX7_seen_18 : decode cX7_seen 18 = .ok (.invokestatic 107, 3) := by decide +kernel
theorem dX7_seen_21 : decode cX7_seen 21 = .ok (.ifCond .ne 6, 3) := by decide +kernel
theorem dX7_seen_24 : decode cX7_seen 24 = .ok (.bipush (-2), 2) := by decide +kernel
theorem dX7_seen_26 : decode cX7_seen 26 = .ok (.ireturn, 1) := by decide +kernel
theorem dX7_seen_27 : decode cX7_seen 27 = .ok (.aload_n 0, 1) := by decide +kernel
theorem dX7_seen_28 : decode cX7_seen 28 = .ok (.getfield 50, 3) := by decide +kernel
theorem dX7_seen_31 : decode cX7_seen 31 = .ok (.invokevirtual 248, 3) := by decide +kernel
theorem dX7_seen_34 : decode cX7_seen 34 = .ok (.ifCond .ne 6, 3) := by decide +kernel
theorem dX7_seen_37 : decode cX7_seen 37 = .ok (.bipush (-4), 2) := by decide +kernel
theorem dX7_seen_39 : decode cX7_seen 39 = .ok (.ireturn, 1) := by decide +kernel
theorem dX7_seen_40 : decode cX7_seen 40 = .ok (.aload_n 0, 1) := by decide +kernel
theorem dX7_seen_41 : decode cX7_seen 41 = .ok (.getfield 50, 3) := by decide +kernel
theorem dX7_seen_44 : decode cX7_seen 44 = .ok (.iload_n 1, 1) := by decide +kernel
theorem dX7_seen_45 : decode cX7_seen 45 = .ok (.iload_n 2, 1) := by decide +kernel
theorem dX7_seen_46 : decode cX7_seen 46 = .ok (.iload_n 3, 1) := by decide +kernel
theorem dX7_seen_47 : decode cX7_seen 47 = .ok (.invokevirtual 249, 3) := by decide +kernel
theorem dX7_seen_50 : decode cX7_seen 50 = .ok (.aload_n 0, 1) := by decide +kernel
theorem dX7_seen_51 : decode cX7_seen 51 = .ok (.getfield 50, 3) := by decide +kernel
theorem dX7_seen_54 : decode cX7_seen 54 = .ok (.getfield 250, 3) := by decide +kernel
theorem dX7_seen_57 : decode cX7_seen 57 = .ok (.ireturn, 1) := by decide +kernel
theorem dX7_forget_0 : decode cX7_forget 0 = .ok (.aload_n 0, 1) := by decide +kernel
theorem dX7_forget_1 : decode cX7_forget 1 = .ok (.getfield 50, 3) := by decide +kernel
theorem dX7_forget_4 : decode cX7_forget 4 = .ok (.getfield 250, 3) := by decide +kernel
theorem dX7_forget_7 : decode cX7_forget 7 = .ok (.istore_n 1, 1) := by decide +kernel
theorem dX7_forget_8 : decode cX7_forget 8 = .ok (.aload_n 0, 1) := by decide +kernel
theorem dX7_forget_9 : decode cX7_forget 9 = .ok (.getfield 50, 3) := by decide +kernel
theorem dX7_forget_12 : decode cX7_forget 12 = .ok (.iconst 0, 1) := by decide +kernel
theorem dX7_forget_13 : decode cX7_forget 13 = .ok (.putfield 250, 3) := by decide +kernel
theorem dX7_forget_16 : decode cX7_forget 16 = .ok (.iload_n 1, 1) := by decide +kernel
theorem dX7_forget_17 : decode cX7_forget 17 = .ok (.ireturn, 1) := by decide +kernel
theorem dX7_never_0 : decode cX7_never 0 = .ok (.aload_n 0, 1) := by decide +kernel
theorem dX7_never_1 : decode cX7_never 1 = .ok (.invokevirtual 217, 3) := by decide +kernel
theorem dX7_never_4 : decode cX7_never 4 = .ok (.iconst 0, 1) := by decide +kernel
theorem dX7_never_5 : decode cX7_never 5 = .ok (.istore_n 1, 1) := by decide +kernel
theorem dX7_never_6 : decode cX7_never 6 = .ok (.iconst 0, 1) := by decide +kernel
theorem dX7_never_7 : decode cX7_never 7 = .ok (.istore_n 2, 1) := by decide +kernel
theorem dX7_never_8 : decode cX7_never 8 = .ok (.iload_n 2, 1) := by decide +kernel
theorem dX7_never_9 : decode cX7_never 9 = .ok (.aload_n 0, 1) := by decide +kernel
theorem dX7_never_10 : decode cX7_never 10 = .ok (.getfield 43, 3) := by decide +kernel
theorem dX7_never_13 : decode cX7_never 13 = .ok (.getfield 152, 3) := by decide +kernel
theorem dX7_never_16 : decode cX7_never 16 = .ok (.if_icmp .ge 42, 3) := by decide +kernel
theorem dX7_never_19 : decode cX7_never 19 = .ok (.aload_n 0, 1) := by decide +kernel
theorem dX7_never_20 : decode cX7_never 20 = .ok (.getfield 73, 3) := by decide +kernel
theorem dX7_never_23 : decode cX7_never 23 = .ok (.aload_n 0, 1) := by decide +kernel
theorem dX7_never_24 : decode cX7_never 24 = .ok (.getfield 43, 3) := by decide +kernel
theorem dX7_never_27 : decode cX7_never 27 = .ok (.sipush 255, 3) := by decide +kernel
theorem dX7_never_30 : decode cX7_never 30 = .ok (.iconst 1, 1) := by decide +kernel
theorem dX7_never_31 : decode cX7_never 31 = .ok (.iload_n 2, 1) := by decide +kernel
theorem dX7_never_32 : decode cX7_never 32 = .ok (.ishl, 1) := by decide +kernel
theorem dX7_never_33 : decode cX7_never 33 = .ok (.iconst (-1), 1) := by decide +kernel
theorem dX7_never_34 : decode cX7_never 34 = .ok (.ixor, 1) := by decide +kernel
theorem dX7_never_35 : decode cX7_never 35 = .ok (.iand, 1) := by decide +kernel
theorem dX7_never_36 : decode cX7_never 36 = .ok (.invokevirtual 251, 3) := by decide +kernel
theorem dX7_never_39 : decode cX7_never 39 = .ok (.aload_n 0, 1) := by decide +kernel
theorem dX7_never_40 : decode cX7_never 40 = .ok (.invokevirtual 255, 3) := by decide +kernel
theorem dX7_never_43 : decode cX7_never 43 = .ok (.ifCond .eq 9, 3) := by decide +kernel
theorem dX7_never_46 : decode cX7_never 46 = .ok (.iload_n 1, 1) := by decide +kernel
theorem dX7_never_47 : decode cX7_never 47 = .ok (.iconst 1, 1) := by decide +kernel
theorem dX7_never_48 : decode cX7_never 48 = .ok (.iload_n 2, 1) := by decide +kernel
theorem dX7_never_49 : decode cX7_never 49 = .ok (.ishl, 1) := by decide +kernel
theorem dX7_never_50 : decode cX7_never 50 = .ok (.ior, 1) := by decide +kernel
theorem dX7_never_51 : decode cX7_never 51 = .ok (.istore_n 1, 1) := by decide +kernel
theorem dX7_never_52 : decode cX7_never 52 = .ok (.iinc 2 1, 3) := by decide +kernel
theorem dX7_never_55 : decode cX7_never 55 = .ok (.goto (-47), 3) := by decide +kernel
theorem dX7_never_58 : decode cX7_never 58 = .ok (.iload_n 1, 1) := by decide +kernel
theorem dX7_never_59 : decode cX7_never 59 = .ok (.ireturn, 1) := by decide +kernel
theorem dX7_was_0 : decode cX7_was 0 = .ok (.aload_n 0, 1) := by decide +kernel
theorem dX7_was_1 : decode cX7_was 1 = .ok (.iload_n 1, 1) := by decide +kernel
theorem dX7_was_2 : decode cX7_was 2 = .ok (.invokevirtual 127, 3) := by decide +kernel
theorem dX7_was_5 : decode cX7_was 5 = .ok (.ifCond .eq 12, 3) := by decide +kernel
theorem dX7_was_8 : decode cX7_was 8 = .ok (.iload_n 2, 1) := by decide +kernel
theorem dX7_was_9 : decode cX7_was 9 = .ok (.iconst 0, 1) := by decide +kernel
theorem dX7_was_10 : decode cX7_was 10 = .ok (.iconst 1, 1) := by decide +kernel
theorem dX7_was_11 : decode cX7_was 11 = .ok (.invokestatic 107, 3) := by decide +kernel
theorem dX7_was_14 : decode cX7_was 14 = .ok (.ifCond .ne 6, 3) := by decide +kernel
theorem dX7_was_17 : decode cX7_was 17 = .ok (.bipush (-2), 2) := by decide +kernel
theorem dX7_was_19 : decode cX7_was 19 = .ok (.ireturn, 1) := by decide +kernel
theorem dX7_was_20 : decode cX7_was 20 = .ok (.iload_n 2, 1) := by decide +kernel
theorem dX7_was_21 : decode cX7_was 21 = .ok (.ifCond .ne 11, 3) := by decide +kernel
theorem dX7_was_24 : decode cX7_was 24 = .ok (.aload_n 0, 1) := by decide +kernel
theorem dX7_was_25 : decode cX7_was 25 = .ok (.iload_n 1, 1) := by decide +kernel
theorem dX7_was_26 : decode cX7_was 26 = .ok (.invokevirtual 258, 3) := by decide +kernel
theorem dX7_was_29 : decode cX7_was 29 = .ok (.goto 8, 3) := by decide +kernel
theorem dX7_was_32 : decode cX7_was 32 = .ok (.aload_n 0, 1) := by decide +kernel
theorem dX7_was_33 : decode cX7_was 33 = .ok (.iload_n 1, 1) := by decide +kernel
theorem dX7_was_34 : decode cX7_was 34 = .ok (.invokevirtual 261, 3) := by decide +kernel
theorem dX7_was_37 : decode cX7_was 37 = .ok (.ireturn, 1) := by decide +kernel
theorem dX7_ask_0 : decode cX7_ask 0 = .ok (.aload_n 0, 1) := by decide +kernel
theorem dX7_ask_1 : decode cX7_ask 1 = .ok (.iload_n 1, 1) := by decide +kernel
theorem dX7_ask_2 : decode cX7_ask 2 = .ok (.invokevirtual 127, 3) := by decide +kernel
theorem dX7_ask_5 : decode cX7_ask 5 = .ok (.ifCond .ne 6, 3) := by decide +kernel
theorem dX7_ask_8 : decode cX7_ask 8 = .ok (.bipush (-2), 2) := by decide +kernel
theorem dX7_ask_10 : decode cX7_ask 10 = .ok (.ireturn, 1) := by decide +kernel
theorem dX7_ask_11 : decode cX7_ask 11 = .ok (.aload_n 0, 1) := by decide +kernel
theorem dX7_ask_12 : decode cX7_ask 12 = .ok (.iload_n 1, 1) := by decide +kernel
theorem dX7_ask_13 : decode cX7_ask 13 = .ok (.invokevirtual 264, 3) := by decide +kernel
theorem dX7_ask_16 : decode cX7_ask 16 = .ok (.iconst 0, 1) := by decide +kernel
theorem dX7_ask_17 : decode cX7_ask 17 = .ok (.istore_n 2, 1) := by decide +kernel
theorem dX7_ask_18 : decode cX7_ask 18 = .ok (.aload_n 0, 1) := by decide +kernel
theorem dX7_ask_19 : decode cX7_ask 19 = .ok (.iconst 0, 1) := by decide +kernel
theorem dX7_ask_20 : decode cX7_ask 20 = .ok (.invokevirtual 267, 3) := by decide +kernel
theorem dX7_ask_23 : decode cX7_ask 23 = .ok (.istore_n 3, 1) := by decide +kernel
theorem dX7_ask_24 : decode cX7_ask 24 = .ok (.iconst 1, 1) := by decide +kernel
theorem dX7_ask_25 : decode cX7_ask 25 = .ok (.istore 4, 2) := by decide +kernel
theorem dX7_ask_27 : decode cX7_ask 27 = .ok (.iload 4, 2) := by decide +kernel
theorem dX7_ask_29 : decode cX7_ask 29 = .ok (.bipush 24, 2) := by decide +kernel
theorem dX7_ask_31 : decode cX7_ask 31 = .ok (.if_icmp .ge 29, 3) := by decide +kernel
theorem dX7_ask_34 : decode cX7_ask 34 = .ok (.aload_n 0, 1) := by decide +kernel
theorem dX7_ask_35 : decode cX7_ask 35 = .ok (.iload 4, 2) := by decide +kernel
theorem dX7_ask_37 : decode cX7_ask 37 = .ok (.invokevirtual 267, 3) := by decide +kernel
theorem dX7_ask_40 : decode cX7_ask 40 = .ok (.istore 5, 2) := by decide +kernel
theorem dX7_ask_42 : decode cX7_ask 42 = .ok (.iload 5, 2) := by decide +kernel
theorem dX7_ask_44 : decode cX7_ask 44 = .ok (.iload_n 3, 1) := by decide +kernel
theorem dX7_ask_45 : decode cX7_ask 45 = .ok (.if_icmp .ge 9, 3) := by decide +kernel
theorem dX7_ask_48 : decode cX7_ask 48 = .ok (.iload 4, 2) := by decide +kernel
theorem dX7_ask_50 : decode cX7_ask 50 = .ok (.istore_n 2, 1) := by decide +kernel
theorem dX7_ask_51 : decode cX7_ask 51 = .ok (.iload 5, 2) := by decide +kernel
theorem dX7_ask_53 : decode cX7_ask 53 = .ok (.istore_n 3, 1) := by decide +kernel
theorem dX7_ask_54 : decode cX7_ask 54 = .ok (.iinc 4 1, 3) := by decide +kernel
theorem dX7_ask_57 : decode cX7_ask 57 = .ok (.goto (-30), 3) := by decide +kernel
theorem dX7_ask_60 : decode cX7_ask 60 = .ok (.iload_n 2, 1) := by decide +kernel
theorem dX7_ask_61 : decode cX7_ask 61 = .ok (.ireturn, 1) := by decide +kernel
theorem dX7_chance_0 : decode cX7_chance 0 = .ok (.iload_n 1, 1) := by decide +kernel
theorem dX7_chance_1 : decode cX7_chance 1 = .ok (.iconst 0, 1) := by decide +kernel
theorem dX7_chance_2 : decode cX7_chance 2 = .ok (.bipush 16, 2) := by decide +kernel
theorem dX7_chance_4 : decode cX7_chance 4 = .ok (.invokestatic 107, 3) := by decide +kernel
theorem dX7_chance_7 : decode cX7_chance 7 = .ok (.ifCond .eq 19, 3) := by decide +kernel
theorem dX7_chance_10 : decode cX7_chance 10 = .ok (.iload_n 2, 1) := by decide +kernel
theorem dX7_chance_11 : decode cX7_chance 11 = .ok (.invokestatic 138, 3) := by decide +kernel
theorem dX7_chance_14 : decode cX7_chance 14 = .ok (.ifCond .eq 12, 3) := by decide +kernel
theorem dX7_chance_17 : decode cX7_chance 17 = .ok (.iload_n 3, 1) := by decide +kernel
theorem dX7_chance_18 : decode cX7_chance 18 = .ok (.iconst 0, 1) := by decide +kernel
theorem dX7_chance_19 : decode cX7_chance 19 = .ok (.iconst 1, 1) := by decide +kernel
theorem dX7_chance_20 : decode cX7_chance 20 = .ok (.invokestatic 107, 3) := by decide +kernel
theorem dX7_chance_23 : decode cX7_chance 23 = .ok (.ifCond .ne 7, 3) := by decide +kernel
theorem dX7_chance_26 : decode cX7_chance 26 = .ok (.ldc2_w 270, 3) := by decide +kernel
theorem dX7_chance_29 : decode cX7_chance 29 = .ok (.lreturn, 1) := by decide +kernel
theorem dX7_chance_30 : decode cX7_chance 30 = .ok (.aload_n 0, 1) := by decide +kernel
theorem dX7_chance_31 : decode cX7_chance 31 = .ok (.iload_n 1, 1) := by decide +kernel
theorem dX7_chance_32 : decode cX7_chance 32 = .ok (.iload_n 2, 1) := by decide +kernel
theorem dX7_chance_33 : decode cX7_chance 33 = .ok (.invokevirtual 272, 3) := by decide +kernel
theorem dX7_chance_36 : decode cX7_chance 36 = .ok (.lstore 4, 2) := by decide +kernel
theorem dX7_chance_38 : decode cX7_chance 38 = .ok (.lconst 1, 1) := by decide +kernel
theorem dX7_chance_39 : decode cX7_chance 39 = .ok (.iconst 4, 1) := by decide +kernel
theorem dX7_chance_40 : decode cX7_chance 40 = .ok (.aload_n 0, 1) := by decide +kernel
theorem dX7_chance_41 : decode cX7_chance 41 = .ok (.getfield 43, 3) := by decide +kernel
theorem dX7_chance_44 : decode cX7_chance 44 = .ok (.getfield 152, 3) := by decide +kernel
theorem dX7_chance_47 : decode cX7_chance 47 = .ok (.imul, 1) := by decide +kernel
theorem dX7_chance_48 : decode cX7_chance 48 = .ok (.lshl, 1) := by decide +kernel
theorem dX7_chance_49 : decode cX7_chance 49 = .ok (.lstore 6, 2) := by decide +kernel
theorem dX7_chance_51 : decode cX7_chance 51 = .ok (.lload 4, 2) := by decide +kernel
theorem dX7_chance_53 : decode cX7_chance 53 = .ok (.lconst 0, 1) := by decide +kernel
theorem dX7_chance_54 : decode cX7_chance 54 = .ok (.lcmp, 1) := by decide +kernel
theorem dX7_chance_55 : decode cX7_chance 55 = .ok (.ifCond .ne 13, 3) := by decide +kernel
theorem dX7_chance_58 : decode cX7_chance 58 = .ok (.iload_n 3, 1) := by decide +kernel
theorem dX7_chance_59 : decode cX7_chance 59 = .ok (.ifCond .ne 7, 3) := by decide +kernel
theorem dX7_chance_62 : decode cX7_chance 62 = .ok (.lconst 0, 1) := by decide +kernel
theorem dX7_chance_63 : decode cX7_chance 63 = .ok (.goto 4, 3) := by decide +kernel
theorem dX7_chance_66 : decode cX7_chance 66 = .ok (.lconst 1, 1) := by decide +kernel
theorem dX7_chance_67 : decode cX7_chance 67 = .ok (.lreturn, 1) := by decide +kernel
theorem dX7_chance_68 : decode cX7_chance 68 = .ok (.iconst 0, 1) := by decide +kernel
theorem dX7_chance_69 : decode cX7_chance 69 = .ok (.istore 8, 2) := by decide +kernel
theorem dX7_chance_71 : decode cX7_chance 71 = .ok (.iload 8, 2) := by decide +kernel
theorem dX7_chance_73 : decode cX7_chance 73 = .ok (.bipush 32, 2) := by decide +kernel
theorem dX7_chance_75 : decode cX7_chance 75 = .ok (.if_icmp .ge 43, 3) := by decide +kernel
theorem dX7_chance_78 : decode cX7_chance 78 = .ok (.lload 4, 2) := by decide +kernel
theorem dX7_chance_80 : decode cX7_chance 80 = .ok (.ldc2_w 276, 3) := by decide +kernel
theorem dX7_chance_83 : decode cX7_chance 83 = .ok (.lrem, 1) := by decide +kernel
theorem dX7_chance_84 : decode cX7_chance 84 = .ok (.lconst 0, 1) := by decide +kernel
theorem dX7_chance_85 : decode cX7_chance 85 = .ok (.lcmp, 1) := by decide +kernel
theorem dX7_chance_86 : decode cX7_chance 86 = .ok (.ifCond .ne 32, 3) := by decide +kernel
theorem dX7_chance_89 : decode cX7_chance 89 = .ok (.lload 6, 2) := by decide +kernel
theorem dX7_chance_91 : decode cX7_chance 91 = .ok (.lconst 1, 1) := by decide +kernel
theorem dX7_chance_92 : decode cX7_chance 92 = .ok (.lcmp, 1) := by decide +kernel
theorem dX7_chance_93 : decode cX7_chance 93 = .ok (.ifCond .le 25, 3) := by decide +kernel
theorem dX7_chance_96 : decode cX7_chance 96 = .ok (.lload 4, 2) := by decide +kernel
theorem dX7_chance_98 : decode cX7_chance 98 = .ok (.ldc2_w 276, 3) := by decide +kernel
theorem dX7_chance_101 : decode cX7_chance 101 = .ok (.ldiv, 1) := by decide +kernel
theorem dX7_chance_102 : decode cX7_chance 102 = .ok (.lstore 4, 2) := by decide +kernel
theorem dX7_chance_104 : decode cX7_chance 104 = .ok (.lload 6, 2) := by decide +kernel
theorem dX7_chance_106 : decode cX7_chance 106 = .ok (.ldc2_w 276, 3) := by decide +kernel
theorem dX7_chance_109 : decode cX7_chance 109 = .ok (.ldiv, 1) := by decide +kernel
theorem dX7_chance_110 : decode cX7_chance 110 = .ok (.lstore 6, 2) := by decide +kernel
theorem dX7_chance_112 : decode cX7_chance 112 = .ok (.iinc 8 1, 3) := by decide +kernel
theorem dX7_chance_115 : decode cX7_chance 115 = .ok (.goto (-44), 3) := by decide +kernel
theorem dX7_chance_118 : decode cX7_chance 118 = .ok (.iload_n 3, 1) := by decide +kernel
theorem dX7_chance_119 : decode cX7_chance 119 = .ok (.ifCond .ne 8, 3) := by decide +kernel
theorem dX7_chance_122 : decode cX7_chance 122 = .ok (.lload 4, 2) := by decide +kernel
theorem dX7_chance_124 : decode cX7_chance 124 = .ok (.goto 5, 3) := by decide +kernel
theorem dX7_chance_127 : decode cX7_chance 127 = .ok (.lload 6, 2) := by decide +kernel
theorem dX7_chance_129 : decode cX7_chance 129 = .ok (.lreturn, 1) := by decide +kernel
theorem dX7_years_0 : decode cX7_years 0 = .ok (.iload_n 2, 1) := by decide +kernel
theorem dX7_years_1 : decode cX7_years 1 = .ok (.iconst 0, 1) := by decide +kernel
theorem dX7_years_2 : decode cX7_years 2 = .ok (.bipush 24, 2) := by decide +kernel
theorem dX7_years_4 : decode cX7_years 4 = .ok (.invokestatic 107, 3) := by decide +kernel
theorem dX7_years_7 : decode cX7_years 7 = .ok (.ifCond .eq 12, 3) := by decide +kernel
theorem dX7_years_10 : decode cX7_years 10 = .ok (.iload_n 3, 1) := by decide +kernel
theorem dX7_years_11 : decode cX7_years 11 = .ok (.iconst 0, 1) := by decide +kernel
theorem dX7_years_12 : decode cX7_years 12 = .ok (.iconst 1, 1) := by decide +kernel
theorem dX7_years_13 : decode cX7_years 13 = .ok (.invokestatic 107, 3) := by decide +kernel
theorem dX7_years_16 : decode cX7_years 16 = .ok (.ifCond .ne 6, 3) := by decide +kernel
theorem dX7_years_19 : decode cX7_years 19 = .ok (.bipush (-2), 2) := by decide +kernel
theorem dX7_years_21 : decode cX7_years 21 = .ok (.ireturn, 1) := by decide +kernel
theorem dX7_years_22 : decode cX7_years 22 = .ok (.aload_n 0, 1) := by decide +kernel
theorem dX7_years_23 : decode cX7_years 23 = .ok (.invokevirtual 217, 3) := by decide +kernel
theorem dX7_years_26 : decode cX7_years 26 = .ok (.iload_n 1, 1) := by decide +kernel
theorem dX7_years_27 : decode cX7_years 27 = .ok (.istore 4, 2) := by decide +kernel
theorem dX7_years_29 : decode cX7_years 29 = .ok (.iconst 0, 1) := by decide +kernel
theorem dX7_years_30 : decode cX7_years 30 = .ok (.istore 5, 2) := by decide +kernel
theorem dX7_years_32 : decode cX7_years 32 = .ok (.iload 5, 2) := by decide +kernel
theorem dX7_years_34 : decode cX7_years 34 = .ok (.iload_n 2, 1) := by decide +kernel
theorem dX7_years_35 : decode cX7_years 35 = .ok (.if_icmp .ge 38, 3) := by decide +kernel
theorem dX7_years_38 : decode cX7_years 38 = .ok (.ldc_w 278, 3) := by decide +kernel
theorem dX7_years_41 : decode cX7_years 41 = .ok (.iload 4, 2) := by decide +kernel
theorem dX7_years_43 : decode cX7_years 43 = .ok (.imul, 1) := by decide +kernel
theorem dX7_years_44 : decode cX7_years 44 = .ok (.sipush 12345, 3) := by decide +kernel
theorem dX7_years_47 : decode cX7_years 47 = .ok (.iadd, 1) := by decide +kernel
theorem dX7_years_48 : decode cX7_years 48 = .ok (.istore 4, 2) := by decide +kernel
theorem dX7_years_50 : decode cX7_years 50 = .ok (.aload_n 0, 1) := by decide +kernel
theorem dX7_years_51 : decode cX7_years 51 = .ok (.getfield 73, 3) := by decide +kernel
theorem dX7_years_54 : decode cX7_years 54 = .ok (.getfield 234, 3) := by decide +kernel
theorem dX7_years_57 : decode cX7_years 57 = .ok (.iload 5, 2) := by decide +kernel
theorem dX7_years_59 : decode cX7_years 59 = .ok (.iload 4, 2) := by decide +kernel
theorem dX7_years_61 : decode cX7_years 61 = .ok (.bipush 16, 2) := by decide +kernel
theorem dX7_years_63 : decode cX7_years 63 = .ok (.iushr, 1) := by decide +kernel
theorem dX7_years_64 : decode cX7_years 64 = .ok (.iconst 4, 1) := by decide +kernel
theorem dX7_years_65 : decode cX7_years 65 = .ok (.irem, 1) := by decide +kernel
theorem dX7_years_66 : decode cX7_years 66 = .ok (.iastore, 1) := by decide +kernel
theorem dX7_years_67 : decode cX7_years 67 = .ok (.iinc 5 1, 3) := by decide +kernel
theorem dX7_years_70 : decode cX7_years 70 = .ok (.goto (-38), 3) := by decide +kernel
theorem dX7_years_73 : decode cX7_years 73 = .ok (.iload_n 2, 1) := by decide +kernel
theorem dX7_years_74 : decode cX7_years 74 = .ok (.istore 5, 2) := by decide +kernel
theorem dX7_years_76 : decode cX7_years 76 = .ok (.iload 5, 2) := by decide +kernel
theorem dX7_years_78 : decode cX7_years 78 = .ok (.bipush 24, 2) := by decide +kernel
theorem dX7_years_80 : decode cX7_years 80 = .ok (.if_icmp .ge 20, 3) := by decide +kernel
theorem dX7_years_83 : decode cX7_years 83 = .ok (.aload_n 0, 1) := by decide +kernel
theorem dX7_years_84 : decode cX7_years 84 = .ok (.getfield 73, 3) := by decide +kernel
theorem dX7_years_87 : decode cX7_years 87 = .ok (.getfield 234, 3) := by decide +kernel
theorem dX7_years_90 : decode cX7_years 90 = .ok (.iload 5, 2) := by decide +kernel
theorem dX7_years_92 : decode cX7_years 92 = .ok (.iconst 1, 1) := by decide +kernel
theorem dX7_years_93 : decode cX7_years 93 = .ok (.iastore, 1) := by decide +kernel
theorem dX7_years_94 : decode cX7_years 94 = .ok (.iinc 5 1, 3) := by decide +kernel
theorem dX7_years_97 : decode cX7_years 97 = .ok (.goto (-21), 3) := by decide +kernel
theorem dX7_years_100 : decode cX7_years 100 = .ok (.aload_n 0, 1) := by decide +kernel
theorem dX7_years_101 : decode cX7_years 101 = .ok (.getfield 84, 3) := by decide +kernel
theorem dX7_years_104 : decode cX7_years 104 = .ok (.aload_n 0, 1) := by decide +kernel
theorem dX7_years_105 : decode cX7_years 105 = .ok (.getfield 73, 3) := by decide +kernel
theorem dX7_years_108 : decode cX7_years 108 = .ok (.bipush 23, 2) := by decide +kernel
theorem dX7_years_110 : decode cX7_years 110 = .ok (.invokevirtual 227, 3) := by decide +kernel
theorem dX7_years_113 : decode cX7_years 113 = .ok (.iload_n 3, 1) := by decide +kernel
theorem dX7_years_114 : decode cX7_years 114 = .ok (.ifCond .ne 13, 3) := by decide +kernel
theorem dX7_years_117 : decode cX7_years 117 = .ok (.aload_n 0, 1) := by decide +kernel
theorem dX7_years_118 : decode cX7_years 118 = .ok (.getfield 84, 3) := by decide +kernel
theorem dX7_years_121 : decode cX7_years 121 = .ok (.invokevirtual 231, 3) := by decide +kernel
theorem dX7_years_124 : decode cX7_years 124 = .ok (.goto 10, 3) := by decide +kernel
theorem dX7_years_127 : decode cX7_years 127 = .ok (.aload_n 0, 1) := by decide +kernel
theorem dX7_years_128 : decode cX7_years 128 = .ok (.getfield 84, 3) := by decide +kernel
theorem dX7_years_131 : decode cX7_years 131 = .ok (.invokevirtual 197, 3) := by decide +kernel
theorem dX7_years_134 : decode cX7_years 134 = .ok (.ireturn, 1) := by decide +kernel
theorem dX7_sheet_0 : decode cX7_sheet 0 = .ok (.aload_n 0, 1) := by decide +kernel
theorem dX7_sheet_1 : decode cX7_sheet 1 = .ok (.iload_n 1, 1) := by decide +kernel
theorem dX7_sheet_2 : decode cX7_sheet 2 = .ok (.invokevirtual 153, 3) := by decide +kernel
theorem dX7_sheet_5 : decode cX7_sheet 5 = .ok (.astore 4, 2) := by decide +kernel
theorem dX7_sheet_7 : decode cX7_sheet 7 = .ok (.aload 4, 2) := by decide +kernel
theorem dX7_sheet_9 : decode cX7_sheet 9 = .ok (.ifnull 16, 3) := by decide +kernel
theorem dX7_sheet_12 : decode cX7_sheet 12 = .ok (.iload_n 2, 1) := by decide +kernel
theorem dX7_sheet_13 : decode cX7_sheet 13 = .ok (.invokestatic 279, 3) := by decide +kernel
theorem dX7_sheet_16 : decode cX7_sheet 16 = .ok (.ifCond .eq 9, 3) := by decide +kernel
theorem dX7_sheet_19 : decode cX7_sheet 19 = .ok (.iload_n 3, 1) := by decide +kernel
theorem dX7_sheet_20 : decode cX7_sheet 20 = .ok (.bipush 60, 2) := by decide +kernel
theorem dX7_sheet_22 : decode cX7_sheet 22 = .ok (.if_icmp .le 6, 3) := by decide +kernel
theorem dX7_sheet_25 : decode cX7_sheet 25 = .ok (.bipush (-2), 2) := by decide +kernel
theorem dX7_sheet_27 : decode cX7_sheet 27 = .ok (.ireturn, 1) := by decide +kernel
theorem dX7_sheet_28 : decode cX7_sheet 28 = .ok (.iload_n 3, 1) := by decide +kernel
theorem dX7_sheet_29 : decode cX7_sheet 29 = .ok (.ifCond .ge 9, 3) := by decide +kernel
theorem dX7_sheet_32 : decode cX7_sheet 32 = .ok (.aload_n 0, 1) := by decide +kernel
theorem dX7_sheet_33 : decode cX7_sheet 33 = .ok (.iconst 5, 1) := by decide +kernel
theorem dX7_sheet_34 : decode cX7_sheet 34 = .ok (.invokevirtual 160, 3) := by decide +kernel
theorem dX7_sheet_37 : decode cX7_sheet 37 = .ok (.ireturn, 1) := by decide +kernel
theorem dX7_sheet_38 : decode cX7_sheet 38 = .ok (.aload 4, 2) := by decide +kernel
theorem dX7_sheet_40 : decode cX7_sheet 40 = .ok (.iload_n 2, 1) := by decide +kernel
theorem dX7_sheet_41 : decode cX7_sheet 41 = .ok (.iload_n 3, 1) := by decide +kernel
theorem dX7_sheet_42 : decode cX7_sheet 42 = .ok (.invokevirtual 282, 3) := by decide +kernel
theorem dX7_sheet_45 : decode cX7_sheet 45 = .ok (.iload_n 3, 1) := by decide +kernel
theorem dX7_sheet_46 : decode cX7_sheet 46 = .ok (.ireturn, 1) := by decide +kernel
theorem dX7_lose_0 : decode cX7_lose 0 = .ok (.aload_n 0, 1) := by decide +kernel
theorem dX7_lose_1 : decode cX7_lose 1 = .ok (.iload_n 1, 1) := by decide +kernel
theorem dX7_lose_2 : decode cX7_lose 2 = .ok (.invokevirtual 153, 3) := by decide +kernel
theorem dX7_lose_5 : decode cX7_lose 5 = .ok (.astore_n 2, 1) := by decide +kernel
theorem dX7_lose_6 : decode cX7_lose 6 = .ok (.aload_n 2, 1) := by decide +kernel
theorem dX7_lose_7 : decode cX7_lose 7 = .ok (.ifnonnull 6, 3) := by decide +kernel
theorem dX7_lose_10 : decode cX7_lose 10 = .ok (.bipush (-2), 2) := by decide +kernel
theorem dX7_lose_12 : decode cX7_lose 12 = .ok (.ireturn, 1) := by decide +kernel
theorem dX7_lose_13 : decode cX7_lose 13 = .ok (.aload_n 2, 1) := by decide +kernel
theorem dX7_lose_14 : decode cX7_lose 14 = .ok (.getfield 157, 3) := by decide +kernel
theorem dX7_lose_17 : decode cX7_lose 17 = .ok (.ifCond .eq 9, 3) := by decide +kernel
theorem dX7_lose_20 : decode cX7_lose 20 = .ok (.aload_n 0, 1) := by decide +kernel
theorem dX7_lose_21 : decode cX7_lose 21 = .ok (.iconst 1, 1) := by decide +kernel
theorem dX7_lose_22 : decode cX7_lose 22 = .ok (.invokevirtual 160, 3) := by decide +kernel
theorem dX7_lose_25 : decode cX7_lose 25 = .ok (.ireturn, 1) := by decide +kernel
theorem dX7_lose_26 : decode cX7_lose 26 = .ok (.aload_n 2, 1) := by decide +kernel
theorem dX7_lose_27 : decode cX7_lose 27 = .ok (.iconst 1, 1) := by decide +kernel
theorem dX7_lose_28 : decode cX7_lose 28 = .ok (.putfield 157, 3) := by decide +kernel
theorem dX7_lose_31 : decode cX7_lose 31 = .ok (.aload_n 2, 1) := by decide +kernel
theorem dX7_lose_32 : decode cX7_lose 32 = .ok (.getfield 163, 3) := by decide +kernel
theorem dX7_lose_35 : decode cX7_lose 35 = .ok (.ireturn, 1) := by decide +kernel
theorem dX7_put_0 : decode cX7_put 0 = .ok (.aload_n 0, 1) := by decide +kernel
theorem dX7_put_1 : decode cX7_put 1 = .ok (.iload_n 1, 1) := by decide +kernel
theorem dX7_put_2 : decode cX7_put 2 = .ok (.invokevirtual 153, 3) := by decide +kernel
theorem dX7_put_5 : decode cX7_put 5 = .ok (.astore 5, 2) := by decide +kernel
theorem dX7_put_7 : decode cX7_put 7 = .ok (.aload 5, 2) := by decide +kernel
theorem dX7_put_9 : decode cX7_put 9 = .ok (.ifnull 10, 3) := by decide +kernel
theorem dX7_put_12 : decode cX7_put 12 = .ok (.iload_n 2, 1) := by decide +kernel
theorem dX7_put_13 : decode cX7_put 13 = .ok (.invokestatic 279, 3) := by decide +kernel
theorem dX7_put_16 : decode cX7_put 16 = .ok (.ifCond .ne 6, 3) := by decide +kernel
theorem dX7_put_19 : decode cX7_put 19 = .ok (.bipush (-2), 2) := by decide +kernel
theorem dX7_put_21 : decode cX7_put 21 = .ok (.ireturn, 1) := by decide +kernel
theorem dX7_put_22 : decode cX7_put 22 = .ok (.aload 5, 2) := by decide +kernel
theorem dX7_put_24 : decode cX7_put 24 = .ok (.iload_n 2, 1) := by decide +kernel
theorem dX7_put_25 : decode cX7_put 25 = .ok (.iload_n 3, 1) := by decide +kernel
theorem dX7_put_26 : decode cX7_put 26 = .ok (.invokevirtual 286, 3) := by decide +kernel
theorem dX7_put_29 : decode cX7_put 29 = .ok (.istore 6, 2) := by decide +kernel
theorem dX7_put_31 : decode cX7_put 31 = .ok (.iload 6, 2) := by decide +kernel
theorem dX7_put_33 : decode cX7_put 33 = .ok (.ifCond .eq 10, 3) := by decide +kernel
theorem dX7_put_36 : decode cX7_put 36 = .ok (.aload_n 0, 1) := by decide +kernel
theorem dX7_put_37 : decode cX7_put 37 = .ok (.iload 6, 2) := by decide +kernel
theorem dX7_put_39 : decode cX7_put 39 = .ok (.invokevirtual 160, 3) := by decide +kernel
theorem dX7_put_42 : decode cX7_put 42 = .ok (.ireturn, 1) := by decide +kernel
theorem dX7_put_43 : decode cX7_put 43 = .ok (.aload 5, 2) := by decide +kernel
theorem dX7_put_45 : decode cX7_put 45 = .ok (.iload_n 3, 1) := by decide +kernel
theorem dX7_put_46 : decode cX7_put 46 = .ok (.iload 4, 2) := by decide +kernel
theorem dX7_put_48 : decode cX7_put 48 = .ok (.invokevirtual 289, 3) := by decide +kernel
theorem dX7_put_51 : decode cX7_put 51 = .ok (.iconst 1, 1) := by decide +kernel
theorem dX7_put_52 : decode cX7_put 52 = .ok (.ireturn, 1) := by decide +kernel
theorem dX7_get_0 : decode cX7_get 0 = .ok (.aload_n 0, 1) := by decide +kernel
theorem dX7_get_1 : decode cX7_get 1 = .ok (.iload_n 1, 1) := by decide +kernel
theorem dX7_get_2 : decode cX7_get 2 = .ok (.invokevirtual 153, 3) := by decide +kernel
theorem dX7_get_5 : decode cX7_get 5 = .ok (.astore 4, 2) := by decide +kernel
theorem dX7_get_7 : decode cX7_get 7 = .ok (.aload 4, 2) := by decide +kernel
theorem dX7_get_9 : decode cX7_get 9 = .ok (.ifnull 10, 3) := by decide +kernel
theorem dX7_get_12 : decode cX7_get 12 = .ok (.iload_n 2, 1) := by decide +kernel
theorem dX7_get_13 : decode cX7_get 13 = .ok (.invokestatic 279, 3) := by decide +kernel
theorem dX7_get_16 : decode cX7_get 16 = .ok (.ifCond .ne 7, 3) := by decide +kernel
theorem dX7_get_19 : decode cX7_get 19 = .ok (.ldc_w 292, 3) := by decide +kernel
theorem dX7_get_22 : decode cX7_get 22 = .ok (.ireturn, 1) := by decide +kernel
theorem dX7_get_23 : decode cX7_get 23 = .ok (.aload 4, 2) := by decide +kernel
theorem dX7_get_25 : decode cX7_get 25 = .ok (.iload_n 2, 1) := by decide +kernel
theorem dX7_get_26 : decode cX7_get 26 = .ok (.iload_n 3, 1) := by decide +kernel
theorem dX7_get_27 : decode cX7_get 27 = .ok (.invokevirtual 286, 3) := by decide +kernel
theorem dX7_get_30 : decode cX7_get 30 = .ok (.istore 5, 2) := by decide +kernel
theorem dX7_get_32 : decode cX7_get 32 = .ok (.iload 5, 2) := by decide +kernel
theorem dX7_get_34 : decode cX7_get 34 = .ok (.ifCond .eq 13, 3) := by decide +kernel
theorem dX7_get_37 : decode cX7_get 37 = .ok (.aload_n 0, 1) := by decide +kernel
theorem dX7_get_38 : decode cX7_get 38 = .ok (.iload 5, 2) := by decide +kernel
theorem dX7_get_40 : decode cX7_get 40 = .ok (.putfield 100, 3) := by decide +kernel
theorem dX7_get_43 : decode cX7_get 43 = .ok (.ldc_w 292, 3) := by decide +kernel
theorem dX7_get_46 : decode cX7_get 46 = .ok (.ireturn, 1) := by decide +kernel
theorem dX7_get_47 : decode cX7_get 47 = .ok (.aload 4, 2) := by decide +kernel
theorem dX7_get_49 : decode cX7_get 49 = .ok (.getfield 164, 3) := by decide +kernel
theorem dX7_get_52 : decode cX7_get 52 = .ok (.iload_n 3, 1) := by decide +kernel
theorem dX7_get_53 : decode cX7_get 53 = .ok (.iaload, 1) := by decide +kernel
theorem dX7_get_54 : decode cX7_get 54 = .ok (.ireturn, 1) := by decide +kernel
theorem dX7_copy_0 : decode cX7_copy 0 = .ok (.aload_n 0, 1) := by decide +kernel
theorem dX7_copy_1 : decode cX7_copy 1 = .ok (.iload_n 1, 1) := by decide +kernel
theorem dX7_copy_2 : decode cX7_copy 2 = .ok (.invokevirtual 153, 3) := by decide +kernel
theorem dX7_copy_5 : decode cX7_copy 5 = .ok (.astore 6, 2) := by decide +kernel
theorem dX7_copy_7 : decode cX7_copy 7 = .ok (.aload_n 0, 1) := by decide +kernel
theorem dX7_copy_8 : decode cX7_copy 8 = .ok (.iload_n 3, 1) := by decide +kernel
theorem dX7_copy_9 : decode cX7_copy 9 = .ok (.invokevirtual 153, 3) := by decide +kernel
theorem dX7_copy_12 : decode cX7_copy 12 = .ok (.astore 7, 2) := by decide +kernel
theorem dX7_copy_14 : decode cX7_copy 14 = .ok (.aload 6, 2) := by decide +kernel
theorem dX7_copy_16 : decode cX7_copy 16 = .ok (.ifnull 8, 3) := by decide +kernel
theorem dX7_copy_19 : decode cX7_copy 19 = .ok (.aload 7, 2) := by decide +kernel
theorem dX7_copy_21 : decode cX7_copy 21 = .ok (.ifnonnull 6, 3) := by decide +kernel
theorem dX7_copy_24 : decode cX7_copy 24 = .ok (.bipush (-2), 2) := by decide +kernel
theorem dX7_copy_26 : decode cX7_copy 26 = .ok (.ireturn, 1) := by decide +kernel
theorem dX7_copy_27 : decode cX7_copy 27 = .ok (.aload 6, 2) := by decide +kernel
theorem dX7_copy_29 : decode cX7_copy 29 = .ok (.getfield 157, 3) := by decide +kernel
theorem dX7_copy_32 : decode cX7_copy 32 = .ok (.ifCond .ne 11, 3) := by decide +kernel
theorem dX7_copy_35 : decode cX7_copy 35 = .ok (.aload 7, 2) := by decide +kernel
theorem dX7_copy_37 : decode cX7_copy 37 = .ok (.getfield 157, 3) := by decide +kernel
theorem dX7_copy_40 : decode cX7_copy 40 = .ok (.ifCond .eq 9, 3) := by decide +kernel
theorem dX7_copy_43 : decode cX7_copy 43 = .ok (.aload_n 0, 1) := by decide +kernel
theorem dX7_copy_44 : decode cX7_copy 44 = .ok (.iconst 1, 1) := by decide +kernel
theorem dX7_copy_45 : decode cX7_copy 45 = .ok (.invokevirtual 160, 3) := by decide +kernel
theorem dX7_copy_48 : decode cX7_copy 48 = .ok (.ireturn, 1) := by decide +kernel
theorem dX7_copy_49 : decode cX7_copy 49 = .ok (.aload 6, 2) := by decide +kernel
theorem dX7_copy_51 : decode cX7_copy 51 = .ok (.getfield 293, 3) := by decide +kernel
theorem dX7_copy_54 : decode cX7_copy 54 = .ok (.aload 7, 2) := by decide +kernel
theorem dX7_copy_56 : decode cX7_copy 56 = .ok (.getfield 293, 3) := by decide +kernel
theorem dX7_copy_59 : decode cX7_copy 59 = .ok (.if_icmp .eq 9, 3) := by decide +kernel
theorem dX7_copy_62 : decode cX7_copy 62 = .ok (.aload_n 0, 1) := by decide +kernel
theorem dX7_copy_63 : decode cX7_copy 63 = .ok (.iconst 4, 1) := by decide +kernel
theorem dX7_copy_64 : decode cX7_copy 64 = .ok (.invokevirtual 160, 3) := by decide +kernel
theorem dX7_copy_67 : decode cX7_copy 67 = .ok (.ireturn, 1) := by decide +kernel
theorem dX7_copy_68 : decode cX7_copy 68 = .ok (.aload 6, 2) := by decide +kernel
theorem dX7_copy_70 : decode cX7_copy 70 = .ok (.iload_n 2, 1) := by decide +kernel
theorem dX7_copy_71 : decode cX7_copy 71 = .ok (.iload 5, 2) := by decide +kernel
theorem dX7_copy_73 : decode cX7_copy 73 = .ok (.invokevirtual 296, 3) := by decide +kernel
theorem dX7_copy_76 : decode cX7_copy 76 = .ok (.ifCond .eq 15, 3) := by decide +kernel
theorem dX7_copy_79 : decode cX7_copy 79 = .ok (.aload 7, 2) := by decide +kernel
theorem dX7_copy_81 : decode cX7_copy 81 = .ok (.iload 4, 2) := by decide +kernel
theorem dX7_copy_83 : decode cX7_copy 83 = .ok (.iload 5, 2) := by decide +kernel
theorem dX7_copy_85 : decode cX7_copy 85 = .ok (.invokevirtual 296, 3) := by decide +kernel
theorem dX7_copy_88 : decode cX7_copy 88 = .ok (.ifCond .ne 9, 3) := by decide +kernel
theorem dX7_copy_91 : decode cX7_copy 91 = .ok (.aload_n 0, 1) := by decide +kernel
theorem dX7_copy_92 : decode cX7_copy 92 = .ok (.iconst 2, 1) := by decide +kernel
theorem dX7_copy_93 : decode cX7_copy 93 = .ok (.invokevirtual 160, 3) := by decide +kernel
theorem dX7_copy_96 : decode cX7_copy 96 = .ok (.ireturn, 1) := by decide +kernel
theorem dX7_copy_97 : decode cX7_copy 97 = .ok (.aload 6, 2) := by decide +kernel
theorem dX7_copy_99 : decode cX7_copy 99 = .ok (.getfield 164, 3) := by decide +kernel
theorem dX7_copy_102 : decode cX7_copy 102 = .ok (.iload_n 2, 1) := by decide +kernel
theorem dX7_copy_103 : decode cX7_copy 103 = .ok (.aload 7, 2) := by decide +kernel
theorem dX7_copy_105 : decode cX7_copy 105 = .ok (.getfield 164, 3) := by decide +kernel
theorem dX7_copy_108 : decode cX7_copy 108 = .ok (.iload 4, 2) := by decide +kernel
theorem dX7_copy_110 : decode cX7_copy 110 = .ok (.iload 5, 2) := by decide +kernel
theorem dX7_copy_112 : decode cX7_copy 112 = .ok (.invokestatic 299, 3) := by decide +kernel
theorem dX7_copy_115 : decode cX7_copy 115 = .ok (.iconst 1, 1) := by decide +kernel
theorem dX7_copy_116 : decode cX7_copy 116 = .ok (.ireturn, 1) := by decide +kernel
theorem dX7_write_0 : decode cX7_write 0 = .ok (.aload_n 0, 1) := by decide +kernel
theorem dX7_write_1 : decode cX7_write 1 = .ok (.iload_n 2, 1) := by decide +kernel
theorem dX7_write_2 : decode cX7_write 2 = .ok (.invokevirtual 153, 3) := by decide +kernel
theorem dX7_write_5 : decode cX7_write 5 = .ok (.astore_n 3, 1) := by decide +kernel
theorem dX7_write_6 : decode cX7_write 6 = .ok (.iload_n 1, 1) := by decide +kernel
theorem dX7_write_7 : decode cX7_write 7 = .ok (.invokestatic 191, 3) := by decide +kernel
theorem dX7_write_10 : decode cX7_write 10 = .ok (.ifCond .eq 7, 3) := by decide +kernel
theorem dX7_write_13 : decode cX7_write 13 = .ok (.aload_n 3, 1) := by decide +kernel
theorem dX7_write_14 : decode cX7_write 14 = .ok (.ifnonnull 6, 3) := by decide +kernel
theorem dX7_write_17 : decode cX7_write 17 = .ok (.bipush (-2), 2) := by decide +kernel
theorem dX7_write_19 : decode cX7_write 19 = .ok (.ireturn, 1) := by decide +kernel
theorem dX7_write_20 : decode cX7_write 20 = .ok (.aload_n 3, 1) := by decide +kernel
theorem dX7_write_21 : decode cX7_write 21 = .ok (.getfield 157, 3) := by decide +kernel
theorem dX7_write_24 : decode cX7_write 24 = .ok (.ifCond .eq 9, 3) := by decide +kernel
theorem dX7_write_27 : decode cX7_write 27 = .ok (.aload_n 0, 1) := by decide +kernel
theorem dX7_write_28 : decode cX7_write 28 = .ok (.iconst 1, 1) := by decide +kernel
theorem dX7_write_29 : decode cX7_write 29 = .ok (.invokevirtual 160, 3) := by decide +kernel
theorem dX7_write_32 : decode cX7_write 32 = .ok (.ireturn, 1) := by decide +kernel
theorem dX7_write_33 : decode cX7_write 33 = .ok (.aload_n 0, 1) := by decide +kernel
theorem dX7_write_34 : decode cX7_write 34 = .ok (.invokevirtual 172, 3) := by decide +kernel
theorem dX7_write_37 : decode cX7_write 37 = .ok (.getfield 182, 3) := by decide +kernel
theorem dX7_write_40 : decode cX7_write 40 = .ok (.iload_n 1, 1) := by decide +kernel
theorem dX7_write_41 : decode cX7_write 41 = .ok (.aaload, 1) := by decide +kernel
theorem dX7_write_42 : decode cX7_write 42 = .ok (.astore 4, 2) := by decide +kernel
theorem dX7_write_44 : decode cX7_write 44 = .ok (.aload_n 3, 1) := by decide +kernel
theorem dX7_write_45 : decode cX7_write 45 = .ok (.getfield 163, 3) := by decide +kernel
theorem dX7_write_48 : decode cX7_write 48 = .ok (.bipush 24, 2) := by decide +kernel
theorem dX7_write_50 : decode cX7_write 50 = .ok (.invokestatic 305, 3) := by decide +kernel
theorem dX7_write_53 : decode cX7_write 53 = .ok (.istore 5, 2) := by decide +kernel
theorem dX7_write_55 : decode cX7_write 55 = .ok (.iconst 0, 1) := by decide +kernel
theorem dX7_write_56 : decode cX7_write 56 = .ok (.istore 6, 2) := by decide +kernel
theorem dX7_write_58 : decode cX7_write 58 = .ok (.iload 6, 2) := by decide +kernel
theorem dX7_write_60 : decode cX7_write 60 = .ok (.iload 5, 2) := by decide +kernel
theorem dX7_write_62 : decode cX7_write 62 = .ok (.if_icmp .ge 20, 3) := by decide +kernel
theorem dX7_write_65 : decode cX7_write 65 = .ok (.aload_n 3, 1) := by decide +kernel
theorem dX7_write_66 : decode cX7_write 66 = .ok (.iload 6, 2) := by decide +kernel
theorem dX7_write_68 : decode cX7_write 68 = .ok (.aload 4, 2) := by decide +kernel
theorem dX7_write_70 : decode cX7_write 70 = .ok (.iload 6, 2) := by decide +kernel
theorem dX7_write_72 : decode cX7_write 72 = .ok (.iaload, 1) := by decide +kernel
theorem dX7_write_73 : decode cX7_write 73 = .ok (.invokevirtual 289, 3) := by decide +kernel
theorem dX7_write_76 : decode cX7_write 76 = .ok (.iinc 6 1, 3) := by decide +kernel
theorem dX7_write_79 : decode cX7_write 79 = .ok (.goto (-21), 3) := by decide +kernel
theorem dX7_write_82 : decode cX7_write 82 = .ok (.iload 5, 2) := by decide +kernel
theorem dX7_write_84 : decode cX7_write 84 = .ok (.ireturn, 1) := by decide +kernel
theorem dX7_count_0 : decode cX7_count 0 = .ok (.iload_n 1, 1) := by decide +kernel
theorem dX7_count_1 : decode cX7_count 1 = .ok (.tableswitch 132 0 8 #[51, 59, 67, 87, 95, 103, 111, 119, 127], 51) := by decide +kernel
theorem dX7_count_52 : decode cX7_count 52 = .ok (.aload_n 0, 1) := by decide +kernel
theorem dX7_count_53 : decode cX7_count 53 = .ok (.getfield 31, 3) := by decide +kernel
theorem dX7_count_56 : decode cX7_count 56 = .ok (.getfield 135, 3) := by decide +kernel
theorem dX7_count_59 : decode cX7_count 59 = .ok (.ireturn, 1) := by decide +kernel
theorem dX7_count_60 : decode cX7_count 60 = .ok (.aload_n 0, 1) := by decide +kernel
theorem dX7_count_61 : decode cX7_count 61 = .ok (.getfield 37, 3) := by decide +kernel
theorem dX7_count_64 : decode cX7_count 64 = .ok (.getfield 135, 3) := by decide +kernel
theorem dX7_count_67 : decode cX7_count 67 = .ok (.ireturn, 1) := by decide +kernel
theorem dX7_count_68 : decode cX7_count 68 = .ok (.aload_n 0, 1) := by decide +kernel
theorem dX7_count_69 : decode cX7_count 69 = .ok (.getfield 92, 3) := by decide +kernel
theorem dX7_count_72 : decode cX7_count 72 = .ok (.iconst (-1), 1) := by decide +kernel
theorem dX7_count_73 : decode cX7_count 73 = .ok (.if_icmp .ne 13, 3) := by decide +kernel
theorem dX7_count_76 : decode cX7_count 76 = .ok (.aload_n 0, 1) := by decide +kernel
theorem dX7_count_77 : decode cX7_count 77 = .ok (.getfield 21, 3) := by decide +kernel
theorem dX7_count_80 : decode cX7_count 80 = .ok (.getfield 121, 3) := by decide +kernel
theorem dX7_count_83 : decode cX7_count 83 = .ok (.goto 4, 3) := by decide +kernel
theorem dX7_count_86 : decode cX7_count 86 = .ok (.iconst 0, 1) := by decide +kernel
theorem dX7_count_87 : decode cX7_count 87 = .ok (.ireturn, 1) := by decide +kernel
theorem dX7_count_88 : decode cX7_count 88 = .ok (.aload_n 0, 1) := by decide +kernel
theorem dX7_count_89 : decode cX7_count 89 = .ok (.getfield 14, 3) := by decide +kernel
theorem dX7_count_92 : decode cX7_count 92 = .ok (.getfield 121, 3) := by decide +kernel
theorem dX7_count_95 : decode cX7_count 95 = .ok (.ireturn, 1) := by decide +kernel
theorem dX7_count_96 : decode cX7_count 96 = .ok (.aload_n 0, 1) := by decide +kernel
theorem dX7_count_97 : decode cX7_count 97 = .ok (.getfield 18, 3) := by decide +kernel
theorem dX7_count_100 : decode cX7_count 100 = .ok (.getfield 121, 3) := by decide +kernel
theorem dX7_count_103 : decode cX7_count 103 = .ok (.ireturn, 1) := by decide +kernel
theorem dX7_count_104 : decode cX7_count 104 = .ok (.aload_n 0, 1) := by decide +kernel
theorem dX7_count_105 : decode cX7_count 105 = .ok (.getfield 21, 3) := by decide +kernel
theorem dX7_count_108 : decode cX7_count 108 = .ok (.getfield 121, 3) := by decide +kernel
theorem dX7_count_111 : decode cX7_count 111 = .ok (.ireturn, 1) := by decide +kernel
theorem dX7_count_112 : decode cX7_count 112 = .ok (.aload_n 0, 1) := by decide +kernel
theorem dX7_count_113 : decode cX7_count 113 = .ok (.getfield 43, 3) := by decide +kernel
theorem dX7_count_116 : decode cX7_count 116 = .ok (.getfield 152, 3) := by decide +kernel
theorem dX7_count_119 : decode cX7_count 119 = .ok (.ireturn, 1) := by decide +kernel
theorem dX7_count_120 : decode cX7_count 120 = .ok (.aload_n 0, 1) := by decide +kernel
theorem dX7_count_121 : decode cX7_count 121 = .ok (.getfield 50, 3) := by decide +kernel
theorem dX7_count_124 : decode cX7_count 124 = .ok (.getfield 250, 3) := by decide +kernel
theorem dX7_count_127 : decode cX7_count 127 = .ok (.ireturn, 1) := by decide +kernel
theorem dX7_count_128 : decode cX7_count 128 = .ok (.aload_n 0, 1) := by decide +kernel
theorem dX7_count_129 : decode cX7_count 129 = .ok (.getfield 100, 3) := by decide +kernel
theorem dX7_count_132 : decode cX7_count 132 = .ok (.ireturn, 1) := by decide +kernel
theorem dX7_count_133 : decode cX7_count 133 = .ok (.bipush (-2), 2) := by decide +kernel
theorem dX7_count_135 : decode cX7_count 135 = .ok (.ireturn, 1) := by decide +kernel
theorem dX7_digest_0 : decode cX7_digest 0 = .ok (.aload_n 0, 1) := by decide +kernel
theorem dX7_digest_1 : decode cX7_digest 1 = .ok (.ldc2_w 310, 3) := by decide +kernel
theorem dX7_digest_4 : decode cX7_digest 4 = .ok (.invokevirtual 312, 3) := by decide +kernel
theorem dX7_digest_7 : decode cX7_digest 7 = .ok (.lstore_n 1, 1) := by decide +kernel
theorem dX7_digest_8 : decode cX7_digest 8 = .ok (.iconst 0, 1) := by decide +kernel
theorem dX7_digest_9 : decode cX7_digest 9 = .ok (.istore_n 3, 1) := by decide +kernel
theorem dX7_digest_10 : decode cX7_digest 10 = .ok (.iload_n 3, 1) := by decide +kernel
theorem dX7_digest_11 : decode cX7_digest 11 = .ok (.aload_n 0, 1) := by decide +kernel
theorem dX7_digest_12 : decode cX7_digest 12 = .ok (.getfield 31, 3) := by decide +kernel
theorem dX7_digest_15 : decode cX7_digest 15 = .ok (.getfield 135, 3) := by decide +kernel
theorem dX7_digest_18 : decode cX7_digest 18 = .ok (.if_icmp .ge 168, 3) := by decide +kernel
theorem dX7_digest_21 : decode cX7_digest 21 = .ok (.iconst 0, 1) := by decide +kernel
theorem dX7_digest_22 : decode cX7_digest 22 = .ok (.istore 4, 2) := by decide +kernel
theorem dX7_digest_24 : decode cX7_digest 24 = .ok (.iload 4, 2) := by decide +kernel
theorem dX7_digest_26 : decode cX7_digest 26 = .ok (.iconst 2, 1) := by decide +kernel
theorem dX7_digest_27 : decode cX7_digest 27 = .ok (.if_icmp .gt 22, 3) := by decide +kernel
theorem dX7_digest_30 : decode cX7_digest 30 = .ok (.lload_n 1, 1) := by decide +kernel
theorem dX7_digest_31 : decode cX7_digest 31 = .ok (.aload_n 0, 1) := by decide +kernel
theorem dX7_digest_32 : decode cX7_digest 32 = .ok (.iload_n 3, 1) := by decide +kernel
theorem dX7_digest_33 : decode cX7_digest 33 = .ok (.iload 4, 2) := by decide +kernel
theorem dX7_digest_35 : decode cX7_digest 35 = .ok (.invokevirtual 316, 3) := by decide +kernel
theorem dX7_digest_38 : decode cX7_digest 38 = .ok (.i2l, 1) := by decide +kernel
theorem dX7_digest_39 : decode cX7_digest 39 = .ok (.invokestatic 319, 3) := by decide +kernel
theorem dX7_digest_42 : decode cX7_digest 42 = .ok (.lstore_n 1, 1) := by decide +kernel
theorem dX7_digest_43 : decode cX7_digest 43 = .ok (.iinc 4 1, 3) := by decide +kernel
theorem dX7_digest_46 : decode cX7_digest 46 = .ok (.goto (-22), 3) := by decide +kernel
theorem dX7_digest_49 : decode cX7_digest 49 = .ok (.getstatic 323, 3) := by decide +kernel
theorem dX7_digest_52 : decode cX7_digest 52 = .ok (.astore 4, 2) := by decide +kernel
theorem dX7_digest_54 : decode cX7_digest 54 = .ok (.aload 4, 2) := by decide +kernel
theorem dX7_digest_56 : decode cX7_digest 56 = .ok (.arraylength, 1) := by decide +kernel
theorem dX7_digest_57 : decode cX7_digest 57 = .ok (.istore 5, 2) := by decide +kernel
theorem dX7_digest_59 : decode cX7_digest 59 = .ok (.iconst 0, 1) := by decide +kernel
theorem dX7_digest_60 : decode cX7_digest 60 = .ok (.istore 6, 2) := by decide +kernel
theorem dX7_digest_62 : decode cX7_digest 62 = .ok (.iload 6, 2) := by decide +kernel
theorem dX7_digest_64 : decode cX7_digest 64 = .ok (.iload 5, 2) := by decide +kernel
theorem dX7_digest_66 : decode cX7_digest 66 = .ok (.if_icmp .ge 44, 3) := by decide +kernel
theorem dX7_digest_69 : decode cX7_digest 69 = .ok (.aload 4, 2) := by decide +kernel
theorem dX7_digest_71 : decode cX7_digest 71 = .ok (.iload 6, 2) := by decide +kernel
theorem dX7_digest_73 : decode cX7_digest 73 = .ok (.iaload, 1) := by decide +kernel
theorem dX7_digest_74 : decode cX7_digest 74 = .ok (.istore 7, 2) := by decide +kernel
theorem dX7_digest_76 : decode cX7_digest 76 = .ok (.lload_n 1, 1) := by decide +kernel
theorem dX7_digest_77 : decode cX7_digest 77 = .ok (.aload_n 0, 1) := by decide +kernel
theorem dX7_digest_78 : decode cX7_digest 78 = .ok (.iload 7, 2) := by decide +kernel
theorem dX7_digest_80 : decode cX7_digest 80 = .ok (.iload_n 3, 1) := by decide +kernel
theorem dX7_digest_81 : decode cX7_digest 81 = .ok (.iconst 0, 1) := by decide +kernel
theorem dX7_digest_82 : decode cX7_digest 82 = .ok (.invokevirtual 326, 3) := by decide +kernel
theorem dX7_digest_85 : decode cX7_digest 85 = .ok (.i2l, 1) := by decide +kernel
theorem dX7_digest_86 : decode cX7_digest 86 = .ok (.invokestatic 319, 3) := by decide +kernel
theorem dX7_digest_89 : decode cX7_digest 89 = .ok (.lstore_n 1, 1) := by decide +kernel
theorem dX7_digest_90 : decode cX7_digest 90 = .ok (.lload_n 1, 1) := by decide +kernel
theorem dX7_digest_91 : decode cX7_digest 91 = .ok (.aload_n 0, 1) := by decide +kernel
theorem dX7_digest_92 : decode cX7_digest 92 = .ok (.iload 7, 2) := by decide +kernel
theorem dX7_digest_94 : decode cX7_digest 94 = .ok (.iload_n 3, 1) := by decide +kernel
theorem dX7_digest_95 : decode cX7_digest 95 = .ok (.iconst 1, 1) := by decide +kernel
theorem dX7_digest_96 : decode cX7_digest 96 = .ok (.invokevirtual 326, 3) := by decide +kernel
theorem dX7_digest_99 : decode cX7_digest 99 = .ok (.i2l, 1) := by decide +kernel
theorem dX7_digest_100 : decode cX7_digest 100 = .ok (.invokestatic 319, 3) := by decide +kernel
theorem dX7_digest_103 : decode cX7_digest 103 = .ok (.lstore_n 1, 1) := by decide +kernel
theorem dX7_digest_104 : decode cX7_digest 104 = .ok (.iinc 6 1, 3) := by decide +kernel
theorem dX7_digest_107 : decode cX7_digest 107 = .ok (.goto (-45), 3) := by decide +kernel
theorem dX7_digest_110 : decode cX7_digest 110 = .ok (.lload_n 1, 1) := by decide +kernel
theorem dX7_digest_111 : decode cX7_digest 111 = .ok (.aload_n 0, 1) := by decide +kernel
theorem dX7_digest_112 : decode cX7_digest 112 = .ok (.iload_n 3, 1) := by decide +kernel
theorem dX7_digest_113 : decode cX7_digest 113 = .ok (.invokevirtual 329, 3) := by decide +kernel
theorem dX7_digest_116 : decode cX7_digest 116 = .ok (.i2l, 1) := by decide +kernel
theorem dX7_digest_117 : decode cX7_digest 117 = .ok (.invokestatic 319, 3) := by decide +kernel
theorem dX7_digest_120 : decode cX7_digest 120 = .ok (.lstore_n 1, 1) := by decide +kernel
theorem dX7_digest_121 : decode cX7_digest 121 = .ok (.lload_n 1, 1) := by decide +kernel
theorem dX7_digest_122 : decode cX7_digest 122 = .ok (.aload_n 0, 1) := by decide +kernel
theorem dX7_digest_123 : decode cX7_digest 123 = .ok (.iload_n 3, 1) := by decide +kernel
theorem dX7_digest_124 : decode cX7_digest 124 = .ok (.iconst 0, 1) := by decide +kernel
theorem dX7_digest_125 : decode cX7_digest 125 = .ok (.invokevirtual 332, 3) := by decide +kernel
theorem dX7_digest_128 : decode cX7_digest 128 = .ok (.i2l, 1) := by decide +kernel
theorem dX7_digest_129 : decode cX7_digest 129 = .ok (.invokestatic 319, 3) := by decide +kernel
theorem dX7_digest_132 : decode cX7_digest 132 = .ok (.lstore_n 1, 1) := by decide +kernel
theorem dX7_digest_133 : decode cX7_digest 133 = .ok (.lload_n 1, 1) := by decide +kernel
theorem dX7_digest_134 : decode cX7_digest 134 = .ok (.aload_n 0, 1) := by decide +kernel
theorem dX7_digest_135 : decode cX7_digest 135 = .ok (.iload_n 3, 1) := by decide +kernel
theorem dX7_digest_136 : decode cX7_digest 136 = .ok (.iconst 1, 1) := by decide +kernel
theorem dX7_digest_137 : decode cX7_digest 137 = .ok (.invokevirtual 332, 3) := by decide +kernel
theorem dX7_digest_140 : decode cX7_digest 140 = .ok (.i2l, 1) := by decide +kernel
theorem dX7_digest_141 : decode cX7_digest 141 = .ok (.invokestatic 319, 3) := by decide +kernel
theorem dX7_digest_144 : decode cX7_digest 144 = .ok (.lstore_n 1, 1) := by decide +kernel
theorem dX7_digest_145 : decode cX7_digest 145 = .ok (.lload_n 1, 1) := by decide +kernel
theorem dX7_digest_146 : decode cX7_digest 146 = .ok (.aload_n 0, 1) := by decide +kernel
theorem dX7_digest_147 : decode cX7_digest 147 = .ok (.iload_n 3, 1) := by decide +kernel
theorem dX7_digest_148 : decode cX7_digest 148 = .ok (.iconst 0, 1) := by decide +kernel
theorem dX7_digest_149 : decode cX7_digest 149 = .ok (.invokevirtual 335, 3) := by decide +kernel
theorem dX7_digest_152 : decode cX7_digest 152 = .ok (.i2l, 1) := by decide +kernel
theorem dX7_digest_153 : decode cX7_digest 153 = .ok (.invokestatic 319, 3) := by decide +kernel
theorem dX7_digest_156 : decode cX7_digest 156 = .ok (.lstore_n 1, 1) := by decide +kernel
theorem dX7_digest_157 : decode cX7_digest 157 = .ok (.lload_n 1, 1) := by decide +kernel
theorem dX7_digest_158 : decode cX7_digest 158 = .ok (.aload_n 0, 1) := by decide +kernel
theorem dX7_digest_159 : decode cX7_digest 159 = .ok (.iload_n 3, 1) := by decide +kernel
theorem dX7_digest_160 : decode cX7_digest 160 = .ok (.iconst 1, 1) := by decide +kernel
theorem dX7_digest_161 : decode cX7_digest 161 = .ok (.invokevirtual 335, 3) := by decide +kernel
theorem dX7_digest_164 : decode cX7_digest 164 = .ok (.i2l, 1) := by decide +kernel
theorem dX7_digest_165 : decode cX7_digest 165 = .ok (.invokestatic 319, 3) := by decide +kernel
theorem dX7_digest_168 : decode cX7_digest 168 = .ok (.lstore_n 1, 1) := by decide +kernel
theorem dX7_digest_169 : decode cX7_digest 169 = .ok (.lload_n 1, 1) := by decide +kernel
theorem dX7_digest_170 : decode cX7_digest 170 = .ok (.aload_n 0, 1) := by decide +kernel
theorem dX7_digest_171 : decode cX7_digest 171 = .ok (.iload_n 3, 1) := by decide +kernel
theorem dX7_digest_172 : decode cX7_digest 172 = .ok (.invokevirtual 338, 3) := by decide +kernel
theorem dX7_digest_175 : decode cX7_digest 175 = .ok (.i2l, 1) := by decide +kernel
theorem dX7_digest_176 : decode cX7_digest 176 = .ok (.invokestatic 319, 3) := by decide +kernel
theorem dX7_digest_179 : decode cX7_digest 179 = .ok (.lstore_n 1, 1) := by decide +kernel
theorem dX7_digest_180 : decode cX7_digest 180 = .ok (.iinc 3 1, 3) := by decide +kernel
theorem dX7_digest_183 : decode cX7_digest 183 = .ok (.goto (-173), 3) := by decide +kernel
theorem dX7_digest_186 : decode cX7_digest 186 = .ok (.iconst 0, 1) := by decide +kernel
theorem dX7_digest_187 : decode cX7_digest 187 = .ok (.istore_n 3, 1) := by decide +kernel
theorem dX7_digest_188 : decode cX7_digest 188 = .ok (.iload_n 3, 1) := by decide +kernel
theorem dX7_digest_189 : decode cX7_digest 189 = .ok (.iconst 2, 1) := by decide +kernel
theorem dX7_digest_190 : decode cX7_digest 190 = .ok (.if_icmp .ge 44, 3) := by decide +kernel
theorem dX7_digest_193 : decode cX7_digest 193 = .ok (.lload_n 1, 1) := by decide +kernel
theorem dX7_digest_194 : decode cX7_digest 194 = .ok (.aload_n 0, 1) := by decide +kernel
theorem dX7_digest_195 : decode cX7_digest 195 = .ok (.iload_n 3, 1) := by decide +kernel
theorem dX7_digest_196 : decode cX7_digest 196 = .ok (.invokevirtual 341, 3) := by decide +kernel
theorem dX7_digest_199 : decode cX7_digest 199 = .ok (.i2l, 1) := by decide +kernel
theorem dX7_digest_200 : decode cX7_digest 200 = .ok (.invokestatic 319, 3) := by decide +kernel
theorem dX7_digest_203 : decode cX7_digest 203 = .ok (.lstore_n 1, 1) := by decide +kernel
theorem dX7_digest_204 : decode cX7_digest 204 = .ok (.lload_n 1, 1) := by decide +kernel
theorem dX7_digest_205 : decode cX7_digest 205 = .ok (.aload_n 0, 1) := by decide +kernel
theorem dX7_digest_206 : decode cX7_digest 206 = .ok (.iload_n 3, 1) := by decide +kernel
theorem dX7_digest_207 : decode cX7_digest 207 = .ok (.iconst 0, 1) := by decide +kernel
theorem dX7_digest_208 : decode cX7_digest 208 = .ok (.invokevirtual 344, 3) := by decide +kernel
theorem dX7_digest_211 : decode cX7_digest 211 = .ok (.i2l, 1) := by decide +kernel
theorem dX7_digest_212 : decode cX7_digest 212 = .ok (.invokestatic 319, 3) := by decide +kernel
theorem dX7_digest_215 : decode cX7_digest 215 = .ok (.lstore_n 1, 1) := by decide +kernel
theorem dX7_digest_216 : decode cX7_digest 216 = .ok (.lload_n 1, 1) := by decide +kernel
theorem dX7_digest_217 : decode cX7_digest 217 = .ok (.aload_n 0, 1) := by decide +kernel
theorem dX7_digest_218 : decode cX7_digest 218 = .ok (.iload_n 3, 1) := by decide +kernel
theorem dX7_digest_219 : decode cX7_digest 219 = .ok (.iconst 1, 1) := by decide +kernel
theorem dX7_digest_220 : decode cX7_digest 220 = .ok (.invokevirtual 344, 3) := by decide +kernel
theorem dX7_digest_223 : decode cX7_digest 223 = .ok (.i2l, 1) := by decide +kernel
theorem dX7_digest_224 : decode cX7_digest 224 = .ok (.invokestatic 319, 3) := by decide +kernel
theorem dX7_digest_227 : decode cX7_digest 227 = .ok (.lstore_n 1, 1) := by decide +kernel
theorem dX7_digest_228 : decode cX7_digest 228 = .ok (.iinc 3 1, 3) := by decide +kernel
theorem dX7_digest_231 : decode cX7_digest 231 = .ok (.goto (-43), 3) := by decide +kernel
theorem dX7_digest_234 : decode cX7_digest 234 = .ok (.lload_n 1, 1) := by decide +kernel
theorem dX7_digest_235 : decode cX7_digest 235 = .ok (.aload_n 0, 1) := by decide +kernel
theorem dX7_digest_236 : decode cX7_digest 236 = .ok (.invokevirtual 347, 3) := by decide +kernel
theorem dX7_digest_239 : decode cX7_digest 239 = .ok (.i2l, 1) := by decide +kernel
theorem dX7_digest_240 : decode cX7_digest 240 = .ok (.invokestatic 319, 3) := by decide +kernel
theorem dX7_digest_243 : decode cX7_digest 243 = .ok (.lstore_n 1, 1) := by decide +kernel
theorem dX7_digest_244 : decode cX7_digest 244 = .ok (.lload_n 1, 1) := by decide +kernel
theorem dX7_digest_245 : decode cX7_digest 245 = .ok (.aload_n 0, 1) := by decide +kernel
theorem dX7_digest_246 : decode cX7_digest 246 = .ok (.iconst 0, 1) := by decide +kernel
theorem dX7_digest_247 : decode cX7_digest 247 = .ok (.invokevirtual 350, 3) := by decide +kernel
theorem dX7_digest_250 : decode cX7_digest 250 = .ok (.i2l, 1) := by decide +kernel
theorem dX7_digest_251 : decode cX7_digest 251 = .ok (.invokestatic 319, 3) := by decide +kernel
theorem dX7_digest_254 : decode cX7_digest 254 = .ok (.lstore_n 1, 1) := by decide +kernel
theorem dX7_digest_255 : decode cX7_digest 255 = .ok (.lload_n 1, 1) := by decide +kernel
theorem dX7_digest_256 : decode cX7_digest 256 = .ok (.aload_n 0, 1) := by decide +kernel
theorem dX7_digest_257 : decode cX7_digest 257 = .ok (.iconst 1, 1) := by decide +kernel
theorem dX7_digest_258 : decode cX7_digest 258 = .ok (.invokevirtual 350, 3) := by decide +kernel
theorem dX7_digest_261 : decode cX7_digest 261 = .ok (.i2l, 1) := by decide +kernel
theorem dX7_digest_262 : decode cX7_digest 262 = .ok (.invokestatic 319, 3) := by decide +kernel
theorem dX7_digest_265 : decode cX7_digest 265 = .ok (.lstore_n 1, 1) := by decide +kernel
theorem dX7_digest_266 : decode cX7_digest 266 = .ok (.lload_n 1, 1) := by decide +kernel
theorem dX7_digest_267 : decode cX7_digest 267 = .ok (.aload_n 0, 1) := by decide +kernel
theorem dX7_digest_268 : decode cX7_digest 268 = .ok (.invokevirtual 353, 3) := by decide +kernel
theorem dX7_digest_271 : decode cX7_digest 271 = .ok (.i2l, 1) := by decide +kernel
theorem dX7_digest_272 : decode cX7_digest 272 = .ok (.invokestatic 319, 3) := by decide +kernel
theorem dX7_digest_275 : decode cX7_digest 275 = .ok (.lstore_n 1, 1) := by decide +kernel
theorem dX7_digest_276 : decode cX7_digest 276 = .ok (.lload_n 1, 1) := by decide +kernel
theorem dX7_digest_277 : decode cX7_digest 277 = .ok (.aload_n 0, 1) := by decide +kernel
theorem dX7_digest_278 : decode cX7_digest 278 = .ok (.invokevirtual 356, 3) := by decide +kernel
theorem dX7_digest_281 : decode cX7_digest 281 = .ok (.i2l, 1) := by decide +kernel
theorem dX7_digest_282 : decode cX7_digest 282 = .ok (.invokestatic 319, 3) := by decide +kernel
theorem dX7_digest_285 : decode cX7_digest 285 = .ok (.lstore_n 1, 1) := by decide +kernel
theorem dX7_digest_286 : decode cX7_digest 286 = .ok (.lload_n 1, 1) := by decide +kernel
theorem dX7_digest_287 : decode cX7_digest 287 = .ok (.aload_n 0, 1) := by decide +kernel
theorem dX7_digest_288 : decode cX7_digest 288 = .ok (.bipush 8, 2) := by decide +kernel
theorem dX7_digest_290 : decode cX7_digest 290 = .ok (.iconst 0, 1) := by decide +kernel
theorem dX7_digest_291 : decode cX7_digest 291 = .ok (.invokevirtual 359, 3) := by decide +kernel
theorem dX7_digest_294 : decode cX7_digest 294 = .ok (.i2l, 1) := by decide +kernel
theorem dX7_digest_295 : decode cX7_digest 295 = .ok (.invokestatic 319, 3) := by decide +kernel
theorem dX7_digest_298 : decode cX7_digest 298 = .ok (.lstore_n 1, 1) := by decide +kernel
theorem dX7_digest_299 : decode cX7_digest 299 = .ok (.lload_n 1, 1) := by decide +kernel
theorem dX7_digest_300 : decode cX7_digest 300 = .ok (.aload_n 0, 1) := by decide +kernel
theorem dX7_digest_301 : decode cX7_digest 301 = .ok (.bipush 8, 2) := by decide +kernel
theorem dX7_digest_303 : decode cX7_digest 303 = .ok (.iconst 1, 1) := by decide +kernel
theorem dX7_digest_304 : decode cX7_digest 304 = .ok (.invokevirtual 359, 3) := by decide +kernel
theorem dX7_digest_307 : decode cX7_digest 307 = .ok (.i2l, 1) := by decide +kernel
theorem dX7_digest_308 : decode cX7_digest 308 = .ok (.invokestatic 319, 3) := by decide +kernel
theorem dX7_digest_311 : decode cX7_digest 311 = .ok (.lstore_n 1, 1) := by decide +kernel
theorem dX7_digest_312 : decode cX7_digest 312 = .ok (.lload_n 1, 1) := by decide +kernel
theorem dX7_digest_313 : decode cX7_digest 313 = .ok (.aload_n 0, 1) := by decide +kernel
theorem dX7_digest_314 : decode cX7_digest 314 = .ok (.bipush 8, 2) := by decide +kernel
theorem dX7_digest_316 : decode cX7_digest 316 = .ok (.iconst 0, 1) := by decide +kernel
theorem dX7_digest_317 : decode cX7_digest 317 = .ok (.invokevirtual 361, 3) := by decide +kernel
theorem dX7_digest_320 : decode cX7_digest 320 = .ok (.i2l, 1) := by decide +kernel
theorem dX7_digest_321 : decode cX7_digest 321 = .ok (.invokestatic 319, 3) := by decide +kernel
theorem dX7_digest_324 : decode cX7_digest 324 = .ok (.lstore_n 1, 1) := by decide +kernel
theorem dX7_digest_325 : decode cX7_digest 325 = .ok (.lload_n 1, 1) := by decide +kernel
theorem dX7_digest_326 : decode cX7_digest 326 = .ok (.aload_n 0, 1) := by decide +kernel
theorem dX7_digest_327 : decode cX7_digest 327 = .ok (.bipush 8, 2) := by decide +kernel
theorem dX7_digest_329 : decode cX7_digest 329 = .ok (.iconst 1, 1) := by decide +kernel
theorem dX7_digest_330 : decode cX7_digest 330 = .ok (.invokevirtual 361, 3) := by decide +kernel
theorem dX7_digest_333 : decode cX7_digest 333 = .ok (.i2l, 1) := by decide +kernel
theorem dX7_digest_334 : decode cX7_digest 334 = .ok (.invokestatic 319, 3) := by decide +kernel
theorem dX7_digest_337 : decode cX7_digest 337 = .ok (.lstore_n 1, 1) := by decide +kernel
theorem dX7_digest_338 : decode cX7_digest 338 = .ok (.lload_n 1, 1) := by decide +kernel
theorem dX7_digest_339 : decode cX7_digest 339 = .ok (.aload_n 0, 1) := by decide +kernel
theorem dX7_digest_340 : decode cX7_digest 340 = .ok (.iconst 5, 1) := by decide +kernel
theorem dX7_digest_341 : decode cX7_digest 341 = .ok (.bipush 17, 2) := by decide +kernel
theorem dX7_digest_343 : decode cX7_digest 343 = .ok (.iconst 0, 1) := by decide +kernel
theorem dX7_digest_344 : decode cX7_digest 344 = .ok (.invokevirtual 364, 3) := by decide +kernel
theorem dX7_digest_347 : decode cX7_digest 347 = .ok (.invokestatic 319, 3) := by decide +kernel
theorem dX7_digest_350 : decode cX7_digest 350 = .ok (.lstore_n 1, 1) := by decide +kernel
theorem dX7_digest_351 : decode cX7_digest 351 = .ok (.lload_n 1, 1) := by decide +kernel
