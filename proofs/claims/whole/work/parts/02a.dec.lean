theorem dX0_init_0 : decode cX0_init 0 = .ok (.aload_n 0, 1) := by decide +kernel
theorem dX0_init_1 : decode cX0_init 1 = .ok (.invokespecial 1, 3) := by decide +kernel
theorem dX0_init_4 : decode cX0_init 4 = .ok (.aload_n 0, 1) := by decide +kernel
theorem dX0_init_5 : decode cX0_init 5 = .ok (.lload_n 1, 1) := by decide +kernel
theorem dX0_init_6 : decode cX0_init 6 = .ok (.putfield 7, 3) := by decide +kernel
theorem dX0_init_9 : decode cX0_init 9 = .ok (.aload_n 0, 1) := by decide +kernel
theorem dX0_init_10 : decode cX0_init 10 = .ok (.iload_n 3, 1) := by decide +kernel
theorem dX0_init_11 : decode cX0_init 11 = .ok (.putfield 13, 3) := by decide +kernel
theorem dX0_init_14 : decode cX0_init 14 = .ok (.aload_n 0, 1) := by decide +kernel
theorem dX0_init_15 : decode cX0_init 15 = .ok (.aload 4, 2) := by decide +kernel
theorem dX0_init_17 : decode cX0_init 17 = .ok (.putfield 17, 3) := by decide +kernel
theorem dX0_init_20 : decode cX0_init 20 = .ok (.return_, 1) := by decide +kernel
theorem dX0_isLike_0 : decode cX0_isLike 0 = .ok (.aload_n 0, 1) := by decide +kernel
theorem dX0_isLike_1 : decode cX0_isLike 1 = .ok (.getfield 7, 3) := by decide +kernel
theorem dX0_isLike_4 : decode cX0_isLike 4 = .ok (.lload_n 1, 1) := by decide +kernel
theorem dX0_isLike_5 : decode cX0_isLike 5 = .ok (.lcmp, 1) := by decide +kernel
theorem dX0_isLike_6 : decode cX0_isLike 6 = .ok (.ifCond .ne 21, 3) := by decide +kernel
theorem dX0_isLike_9 : decode cX0_isLike 9 = .ok (.aload_n 0, 1) := by decide +kernel
theorem dX0_isLike_10 : decode cX0_isLike 10 = .ok (.getfield 13, 3) := by decide +kernel
theorem dX0_isLike_13 : decode cX0_isLike 13 = .ok (.iload_n 3, 1) := by decide +kernel
theorem dX0_isLike_14 : decode cX0_isLike 14 = .ok (.if_icmp .ne 13, 3) := by decide +kernel
theorem dX0_isLike_17 : decode cX0_isLike 17 = .ok (.aload_n 0, 1) := by decide +kernel
theorem dX0_isLike_18 : decode cX0_isLike 18 = .ok (.getfield 17, 3) := by decide +kernel
theorem dX0_isLike_21 : decode cX0_isLike 21 = .ok (.arraylength, 1) := by decide +kernel
theorem dX0_isLike_22 : decode cX0_isLike 22 = .ok (.iload 5, 2) := by decide +kernel
theorem dX0_isLike_24 : decode cX0_isLike 24 = .ok (.if_icmp .eq 5, 3) := by decide +kernel
theorem dX0_isLike_27 : decode cX0_isLike 27 = .ok (.iconst 0, 1) := by decide +kernel
theorem dX0_isLike_28 : decode cX0_isLike 28 = .ok (.ireturn, 1) := by decide +kernel
theorem dX0_isLike_29 : decode cX0_isLike 29 = .ok (.iconst 0, 1) := by decide +kernel
theorem dX0_isLike_30 : decode cX0_isLike 30 = .ok (.istore 6, 2) := by decide +kernel
theorem dX0_isLike_32 : decode cX0_isLike 32 = .ok (.iload 6, 2) := by decide +kernel
theorem dX0_isLike_34 : decode cX0_isLike 34 = .ok (.iload 5, 2) := by decide +kernel
theorem dX0_isLike_36 : decode cX0_isLike 36 = .ok (.if_icmp .ge 26, 3) := by decide +kernel
theorem dX0_isLike_39 : decode cX0_isLike 39 = .ok (.aload_n 0, 1) := by decide +kernel
theorem dX0_isLike_40 : decode cX0_isLike 40 = .ok (.getfield 17, 3) := by decide +kernel
theorem dX0_isLike_43 : decode cX0_isLike 43 = .ok (.iload 6, 2) := by decide +kernel
theorem dX0_isLike_45 : decode cX0_isLike 45 = .ok (.iaload, 1) := by decide +kernel
theorem dX0_isLike_46 : decode cX0_isLike 46 = .ok (.aload 4, 2) := by decide +kernel
theorem dX0_isLike_48 : decode cX0_isLike 48 = .ok (.iload 6, 2) := by decide +kernel
theorem dX0_isLike_50 : decode cX0_isLike 50 = .ok (.iaload, 1) := by decide +kernel
theorem dX0_isLike_51 : decode cX0_isLike 51 = .ok (.if_icmp .eq 5, 3) := by decide +kernel
theorem dX0_isLike_54 : decode cX0_isLike 54 = .ok (.iconst 0, 1) := by decide +kernel
theorem dX0_isLike_55 : decode cX0_isLike 55 = .ok (.ireturn, 1) := by decide +kernel
theorem dX0_isLike_56 : decode cX0_isLike 56 = .ok (.iinc 6 1, 3) := by decide +kernel
theorem dX0_isLike_59 : decode cX0_isLike 59 = .ok (.goto (-27), 3) := by decide +kernel
theorem dX0_isLike_62 : decode cX0_isLike 62 = .ok (.iconst 1, 1) := by decide +kernel
theorem dX0_isLike_63 : decode cX0_isLike 63 = .ok (.ireturn, 1) := by decide +kernel
theorem dX1_dayOf_0 : decode cX1_dayOf 0 = .ok (.lload_n 0, 1) := by decide +kernel
theorem dX1_dayOf_1 : decode cX1_dayOf 1 = .ok (.ldc2_w 9, 3) := by decide +kernel
theorem dX1_dayOf_4 : decode cX1_dayOf 4 = .ok (.invokestatic 11, 3) := by decide +kernel
theorem dX1_dayOf_7 : decode cX1_dayOf 7 = .ok (.lreturn, 1) := by decide +kernel
theorem dX1_weekOf_0 : decode cX1_weekOf 0 = .ok (.lload_n 0, 1) := by decide +kernel
theorem dX1_weekOf_1 : decode cX1_weekOf 1 = .ok (.ldc2_w 17, 3) := by decide +kernel
theorem dX1_weekOf_4 : decode cX1_weekOf 4 = .ok (.ladd, 1) := by decide +kernel
theorem dX1_weekOf_5 : decode cX1_weekOf 5 = .ok (.ldc2_w 19, 3) := by decide +kernel
theorem dX1_weekOf_8 : decode cX1_weekOf 8 = .ok (.invokestatic 11, 3) := by decide +kernel
theorem dX1_weekOf_11 : decode cX1_weekOf 11 = .ok (.lreturn, 1) := by decide +kernel
theorem dX1_dayOfWeek_0 : decode cX1_dayOfWeek 0 = .ok (.lload_n 0, 1) := by decide +kernel
theorem dX1_dayOfWeek_1 : decode cX1_dayOfWeek 1 = .ok (.ldc2_w 17, 3) := by decide +kernel
theorem dX1_dayOfWeek_4 : decode cX1_dayOfWeek 4 = .ok (.ladd, 1) := by decide +kernel
theorem dX1_dayOfWeek_5 : decode cX1_dayOfWeek 5 = .ok (.ldc2_w 19, 3) := by decide +kernel
theorem dX1_dayOfWeek_8 : decode cX1_dayOfWeek 8 = .ok (.invokestatic 21, 3) := by decide +kernel
theorem dX1_dayOfWeek_11 : decode cX1_dayOfWeek 11 = .ok (.l2i, 1) := by decide +kernel
theorem dX1_dayOfWeek_12 : decode cX1_dayOfWeek 12 = .ok (.ireturn, 1) := by decide +kernel
theorem dX1_yearOf_0 : decode cX1_yearOf 0 = .ok (.lload_n 0, 1) := by decide +kernel
theorem dX1_yearOf_1 : decode cX1_yearOf 1 = .ok (.invokestatic 24, 3) := by decide +kernel
theorem dX1_yearOf_4 : decode cX1_yearOf 4 = .ok (.ldc2_w 28, 3) := by decide +kernel
theorem dX1_yearOf_7 : decode cX1_yearOf 7 = .ok (.invokestatic 11, 3) := by decide +kernel
theorem dX1_yearOf_10 : decode cX1_yearOf 10 = .ok (.lreturn, 1) := by decide +kernel
theorem dX1_monthOf_0 : decode cX1_monthOf 0 = .ok (.lload_n 0, 1) := by decide +kernel
theorem dX1_monthOf_1 : decode cX1_monthOf 1 = .ok (.invokestatic 24, 3) := by decide +kernel
theorem dX1_monthOf_4 : decode cX1_monthOf 4 = .ok (.ldc2_w 28, 3) := by decide +kernel
theorem dX1_monthOf_7 : decode cX1_monthOf 7 = .ok (.invokestatic 21, 3) := by decide +kernel
theorem dX1_monthOf_10 : decode cX1_monthOf 10 = .ok (.l2i, 1) := by decide +kernel
theorem dX1_monthOf_11 : decode cX1_monthOf 11 = .ok (.iconst 1, 1) := by decide +kernel
theorem dX1_monthOf_12 : decode cX1_monthOf 12 = .ok (.iadd, 1) := by decide +kernel
theorem dX1_monthOf_13 : decode cX1_monthOf 13 = .ok (.ireturn, 1) := by decide +kernel
theorem dX1_dayOfMonth_0 : decode cX1_dayOfMonth 0 = .ok (.lload_n 0, 1) := by decide +kernel
theorem dX1_dayOfMonth_1 : decode cX1_dayOfMonth 1 = .ok (.ldc2_w 30, 3) := by decide +kernel
theorem dX1_dayOfMonth_4 : decode cX1_dayOfMonth 4 = .ok (.ladd, 1) := by decide +kernel
theorem dX1_dayOfMonth_5 : decode cX1_dayOfMonth 5 = .ok (.ldc2_w 32, 3) := by decide +kernel
theorem dX1_dayOfMonth_8 : decode cX1_dayOfMonth 8 = .ok (.invokestatic 21, 3) := by decide +kernel
theorem dX1_dayOfMonth_11 : decode cX1_dayOfMonth 11 = .ok (.lstore_n 2, 1) := by decide +kernel
theorem dX1_dayOfMonth_12 : decode cX1_dayOfMonth 12 = .ok (.lload_n 2, 1) := by decide +kernel
theorem dX1_dayOfMonth_13 : decode cX1_dayOfMonth 13 = .ok (.lload_n 2, 1) := by decide +kernel
theorem dX1_dayOfMonth_14 : decode cX1_dayOfMonth 14 = .ok (.invokestatic 34, 3) := by decide +kernel
theorem dX1_dayOfMonth_17 : decode cX1_dayOfMonth 17 = .ok (.invokestatic 37, 3) := by decide +kernel
theorem dX1_dayOfMonth_20 : decode cX1_dayOfMonth 20 = .ok (.lstore 4, 2) := by decide +kernel
theorem dX1_dayOfMonth_22 : decode cX1_dayOfMonth 22 = .ok (.lload 4, 2) := by decide +kernel
theorem dX1_dayOfMonth_24 : decode cX1_dayOfMonth 24 = .ok (.lload 4, 2) := by decide +kernel
theorem dX1_dayOfMonth_26 : decode cX1_dayOfMonth 26 = .ok (.invokestatic 40, 3) := by decide +kernel
theorem dX1_dayOfMonth_29 : decode cX1_dayOfMonth 29 = .ok (.invokestatic 43, 3) := by decide +kernel
theorem dX1_dayOfMonth_32 : decode cX1_dayOfMonth 32 = .ok (.lsub, 1) := by decide +kernel
theorem dX1_dayOfMonth_33 : decode cX1_dayOfMonth 33 = .ok (.l2i, 1) := by decide +kernel
theorem dX1_dayOfMonth_34 : decode cX1_dayOfMonth 34 = .ok (.iconst 1, 1) := by decide +kernel
theorem dX1_dayOfMonth_35 : decode cX1_dayOfMonth 35 = .ok (.iadd, 1) := by decide +kernel
theorem dX1_dayOfMonth_36 : decode cX1_dayOfMonth 36 = .ok (.ireturn, 1) := by decide +kernel
theorem dX1_monthsUpTo_0 : decode cX1_monthsUpTo 0 = .ok (.lload_n 0, 1) := by decide +kernel
theorem dX1_monthsUpTo_1 : decode cX1_monthsUpTo 1 = .ok (.ldc2_w 30, 3) := by decide +kernel
theorem dX1_monthsUpTo_4 : decode cX1_monthsUpTo 4 = .ok (.ladd, 1) := by decide +kernel
theorem dX1_monthsUpTo_5 : decode cX1_monthsUpTo 5 = .ok (.lstore_n 2, 1) := by decide +kernel
theorem dX1_monthsUpTo_6 : decode cX1_monthsUpTo 6 = .ok (.lload_n 2, 1) := by decide +kernel
theorem dX1_monthsUpTo_7 : decode cX1_monthsUpTo 7 = .ok (.ldc2_w 32, 3) := by decide +kernel
theorem dX1_monthsUpTo_10 : decode cX1_monthsUpTo 10 = .ok (.invokestatic 11, 3) := by decide +kernel
theorem dX1_monthsUpTo_13 : decode cX1_monthsUpTo 13 = .ok (.lstore 4, 2) := by decide +kernel
theorem dX1_monthsUpTo_15 : decode cX1_monthsUpTo 15 = .ok (.lload_n 2, 1) := by decide +kernel
theorem dX1_monthsUpTo_16 : decode cX1_monthsUpTo 16 = .ok (.lload 4, 2) := by decide +kernel
theorem dX1_monthsUpTo_18 : decode cX1_monthsUpTo 18 = .ok (.ldc2_w 32, 3) := by decide +kernel
theorem dX1_monthsUpTo_21 : decode cX1_monthsUpTo 21 = .ok (.lmul, 1) := by decide +kernel
theorem dX1_monthsUpTo_22 : decode cX1_monthsUpTo 22 = .ok (.lsub, 1) := by decide +kernel
theorem dX1_monthsUpTo_23 : decode cX1_monthsUpTo 23 = .ok (.lstore 6, 2) := by decide +kernel
theorem dX1_monthsUpTo_25 : decode cX1_monthsUpTo 25 = .ok (.lload 6, 2) := by decide +kernel
theorem dX1_monthsUpTo_27 : decode cX1_monthsUpTo 27 = .ok (.invokestatic 34, 3) := by decide +kernel
theorem dX1_monthsUpTo_30 : decode cX1_monthsUpTo 30 = .ok (.lstore 8, 2) := by decide +kernel
theorem dX1_monthsUpTo_32 : decode cX1_monthsUpTo 32 = .ok (.ldc2_w 28, 3) := by decide +kernel
theorem dX1_monthsUpTo_35 : decode cX1_monthsUpTo 35 = .ok (.ldc2_w 46, 3) := by decide +kernel
theorem dX1_monthsUpTo_38 : decode cX1_monthsUpTo 38 = .ok (.lload 4, 2) := by decide +kernel
theorem dX1_monthsUpTo_40 : decode cX1_monthsUpTo 40 = .ok (.lmul, 1) := by decide +kernel
theorem dX1_monthsUpTo_41 : decode cX1_monthsUpTo 41 = .ok (.lload 8, 2) := by decide +kernel
theorem dX1_monthsUpTo_43 : decode cX1_monthsUpTo 43 = .ok (.ladd, 1) := by decide +kernel
theorem dX1_monthsUpTo_44 : decode cX1_monthsUpTo 44 = .ok (.lmul, 1) := by decide +kernel
theorem dX1_monthsUpTo_45 : decode cX1_monthsUpTo 45 = .ok (.lload 6, 2) := by decide +kernel
theorem dX1_monthsUpTo_47 : decode cX1_monthsUpTo 47 = .ok (.lload 8, 2) := by decide +kernel
theorem dX1_monthsUpTo_49 : decode cX1_monthsUpTo 49 = .ok (.invokestatic 37, 3) := by decide +kernel
theorem dX1_monthsUpTo_52 : decode cX1_monthsUpTo 52 = .ok (.invokestatic 40, 3) := by decide +kernel
theorem dX1_monthsUpTo_55 : decode cX1_monthsUpTo 55 = .ok (.ladd, 1) := by decide +kernel
theorem dX1_monthsUpTo_56 : decode cX1_monthsUpTo 56 = .ok (.ldc2_w 48, 3) := by decide +kernel
theorem dX1_monthsUpTo_59 : decode cX1_monthsUpTo 59 = .ok (.ladd, 1) := by decide +kernel
theorem dX1_monthsUpTo_60 : decode cX1_monthsUpTo 60 = .ok (.lreturn, 1) := by decide +kernel
theorem dX1_marchYearOfEra_0 : decode cX1_marchYearOfEra 0 = .ok (.lload_n 0, 1) := by decide +kernel
theorem dX1_marchYearOfEra_1 : decode cX1_marchYearOfEra 1 = .ok (.ldc2_w 50, 3) := by decide +kernel
theorem dX1_marchYearOfEra_4 : decode cX1_marchYearOfEra 4 = .ok (.ldiv, 1) := by decide +kernel
theorem dX1_marchYearOfEra_5 : decode cX1_marchYearOfEra 5 = .ok (.lload_n 0, 1) := by decide +kernel
theorem dX1_marchYearOfEra_6 : decode cX1_marchYearOfEra 6 = .ok (.ldc2_w 52, 3) := by decide +kernel
theorem dX1_marchYearOfEra_9 : decode cX1_marchYearOfEra 9 = .ok (.ldiv, 1) := by decide +kernel
theorem dX1_marchYearOfEra_10 : decode cX1_marchYearOfEra 10 = .ok (.lsub, 1) := by decide +kernel
theorem dX1_marchYearOfEra_11 : decode cX1_marchYearOfEra 11 = .ok (.lload_n 0, 1) := by decide +kernel
theorem dX1_marchYearOfEra_12 : decode cX1_marchYearOfEra 12 = .ok (.ldc2_w 54, 3) := by decide +kernel
theorem dX1_marchYearOfEra_15 : decode cX1_marchYearOfEra 15 = .ok (.ldiv, 1) := by decide +kernel
theorem dX1_marchYearOfEra_16 : decode cX1_marchYearOfEra 16 = .ok (.ladd, 1) := by decide +kernel
theorem dX1_marchYearOfEra_17 : decode cX1_marchYearOfEra 17 = .ok (.lstore_n 2, 1) := by decide +kernel
theorem dX1_marchYearOfEra_18 : decode cX1_marchYearOfEra 18 = .ok (.lload_n 0, 1) := by decide +kernel
theorem dX1_marchYearOfEra_19 : decode cX1_marchYearOfEra 19 = .ok (.lload_n 2, 1) := by decide +kernel
theorem dX1_marchYearOfEra_20 : decode cX1_marchYearOfEra 20 = .ok (.lsub, 1) := by decide +kernel
theorem dX1_marchYearOfEra_21 : decode cX1_marchYearOfEra 21 = .ok (.ldc2_w 56, 3) := by decide +kernel
theorem dX1_marchYearOfEra_24 : decode cX1_marchYearOfEra 24 = .ok (.ldiv, 1) := by decide +kernel
theorem dX1_marchYearOfEra_25 : decode cX1_marchYearOfEra 25 = .ok (.lreturn, 1) := by decide +kernel
theorem dX1_dayOfMarchYear_0 : decode cX1_dayOfMarchYear 0 = .ok (.lload_n 0, 1) := by decide +kernel
theorem dX1_dayOfMarchYear_1 : decode cX1_dayOfMarchYear 1 = .ok (.ldc2_w 56, 3) := by decide +kernel
theorem dX1_dayOfMarchYear_4 : decode cX1_dayOfMarchYear 4 = .ok (.lload_n 2, 1) := by decide +kernel
theorem dX1_dayOfMarchYear_5 : decode cX1_dayOfMarchYear 5 = .ok (.lmul, 1) := by decide +kernel
theorem dX1_dayOfMarchYear_6 : decode cX1_dayOfMarchYear 6 = .ok (.lload_n 2, 1) := by decide +kernel
theorem dX1_dayOfMarchYear_7 : decode cX1_dayOfMarchYear 7 = .ok (.ldc2_w 58, 3) := by decide +kernel
theorem dX1_dayOfMarchYear_10 : decode cX1_dayOfMarchYear 10 = .ok (.ldiv, 1) := by decide +kernel
theorem dX1_dayOfMarchYear_11 : decode cX1_dayOfMarchYear 11 = .ok (.ladd, 1) := by decide +kernel
theorem dX1_dayOfMarchYear_12 : decode cX1_dayOfMarchYear 12 = .ok (.lload_n 2, 1) := by decide +kernel
theorem dX1_dayOfMarchYear_13 : decode cX1_dayOfMarchYear 13 = .ok (.ldc2_w 60, 3) := by decide +kernel
theorem dX1_dayOfMarchYear_16 : decode cX1_dayOfMarchYear 16 = .ok (.ldiv, 1) := by decide +kernel
theorem dX1_dayOfMarchYear_17 : decode cX1_dayOfMarchYear 17 = .ok (.lsub, 1) := by decide +kernel
theorem dX1_dayOfMarchYear_18 : decode cX1_dayOfMarchYear 18 = .ok (.lsub, 1) := by decide +kernel
theorem dX1_dayOfMarchYear_19 : decode cX1_dayOfMarchYear 19 = .ok (.lreturn, 1) := by decide +kernel
theorem dX1_marchMonth_0 : decode cX1_marchMonth 0 = .ok (.ldc2_w 62, 3) := by decide +kernel
theorem dX1_marchMonth_3 : decode cX1_marchMonth 3 = .ok (.lload_n 0, 1) := by decide +kernel
theorem dX1_marchMonth_4 : decode cX1_marchMonth 4 = .ok (.lmul, 1) := by decide +kernel
theorem dX1_marchMonth_5 : decode cX1_marchMonth 5 = .ok (.ldc2_w 48, 3) := by decide +kernel
theorem dX1_marchMonth_8 : decode cX1_marchMonth 8 = .ok (.ladd, 1) := by decide +kernel
theorem dX1_marchMonth_9 : decode cX1_marchMonth 9 = .ok (.ldc2_w 64, 3) := by decide +kernel
theorem dX1_marchMonth_12 : decode cX1_marchMonth 12 = .ok (.ldiv, 1) := by decide +kernel
theorem dX1_marchMonth_13 : decode cX1_marchMonth 13 = .ok (.lreturn, 1) := by decide +kernel
theorem dX1_daysBeforeMarchMonth_0 : decode cX1_daysBeforeMarchMonth 0 = .ok (.ldc2_w 64, 3) := by decide +kernel
theorem dX1_daysBeforeMarchMonth_3 : decode cX1_daysBeforeMarchMonth 3 = .ok (.lload_n 0, 1) := by decide +kernel
theorem dX1_daysBeforeMarchMonth_4 : decode cX1_daysBeforeMarchMonth 4 = .ok (.lmul, 1) := by decide +kernel
theorem dX1_daysBeforeMarchMonth_5 : decode cX1_daysBeforeMarchMonth 5 = .ok (.ldc2_w 48, 3) := by decide +kernel
theorem dX1_daysBeforeMarchMonth_8 : decode cX1_daysBeforeMarchMonth 8 = .ok (.ladd, 1) := by decide +kernel
theorem dX1_daysBeforeMarchMonth_9 : decode cX1_daysBeforeMarchMonth 9 = .ok (.ldc2_w 62, 3) := by decide +kernel
theorem dX1_daysBeforeMarchMonth_12 : decode cX1_daysBeforeMarchMonth 12 = .ok (.ldiv, 1) := by decide +kernel
theorem dX1_daysBeforeMarchMonth_13 : decode cX1_daysBeforeMarchMonth 13 = .ok (.lreturn, 1) := by decide +kernel
theorem dX2_init_0 : decode cX2_init 0 = .ok (.aload_n 0, 1) := by decide +kernel
theorem dX2_init_1 : decode cX2_init 1 = .ok (.invokespecial 3, 3) := by decide +kernel
theorem dX2_init_4 : decode cX2_init 4 = .ok (.aload_n 0, 1) := by decide +kernel
theorem dX2_init_5 : decode cX2_init 5 = .ok (.sipush 240, 3) := by decide +kernel
theorem dX2_init_8 : decode cX2_init 8 = .ok (.newarray .int, 2) := by decide +kernel
theorem dX2_init_10 : decode cX2_init 10 = .ok (.putfield 11, 3) := by decide +kernel
theorem dX2_init_13 : decode cX2_init 13 = .ok (.aload_n 0, 1) := by decide +kernel
theorem dX2_init_14 : decode cX2_init 14 = .ok (.sipush 240, 3) := by decide +kernel
theorem dX2_init_17 : decode cX2_init 17 = .ok (.newarray .int, 2) := by decide +kernel
theorem dX2_init_19 : decode cX2_init 19 = .ok (.putfield 15, 3) := by decide +kernel
theorem dX2_init_22 : decode cX2_init 22 = .ok (.aload_n 0, 1) := by decide +kernel
theorem dX2_init_23 : decode cX2_init 23 = .ok (.iconst (-1), 1) := by decide +kernel
theorem dX2_init_24 : decode cX2_init 24 = .ok (.putfield 18, 3) := by decide +kernel
theorem dX2_init_27 : decode cX2_init 27 = .ok (.return_, 1) := by decide +kernel
theorem dX2_write_0 : decode cX2_write 0 = .ok (.aload_n 0, 1) := by decide +kernel
theorem dX2_write_1 : decode cX2_write 1 = .ok (.getfield 18, 3) := by decide +kernel
theorem dX2_write_4 : decode cX2_write 4 = .ok (.ifCond .ne 15, 3) := by decide +kernel
theorem dX2_write_7 : decode cX2_write 7 = .ok (.aload_n 0, 1) := by decide +kernel
theorem dX2_write_8 : decode cX2_write 8 = .ok (.iconst (-1), 1) := by decide +kernel
theorem dX2_write_9 : decode cX2_write 9 = .ok (.putfield 18, 3) := by decide +kernel
theorem dX2_write_12 : decode cX2_write 12 = .ok (.aload_n 0, 1) := by decide +kernel
theorem dX2_write_13 : decode cX2_write 13 = .ok (.iconst 1, 1) := by decide +kernel
theorem dX2_write_14 : decode cX2_write 14 = .ok (.putfield 22, 3) := by decide +kernel
theorem dX2_write_17 : decode cX2_write 17 = .ok (.iconst 0, 1) := by decide +kernel
theorem dX2_write_18 : decode cX2_write 18 = .ok (.ireturn, 1) := by decide +kernel
theorem dX2_write_19 : decode cX2_write 19 = .ok (.aload_n 0, 1) := by decide +kernel
theorem dX2_write_20 : decode cX2_write 20 = .ok (.getfield 18, 3) := by decide +kernel
theorem dX2_write_23 : decode cX2_write 23 = .ok (.ifCond .le 13, 3) := by decide +kernel
theorem dX2_write_26 : decode cX2_write 26 = .ok (.aload_n 0, 1) := by decide +kernel
theorem dX2_write_27 : decode cX2_write 27 = .ok (.dup, 1) := by decide +kernel
theorem dX2_write_28 : decode cX2_write 28 = .ok (.getfield 18, 3) := by decide +kernel
theorem dX2_write_31 : decode cX2_write 31 = .ok (.iconst 1, 1) := by decide +kernel
theorem dX2_write_32 : decode cX2_write 32 = .ok (.isub, 1) := by decide +kernel
theorem dX2_write_33 : decode cX2_write 33 = .ok (.putfield 18, 3) := by decide +kernel
theorem dX2_write_36 : decode cX2_write 36 = .ok (.aload_n 0, 1) := by decide +kernel
theorem dX2_write_37 : decode cX2_write 37 = .ok (.dup, 1) := by decide +kernel
theorem dX2_write_38 : decode cX2_write 38 = .ok (.getfield 26, 3) := by decide +kernel
theorem dX2_write_41 : decode cX2_write 41 = .ok (.iconst 1, 1) := by decide +kernel
theorem dX2_write_42 : decode cX2_write 42 = .ok (.iadd, 1) := by decide +kernel
theorem dX2_write_43 : decode cX2_write 43 = .ok (.putfield 26, 3) := by decide +kernel
theorem dX2_write_46 : decode cX2_write 46 = .ok (.iconst 1, 1) := by decide +kernel
theorem dX2_write_47 : decode cX2_write 47 = .ok (.ireturn, 1) := by decide +kernel
theorem dX2_write__0 : decode cX2_write_ 0 = .ok (.aload_n 0, 1) := by decide +kernel
theorem dX2_write__1 : decode cX2_write_ 1 = .ok (.invokevirtual 29, 3) := by decide +kernel
theorem dX2_write__4 : decode cX2_write_ 4 = .ok (.ifCond .ne 5, 3) := by decide +kernel
theorem dX2_write__7 : decode cX2_write_ 7 = .ok (.iconst 0, 1) := by decide +kernel
theorem dX2_write__8 : decode cX2_write_ 8 = .ok (.ireturn, 1) := by decide +kernel
theorem dX2_write__9 : decode cX2_write_ 9 = .ok (.aload_n 0, 1) := by decide +kernel
theorem dX2_write__10 : decode cX2_write_ 10 = .ok (.getfield 33, 3) := by decide +kernel
theorem dX2_write__13 : decode cX2_write_ 13 = .ok (.sipush 240, 3) := by decide +kernel
theorem dX2_write__16 : decode cX2_write_ 16 = .ok (.if_icmp .ge 33, 3) := by decide +kernel
theorem dX2_write__19 : decode cX2_write_ 19 = .ok (.aload_n 0, 1) := by decide +kernel
theorem dX2_write__20 : decode cX2_write_ 20 = .ok (.getfield 11, 3) := by decide +kernel
theorem dX2_write__23 : decode cX2_write_ 23 = .ok (.aload_n 0, 1) := by decide +kernel
theorem dX2_write__24 : decode cX2_write_ 24 = .ok (.getfield 33, 3) := by decide +kernel
theorem dX2_write__27 : decode cX2_write_ 27 = .ok (.iload_n 1, 1) := by decide +kernel
theorem dX2_write__28 : decode cX2_write_ 28 = .ok (.iastore, 1) := by decide +kernel
theorem dX2_write__29 : decode cX2_write_ 29 = .ok (.aload_n 0, 1) := by decide +kernel
theorem dX2_write__30 : decode cX2_write_ 30 = .ok (.getfield 15, 3) := by decide +kernel
theorem dX2_write__33 : decode cX2_write_ 33 = .ok (.aload_n 0, 1) := by decide +kernel
theorem dX2_write__34 : decode cX2_write_ 34 = .ok (.getfield 33, 3) := by decide +kernel
theorem dX2_write__37 : decode cX2_write_ 37 = .ok (.iload_n 2, 1) := by decide +kernel
theorem dX2_write__38 : decode cX2_write_ 38 = .ok (.iastore, 1) := by decide +kernel
theorem dX2_write__39 : decode cX2_write_ 39 = .ok (.aload_n 0, 1) := by decide +kernel
theorem dX2_write__40 : decode cX2_write_ 40 = .ok (.dup, 1) := by decide +kernel
theorem dX2_write__41 : decode cX2_write_ 41 = .ok (.getfield 33, 3) := by decide +kernel
theorem dX2_write__44 : decode cX2_write_ 44 = .ok (.iconst 1, 1) := by decide +kernel
theorem dX2_write__45 : decode cX2_write_ 45 = .ok (.iadd, 1) := by decide +kernel
theorem dX2_write__46 : decode cX2_write_ 46 = .ok (.putfield 33, 3) := by decide +kernel
theorem dX2_write__49 : decode cX2_write_ 49 = .ok (.iconst 1, 1) := by decide +kernel
theorem dX2_write__50 : decode cX2_write_ 50 = .ok (.ireturn, 1) := by decide +kernel
theorem dX3_init_0 : decode cX3_init 0 = .ok (.aload_n 0, 1) := by decide +kernel
theorem dX3_init_1 : decode cX3_init 1 = .ok (.invokespecial 3, 3) := by decide +kernel
theorem dX3_init_4 : decode cX3_init 4 = .ok (.aload_n 0, 1) := by decide +kernel
theorem dX3_init_5 : decode cX3_init 5 = .ok (.bipush 80, 2) := by decide +kernel
theorem dX3_init_7 : decode cX3_init 7 = .ok (.newarray .boolean, 2) := by decide +kernel
theorem dX3_init_9 : decode cX3_init 9 = .ok (.putfield 9, 3) := by decide +kernel
theorem dX3_init_12 : decode cX3_init 12 = .ok (.aload_n 0, 1) := by decide +kernel
theorem dX3_init_13 : decode cX3_init 13 = .ok (.bipush 40, 2) := by decide +kernel
theorem dX3_init_15 : decode cX3_init 15 = .ok (.newarray .boolean, 2) := by decide +kernel
theorem dX3_init_17 : decode cX3_init 17 = .ok (.putfield 15, 3) := by decide +kernel
theorem dX3_init_20 : decode cX3_init 20 = .ok (.return_, 1) := by decide +kernel
theorem dX3_repeat_0 : decode cX3_repeat 0 = .ok (.aload_n 1, 1) := by decide +kernel
theorem dX3_repeat_1 : decode cX3_repeat 1 = .ok (.getfield 18, 3) := by decide +kernel
theorem dX3_repeat_4 : decode cX3_repeat 4 = .ok (.aload_n 0, 1) := by decide +kernel
theorem dX3_repeat_5 : decode cX3_repeat 5 = .ok (.getfield 24, 3) := by decide +kernel
theorem dX3_repeat_8 : decode cX3_repeat 8 = .ok (.iload_n 2, 1) := by decide +kernel
theorem dX3_repeat_9 : decode cX3_repeat 9 = .ok (.iadd, 1) := by decide +kernel
theorem dX3_repeat_10 : decode cX3_repeat 10 = .ok (.invokestatic 27, 3) := by decide +kernel
theorem dX3_repeat_13 : decode cX3_repeat 13 = .ok (.istore_n 3, 1) := by decide +kernel
theorem dX3_repeat_14 : decode cX3_repeat 14 = .ok (.aload_n 0, 1) := by decide +kernel
theorem dX3_repeat_15 : decode cX3_repeat 15 = .ok (.getfield 24, 3) := by decide +kernel
theorem dX3_repeat_18 : decode cX3_repeat 18 = .ok (.istore 4, 2) := by decide +kernel
theorem dX3_repeat_20 : decode cX3_repeat 20 = .ok (.iload 4, 2) := by decide +kernel
theorem dX3_repeat_22 : decode cX3_repeat 22 = .ok (.iload_n 3, 1) := by decide +kernel
theorem dX3_repeat_23 : decode cX3_repeat 23 = .ok (.if_icmp .ge 68, 3) := by decide +kernel
theorem dX3_repeat_26 : decode cX3_repeat 26 = .ok (.aload_n 1, 1) := by decide +kernel
theorem dX3_repeat_27 : decode cX3_repeat 27 = .ok (.getfield 33, 3) := by decide +kernel
theorem dX3_repeat_30 : decode cX3_repeat 30 = .ok (.iload 4, 2) := by decide +kernel
theorem dX3_repeat_32 : decode cX3_repeat 32 = .ok (.iaload, 1) := by decide +kernel
theorem dX3_repeat_33 : decode cX3_repeat 33 = .ok (.istore 5, 2) := by decide +kernel
theorem dX3_repeat_35 : decode cX3_repeat 35 = .ok (.iload 5, 2) := by decide +kernel
theorem dX3_repeat_37 : decode cX3_repeat 37 = .ok (.ifCond .eq 9, 3) := by decide +kernel
theorem dX3_repeat_40 : decode cX3_repeat 40 = .ok (.iload 5, 2) := by decide +kernel
theorem dX3_repeat_42 : decode cX3_repeat 42 = .ok (.iconst 1, 1) := by decide +kernel
theorem dX3_repeat_43 : decode cX3_repeat 43 = .ok (.if_icmp .ne 10, 3) := by decide +kernel
theorem dX3_repeat_46 : decode cX3_repeat 46 = .ok (.aload_n 0, 1) := by decide +kernel
theorem dX3_repeat_47 : decode cX3_repeat 47 = .ok (.getfield 9, 3) := by decide +kernel
theorem dX3_repeat_50 : decode cX3_repeat 50 = .ok (.goto 7, 3) := by decide +kernel
theorem dX3_repeat_53 : decode cX3_repeat 53 = .ok (.aload_n 0, 1) := by decide +kernel
theorem dX3_repeat_54 : decode cX3_repeat 54 = .ok (.getfield 15, 3) := by decide +kernel
theorem dX3_repeat_57 : decode cX3_repeat 57 = .ok (.astore 6, 2) := by decide +kernel
theorem dX3_repeat_59 : decode cX3_repeat 59 = .ok (.aload 6, 2) := by decide +kernel
theorem dX3_repeat_61 : decode cX3_repeat 61 = .ok (.aload_n 1, 1) := by decide +kernel
theorem dX3_repeat_62 : decode cX3_repeat 62 = .ok (.getfield 37, 3) := by decide +kernel
theorem dX3_repeat_65 : decode cX3_repeat 65 = .ok (.iload 4, 2) := by decide +kernel
theorem dX3_repeat_67 : decode cX3_repeat 67 = .ok (.iaload, 1) := by decide +kernel
theorem dX3_repeat_68 : decode cX3_repeat 68 = .ok (.iload 5, 2) := by decide +kernel
theorem dX3_repeat_70 : decode cX3_repeat 70 = .ok (.ifCond .eq 9, 3) := by decide +kernel
theorem dX3_repeat_73 : decode cX3_repeat 73 = .ok (.iload 5, 2) := by decide +kernel
theorem dX3_repeat_75 : decode cX3_repeat 75 = .ok (.iconst 2, 1) := by decide +kernel
theorem dX3_repeat_76 : decode cX3_repeat 76 = .ok (.if_icmp .ne 7, 3) := by decide +kernel
theorem dX3_repeat_79 : decode cX3_repeat 79 = .ok (.iconst 1, 1) := by decide +kernel
theorem dX3_repeat_80 : decode cX3_repeat 80 = .ok (.goto 4, 3) := by decide +kernel
theorem dX3_repeat_83 : decode cX3_repeat 83 = .ok (.iconst 0, 1) := by decide +kernel
theorem dX3_repeat_84 : decode cX3_repeat 84 = .ok (.bastore, 1) := by decide +kernel
theorem dX3_repeat_85 : decode cX3_repeat 85 = .ok (.iinc 4 1, 3) := by decide +kernel
theorem dX3_repeat_88 : decode cX3_repeat 88 = .ok (.goto (-68), 3) := by decide +kernel
theorem dX3_repeat_91 : decode cX3_repeat 91 = .ok (.aload_n 0, 1) := by decide +kernel
theorem dX3_repeat_92 : decode cX3_repeat 92 = .ok (.iload_n 3, 1) := by decide +kernel
theorem dX3_repeat_93 : decode cX3_repeat 93 = .ok (.putfield 24, 3) := by decide +kernel
theorem dX3_repeat_96 : decode cX3_repeat 96 = .ok (.return_, 1) := by decide +kernel
theorem dX3_forget_0 : decode cX3_forget 0 = .ok (.aload_n 0, 1) := by decide +kernel
theorem dX3_forget_1 : decode cX3_forget 1 = .ok (.iconst 0, 1) := by decide +kernel
theorem dX3_forget_2 : decode cX3_forget 2 = .ok (.putfield 24, 3) := by decide +kernel
theorem dX3_forget_5 : decode cX3_forget 5 = .ok (.iconst 0, 1) := by decide +kernel
theorem dX3_forget_6 : decode cX3_forget 6 = .ok (.istore_n 1, 1) := by decide +kernel
theorem dX3_forget_7 : decode cX3_forget 7 = .ok (.iload_n 1, 1) := by decide +kernel
theorem dX3_forget_8 : decode cX3_forget 8 = .ok (.bipush 80, 2) := by decide +kernel
theorem dX3_forget_10 : decode cX3_forget 10 = .ok (.if_icmp .ge 16, 3) := by decide +kernel
theorem dX3_forget_13 : decode cX3_forget 13 = .ok (.aload_n 0, 1) := by decide +kernel
theorem dX3_forget_14 : decode cX3_forget 14 = .ok (.getfield 9, 3) := by decide +kernel
theorem dX3_forget_17 : decode cX3_forget 17 = .ok (.iload_n 1, 1) := by decide +kernel
theorem dX3_forget_18 : decode cX3_forget 18 = .ok (.iconst 0, 1) := by decide +kernel
theorem dX3_forget_19 : decode cX3_forget 19 = .ok (.bastore, 1) := by decide +kernel
theorem dX3_forget_20 : decode cX3_forget 20 = .ok (.iinc 1 1, 3) := by decide +kernel
theorem dX3_forget_23 : decode cX3_forget 23 = .ok (.goto (-16), 3) := by decide +kernel
theorem dX3_forget_26 : decode cX3_forget 26 = .ok (.iconst 0, 1) := by decide +kernel
theorem dX3_forget_27 : decode cX3_forget 27 = .ok (.istore_n 1, 1) := by decide +kernel
theorem dX3_forget_28 : decode cX3_forget 28 = .ok (.iload_n 1, 1) := by decide +kernel
theorem dX3_forget_29 : decode cX3_forget 29 = .ok (.bipush 40, 2) := by decide +kernel
theorem dX3_forget_31 : decode cX3_forget 31 = .ok (.if_icmp .ge 16, 3) := by decide +kernel
theorem dX3_forget_34 : decode cX3_forget 34 = .ok (.aload_n 0, 1) := by decide +kernel
theorem dX3_forget_35 : decode cX3_forget 35 = .ok (.getfield 15, 3) := by decide +kernel
theorem dX3_forget_38 : decode cX3_forget 38 = .ok (.iload_n 1, 1) := by decide +kernel
theorem dX3_forget_39 : decode cX3_forget 39 = .ok (.iconst 0, 1) := by decide +kernel
theorem dX3_forget_40 : decode cX3_forget 40 = .ok (.bastore, 1) := by decide +kernel
theorem dX3_forget_41 : decode cX3_forget 41 = .ok (.iinc 1 1, 3) := by decide +kernel
theorem dX3_forget_44 : decode cX3_forget 44 = .ok (.goto (-16), 3) := by decide +kernel
theorem dX3_forget_47 : decode cX3_forget 47 = .ok (.return_, 1) := by decide +kernel
theorem dX3_differences_0 : decode cX3_differences 0 = .ok (.iconst 0, 1) := by decide +kernel
theorem dX3_differences_1 : decode cX3_differences 1 = .ok (.istore_n 2, 1) := by decide +kernel
theorem dX3_differences_2 : decode cX3_differences 2 = .ok (.iconst 0, 1) := by decide +kernel
theorem dX3_differences_3 : decode cX3_differences 3 = .ok (.istore_n 3, 1) := by decide +kernel
theorem dX3_differences_4 : decode cX3_differences 4 = .ok (.iload_n 3, 1) := by decide +kernel
theorem dX3_differences_5 : decode cX3_differences 5 = .ok (.bipush 80, 2) := by decide +kernel
theorem dX3_differences_7 : decode cX3_differences 7 = .ok (.if_icmp .ge 32, 3) := by decide +kernel
theorem dX3_differences_10 : decode cX3_differences 10 = .ok (.iload_n 2, 1) := by decide +kernel
theorem dX3_differences_11 : decode cX3_differences 11 = .ok (.aload_n 0, 1) := by decide +kernel
theorem dX3_differences_12 : decode cX3_differences 12 = .ok (.getfield 9, 3) := by decide +kernel
theorem dX3_differences_15 : decode cX3_differences 15 = .ok (.iload_n 3, 1) := by decide +kernel
theorem dX3_differences_16 : decode cX3_differences 16 = .ok (.baload, 1) := by decide +kernel
theorem dX3_differences_17 : decode cX3_differences 17 = .ok (.aload_n 1, 1) := by decide +kernel
theorem dX3_differences_18 : decode cX3_differences 18 = .ok (.getfield 9, 3) := by decide +kernel
theorem dX3_differences_21 : decode cX3_differences 21 = .ok (.iload_n 3, 1) := by decide +kernel
theorem dX3_differences_22 : decode cX3_differences 22 = .ok (.baload, 1) := by decide +kernel
theorem dX3_differences_23 : decode cX3_differences 23 = .ok (.if_icmp .ne 7, 3) := by decide +kernel
theorem dX3_differences_26 : decode cX3_differences 26 = .ok (.iconst 0, 1) := by decide +kernel
theorem dX3_differences_27 : decode cX3_differences 27 = .ok (.goto 4, 3) := by decide +kernel
theorem dX3_differences_30 : decode cX3_differences 30 = .ok (.iconst 1, 1) := by decide +kernel
theorem dX3_differences_31 : decode cX3_differences 31 = .ok (.iadd, 1) := by decide +kernel
theorem dX3_differences_32 : decode cX3_differences 32 = .ok (.istore_n 2, 1) := by decide +kernel
theorem dX3_differences_33 : decode cX3_differences 33 = .ok (.iinc 3 1, 3) := by decide +kernel
theorem dX3_differences_36 : decode cX3_differences 36 = .ok (.goto (-32), 3) := by decide +kernel
theorem dX3_differences_39 : decode cX3_differences 39 = .ok (.iconst 0, 1) := by decide +kernel
theorem dX3_differences_40 : decode cX3_differences 40 = .ok (.istore_n 3, 1) := by decide +kernel
theorem dX3_differences_41 : decode cX3_differences 41 = .ok (.iload_n 3, 1) := by decide +kernel
theorem dX3_differences_42 : decode cX3_differences 42 = .ok (.bipush 40, 2) := by decide +kernel
theorem dX3_differences_44 : decode cX3_differences 44 = .ok (.if_icmp .ge 32, 3) := by decide +kernel
theorem dX3_differences_47 : decode cX3_differences 47 = .ok (.iload_n 2, 1) := by decide +kernel
theorem dX3_differences_48 : decode cX3_differences 48 = .ok (.aload_n 0, 1) := by decide +kernel
theorem dX3_differences_49 : decode cX3_differences 49 = .ok (.getfield 15, 3) := by decide +kernel
theorem dX3_differences_52 : decode cX3_differences 52 = .ok (.iload_n 3, 1) := by decide +kernel
theorem dX3_differences_53 : decode cX3_differences 53 = .ok (.baload, 1) := by decide +kernel
theorem dX3_differences_54 : decode cX3_differences 54 = .ok (.aload_n 1, 1) := by decide +kernel
theorem dX3_differences_55 : decode cX3_differences 55 = .ok (.getfield 15, 3) := by decide +kernel
theorem dX3_differences_58 : decode cX3_differences 58 = .ok (.iload_n 3, 1) := by decide +kernel
theorem dX3_differences_59 : decode cX3_differences 59 = .ok (.baload, 1) := by decide +kernel
theorem dX3_differences_60 : decode cX3_differences 60 = .ok (.if_icmp .ne 7, 3) := by decide +kernel
theorem dX3_differences_63 : decode cX3_differences 63 = .ok (.iconst 0, 1) := by decide +kernel
theorem dX3_differences_64 : decode cX3_differences 64 = .ok (.goto 4, 3) := by decide +kernel
theorem dX3_differences_67 : decode cX3_differences 67 = .ok (.iconst 1, 1) := by decide +kernel
theorem dX3_differences_68 : decode cX3_differences 68 = .ok (.iadd, 1) := by decide +kernel
theorem dX3_differences_69 : decode cX3_differences 69 = .ok (.istore_n 2, 1) := by decide +kernel
theorem dX3_differences_70 : decode cX3_differences 70 = .ok (.iinc 3 1, 3) := by decide +kernel
theorem dX3_differences_73 : decode cX3_differences 73 = .ok (.goto (-32), 3) := by decide +kernel
theorem dX3_differences_76 : decode cX3_differences 76 = .ok (.iload_n 2, 1) := by decide +kernel
theorem dX3_differences_77 : decode cX3_differences 77 = .ok (.ireturn, 1) := by decide +kernel
theorem dX3_held_0 : decode cX3_held 0 = .ok (.iconst 0, 1) := by decide +kernel
theorem dX3_held_1 : decode cX3_held 1 = .ok (.istore_n 1, 1) := by decide +kernel
theorem dX3_held_2 : decode cX3_held 2 = .ok (.iconst 0, 1) := by decide +kernel
theorem dX3_held_3 : decode cX3_held 3 = .ok (.istore_n 2, 1) := by decide +kernel
theorem dX3_held_4 : decode cX3_held 4 = .ok (.iload_n 2, 1) := by decide +kernel
theorem dX3_held_5 : decode cX3_held 5 = .ok (.aload_n 0, 1) := by decide +kernel
theorem dX3_held_6 : decode cX3_held 6 = .ok (.arraylength, 1) := by decide +kernel
theorem dX3_held_7 : decode cX3_held 7 = .ok (.if_icmp .ge 23, 3) := by decide +kernel
theorem dX3_held_10 : decode cX3_held 10 = .ok (.iload_n 1, 1) := by decide +kernel
theorem dX3_held_11 : decode cX3_held 11 = .ok (.aload_n 0, 1) := by decide +kernel
theorem dX3_held_12 : decode cX3_held 12 = .ok (.iload_n 2, 1) := by decide +kernel
theorem dX3_held_13 : decode cX3_held 13 = .ok (.baload, 1) := by decide +kernel
theorem dX3_held_14 : decode cX3_held 14 = .ok (.ifCond .eq 7, 3) := by decide +kernel
theorem dX3_held_17 : decode cX3_held 17 = .ok (.iconst 1, 1) := by decide +kernel
theorem dX3_held_18 : decode cX3_held 18 = .ok (.goto 4, 3) := by decide +kernel
theorem dX3_held_21 : decode cX3_held 21 = .ok (.iconst 0, 1) := by decide +kernel
theorem dX3_held_22 : decode cX3_held 22 = .ok (.iadd, 1) := by decide +kernel
theorem dX3_held_23 : decode cX3_held 23 = .ok (.istore_n 1, 1) := by decide +kernel
theorem dX3_held_24 : decode cX3_held 24 = .ok (.iinc 2 1, 3) := by decide +kernel
theorem dX3_held_27 : decode cX3_held 27 = .ok (.goto (-23), 3) := by decide +kernel
theorem dX3_held_30 : decode cX3_held 30 = .ok (.iload_n 1, 1) := by decide +kernel
theorem dX3_held_31 : decode cX3_held 31 = .ok (.ireturn, 1) := by decide +kernel
theorem dX4_init_0 : decode cX4_init 0 = .ok (.aload_n 0, 1) := by decide +kernel
theorem dX4_init_1 : decode cX4_init 1 = .ok (.invokespecial 3, 3) := by decide +kernel
theorem dX4_init_4 : decode cX4_init 4 = .ok (.aload_n 0, 1) := by decide +kernel
theorem dX4_init_5 : decode cX4_init 5 = .ok (.bipush 80, 2) := by decide +kernel
theorem dX4_init_7 : decode cX4_init 7 = .ok (.newarray .int, 2) := by decide +kernel
theorem dX4_init_9 : decode cX4_init 9 = .ok (.putfield 9, 3) := by decide +kernel
theorem dX4_init_12 : decode cX4_init 12 = .ok (.aload_n 0, 1) := by decide +kernel
theorem dX4_init_13 : decode cX4_init 13 = .ok (.bipush 80, 2) := by decide +kernel
theorem dX4_init_15 : decode cX4_init 15 = .ok (.newarray .int, 2) := by decide +kernel
theorem dX4_init_17 : decode cX4_init 17 = .ok (.putfield 15, 3) := by decide +kernel
theorem dX4_init_20 : decode cX4_init 20 = .ok (.aload_n 0, 1) := by decide +kernel
theorem dX4_init_21 : decode cX4_init 21 = .ok (.bipush 80, 2) := by decide +kernel
theorem dX4_init_23 : decode cX4_init 23 = .ok (.newarray .int, 2) := by decide +kernel
theorem dX4_init_25 : decode cX4_init 25 = .ok (.putfield 18, 3) := by decide +kernel
theorem dX4_init_28 : decode cX4_init 28 = .ok (.aload_n 0, 1) := by decide +kernel
theorem dX4_init_29 : decode cX4_init 29 = .ok (.aload_n 1, 1) := by decide +kernel
theorem dX4_init_30 : decode cX4_init 30 = .ok (.putfield 21, 3) := by decide +kernel
theorem dX4_init_33 : decode cX4_init 33 = .ok (.aload_n 0, 1) := by decide +kernel
theorem dX4_init_34 : decode cX4_init 34 = .ok (.aload_n 2, 1) := by decide +kernel
theorem dX4_init_35 : decode cX4_init 35 = .ok (.putfield 25, 3) := by decide +kernel
theorem dX4_init_38 : decode cX4_init 38 = .ok (.return_, 1) := by decide +kernel
theorem dX4_isDue_0 : decode cX4_isDue 0 = .ok (.aload_n 0, 1) := by decide +kernel
theorem dX4_isDue_1 : decode cX4_isDue 1 = .ok (.getfield 21, 3) := by decide +kernel
theorem dX4_isDue_4 : decode cX4_isDue 4 = .ok (.getfield 29, 3) := by decide +kernel
theorem dX4_isDue_7 : decode cX4_isDue 7 = .ok (.iload_n 1, 1) := by decide +kernel
theorem dX4_isDue_8 : decode cX4_isDue 8 = .ok (.aaload, 1) := by decide +kernel
theorem dX4_isDue_9 : decode cX4_isDue 9 = .ok (.astore_n 3, 1) := by decide +kernel
theorem dX4_isDue_10 : decode cX4_isDue 10 = .ok (.iload_n 2, 1) := by decide +kernel
theorem dX4_isDue_11 : decode cX4_isDue 11 = .ok (.ifCond .le 37, 3) := by decide +kernel
theorem dX4_isDue_14 : decode cX4_isDue 14 = .ok (.aload_n 3, 1) := by decide +kernel
theorem dX4_isDue_15 : decode cX4_isDue 15 = .ok (.getfield 34, 3) := by decide +kernel
theorem dX4_isDue_18 : decode cX4_isDue 18 = .ok (.ifCond .ne 30, 3) := by decide +kernel
theorem dX4_isDue_21 : decode cX4_isDue 21 = .ok (.aload_n 3, 1) := by decide +kernel
theorem dX4_isDue_22 : decode cX4_isDue 22 = .ok (.getfield 40, 3) := by decide +kernel
theorem dX4_isDue_25 : decode cX4_isDue 25 = .ok (.ifCond .le 23, 3) := by decide +kernel
theorem dX4_isDue_28 : decode cX4_isDue 28 = .ok (.bipush 100, 2) := by decide +kernel
theorem dX4_isDue_30 : decode cX4_isDue 30 = .ok (.aload_n 3, 1) := by decide +kernel
theorem dX4_isDue_31 : decode cX4_isDue 31 = .ok (.getfield 40, 3) := by decide +kernel
theorem dX4_isDue_34 : decode cX4_isDue 34 = .ok (.imul, 1) := by decide +kernel
theorem dX4_isDue_35 : decode cX4_isDue 35 = .ok (.iload_n 2, 1) := by decide +kernel
theorem dX4_isDue_36 : decode cX4_isDue 36 = .ok (.aload_n 3, 1) := by decide +kernel
theorem dX4_isDue_37 : decode cX4_isDue 37 = .ok (.getfield 44, 3) := by decide +kernel
theorem dX4_isDue_40 : decode cX4_isDue 40 = .ok (.imul, 1) := by decide +kernel
theorem dX4_isDue_41 : decode cX4_isDue 41 = .ok (.if_icmp .lt 7, 3) := by decide +kernel
theorem dX4_isDue_44 : decode cX4_isDue 44 = .ok (.iconst 1, 1) := by decide +kernel
theorem dX4_isDue_45 : decode cX4_isDue 45 = .ok (.goto 4, 3) := by decide +kernel
theorem dX4_isDue_48 : decode cX4_isDue 48 = .ok (.iconst 0, 1) := by decide +kernel
theorem dX4_isDue_49 : decode cX4_isDue 49 = .ok (.ireturn, 1) := by decide +kernel
theorem dX4_packAnew_0 : decode cX4_packAnew 0 = .ok (.aload_n 0, 1) := by decide +kernel
theorem dX4_packAnew_1 : decode cX4_packAnew 1 = .ok (.iload_n 1, 1) := by decide +kernel
theorem dX4_packAnew_2 : decode cX4_packAnew 2 = .ok (.invokevirtual 47, 3) := by decide +kernel
theorem dX4_packAnew_5 : decode cX4_packAnew 5 = .ok (.aload_n 0, 1) := by decide +kernel
theorem dX4_packAnew_6 : decode cX4_packAnew 6 = .ok (.iload_n 1, 1) := by decide +kernel
theorem dX4_packAnew_7 : decode cX4_packAnew 7 = .ok (.invokevirtual 51, 3) := by decide +kernel
theorem dX4_packAnew_10 : decode cX4_packAnew 10 = .ok (.ifCond .ne 5, 3) := by decide +kernel
theorem dX4_packAnew_13 : decode cX4_packAnew 13 = .ok (.iconst 1, 1) := by decide +kernel
theorem dX4_packAnew_14 : decode cX4_packAnew 14 = .ok (.ireturn, 1) := by decide +kernel
theorem dX4_packAnew_15 : decode cX4_packAnew 15 = .ok (.iconst 0, 1) := by decide +kernel
theorem dX4_packAnew_16 : decode cX4_packAnew 16 = .ok (.istore_n 2, 1) := by decide +kernel
theorem dX4_packAnew_17 : decode cX4_packAnew 17 = .ok (.iload_n 2, 1) := by decide +kernel
theorem dX4_packAnew_18 : decode cX4_packAnew 18 = .ok (.aload_n 0, 1) := by decide +kernel
theorem dX4_packAnew_19 : decode cX4_packAnew 19 = .ok (.getfield 55, 3) := by decide +kernel
theorem dX4_packAnew_22 : decode cX4_packAnew 22 = .ok (.if_icmp .gt 21, 3) := by decide +kernel
theorem dX4_packAnew_25 : decode cX4_packAnew 25 = .ok (.aload_n 0, 1) := by decide +kernel
theorem dX4_packAnew_26 : decode cX4_packAnew 26 = .ok (.getfield 25, 3) := by decide +kernel
theorem dX4_packAnew_29 : decode cX4_packAnew 29 = .ok (.invokevirtual 58, 3) := by decide +kernel
theorem dX4_packAnew_32 : decode cX4_packAnew 32 = .ok (.ifCond .ne 5, 3) := by decide +kernel
theorem dX4_packAnew_35 : decode cX4_packAnew 35 = .ok (.iconst 0, 1) := by decide +kernel
theorem dX4_packAnew_36 : decode cX4_packAnew 36 = .ok (.ireturn, 1) := by decide +kernel
theorem dX4_packAnew_37 : decode cX4_packAnew 37 = .ok (.iinc 2 1, 3) := by decide +kernel
theorem dX4_packAnew_40 : decode cX4_packAnew 40 = .ok (.goto (-23), 3) := by decide +kernel
theorem dX4_packAnew_43 : decode cX4_packAnew 43 = .ok (.aload_n 0, 1) := by decide +kernel
theorem dX4_packAnew_44 : decode cX4_packAnew 44 = .ok (.iload_n 1, 1) := by decide +kernel
theorem dX4_packAnew_45 : decode cX4_packAnew 45 = .ok (.invokevirtual 64, 3) := by decide +kernel
theorem dX4_packAnew_48 : decode cX4_packAnew 48 = .ok (.iconst 1, 1) := by decide +kernel
theorem dX4_packAnew_49 : decode cX4_packAnew 49 = .ok (.ireturn, 1) := by decide +kernel
theorem dX4_collect_0 : decode cX4_collect 0 = .ok (.aload_n 0, 1) := by decide +kernel
theorem dX4_collect_1 : decode cX4_collect 1 = .ok (.iconst 0, 1) := by decide +kernel
theorem dX4_collect_2 : decode cX4_collect 2 = .ok (.putfield 55, 3) := by decide +kernel
theorem dX4_collect_5 : decode cX4_collect 5 = .ok (.iconst 0, 1) := by decide +kernel
theorem dX4_collect_6 : decode cX4_collect 6 = .ok (.istore_n 2, 1) := by decide +kernel
theorem dX4_collect_7 : decode cX4_collect 7 = .ok (.iload_n 2, 1) := by decide +kernel
theorem dX4_collect_8 : decode cX4_collect 8 = .ok (.aload_n 0, 1) := by decide +kernel
theorem dX4_collect_9 : decode cX4_collect 9 = .ok (.getfield 21, 3) := by decide +kernel
theorem dX4_collect_12 : decode cX4_collect 12 = .ok (.getfield 67, 3) := by decide +kernel
theorem dX4_collect_15 : decode cX4_collect 15 = .ok (.if_icmp .ge 26, 3) := by decide +kernel
theorem dX4_collect_18 : decode cX4_collect 18 = .ok (.aload_n 0, 1) := by decide +kernel
theorem dX4_collect_19 : decode cX4_collect 19 = .ok (.getfield 21, 3) := by decide +kernel
theorem dX4_collect_22 : decode cX4_collect 22 = .ok (.iload_n 2, 1) := by decide +kernel
theorem dX4_collect_23 : decode cX4_collect 23 = .ok (.iload_n 1, 1) := by decide +kernel
theorem dX4_collect_24 : decode cX4_collect 24 = .ok (.invokevirtual 70, 3) := by decide +kernel
theorem dX4_collect_27 : decode cX4_collect 27 = .ok (.ifCond .eq 8, 3) := by decide +kernel
theorem dX4_collect_30 : decode cX4_collect 30 = .ok (.aload_n 0, 1) := by decide +kernel
theorem dX4_collect_31 : decode cX4_collect 31 = .ok (.iload_n 2, 1) := by decide +kernel
theorem dX4_collect_32 : decode cX4_collect 32 = .ok (.invokevirtual 74, 3) := by decide +kernel
theorem dX4_collect_35 : decode cX4_collect 35 = .ok (.iinc 2 1, 3) := by decide +kernel
theorem dX4_collect_38 : decode cX4_collect 38 = .ok (.goto (-31), 3) := by decide +kernel
theorem dX4_collect_41 : decode cX4_collect 41 = .ok (.return_, 1) := by decide +kernel
theorem dX4_insertByPlace_0 : decode cX4_insertByPlace 0 = .ok (.aload_n 0, 1) := by decide +kernel
theorem dX4_insertByPlace_1 : decode cX4_insertByPlace 1 = .ok (.getfield 55, 3) := by decide +kernel
theorem dX4_insertByPlace_4 : decode cX4_insertByPlace 4 = .ok (.istore_n 2, 1) := by decide +kernel
theorem dX4_insertByPlace_5 : decode cX4_insertByPlace 5 = .ok (.aload_n 0, 1) := by decide +kernel
theorem dX4_insertByPlace_6 : decode cX4_insertByPlace 6 = .ok (.getfield 55, 3) := by decide +kernel
theorem dX4_insertByPlace_9 : decode cX4_insertByPlace 9 = .ok (.istore_n 3, 1) := by decide +kernel
theorem dX4_insertByPlace_10 : decode cX4_insertByPlace 10 = .ok (.iload_n 3, 1) := by decide +kernel
theorem dX4_insertByPlace_11 : decode cX4_insertByPlace 11 = .ok (.ifCond .le 61, 3) := by decide +kernel
theorem dX4_insertByPlace_14 : decode cX4_insertByPlace 14 = .ok (.aload_n 0, 1) := by decide +kernel
theorem dX4_insertByPlace_15 : decode cX4_insertByPlace 15 = .ok (.getfield 21, 3) := by decide +kernel
theorem dX4_insertByPlace_18 : decode cX4_insertByPlace 18 = .ok (.getfield 77, 3) := by decide +kernel
theorem dX4_insertByPlace_21 : decode cX4_insertByPlace 21 = .ok (.aload_n 0, 1) := by decide +kernel
theorem dX4_insertByPlace_22 : decode cX4_insertByPlace 22 = .ok (.getfield 9, 3) := by decide +kernel
theorem dX4_insertByPlace_25 : decode cX4_insertByPlace 25 = .ok (.iload_n 3, 1) := by decide +kernel
theorem dX4_insertByPlace_26 : decode cX4_insertByPlace 26 = .ok (.iconst 1, 1) := by decide +kernel
theorem dX4_insertByPlace_27 : decode cX4_insertByPlace 27 = .ok (.isub, 1) := by decide +kernel
theorem dX4_insertByPlace_28 : decode cX4_insertByPlace 28 = .ok (.iaload, 1) := by decide +kernel
theorem dX4_insertByPlace_29 : decode cX4_insertByPlace 29 = .ok (.aaload, 1) := by decide +kernel
theorem dX4_insertByPlace_30 : decode cX4_insertByPlace 30 = .ok (.getfield 81, 3) := by decide +kernel
theorem dX4_insertByPlace_33 : decode cX4_insertByPlace 33 = .ok (.aload_n 0, 1) := by decide +kernel
theorem dX4_insertByPlace_34 : decode cX4_insertByPlace 34 = .ok (.getfield 21, 3) := by decide +kernel
theorem dX4_insertByPlace_37 : decode cX4_insertByPlace 37 = .ok (.getfield 77, 3) := by decide +kernel
theorem dX4_insertByPlace_40 : decode cX4_insertByPlace 40 = .ok (.iload_n 1, 1) := by decide +kernel
theorem dX4_insertByPlace_41 : decode cX4_insertByPlace 41 = .ok (.aaload, 1) := by decide +kernel
theorem dX4_insertByPlace_42 : decode cX4_insertByPlace 42 = .ok (.getfield 81, 3) := by decide +kernel
theorem dX4_insertByPlace_45 : decode cX4_insertByPlace 45 = .ok (.if_icmp .le 27, 3) := by decide +kernel
theorem dX4_insertByPlace_48 : decode cX4_insertByPlace 48 = .ok (.aload_n 0, 1) := by decide +kernel
theorem dX4_insertByPlace_49 : decode cX4_insertByPlace 49 = .ok (.getfield 9, 3) := by decide +kernel
theorem dX4_insertByPlace_52 : decode cX4_insertByPlace 52 = .ok (.iload_n 3, 1) := by decide +kernel
theorem dX4_insertByPlace_53 : decode cX4_insertByPlace 53 = .ok (.aload_n 0, 1) := by decide +kernel
theorem dX4_insertByPlace_54 : decode cX4_insertByPlace 54 = .ok (.getfield 9, 3) := by decide +kernel
theorem dX4_insertByPlace_57 : decode cX4_insertByPlace 57 = .ok (.iload_n 3, 1) := by decide +kernel
theorem dX4_insertByPlace_58 : decode cX4_insertByPlace 58 = .ok (.iconst 1, 1) := by decide +kernel
theorem dX4_insertByPlace_59 : decode cX4_insertByPlace 59 = .ok (.isub, 1) := by decide +kernel
theorem dX4_insertByPlace_60 : decode cX4_insertByPlace 60 = .ok (.iaload, 1) := by decide +kernel
theorem dX4_insertByPlace_61 : decode cX4_insertByPlace 61 = .ok (.iastore, 1) := by decide +kernel
theorem dX4_insertByPlace_62 : decode cX4_insertByPlace 62 = .ok (.iload_n 3, 1) := by decide +kernel
theorem dX4_insertByPlace_63 : decode cX4_insertByPlace 63 = .ok (.iconst 1, 1) := by decide +kernel
theorem dX4_insertByPlace_64 : decode cX4_insertByPlace 64 = .ok (.isub, 1) := by decide +kernel
theorem dX4_insertByPlace_65 : decode cX4_insertByPlace 65 = .ok (.istore_n 2, 1) := by decide +kernel
theorem dX4_insertByPlace_66 : decode cX4_insertByPlace 66 = .ok (.iinc 3 (-1), 3) := by decide +kernel
theorem dX4_insertByPlace_69 : decode cX4_insertByPlace 69 = .ok (.goto (-59), 3) := by decide +kernel
theorem dX4_insertByPlace_72 : decode cX4_insertByPlace 72 = .ok (.aload_n 0, 1) := by decide +kernel
theorem dX4_insertByPlace_73 : decode cX4_insertByPlace 73 = .ok (.getfield 9, 3) := by decide +kernel
theorem dX4_insertByPlace_76 : decode cX4_insertByPlace 76 = .ok (.iload_n 2, 1) := by decide +kernel
theorem dX4_insertByPlace_77 : decode cX4_insertByPlace 77 = .ok (.iload_n 1, 1) := by decide +kernel
theorem dX4_insertByPlace_78 : decode cX4_insertByPlace 78 = .ok (.iastore, 1) := by decide +kernel
theorem dX4_insertByPlace_79 : decode cX4_insertByPlace 79 = .ok (.aload_n 0, 1) := by decide +kernel
theorem dX4_insertByPlace_80 : decode cX4_insertByPlace 80 = .ok (.dup, 1) := by decide +kernel
theorem dX4_insertByPlace_81 : decode cX4_insertByPlace 81 = .ok (.getfield 55, 3) := by decide +kernel
theorem dX4_insertByPlace_84 : decode cX4_insertByPlace 84 = .ok (.iconst 1, 1) := by decide +kernel
theorem dX4_insertByPlace_85 : decode cX4_insertByPlace 85 = .ok (.iadd, 1) := by decide +kernel
theorem dX4_insertByPlace_86 : decode cX4_insertByPlace 86 = .ok (.putfield 55, 3) := by decide +kernel
theorem dX4_insertByPlace_89 : decode cX4_insertByPlace 89 = .ok (.return_, 1) := by decide +kernel
theorem dX4_plan_0 : decode cX4_plan 0 = .ok (.aload_n 0, 1) := by decide +kernel
theorem dX4_plan_1 : decode cX4_plan 1 = .ok (.getfield 21, 3) := by decide +kernel
theorem dX4_plan_4 : decode cX4_plan 4 = .ok (.getfield 86, 3) := by decide +kernel
theorem dX4_plan_7 : decode cX4_plan 7 = .ok (.iconst 1, 1) := by decide +kernel
theorem dX4_plan_8 : decode cX4_plan 8 = .ok (.isub, 1) := by decide +kernel
theorem dX4_plan_9 : decode cX4_plan 9 = .ok (.istore_n 2, 1) := by decide +kernel
theorem dX4_plan_10 : decode cX4_plan 10 = .ok (.aload_n 0, 1) := by decide +kernel
theorem dX4_plan_11 : decode cX4_plan 11 = .ok (.getfield 21, 3) := by decide +kernel
theorem dX4_plan_14 : decode cX4_plan 14 = .ok (.iload_n 1, 1) := by decide +kernel
theorem dX4_plan_15 : decode cX4_plan 15 = .ok (.invokevirtual 89, 3) := by decide +kernel
theorem dX4_plan_18 : decode cX4_plan 18 = .ok (.istore_n 3, 1) := by decide +kernel
theorem dX4_plan_19 : decode cX4_plan 19 = .ok (.iconst 0, 1) := by decide +kernel
theorem dX4_plan_20 : decode cX4_plan 20 = .ok (.istore 4, 2) := by decide +kernel
theorem dX4_plan_22 : decode cX4_plan 22 = .ok (.iload 4, 2) := by decide +kernel
theorem dX4_plan_24 : decode cX4_plan 24 = .ok (.aload_n 0, 1) := by decide +kernel
theorem dX4_plan_25 : decode cX4_plan 25 = .ok (.getfield 55, 3) := by decide +kernel
theorem dX4_plan_28 : decode cX4_plan 28 = .ok (.if_icmp .ge 69, 3) := by decide +kernel
theorem dX4_plan_31 : decode cX4_plan 31 = .ok (.aload_n 0, 1) := by decide +kernel
theorem dX4_plan_32 : decode cX4_plan 32 = .ok (.getfield 21, 3) := by decide +kernel
theorem dX4_plan_35 : decode cX4_plan 35 = .ok (.getfield 77, 3) := by decide +kernel
theorem dX4_plan_38 : decode cX4_plan 38 = .ok (.aload_n 0, 1) := by decide +kernel
theorem dX4_plan_39 : decode cX4_plan 39 = .ok (.getfield 9, 3) := by decide +kernel
theorem dX4_plan_42 : decode cX4_plan 42 = .ok (.iload 4, 2) := by decide +kernel
theorem dX4_plan_44 : decode cX4_plan 44 = .ok (.iaload, 1) := by decide +kernel
theorem dX4_plan_45 : decode cX4_plan 45 = .ok (.aaload, 1) := by decide +kernel
theorem dX4_plan_46 : decode cX4_plan 46 = .ok (.getfield 93, 3) := by decide +kernel
theorem dX4_plan_49 : decode cX4_plan 49 = .ok (.istore 5, 2) := by decide +kernel
theorem dX4_plan_51 : decode cX4_plan 51 = .ok (.iload_n 3, 1) := by decide +kernel
theorem dX4_plan_52 : decode cX4_plan 52 = .ok (.iload 5, 2) := by decide +kernel
theorem dX4_plan_54 : decode cX4_plan 54 = .ok (.iadd, 1) := by decide +kernel
theorem dX4_plan_55 : decode cX4_plan 55 = .ok (.aload_n 0, 1) := by decide +kernel
theorem dX4_plan_56 : decode cX4_plan 56 = .ok (.getfield 21, 3) := by decide +kernel
theorem dX4_plan_59 : decode cX4_plan 59 = .ok (.getfield 96, 3) := by decide +kernel
theorem dX4_plan_62 : decode cX4_plan 62 = .ok (.if_icmp .le 8, 3) := by decide +kernel
theorem dX4_plan_65 : decode cX4_plan 65 = .ok (.iinc 2 1, 3) := by decide +kernel
theorem dX4_plan_68 : decode cX4_plan 68 = .ok (.iconst 0, 1) := by decide +kernel
theorem dX4_plan_69 : decode cX4_plan 69 = .ok (.istore_n 3, 1) := by decide +kernel
theorem dX4_plan_70 : decode cX4_plan 70 = .ok (.aload_n 0, 1) := by decide +kernel
theorem dX4_plan_71 : decode cX4_plan 71 = .ok (.getfield 15, 3) := by decide +kernel
theorem dX4_plan_74 : decode cX4_plan 74 = .ok (.iload 4, 2) := by decide +kernel
theorem dX4_plan_76 : decode cX4_plan 76 = .ok (.iload_n 2, 1) := by decide +kernel
theorem dX4_plan_77 : decode cX4_plan 77 = .ok (.iastore, 1) := by decide +kernel
theorem dX4_plan_78 : decode cX4_plan 78 = .ok (.aload_n 0, 1) := by decide +kernel
theorem dX4_plan_79 : decode cX4_plan 79 = .ok (.getfield 18, 3) := by decide +kernel
theorem dX4_plan_82 : decode cX4_plan 82 = .ok (.iload 4, 2) := by decide +kernel
theorem dX4_plan_84 : decode cX4_plan 84 = .ok (.iload_n 3, 1) := by decide +kernel
theorem dX4_plan_85 : decode cX4_plan 85 = .ok (.iastore, 1) := by decide +kernel
theorem dX4_plan_86 : decode cX4_plan 86 = .ok (.iload_n 3, 1) := by decide +kernel
theorem dX4_plan_87 : decode cX4_plan 87 = .ok (.iload 5, 2) := by decide +kernel
theorem dX4_plan_89 : decode cX4_plan 89 = .ok (.iadd, 1) := by decide +kernel
theorem dX4_plan_90 : decode cX4_plan 90 = .ok (.istore_n 3, 1) := by decide +kernel
theorem dX4_plan_91 : decode cX4_plan 91 = .ok (.iinc 4 1, 3) := by decide +kernel
theorem dX4_plan_94 : decode cX4_plan 94 = .ok (.goto (-72), 3) := by decide +kernel
theorem dX4_plan_97 : decode cX4_plan 97 = .ok (.iload_n 2, 1) := by decide +kernel
theorem dX4_plan_98 : decode cX4_plan 98 = .ok (.bipush 40, 2) := by decide +kernel
theorem dX4_plan_100 : decode cX4_plan 100 = .ok (.if_icmp .ge 7, 3) := by decide +kernel
theorem dX4_plan_103 : decode cX4_plan 103 = .ok (.iconst 1, 1) := by decide +kernel
theorem dX4_plan_104 : decode cX4_plan 104 = .ok (.goto 4, 3) := by decide +kernel
theorem dX4_plan_107 : decode cX4_plan 107 = .ok (.iconst 0, 1) := by decide +kernel
theorem dX4_plan_108 : decode cX4_plan 108 = .ok (.ireturn, 1) := by decide +kernel
theorem dX4_carryOut_0 : decode cX4_carryOut 0 = .ok (.iconst 0, 1) := by decide +kernel
theorem dX4_carryOut_1 : decode cX4_carryOut 1 = .ok (.istore_n 2, 1) := by decide +kernel
theorem dX4_carryOut_2 : decode cX4_carryOut 2 = .ok (.iload_n 2, 1) := by decide +kernel
theorem dX4_carryOut_3 : decode cX4_carryOut 3 = .ok (.aload_n 0, 1) := by decide +kernel
theorem dX4_carryOut_4 : decode cX4_carryOut 4 = .ok (.getfield 55, 3) := by decide +kernel
theorem dX4_carryOut_7 : decode cX4_carryOut 7 = .ok (.if_icmp .ge 34, 3) := by decide +kernel
theorem dX4_carryOut_10 : decode cX4_carryOut 10 = .ok (.aload_n 0, 1) := by decide +kernel
theorem dX4_carryOut_11 : decode cX4_carryOut 11 = .ok (.getfield 21, 3) := by decide +kernel
theorem dX4_carryOut_14 : decode cX4_carryOut 14 = .ok (.aload_n 0, 1) := by decide +kernel
theorem dX4_carryOut_15 : decode cX4_carryOut 15 = .ok (.getfield 9, 3) := by decide +kernel
theorem dX4_carryOut_18 : decode cX4_carryOut 18 = .ok (.iload_n 2, 1) := by decide +kernel
theorem dX4_carryOut_19 : decode cX4_carryOut 19 = .ok (.iaload, 1) := by decide +kernel
theorem dX4_carryOut_20 : decode cX4_carryOut 20 = .ok (.aload_n 0, 1) := by decide +kernel
theorem dX4_carryOut_21 : decode cX4_carryOut 21 = .ok (.getfield 15, 3) := by decide +kernel
theorem dX4_carryOut_24 : decode cX4_carryOut 24 = .ok (.iload_n 2, 1) := by decide +kernel
theorem dX4_carryOut_25 : decode cX4_carryOut 25 = .ok (.iaload, 1) := by decide +kernel
theorem dX4_carryOut_26 : decode cX4_carryOut 26 = .ok (.aload_n 0, 1) := by decide +kernel
theorem dX4_carryOut_27 : decode cX4_carryOut 27 = .ok (.getfield 18, 3) := by decide +kernel
theorem dX4_carryOut_30 : decode cX4_carryOut 30 = .ok (.iload_n 2, 1) := by decide +kernel
theorem dX4_carryOut_31 : decode cX4_carryOut 31 = .ok (.iaload, 1) := by decide +kernel
theorem dX4_carryOut_32 : decode cX4_carryOut 32 = .ok (.invokevirtual 99, 3) := by decide +kernel
theorem dX4_carryOut_35 : decode cX4_carryOut 35 = .ok (.iinc 2 1, 3) := by decide +kernel
theorem dX4_carryOut_38 : decode cX4_carryOut 38 = .ok (.goto (-36), 3) := by decide +kernel
theorem dX4_carryOut_41 : decode cX4_carryOut 41 = .ok (.aload_n 0, 1) := by decide +kernel
theorem dX4_carryOut_42 : decode cX4_carryOut 42 = .ok (.getfield 21, 3) := by decide +kernel
theorem dX4_carryOut_45 : decode cX4_carryOut 45 = .ok (.getfield 29, 3) := by decide +kernel
theorem dX4_carryOut_48 : decode cX4_carryOut 48 = .ok (.iload_n 1, 1) := by decide +kernel
theorem dX4_carryOut_49 : decode cX4_carryOut 49 = .ok (.aaload, 1) := by decide +kernel
theorem dX4_carryOut_50 : decode cX4_carryOut 50 = .ok (.astore_n 2, 1) := by decide +kernel
theorem dX4_carryOut_51 : decode cX4_carryOut 51 = .ok (.aload_n 2, 1) := by decide +kernel
theorem dX4_carryOut_52 : decode cX4_carryOut 52 = .ok (.iconst 1, 1) := by decide +kernel
theorem dX4_carryOut_53 : decode cX4_carryOut 53 = .ok (.putfield 34, 3) := by decide +kernel
theorem dX4_carryOut_56 : decode cX4_carryOut 56 = .ok (.aload_n 2, 1) := by decide +kernel
theorem dX4_carryOut_57 : decode cX4_carryOut 57 = .ok (.iconst 0, 1) := by decide +kernel
theorem dX4_carryOut_58 : decode cX4_carryOut 58 = .ok (.putfield 44, 3) := by decide +kernel
theorem dX4_carryOut_61 : decode cX4_carryOut 61 = .ok (.aload_n 2, 1) := by decide +kernel
theorem dX4_carryOut_62 : decode cX4_carryOut 62 = .ok (.iconst 0, 1) := by decide +kernel
theorem dX4_carryOut_63 : decode cX4_carryOut 63 = .ok (.putfield 40, 3) := by decide +kernel
theorem dX4_carryOut_66 : decode cX4_carryOut 66 = .ok (.aload_n 0, 1) := by decide +kernel
theorem dX4_carryOut_67 : decode cX4_carryOut 67 = .ok (.getfield 21, 3) := by decide +kernel
theorem dX4_carryOut_70 : decode cX4_carryOut 70 = .ok (.dup, 1) := by decide +kernel
theorem dX4_carryOut_71 : decode cX4_carryOut 71 = .ok (.getfield 103, 3) := by decide +kernel
theorem dX4_carryOut_74 : decode cX4_carryOut 74 = .ok (.iconst 1, 1) := by decide +kernel
theorem dX4_carryOut_75 : decode cX4_carryOut 75 = .ok (.iadd, 1) := by decide +kernel
theorem dX4_carryOut_76 : decode cX4_carryOut 76 = .ok (.putfield 103, 3) := by decide +kernel
theorem dX4_carryOut_79 : decode cX4_carryOut 79 = .ok (.return_, 1) := by decide +kernel
theorem dX5_init_0 : decode cX5_init 0 = .ok (.aload_n 0, 1) := by decide +kernel
theorem dX5_init_1 : decode cX5_init 1 = .ok (.invokespecial 1, 3) := by decide +kernel
theorem dX5_init_4 : decode cX5_init 4 = .ok (.return_, 1) := by decide +kernel
theorem dX6_init_0 : decode cX6_init 0 = .ok (.aload_n 0, 1) := by decide +kernel
theorem dX6_init_1 : decode cX6_init 1 = .ok (.invokespecial 3, 3) := by decide +kernel
theorem dX6_init_4 : decode cX6_init 4 = .ok (.aload_n 0, 1) := by decide +kernel
theorem dX6_init_5 : decode cX6_init 5 = .ok (.bipush 6, 2) := by decide +kernel
theorem dX6_init_7 : decode cX6_init 7 = .ok (.newarray .int, 2) := by decide +kernel
theorem dX6_init_9 : decode cX6_init 9 = .ok (.putfield 9, 3) := by decide +kernel
theorem dX6_init_12 : decode cX6_init 12 = .ok (.aload_n 0, 1) := by decide +kernel
theorem dX6_init_13 : decode cX6_init 13 = .ok (.bipush 40, 2) := by decide +kernel
theorem dX6_init_15 : decode cX6_init 15 = .ok (.newarray .int, 2) := by decide +kernel
theorem dX6_init_17 : decode cX6_init 17 = .ok (.putfield 15, 3) := by decide +kernel
theorem dX6_init_20 : decode cX6_init 20 = .ok (.return_, 1) := by decide +kernel
theorem dX6_greatest_0 : decode cX6_greatest 0 = .ok (.iload_n 0, 1) := by decide +kernel
theorem dX6_greatest_1 : decode cX6_greatest 1 = .ok (.iconst 5, 1) := by decide +kernel
theorem dX6_greatest_2 : decode cX6_greatest 2 = .ok (.if_icmp .ne 8, 3) := by decide +kernel
theorem dX6_greatest_5 : decode cX6_greatest 5 = .ok (.bipush 15, 2) := by decide +kernel
theorem dX6_greatest_7 : decode cX6_greatest 7 = .ok (.goto 5, 3) := by decide +kernel
theorem dX6_greatest_10 : decode cX6_greatest 10 = .ok (.bipush 100, 2) := by decide +kernel
theorem dX6_greatest_12 : decode cX6_greatest 12 = .ok (.ireturn, 1) := by decide +kernel
theorem dX6_judge_0 : decode cX6_judge 0 = .ok (.iconst 0, 1) := by decide +kernel
theorem dX6_judge_1 : decode cX6_judge 1 = .ok (.istore_n 3, 1) := by decide +kernel
theorem dX6_judge_2 : decode cX6_judge 2 = .ok (.iload_n 3, 1) := by decide +kernel
theorem dX6_judge_3 : decode cX6_judge 3 = .ok (.iload_n 2, 1) := by decide +kernel
theorem dX6_judge_4 : decode cX6_judge 4 = .ok (.if_icmp .ge 61, 3) := by decide +kernel
theorem dX6_judge_7 : decode cX6_judge 7 = .ok (.aload_n 1, 1) := by decide +kernel
theorem dX6_judge_8 : decode cX6_judge 8 = .ok (.iload_n 3, 1) := by decide +kernel
theorem dX6_judge_9 : decode cX6_judge 9 = .ok (.aaload, 1) := by decide +kernel
theorem dX6_judge_10 : decode cX6_judge 10 = .ok (.getfield 18, 3) := by decide +kernel
theorem dX6_judge_13 : decode cX6_judge 13 = .ok (.ifCond .ne 26, 3) := by decide +kernel
theorem dX6_judge_16 : decode cX6_judge 16 = .ok (.aload_n 0, 1) := by decide +kernel
theorem dX6_judge_17 : decode cX6_judge 17 = .ok (.getfield 9, 3) := by decide +kernel
theorem dX6_judge_20 : decode cX6_judge 20 = .ok (.iconst 5, 1) := by decide +kernel
theorem dX6_judge_21 : decode cX6_judge 21 = .ok (.iaload, 1) := by decide +kernel
theorem dX6_judge_22 : decode cX6_judge 22 = .ok (.aload_n 1, 1) := by decide +kernel
theorem dX6_judge_23 : decode cX6_judge 23 = .ok (.iload_n 3, 1) := by decide +kernel
theorem dX6_judge_24 : decode cX6_judge 24 = .ok (.aaload, 1) := by decide +kernel
theorem dX6_judge_25 : decode cX6_judge 25 = .ok (.getfield 24, 3) := by decide +kernel
theorem dX6_judge_28 : decode cX6_judge 28 = .ok (.ishr, 1) := by decide +kernel
theorem dX6_judge_29 : decode cX6_judge 29 = .ok (.iconst 1, 1) := by decide +kernel
theorem dX6_judge_30 : decode cX6_judge 30 = .ok (.iand, 1) := by decide +kernel
theorem dX6_judge_31 : decode cX6_judge 31 = .ok (.iconst 1, 1) := by decide +kernel
theorem dX6_judge_32 : decode cX6_judge 32 = .ok (.if_icmp .ne 7, 3) := by decide +kernel
theorem dX6_judge_35 : decode cX6_judge 35 = .ok (.iconst 1, 1) := by decide +kernel
theorem dX6_judge_36 : decode cX6_judge 36 = .ok (.goto 4, 3) := by decide +kernel
theorem dX6_judge_39 : decode cX6_judge 39 = .ok (.iconst 0, 1) := by decide +kernel
theorem dX6_judge_40 : decode cX6_judge 40 = .ok (.istore 4, 2) := by decide +kernel
theorem dX6_judge_42 : decode cX6_judge 42 = .ok (.aload_n 0, 1) := by decide +kernel
theorem dX6_judge_43 : decode cX6_judge 43 = .ok (.getfield 15, 3) := by decide +kernel
theorem dX6_judge_46 : decode cX6_judge 46 = .ok (.iload_n 3, 1) := by decide +kernel
theorem dX6_judge_47 : decode cX6_judge 47 = .ok (.iload 4, 2) := by decide +kernel
theorem dX6_judge_49 : decode cX6_judge 49 = .ok (.ifCond .eq 8, 3) := by decide +kernel
theorem dX6_judge_52 : decode cX6_judge 52 = .ok (.bipush 32, 2) := by decide +kernel
theorem dX6_judge_54 : decode cX6_judge 54 = .ok (.goto 4, 3) := by decide +kernel
theorem dX6_judge_57 : decode cX6_judge 57 = .ok (.iconst 0, 1) := by decide +kernel
theorem dX6_judge_58 : decode cX6_judge 58 = .ok (.iastore, 1) := by decide +kernel
theorem dX6_judge_59 : decode cX6_judge 59 = .ok (.iinc 3 1, 3) := by decide +kernel
theorem dX6_judge_62 : decode cX6_judge 62 = .ok (.goto (-60), 3) := by decide +kernel
theorem dX6_judge_65 : decode cX6_judge 65 = .ok (.iconst 0, 1) := by decide +kernel
theorem dX6_judge_66 : decode cX6_judge 66 = .ok (.istore_n 3, 1) := by decide +kernel
theorem dX6_judge_67 : decode cX6_judge 67 = .ok (.iload_n 3, 1) := by decide +kernel
theorem dX6_judge_68 : decode cX6_judge 68 = .ok (.iconst 4, 1) := by decide +kernel
theorem dX6_judge_69 : decode cX6_judge 69 = .ok (.if_icmp .gt 16, 3) := by decide +kernel
theorem dX6_judge_72 : decode cX6_judge 72 = .ok (.aload_n 0, 1) := by decide +kernel
theorem dX6_judge_73 : decode cX6_judge 73 = .ok (.iload_n 3, 1) := by decide +kernel
theorem dX6_judge_74 : decode cX6_judge 74 = .ok (.aload_n 1, 1) := by decide +kernel
theorem dX6_judge_75 : decode cX6_judge 75 = .ok (.iload_n 2, 1) := by decide +kernel
theorem dX6_judge_76 : decode cX6_judge 76 = .ok (.invokevirtual 28, 3) := by decide +kernel
theorem dX6_judge_79 : decode cX6_judge 79 = .ok (.iinc 3 1, 3) := by decide +kernel
theorem dX6_judge_82 : decode cX6_judge 82 = .ok (.goto (-15), 3) := by decide +kernel
theorem dX6_judge_85 : decode cX6_judge 85 = .ok (.return_, 1) := by decide +kernel
theorem dX6_judgeBy_0 : decode cX6_judgeBy 0 = .ok (.iconst 0, 1) := by decide +kernel
theorem dX6_judgeBy_1 : decode cX6_judgeBy 1 = .ok (.istore 4, 2) := by decide +kernel
theorem dX6_judgeBy_3 : decode cX6_judgeBy 3 = .ok (.lconst 0, 1) := by decide +kernel
theorem dX6_judgeBy_4 : decode cX6_judgeBy 4 = .ok (.lstore 5, 2) := by decide +kernel
theorem dX6_judgeBy_6 : decode cX6_judgeBy 6 = .ok (.iload_n 3, 1) := by decide +kernel
theorem dX6_judgeBy_7 : decode cX6_judgeBy 7 = .ok (.iconst 1, 1) := by decide +kernel
theorem dX6_judgeBy_8 : decode cX6_judgeBy 8 = .ok (.isub, 1) := by decide +kernel
theorem dX6_judgeBy_9 : decode cX6_judgeBy 9 = .ok (.istore 7, 2) := by decide +kernel
theorem dX6_judgeBy_11 : decode cX6_judgeBy 11 = .ok (.iload 7, 2) := by decide +kernel
theorem dX6_judgeBy_13 : decode cX6_judgeBy 13 = .ok (.ifCond .lt 81, 3) := by decide +kernel
theorem dX6_judgeBy_16 : decode cX6_judgeBy 16 = .ok (.iload 4, 2) := by decide +kernel
theorem dX6_judgeBy_18 : decode cX6_judgeBy 18 = .ok (.aload_n 0, 1) := by decide +kernel
theorem dX6_judgeBy_19 : decode cX6_judgeBy 19 = .ok (.getfield 9, 3) := by decide +kernel
theorem dX6_judgeBy_22 : decode cX6_judgeBy 22 = .ok (.iload_n 1, 1) := by decide +kernel
theorem dX6_judgeBy_23 : decode cX6_judgeBy 23 = .ok (.iaload, 1) := by decide +kernel
theorem dX6_judgeBy_24 : decode cX6_judgeBy 24 = .ok (.if_icmp .ge 70, 3) := by decide +kernel
theorem dX6_judgeBy_27 : decode cX6_judgeBy 27 = .ok (.aload_n 2, 1) := by decide +kernel
theorem dX6_judgeBy_28 : decode cX6_judgeBy 28 = .ok (.iload 7, 2) := by decide +kernel
theorem dX6_judgeBy_30 : decode cX6_judgeBy 30 = .ok (.aaload, 1) := by decide +kernel
theorem dX6_judgeBy_31 : decode cX6_judgeBy 31 = .ok (.getfield 18, 3) := by decide +kernel
theorem dX6_judgeBy_34 : decode cX6_judgeBy 34 = .ok (.ifCond .ne 54, 3) := by decide +kernel
theorem dX6_judgeBy_37 : decode cX6_judgeBy 37 = .ok (.iload_n 1, 1) := by decide +kernel
theorem dX6_judgeBy_38 : decode cX6_judgeBy 38 = .ok (.iload 7, 2) := by decide +kernel
theorem dX6_judgeBy_40 : decode cX6_judgeBy 40 = .ok (.aload_n 2, 1) := by decide +kernel
theorem dX6_judgeBy_41 : decode cX6_judgeBy 41 = .ok (.iload 7, 2) := by decide +kernel
theorem dX6_judgeBy_43 : decode cX6_judgeBy 43 = .ok (.aaload, 1) := by decide +kernel
theorem dX6_judgeBy_44 : decode cX6_judgeBy 44 = .ok (.getfield 32, 3) := by decide +kernel
theorem dX6_judgeBy_47 : decode cX6_judgeBy 47 = .ok (.invokestatic 36, 3) := by decide +kernel
theorem dX6_judgeBy_50 : decode cX6_judgeBy 50 = .ok (.invokestatic 42, 3) := by decide +kernel
theorem dX6_judgeBy_53 : decode cX6_judgeBy 53 = .ok (.lstore 8, 2) := by decide +kernel
theorem dX6_judgeBy_55 : decode cX6_judgeBy 55 = .ok (.iload 4, 2) := by decide +kernel
theorem dX6_judgeBy_57 : decode cX6_judgeBy 57 = .ok (.ifCond .eq 11, 3) := by decide +kernel
theorem dX6_judgeBy_60 : decode cX6_judgeBy 60 = .ok (.lload 8, 2) := by decide +kernel
theorem dX6_judgeBy_62 : decode cX6_judgeBy 62 = .ok (.lload 5, 2) := by decide +kernel
theorem dX6_judgeBy_64 : decode cX6_judgeBy 64 = .ok (.lcmp, 1) := by decide +kernel
theorem dX6_judgeBy_65 : decode cX6_judgeBy 65 = .ok (.ifCond .eq 23, 3) := by decide +kernel
theorem dX6_judgeBy_68 : decode cX6_judgeBy 68 = .ok (.aload_n 0, 1) := by decide +kernel
theorem dX6_judgeBy_69 : decode cX6_judgeBy 69 = .ok (.getfield 15, 3) := by decide +kernel
theorem dX6_judgeBy_72 : decode cX6_judgeBy 72 = .ok (.iload 7, 2) := by decide +kernel
theorem dX6_judgeBy_74 : decode cX6_judgeBy 74 = .ok (.dup2, 1) := by decide +kernel
theorem dX6_judgeBy_75 : decode cX6_judgeBy 75 = .ok (.iaload, 1) := by decide +kernel
theorem dX6_judgeBy_76 : decode cX6_judgeBy 76 = .ok (.iconst 1, 1) := by decide +kernel
theorem dX6_judgeBy_77 : decode cX6_judgeBy 77 = .ok (.iload_n 1, 1) := by decide +kernel
theorem dX6_judgeBy_78 : decode cX6_judgeBy 78 = .ok (.ishl, 1) := by decide +kernel
theorem dX6_judgeBy_79 : decode cX6_judgeBy 79 = .ok (.ior, 1) := by decide +kernel
theorem dX6_judgeBy_80 : decode cX6_judgeBy 80 = .ok (.iastore, 1) := by decide +kernel
theorem dX6_judgeBy_81 : decode cX6_judgeBy 81 = .ok (.iinc 4 1, 3) := by decide +kernel
theorem dX6_judgeBy_84 : decode cX6_judgeBy 84 = .ok (.lload 8, 2) := by decide +kernel
theorem dX6_judgeBy_86 : decode cX6_judgeBy 86 = .ok (.lstore 5, 2) := by decide +kernel
theorem dX6_judgeBy_88 : decode cX6_judgeBy 88 = .ok (.iinc 7 (-1), 3) := by decide +kernel
theorem dX6_judgeBy_91 : decode cX6_judgeBy 91 = .ok (.goto (-80), 3) := by decide +kernel
theorem dX6_judgeBy_94 : decode cX6_judgeBy 94 = .ok (.return_, 1) := by decide +kernel
theorem dX6_periodOf_0 : decode cX6_periodOf 0 = .ok (.iload_n 0, 1) := by decide +kernel
theorem dX6_periodOf_1 : decode cX6_periodOf 1 = .ok (.tableswitch 48 1 4 #[31, 33, 38, 43], 31) := by decide +kernel
theorem dX6_periodOf_32 : decode cX6_periodOf 32 = .ok (.lload_n 2, 1) := by decide +kernel
theorem dX6_periodOf_33 : decode cX6_periodOf 33 = .ok (.lreturn, 1) := by decide +kernel
theorem dX6_periodOf_34 : decode cX6_periodOf 34 = .ok (.lload_n 2, 1) := by decide +kernel
theorem dX6_periodOf_35 : decode cX6_periodOf 35 = .ok (.invokestatic 46, 3) := by decide +kernel
theorem dX6_periodOf_38 : decode cX6_periodOf 38 = .ok (.lreturn, 1) := by decide +kernel
theorem dX6_periodOf_39 : decode cX6_periodOf 39 = .ok (.lload_n 2, 1) := by decide +kernel
theorem dX6_periodOf_40 : decode cX6_periodOf 40 = .ok (.invokestatic 49, 3) := by decide +kernel
theorem dX6_periodOf_43 : decode cX6_periodOf 43 = .ok (.lreturn, 1) := by decide +kernel
theorem dX6_periodOf_44 : decode cX6_periodOf 44 = .ok (.lload_n 2, 1) := by decide +kernel
theorem dX6_periodOf_45 : decode cX6_periodOf 45 = .ok (.invokestatic 52, 3) := by decide +kernel
theorem dX6_periodOf_48 : decode cX6_periodOf 48 = .ok (.lreturn, 1) := by decide +kernel
theorem dX6_periodOf_49 : decode cX6_periodOf 49 = .ok (.iload_n 1, 1) := by decide +kernel
theorem dX6_periodOf_50 : decode cX6_periodOf 50 = .ok (.i2l, 1) := by decide +kernel
theorem dX6_periodOf_51 : decode cX6_periodOf 51 = .ok (.lreturn, 1) := by decide +kernel
theorem dX7_init_0 : decode cX7_init 0 = .ok (.aload_n 0, 1) := by decide +kernel
theorem dX7_init_1 : decode cX7_init 1 = .ok (.invokespecial 3, 3) := by decide +kernel
theorem dX7_init_4 : decode cX7_init 4 = .ok (.aload_n 0, 1) := by decide +kernel
theorem dX7_init_5 : decode cX7_init 5 = .ok (.bipush 8, 2) := by decide +kernel
theorem dX7_init_7 : decode cX7_init 7 = .ok (.newarray .int, 2) := by decide +kernel
theorem dX7_init_9 : decode cX7_init 9 = .ok (.putfield 9, 3) := by decide +kernel
theorem dX7_init_12 : decode cX7_init 12 = .ok (.aload_n 0, 1) := by decide +kernel
theorem dX7_init_13 : decode cX7_init 13 = .ok (.iconst 4, 1) := by decide +kernel
theorem dX7_init_14 : decode cX7_init 14 = .ok (.newarray .int, 2) := by decide +kernel
theorem dX7_init_16 : decode cX7_init 16 = .ok (.putfield 15, 3) := by decide +kernel
theorem dX7_init_19 : decode cX7_init 19 = .ok (.return_, 1) := by decide +kernel
theorem dX7_arrive_0 : decode cX7_arrive 0 = .ok (.aload_n 0, 1) := by decide +kernel
theorem dX7_arrive_1 : decode cX7_arrive 1 = .ok (.iconst 1, 1) := by decide +kernel
theorem dX7_arrive_2 : decode cX7_arrive 2 = .ok (.putfield 18, 3) := by decide +kernel
theorem dX7_arrive_5 : decode cX7_arrive 5 = .ok (.aload_n 0, 1) := by decide +kernel
theorem dX7_arrive_6 : decode cX7_arrive 6 = .ok (.iconst 0, 1) := by decide +kernel
theorem dX7_arrive_7 : decode cX7_arrive 7 = .ok (.putfield 22, 3) := by decide +kernel
theorem dX7_arrive_10 : decode cX7_arrive 10 = .ok (.aload_n 0, 1) := by decide +kernel
theorem dX7_arrive_11 : decode cX7_arrive 11 = .ok (.iconst 0, 1) := by decide +kernel
theorem dX7_arrive_12 : decode cX7_arrive 12 = .ok (.putfield 26, 3) := by decide +kernel
theorem dX7_arrive_15 : decode cX7_arrive 15 = .ok (.aload_n 0, 1) := by decide +kernel
theorem dX7_arrive_16 : decode cX7_arrive 16 = .ok (.iload_n 1, 1) := by decide +kernel
theorem dX7_arrive_17 : decode cX7_arrive 17 = .ok (.putfield 29, 3) := by decide +kernel
theorem dX7_arrive_20 : decode cX7_arrive 20 = .ok (.aload_n 0, 1) := by decide +kernel
theorem dX7_arrive_21 : decode cX7_arrive 21 = .ok (.lload_n 2, 1) := by decide +kernel
theorem dX7_arrive_22 : decode cX7_arrive 22 = .ok (.invokevirtual 32, 3) := by decide +kernel
theorem dX7_arrive_25 : decode cX7_arrive 25 = .ok (.return_, 1) := by decide +kernel
theorem dX7_renew_0 : decode cX7_renew 0 = .ok (.aload_n 0, 1) := by decide +kernel
theorem dX7_renew_1 : decode cX7_renew 1 = .ok (.lload_n 1, 1) := by decide +kernel
theorem dX7_renew_2 : decode cX7_renew 2 = .ok (.aload_n 0, 1) := by decide +kernel
theorem dX7_renew_3 : decode cX7_renew 3 = .ok (.getfield 29, 3) := by decide +kernel
theorem dX7_renew_6 : decode cX7_renew 6 = .ok (.i2l, 1) := by decide +kernel
theorem dX7_renew_7 : decode cX7_renew 7 = .ok (.ladd, 1) := by decide +kernel
theorem dX7_renew_8 : decode cX7_renew 8 = .ok (.putfield 36, 3) := by decide +kernel
theorem dX7_renew_11 : decode cX7_renew 11 = .ok (.return_, 1) := by decide +kernel
theorem dX7_isDead_0 : decode cX7_isDead 0 = .ok (.lload_n 1, 1) := by decide +kernel
theorem dX7_isDead_1 : decode cX7_isDead 1 = .ok (.aload_n 0, 1) := by decide +kernel
theorem dX7_isDead_2 : decode cX7_isDead 2 = .ok (.getfield 36, 3) := by decide +kernel
theorem dX7_isDead_5 : decode cX7_isDead 5 = .ok (.lcmp, 1) := by decide +kernel
theorem dX7_isDead_6 : decode cX7_isDead 6 = .ok (.ifCond .le 7, 3) := by decide +kernel
theorem dX7_isDead_9 : decode cX7_isDead 9 = .ok (.iconst 1, 1) := by decide +kernel
theorem dX7_isDead_10 : decode cX7_isDead 10 = .ok (.goto 4, 3) := by decide +kernel
theorem dX7_isDead_13 : decode cX7_isDead 13 = .ok (.iconst 0, 1) := by decide +kernel
theorem dX7_isDead_14 : decode cX7_isDead 14 = .ok (.ireturn, 1) := by decide +kernel
theorem dX7_uses_0 : decode cX7_uses 0 = .ok (.iconst 0, 1) := by decide +kernel
theorem dX7_uses_1 : decode cX7_uses 1 = .ok (.istore_n 2, 1) := by decide +kernel
theorem dX7_uses_2 : decode cX7_uses 2 = .ok (.iload_n 2, 1) := by decide +kernel
theorem dX7_uses_3 : decode cX7_uses 3 = .ok (.aload_n 0, 1) := by decide +kernel
theorem dX7_uses_4 : decode cX7_uses 4 = .ok (.getfield 22, 3) := by decide +kernel
theorem dX7_uses_7 : decode cX7_uses 7 = .ok (.if_icmp .ge 21, 3) := by decide +kernel
theorem dX7_uses_10 : decode cX7_uses 10 = .ok (.aload_n 0, 1) := by decide +kernel
theorem dX7_uses_11 : decode cX7_uses 11 = .ok (.getfield 9, 3) := by decide +kernel
theorem dX7_uses_14 : decode cX7_uses 14 = .ok (.iload_n 2, 1) := by decide +kernel
theorem dX7_uses_15 : decode cX7_uses 15 = .ok (.iaload, 1) := by decide +kernel
theorem dX7_uses_16 : decode cX7_uses 16 = .ok (.iload_n 1, 1) := by decide +kernel
theorem dX7_uses_17 : decode cX7_uses 17 = .ok (.if_icmp .ne 5, 3) := by decide +kernel
theorem dX7_uses_20 : decode cX7_uses 20 = .ok (.iconst 1, 1) := by decide +kernel
theorem dX7_uses_21 : decode cX7_uses 21 = .ok (.ireturn, 1) := by decide +kernel
theorem dX7_uses_22 : decode cX7_uses 22 = .ok (.iinc 2 1, 3) := by decide +kernel
theorem dX7_uses_25 : decode cX7_uses 25 = .ok (.goto (-23), 3) := by decide +kernel
theorem dX7_uses_28 : decode cX7_uses 28 = .ok (.iconst 0, 1) := by decide +kernel
theorem dX7_uses_29 : decode cX7_uses 29 = .ok (.ireturn, 1) := by decide +kernel
theorem dX7_canUse_0 : decode cX7_canUse 0 = .ok (.aload_n 0, 1) := by decide +kernel
theorem dX7_canUse_1 : decode cX7_canUse 1 = .ok (.getfield 22, 3) := by decide +kernel
theorem dX7_canUse_4 : decode cX7_canUse 4 = .ok (.bipush 8, 2) := by decide +kernel
theorem dX7_canUse_6 : decode cX7_canUse 6 = .ok (.if_icmp .lt 11, 3) := by decide +kernel
theorem dX7_canUse_9 : decode cX7_canUse 9 = .ok (.aload_n 0, 1) := by decide +kernel
theorem dX7_canUse_10 : decode cX7_canUse 10 = .ok (.iload_n 1, 1) := by decide +kernel
theorem dX7_canUse_11 : decode cX7_canUse 11 = .ok (.invokevirtual 40, 3) := by decide +kernel
theorem dX7_canUse_14 : decode cX7_canUse 14 = .ok (.ifCond .eq 7, 3) := by decide +kernel
theorem dX7_canUse_17 : decode cX7_canUse 17 = .ok (.iconst 1, 1) := by decide +kernel
theorem dX7_canUse_18 : decode cX7_canUse 18 = .ok (.goto 4, 3) := by decide +kernel
theorem dX7_canUse_21 : decode cX7_canUse 21 = .ok (.iconst 0, 1) := by decide +kernel
theorem dX7_canUse_22 : decode cX7_canUse 22 = .ok (.ireturn, 1) := by decide +kernel
theorem dX7_use_0 : decode cX7_use 0 = .ok (.aload_n 0, 1) := by decide +kernel
theorem dX7_use_1 : decode cX7_use 1 = .ok (.getfield 22, 3) := by decide +kernel
theorem dX7_use_4 : decode cX7_use 4 = .ok (.bipush 8, 2) := by decide +kernel
theorem dX7_use_6 : decode cX7_use 6 = .ok (.if_icmp .ge 31, 3) := by decide +kernel
theorem dX7_use_9 : decode cX7_use 9 = .ok (.aload_n 0, 1) := by decide +kernel
theorem dX7_use_10 : decode cX7_use 10 = .ok (.iload_n 1, 1) := by decide +kernel
theorem dX7_use_11 : decode cX7_use 11 = .ok (.invokevirtual 40, 3) := by decide +kernel
theorem dX7_use_14 : decode cX7_use 14 = .ok (.ifCond .ne 23, 3) := by decide +kernel
theorem dX7_use_17 : decode cX7_use 17 = .ok (.aload_n 0, 1) := by decide +kernel
theorem dX7_use_18 : decode cX7_use 18 = .ok (.getfield 9, 3) := by decide +kernel
theorem dX7_use_21 : decode cX7_use 21 = .ok (.aload_n 0, 1) := by decide +kernel
theorem dX7_use_22 : decode cX7_use 22 = .ok (.getfield 22, 3) := by decide +kernel
theorem dX7_use_25 : decode cX7_use 25 = .ok (.iload_n 1, 1) := by decide +kernel
theorem dX7_use_26 : decode cX7_use 26 = .ok (.iastore, 1) := by decide +kernel
theorem dX7_use_27 : decode cX7_use 27 = .ok (.aload_n 0, 1) := by decide +kernel
theorem dX7_use_28 : decode cX7_use 28 = .ok (.dup, 1) := by decide +kernel
theorem dX7_use_29 : decode cX7_use 29 = .ok (.getfield 22, 3) := by decide +kernel
theorem dX7_use_32 : decode cX7_use 32 = .ok (.iconst 1, 1) := by decide +kernel
theorem dX7_use_33 : decode cX7_use 33 = .ok (.iadd, 1) := by decide +kernel
theorem dX7_use_34 : decode cX7_use 34 = .ok (.putfield 22, 3) := by decide +kernel
theorem dX7_use_37 : decode cX7_use 37 = .ok (.return_, 1) := by decide +kernel
theorem dX7_addChild_0 : decode cX7_addChild 0 = .ok (.aload_n 0, 1) := by decide +kernel
theorem dX7_addChild_1 : decode cX7_addChild 1 = .ok (.getfield 26, 3) := by decide +kernel
theorem dX7_addChild_4 : decode cX7_addChild 4 = .ok (.iconst 4, 1) := by decide +kernel
theorem dX7_addChild_5 : decode cX7_addChild 5 = .ok (.if_icmp .lt 5, 3) := by decide +kernel
theorem dX7_addChild_8 : decode cX7_addChild 8 = .ok (.iconst 0, 1) := by decide +kernel
theorem dX7_addChild_9 : decode cX7_addChild 9 = .ok (.ireturn, 1) := by decide +kernel
theorem dX7_addChild_10 : decode cX7_addChild 10 = .ok (.aload_n 0, 1) := by decide +kernel
theorem dX7_addChild_11 : decode cX7_addChild 11 = .ok (.getfield 15, 3) := by decide +kernel
theorem dX7_addChild_14 : decode cX7_addChild 14 = .ok (.aload_n 0, 1) := by decide +kernel
theorem dX7_addChild_15 : decode cX7_addChild 15 = .ok (.getfield 26, 3) := by decide +kernel
theorem dX7_addChild_18 : decode cX7_addChild 18 = .ok (.iload_n 1, 1) := by decide +kernel
theorem dX7_addChild_19 : decode cX7_addChild 19 = .ok (.iastore, 1) := by decide +kernel
theorem dX7_addChild_20 : decode cX7_addChild 20 = .ok (.aload_n 0, 1) := by decide +kernel
theorem dX7_addChild_21 : decode cX7_addChild 21 = .ok (.dup, 1) := by decide +kernel
theorem dX7_addChild_22 : decode cX7_addChild 22 = .ok (.getfield 26, 3) := by decide +kernel
theorem dX7_addChild_25 : decode cX7_addChild 25 = .ok (.iconst 1, 1) := by decide +kernel
theorem dX7_addChild_26 : decode cX7_addChild 26 = .ok (.iadd, 1) := by decide +kernel
theorem dX7_addChild_27 : decode cX7_addChild 27 = .ok (.putfield 26, 3) := by decide +kernel
theorem dX7_addChild_30 : decode cX7_addChild 30 = .ok (.iconst 1, 1) := by decide +kernel
theorem dX7_addChild_31 : decode cX7_addChild 31 = .ok (.ireturn, 1) := by decide +kernel
theorem dX8_init_0 : decode cX8_init 0 = .ok (.aload_n 0, 1) := by decide +kernel
theorem dX8_init_1 : decode cX8_init 1 = .ok (.invokespecial 1, 3) := by decide +kernel
theorem dX8_init_4 : decode cX8_init 4 = .ok (.aload_n 0, 1) := by decide +kernel
theorem dX8_init_5 : decode cX8_init 5 = .ok (.lload_n 1, 1) := by decide +kernel
theorem dX8_init_6 : decode cX8_init 6 = .ok (.putfield 7, 3) := by decide +kernel
theorem dX8_init_9 : decode cX8_init 9 = .ok (.aload_n 0, 1) := by decide +kernel
theorem dX8_init_10 : decode cX8_init 10 = .ok (.iload_n 3, 1) := by decide +kernel
theorem dX8_init_11 : decode cX8_init 11 = .ok (.putfield 13, 3) := by decide +kernel
theorem dX8_init_14 : decode cX8_init 14 = .ok (.aload_n 0, 1) := by decide +kernel
theorem dX8_init_15 : decode cX8_init 15 = .ok (.aload 4, 2) := by decide +kernel
theorem dX8_init_17 : decode cX8_init 17 = .ok (.putfield 17, 3) := by decide +kernel
theorem dX8_init_20 : decode cX8_init 20 = .ok (.return_, 1) := by decide +kernel
