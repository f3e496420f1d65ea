theorem dX9_init_0 : decode cX9_init 0 = .ok (.aload_n 0, 1) := by decide +kernel
theorem dX9_init_1 : decode cX9_init 1 = .ok (.invokespecial 3, 3) := by decide +kernel
theorem dX9_init_4 : decode cX9_init 4 = .ok (.aload_n 0, 1) := by decide +kernel
theorem dX9_init_5 : decode cX9_init 5 = .ok (.bipush 80, 2) := by decide +kernel
theorem dX9_init_7 : decode cX9_init 7 = .ok (.anewarray 9, 3) := by decide +kernel
theorem dX9_init_10 : decode cX9_init 10 = .ok (.putfield 11, 3) := by decide +kernel
theorem dX9_init_13 : decode cX9_init 13 = .ok (.aload_n 0, 1) := by decide +kernel
theorem dX9_init_14 : decode cX9_init 14 = .ok (.bipush 40, 2) := by decide +kernel
theorem dX9_init_16 : decode cX9_init 16 = .ok (.anewarray 17, 3) := by decide +kernel
theorem dX9_init_19 : decode cX9_init 19 = .ok (.putfield 19, 3) := by decide +kernel
theorem dX9_init_22 : decode cX9_init 22 = .ok (.aload_n 0, 1) := by decide +kernel
theorem dX9_init_23 : decode cX9_init 23 = .ok (.bipush 80, 2) := by decide +kernel
theorem dX9_init_25 : decode cX9_init 25 = .ok (.newarray .boolean, 2) := by decide +kernel
theorem dX9_init_27 : decode cX9_init 27 = .ok (.putfield 23, 3) := by decide +kernel
theorem dX9_init_30 : decode cX9_init 30 = .ok (.aload_n 0, 1) := by decide +kernel
theorem dX9_init_31 : decode cX9_init 31 = .ok (.iload_n 1, 1) := by decide +kernel
theorem dX9_init_32 : decode cX9_init 32 = .ok (.putfield 27, 3) := by decide +kernel
theorem dX9_init_35 : decode cX9_init 35 = .ok (.aload_n 0, 1) := by decide +kernel
theorem dX9_init_36 : decode cX9_init 36 = .ok (.aload_n 2, 1) := by decide +kernel
theorem dX9_init_37 : decode cX9_init 37 = .ok (.putfield 31, 3) := by decide +kernel
theorem dX9_init_40 : decode cX9_init 40 = .ok (.return_, 1) := by decide +kernel
theorem dX9_holds_0 : decode cX9_holds 0 = .ok (.iload_n 1, 1) := by decide +kernel
theorem dX9_holds_1 : decode cX9_holds 1 = .ok (.ifCond .lt 27, 3) := by decide +kernel
theorem dX9_holds_4 : decode cX9_holds 4 = .ok (.iload_n 1, 1) := by decide +kernel
theorem dX9_holds_5 : decode cX9_holds 5 = .ok (.aload_n 0, 1) := by decide +kernel
theorem dX9_holds_6 : decode cX9_holds 6 = .ok (.getfield 35, 3) := by decide +kernel
theorem dX9_holds_9 : decode cX9_holds 9 = .ok (.if_icmp .ge 19, 3) := by decide +kernel
theorem dX9_holds_12 : decode cX9_holds 12 = .ok (.aload_n 0, 1) := by decide +kernel
theorem dX9_holds_13 : decode cX9_holds 13 = .ok (.getfield 11, 3) := by decide +kernel
theorem dX9_holds_16 : decode cX9_holds 16 = .ok (.iload_n 1, 1) := by decide +kernel
theorem dX9_holds_17 : decode cX9_holds 17 = .ok (.aaload, 1) := by decide +kernel
theorem dX9_holds_18 : decode cX9_holds 18 = .ok (.getfield 38, 3) := by decide +kernel
theorem dX9_holds_21 : decode cX9_holds 21 = .ok (.ifCond .ne 7, 3) := by decide +kernel
theorem dX9_holds_24 : decode cX9_holds 24 = .ok (.iconst 1, 1) := by decide +kernel
theorem dX9_holds_25 : decode cX9_holds 25 = .ok (.goto 4, 3) := by decide +kernel
theorem dX9_holds_28 : decode cX9_holds 28 = .ok (.iconst 0, 1) := by decide +kernel
theorem dX9_holds_29 : decode cX9_holds 29 = .ok (.ireturn, 1) := by decide +kernel
theorem dX9_blocksWaiting_0 : decode cX9_blocksWaiting 0 = .ok (.iconst 0, 1) := by decide +kernel
theorem dX9_blocksWaiting_1 : decode cX9_blocksWaiting 1 = .ok (.istore_n 1, 1) := by decide +kernel
theorem dX9_blocksWaiting_2 : decode cX9_blocksWaiting 2 = .ok (.iconst 0, 1) := by decide +kernel
theorem dX9_blocksWaiting_3 : decode cX9_blocksWaiting 3 = .ok (.istore_n 2, 1) := by decide +kernel
theorem dX9_blocksWaiting_4 : decode cX9_blocksWaiting 4 = .ok (.iload_n 2, 1) := by decide +kernel
theorem dX9_blocksWaiting_5 : decode cX9_blocksWaiting 5 = .ok (.aload_n 0, 1) := by decide +kernel
theorem dX9_blocksWaiting_6 : decode cX9_blocksWaiting 6 = .ok (.getfield 35, 3) := by decide +kernel
theorem dX9_blocksWaiting_9 : decode cX9_blocksWaiting 9 = .ok (.if_icmp .ge 29, 3) := by decide +kernel
theorem dX9_blocksWaiting_12 : decode cX9_blocksWaiting 12 = .ok (.iload_n 1, 1) := by decide +kernel
theorem dX9_blocksWaiting_13 : decode cX9_blocksWaiting 13 = .ok (.aload_n 0, 1) := by decide +kernel
theorem dX9_blocksWaiting_14 : decode cX9_blocksWaiting 14 = .ok (.getfield 11, 3) := by decide +kernel
theorem dX9_blocksWaiting_17 : decode cX9_blocksWaiting 17 = .ok (.iload_n 2, 1) := by decide +kernel
theorem dX9_blocksWaiting_18 : decode cX9_blocksWaiting 18 = .ok (.aaload, 1) := by decide +kernel
theorem dX9_blocksWaiting_19 : decode cX9_blocksWaiting 19 = .ok (.getfield 42, 3) := by decide +kernel
theorem dX9_blocksWaiting_22 : decode cX9_blocksWaiting 22 = .ok (.ifCond .le 7, 3) := by decide +kernel
theorem dX9_blocksWaiting_25 : decode cX9_blocksWaiting 25 = .ok (.iconst 1, 1) := by decide +kernel
theorem dX9_blocksWaiting_26 : decode cX9_blocksWaiting 26 = .ok (.goto 4, 3) := by decide +kernel
theorem dX9_blocksWaiting_29 : decode cX9_blocksWaiting 29 = .ok (.iconst 0, 1) := by decide +kernel
theorem dX9_blocksWaiting_30 : decode cX9_blocksWaiting 30 = .ok (.iadd, 1) := by decide +kernel
theorem dX9_blocksWaiting_31 : decode cX9_blocksWaiting 31 = .ok (.istore_n 1, 1) := by decide +kernel
theorem dX9_blocksWaiting_32 : decode cX9_blocksWaiting 32 = .ok (.iinc 2 1, 3) := by decide +kernel
theorem dX9_blocksWaiting_35 : decode cX9_blocksWaiting 35 = .ok (.goto (-31), 3) := by decide +kernel
theorem dX9_blocksWaiting_38 : decode cX9_blocksWaiting 38 = .ok (.iload_n 1, 1) := by decide +kernel
theorem dX9_blocksWaiting_39 : decode cX9_blocksWaiting 39 = .ok (.ireturn, 1) := by decide +kernel
theorem dX9_blocksIn_0 : decode cX9_blocksIn 0 = .ok (.iconst 0, 1) := by decide +kernel
theorem dX9_blocksIn_1 : decode cX9_blocksIn 1 = .ok (.istore_n 2, 1) := by decide +kernel
theorem dX9_blocksIn_2 : decode cX9_blocksIn 2 = .ok (.iconst 0, 1) := by decide +kernel
theorem dX9_blocksIn_3 : decode cX9_blocksIn 3 = .ok (.istore_n 3, 1) := by decide +kernel
theorem dX9_blocksIn_4 : decode cX9_blocksIn 4 = .ok (.iload_n 3, 1) := by decide +kernel
theorem dX9_blocksIn_5 : decode cX9_blocksIn 5 = .ok (.aload_n 0, 1) := by decide +kernel
theorem dX9_blocksIn_6 : decode cX9_blocksIn 6 = .ok (.getfield 35, 3) := by decide +kernel
theorem dX9_blocksIn_9 : decode cX9_blocksIn 9 = .ok (.if_icmp .ge 26, 3) := by decide +kernel
theorem dX9_blocksIn_12 : decode cX9_blocksIn 12 = .ok (.iload_n 2, 1) := by decide +kernel
theorem dX9_blocksIn_13 : decode cX9_blocksIn 13 = .ok (.aload_n 0, 1) := by decide +kernel
theorem dX9_blocksIn_14 : decode cX9_blocksIn 14 = .ok (.iload_n 3, 1) := by decide +kernel
theorem dX9_blocksIn_15 : decode cX9_blocksIn 15 = .ok (.iload_n 1, 1) := by decide +kernel
theorem dX9_blocksIn_16 : decode cX9_blocksIn 16 = .ok (.invokevirtual 45, 3) := by decide +kernel
theorem dX9_blocksIn_19 : decode cX9_blocksIn 19 = .ok (.ifCond .eq 7, 3) := by decide +kernel
theorem dX9_blocksIn_22 : decode cX9_blocksIn 22 = .ok (.iconst 1, 1) := by decide +kernel
theorem dX9_blocksIn_23 : decode cX9_blocksIn 23 = .ok (.goto 4, 3) := by decide +kernel
theorem dX9_blocksIn_26 : decode cX9_blocksIn 26 = .ok (.iconst 0, 1) := by decide +kernel
theorem dX9_blocksIn_27 : decode cX9_blocksIn 27 = .ok (.iadd, 1) := by decide +kernel
theorem dX9_blocksIn_28 : decode cX9_blocksIn 28 = .ok (.istore_n 2, 1) := by decide +kernel
theorem dX9_blocksIn_29 : decode cX9_blocksIn 29 = .ok (.iinc 3 1, 3) := by decide +kernel
theorem dX9_blocksIn_32 : decode cX9_blocksIn 32 = .ok (.goto (-28), 3) := by decide +kernel
theorem dX9_blocksIn_35 : decode cX9_blocksIn 35 = .ok (.iload_n 2, 1) := by decide +kernel
theorem dX9_blocksIn_36 : decode cX9_blocksIn 36 = .ok (.ireturn, 1) := by decide +kernel
theorem dX9_liesIn_0 : decode cX9_liesIn 0 = .ok (.aload_n 0, 1) := by decide +kernel
theorem dX9_liesIn_1 : decode cX9_liesIn 1 = .ok (.getfield 11, 3) := by decide +kernel
theorem dX9_liesIn_4 : decode cX9_liesIn 4 = .ok (.iload_n 1, 1) := by decide +kernel
theorem dX9_liesIn_5 : decode cX9_liesIn 5 = .ok (.aaload, 1) := by decide +kernel
theorem dX9_liesIn_6 : decode cX9_liesIn 6 = .ok (.getfield 38, 3) := by decide +kernel
theorem dX9_liesIn_9 : decode cX9_liesIn 9 = .ok (.ifCond .ne 20, 3) := by decide +kernel
theorem dX9_liesIn_12 : decode cX9_liesIn 12 = .ok (.aload_n 0, 1) := by decide +kernel
theorem dX9_liesIn_13 : decode cX9_liesIn 13 = .ok (.getfield 11, 3) := by decide +kernel
theorem dX9_liesIn_16 : decode cX9_liesIn 16 = .ok (.iload_n 1, 1) := by decide +kernel
theorem dX9_liesIn_17 : decode cX9_liesIn 17 = .ok (.aaload, 1) := by decide +kernel
theorem dX9_liesIn_18 : decode cX9_liesIn 18 = .ok (.getfield 49, 3) := by decide +kernel
theorem dX9_liesIn_21 : decode cX9_liesIn 21 = .ok (.iload_n 2, 1) := by decide +kernel
theorem dX9_liesIn_22 : decode cX9_liesIn 22 = .ok (.if_icmp .ne 7, 3) := by decide +kernel
theorem dX9_liesIn_25 : decode cX9_liesIn 25 = .ok (.iconst 1, 1) := by decide +kernel
theorem dX9_liesIn_26 : decode cX9_liesIn 26 = .ok (.goto 4, 3) := by decide +kernel
theorem dX9_liesIn_29 : decode cX9_liesIn 29 = .ok (.iconst 0, 1) := by decide +kernel
theorem dX9_liesIn_30 : decode cX9_liesIn 30 = .ok (.ireturn, 1) := by decide +kernel
theorem dX9_find_0 : decode cX9_find 0 = .ok (.iconst 0, 1) := by decide +kernel
theorem dX9_find_1 : decode cX9_find 1 = .ok (.istore 6, 2) := by decide +kernel
theorem dX9_find_3 : decode cX9_find 3 = .ok (.iload 6, 2) := by decide +kernel
theorem dX9_find_5 : decode cX9_find 5 = .ok (.aload_n 0, 1) := by decide +kernel
theorem dX9_find_6 : decode cX9_find 6 = .ok (.getfield 35, 3) := by decide +kernel
theorem dX9_find_9 : decode cX9_find 9 = .ok (.if_icmp .ge 44, 3) := by decide +kernel
theorem dX9_find_12 : decode cX9_find 12 = .ok (.aload_n 0, 1) := by decide +kernel
theorem dX9_find_13 : decode cX9_find 13 = .ok (.getfield 11, 3) := by decide +kernel
theorem dX9_find_16 : decode cX9_find 16 = .ok (.iload 6, 2) := by decide +kernel
theorem dX9_find_18 : decode cX9_find 18 = .ok (.aaload, 1) := by decide +kernel
theorem dX9_find_19 : decode cX9_find 19 = .ok (.getfield 38, 3) := by decide +kernel
theorem dX9_find_22 : decode cX9_find 22 = .ok (.ifCond .ne 25, 3) := by decide +kernel
theorem dX9_find_25 : decode cX9_find 25 = .ok (.aload_n 0, 1) := by decide +kernel
theorem dX9_find_26 : decode cX9_find 26 = .ok (.getfield 11, 3) := by decide +kernel
theorem dX9_find_29 : decode cX9_find 29 = .ok (.iload 6, 2) := by decide +kernel
theorem dX9_find_31 : decode cX9_find 31 = .ok (.aaload, 1) := by decide +kernel
theorem dX9_find_32 : decode cX9_find 32 = .ok (.lload_n 1, 1) := by decide +kernel
theorem dX9_find_33 : decode cX9_find 33 = .ok (.iload_n 3, 1) := by decide +kernel
theorem dX9_find_34 : decode cX9_find 34 = .ok (.aload 4, 2) := by decide +kernel
theorem dX9_find_36 : decode cX9_find 36 = .ok (.iload 5, 2) := by decide +kernel
theorem dX9_find_38 : decode cX9_find 38 = .ok (.invokevirtual 52, 3) := by decide +kernel
theorem dX9_find_41 : decode cX9_find 41 = .ok (.ifCond .eq 6, 3) := by decide +kernel
theorem dX9_find_44 : decode cX9_find 44 = .ok (.iload 6, 2) := by decide +kernel
theorem dX9_find_46 : decode cX9_find 46 = .ok (.ireturn, 1) := by decide +kernel
theorem dX9_find_47 : decode cX9_find 47 = .ok (.iinc 6 1, 3) := by decide +kernel
theorem dX9_find_50 : decode cX9_find 50 = .ok (.goto (-47), 3) := by decide +kernel
theorem dX9_find_53 : decode cX9_find 53 = .ok (.iconst (-1), 1) := by decide +kernel
theorem dX9_find_54 : decode cX9_find 54 = .ok (.ireturn, 1) := by decide +kernel
theorem dX9_filledOfLatest_0 : decode cX9_filledOfLatest 0 = .ok (.aload_n 0, 1) := by decide +kernel
theorem dX9_filledOfLatest_1 : decode cX9_filledOfLatest 1 = .ok (.getfield 56, 3) := by decide +kernel
theorem dX9_filledOfLatest_4 : decode cX9_filledOfLatest 4 = .ok (.iconst 1, 1) := by decide +kernel
theorem dX9_filledOfLatest_5 : decode cX9_filledOfLatest 5 = .ok (.isub, 1) := by decide +kernel
theorem dX9_filledOfLatest_6 : decode cX9_filledOfLatest 6 = .ok (.istore_n 2, 1) := by decide +kernel
theorem dX9_filledOfLatest_7 : decode cX9_filledOfLatest 7 = .ok (.iload_n 2, 1) := by decide +kernel
theorem dX9_filledOfLatest_8 : decode cX9_filledOfLatest 8 = .ok (.ifCond .lt 20, 3) := by decide +kernel
theorem dX9_filledOfLatest_11 : decode cX9_filledOfLatest 11 = .ok (.iload_n 2, 1) := by decide +kernel
theorem dX9_filledOfLatest_12 : decode cX9_filledOfLatest 12 = .ok (.iload_n 1, 1) := by decide +kernel
theorem dX9_filledOfLatest_13 : decode cX9_filledOfLatest 13 = .ok (.if_icmp .eq 15, 3) := by decide +kernel
theorem dX9_filledOfLatest_16 : decode cX9_filledOfLatest 16 = .ok (.aload_n 0, 1) := by decide +kernel
theorem dX9_filledOfLatest_17 : decode cX9_filledOfLatest 17 = .ok (.getfield 19, 3) := by decide +kernel
theorem dX9_filledOfLatest_20 : decode cX9_filledOfLatest 20 = .ok (.iload_n 2, 1) := by decide +kernel
theorem dX9_filledOfLatest_21 : decode cX9_filledOfLatest 21 = .ok (.aaload, 1) := by decide +kernel
theorem dX9_filledOfLatest_22 : decode cX9_filledOfLatest 22 = .ok (.getfield 59, 3) := by decide +kernel
theorem dX9_filledOfLatest_25 : decode cX9_filledOfLatest 25 = .ok (.ifCond .eq 7, 3) := by decide +kernel
theorem dX9_filledOfLatest_28 : decode cX9_filledOfLatest 28 = .ok (.iconst 1, 1) := by decide +kernel
theorem dX9_filledOfLatest_29 : decode cX9_filledOfLatest 29 = .ok (.goto 4, 3) := by decide +kernel
theorem dX9_filledOfLatest_32 : decode cX9_filledOfLatest 32 = .ok (.iconst 0, 1) := by decide +kernel
theorem dX9_filledOfLatest_33 : decode cX9_filledOfLatest 33 = .ok (.istore_n 3, 1) := by decide +kernel
theorem dX9_filledOfLatest_34 : decode cX9_filledOfLatest 34 = .ok (.iload_n 3, 1) := by decide +kernel
theorem dX9_filledOfLatest_35 : decode cX9_filledOfLatest 35 = .ok (.ifCond .eq 10, 3) := by decide +kernel
theorem dX9_filledOfLatest_38 : decode cX9_filledOfLatest 38 = .ok (.aload_n 0, 1) := by decide +kernel
theorem dX9_filledOfLatest_39 : decode cX9_filledOfLatest 39 = .ok (.getfield 27, 3) := by decide +kernel
theorem dX9_filledOfLatest_42 : decode cX9_filledOfLatest 42 = .ok (.goto 12, 3) := by decide +kernel
theorem dX9_filledOfLatest_45 : decode cX9_filledOfLatest 45 = .ok (.aload_n 0, 1) := by decide +kernel
theorem dX9_filledOfLatest_46 : decode cX9_filledOfLatest 46 = .ok (.getfield 19, 3) := by decide +kernel
theorem dX9_filledOfLatest_49 : decode cX9_filledOfLatest 49 = .ok (.iload_n 2, 1) := by decide +kernel
theorem dX9_filledOfLatest_50 : decode cX9_filledOfLatest 50 = .ok (.aaload, 1) := by decide +kernel
theorem dX9_filledOfLatest_51 : decode cX9_filledOfLatest 51 = .ok (.getfield 62, 3) := by decide +kernel
theorem dX9_filledOfLatest_54 : decode cX9_filledOfLatest 54 = .ok (.ireturn, 1) := by decide +kernel
theorem dX9_hasRoomFor_0 : decode cX9_hasRoomFor 0 = .ok (.aload_n 0, 1) := by decide +kernel
theorem dX9_hasRoomFor_1 : decode cX9_hasRoomFor 1 = .ok (.iconst (-1), 1) := by decide +kernel
theorem dX9_hasRoomFor_2 : decode cX9_hasRoomFor 2 = .ok (.invokevirtual 65, 3) := by decide +kernel
theorem dX9_hasRoomFor_5 : decode cX9_hasRoomFor 5 = .ok (.iload_n 1, 1) := by decide +kernel
theorem dX9_hasRoomFor_6 : decode cX9_hasRoomFor 6 = .ok (.iadd, 1) := by decide +kernel
theorem dX9_hasRoomFor_7 : decode cX9_hasRoomFor 7 = .ok (.aload_n 0, 1) := by decide +kernel
theorem dX9_hasRoomFor_8 : decode cX9_hasRoomFor 8 = .ok (.getfield 27, 3) := by decide +kernel
theorem dX9_hasRoomFor_11 : decode cX9_hasRoomFor 11 = .ok (.if_icmp .le 7, 3) := by decide +kernel
theorem dX9_hasRoomFor_14 : decode cX9_hasRoomFor 14 = .ok (.iconst 1, 1) := by decide +kernel
theorem dX9_hasRoomFor_15 : decode cX9_hasRoomFor 15 = .ok (.goto 4, 3) := by decide +kernel
theorem dX9_hasRoomFor_18 : decode cX9_hasRoomFor 18 = .ok (.iconst 0, 1) := by decide +kernel
theorem dX9_hasRoomFor_19 : decode cX9_hasRoomFor 19 = .ok (.istore_n 2, 1) := by decide +kernel
theorem dX9_hasRoomFor_20 : decode cX9_hasRoomFor 20 = .ok (.aload_n 0, 1) := by decide +kernel
theorem dX9_hasRoomFor_21 : decode cX9_hasRoomFor 21 = .ok (.getfield 35, 3) := by decide +kernel
theorem dX9_hasRoomFor_24 : decode cX9_hasRoomFor 24 = .ok (.bipush 80, 2) := by decide +kernel
theorem dX9_hasRoomFor_26 : decode cX9_hasRoomFor 26 = .ok (.if_icmp .ge 20, 3) := by decide +kernel
theorem dX9_hasRoomFor_29 : decode cX9_hasRoomFor 29 = .ok (.iload_n 2, 1) := by decide +kernel
theorem dX9_hasRoomFor_30 : decode cX9_hasRoomFor 30 = .ok (.ifCond .eq 12, 3) := by decide +kernel
theorem dX9_hasRoomFor_33 : decode cX9_hasRoomFor 33 = .ok (.aload_n 0, 1) := by decide +kernel
theorem dX9_hasRoomFor_34 : decode cX9_hasRoomFor 34 = .ok (.getfield 56, 3) := by decide +kernel
theorem dX9_hasRoomFor_37 : decode cX9_hasRoomFor 37 = .ok (.bipush 40, 2) := by decide +kernel
theorem dX9_hasRoomFor_39 : decode cX9_hasRoomFor 39 = .ok (.if_icmp .ge 7, 3) := by decide +kernel
theorem dX9_hasRoomFor_42 : decode cX9_hasRoomFor 42 = .ok (.iconst 1, 1) := by decide +kernel
theorem dX9_hasRoomFor_43 : decode cX9_hasRoomFor 43 = .ok (.goto 4, 3) := by decide +kernel
theorem dX9_hasRoomFor_46 : decode cX9_hasRoomFor 46 = .ok (.iconst 0, 1) := by decide +kernel
theorem dX9_hasRoomFor_47 : decode cX9_hasRoomFor 47 = .ok (.ireturn, 1) := by decide +kernel
theorem dX9_add_0 : decode cX9_add 0 = .ok (.aload_n 0, 1) := by decide +kernel
theorem dX9_add_1 : decode cX9_add 1 = .ok (.getfield 35, 3) := by decide +kernel
theorem dX9_add_4 : decode cX9_add 4 = .ok (.istore 5, 2) := by decide +kernel
theorem dX9_add_6 : decode cX9_add 6 = .ok (.aload_n 0, 1) := by decide +kernel
theorem dX9_add_7 : decode cX9_add 7 = .ok (.getfield 31, 3) := by decide +kernel
theorem dX9_add_10 : decode cX9_add 10 = .ok (.iconst 0, 1) := by decide +kernel
theorem dX9_add_11 : decode cX9_add 11 = .ok (.iload 5, 2) := by decide +kernel
theorem dX9_add_13 : decode cX9_add 13 = .ok (.invokevirtual 71, 3) := by decide +kernel
theorem dX9_add_16 : decode cX9_add 16 = .ok (.ifCond .ne 6, 3) := by decide +kernel
theorem dX9_add_19 : decode cX9_add 19 = .ok (.bipush (-105), 2) := by decide +kernel
theorem dX9_add_21 : decode cX9_add 21 = .ok (.ireturn, 1) := by decide +kernel
theorem dX9_add_22 : decode cX9_add 22 = .ok (.aload_n 0, 1) := by decide +kernel
theorem dX9_add_23 : decode cX9_add 23 = .ok (.iconst (-1), 1) := by decide +kernel
theorem dX9_add_24 : decode cX9_add 24 = .ok (.invokevirtual 65, 3) := by decide +kernel
theorem dX9_add_27 : decode cX9_add 27 = .ok (.istore 6, 2) := by decide +kernel
theorem dX9_add_29 : decode cX9_add 29 = .ok (.iload 6, 2) := by decide +kernel
theorem dX9_add_31 : decode cX9_add 31 = .ok (.iload_n 3, 1) := by decide +kernel
theorem dX9_add_32 : decode cX9_add 32 = .ok (.iadd, 1) := by decide +kernel
theorem dX9_add_33 : decode cX9_add 33 = .ok (.aload_n 0, 1) := by decide +kernel
theorem dX9_add_34 : decode cX9_add 34 = .ok (.getfield 27, 3) := by decide +kernel
theorem dX9_add_37 : decode cX9_add 37 = .ok (.if_icmp .gt 7, 3) := by decide +kernel
theorem dX9_add_40 : decode cX9_add 40 = .ok (.iconst 1, 1) := by decide +kernel
theorem dX9_add_41 : decode cX9_add 41 = .ok (.goto 4, 3) := by decide +kernel
theorem dX9_add_44 : decode cX9_add 44 = .ok (.iconst 0, 1) := by decide +kernel
theorem dX9_add_45 : decode cX9_add 45 = .ok (.istore 7, 2) := by decide +kernel
theorem dX9_add_47 : decode cX9_add 47 = .ok (.aload_n 0, 1) := by decide +kernel
theorem dX9_add_48 : decode cX9_add 48 = .ok (.getfield 11, 3) := by decide +kernel
theorem dX9_add_51 : decode cX9_add 51 = .ok (.iload 5, 2) := by decide +kernel
theorem dX9_add_53 : decode cX9_add 53 = .ok (.new 9, 3) := by decide +kernel
theorem dX9_add_56 : decode cX9_add 56 = .ok (.dup, 1) := by decide +kernel
theorem dX9_add_57 : decode cX9_add 57 = .ok (.lload_n 1, 1) := by decide +kernel
theorem dX9_add_58 : decode cX9_add 58 = .ok (.iload_n 3, 1) := by decide +kernel
theorem dX9_add_59 : decode cX9_add 59 = .ok (.aload 4, 2) := by decide +kernel
theorem dX9_add_61 : decode cX9_add 61 = .ok (.invokespecial 74, 3) := by decide +kernel
theorem dX9_add_64 : decode cX9_add 64 = .ok (.aastore, 1) := by decide +kernel
theorem dX9_add_65 : decode cX9_add 65 = .ok (.aload_n 0, 1) := by decide +kernel
theorem dX9_add_66 : decode cX9_add 66 = .ok (.dup, 1) := by decide +kernel
theorem dX9_add_67 : decode cX9_add 67 = .ok (.getfield 35, 3) := by decide +kernel
theorem dX9_add_70 : decode cX9_add 70 = .ok (.iconst 1, 1) := by decide +kernel
theorem dX9_add_71 : decode cX9_add 71 = .ok (.iadd, 1) := by decide +kernel
theorem dX9_add_72 : decode cX9_add 72 = .ok (.putfield 35, 3) := by decide +kernel
theorem dX9_add_75 : decode cX9_add 75 = .ok (.aload_n 0, 1) := by decide +kernel
theorem dX9_add_76 : decode cX9_add 76 = .ok (.iload 5, 2) := by decide +kernel
theorem dX9_add_78 : decode cX9_add 78 = .ok (.iload 7, 2) := by decide +kernel
theorem dX9_add_80 : decode cX9_add 80 = .ok (.ifCond .eq 12, 3) := by decide +kernel
theorem dX9_add_83 : decode cX9_add 83 = .ok (.aload_n 0, 1) := by decide +kernel
theorem dX9_add_84 : decode cX9_add 84 = .ok (.getfield 56, 3) := by decide +kernel
theorem dX9_add_87 : decode cX9_add 87 = .ok (.iconst 1, 1) := by decide +kernel
theorem dX9_add_88 : decode cX9_add 88 = .ok (.isub, 1) := by decide +kernel
theorem dX9_add_89 : decode cX9_add 89 = .ok (.goto 7, 3) := by decide +kernel
theorem dX9_add_92 : decode cX9_add 92 = .ok (.aload_n 0, 1) := by decide +kernel
theorem dX9_add_93 : decode cX9_add 93 = .ok (.getfield 56, 3) := by decide +kernel
theorem dX9_add_96 : decode cX9_add 96 = .ok (.iload 7, 2) := by decide +kernel
theorem dX9_add_98 : decode cX9_add 98 = .ok (.ifCond .eq 8, 3) := by decide +kernel
theorem dX9_add_101 : decode cX9_add 101 = .ok (.iload 6, 2) := by decide +kernel
theorem dX9_add_103 : decode cX9_add 103 = .ok (.goto 4, 3) := by decide +kernel
theorem dX9_add_106 : decode cX9_add 106 = .ok (.iconst 0, 1) := by decide +kernel
theorem dX9_add_107 : decode cX9_add 107 = .ok (.invokevirtual 77, 3) := by decide +kernel
theorem dX9_add_110 : decode cX9_add 110 = .ok (.iload 5, 2) := by decide +kernel
theorem dX9_add_112 : decode cX9_add 112 = .ok (.ireturn, 1) := by decide +kernel
theorem dX9_lay_0 : decode cX9_lay 0 = .ok (.iload_n 2, 1) := by decide +kernel
theorem dX9_lay_1 : decode cX9_lay 1 = .ok (.aload_n 0, 1) := by decide +kernel
theorem dX9_lay_2 : decode cX9_lay 2 = .ok (.getfield 56, 3) := by decide +kernel
theorem dX9_lay_5 : decode cX9_lay 5 = .ok (.if_icmp .ne 26, 3) := by decide +kernel
theorem dX9_lay_8 : decode cX9_lay 8 = .ok (.aload_n 0, 1) := by decide +kernel
theorem dX9_lay_9 : decode cX9_lay 9 = .ok (.getfield 19, 3) := by decide +kernel
theorem dX9_lay_12 : decode cX9_lay 12 = .ok (.iload_n 2, 1) := by decide +kernel
theorem dX9_lay_13 : decode cX9_lay 13 = .ok (.new 17, 3) := by decide +kernel
theorem dX9_lay_16 : decode cX9_lay 16 = .ok (.dup, 1) := by decide +kernel
theorem dX9_lay_17 : decode cX9_lay 17 = .ok (.invokespecial 81, 3) := by decide +kernel
theorem dX9_lay_20 : decode cX9_lay 20 = .ok (.aastore, 1) := by decide +kernel
theorem dX9_lay_21 : decode cX9_lay 21 = .ok (.aload_n 0, 1) := by decide +kernel
theorem dX9_lay_22 : decode cX9_lay 22 = .ok (.dup, 1) := by decide +kernel
theorem dX9_lay_23 : decode cX9_lay 23 = .ok (.getfield 56, 3) := by decide +kernel
theorem dX9_lay_26 : decode cX9_lay 26 = .ok (.iconst 1, 1) := by decide +kernel
theorem dX9_lay_27 : decode cX9_lay 27 = .ok (.iadd, 1) := by decide +kernel
theorem dX9_lay_28 : decode cX9_lay 28 = .ok (.putfield 56, 3) := by decide +kernel
theorem dX9_lay_31 : decode cX9_lay 31 = .ok (.aload_n 0, 1) := by decide +kernel
theorem dX9_lay_32 : decode cX9_lay 32 = .ok (.getfield 11, 3) := by decide +kernel
theorem dX9_lay_35 : decode cX9_lay 35 = .ok (.iload_n 1, 1) := by decide +kernel
theorem dX9_lay_36 : decode cX9_lay 36 = .ok (.aaload, 1) := by decide +kernel
theorem dX9_lay_37 : decode cX9_lay 37 = .ok (.iload_n 2, 1) := by decide +kernel
theorem dX9_lay_38 : decode cX9_lay 38 = .ok (.putfield 49, 3) := by decide +kernel
theorem dX9_lay_41 : decode cX9_lay 41 = .ok (.aload_n 0, 1) := by decide +kernel
theorem dX9_lay_42 : decode cX9_lay 42 = .ok (.getfield 11, 3) := by decide +kernel
theorem dX9_lay_45 : decode cX9_lay 45 = .ok (.iload_n 1, 1) := by decide +kernel
theorem dX9_lay_46 : decode cX9_lay 46 = .ok (.aaload, 1) := by decide +kernel
theorem dX9_lay_47 : decode cX9_lay 47 = .ok (.iload_n 3, 1) := by decide +kernel
theorem dX9_lay_48 : decode cX9_lay 48 = .ok (.putfield 82, 3) := by decide +kernel
theorem dX9_lay_51 : decode cX9_lay 51 = .ok (.aload_n 0, 1) := by decide +kernel
theorem dX9_lay_52 : decode cX9_lay 52 = .ok (.getfield 19, 3) := by decide +kernel
theorem dX9_lay_55 : decode cX9_lay 55 = .ok (.iload_n 2, 1) := by decide +kernel
theorem dX9_lay_56 : decode cX9_lay 56 = .ok (.aaload, 1) := by decide +kernel
theorem dX9_lay_57 : decode cX9_lay 57 = .ok (.iload_n 3, 1) := by decide +kernel
theorem dX9_lay_58 : decode cX9_lay 58 = .ok (.aload_n 0, 1) := by decide +kernel
theorem dX9_lay_59 : decode cX9_lay 59 = .ok (.getfield 11, 3) := by decide +kernel
theorem dX9_lay_62 : decode cX9_lay 62 = .ok (.iload_n 1, 1) := by decide +kernel
theorem dX9_lay_63 : decode cX9_lay 63 = .ok (.aaload, 1) := by decide +kernel
theorem dX9_lay_64 : decode cX9_lay 64 = .ok (.getfield 85, 3) := by decide +kernel
theorem dX9_lay_67 : decode cX9_lay 67 = .ok (.iadd, 1) := by decide +kernel
theorem dX9_lay_68 : decode cX9_lay 68 = .ok (.putfield 62, 3) := by decide +kernel
theorem dX9_lay_71 : decode cX9_lay 71 = .ok (.return_, 1) := by decide +kernel
theorem dX9_free_0 : decode cX9_free 0 = .ok (.aload_n 0, 1) := by decide +kernel
theorem dX9_free_1 : decode cX9_free 1 = .ok (.getfield 31, 3) := by decide +kernel
theorem dX9_free_4 : decode cX9_free 4 = .ok (.iconst 1, 1) := by decide +kernel
theorem dX9_free_5 : decode cX9_free 5 = .ok (.iload_n 1, 1) := by decide +kernel
theorem dX9_free_6 : decode cX9_free 6 = .ok (.invokevirtual 71, 3) := by decide +kernel
theorem dX9_free_9 : decode cX9_free 9 = .ok (.ifCond .ne 5, 3) := by decide +kernel
theorem dX9_free_12 : decode cX9_free 12 = .ok (.iconst 0, 1) := by decide +kernel
theorem dX9_free_13 : decode cX9_free 13 = .ok (.ireturn, 1) := by decide +kernel
theorem dX9_free_14 : decode cX9_free 14 = .ok (.aload_n 0, 1) := by decide +kernel
theorem dX9_free_15 : decode cX9_free 15 = .ok (.getfield 11, 3) := by decide +kernel
theorem dX9_free_18 : decode cX9_free 18 = .ok (.iload_n 1, 1) := by decide +kernel
theorem dX9_free_19 : decode cX9_free 19 = .ok (.aaload, 1) := by decide +kernel
theorem dX9_free_20 : decode cX9_free 20 = .ok (.astore_n 2, 1) := by decide +kernel
theorem dX9_free_21 : decode cX9_free 21 = .ok (.aload_n 2, 1) := by decide +kernel
theorem dX9_free_22 : decode cX9_free 22 = .ok (.iconst 1, 1) := by decide +kernel
theorem dX9_free_23 : decode cX9_free 23 = .ok (.putfield 38, 3) := by decide +kernel
theorem dX9_free_26 : decode cX9_free 26 = .ok (.aload_n 2, 1) := by decide +kernel
theorem dX9_free_27 : decode cX9_free 27 = .ok (.iconst 0, 1) := by decide +kernel
theorem dX9_free_28 : decode cX9_free 28 = .ok (.putfield 42, 3) := by decide +kernel
theorem dX9_free_31 : decode cX9_free 31 = .ok (.aload_n 0, 1) := by decide +kernel
theorem dX9_free_32 : decode cX9_free 32 = .ok (.getfield 19, 3) := by decide +kernel
theorem dX9_free_35 : decode cX9_free 35 = .ok (.aload_n 2, 1) := by decide +kernel
theorem dX9_free_36 : decode cX9_free 36 = .ok (.getfield 49, 3) := by decide +kernel
theorem dX9_free_39 : decode cX9_free 39 = .ok (.aaload, 1) := by decide +kernel
theorem dX9_free_40 : decode cX9_free 40 = .ok (.dup, 1) := by decide +kernel
theorem dX9_free_41 : decode cX9_free 41 = .ok (.getfield 88, 3) := by decide +kernel
theorem dX9_free_44 : decode cX9_free 44 = .ok (.aload_n 2, 1) := by decide +kernel
theorem dX9_free_45 : decode cX9_free 45 = .ok (.getfield 85, 3) := by decide +kernel
theorem dX9_free_48 : decode cX9_free 48 = .ok (.iadd, 1) := by decide +kernel
theorem dX9_free_49 : decode cX9_free 49 = .ok (.putfield 88, 3) := by decide +kernel
theorem dX9_free_52 : decode cX9_free 52 = .ok (.aload_n 0, 1) := by decide +kernel
theorem dX9_free_53 : decode cX9_free 53 = .ok (.dup, 1) := by decide +kernel
theorem dX9_free_54 : decode cX9_free 54 = .ok (.getfield 91, 3) := by decide +kernel
theorem dX9_free_57 : decode cX9_free 57 = .ok (.iconst 1, 1) := by decide +kernel
theorem dX9_free_58 : decode cX9_free 58 = .ok (.iadd, 1) := by decide +kernel
theorem dX9_free_59 : decode cX9_free 59 = .ok (.putfield 91, 3) := by decide +kernel
theorem dX9_free_62 : decode cX9_free 62 = .ok (.iconst 1, 1) := by decide +kernel
theorem dX9_free_63 : decode cX9_free 63 = .ok (.ireturn, 1) := by decide +kernel
theorem dX9_await_0 : decode cX9_await 0 = .ok (.aload_n 0, 1) := by decide +kernel
theorem dX9_await_1 : decode cX9_await 1 = .ok (.getfield 31, 3) := by decide +kernel
theorem dX9_await_4 : decode cX9_await 4 = .ok (.invokevirtual 94, 3) := by decide +kernel
theorem dX9_await_7 : decode cX9_await 7 = .ok (.ifCond .ne 5, 3) := by decide +kernel
theorem dX9_await_10 : decode cX9_await 10 = .ok (.iconst 0, 1) := by decide +kernel
theorem dX9_await_11 : decode cX9_await 11 = .ok (.ireturn, 1) := by decide +kernel
theorem dX9_await_12 : decode cX9_await 12 = .ok (.aload_n 0, 1) := by decide +kernel
theorem dX9_await_13 : decode cX9_await 13 = .ok (.getfield 11, 3) := by decide +kernel
theorem dX9_await_16 : decode cX9_await 16 = .ok (.iload_n 1, 1) := by decide +kernel
theorem dX9_await_17 : decode cX9_await 17 = .ok (.aaload, 1) := by decide +kernel
theorem dX9_await_18 : decode cX9_await 18 = .ok (.iload_n 2, 1) := by decide +kernel
theorem dX9_await_19 : decode cX9_await 19 = .ok (.putfield 42, 3) := by decide +kernel
theorem dX9_await_22 : decode cX9_await 22 = .ok (.iconst 1, 1) := by decide +kernel
theorem dX9_await_23 : decode cX9_await 23 = .ok (.ireturn, 1) := by decide +kernel
theorem dX9_reachNothing_0 : decode cX9_reachNothing 0 = .ok (.iconst 0, 1) := by decide +kernel
theorem dX9_reachNothing_1 : decode cX9_reachNothing 1 = .ok (.istore_n 1, 1) := by decide +kernel
theorem dX9_reachNothing_2 : decode cX9_reachNothing 2 = .ok (.iload_n 1, 1) := by decide +kernel
theorem dX9_reachNothing_3 : decode cX9_reachNothing 3 = .ok (.aload_n 0, 1) := by decide +kernel
theorem dX9_reachNothing_4 : decode cX9_reachNothing 4 = .ok (.getfield 35, 3) := by decide +kernel
theorem dX9_reachNothing_7 : decode cX9_reachNothing 7 = .ok (.if_icmp .ge 16, 3) := by decide +kernel
theorem dX9_reachNothing_10 : decode cX9_reachNothing 10 = .ok (.aload_n 0, 1) := by decide +kernel
theorem dX9_reachNothing_11 : decode cX9_reachNothing 11 = .ok (.getfield 23, 3) := by decide +kernel
theorem dX9_reachNothing_14 : decode cX9_reachNothing 14 = .ok (.iload_n 1, 1) := by decide +kernel
theorem dX9_reachNothing_15 : decode cX9_reachNothing 15 = .ok (.iconst 0, 1) := by decide +kernel
theorem dX9_reachNothing_16 : decode cX9_reachNothing 16 = .ok (.bastore, 1) := by decide +kernel
theorem dX9_reachNothing_17 : decode cX9_reachNothing 17 = .ok (.iinc 1 1, 3) := by decide +kernel
theorem dX9_reachNothing_20 : decode cX9_reachNothing 20 = .ok (.goto (-18), 3) := by decide +kernel
theorem dX9_reachNothing_23 : decode cX9_reachNothing 23 = .ok (.return_, 1) := by decide +kernel
theorem dX9_startFrom_0 : decode cX9_startFrom 0 = .ok (.aload_n 0, 1) := by decide +kernel
theorem dX9_startFrom_1 : decode cX9_startFrom 1 = .ok (.getfield 23, 3) := by decide +kernel
theorem dX9_startFrom_4 : decode cX9_startFrom 4 = .ok (.iload_n 1, 1) := by decide +kernel
theorem dX9_startFrom_5 : decode cX9_startFrom 5 = .ok (.iconst 1, 1) := by decide +kernel
theorem dX9_startFrom_6 : decode cX9_startFrom 6 = .ok (.bastore, 1) := by decide +kernel
theorem dX9_startFrom_7 : decode cX9_startFrom 7 = .ok (.return_, 1) := by decide +kernel
theorem dX9_startFromAll_0 : decode cX9_startFromAll 0 = .ok (.iconst 0, 1) := by decide +kernel
theorem dX9_startFromAll_1 : decode cX9_startFromAll 1 = .ok (.istore_n 3, 1) := by decide +kernel
theorem dX9_startFromAll_2 : decode cX9_startFromAll 2 = .ok (.iload_n 3, 1) := by decide +kernel
theorem dX9_startFromAll_3 : decode cX9_startFromAll 3 = .ok (.iload_n 2, 1) := by decide +kernel
theorem dX9_startFromAll_4 : decode cX9_startFromAll 4 = .ok (.if_icmp .ge 16, 3) := by decide +kernel
theorem dX9_startFromAll_7 : decode cX9_startFromAll 7 = .ok (.aload_n 0, 1) := by decide +kernel
theorem dX9_startFromAll_8 : decode cX9_startFromAll 8 = .ok (.aload_n 1, 1) := by decide +kernel
theorem dX9_startFromAll_9 : decode cX9_startFromAll 9 = .ok (.iload_n 3, 1) := by decide +kernel
theorem dX9_startFromAll_10 : decode cX9_startFromAll 10 = .ok (.iaload, 1) := by decide +kernel
theorem dX9_startFromAll_11 : decode cX9_startFromAll 11 = .ok (.invokevirtual 97, 3) := by decide +kernel
theorem dX9_startFromAll_14 : decode cX9_startFromAll 14 = .ok (.iinc 3 1, 3) := by decide +kernel
theorem dX9_startFromAll_17 : decode cX9_startFromAll 17 = .ok (.goto (-15), 3) := by decide +kernel
theorem dX9_startFromAll_20 : decode cX9_startFromAll 20 = .ok (.return_, 1) := by decide +kernel
theorem dX9_startFromThere_0 : decode cX9_startFromThere 0 = .ok (.iconst 0, 1) := by decide +kernel
theorem dX9_startFromThere_1 : decode cX9_startFromThere 1 = .ok (.istore_n 1, 1) := by decide +kernel
theorem dX9_startFromThere_2 : decode cX9_startFromThere 2 = .ok (.iload_n 1, 1) := by decide +kernel
theorem dX9_startFromThere_3 : decode cX9_startFromThere 3 = .ok (.aload_n 0, 1) := by decide +kernel
theorem dX9_startFromThere_4 : decode cX9_startFromThere 4 = .ok (.getfield 35, 3) := by decide +kernel
theorem dX9_startFromThere_7 : decode cX9_startFromThere 7 = .ok (.if_icmp .ge 26, 3) := by decide +kernel
theorem dX9_startFromThere_10 : decode cX9_startFromThere 10 = .ok (.aload_n 0, 1) := by decide +kernel
theorem dX9_startFromThere_11 : decode cX9_startFromThere 11 = .ok (.getfield 11, 3) := by decide +kernel
theorem dX9_startFromThere_14 : decode cX9_startFromThere 14 = .ok (.iload_n 1, 1) := by decide +kernel
theorem dX9_startFromThere_15 : decode cX9_startFromThere 15 = .ok (.aaload, 1) := by decide +kernel
theorem dX9_startFromThere_16 : decode cX9_startFromThere 16 = .ok (.getfield 38, 3) := by decide +kernel
theorem dX9_startFromThere_19 : decode cX9_startFromThere 19 = .ok (.ifCond .ne 8, 3) := by decide +kernel
theorem dX9_startFromThere_22 : decode cX9_startFromThere 22 = .ok (.aload_n 0, 1) := by decide +kernel
theorem dX9_startFromThere_23 : decode cX9_startFromThere 23 = .ok (.iload_n 1, 1) := by decide +kernel
theorem dX9_startFromThere_24 : decode cX9_startFromThere 24 = .ok (.invokevirtual 97, 3) := by decide +kernel
theorem dX9_startFromThere_27 : decode cX9_startFromThere 27 = .ok (.iinc 1 1, 3) := by decide +kernel
theorem dX9_startFromThere_30 : decode cX9_startFromThere 30 = .ok (.goto (-28), 3) := by decide +kernel
theorem dX9_startFromThere_33 : decode cX9_startFromThere 33 = .ok (.return_, 1) := by decide +kernel
theorem dX9_reachOn_0 : decode cX9_reachOn 0 = .ok (.aload_n 0, 1) := by decide +kernel
theorem dX9_reachOn_1 : decode cX9_reachOn 1 = .ok (.getfield 35, 3) := by decide +kernel
theorem dX9_reachOn_4 : decode cX9_reachOn 4 = .ok (.iconst 1, 1) := by decide +kernel
theorem dX9_reachOn_5 : decode cX9_reachOn 5 = .ok (.isub, 1) := by decide +kernel
theorem dX9_reachOn_6 : decode cX9_reachOn 6 = .ok (.istore_n 1, 1) := by decide +kernel
theorem dX9_reachOn_7 : decode cX9_reachOn 7 = .ok (.iload_n 1, 1) := by decide +kernel
theorem dX9_reachOn_8 : decode cX9_reachOn 8 = .ok (.ifCond .lt 41, 3) := by decide +kernel
theorem dX9_reachOn_11 : decode cX9_reachOn 11 = .ok (.aload_n 0, 1) := by decide +kernel
theorem dX9_reachOn_12 : decode cX9_reachOn 12 = .ok (.getfield 23, 3) := by decide +kernel
theorem dX9_reachOn_15 : decode cX9_reachOn 15 = .ok (.iload_n 1, 1) := by decide +kernel
theorem dX9_reachOn_16 : decode cX9_reachOn 16 = .ok (.baload, 1) := by decide +kernel
theorem dX9_reachOn_17 : decode cX9_reachOn 17 = .ok (.ifCond .eq 26, 3) := by decide +kernel
theorem dX9_reachOn_20 : decode cX9_reachOn 20 = .ok (.aload_n 0, 1) := by decide +kernel
theorem dX9_reachOn_21 : decode cX9_reachOn 21 = .ok (.aload_n 0, 1) := by decide +kernel
theorem dX9_reachOn_22 : decode cX9_reachOn 22 = .ok (.getfield 11, 3) := by decide +kernel
theorem dX9_reachOn_25 : decode cX9_reachOn 25 = .ok (.iload_n 1, 1) := by decide +kernel
theorem dX9_reachOn_26 : decode cX9_reachOn 26 = .ok (.aaload, 1) := by decide +kernel
theorem dX9_reachOn_27 : decode cX9_reachOn 27 = .ok (.getfield 101, 3) := by decide +kernel
theorem dX9_reachOn_30 : decode cX9_reachOn 30 = .ok (.aload_n 0, 1) := by decide +kernel
theorem dX9_reachOn_31 : decode cX9_reachOn 31 = .ok (.getfield 11, 3) := by decide +kernel
theorem dX9_reachOn_34 : decode cX9_reachOn 34 = .ok (.iload_n 1, 1) := by decide +kernel
theorem dX9_reachOn_35 : decode cX9_reachOn 35 = .ok (.aaload, 1) := by decide +kernel
theorem dX9_reachOn_36 : decode cX9_reachOn 36 = .ok (.getfield 101, 3) := by decide +kernel
theorem dX9_reachOn_39 : decode cX9_reachOn 39 = .ok (.arraylength, 1) := by decide +kernel
theorem dX9_reachOn_40 : decode cX9_reachOn 40 = .ok (.invokevirtual 105, 3) := by decide +kernel
theorem dX9_reachOn_43 : decode cX9_reachOn 43 = .ok (.iinc 1 (-1), 3) := by decide +kernel
theorem dX9_reachOn_46 : decode cX9_reachOn 46 = .ok (.goto (-39), 3) := by decide +kernel
theorem dX9_reachOn_49 : decode cX9_reachOn 49 = .ok (.return_, 1) := by decide +kernel
theorem dX9_reviveReached_0 : decode cX9_reviveReached 0 = .ok (.iconst 0, 1) := by decide +kernel
theorem dX9_reviveReached_1 : decode cX9_reviveReached 1 = .ok (.istore_n 1, 1) := by decide +kernel
theorem dX9_reviveReached_2 : decode cX9_reviveReached 2 = .ok (.iconst 0, 1) := by decide +kernel
theorem dX9_reviveReached_3 : decode cX9_reviveReached 3 = .ok (.istore_n 2, 1) := by decide +kernel
theorem dX9_reviveReached_4 : decode cX9_reviveReached 4 = .ok (.iload_n 2, 1) := by decide +kernel
theorem dX9_reviveReached_5 : decode cX9_reviveReached 5 = .ok (.aload_n 0, 1) := by decide +kernel
theorem dX9_reviveReached_6 : decode cX9_reviveReached 6 = .ok (.getfield 35, 3) := by decide +kernel
theorem dX9_reviveReached_9 : decode cX9_reviveReached 9 = .ok (.if_icmp .ge 55, 3) := by decide +kernel
theorem dX9_reviveReached_12 : decode cX9_reviveReached 12 = .ok (.aload_n 0, 1) := by decide +kernel
theorem dX9_reviveReached_13 : decode cX9_reviveReached 13 = .ok (.getfield 23, 3) := by decide +kernel
theorem dX9_reviveReached_16 : decode cX9_reviveReached 16 = .ok (.iload_n 2, 1) := by decide +kernel
theorem dX9_reviveReached_17 : decode cX9_reviveReached 17 = .ok (.baload, 1) := by decide +kernel
theorem dX9_reviveReached_18 : decode cX9_reviveReached 18 = .ok (.ifCond .eq 40, 3) := by decide +kernel
theorem dX9_reviveReached_21 : decode cX9_reviveReached 21 = .ok (.aload_n 0, 1) := by decide +kernel
theorem dX9_reviveReached_22 : decode cX9_reviveReached 22 = .ok (.getfield 11, 3) := by decide +kernel
theorem dX9_reviveReached_25 : decode cX9_reviveReached 25 = .ok (.iload_n 2, 1) := by decide +kernel
theorem dX9_reviveReached_26 : decode cX9_reviveReached 26 = .ok (.aaload, 1) := by decide +kernel
theorem dX9_reviveReached_27 : decode cX9_reviveReached 27 = .ok (.getfield 42, 3) := by decide +kernel
theorem dX9_reviveReached_30 : decode cX9_reviveReached 30 = .ok (.ifCond .le 28, 3) := by decide +kernel
theorem dX9_reviveReached_33 : decode cX9_reviveReached 33 = .ok (.aload_n 0, 1) := by decide +kernel
theorem dX9_reviveReached_34 : decode cX9_reviveReached 34 = .ok (.iload_n 2, 1) := by decide +kernel
theorem dX9_reviveReached_35 : decode cX9_reviveReached 35 = .ok (.iconst 0, 1) := by decide +kernel
theorem dX9_reviveReached_36 : decode cX9_reviveReached 36 = .ok (.invokevirtual 109, 3) := by decide +kernel
theorem dX9_reviveReached_39 : decode cX9_reviveReached 39 = .ok (.ifCond .ne 6, 3) := by decide +kernel
theorem dX9_reviveReached_42 : decode cX9_reviveReached 42 = .ok (.bipush (-105), 2) := by decide +kernel
theorem dX9_reviveReached_44 : decode cX9_reviveReached 44 = .ok (.ireturn, 1) := by decide +kernel
theorem dX9_reviveReached_45 : decode cX9_reviveReached 45 = .ok (.iinc 1 1, 3) := by decide +kernel
theorem dX9_reviveReached_48 : decode cX9_reviveReached 48 = .ok (.aload_n 0, 1) := by decide +kernel
theorem dX9_reviveReached_49 : decode cX9_reviveReached 49 = .ok (.dup, 1) := by decide +kernel
theorem dX9_reviveReached_50 : decode cX9_reviveReached 50 = .ok (.getfield 112, 3) := by decide +kernel
theorem dX9_reviveReached_53 : decode cX9_reviveReached 53 = .ok (.iconst 1, 1) := by decide +kernel
theorem dX9_reviveReached_54 : decode cX9_reviveReached 54 = .ok (.iadd, 1) := by decide +kernel
theorem dX9_reviveReached_55 : decode cX9_reviveReached 55 = .ok (.putfield 112, 3) := by decide +kernel
theorem dX9_reviveReached_58 : decode cX9_reviveReached 58 = .ok (.iinc 2 1, 3) := by decide +kernel
theorem dX9_reviveReached_61 : decode cX9_reviveReached 61 = .ok (.goto (-57), 3) := by decide +kernel
theorem dX9_reviveReached_64 : decode cX9_reviveReached 64 = .ok (.iload_n 1, 1) := by decide +kernel
theorem dX9_reviveReached_65 : decode cX9_reviveReached 65 = .ok (.ireturn, 1) := by decide +kernel
theorem dX9_markReached_0 : decode cX9_markReached 0 = .ok (.iconst 0, 1) := by decide +kernel
theorem dX9_markReached_1 : decode cX9_markReached 1 = .ok (.istore_n 1, 1) := by decide +kernel
theorem dX9_markReached_2 : decode cX9_markReached 2 = .ok (.iload_n 1, 1) := by decide +kernel
theorem dX9_markReached_3 : decode cX9_markReached 3 = .ok (.aload_n 0, 1) := by decide +kernel
theorem dX9_markReached_4 : decode cX9_markReached 4 = .ok (.getfield 35, 3) := by decide +kernel
theorem dX9_markReached_7 : decode cX9_markReached 7 = .ok (.if_icmp .ge 28, 3) := by decide +kernel
theorem dX9_markReached_10 : decode cX9_markReached 10 = .ok (.aload_n 0, 1) := by decide +kernel
theorem dX9_markReached_11 : decode cX9_markReached 11 = .ok (.getfield 23, 3) := by decide +kernel
theorem dX9_markReached_14 : decode cX9_markReached 14 = .ok (.iload_n 1, 1) := by decide +kernel
theorem dX9_markReached_15 : decode cX9_markReached 15 = .ok (.baload, 1) := by decide +kernel
theorem dX9_markReached_16 : decode cX9_markReached 16 = .ok (.ifCond .eq 13, 3) := by decide +kernel
theorem dX9_markReached_19 : decode cX9_markReached 19 = .ok (.aload_n 0, 1) := by decide +kernel
theorem dX9_markReached_20 : decode cX9_markReached 20 = .ok (.getfield 11, 3) := by decide +kernel
theorem dX9_markReached_23 : decode cX9_markReached 23 = .ok (.iload_n 1, 1) := by decide +kernel
theorem dX9_markReached_24 : decode cX9_markReached 24 = .ok (.aaload, 1) := by decide +kernel
theorem dX9_markReached_25 : decode cX9_markReached 25 = .ok (.iconst 1, 1) := by decide +kernel
theorem dX9_markReached_26 : decode cX9_markReached 26 = .ok (.putfield 115, 3) := by decide +kernel
theorem dX9_markReached_29 : decode cX9_markReached 29 = .ok (.iinc 1 1, 3) := by decide +kernel
theorem dX9_markReached_32 : decode cX9_markReached 32 = .ok (.goto (-30), 3) := by decide +kernel
theorem dX9_markReached_35 : decode cX9_markReached 35 = .ok (.return_, 1) := by decide +kernel
theorem dX9_reachedOutside_0 : decode cX9_reachedOutside 0 = .ok (.iconst 0, 1) := by decide +kernel
theorem dX9_reachedOutside_1 : decode cX9_reachedOutside 1 = .ok (.istore_n 2, 1) := by decide +kernel
theorem dX9_reachedOutside_2 : decode cX9_reachedOutside 2 = .ok (.iconst 0, 1) := by decide +kernel
theorem dX9_reachedOutside_3 : decode cX9_reachedOutside 3 = .ok (.istore_n 3, 1) := by decide +kernel
theorem dX9_reachedOutside_4 : decode cX9_reachedOutside 4 = .ok (.iload_n 3, 1) := by decide +kernel
theorem dX9_reachedOutside_5 : decode cX9_reachedOutside 5 = .ok (.aload_n 0, 1) := by decide +kernel
theorem dX9_reachedOutside_6 : decode cX9_reachedOutside 6 = .ok (.getfield 35, 3) := by decide +kernel
theorem dX9_reachedOutside_9 : decode cX9_reachedOutside 9 = .ok (.if_icmp .ge 32, 3) := by decide +kernel
theorem dX9_reachedOutside_12 : decode cX9_reachedOutside 12 = .ok (.iload_n 2, 1) := by decide +kernel
theorem dX9_reachedOutside_13 : decode cX9_reachedOutside 13 = .ok (.aload_n 0, 1) := by decide +kernel
theorem dX9_reachedOutside_14 : decode cX9_reachedOutside 14 = .ok (.getfield 23, 3) := by decide +kernel
theorem dX9_reachedOutside_17 : decode cX9_reachedOutside 17 = .ok (.iload_n 3, 1) := by decide +kernel
theorem dX9_reachedOutside_18 : decode cX9_reachedOutside 18 = .ok (.baload, 1) := by decide +kernel
theorem dX9_reachedOutside_19 : decode cX9_reachedOutside 19 = .ok (.ifCond .eq 13, 3) := by decide +kernel
theorem dX9_reachedOutside_22 : decode cX9_reachedOutside 22 = .ok (.aload_n 1, 1) := by decide +kernel
theorem dX9_reachedOutside_23 : decode cX9_reachedOutside 23 = .ok (.iload_n 3, 1) := by decide +kernel
theorem dX9_reachedOutside_24 : decode cX9_reachedOutside 24 = .ok (.baload, 1) := by decide +kernel
theorem dX9_reachedOutside_25 : decode cX9_reachedOutside 25 = .ok (.ifCond .ne 7, 3) := by decide +kernel
theorem dX9_reachedOutside_28 : decode cX9_reachedOutside 28 = .ok (.iconst 1, 1) := by decide +kernel
theorem dX9_reachedOutside_29 : decode cX9_reachedOutside 29 = .ok (.goto 4, 3) := by decide +kernel
theorem dX9_reachedOutside_32 : decode cX9_reachedOutside 32 = .ok (.iconst 0, 1) := by decide +kernel
theorem dX9_reachedOutside_33 : decode cX9_reachedOutside 33 = .ok (.iadd, 1) := by decide +kernel
theorem dX9_reachedOutside_34 : decode cX9_reachedOutside 34 = .ok (.istore_n 2, 1) := by decide +kernel
theorem dX9_reachedOutside_35 : decode cX9_reachedOutside 35 = .ok (.iinc 3 1, 3) := by decide +kernel
theorem dX9_reachedOutside_38 : decode cX9_reachedOutside 38 = .ok (.goto (-34), 3) := by decide +kernel
theorem dX9_reachedOutside_41 : decode cX9_reachedOutside 41 = .ok (.iload_n 2, 1) := by decide +kernel
theorem dX9_reachedOutside_42 : decode cX9_reachedOutside 42 = .ok (.ireturn, 1) := by decide +kernel
theorem dX9_reachedButFreed_0 : decode cX9_reachedButFreed 0 = .ok (.iconst 0, 1) := by decide +kernel
theorem dX9_reachedButFreed_1 : decode cX9_reachedButFreed 1 = .ok (.istore_n 1, 1) := by decide +kernel
theorem dX9_reachedButFreed_2 : decode cX9_reachedButFreed 2 = .ok (.iconst 0, 1) := by decide +kernel
theorem dX9_reachedButFreed_3 : decode cX9_reachedButFreed 3 = .ok (.istore_n 2, 1) := by decide +kernel
theorem dX9_reachedButFreed_4 : decode cX9_reachedButFreed 4 = .ok (.iload_n 2, 1) := by decide +kernel
theorem dX9_reachedButFreed_5 : decode cX9_reachedButFreed 5 = .ok (.aload_n 0, 1) := by decide +kernel
theorem dX9_reachedButFreed_6 : decode cX9_reachedButFreed 6 = .ok (.getfield 35, 3) := by decide +kernel
theorem dX9_reachedButFreed_9 : decode cX9_reachedButFreed 9 = .ok (.if_icmp .ge 38, 3) := by decide +kernel
theorem dX9_reachedButFreed_12 : decode cX9_reachedButFreed 12 = .ok (.iload_n 1, 1) := by decide +kernel
theorem dX9_reachedButFreed_13 : decode cX9_reachedButFreed 13 = .ok (.aload_n 0, 1) := by decide +kernel
theorem dX9_reachedButFreed_14 : decode cX9_reachedButFreed 14 = .ok (.getfield 23, 3) := by decide +kernel
theorem dX9_reachedButFreed_17 : decode cX9_reachedButFreed 17 = .ok (.iload_n 2, 1) := by decide +kernel
theorem dX9_reachedButFreed_18 : decode cX9_reachedButFreed 18 = .ok (.baload, 1) := by decide +kernel
theorem dX9_reachedButFreed_19 : decode cX9_reachedButFreed 19 = .ok (.ifCond .eq 19, 3) := by decide +kernel
theorem dX9_reachedButFreed_22 : decode cX9_reachedButFreed 22 = .ok (.aload_n 0, 1) := by decide +kernel
theorem dX9_reachedButFreed_23 : decode cX9_reachedButFreed 23 = .ok (.getfield 11, 3) := by decide +kernel
theorem dX9_reachedButFreed_26 : decode cX9_reachedButFreed 26 = .ok (.iload_n 2, 1) := by decide +kernel
theorem dX9_reachedButFreed_27 : decode cX9_reachedButFreed 27 = .ok (.aaload, 1) := by decide +kernel
theorem dX9_reachedButFreed_28 : decode cX9_reachedButFreed 28 = .ok (.getfield 38, 3) := by decide +kernel
theorem dX9_reachedButFreed_31 : decode cX9_reachedButFreed 31 = .ok (.ifCond .eq 7, 3) := by decide +kernel
theorem dX9_reachedButFreed_34 : decode cX9_reachedButFreed 34 = .ok (.iconst 1, 1) := by decide +kernel
theorem dX9_reachedButFreed_35 : decode cX9_reachedButFreed 35 = .ok (.goto 4, 3) := by decide +kernel
theorem dX9_reachedButFreed_38 : decode cX9_reachedButFreed 38 = .ok (.iconst 0, 1) := by decide +kernel
theorem dX9_reachedButFreed_39 : decode cX9_reachedButFreed 39 = .ok (.iadd, 1) := by decide +kernel
theorem dX9_reachedButFreed_40 : decode cX9_reachedButFreed 40 = .ok (.istore_n 1, 1) := by decide +kernel
theorem dX9_reachedButFreed_41 : decode cX9_reachedButFreed 41 = .ok (.iinc 2 1, 3) := by decide +kernel
theorem dX9_reachedButFreed_44 : decode cX9_reachedButFreed 44 = .ok (.goto (-40), 3) := by decide +kernel
theorem dX9_reachedButFreed_47 : decode cX9_reachedButFreed 47 = .ok (.iload_n 1, 1) := by decide +kernel
theorem dX9_reachedButFreed_48 : decode cX9_reachedButFreed 48 = .ok (.ireturn, 1) := by decide +kernel
theorem dX9_misplacedBlocks_0 : decode cX9_misplacedBlocks 0 = .ok (.iconst 0, 1) := by decide +kernel
theorem dX9_misplacedBlocks_1 : decode cX9_misplacedBlocks 1 = .ok (.istore_n 1, 1) := by decide +kernel
theorem dX9_misplacedBlocks_2 : decode cX9_misplacedBlocks 2 = .ok (.iconst 0, 1) := by decide +kernel
theorem dX9_misplacedBlocks_3 : decode cX9_misplacedBlocks 3 = .ok (.istore_n 2, 1) := by decide +kernel
theorem dX9_misplacedBlocks_4 : decode cX9_misplacedBlocks 4 = .ok (.iload_n 2, 1) := by decide +kernel
theorem dX9_misplacedBlocks_5 : decode cX9_misplacedBlocks 5 = .ok (.aload_n 0, 1) := by decide +kernel
theorem dX9_misplacedBlocks_6 : decode cX9_misplacedBlocks 6 = .ok (.getfield 35, 3) := by decide +kernel
theorem dX9_misplacedBlocks_9 : decode cX9_misplacedBlocks 9 = .ok (.if_icmp .ge 109, 3) := by decide +kernel
theorem dX9_misplacedBlocks_12 : decode cX9_misplacedBlocks 12 = .ok (.aload_n 0, 1) := by decide +kernel
theorem dX9_misplacedBlocks_13 : decode cX9_misplacedBlocks 13 = .ok (.getfield 11, 3) := by decide +kernel
theorem dX9_misplacedBlocks_16 : decode cX9_misplacedBlocks 16 = .ok (.iload_n 2, 1) := by decide +kernel
theorem dX9_misplacedBlocks_17 : decode cX9_misplacedBlocks 17 = .ok (.aaload, 1) := by decide +kernel
theorem dX9_misplacedBlocks_18 : decode cX9_misplacedBlocks 18 = .ok (.getfield 38, 3) := by decide +kernel
theorem dX9_misplacedBlocks_21 : decode cX9_misplacedBlocks 21 = .ok (.ifCond .ne 91, 3) := by decide +kernel
theorem dX9_misplacedBlocks_24 : decode cX9_misplacedBlocks 24 = .ok (.aload_n 0, 1) := by decide +kernel
theorem dX9_misplacedBlocks_25 : decode cX9_misplacedBlocks 25 = .ok (.getfield 19, 3) := by decide +kernel
theorem dX9_misplacedBlocks_28 : decode cX9_misplacedBlocks 28 = .ok (.aload_n 0, 1) := by decide +kernel
theorem dX9_misplacedBlocks_29 : decode cX9_misplacedBlocks 29 = .ok (.getfield 11, 3) := by decide +kernel
theorem dX9_misplacedBlocks_32 : decode cX9_misplacedBlocks 32 = .ok (.iload_n 2, 1) := by decide +kernel
theorem dX9_misplacedBlocks_33 : decode cX9_misplacedBlocks 33 = .ok (.aaload, 1) := by decide +kernel
theorem dX9_misplacedBlocks_34 : decode cX9_misplacedBlocks 34 = .ok (.getfield 49, 3) := by decide +kernel
theorem dX9_misplacedBlocks_37 : decode cX9_misplacedBlocks 37 = .ok (.aaload, 1) := by decide +kernel
theorem dX9_misplacedBlocks_38 : decode cX9_misplacedBlocks 38 = .ok (.astore_n 3, 1) := by decide +kernel
theorem dX9_misplacedBlocks_39 : decode cX9_misplacedBlocks 39 = .ok (.aload_n 0, 1) := by decide +kernel
theorem dX9_misplacedBlocks_40 : decode cX9_misplacedBlocks 40 = .ok (.getfield 11, 3) := by decide +kernel
theorem dX9_misplacedBlocks_43 : decode cX9_misplacedBlocks 43 = .ok (.iload_n 2, 1) := by decide +kernel
theorem dX9_misplacedBlocks_44 : decode cX9_misplacedBlocks 44 = .ok (.aaload, 1) := by decide +kernel
theorem dX9_misplacedBlocks_45 : decode cX9_misplacedBlocks 45 = .ok (.getfield 82, 3) := by decide +kernel
theorem dX9_misplacedBlocks_48 : decode cX9_misplacedBlocks 48 = .ok (.ifCond .lt 33, 3) := by decide +kernel
theorem dX9_misplacedBlocks_51 : decode cX9_misplacedBlocks 51 = .ok (.aload_n 0, 1) := by decide +kernel
theorem dX9_misplacedBlocks_52 : decode cX9_misplacedBlocks 52 = .ok (.getfield 11, 3) := by decide +kernel
theorem dX9_misplacedBlocks_55 : decode cX9_misplacedBlocks 55 = .ok (.iload_n 2, 1) := by decide +kernel
theorem dX9_misplacedBlocks_56 : decode cX9_misplacedBlocks 56 = .ok (.aaload, 1) := by decide +kernel
theorem dX9_misplacedBlocks_57 : decode cX9_misplacedBlocks 57 = .ok (.getfield 82, 3) := by decide +kernel
theorem dX9_misplacedBlocks_60 : decode cX9_misplacedBlocks 60 = .ok (.aload_n 0, 1) := by decide +kernel
theorem dX9_misplacedBlocks_61 : decode cX9_misplacedBlocks 61 = .ok (.getfield 11, 3) := by decide +kernel
theorem dX9_misplacedBlocks_64 : decode cX9_misplacedBlocks 64 = .ok (.iload_n 2, 1) := by decide +kernel
theorem dX9_misplacedBlocks_65 : decode cX9_misplacedBlocks 65 = .ok (.aaload, 1) := by decide +kernel
theorem dX9_misplacedBlocks_66 : decode cX9_misplacedBlocks 66 = .ok (.getfield 85, 3) := by decide +kernel
theorem dX9_misplacedBlocks_69 : decode cX9_misplacedBlocks 69 = .ok (.iadd, 1) := by decide +kernel
theorem dX9_misplacedBlocks_70 : decode cX9_misplacedBlocks 70 = .ok (.aload_n 3, 1) := by decide +kernel
theorem dX9_misplacedBlocks_71 : decode cX9_misplacedBlocks 71 = .ok (.getfield 62, 3) := by decide +kernel
theorem dX9_misplacedBlocks_74 : decode cX9_misplacedBlocks 74 = .ok (.if_icmp .gt 7, 3) := by decide +kernel
theorem dX9_misplacedBlocks_77 : decode cX9_misplacedBlocks 77 = .ok (.iconst 1, 1) := by decide +kernel
theorem dX9_misplacedBlocks_78 : decode cX9_misplacedBlocks 78 = .ok (.goto 4, 3) := by decide +kernel
theorem dX9_misplacedBlocks_81 : decode cX9_misplacedBlocks 81 = .ok (.iconst 0, 1) := by decide +kernel
theorem dX9_misplacedBlocks_82 : decode cX9_misplacedBlocks 82 = .ok (.istore 4, 2) := by decide +kernel
theorem dX9_misplacedBlocks_84 : decode cX9_misplacedBlocks 84 = .ok (.iload_n 1, 1) := by decide +kernel
theorem dX9_misplacedBlocks_85 : decode cX9_misplacedBlocks 85 = .ok (.aload_n 3, 1) := by decide +kernel
theorem dX9_misplacedBlocks_86 : decode cX9_misplacedBlocks 86 = .ok (.getfield 59, 3) := by decide +kernel
theorem dX9_misplacedBlocks_89 : decode cX9_misplacedBlocks 89 = .ok (.ifCond .ne 16, 3) := by decide +kernel
theorem dX9_misplacedBlocks_92 : decode cX9_misplacedBlocks 92 = .ok (.iload 4, 2) := by decide +kernel
theorem dX9_misplacedBlocks_94 : decode cX9_misplacedBlocks 94 = .ok (.ifCond .eq 11, 3) := by decide +kernel
theorem dX9_misplacedBlocks_97 : decode cX9_misplacedBlocks 97 = .ok (.aload_n 0, 1) := by decide +kernel
theorem dX9_misplacedBlocks_98 : decode cX9_misplacedBlocks 98 = .ok (.iload_n 2, 1) := by decide +kernel
theorem dX9_misplacedBlocks_99 : decode cX9_misplacedBlocks 99 = .ok (.invokevirtual 118, 3) := by decide +kernel
theorem dX9_misplacedBlocks_102 : decode cX9_misplacedBlocks 102 = .ok (.ifCond .eq 7, 3) := by decide +kernel
theorem dX9_misplacedBlocks_105 : decode cX9_misplacedBlocks 105 = .ok (.iconst 1, 1) := by decide +kernel
theorem dX9_misplacedBlocks_106 : decode cX9_misplacedBlocks 106 = .ok (.goto 4, 3) := by decide +kernel
theorem dX9_misplacedBlocks_109 : decode cX9_misplacedBlocks 109 = .ok (.iconst 0, 1) := by decide +kernel
theorem dX9_misplacedBlocks_110 : decode cX9_misplacedBlocks 110 = .ok (.iadd, 1) := by decide +kernel
theorem dX9_misplacedBlocks_111 : decode cX9_misplacedBlocks 111 = .ok (.istore_n 1, 1) := by decide +kernel
theorem dX9_misplacedBlocks_112 : decode cX9_misplacedBlocks 112 = .ok (.iinc 2 1, 3) := by decide +kernel
theorem dX9_misplacedBlocks_115 : decode cX9_misplacedBlocks 115 = .ok (.goto (-111), 3) := by decide +kernel
theorem dX9_misplacedBlocks_118 : decode cX9_misplacedBlocks 118 = .ok (.iload_n 1, 1) := by decide +kernel
theorem dX9_misplacedBlocks_119 : decode cX9_misplacedBlocks 119 = .ok (.ireturn, 1) := by decide +kernel
theorem dX9_liesOverLater_0 : decode cX9_liesOverLater 0 = .ok (.aload_n 0, 1) := by decide +kernel
theorem dX9_liesOverLater_1 : decode cX9_liesOverLater 1 = .ok (.getfield 11, 3) := by decide +kernel
theorem dX9_liesOverLater_4 : decode cX9_liesOverLater 4 = .ok (.iload_n 1, 1) := by decide +kernel
theorem dX9_liesOverLater_5 : decode cX9_liesOverLater 5 = .ok (.aaload, 1) := by decide +kernel
theorem dX9_liesOverLater_6 : decode cX9_liesOverLater 6 = .ok (.astore_n 2, 1) := by decide +kernel
theorem dX9_liesOverLater_7 : decode cX9_liesOverLater 7 = .ok (.iload_n 1, 1) := by decide +kernel
theorem dX9_liesOverLater_8 : decode cX9_liesOverLater 8 = .ok (.iconst 1, 1) := by decide +kernel
theorem dX9_liesOverLater_9 : decode cX9_liesOverLater 9 = .ok (.iadd, 1) := by decide +kernel
theorem dX9_liesOverLater_10 : decode cX9_liesOverLater 10 = .ok (.istore_n 3, 1) := by decide +kernel
theorem dX9_liesOverLater_11 : decode cX9_liesOverLater 11 = .ok (.iload_n 3, 1) := by decide +kernel
theorem dX9_liesOverLater_12 : decode cX9_liesOverLater 12 = .ok (.aload_n 0, 1) := by decide +kernel
theorem dX9_liesOverLater_13 : decode cX9_liesOverLater 13 = .ok (.getfield 35, 3) := by decide +kernel
theorem dX9_liesOverLater_16 : decode cX9_liesOverLater 16 = .ok (.if_icmp .ge 66, 3) := by decide +kernel
theorem dX9_liesOverLater_19 : decode cX9_liesOverLater 19 = .ok (.aload_n 0, 1) := by decide +kernel
theorem dX9_liesOverLater_20 : decode cX9_liesOverLater 20 = .ok (.getfield 11, 3) := by decide +kernel
theorem dX9_liesOverLater_23 : decode cX9_liesOverLater 23 = .ok (.iload_n 3, 1) := by decide +kernel
theorem dX9_liesOverLater_24 : decode cX9_liesOverLater 24 = .ok (.aaload, 1) := by decide +kernel
theorem dX9_liesOverLater_25 : decode cX9_liesOverLater 25 = .ok (.astore 4, 2) := by decide +kernel
theorem dX9_liesOverLater_27 : decode cX9_liesOverLater 27 = .ok (.aload_n 0, 1) := by decide +kernel
theorem dX9_liesOverLater_28 : decode cX9_liesOverLater 28 = .ok (.iload_n 3, 1) := by decide +kernel
theorem dX9_liesOverLater_29 : decode cX9_liesOverLater 29 = .ok (.aload_n 2, 1) := by decide +kernel
theorem dX9_liesOverLater_30 : decode cX9_liesOverLater 30 = .ok (.getfield 49, 3) := by decide +kernel
theorem dX9_liesOverLater_33 : decode cX9_liesOverLater 33 = .ok (.invokevirtual 45, 3) := by decide +kernel
theorem dX9_liesOverLater_36 : decode cX9_liesOverLater 36 = .ok (.ifCond .eq 40, 3) := by decide +kernel
theorem dX9_liesOverLater_39 : decode cX9_liesOverLater 39 = .ok (.aload_n 2, 1) := by decide +kernel
theorem dX9_liesOverLater_40 : decode cX9_liesOverLater 40 = .ok (.getfield 82, 3) := by decide +kernel
theorem dX9_liesOverLater_43 : decode cX9_liesOverLater 43 = .ok (.aload 4, 2) := by decide +kernel
theorem dX9_liesOverLater_45 : decode cX9_liesOverLater 45 = .ok (.getfield 82, 3) := by decide +kernel
theorem dX9_liesOverLater_48 : decode cX9_liesOverLater 48 = .ok (.aload 4, 2) := by decide +kernel
theorem dX9_liesOverLater_50 : decode cX9_liesOverLater 50 = .ok (.getfield 85, 3) := by decide +kernel
theorem dX9_liesOverLater_53 : decode cX9_liesOverLater 53 = .ok (.iadd, 1) := by decide +kernel
theorem dX9_liesOverLater_54 : decode cX9_liesOverLater 54 = .ok (.if_icmp .ge 22, 3) := by decide +kernel
theorem dX9_liesOverLater_57 : decode cX9_liesOverLater 57 = .ok (.aload 4, 2) := by decide +kernel
theorem dX9_liesOverLater_59 : decode cX9_liesOverLater 59 = .ok (.getfield 82, 3) := by decide +kernel
theorem dX9_liesOverLater_62 : decode cX9_liesOverLater 62 = .ok (.aload_n 2, 1) := by decide +kernel
theorem dX9_liesOverLater_63 : decode cX9_liesOverLater 63 = .ok (.getfield 82, 3) := by decide +kernel
theorem dX9_liesOverLater_66 : decode cX9_liesOverLater 66 = .ok (.aload_n 2, 1) := by decide +kernel
theorem dX9_liesOverLater_67 : decode cX9_liesOverLater 67 = .ok (.getfield 85, 3) := by decide +kernel
theorem dX9_liesOverLater_70 : decode cX9_liesOverLater 70 = .ok (.iadd, 1) := by decide +kernel
theorem dX9_liesOverLater_71 : decode cX9_liesOverLater 71 = .ok (.if_icmp .ge 5, 3) := by decide +kernel
theorem dX9_liesOverLater_74 : decode cX9_liesOverLater 74 = .ok (.iconst 1, 1) := by decide +kernel
theorem dX9_liesOverLater_75 : decode cX9_liesOverLater 75 = .ok (.ireturn, 1) := by decide +kernel
theorem dX9_liesOverLater_76 : decode cX9_liesOverLater 76 = .ok (.iinc 3 1, 3) := by decide +kernel
theorem dX9_liesOverLater_79 : decode cX9_liesOverLater 79 = .ok (.goto (-68), 3) := by decide +kernel
theorem dX9_liesOverLater_82 : decode cX9_liesOverLater 82 = .ok (.iconst 0, 1) := by decide +kernel
theorem dX9_liesOverLater_83 : decode cX9_liesOverLater 83 = .ok (.ireturn, 1) := by decide +kernel
theorem dX9_unevenPacks_0 : decode cX9_unevenPacks 0 = .ok (.iconst 0, 1) := by decide +kernel
theorem dX9_unevenPacks_1 : decode cX9_unevenPacks 1 = .ok (.istore_n 1, 1) := by decide +kernel
theorem dX9_unevenPacks_2 : decode cX9_unevenPacks 2 = .ok (.iconst 0, 1) := by decide +kernel
theorem dX9_unevenPacks_3 : decode cX9_unevenPacks 3 = .ok (.istore_n 2, 1) := by decide +kernel
theorem dX9_unevenPacks_4 : decode cX9_unevenPacks 4 = .ok (.iload_n 2, 1) := by decide +kernel
theorem dX9_unevenPacks_5 : decode cX9_unevenPacks 5 = .ok (.aload_n 0, 1) := by decide +kernel
theorem dX9_unevenPacks_6 : decode cX9_unevenPacks 6 = .ok (.getfield 56, 3) := by decide +kernel
theorem dX9_unevenPacks_9 : decode cX9_unevenPacks 9 = .ok (.if_icmp .ge 85, 3) := by decide +kernel
theorem dX9_unevenPacks_12 : decode cX9_unevenPacks 12 = .ok (.aload_n 0, 1) := by decide +kernel
theorem dX9_unevenPacks_13 : decode cX9_unevenPacks 13 = .ok (.getfield 19, 3) := by decide +kernel
theorem dX9_unevenPacks_16 : decode cX9_unevenPacks 16 = .ok (.iload_n 2, 1) := by decide +kernel
theorem dX9_unevenPacks_17 : decode cX9_unevenPacks 17 = .ok (.aaload, 1) := by decide +kernel
theorem dX9_unevenPacks_18 : decode cX9_unevenPacks 18 = .ok (.getfield 88, 3) := by decide +kernel
theorem dX9_unevenPacks_21 : decode cX9_unevenPacks 21 = .ok (.istore_n 3, 1) := by decide +kernel
theorem dX9_unevenPacks_22 : decode cX9_unevenPacks 22 = .ok (.iconst 0, 1) := by decide +kernel
theorem dX9_unevenPacks_23 : decode cX9_unevenPacks 23 = .ok (.istore 4, 2) := by decide +kernel
theorem dX9_unevenPacks_25 : decode cX9_unevenPacks 25 = .ok (.iload 4, 2) := by decide +kernel
theorem dX9_unevenPacks_27 : decode cX9_unevenPacks 27 = .ok (.aload_n 0, 1) := by decide +kernel
theorem dX9_unevenPacks_28 : decode cX9_unevenPacks 28 = .ok (.getfield 35, 3) := by decide +kernel
theorem dX9_unevenPacks_31 : decode cX9_unevenPacks 31 = .ok (.if_icmp .ge 36, 3) := by decide +kernel
theorem dX9_unevenPacks_34 : decode cX9_unevenPacks 34 = .ok (.iload_n 3, 1) := by decide +kernel
theorem dX9_unevenPacks_35 : decode cX9_unevenPacks 35 = .ok (.aload_n 0, 1) := by decide +kernel
theorem dX9_unevenPacks_36 : decode cX9_unevenPacks 36 = .ok (.iload 4, 2) := by decide +kernel
theorem dX9_unevenPacks_38 : decode cX9_unevenPacks 38 = .ok (.iload_n 2, 1) := by decide +kernel
theorem dX9_unevenPacks_39 : decode cX9_unevenPacks 39 = .ok (.invokevirtual 45, 3) := by decide +kernel
theorem dX9_unevenPacks_42 : decode cX9_unevenPacks 42 = .ok (.ifCond .eq 16, 3) := by decide +kernel
theorem dX9_unevenPacks_45 : decode cX9_unevenPacks 45 = .ok (.aload_n 0, 1) := by decide +kernel
theorem dX9_unevenPacks_46 : decode cX9_unevenPacks 46 = .ok (.getfield 11, 3) := by decide +kernel
theorem dX9_unevenPacks_49 : decode cX9_unevenPacks 49 = .ok (.iload 4, 2) := by decide +kernel
theorem dX9_unevenPacks_51 : decode cX9_unevenPacks 51 = .ok (.aaload, 1) := by decide +kernel
theorem dX9_unevenPacks_52 : decode cX9_unevenPacks 52 = .ok (.getfield 85, 3) := by decide +kernel
theorem dX9_unevenPacks_55 : decode cX9_unevenPacks 55 = .ok (.goto 4, 3) := by decide +kernel
theorem dX9_unevenPacks_58 : decode cX9_unevenPacks 58 = .ok (.iconst 0, 1) := by decide +kernel
theorem dX9_unevenPacks_59 : decode cX9_unevenPacks 59 = .ok (.iadd, 1) := by decide +kernel
theorem dX9_unevenPacks_60 : decode cX9_unevenPacks 60 = .ok (.istore_n 3, 1) := by decide +kernel
theorem dX9_unevenPacks_61 : decode cX9_unevenPacks 61 = .ok (.iinc 4 1, 3) := by decide +kernel
theorem dX9_unevenPacks_64 : decode cX9_unevenPacks 64 = .ok (.goto (-39), 3) := by decide +kernel
theorem dX9_unevenPacks_67 : decode cX9_unevenPacks 67 = .ok (.iload_n 1, 1) := by decide +kernel
theorem dX9_unevenPacks_68 : decode cX9_unevenPacks 68 = .ok (.iload_n 3, 1) := by decide +kernel
theorem dX9_unevenPacks_69 : decode cX9_unevenPacks 69 = .ok (.aload_n 0, 1) := by decide +kernel
theorem dX9_unevenPacks_70 : decode cX9_unevenPacks 70 = .ok (.getfield 19, 3) := by decide +kernel
theorem dX9_unevenPacks_73 : decode cX9_unevenPacks 73 = .ok (.iload_n 2, 1) := by decide +kernel
theorem dX9_unevenPacks_74 : decode cX9_unevenPacks 74 = .ok (.aaload, 1) := by decide +kernel
theorem dX9_unevenPacks_75 : decode cX9_unevenPacks 75 = .ok (.getfield 62, 3) := by decide +kernel
theorem dX9_unevenPacks_78 : decode cX9_unevenPacks 78 = .ok (.if_icmp .ne 7, 3) := by decide +kernel
theorem dX9_unevenPacks_81 : decode cX9_unevenPacks 81 = .ok (.iconst 0, 1) := by decide +kernel
theorem dX9_unevenPacks_82 : decode cX9_unevenPacks 82 = .ok (.goto 4, 3) := by decide +kernel
theorem dX9_unevenPacks_85 : decode cX9_unevenPacks 85 = .ok (.iconst 1, 1) := by decide +kernel
theorem dX9_unevenPacks_86 : decode cX9_unevenPacks 86 = .ok (.iadd, 1) := by decide +kernel
theorem dX9_unevenPacks_87 : decode cX9_unevenPacks 87 = .ok (.istore_n 1, 1) := by decide +kernel
theorem dX9_unevenPacks_88 : decode cX9_unevenPacks 88 = .ok (.iinc 2 1, 3) := by decide +kernel
theorem dX9_unevenPacks_91 : decode cX9_unevenPacks 91 = .ok (.goto (-87), 3) := by decide +kernel
theorem dX9_unevenPacks_94 : decode cX9_unevenPacks 94 = .ok (.iload_n 1, 1) := by decide +kernel
theorem dX9_unevenPacks_95 : decode cX9_unevenPacks 95 = .ok (.ireturn, 1) := by decide +kernel
theorem dX10_init_0 : decode cX10_init 0 = .ok (.aload_n 0, 1) := by decide +kernel
theorem dX10_init_1 : decode cX10_init 1 = .ok (.invokespecial 3, 3) := by decide +kernel
theorem dX10_init_4 : decode cX10_init 4 = .ok (.aload_n 0, 1) := by decide +kernel
theorem dX10_init_5 : decode cX10_init 5 = .ok (.sipush 944, 3) := by decide +kernel
theorem dX10_init_8 : decode cX10_init 8 = .ok (.newarray .int, 2) := by decide +kernel
theorem dX10_init_10 : decode cX10_init 10 = .ok (.putfield 11, 3) := by decide +kernel
theorem dX10_init_13 : decode cX10_init 13 = .ok (.aload_n 0, 1) := by decide +kernel
theorem dX10_init_14 : decode cX10_init 14 = .ok (.bipush 50, 2) := by decide +kernel
theorem dX10_init_16 : decode cX10_init 16 = .ok (.putfield 15, 3) := by decide +kernel
theorem dX10_init_19 : decode cX10_init 19 = .ok (.aload_n 0, 1) := by decide +kernel
theorem dX10_init_20 : decode cX10_init 20 = .ok (.aload_n 1, 1) := by decide +kernel
theorem dX10_init_21 : decode cX10_init 21 = .ok (.putfield 19, 3) := by decide +kernel
theorem dX10_init_24 : decode cX10_init 24 = .ok (.aload_n 0, 1) := by decide +kernel
theorem dX10_init_25 : decode cX10_init 25 = .ok (.new 23, 3) := by decide +kernel
theorem dX10_init_28 : decode cX10_init 28 = .ok (.dup, 1) := by decide +kernel
theorem dX10_init_29 : decode cX10_init 29 = .ok (.aload_n 1, 1) := by decide +kernel
theorem dX10_init_30 : decode cX10_init 30 = .ok (.aload_n 2, 1) := by decide +kernel
theorem dX10_init_31 : decode cX10_init 31 = .ok (.invokespecial 25, 3) := by decide +kernel
theorem dX10_init_34 : decode cX10_init 34 = .ok (.putfield 28, 3) := by decide +kernel
theorem dX10_init_37 : decode cX10_init 37 = .ok (.return_, 1) := by decide +kernel
theorem dX10_prepare_0 : decode cX10_prepare 0 = .ok (.aload_n 0, 1) := by decide +kernel
theorem dX10_prepare_1 : decode cX10_prepare 1 = .ok (.dup, 1) := by decide +kernel
theorem dX10_prepare_2 : decode cX10_prepare 2 = .ok (.getfield 32, 3) := by decide +kernel
theorem dX10_prepare_5 : decode cX10_prepare 5 = .ok (.iconst 1, 1) := by decide +kernel
theorem dX10_prepare_6 : decode cX10_prepare 6 = .ok (.iadd, 1) := by decide +kernel
theorem dX10_prepare_7 : decode cX10_prepare 7 = .ok (.putfield 32, 3) := by decide +kernel
theorem dX10_prepare_10 : decode cX10_prepare 10 = .ok (.aload_n 0, 1) := by decide +kernel
theorem dX10_prepare_11 : decode cX10_prepare 11 = .ok (.iconst 1, 1) := by decide +kernel
theorem dX10_prepare_12 : decode cX10_prepare 12 = .ok (.putfield 35, 3) := by decide +kernel
theorem dX10_prepare_15 : decode cX10_prepare 15 = .ok (.aload_n 0, 1) := by decide +kernel
theorem dX10_prepare_16 : decode cX10_prepare 16 = .ok (.iconst 0, 1) := by decide +kernel
theorem dX10_prepare_17 : decode cX10_prepare 17 = .ok (.putfield 38, 3) := by decide +kernel
theorem dX10_prepare_20 : decode cX10_prepare 20 = .ok (.aload_n 0, 1) := by decide +kernel
theorem dX10_prepare_21 : decode cX10_prepare 21 = .ok (.iconst 0, 1) := by decide +kernel
theorem dX10_prepare_22 : decode cX10_prepare 22 = .ok (.putfield 41, 3) := by decide +kernel
theorem dX10_prepare_25 : decode cX10_prepare 25 = .ok (.aload_n 0, 1) := by decide +kernel
theorem dX10_prepare_26 : decode cX10_prepare 26 = .ok (.aload_n 0, 1) := by decide +kernel
theorem dX10_prepare_27 : decode cX10_prepare 27 = .ok (.getfield 19, 3) := by decide +kernel
theorem dX10_prepare_30 : decode cX10_prepare 30 = .ok (.getfield 44, 3) := by decide +kernel
theorem dX10_prepare_33 : decode cX10_prepare 33 = .ok (.putfield 49, 3) := by decide +kernel
theorem dX10_prepare_36 : decode cX10_prepare 36 = .ok (.iconst 0, 1) := by decide +kernel
theorem dX10_prepare_37 : decode cX10_prepare 37 = .ok (.istore_n 1, 1) := by decide +kernel
theorem dX10_prepare_38 : decode cX10_prepare 38 = .ok (.iload_n 1, 1) := by decide +kernel
theorem dX10_prepare_39 : decode cX10_prepare 39 = .ok (.aload_n 0, 1) := by decide +kernel
theorem dX10_prepare_40 : decode cX10_prepare 40 = .ok (.getfield 49, 3) := by decide +kernel
theorem dX10_prepare_43 : decode cX10_prepare 43 = .ok (.if_icmp .ge 22, 3) := by decide +kernel
theorem dX10_prepare_46 : decode cX10_prepare 46 = .ok (.aload_n 0, 1) := by decide +kernel
theorem dX10_prepare_47 : decode cX10_prepare 47 = .ok (.getfield 19, 3) := by decide +kernel
theorem dX10_prepare_50 : decode cX10_prepare 50 = .ok (.getfield 52, 3) := by decide +kernel
theorem dX10_prepare_53 : decode cX10_prepare 53 = .ok (.iload_n 1, 1) := by decide +kernel
theorem dX10_prepare_54 : decode cX10_prepare 54 = .ok (.aaload, 1) := by decide +kernel
theorem dX10_prepare_55 : decode cX10_prepare 55 = .ok (.iconst 0, 1) := by decide +kernel
theorem dX10_prepare_56 : decode cX10_prepare 56 = .ok (.putfield 56, 3) := by decide +kernel
theorem dX10_prepare_59 : decode cX10_prepare 59 = .ok (.iinc 1 1, 3) := by decide +kernel
theorem dX10_prepare_62 : decode cX10_prepare 62 = .ok (.goto (-24), 3) := by decide +kernel
theorem dX10_prepare_65 : decode cX10_prepare 65 = .ok (.return_, 1) := by decide +kernel
theorem dX10_lineUp_0 : decode cX10_lineUp 0 = .ok (.aload_n 0, 1) := by decide +kernel
theorem dX10_lineUp_1 : decode cX10_lineUp 1 = .ok (.getfield 41, 3) := by decide +kernel
theorem dX10_lineUp_4 : decode cX10_lineUp 4 = .ok (.sipush 944, 3) := by decide +kernel
theorem dX10_lineUp_7 : decode cX10_lineUp 7 = .ok (.if_icmp .ge 23, 3) := by decide +kernel
theorem dX10_lineUp_10 : decode cX10_lineUp 10 = .ok (.aload_n 0, 1) := by decide +kernel
theorem dX10_lineUp_11 : decode cX10_lineUp 11 = .ok (.getfield 11, 3) := by decide +kernel
theorem dX10_lineUp_14 : decode cX10_lineUp 14 = .ok (.aload_n 0, 1) := by decide +kernel
theorem dX10_lineUp_15 : decode cX10_lineUp 15 = .ok (.getfield 41, 3) := by decide +kernel
theorem dX10_lineUp_18 : decode cX10_lineUp 18 = .ok (.iload_n 1, 1) := by decide +kernel
theorem dX10_lineUp_19 : decode cX10_lineUp 19 = .ok (.iastore, 1) := by decide +kernel
theorem dX10_lineUp_20 : decode cX10_lineUp 20 = .ok (.aload_n 0, 1) := by decide +kernel
theorem dX10_lineUp_21 : decode cX10_lineUp 21 = .ok (.dup, 1) := by decide +kernel
theorem dX10_lineUp_22 : decode cX10_lineUp 22 = .ok (.getfield 41, 3) := by decide +kernel
theorem dX10_lineUp_25 : decode cX10_lineUp 25 = .ok (.iconst 1, 1) := by decide +kernel
theorem dX10_lineUp_26 : decode cX10_lineUp 26 = .ok (.iadd, 1) := by decide +kernel
theorem dX10_lineUp_27 : decode cX10_lineUp 27 = .ok (.putfield 41, 3) := by decide +kernel
theorem dX10_lineUp_30 : decode cX10_lineUp 30 = .ok (.return_, 1) := by decide +kernel
theorem dX10_lineUpAll_0 : decode cX10_lineUpAll 0 = .ok (.iconst 0, 1) := by decide +kernel
theorem dX10_lineUpAll_1 : decode cX10_lineUpAll 1 = .ok (.istore_n 3, 1) := by decide +kernel
theorem dX10_lineUpAll_2 : decode cX10_lineUpAll 2 = .ok (.iload_n 3, 1) := by decide +kernel
theorem dX10_lineUpAll_3 : decode cX10_lineUpAll 3 = .ok (.iload_n 2, 1) := by decide +kernel
theorem dX10_lineUpAll_4 : decode cX10_lineUpAll 4 = .ok (.if_icmp .ge 16, 3) := by decide +kernel
theorem dX10_lineUpAll_7 : decode cX10_lineUpAll 7 = .ok (.aload_n 0, 1) := by decide +kernel
theorem dX10_lineUpAll_8 : decode cX10_lineUpAll 8 = .ok (.aload_n 1, 1) := by decide +kernel
theorem dX10_lineUpAll_9 : decode cX10_lineUpAll 9 = .ok (.iload_n 3, 1) := by decide +kernel
theorem dX10_lineUpAll_10 : decode cX10_lineUpAll 10 = .ok (.iaload, 1) := by decide +kernel
theorem dX10_lineUpAll_11 : decode cX10_lineUpAll 11 = .ok (.invokevirtual 62, 3) := by decide +kernel
theorem dX10_lineUpAll_14 : decode cX10_lineUpAll 14 = .ok (.iinc 3 1, 3) := by decide +kernel
theorem dX10_lineUpAll_17 : decode cX10_lineUpAll 17 = .ok (.goto (-15), 3) := by decide +kernel
theorem dX10_lineUpAll_20 : decode cX10_lineUpAll 20 = .ok (.return_, 1) := by decide +kernel
theorem dX10_spareReached_0 : decode cX10_spareReached 0 = .ok (.aload_n 0, 1) := by decide +kernel
theorem dX10_spareReached_1 : decode cX10_spareReached 1 = .ok (.getfield 35, 3) := by decide +kernel
theorem dX10_spareReached_4 : decode cX10_spareReached 4 = .ok (.iconst 2, 1) := by decide +kernel
theorem dX10_spareReached_5 : decode cX10_spareReached 5 = .ok (.if_icmp .eq 11, 3) := by decide +kernel
theorem dX10_spareReached_8 : decode cX10_spareReached 8 = .ok (.aload_n 0, 1) := by decide +kernel
theorem dX10_spareReached_9 : decode cX10_spareReached 9 = .ok (.getfield 35, 3) := by decide +kernel
theorem dX10_spareReached_12 : decode cX10_spareReached 12 = .ok (.iconst 3, 1) := by decide +kernel
theorem dX10_spareReached_13 : decode cX10_spareReached 13 = .ok (.if_icmp .ne 13, 3) := by decide +kernel
theorem dX10_spareReached_16 : decode cX10_spareReached 16 = .ok (.aload_n 0, 1) := by decide +kernel
theorem dX10_spareReached_17 : decode cX10_spareReached 17 = .ok (.getfield 19, 3) := by decide +kernel
theorem dX10_spareReached_20 : decode cX10_spareReached 20 = .ok (.invokevirtual 66, 3) := by decide +kernel
theorem dX10_spareReached_23 : decode cX10_spareReached 23 = .ok (.goto 31, 3) := by decide +kernel
theorem dX10_spareReached_26 : decode cX10_spareReached 26 = .ok (.aload_n 0, 1) := by decide +kernel
theorem dX10_spareReached_27 : decode cX10_spareReached 27 = .ok (.getfield 35, 3) := by decide +kernel
theorem dX10_spareReached_30 : decode cX10_spareReached 30 = .ok (.iconst 1, 1) := by decide +kernel
theorem dX10_spareReached_31 : decode cX10_spareReached 31 = .ok (.if_icmp .ne 23, 3) := by decide +kernel
theorem dX10_spareReached_34 : decode cX10_spareReached 34 = .ok (.aload_n 0, 1) := by decide +kernel
theorem dX10_spareReached_35 : decode cX10_spareReached 35 = .ok (.getfield 19, 3) := by decide +kernel
theorem dX10_spareReached_38 : decode cX10_spareReached 38 = .ok (.getfield 52, 3) := by decide +kernel
theorem dX10_spareReached_41 : decode cX10_spareReached 41 = .ok (.iload_n 1, 1) := by decide +kernel
theorem dX10_spareReached_42 : decode cX10_spareReached 42 = .ok (.aaload, 1) := by decide +kernel
theorem dX10_spareReached_43 : decode cX10_spareReached 43 = .ok (.getfield 56, 3) := by decide +kernel
theorem dX10_spareReached_46 : decode cX10_spareReached 46 = .ok (.ifCond .ne 8, 3) := by decide +kernel
theorem dX10_spareReached_49 : decode cX10_spareReached 49 = .ok (.aload_n 0, 1) := by decide +kernel
theorem dX10_spareReached_50 : decode cX10_spareReached 50 = .ok (.iload_n 1, 1) := by decide +kernel
theorem dX10_spareReached_51 : decode cX10_spareReached 51 = .ok (.invokevirtual 62, 3) := by decide +kernel
theorem dX10_spareReached_54 : decode cX10_spareReached 54 = .ok (.return_, 1) := by decide +kernel
theorem dX10_advance_0 : decode cX10_advance 0 = .ok (.iconst 1, 1) := by decide +kernel
theorem dX10_advance_1 : decode cX10_advance 1 = .ok (.istore_n 1, 1) := by decide +kernel
theorem dX10_advance_2 : decode cX10_advance 2 = .ok (.aload_n 0, 1) := by decide +kernel
theorem dX10_advance_3 : decode cX10_advance 3 = .ok (.getfield 35, 3) := by decide +kernel
theorem dX10_advance_6 : decode cX10_advance 6 = .ok (.tableswitch 61 1 4 #[30, 37, 45, 53], 30) := by decide +kernel
theorem dX10_advance_36 : decode cX10_advance 36 = .ok (.aload_n 0, 1) := by decide +kernel
theorem dX10_advance_37 : decode cX10_advance 37 = .ok (.invokevirtual 69, 3) := by decide +kernel
theorem dX10_advance_40 : decode cX10_advance 40 = .ok (.goto 27, 3) := by decide +kernel
theorem dX10_advance_43 : decode cX10_advance 43 = .ok (.aload_n 0, 1) := by decide +kernel
theorem dX10_advance_44 : decode cX10_advance 44 = .ok (.invokevirtual 72, 3) := by decide +kernel
theorem dX10_advance_47 : decode cX10_advance 47 = .ok (.istore_n 1, 1) := by decide +kernel
theorem dX10_advance_48 : decode cX10_advance 48 = .ok (.goto 19, 3) := by decide +kernel
theorem dX10_advance_51 : decode cX10_advance 51 = .ok (.aload_n 0, 1) := by decide +kernel
theorem dX10_advance_52 : decode cX10_advance 52 = .ok (.invokevirtual 76, 3) := by decide +kernel
theorem dX10_advance_55 : decode cX10_advance 55 = .ok (.istore_n 1, 1) := by decide +kernel
theorem dX10_advance_56 : decode cX10_advance 56 = .ok (.goto 11, 3) := by decide +kernel
theorem dX10_advance_59 : decode cX10_advance 59 = .ok (.aload_n 0, 1) := by decide +kernel
theorem dX10_advance_60 : decode cX10_advance 60 = .ok (.invokevirtual 79, 3) := by decide +kernel
theorem dX10_advance_63 : decode cX10_advance 63 = .ok (.istore_n 1, 1) := by decide +kernel
theorem dX10_advance_64 : decode cX10_advance 64 = .ok (.goto 3, 3) := by decide +kernel
theorem dX10_advance_67 : decode cX10_advance 67 = .ok (.aload_n 0, 1) := by decide +kernel
theorem dX10_advance_68 : decode cX10_advance 68 = .ok (.invokevirtual 82, 3) := by decide +kernel
theorem dX10_advance_71 : decode cX10_advance 71 = .ok (.iload_n 1, 1) := by decide +kernel
theorem dX10_advance_72 : decode cX10_advance 72 = .ok (.ireturn, 1) := by decide +kernel
theorem dX10_settle_0 : decode cX10_settle 0 = .ok (.aload_n 0, 1) := by decide +kernel
theorem dX10_settle_1 : decode cX10_settle 1 = .ok (.getfield 35, 3) := by decide +kernel
theorem dX10_settle_4 : decode cX10_settle 4 = .ok (.iconst 1, 1) := by decide +kernel
theorem dX10_settle_5 : decode cX10_settle 5 = .ok (.if_icmp .ne 24, 3) := by decide +kernel
theorem dX10_settle_8 : decode cX10_settle 8 = .ok (.aload_n 0, 1) := by decide +kernel
theorem dX10_settle_9 : decode cX10_settle 9 = .ok (.getfield 38, 3) := by decide +kernel
theorem dX10_settle_12 : decode cX10_settle 12 = .ok (.aload_n 0, 1) := by decide +kernel
theorem dX10_settle_13 : decode cX10_settle 13 = .ok (.getfield 41, 3) := by decide +kernel
theorem dX10_settle_16 : decode cX10_settle 16 = .ok (.if_icmp .lt 13, 3) := by decide +kernel
theorem dX10_settle_19 : decode cX10_settle 19 = .ok (.aload_n 0, 1) := by decide +kernel
theorem dX10_settle_20 : decode cX10_settle 20 = .ok (.iconst 2, 1) := by decide +kernel
theorem dX10_settle_21 : decode cX10_settle 21 = .ok (.putfield 35, 3) := by decide +kernel
theorem dX10_settle_24 : decode cX10_settle 24 = .ok (.aload_n 0, 1) := by decide +kernel
theorem dX10_settle_25 : decode cX10_settle 25 = .ok (.iconst 0, 1) := by decide +kernel
theorem dX10_settle_26 : decode cX10_settle 26 = .ok (.putfield 85, 3) := by decide +kernel
theorem dX10_settle_29 : decode cX10_settle 29 = .ok (.aload_n 0, 1) := by decide +kernel
theorem dX10_settle_30 : decode cX10_settle 30 = .ok (.getfield 35, 3) := by decide +kernel
theorem dX10_settle_33 : decode cX10_settle 33 = .ok (.iconst 2, 1) := by decide +kernel
theorem dX10_settle_34 : decode cX10_settle 34 = .ok (.if_icmp .ne 29, 3) := by decide +kernel
theorem dX10_settle_37 : decode cX10_settle 37 = .ok (.aload_n 0, 1) := by decide +kernel
theorem dX10_settle_38 : decode cX10_settle 38 = .ok (.getfield 85, 3) := by decide +kernel
theorem dX10_settle_41 : decode cX10_settle 41 = .ok (.aload_n 0, 1) := by decide +kernel
theorem dX10_settle_42 : decode cX10_settle 42 = .ok (.getfield 49, 3) := by decide +kernel
theorem dX10_settle_45 : decode cX10_settle 45 = .ok (.if_icmp .lt 18, 3) := by decide +kernel
theorem dX10_settle_48 : decode cX10_settle 48 = .ok (.aload_n 0, 1) := by decide +kernel
theorem dX10_settle_49 : decode cX10_settle 49 = .ok (.iconst 3, 1) := by decide +kernel
theorem dX10_settle_50 : decode cX10_settle 50 = .ok (.putfield 35, 3) := by decide +kernel
theorem dX10_settle_53 : decode cX10_settle 53 = .ok (.aload_n 0, 1) := by decide +kernel
theorem dX10_settle_54 : decode cX10_settle 54 = .ok (.aload_n 0, 1) := by decide +kernel
theorem dX10_settle_55 : decode cX10_settle 55 = .ok (.getfield 49, 3) := by decide +kernel
theorem dX10_settle_58 : decode cX10_settle 58 = .ok (.iconst 1, 1) := by decide +kernel
theorem dX10_settle_59 : decode cX10_settle 59 = .ok (.isub, 1) := by decide +kernel
theorem dX10_settle_60 : decode cX10_settle 60 = .ok (.putfield 85, 3) := by decide +kernel
theorem dX10_settle_63 : decode cX10_settle 63 = .ok (.aload_n 0, 1) := by decide +kernel
theorem dX10_settle_64 : decode cX10_settle 64 = .ok (.getfield 35, 3) := by decide +kernel
theorem dX10_settle_67 : decode cX10_settle 67 = .ok (.iconst 3, 1) := by decide +kernel
theorem dX10_settle_68 : decode cX10_settle 68 = .ok (.if_icmp .ne 31, 3) := by decide +kernel
theorem dX10_settle_71 : decode cX10_settle 71 = .ok (.aload_n 0, 1) := by decide +kernel
theorem dX10_settle_72 : decode cX10_settle 72 = .ok (.getfield 85, 3) := by decide +kernel
theorem dX10_settle_75 : decode cX10_settle 75 = .ok (.ifCond .ge 24, 3) := by decide +kernel
theorem dX10_settle_78 : decode cX10_settle 78 = .ok (.aload_n 0, 1) := by decide +kernel
theorem dX10_settle_79 : decode cX10_settle 79 = .ok (.iconst 4, 1) := by decide +kernel
theorem dX10_settle_80 : decode cX10_settle 80 = .ok (.putfield 35, 3) := by decide +kernel
theorem dX10_settle_83 : decode cX10_settle 83 = .ok (.aload_n 0, 1) := by decide +kernel
theorem dX10_settle_84 : decode cX10_settle 84 = .ok (.iconst 0, 1) := by decide +kernel
theorem dX10_settle_85 : decode cX10_settle 85 = .ok (.putfield 85, 3) := by decide +kernel
theorem dX10_settle_88 : decode cX10_settle 88 = .ok (.aload_n 0, 1) := by decide +kernel
theorem dX10_settle_89 : decode cX10_settle 89 = .ok (.aload_n 0, 1) := by decide +kernel
theorem dX10_settle_90 : decode cX10_settle 90 = .ok (.getfield 19, 3) := by decide +kernel
theorem dX10_settle_93 : decode cX10_settle 93 = .ok (.getfield 88, 3) := by decide +kernel
theorem dX10_settle_96 : decode cX10_settle 96 = .ok (.putfield 91, 3) := by decide +kernel
theorem dX10_settle_99 : decode cX10_settle 99 = .ok (.aload_n 0, 1) := by decide +kernel
theorem dX10_settle_100 : decode cX10_settle 100 = .ok (.getfield 35, 3) := by decide +kernel
theorem dX10_settle_103 : decode cX10_settle 103 = .ok (.iconst 4, 1) := by decide +kernel
theorem dX10_settle_104 : decode cX10_settle 104 = .ok (.if_icmp .ne 19, 3) := by decide +kernel
theorem dX10_settle_107 : decode cX10_settle 107 = .ok (.aload_n 0, 1) := by decide +kernel
theorem dX10_settle_108 : decode cX10_settle 108 = .ok (.getfield 85, 3) := by decide +kernel
theorem dX10_settle_111 : decode cX10_settle 111 = .ok (.aload_n 0, 1) := by decide +kernel
theorem dX10_settle_112 : decode cX10_settle 112 = .ok (.getfield 91, 3) := by decide +kernel
theorem dX10_settle_115 : decode cX10_settle 115 = .ok (.if_icmp .lt 8, 3) := by decide +kernel
theorem dX10_settle_118 : decode cX10_settle 118 = .ok (.aload_n 0, 1) := by decide +kernel
theorem dX10_settle_119 : decode cX10_settle 119 = .ok (.iconst 0, 1) := by decide +kernel
theorem dX10_settle_120 : decode cX10_settle 120 = .ok (.putfield 35, 3) := by decide +kernel
theorem dX10_settle_123 : decode cX10_settle 123 = .ok (.return_, 1) := by decide +kernel
theorem dX10_markFirst_0 : decode cX10_markFirst 0 = .ok (.aload_n 0, 1) := by decide +kernel
theorem dX10_markFirst_1 : decode cX10_markFirst 1 = .ok (.getfield 19, 3) := by decide +kernel
theorem dX10_markFirst_4 : decode cX10_markFirst 4 = .ok (.getfield 52, 3) := by decide +kernel
theorem dX10_markFirst_7 : decode cX10_markFirst 7 = .ok (.aload_n 0, 1) := by decide +kernel
theorem dX10_markFirst_8 : decode cX10_markFirst 8 = .ok (.getfield 11, 3) := by decide +kernel
theorem dX10_markFirst_11 : decode cX10_markFirst 11 = .ok (.aload_n 0, 1) := by decide +kernel
theorem dX10_markFirst_12 : decode cX10_markFirst 12 = .ok (.getfield 38, 3) := by decide +kernel
theorem dX10_markFirst_15 : decode cX10_markFirst 15 = .ok (.iaload, 1) := by decide +kernel
theorem dX10_markFirst_16 : decode cX10_markFirst 16 = .ok (.aaload, 1) := by decide +kernel
theorem dX10_markFirst_17 : decode cX10_markFirst 17 = .ok (.astore_n 1, 1) := by decide +kernel
theorem dX10_markFirst_18 : decode cX10_markFirst 18 = .ok (.aload_n 0, 1) := by decide +kernel
theorem dX10_markFirst_19 : decode cX10_markFirst 19 = .ok (.dup, 1) := by decide +kernel
theorem dX10_markFirst_20 : decode cX10_markFirst 20 = .ok (.getfield 38, 3) := by decide +kernel
theorem dX10_markFirst_23 : decode cX10_markFirst 23 = .ok (.iconst 1, 1) := by decide +kernel
theorem dX10_markFirst_24 : decode cX10_markFirst 24 = .ok (.iadd, 1) := by decide +kernel
theorem dX10_markFirst_25 : decode cX10_markFirst 25 = .ok (.putfield 38, 3) := by decide +kernel
theorem dX10_markFirst_28 : decode cX10_markFirst 28 = .ok (.aload_n 1, 1) := by decide +kernel
theorem dX10_markFirst_29 : decode cX10_markFirst 29 = .ok (.getfield 56, 3) := by decide +kernel
theorem dX10_markFirst_32 : decode cX10_markFirst 32 = .ok (.ifCond .ne 21, 3) := by decide +kernel
theorem dX10_markFirst_35 : decode cX10_markFirst 35 = .ok (.aload_n 1, 1) := by decide +kernel
theorem dX10_markFirst_36 : decode cX10_markFirst 36 = .ok (.iconst 1, 1) := by decide +kernel
theorem dX10_markFirst_37 : decode cX10_markFirst 37 = .ok (.putfield 56, 3) := by decide +kernel
theorem dX10_markFirst_40 : decode cX10_markFirst 40 = .ok (.aload_n 0, 1) := by decide +kernel
theorem dX10_markFirst_41 : decode cX10_markFirst 41 = .ok (.aload_n 1, 1) := by decide +kernel
theorem dX10_markFirst_42 : decode cX10_markFirst 42 = .ok (.getfield 94, 3) := by decide +kernel
theorem dX10_markFirst_45 : decode cX10_markFirst 45 = .ok (.aload_n 1, 1) := by decide +kernel
theorem dX10_markFirst_46 : decode cX10_markFirst 46 = .ok (.getfield 94, 3) := by decide +kernel
theorem dX10_markFirst_49 : decode cX10_markFirst 49 = .ok (.arraylength, 1) := by decide +kernel
theorem dX10_markFirst_50 : decode cX10_markFirst 50 = .ok (.invokevirtual 97, 3) := by decide +kernel
theorem dX10_markFirst_53 : decode cX10_markFirst 53 = .ok (.return_, 1) := by decide +kernel
theorem dX10_clearNext_0 : decode cX10_clearNext 0 = .ok (.aload_n 0, 1) := by decide +kernel
theorem dX10_clearNext_1 : decode cX10_clearNext 1 = .ok (.getfield 85, 3) := by decide +kernel
theorem dX10_clearNext_4 : decode cX10_clearNext 4 = .ok (.istore_n 1, 1) := by decide +kernel
theorem dX10_clearNext_5 : decode cX10_clearNext 5 = .ok (.aload_n 0, 1) := by decide +kernel
theorem dX10_clearNext_6 : decode cX10_clearNext 6 = .ok (.dup, 1) := by decide +kernel
theorem dX10_clearNext_7 : decode cX10_clearNext 7 = .ok (.getfield 85, 3) := by decide +kernel
theorem dX10_clearNext_10 : decode cX10_clearNext 10 = .ok (.iconst 1, 1) := by decide +kernel
theorem dX10_clearNext_11 : decode cX10_clearNext 11 = .ok (.iadd, 1) := by decide +kernel
theorem dX10_clearNext_12 : decode cX10_clearNext 12 = .ok (.putfield 85, 3) := by decide +kernel
theorem dX10_clearNext_15 : decode cX10_clearNext 15 = .ok (.aload_n 0, 1) := by decide +kernel
theorem dX10_clearNext_16 : decode cX10_clearNext 16 = .ok (.getfield 19, 3) := by decide +kernel
theorem dX10_clearNext_19 : decode cX10_clearNext 19 = .ok (.getfield 52, 3) := by decide +kernel
theorem dX10_clearNext_22 : decode cX10_clearNext 22 = .ok (.iload_n 1, 1) := by decide +kernel
theorem dX10_clearNext_23 : decode cX10_clearNext 23 = .ok (.aaload, 1) := by decide +kernel
theorem dX10_clearNext_24 : decode cX10_clearNext 24 = .ok (.astore_n 2, 1) := by decide +kernel
theorem dX10_clearNext_25 : decode cX10_clearNext 25 = .ok (.aload_n 2, 1) := by decide +kernel
theorem dX10_clearNext_26 : decode cX10_clearNext 26 = .ok (.getfield 56, 3) := by decide +kernel
theorem dX10_clearNext_29 : decode cX10_clearNext 29 = .ok (.ifCond .eq 22, 3) := by decide +kernel
theorem dX10_clearNext_32 : decode cX10_clearNext 32 = .ok (.aload_n 2, 1) := by decide +kernel
theorem dX10_clearNext_33 : decode cX10_clearNext 33 = .ok (.getfield 101, 3) := by decide +kernel
theorem dX10_clearNext_36 : decode cX10_clearNext 36 = .ok (.ifCond .eq 15, 3) := by decide +kernel
theorem dX10_clearNext_39 : decode cX10_clearNext 39 = .ok (.aload_n 0, 1) := by decide +kernel
theorem dX10_clearNext_40 : decode cX10_clearNext 40 = .ok (.getfield 19, 3) := by decide +kernel
theorem dX10_clearNext_43 : decode cX10_clearNext 43 = .ok (.iload_n 1, 1) := by decide +kernel
theorem dX10_clearNext_44 : decode cX10_clearNext 44 = .ok (.iconst 0, 1) := by decide +kernel
theorem dX10_clearNext_45 : decode cX10_clearNext 45 = .ok (.invokevirtual 104, 3) := by decide +kernel
theorem dX10_clearNext_48 : decode cX10_clearNext 48 = .ok (.ifCond .eq 7, 3) := by decide +kernel
theorem dX10_clearNext_51 : decode cX10_clearNext 51 = .ok (.iconst 1, 1) := by decide +kernel
theorem dX10_clearNext_52 : decode cX10_clearNext 52 = .ok (.goto 4, 3) := by decide +kernel
theorem dX10_clearNext_55 : decode cX10_clearNext 55 = .ok (.iconst 0, 1) := by decide +kernel
theorem dX10_clearNext_56 : decode cX10_clearNext 56 = .ok (.ireturn, 1) := by decide +kernel
theorem dX10_chooseNext_0 : decode cX10_chooseNext 0 = .ok (.aload_n 0, 1) := by decide +kernel
theorem dX10_chooseNext_1 : decode cX10_chooseNext 1 = .ok (.getfield 85, 3) := by decide +kernel
theorem dX10_chooseNext_4 : decode cX10_chooseNext 4 = .ok (.istore_n 1, 1) := by decide +kernel
theorem dX10_chooseNext_5 : decode cX10_chooseNext 5 = .ok (.aload_n 0, 1) := by decide +kernel
theorem dX10_chooseNext_6 : decode cX10_chooseNext 6 = .ok (.dup, 1) := by decide +kernel
theorem dX10_chooseNext_7 : decode cX10_chooseNext 7 = .ok (.getfield 85, 3) := by decide +kernel
theorem dX10_chooseNext_10 : decode cX10_chooseNext 10 = .ok (.iconst 1, 1) := by decide +kernel
theorem dX10_chooseNext_11 : decode cX10_chooseNext 11 = .ok (.isub, 1) := by decide +kernel
theorem dX10_chooseNext_12 : decode cX10_chooseNext 12 = .ok (.putfield 85, 3) := by decide +kernel
theorem dX10_chooseNext_15 : decode cX10_chooseNext 15 = .ok (.aload_n 0, 1) := by decide +kernel
theorem dX10_chooseNext_16 : decode cX10_chooseNext 16 = .ok (.getfield 19, 3) := by decide +kernel
theorem dX10_chooseNext_19 : decode cX10_chooseNext 19 = .ok (.getfield 52, 3) := by decide +kernel
theorem dX10_chooseNext_22 : decode cX10_chooseNext 22 = .ok (.iload_n 1, 1) := by decide +kernel
theorem dX10_chooseNext_23 : decode cX10_chooseNext 23 = .ok (.aaload, 1) := by decide +kernel
theorem dX10_chooseNext_24 : decode cX10_chooseNext 24 = .ok (.astore_n 2, 1) := by decide +kernel
theorem dX10_chooseNext_25 : decode cX10_chooseNext 25 = .ok (.aload_n 2, 1) := by decide +kernel
theorem dX10_chooseNext_26 : decode cX10_chooseNext 26 = .ok (.getfield 108, 3) := by decide +kernel
theorem dX10_chooseNext_29 : decode cX10_chooseNext 29 = .ok (.ifCond .ne 10, 3) := by decide +kernel
theorem dX10_chooseNext_32 : decode cX10_chooseNext 32 = .ok (.aload_n 2, 1) := by decide +kernel
theorem dX10_chooseNext_33 : decode cX10_chooseNext 33 = .ok (.getfield 56, 3) := by decide +kernel
theorem dX10_chooseNext_36 : decode cX10_chooseNext 36 = .ok (.ifCond .eq 5, 3) := by decide +kernel
theorem dX10_chooseNext_39 : decode cX10_chooseNext 39 = .ok (.iconst 1, 1) := by decide +kernel
theorem dX10_chooseNext_40 : decode cX10_chooseNext 40 = .ok (.ireturn, 1) := by decide +kernel
theorem dX10_chooseNext_41 : decode cX10_chooseNext 41 = .ok (.aload_n 2, 1) := by decide +kernel
theorem dX10_chooseNext_42 : decode cX10_chooseNext 42 = .ok (.getfield 101, 3) := by decide +kernel
theorem dX10_chooseNext_45 : decode cX10_chooseNext 45 = .ok (.ifCond .le 14, 3) := by decide +kernel
theorem dX10_chooseNext_48 : decode cX10_chooseNext 48 = .ok (.aload_n 0, 1) := by decide +kernel
theorem dX10_chooseNext_49 : decode cX10_chooseNext 49 = .ok (.getfield 19, 3) := by decide +kernel
theorem dX10_chooseNext_52 : decode cX10_chooseNext 52 = .ok (.iload_n 1, 1) := by decide +kernel
theorem dX10_chooseNext_53 : decode cX10_chooseNext 53 = .ok (.invokevirtual 111, 3) := by decide +kernel
theorem dX10_chooseNext_56 : decode cX10_chooseNext 56 = .ok (.goto 15, 3) := by decide +kernel
theorem dX10_chooseNext_59 : decode cX10_chooseNext 59 = .ok (.aload_n 0, 1) := by decide +kernel
theorem dX10_chooseNext_60 : decode cX10_chooseNext 60 = .ok (.getfield 19, 3) := by decide +kernel
theorem dX10_chooseNext_63 : decode cX10_chooseNext 63 = .ok (.iload_n 1, 1) := by decide +kernel
theorem dX10_chooseNext_64 : decode cX10_chooseNext 64 = .ok (.aload_n 0, 1) := by decide +kernel
theorem dX10_chooseNext_65 : decode cX10_chooseNext 65 = .ok (.getfield 32, 3) := by decide +kernel
theorem dX10_chooseNext_68 : decode cX10_chooseNext 68 = .ok (.invokevirtual 104, 3) := by decide +kernel
theorem dX10_chooseNext_71 : decode cX10_chooseNext 71 = .ok (.ireturn, 1) := by decide +kernel
theorem dX10_packNext_0 : decode cX10_packNext 0 = .ok (.aload_n 0, 1) := by decide +kernel
theorem dX10_packNext_1 : decode cX10_packNext 1 = .ok (.getfield 85, 3) := by decide +kernel
theorem dX10_packNext_4 : decode cX10_packNext 4 = .ok (.istore_n 1, 1) := by decide +kernel
theorem dX10_packNext_5 : decode cX10_packNext 5 = .ok (.aload_n 0, 1) := by decide +kernel
theorem dX10_packNext_6 : decode cX10_packNext 6 = .ok (.dup, 1) := by decide +kernel
theorem dX10_packNext_7 : decode cX10_packNext 7 = .ok (.getfield 85, 3) := by decide +kernel
theorem dX10_packNext_10 : decode cX10_packNext 10 = .ok (.iconst 1, 1) := by decide +kernel
theorem dX10_packNext_11 : decode cX10_packNext 11 = .ok (.iadd, 1) := by decide +kernel
theorem dX10_packNext_12 : decode cX10_packNext 12 = .ok (.putfield 85, 3) := by decide +kernel
theorem dX10_packNext_15 : decode cX10_packNext 15 = .ok (.aload_n 0, 1) := by decide +kernel
theorem dX10_packNext_16 : decode cX10_packNext 16 = .ok (.getfield 28, 3) := by decide +kernel
theorem dX10_packNext_19 : decode cX10_packNext 19 = .ok (.iload_n 1, 1) := by decide +kernel
theorem dX10_packNext_20 : decode cX10_packNext 20 = .ok (.aload_n 0, 1) := by decide +kernel
theorem dX10_packNext_21 : decode cX10_packNext 21 = .ok (.getfield 15, 3) := by decide +kernel
theorem dX10_packNext_24 : decode cX10_packNext 24 = .ok (.invokevirtual 115, 3) := by decide +kernel
theorem dX10_packNext_27 : decode cX10_packNext 27 = .ok (.ifCond .eq 14, 3) := by decide +kernel
theorem dX10_packNext_30 : decode cX10_packNext 30 = .ok (.aload_n 0, 1) := by decide +kernel
theorem dX10_packNext_31 : decode cX10_packNext 31 = .ok (.getfield 28, 3) := by decide +kernel
theorem dX10_packNext_34 : decode cX10_packNext 34 = .ok (.iload_n 1, 1) := by decide +kernel
theorem dX10_packNext_35 : decode cX10_packNext 35 = .ok (.invokevirtual 118, 3) := by decide +kernel
theorem dX10_packNext_38 : decode cX10_packNext 38 = .ok (.ifCond .eq 7, 3) := by decide +kernel
theorem dX10_packNext_41 : decode cX10_packNext 41 = .ok (.iconst 1, 1) := by decide +kernel
theorem dX10_packNext_42 : decode cX10_packNext 42 = .ok (.goto 4, 3) := by decide +kernel
theorem dX10_packNext_45 : decode cX10_packNext 45 = .ok (.iconst 0, 1) := by decide +kernel
theorem dX10_packNext_46 : decode cX10_packNext 46 = .ok (.ireturn, 1) := by decide +kernel
