theorem dX11_init_0 : decode cX11_init 0 = .ok (.aload_n 0, 1) := by decide +kernel
theorem dX11_init_1 : decode cX11_init 1 = .ok (.invokespecial 1, 3) := by decide +kernel
theorem dX11_init_4 : decode cX11_init 4 = .ok (.aload_n 0, 1) := by decide +kernel
theorem dX11_init_5 : decode cX11_init 5 = .ok (.new 7, 3) := by decide +kernel
theorem dX11_init_8 : decode cX11_init 8 = .ok (.dup, 1) := by decide +kernel
theorem dX11_init_9 : decode cX11_init 9 = .ok (.invokespecial 9, 3) := by decide +kernel
theorem dX11_init_12 : decode cX11_init 12 = .ok (.putfield 10, 3) := by decide +kernel
theorem dX11_init_15 : decode cX11_init 15 = .ok (.aload_n 0, 1) := by decide +kernel
theorem dX11_init_16 : decode cX11_init 16 = .ok (.new 16, 3) := by decide +kernel
theorem dX11_init_19 : decode cX11_init 19 = .ok (.dup, 1) := by decide +kernel
theorem dX11_init_20 : decode cX11_init 20 = .ok (.bipush 20, 2) := by decide +kernel
theorem dX11_init_22 : decode cX11_init 22 = .ok (.sipush 1000, 3) := by decide +kernel
theorem dX11_init_25 : decode cX11_init 25 = .ok (.iload_n 1, 1) := by decide +kernel
theorem dX11_init_26 : decode cX11_init 26 = .ok (.invokestatic 18, 3) := by decide +kernel
theorem dX11_init_29 : decode cX11_init 29 = .ok (.invokestatic 24, 3) := by decide +kernel
theorem dX11_init_32 : decode cX11_init 32 = .ok (.aload_n 0, 1) := by decide +kernel
theorem dX11_init_33 : decode cX11_init 33 = .ok (.getfield 10, 3) := by decide +kernel
theorem dX11_init_36 : decode cX11_init 36 = .ok (.invokespecial 27, 3) := by decide +kernel
theorem dX11_init_39 : decode cX11_init 39 = .ok (.putfield 30, 3) := by decide +kernel
theorem dX11_init_42 : decode cX11_init 42 = .ok (.aload_n 0, 1) := by decide +kernel
theorem dX11_init_43 : decode cX11_init 43 = .ok (.new 34, 3) := by decide +kernel
theorem dX11_init_46 : decode cX11_init 46 = .ok (.dup, 1) := by decide +kernel
theorem dX11_init_47 : decode cX11_init 47 = .ok (.aload_n 0, 1) := by decide +kernel
theorem dX11_init_48 : decode cX11_init 48 = .ok (.getfield 30, 3) := by decide +kernel
theorem dX11_init_51 : decode cX11_init 51 = .ok (.aload_n 0, 1) := by decide +kernel
theorem dX11_init_52 : decode cX11_init 52 = .ok (.getfield 10, 3) := by decide +kernel
theorem dX11_init_55 : decode cX11_init 55 = .ok (.invokespecial 36, 3) := by decide +kernel
theorem dX11_init_58 : decode cX11_init 58 = .ok (.putfield 39, 3) := by decide +kernel
theorem dX11_init_61 : decode cX11_init 61 = .ok (.aload_n 0, 1) := by decide +kernel
theorem dX11_init_62 : decode cX11_init 62 = .ok (.new 43, 3) := by decide +kernel
theorem dX11_init_65 : decode cX11_init 65 = .ok (.dup, 1) := by decide +kernel
theorem dX11_init_66 : decode cX11_init 66 = .ok (.invokespecial 45, 3) := by decide +kernel
theorem dX11_init_69 : decode cX11_init 69 = .ok (.putfield 46, 3) := by decide +kernel
theorem dX11_init_72 : decode cX11_init 72 = .ok (.aload_n 0, 1) := by decide +kernel
theorem dX11_init_73 : decode cX11_init 73 = .ok (.iconst 4, 1) := by decide +kernel
theorem dX11_init_74 : decode cX11_init 74 = .ok (.anewarray 50, 3) := by decide +kernel
theorem dX11_init_77 : decode cX11_init 77 = .ok (.putfield 52, 3) := by decide +kernel
theorem dX11_init_80 : decode cX11_init 80 = .ok (.iconst 0, 1) := by decide +kernel
theorem dX11_init_81 : decode cX11_init 81 = .ok (.istore_n 2, 1) := by decide +kernel
theorem dX11_init_82 : decode cX11_init 82 = .ok (.iload_n 2, 1) := by decide +kernel
theorem dX11_init_83 : decode cX11_init 83 = .ok (.iconst 4, 1) := by decide +kernel
theorem dX11_init_84 : decode cX11_init 84 = .ok (.if_icmp .ge 22, 3) := by decide +kernel
theorem dX11_init_87 : decode cX11_init 87 = .ok (.aload_n 0, 1) := by decide +kernel
theorem dX11_init_88 : decode cX11_init 88 = .ok (.getfield 52, 3) := by decide +kernel
theorem dX11_init_91 : decode cX11_init 91 = .ok (.iload_n 2, 1) := by decide +kernel
theorem dX11_init_92 : decode cX11_init 92 = .ok (.new 50, 3) := by decide +kernel
theorem dX11_init_95 : decode cX11_init 95 = .ok (.dup, 1) := by decide +kernel
theorem dX11_init_96 : decode cX11_init 96 = .ok (.invokespecial 56, 3) := by decide +kernel
theorem dX11_init_99 : decode cX11_init 99 = .ok (.aastore, 1) := by decide +kernel
theorem dX11_init_100 : decode cX11_init 100 = .ok (.iinc 2 1, 3) := by decide +kernel
theorem dX11_init_103 : decode cX11_init 103 = .ok (.goto (-21), 3) := by decide +kernel
theorem dX11_init_106 : decode cX11_init 106 = .ok (.aload_n 0, 1) := by decide +kernel
theorem dX11_init_107 : decode cX11_init 107 = .ok (.bipush 40, 2) := by decide +kernel
theorem dX11_init_109 : decode cX11_init 109 = .ok (.anewarray 57, 3) := by decide +kernel
theorem dX11_init_112 : decode cX11_init 112 = .ok (.putfield 59, 3) := by decide +kernel
theorem dX11_init_115 : decode cX11_init 115 = .ok (.aload_n 0, 1) := by decide +kernel
theorem dX11_init_116 : decode cX11_init 116 = .ok (.iconst 2, 1) := by decide +kernel
theorem dX11_init_117 : decode cX11_init 117 = .ok (.anewarray 63, 3) := by decide +kernel
theorem dX11_init_120 : decode cX11_init 120 = .ok (.putfield 65, 3) := by decide +kernel
theorem dX11_init_123 : decode cX11_init 123 = .ok (.iconst 0, 1) := by decide +kernel
theorem dX11_init_124 : decode cX11_init 124 = .ok (.istore_n 2, 1) := by decide +kernel
theorem dX11_init_125 : decode cX11_init 125 = .ok (.iload_n 2, 1) := by decide +kernel
theorem dX11_init_126 : decode cX11_init 126 = .ok (.iconst 2, 1) := by decide +kernel
theorem dX11_init_127 : decode cX11_init 127 = .ok (.if_icmp .ge 22, 3) := by decide +kernel
theorem dX11_init_130 : decode cX11_init 130 = .ok (.aload_n 0, 1) := by decide +kernel
theorem dX11_init_131 : decode cX11_init 131 = .ok (.getfield 65, 3) := by decide +kernel
theorem dX11_init_134 : decode cX11_init 134 = .ok (.iload_n 2, 1) := by decide +kernel
theorem dX11_init_135 : decode cX11_init 135 = .ok (.new 63, 3) := by decide +kernel
theorem dX11_init_138 : decode cX11_init 138 = .ok (.dup, 1) := by decide +kernel
theorem dX11_init_139 : decode cX11_init 139 = .ok (.invokespecial 69, 3) := by decide +kernel
theorem dX11_init_142 : decode cX11_init 142 = .ok (.aastore, 1) := by decide +kernel
theorem dX11_init_143 : decode cX11_init 143 = .ok (.iinc 2 1, 3) := by decide +kernel
theorem dX11_init_146 : decode cX11_init 146 = .ok (.goto (-21), 3) := by decide +kernel
theorem dX11_init_149 : decode cX11_init 149 = .ok (.aload_n 0, 1) := by decide +kernel
theorem dX11_init_150 : decode cX11_init 150 = .ok (.new 63, 3) := by decide +kernel
theorem dX11_init_153 : decode cX11_init 153 = .ok (.dup, 1) := by decide +kernel
theorem dX11_init_154 : decode cX11_init 154 = .ok (.invokespecial 69, 3) := by decide +kernel
theorem dX11_init_157 : decode cX11_init 157 = .ok (.putfield 70, 3) := by decide +kernel
theorem dX11_init_160 : decode cX11_init 160 = .ok (.aload_n 0, 1) := by decide +kernel
theorem dX11_init_161 : decode cX11_init 161 = .ok (.ldc2_w 74, 3) := by decide +kernel
theorem dX11_init_164 : decode cX11_init 164 = .ok (.putfield 76, 3) := by decide +kernel
theorem dX11_init_167 : decode cX11_init 167 = .ok (.return_, 1) := by decide +kernel
theorem dX11_at_0 : decode cX11_at 0 = .ok (.aload_n 0, 1) := by decide +kernel
theorem dX11_at_1 : decode cX11_at 1 = .ok (.getfield 10, 3) := by decide +kernel
theorem dX11_at_4 : decode cX11_at 4 = .ok (.getfield 80, 3) := by decide +kernel
theorem dX11_at_7 : decode cX11_at 7 = .ok (.ifCond .eq 6, 3) := by decide +kernel
theorem dX11_at_10 : decode cX11_at 10 = .ok (.bipush (-106), 2) := by decide +kernel
theorem dX11_at_12 : decode cX11_at 12 = .ok (.ireturn, 1) := by decide +kernel
theorem dX11_at_13 : decode cX11_at 13 = .ok (.lload_n 1, 1) := by decide +kernel
theorem dX11_at_14 : decode cX11_at 14 = .ok (.aload_n 0, 1) := by decide +kernel
theorem dX11_at_15 : decode cX11_at 15 = .ok (.getfield 76, 3) := by decide +kernel
theorem dX11_at_18 : decode cX11_at 18 = .ok (.lcmp, 1) := by decide +kernel
theorem dX11_at_19 : decode cX11_at 19 = .ok (.ifCond .lt 11, 3) := by decide +kernel
theorem dX11_at_22 : decode cX11_at 22 = .ok (.lload_n 1, 1) := by decide +kernel
theorem dX11_at_23 : decode cX11_at 23 = .ok (.ldc2_w 84, 3) := by decide +kernel
theorem dX11_at_26 : decode cX11_at 26 = .ok (.lcmp, 1) := by decide +kernel
theorem dX11_at_27 : decode cX11_at 27 = .ok (.ifCond .le 6, 3) := by decide +kernel
theorem dX11_at_30 : decode cX11_at 30 = .ok (.bipush (-102), 2) := by decide +kernel
theorem dX11_at_32 : decode cX11_at 32 = .ok (.ireturn, 1) := by decide +kernel
theorem dX11_at_33 : decode cX11_at 33 = .ok (.aload_n 0, 1) := by decide +kernel
theorem dX11_at_34 : decode cX11_at 34 = .ok (.lload_n 1, 1) := by decide +kernel
theorem dX11_at_35 : decode cX11_at 35 = .ok (.putfield 76, 3) := by decide +kernel
theorem dX11_at_38 : decode cX11_at 38 = .ok (.iconst 1, 1) := by decide +kernel
theorem dX11_at_39 : decode cX11_at 39 = .ok (.ireturn, 1) := by decide +kernel
theorem dX11_begin_0 : decode cX11_begin 0 = .ok (.aload_n 0, 1) := by decide +kernel
theorem dX11_begin_1 : decode cX11_begin 1 = .ok (.getfield 10, 3) := by decide +kernel
theorem dX11_begin_4 : decode cX11_begin 4 = .ok (.getfield 80, 3) := by decide +kernel
theorem dX11_begin_7 : decode cX11_begin 7 = .ok (.ifCond .eq 6, 3) := by decide +kernel
theorem dX11_begin_10 : decode cX11_begin 10 = .ok (.bipush (-106), 2) := by decide +kernel
theorem dX11_begin_12 : decode cX11_begin 12 = .ok (.ireturn, 1) := by decide +kernel
theorem dX11_begin_13 : decode cX11_begin 13 = .ok (.iload_n 1, 1) := by decide +kernel
theorem dX11_begin_14 : decode cX11_begin 14 = .ok (.iconst 1, 1) := by decide +kernel
theorem dX11_begin_15 : decode cX11_begin 15 = .ok (.if_icmp .lt 9, 3) := by decide +kernel
theorem dX11_begin_18 : decode cX11_begin 18 = .ok (.iload_n 1, 1) := by decide +kernel
theorem dX11_begin_19 : decode cX11_begin 19 = .ok (.ldc 86, 2) := by decide +kernel
theorem dX11_begin_21 : decode cX11_begin 21 = .ok (.if_icmp .le 6, 3) := by decide +kernel
theorem dX11_begin_24 : decode cX11_begin 24 = .ok (.bipush (-102), 2) := by decide +kernel
theorem dX11_begin_26 : decode cX11_begin 26 = .ok (.ireturn, 1) := by decide +kernel
theorem dX11_begin_27 : decode cX11_begin 27 = .ok (.iconst 0, 1) := by decide +kernel
theorem dX11_begin_28 : decode cX11_begin 28 = .ok (.istore_n 2, 1) := by decide +kernel
theorem dX11_begin_29 : decode cX11_begin 29 = .ok (.iload_n 2, 1) := by decide +kernel
theorem dX11_begin_30 : decode cX11_begin 30 = .ok (.iconst 4, 1) := by decide +kernel
theorem dX11_begin_31 : decode cX11_begin 31 = .ok (.if_icmp .ge 37, 3) := by decide +kernel
theorem dX11_begin_34 : decode cX11_begin 34 = .ok (.aload_n 0, 1) := by decide +kernel
theorem dX11_begin_35 : decode cX11_begin 35 = .ok (.getfield 52, 3) := by decide +kernel
theorem dX11_begin_38 : decode cX11_begin 38 = .ok (.iload_n 2, 1) := by decide +kernel
theorem dX11_begin_39 : decode cX11_begin 39 = .ok (.aaload, 1) := by decide +kernel
theorem dX11_begin_40 : decode cX11_begin 40 = .ok (.getfield 87, 3) := by decide +kernel
theorem dX11_begin_43 : decode cX11_begin 43 = .ok (.ifCond .ne 19, 3) := by decide +kernel
theorem dX11_begin_46 : decode cX11_begin 46 = .ok (.aload_n 0, 1) := by decide +kernel
theorem dX11_begin_47 : decode cX11_begin 47 = .ok (.getfield 52, 3) := by decide +kernel
theorem dX11_begin_50 : decode cX11_begin 50 = .ok (.iload_n 2, 1) := by decide +kernel
theorem dX11_begin_51 : decode cX11_begin 51 = .ok (.aaload, 1) := by decide +kernel
theorem dX11_begin_52 : decode cX11_begin 52 = .ok (.iload_n 1, 1) := by decide +kernel
theorem dX11_begin_53 : decode cX11_begin 53 = .ok (.aload_n 0, 1) := by decide +kernel
theorem dX11_begin_54 : decode cX11_begin 54 = .ok (.getfield 76, 3) := by decide +kernel
theorem dX11_begin_57 : decode cX11_begin 57 = .ok (.invokevirtual 90, 3) := by decide +kernel
theorem dX11_begin_60 : decode cX11_begin 60 = .ok (.iload_n 2, 1) := by decide +kernel
theorem dX11_begin_61 : decode cX11_begin 61 = .ok (.ireturn, 1) := by decide +kernel
theorem dX11_begin_62 : decode cX11_begin 62 = .ok (.iinc 2 1, 3) := by decide +kernel
theorem dX11_begin_65 : decode cX11_begin 65 = .ok (.goto (-36), 3) := by decide +kernel
theorem dX11_begin_68 : decode cX11_begin 68 = .ok (.bipush (-104), 2) := by decide +kernel
theorem dX11_begin_70 : decode cX11_begin 70 = .ok (.ireturn, 1) := by decide +kernel
theorem dX11_child_0 : decode cX11_child 0 = .ok (.aload_n 0, 1) := by decide +kernel
theorem dX11_child_1 : decode cX11_child 1 = .ok (.getfield 10, 3) := by decide +kernel
theorem dX11_child_4 : decode cX11_child 4 = .ok (.getfield 80, 3) := by decide +kernel
theorem dX11_child_7 : decode cX11_child 7 = .ok (.ifCond .eq 6, 3) := by decide +kernel
theorem dX11_child_10 : decode cX11_child 10 = .ok (.bipush (-106), 2) := by decide +kernel
theorem dX11_child_12 : decode cX11_child 12 = .ok (.ireturn, 1) := by decide +kernel
theorem dX11_child_13 : decode cX11_child 13 = .ok (.aload_n 0, 1) := by decide +kernel
theorem dX11_child_14 : decode cX11_child 14 = .ok (.iload_n 1, 1) := by decide +kernel
theorem dX11_child_15 : decode cX11_child 15 = .ok (.invokevirtual 94, 3) := by decide +kernel
theorem dX11_child_18 : decode cX11_child 18 = .ok (.astore_n 3, 1) := by decide +kernel
theorem dX11_child_19 : decode cX11_child 19 = .ok (.aload_n 3, 1) := by decide +kernel
theorem dX11_child_20 : decode cX11_child 20 = .ok (.ifnull 14, 3) := by decide +kernel
theorem dX11_child_23 : decode cX11_child 23 = .ok (.aload_n 0, 1) := by decide +kernel
theorem dX11_child_24 : decode cX11_child 24 = .ok (.getfield 30, 3) := by decide +kernel
theorem dX11_child_27 : decode cX11_child 27 = .ok (.iload_n 2, 1) := by decide +kernel
theorem dX11_child_28 : decode cX11_child 28 = .ok (.invokevirtual 98, 3) := by decide +kernel
theorem dX11_child_31 : decode cX11_child 31 = .ok (.ifCond .ne 6, 3) := by decide +kernel
theorem dX11_child_34 : decode cX11_child 34 = .ok (.bipush (-101), 2) := by decide +kernel
theorem dX11_child_36 : decode cX11_child 36 = .ok (.ireturn, 1) := by decide +kernel
theorem dX11_child_37 : decode cX11_child 37 = .ok (.aload_n 3, 1) := by decide +kernel
theorem dX11_child_38 : decode cX11_child 38 = .ok (.aload_n 0, 1) := by decide +kernel
theorem dX11_child_39 : decode cX11_child 39 = .ok (.getfield 76, 3) := by decide +kernel
theorem dX11_child_42 : decode cX11_child 42 = .ok (.invokevirtual 102, 3) := by decide +kernel
theorem dX11_child_45 : decode cX11_child 45 = .ok (.ifCond .ne 11, 3) := by decide +kernel
theorem dX11_child_48 : decode cX11_child 48 = .ok (.aload_n 3, 1) := by decide +kernel
theorem dX11_child_49 : decode cX11_child 49 = .ok (.iload_n 2, 1) := by decide +kernel
theorem dX11_child_50 : decode cX11_child 50 = .ok (.invokevirtual 106, 3) := by decide +kernel
theorem dX11_child_53 : decode cX11_child 53 = .ok (.ifCond .ne 6, 3) := by decide +kernel
theorem dX11_child_56 : decode cX11_child 56 = .ok (.bipush (-103), 2) := by decide +kernel
theorem dX11_child_58 : decode cX11_child 58 = .ok (.ireturn, 1) := by decide +kernel
theorem dX11_child_59 : decode cX11_child 59 = .ok (.aload_n 3, 1) := by decide +kernel
theorem dX11_child_60 : decode cX11_child 60 = .ok (.iload_n 2, 1) := by decide +kernel
theorem dX11_child_61 : decode cX11_child 61 = .ok (.invokevirtual 109, 3) := by decide +kernel
theorem dX11_child_64 : decode cX11_child 64 = .ok (.ifCond .eq 10, 3) := by decide +kernel
theorem dX11_child_67 : decode cX11_child 67 = .ok (.aload_n 3, 1) := by decide +kernel
theorem dX11_child_68 : decode cX11_child 68 = .ok (.getfield 112, 3) := by decide +kernel
theorem dX11_child_71 : decode cX11_child 71 = .ok (.goto 5, 3) := by decide +kernel
theorem dX11_child_74 : decode cX11_child 74 = .ok (.bipush (-104), 2) := by decide +kernel
theorem dX11_child_76 : decode cX11_child 76 = .ok (.ireturn, 1) := by decide +kernel
theorem dX11_save_0 : decode cX11_save 0 = .ok (.aload_n 0, 1) := by decide +kernel
theorem dX11_save_1 : decode cX11_save 1 = .ok (.getfield 10, 3) := by decide +kernel
theorem dX11_save_4 : decode cX11_save 4 = .ok (.getfield 80, 3) := by decide +kernel
theorem dX11_save_7 : decode cX11_save 7 = .ok (.ifCond .eq 6, 3) := by decide +kernel
theorem dX11_save_10 : decode cX11_save 10 = .ok (.bipush (-106), 2) := by decide +kernel
theorem dX11_save_12 : decode cX11_save 12 = .ok (.ireturn, 1) := by decide +kernel
theorem dX11_save_13 : decode cX11_save 13 = .ok (.aload_n 0, 1) := by decide +kernel
theorem dX11_save_14 : decode cX11_save 14 = .ok (.iload_n 1, 1) := by decide +kernel
theorem dX11_save_15 : decode cX11_save 15 = .ok (.invokevirtual 94, 3) := by decide +kernel
theorem dX11_save_18 : decode cX11_save 18 = .ok (.astore 5, 2) := by decide +kernel
theorem dX11_save_20 : decode cX11_save 20 = .ok (.aload 5, 2) := by decide +kernel
theorem dX11_save_22 : decode cX11_save 22 = .ok (.ifnonnull 6, 3) := by decide +kernel
theorem dX11_save_25 : decode cX11_save 25 = .ok (.bipush (-101), 2) := by decide +kernel
theorem dX11_save_27 : decode cX11_save 27 = .ok (.ireturn, 1) := by decide +kernel
theorem dX11_save_28 : decode cX11_save 28 = .ok (.iload 4, 2) := by decide +kernel
theorem dX11_save_30 : decode cX11_save 30 = .ok (.iconst 1, 1) := by decide +kernel
theorem dX11_save_31 : decode cX11_save 31 = .ok (.if_icmp .lt 15, 3) := by decide +kernel
theorem dX11_save_34 : decode cX11_save 34 = .ok (.iload 4, 2) := by decide +kernel
theorem dX11_save_36 : decode cX11_save 36 = .ok (.aload_n 0, 1) := by decide +kernel
theorem dX11_save_37 : decode cX11_save 37 = .ok (.getfield 30, 3) := by decide +kernel
theorem dX11_save_40 : decode cX11_save 40 = .ok (.getfield 116, 3) := by decide +kernel
theorem dX11_save_43 : decode cX11_save 43 = .ok (.if_icmp .le 6, 3) := by decide +kernel
theorem dX11_save_46 : decode cX11_save 46 = .ok (.bipush (-102), 2) := by decide +kernel
theorem dX11_save_48 : decode cX11_save 48 = .ok (.ireturn, 1) := by decide +kernel
theorem dX11_save_49 : decode cX11_save 49 = .ok (.aload 5, 2) := by decide +kernel
theorem dX11_save_51 : decode cX11_save 51 = .ok (.aload_n 0, 1) := by decide +kernel
theorem dX11_save_52 : decode cX11_save 52 = .ok (.getfield 76, 3) := by decide +kernel
theorem dX11_save_55 : decode cX11_save 55 = .ok (.invokevirtual 102, 3) := by decide +kernel
theorem dX11_save_58 : decode cX11_save 58 = .ok (.ifCond .eq 6, 3) := by decide +kernel
theorem dX11_save_61 : decode cX11_save 61 = .ok (.bipush (-103), 2) := by decide +kernel
theorem dX11_save_63 : decode cX11_save 63 = .ok (.ireturn, 1) := by decide +kernel
theorem dX11_save_64 : decode cX11_save 64 = .ok (.aload_n 0, 1) := by decide +kernel
theorem dX11_save_65 : decode cX11_save 65 = .ok (.getfield 30, 3) := by decide +kernel
theorem dX11_save_68 : decode cX11_save 68 = .ok (.lload_n 2, 1) := by decide +kernel
theorem dX11_save_69 : decode cX11_save 69 = .ok (.iload 4, 2) := by decide +kernel
theorem dX11_save_71 : decode cX11_save 71 = .ok (.aload 5, 2) := by decide +kernel
theorem dX11_save_73 : decode cX11_save 73 = .ok (.getfield 119, 3) := by decide +kernel
theorem dX11_save_76 : decode cX11_save 76 = .ok (.aload 5, 2) := by decide +kernel
theorem dX11_save_78 : decode cX11_save 78 = .ok (.getfield 112, 3) := by decide +kernel
theorem dX11_save_81 : decode cX11_save 81 = .ok (.invokevirtual 123, 3) := by decide +kernel
theorem dX11_save_84 : decode cX11_save 84 = .ok (.istore 6, 2) := by decide +kernel
theorem dX11_save_86 : decode cX11_save 86 = .ok (.iload 6, 2) := by decide +kernel
theorem dX11_save_88 : decode cX11_save 88 = .ok (.iconst (-1), 1) := by decide +kernel
theorem dX11_save_89 : decode cX11_save 89 = .ok (.if_icmp .ne 15, 3) := by decide +kernel
theorem dX11_save_92 : decode cX11_save 92 = .ok (.aload_n 0, 1) := by decide +kernel
theorem dX11_save_93 : decode cX11_save 93 = .ok (.aload 5, 2) := by decide +kernel
theorem dX11_save_95 : decode cX11_save 95 = .ok (.lload_n 2, 1) := by decide +kernel
theorem dX11_save_96 : decode cX11_save 96 = .ok (.iload 4, 2) := by decide +kernel
theorem dX11_save_98 : decode cX11_save 98 = .ok (.invokevirtual 127, 3) := by decide +kernel
theorem dX11_save_101 : decode cX11_save 101 = .ok (.goto 11, 3) := by decide +kernel
theorem dX11_save_104 : decode cX11_save 104 = .ok (.aload_n 0, 1) := by decide +kernel
theorem dX11_save_105 : decode cX11_save 105 = .ok (.aload 5, 2) := by decide +kernel
theorem dX11_save_107 : decode cX11_save 107 = .ok (.iload 6, 2) := by decide +kernel
theorem dX11_save_109 : decode cX11_save 109 = .ok (.invokevirtual 131, 3) := by decide +kernel
theorem dX11_save_112 : decode cX11_save 112 = .ok (.ireturn, 1) := by decide +kernel
theorem dX11_saveNew_0 : decode cX11_saveNew 0 = .ok (.aload_n 1, 1) := by decide +kernel
theorem dX11_saveNew_1 : decode cX11_saveNew 1 = .ok (.getfield 135, 3) := by decide +kernel
theorem dX11_saveNew_4 : decode cX11_saveNew 4 = .ok (.bipush 8, 2) := by decide +kernel
theorem dX11_saveNew_6 : decode cX11_saveNew 6 = .ok (.if_icmp .ge 15, 3) := by decide +kernel
theorem dX11_saveNew_9 : decode cX11_saveNew 9 = .ok (.aload_n 0, 1) := by decide +kernel
theorem dX11_saveNew_10 : decode cX11_saveNew 10 = .ok (.getfield 30, 3) := by decide +kernel
theorem dX11_saveNew_13 : decode cX11_saveNew 13 = .ok (.iload 4, 2) := by decide +kernel
theorem dX11_saveNew_15 : decode cX11_saveNew 15 = .ok (.invokevirtual 138, 3) := by decide +kernel
theorem dX11_saveNew_18 : decode cX11_saveNew 18 = .ok (.ifCond .ne 6, 3) := by decide +kernel
theorem dX11_saveNew_21 : decode cX11_saveNew 21 = .ok (.bipush (-104), 2) := by decide +kernel
theorem dX11_saveNew_23 : decode cX11_saveNew 23 = .ok (.ireturn, 1) := by decide +kernel
theorem dX11_saveNew_24 : decode cX11_saveNew 24 = .ok (.aload_n 0, 1) := by decide +kernel
theorem dX11_saveNew_25 : decode cX11_saveNew 25 = .ok (.getfield 30, 3) := by decide +kernel
theorem dX11_saveNew_28 : decode cX11_saveNew 28 = .ok (.lload_n 2, 1) := by decide +kernel
theorem dX11_saveNew_29 : decode cX11_saveNew 29 = .ok (.iload 4, 2) := by decide +kernel
theorem dX11_saveNew_31 : decode cX11_saveNew 31 = .ok (.aload_n 1, 1) := by decide +kernel
theorem dX11_saveNew_32 : decode cX11_saveNew 32 = .ok (.getfield 119, 3) := by decide +kernel
theorem dX11_saveNew_35 : decode cX11_saveNew 35 = .ok (.aload_n 1, 1) := by decide +kernel
theorem dX11_saveNew_36 : decode cX11_saveNew 36 = .ok (.getfield 112, 3) := by decide +kernel
theorem dX11_saveNew_39 : decode cX11_saveNew 39 = .ok (.invokestatic 141, 3) := by decide +kernel
theorem dX11_saveNew_42 : decode cX11_saveNew 42 = .ok (.invokevirtual 147, 3) := by decide +kernel
theorem dX11_saveNew_45 : decode cX11_saveNew 45 = .ok (.istore 5, 2) := by decide +kernel
theorem dX11_saveNew_47 : decode cX11_saveNew 47 = .ok (.iload 5, 2) := by decide +kernel
theorem dX11_saveNew_49 : decode cX11_saveNew 49 = .ok (.bipush (-105), 2) := by decide +kernel
theorem dX11_saveNew_51 : decode cX11_saveNew 51 = .ok (.if_icmp .ne 8, 3) := by decide +kernel
theorem dX11_saveNew_54 : decode cX11_saveNew 54 = .ok (.aload_n 0, 1) := by decide +kernel
theorem dX11_saveNew_55 : decode cX11_saveNew 55 = .ok (.invokevirtual 151, 3) := by decide +kernel
theorem dX11_saveNew_58 : decode cX11_saveNew 58 = .ok (.ireturn, 1) := by decide +kernel
theorem dX11_saveNew_59 : decode cX11_saveNew 59 = .ok (.aload_n 1, 1) := by decide +kernel
theorem dX11_saveNew_60 : decode cX11_saveNew 60 = .ok (.iload 5, 2) := by decide +kernel
theorem dX11_saveNew_62 : decode cX11_saveNew 62 = .ok (.invokevirtual 155, 3) := by decide +kernel
theorem dX11_saveNew_65 : decode cX11_saveNew 65 = .ok (.aload_n 1, 1) := by decide +kernel
theorem dX11_saveNew_66 : decode cX11_saveNew 66 = .ok (.iconst 0, 1) := by decide +kernel
theorem dX11_saveNew_67 : decode cX11_saveNew 67 = .ok (.putfield 112, 3) := by decide +kernel
theorem dX11_saveNew_70 : decode cX11_saveNew 70 = .ok (.iload 5, 2) := by decide +kernel
theorem dX11_saveNew_72 : decode cX11_saveNew 72 = .ok (.ireturn, 1) := by decide +kernel
theorem dX11_saveFound_0 : decode cX11_saveFound 0 = .ok (.aload_n 1, 1) := by decide +kernel
theorem dX11_saveFound_1 : decode cX11_saveFound 1 = .ok (.iload_n 2, 1) := by decide +kernel
theorem dX11_saveFound_2 : decode cX11_saveFound 2 = .ok (.invokevirtual 159, 3) := by decide +kernel
theorem dX11_saveFound_5 : decode cX11_saveFound 5 = .ok (.ifCond .ne 6, 3) := by decide +kernel
theorem dX11_saveFound_8 : decode cX11_saveFound 8 = .ok (.bipush (-104), 2) := by decide +kernel
theorem dX11_saveFound_10 : decode cX11_saveFound 10 = .ok (.ireturn, 1) := by decide +kernel
theorem dX11_saveFound_11 : decode cX11_saveFound 11 = .ok (.aload_n 0, 1) := by decide +kernel
theorem dX11_saveFound_12 : decode cX11_saveFound 12 = .ok (.aload_n 1, 1) := by decide +kernel
theorem dX11_saveFound_13 : decode cX11_saveFound 13 = .ok (.iload_n 2, 1) := by decide +kernel
theorem dX11_saveFound_14 : decode cX11_saveFound 14 = .ok (.invokevirtual 162, 3) := by decide +kernel
theorem dX11_saveFound_17 : decode cX11_saveFound 17 = .ok (.bipush (-105), 2) := by decide +kernel
theorem dX11_saveFound_19 : decode cX11_saveFound 19 = .ok (.if_icmp .ne 6, 3) := by decide +kernel
theorem dX11_saveFound_22 : decode cX11_saveFound 22 = .ok (.bipush (-105), 2) := by decide +kernel
theorem dX11_saveFound_24 : decode cX11_saveFound 24 = .ok (.ireturn, 1) := by decide +kernel
theorem dX11_saveFound_25 : decode cX11_saveFound 25 = .ok (.aload_n 1, 1) := by decide +kernel
theorem dX11_saveFound_26 : decode cX11_saveFound 26 = .ok (.iconst 0, 1) := by decide +kernel
theorem dX11_saveFound_27 : decode cX11_saveFound 27 = .ok (.putfield 112, 3) := by decide +kernel
theorem dX11_saveFound_30 : decode cX11_saveFound 30 = .ok (.iload_n 2, 1) := by decide +kernel
theorem dX11_saveFound_31 : decode cX11_saveFound 31 = .ok (.ireturn, 1) := by decide +kernel
theorem dX11_take_0 : decode cX11_take 0 = .ok (.aload_n 0, 1) := by decide +kernel
theorem dX11_take_1 : decode cX11_take 1 = .ok (.getfield 10, 3) := by decide +kernel
theorem dX11_take_4 : decode cX11_take 4 = .ok (.getfield 80, 3) := by decide +kernel
theorem dX11_take_7 : decode cX11_take 7 = .ok (.ifCond .eq 6, 3) := by decide +kernel
theorem dX11_take_10 : decode cX11_take 10 = .ok (.bipush (-106), 2) := by decide +kernel
theorem dX11_take_12 : decode cX11_take 12 = .ok (.ireturn, 1) := by decide +kernel
theorem dX11_take_13 : decode cX11_take 13 = .ok (.aload_n 0, 1) := by decide +kernel
theorem dX11_take_14 : decode cX11_take 14 = .ok (.iload_n 1, 1) := by decide +kernel
theorem dX11_take_15 : decode cX11_take 15 = .ok (.invokevirtual 94, 3) := by decide +kernel
theorem dX11_take_18 : decode cX11_take 18 = .ok (.astore_n 3, 1) := by decide +kernel
theorem dX11_take_19 : decode cX11_take 19 = .ok (.aload_n 3, 1) := by decide +kernel
theorem dX11_take_20 : decode cX11_take 20 = .ok (.ifnull 14, 3) := by decide +kernel
theorem dX11_take_23 : decode cX11_take 23 = .ok (.aload_n 0, 1) := by decide +kernel
theorem dX11_take_24 : decode cX11_take 24 = .ok (.getfield 30, 3) := by decide +kernel
theorem dX11_take_27 : decode cX11_take 27 = .ok (.iload_n 2, 1) := by decide +kernel
theorem dX11_take_28 : decode cX11_take 28 = .ok (.invokevirtual 98, 3) := by decide +kernel
theorem dX11_take_31 : decode cX11_take 31 = .ok (.ifCond .ne 6, 3) := by decide +kernel
theorem dX11_take_34 : decode cX11_take 34 = .ok (.bipush (-101), 2) := by decide +kernel
theorem dX11_take_36 : decode cX11_take 36 = .ok (.ireturn, 1) := by decide +kernel
theorem dX11_take_37 : decode cX11_take 37 = .ok (.aload_n 3, 1) := by decide +kernel
theorem dX11_take_38 : decode cX11_take 38 = .ok (.aload_n 0, 1) := by decide +kernel
theorem dX11_take_39 : decode cX11_take 39 = .ok (.getfield 76, 3) := by decide +kernel
theorem dX11_take_42 : decode cX11_take 42 = .ok (.invokevirtual 102, 3) := by decide +kernel
theorem dX11_take_45 : decode cX11_take 45 = .ok (.ifCond .eq 6, 3) := by decide +kernel
theorem dX11_take_48 : decode cX11_take 48 = .ok (.bipush (-103), 2) := by decide +kernel
theorem dX11_take_50 : decode cX11_take 50 = .ok (.ireturn, 1) := by decide +kernel
theorem dX11_take_51 : decode cX11_take 51 = .ok (.aload_n 3, 1) := by decide +kernel
theorem dX11_take_52 : decode cX11_take 52 = .ok (.iload_n 2, 1) := by decide +kernel
theorem dX11_take_53 : decode cX11_take 53 = .ok (.invokevirtual 159, 3) := by decide +kernel
theorem dX11_take_56 : decode cX11_take 56 = .ok (.ifCond .eq 12, 3) := by decide +kernel
theorem dX11_take_59 : decode cX11_take 59 = .ok (.aload_n 0, 1) := by decide +kernel
theorem dX11_take_60 : decode cX11_take 60 = .ok (.aload_n 3, 1) := by decide +kernel
theorem dX11_take_61 : decode cX11_take 61 = .ok (.iload_n 2, 1) := by decide +kernel
theorem dX11_take_62 : decode cX11_take 62 = .ok (.invokevirtual 162, 3) := by decide +kernel
theorem dX11_take_65 : decode cX11_take 65 = .ok (.goto 5, 3) := by decide +kernel
theorem dX11_take_68 : decode cX11_take 68 = .ok (.bipush (-104), 2) := by decide +kernel
theorem dX11_take_70 : decode cX11_take 70 = .ok (.ireturn, 1) := by decide +kernel
theorem dX11_takeFor_0 : decode cX11_takeFor 0 = .ok (.aload_n 0, 1) := by decide +kernel
theorem dX11_takeFor_1 : decode cX11_takeFor 1 = .ok (.getfield 30, 3) := by decide +kernel
theorem dX11_takeFor_4 : decode cX11_takeFor 4 = .ok (.invokevirtual 165, 3) := by decide +kernel
theorem dX11_takeFor_7 : decode cX11_takeFor 7 = .ok (.aload_n 0, 1) := by decide +kernel
theorem dX11_takeFor_8 : decode cX11_takeFor 8 = .ok (.getfield 30, 3) := by decide +kernel
theorem dX11_takeFor_11 : decode cX11_takeFor 11 = .ok (.iload_n 2, 1) := by decide +kernel
theorem dX11_takeFor_12 : decode cX11_takeFor 12 = .ok (.invokevirtual 168, 3) := by decide +kernel
theorem dX11_takeFor_15 : decode cX11_takeFor 15 = .ok (.aload_n 0, 1) := by decide +kernel
theorem dX11_takeFor_16 : decode cX11_takeFor 16 = .ok (.getfield 30, 3) := by decide +kernel
theorem dX11_takeFor_19 : decode cX11_takeFor 19 = .ok (.invokevirtual 171, 3) := by decide +kernel
theorem dX11_takeFor_22 : decode cX11_takeFor 22 = .ok (.aload_n 0, 1) := by decide +kernel
theorem dX11_takeFor_23 : decode cX11_takeFor 23 = .ok (.getfield 30, 3) := by decide +kernel
theorem dX11_takeFor_26 : decode cX11_takeFor 26 = .ok (.invokevirtual 174, 3) := by decide +kernel
theorem dX11_takeFor_29 : decode cX11_takeFor 29 = .ok (.istore_n 3, 1) := by decide +kernel
theorem dX11_takeFor_30 : decode cX11_takeFor 30 = .ok (.iload_n 3, 1) := by decide +kernel
theorem dX11_takeFor_31 : decode cX11_takeFor 31 = .ok (.bipush (-105), 2) := by decide +kernel
theorem dX11_takeFor_33 : decode cX11_takeFor 33 = .ok (.if_icmp .ne 8, 3) := by decide +kernel
theorem dX11_takeFor_36 : decode cX11_takeFor 36 = .ok (.aload_n 0, 1) := by decide +kernel
theorem dX11_takeFor_37 : decode cX11_takeFor 37 = .ok (.invokevirtual 151, 3) := by decide +kernel
theorem dX11_takeFor_40 : decode cX11_takeFor 40 = .ok (.ireturn, 1) := by decide +kernel
theorem dX11_takeFor_41 : decode cX11_takeFor 41 = .ok (.aload_n 0, 1) := by decide +kernel
theorem dX11_takeFor_42 : decode cX11_takeFor 42 = .ok (.getfield 39, 3) := by decide +kernel
theorem dX11_takeFor_45 : decode cX11_takeFor 45 = .ok (.iload_n 2, 1) := by decide +kernel
theorem dX11_takeFor_46 : decode cX11_takeFor 46 = .ok (.invokevirtual 177, 3) := by decide +kernel
theorem dX11_takeFor_49 : decode cX11_takeFor 49 = .ok (.aload_n 1, 1) := by decide +kernel
theorem dX11_takeFor_50 : decode cX11_takeFor 50 = .ok (.iload_n 2, 1) := by decide +kernel
theorem dX11_takeFor_51 : decode cX11_takeFor 51 = .ok (.invokevirtual 155, 3) := by decide +kernel
theorem dX11_takeFor_54 : decode cX11_takeFor 54 = .ok (.iload_n 3, 1) := by decide +kernel
theorem dX11_takeFor_55 : decode cX11_takeFor 55 = .ok (.ireturn, 1) := by decide +kernel
theorem dX11_commit_0 : decode cX11_commit 0 = .ok (.aload_n 0, 1) := by decide +kernel
theorem dX11_commit_1 : decode cX11_commit 1 = .ok (.getfield 10, 3) := by decide +kernel
theorem dX11_commit_4 : decode cX11_commit 4 = .ok (.getfield 80, 3) := by decide +kernel
theorem dX11_commit_7 : decode cX11_commit 7 = .ok (.ifCond .eq 6, 3) := by decide +kernel
theorem dX11_commit_10 : decode cX11_commit 10 = .ok (.bipush (-106), 2) := by decide +kernel
theorem dX11_commit_12 : decode cX11_commit 12 = .ok (.ireturn, 1) := by decide +kernel
theorem dX11_commit_13 : decode cX11_commit 13 = .ok (.aload_n 0, 1) := by decide +kernel
theorem dX11_commit_14 : decode cX11_commit 14 = .ok (.iload_n 1, 1) := by decide +kernel
theorem dX11_commit_15 : decode cX11_commit 15 = .ok (.invokevirtual 180, 3) := by decide +kernel
theorem dX11_commit_18 : decode cX11_commit 18 = .ok (.astore_n 3, 1) := by decide +kernel
theorem dX11_commit_19 : decode cX11_commit 19 = .ok (.aload_n 3, 1) := by decide +kernel
theorem dX11_commit_20 : decode cX11_commit 20 = .ok (.ifnonnull 6, 3) := by decide +kernel
theorem dX11_commit_23 : decode cX11_commit 23 = .ok (.bipush (-101), 2) := by decide +kernel
theorem dX11_commit_25 : decode cX11_commit 25 = .ok (.ireturn, 1) := by decide +kernel
theorem dX11_commit_26 : decode cX11_commit 26 = .ok (.iload_n 2, 1) := by decide +kernel
theorem dX11_commit_27 : decode cX11_commit 27 = .ok (.ifCond .lt 8, 3) := by decide +kernel
theorem dX11_commit_30 : decode cX11_commit 30 = .ok (.iload_n 2, 1) := by decide +kernel
theorem dX11_commit_31 : decode cX11_commit 31 = .ok (.iconst 3, 1) := by decide +kernel
theorem dX11_commit_32 : decode cX11_commit 32 = .ok (.if_icmp .le 6, 3) := by decide +kernel
theorem dX11_commit_35 : decode cX11_commit 35 = .ok (.bipush (-102), 2) := by decide +kernel
theorem dX11_commit_37 : decode cX11_commit 37 = .ok (.ireturn, 1) := by decide +kernel
theorem dX11_commit_38 : decode cX11_commit 38 = .ok (.aload_n 3, 1) := by decide +kernel
theorem dX11_commit_39 : decode cX11_commit 39 = .ok (.aload_n 0, 1) := by decide +kernel
theorem dX11_commit_40 : decode cX11_commit 40 = .ok (.getfield 76, 3) := by decide +kernel
theorem dX11_commit_43 : decode cX11_commit 43 = .ok (.invokevirtual 102, 3) := by decide +kernel
theorem dX11_commit_46 : decode cX11_commit 46 = .ok (.ifCond .ne 10, 3) := by decide +kernel
theorem dX11_commit_49 : decode cX11_commit 49 = .ok (.aload_n 3, 1) := by decide +kernel
theorem dX11_commit_50 : decode cX11_commit 50 = .ok (.getfield 135, 3) := by decide +kernel
theorem dX11_commit_53 : decode cX11_commit 53 = .ok (.ifCond .ne 6, 3) := by decide +kernel
theorem dX11_commit_56 : decode cX11_commit 56 = .ok (.bipush (-103), 2) := by decide +kernel
theorem dX11_commit_58 : decode cX11_commit 58 = .ok (.ireturn, 1) := by decide +kernel
theorem dX11_commit_59 : decode cX11_commit 59 = .ok (.aload_n 0, 1) := by decide +kernel
theorem dX11_commit_60 : decode cX11_commit 60 = .ok (.getfield 183, 3) := by decide +kernel
theorem dX11_commit_63 : decode cX11_commit 63 = .ok (.bipush 40, 2) := by decide +kernel
theorem dX11_commit_65 : decode cX11_commit 65 = .ok (.if_icmp .ge 12, 3) := by decide +kernel
theorem dX11_commit_68 : decode cX11_commit 68 = .ok (.aload_n 0, 1) := by decide +kernel
theorem dX11_commit_69 : decode cX11_commit 69 = .ok (.invokevirtual 186, 3) := by decide +kernel
theorem dX11_commit_72 : decode cX11_commit 72 = .ok (.bipush 10, 2) := by decide +kernel
theorem dX11_commit_74 : decode cX11_commit 74 = .ok (.if_icmp .lt 6, 3) := by decide +kernel
theorem dX11_commit_77 : decode cX11_commit 77 = .ok (.bipush (-104), 2) := by decide +kernel
theorem dX11_commit_79 : decode cX11_commit 79 = .ok (.ireturn, 1) := by decide +kernel
theorem dX11_commit_80 : decode cX11_commit 80 = .ok (.aload_n 0, 1) := by decide +kernel
theorem dX11_commit_81 : decode cX11_commit 81 = .ok (.getfield 183, 3) := by decide +kernel
theorem dX11_commit_84 : decode cX11_commit 84 = .ok (.istore 4, 2) := by decide +kernel
theorem dX11_commit_86 : decode cX11_commit 86 = .ok (.aload_n 0, 1) := by decide +kernel
theorem dX11_commit_87 : decode cX11_commit 87 = .ok (.getfield 10, 3) := by decide +kernel
theorem dX11_commit_90 : decode cX11_commit 90 = .ok (.iconst 2, 1) := by decide +kernel
theorem dX11_commit_91 : decode cX11_commit 91 = .ok (.iload 4, 2) := by decide +kernel
theorem dX11_commit_93 : decode cX11_commit 93 = .ok (.invokevirtual 189, 3) := by decide +kernel
theorem dX11_commit_96 : decode cX11_commit 96 = .ok (.ifCond .ne 8, 3) := by decide +kernel
theorem dX11_commit_99 : decode cX11_commit 99 = .ok (.aload_n 0, 1) := by decide +kernel
theorem dX11_commit_100 : decode cX11_commit 100 = .ok (.invokevirtual 151, 3) := by decide +kernel
theorem dX11_commit_103 : decode cX11_commit 103 = .ok (.ireturn, 1) := by decide +kernel
theorem dX11_commit_104 : decode cX11_commit 104 = .ok (.aload_n 0, 1) := by decide +kernel
theorem dX11_commit_105 : decode cX11_commit 105 = .ok (.getfield 59, 3) := by decide +kernel
theorem dX11_commit_108 : decode cX11_commit 108 = .ok (.iload 4, 2) := by decide +kernel
theorem dX11_commit_110 : decode cX11_commit 110 = .ok (.new 57, 3) := by decide +kernel
theorem dX11_commit_113 : decode cX11_commit 113 = .ok (.dup, 1) := by decide +kernel
theorem dX11_commit_114 : decode cX11_commit 114 = .ok (.aload_n 0, 1) := by decide +kernel
theorem dX11_commit_115 : decode cX11_commit 115 = .ok (.getfield 76, 3) := by decide +kernel
theorem dX11_commit_118 : decode cX11_commit 118 = .ok (.iload_n 2, 1) := by decide +kernel
theorem dX11_commit_119 : decode cX11_commit 119 = .ok (.aload_n 3, 1) := by decide +kernel
theorem dX11_commit_120 : decode cX11_commit 120 = .ok (.getfield 193, 3) := by decide +kernel
theorem dX11_commit_123 : decode cX11_commit 123 = .ok (.aload_n 3, 1) := by decide +kernel
theorem dX11_commit_124 : decode cX11_commit 124 = .ok (.getfield 135, 3) := by decide +kernel
theorem dX11_commit_127 : decode cX11_commit 127 = .ok (.invokestatic 141, 3) := by decide +kernel
theorem dX11_commit_130 : decode cX11_commit 130 = .ok (.invokespecial 196, 3) := by decide +kernel
theorem dX11_commit_133 : decode cX11_commit 133 = .ok (.aastore, 1) := by decide +kernel
theorem dX11_commit_134 : decode cX11_commit 134 = .ok (.aload_n 0, 1) := by decide +kernel
theorem dX11_commit_135 : decode cX11_commit 135 = .ok (.dup, 1) := by decide +kernel
theorem dX11_commit_136 : decode cX11_commit 136 = .ok (.getfield 183, 3) := by decide +kernel
theorem dX11_commit_139 : decode cX11_commit 139 = .ok (.iconst 1, 1) := by decide +kernel
theorem dX11_commit_140 : decode cX11_commit 140 = .ok (.iadd, 1) := by decide +kernel
theorem dX11_commit_141 : decode cX11_commit 141 = .ok (.putfield 183, 3) := by decide +kernel
theorem dX11_commit_144 : decode cX11_commit 144 = .ok (.aload_n 3, 1) := by decide +kernel
theorem dX11_commit_145 : decode cX11_commit 145 = .ok (.iconst 0, 1) := by decide +kernel
theorem dX11_commit_146 : decode cX11_commit 146 = .ok (.putfield 87, 3) := by decide +kernel
theorem dX11_commit_149 : decode cX11_commit 149 = .ok (.iload 4, 2) := by decide +kernel
theorem dX11_commit_151 : decode cX11_commit 151 = .ok (.ireturn, 1) := by decide +kernel
theorem dX11_give_0 : decode cX11_give 0 = .ok (.aload_n 0, 1) := by decide +kernel
theorem dX11_give_1 : decode cX11_give 1 = .ok (.getfield 10, 3) := by decide +kernel
theorem dX11_give_4 : decode cX11_give 4 = .ok (.getfield 80, 3) := by decide +kernel
theorem dX11_give_7 : decode cX11_give 7 = .ok (.ifCond .eq 6, 3) := by decide +kernel
theorem dX11_give_10 : decode cX11_give 10 = .ok (.bipush (-106), 2) := by decide +kernel
theorem dX11_give_12 : decode cX11_give 12 = .ok (.ireturn, 1) := by decide +kernel
theorem dX11_give_13 : decode cX11_give 13 = .ok (.aload_n 0, 1) := by decide +kernel
theorem dX11_give_14 : decode cX11_give 14 = .ok (.iload_n 1, 1) := by decide +kernel
theorem dX11_give_15 : decode cX11_give 15 = .ok (.invokevirtual 180, 3) := by decide +kernel
theorem dX11_give_18 : decode cX11_give 18 = .ok (.astore_n 2, 1) := by decide +kernel
theorem dX11_give_19 : decode cX11_give 19 = .ok (.aload_n 2, 1) := by decide +kernel
theorem dX11_give_20 : decode cX11_give 20 = .ok (.ifnonnull 6, 3) := by decide +kernel
theorem dX11_give_23 : decode cX11_give 23 = .ok (.bipush (-101), 2) := by decide +kernel
theorem dX11_give_25 : decode cX11_give 25 = .ok (.ireturn, 1) := by decide +kernel
theorem dX11_give_26 : decode cX11_give 26 = .ok (.aload_n 2, 1) := by decide +kernel
theorem dX11_give_27 : decode cX11_give 27 = .ok (.iconst 0, 1) := by decide +kernel
theorem dX11_give_28 : decode cX11_give 28 = .ok (.putfield 87, 3) := by decide +kernel
theorem dX11_give_31 : decode cX11_give 31 = .ok (.aload_n 2, 1) := by decide +kernel
theorem dX11_give_32 : decode cX11_give 32 = .ok (.getfield 135, 3) := by decide +kernel
theorem dX11_give_35 : decode cX11_give 35 = .ok (.ireturn, 1) := by decide +kernel
theorem dX11_saverHere_0 : decode cX11_saverHere 0 = .ok (.iload_n 1, 1) := by decide +kernel
theorem dX11_saverHere_1 : decode cX11_saverHere 1 = .ok (.ifCond .lt 24, 3) := by decide +kernel
theorem dX11_saverHere_4 : decode cX11_saverHere 4 = .ok (.iload_n 1, 1) := by decide +kernel
theorem dX11_saverHere_5 : decode cX11_saverHere 5 = .ok (.iconst 4, 1) := by decide +kernel
theorem dX11_saverHere_6 : decode cX11_saverHere 6 = .ok (.if_icmp .ge 19, 3) := by decide +kernel
theorem dX11_saverHere_9 : decode cX11_saverHere 9 = .ok (.aload_n 0, 1) := by decide +kernel
theorem dX11_saverHere_10 : decode cX11_saverHere 10 = .ok (.getfield 52, 3) := by decide +kernel
theorem dX11_saverHere_13 : decode cX11_saverHere 13 = .ok (.iload_n 1, 1) := by decide +kernel
theorem dX11_saverHere_14 : decode cX11_saverHere 14 = .ok (.aaload, 1) := by decide +kernel
theorem dX11_saverHere_15 : decode cX11_saverHere 15 = .ok (.getfield 87, 3) := by decide +kernel
theorem dX11_saverHere_18 : decode cX11_saverHere 18 = .ok (.ifCond .eq 7, 3) := by decide +kernel
theorem dX11_saverHere_21 : decode cX11_saverHere 21 = .ok (.iconst 1, 1) := by decide +kernel
theorem dX11_saverHere_22 : decode cX11_saverHere 22 = .ok (.goto 4, 3) := by decide +kernel
theorem dX11_saverHere_25 : decode cX11_saverHere 25 = .ok (.iconst 0, 1) := by decide +kernel
theorem dX11_saverHere_26 : decode cX11_saverHere 26 = .ok (.istore_n 2, 1) := by decide +kernel
theorem dX11_saverHere_27 : decode cX11_saverHere 27 = .ok (.iload_n 2, 1) := by decide +kernel
theorem dX11_saverHere_28 : decode cX11_saverHere 28 = .ok (.ifCond .eq 12, 3) := by decide +kernel
theorem dX11_saverHere_31 : decode cX11_saverHere 31 = .ok (.aload_n 0, 1) := by decide +kernel
theorem dX11_saverHere_32 : decode cX11_saverHere 32 = .ok (.getfield 52, 3) := by decide +kernel
theorem dX11_saverHere_35 : decode cX11_saverHere 35 = .ok (.iload_n 1, 1) := by decide +kernel
theorem dX11_saverHere_36 : decode cX11_saverHere 36 = .ok (.aaload, 1) := by decide +kernel
theorem dX11_saverHere_37 : decode cX11_saverHere 37 = .ok (.goto 4, 3) := by decide +kernel
theorem dX11_saverHere_40 : decode cX11_saverHere 40 = .ok (.aconst_null, 1) := by decide +kernel
theorem dX11_saverHere_41 : decode cX11_saverHere 41 = .ok (.areturn, 1) := by decide +kernel
theorem dX11_renewed_0 : decode cX11_renewed 0 = .ok (.aload_n 0, 1) := by decide +kernel
theorem dX11_renewed_1 : decode cX11_renewed 1 = .ok (.iload_n 1, 1) := by decide +kernel
theorem dX11_renewed_2 : decode cX11_renewed 2 = .ok (.invokevirtual 180, 3) := by decide +kernel
theorem dX11_renewed_5 : decode cX11_renewed 5 = .ok (.astore_n 2, 1) := by decide +kernel
theorem dX11_renewed_6 : decode cX11_renewed 6 = .ok (.aload_n 2, 1) := by decide +kernel
theorem dX11_renewed_7 : decode cX11_renewed 7 = .ok (.ifnull 22, 3) := by decide +kernel
theorem dX11_renewed_10 : decode cX11_renewed 10 = .ok (.aload_n 2, 1) := by decide +kernel
theorem dX11_renewed_11 : decode cX11_renewed 11 = .ok (.aload_n 0, 1) := by decide +kernel
theorem dX11_renewed_12 : decode cX11_renewed 12 = .ok (.getfield 76, 3) := by decide +kernel
theorem dX11_renewed_15 : decode cX11_renewed 15 = .ok (.invokevirtual 102, 3) := by decide +kernel
theorem dX11_renewed_18 : decode cX11_renewed 18 = .ok (.ifCond .ne 11, 3) := by decide +kernel
theorem dX11_renewed_21 : decode cX11_renewed 21 = .ok (.aload_n 2, 1) := by decide +kernel
theorem dX11_renewed_22 : decode cX11_renewed 22 = .ok (.aload_n 0, 1) := by decide +kernel
theorem dX11_renewed_23 : decode cX11_renewed 23 = .ok (.getfield 76, 3) := by decide +kernel
theorem dX11_renewed_26 : decode cX11_renewed 26 = .ok (.invokevirtual 199, 3) := by decide +kernel
theorem dX11_renewed_29 : decode cX11_renewed 29 = .ok (.aload_n 2, 1) := by decide +kernel
theorem dX11_renewed_30 : decode cX11_renewed 30 = .ok (.areturn, 1) := by decide +kernel
theorem dX11_saversHere_0 : decode cX11_saversHere 0 = .ok (.iconst 0, 1) := by decide +kernel
theorem dX11_saversHere_1 : decode cX11_saversHere 1 = .ok (.istore_n 1, 1) := by decide +kernel
theorem dX11_saversHere_2 : decode cX11_saversHere 2 = .ok (.iconst 0, 1) := by decide +kernel
theorem dX11_saversHere_3 : decode cX11_saversHere 3 = .ok (.istore_n 2, 1) := by decide +kernel
theorem dX11_saversHere_4 : decode cX11_saversHere 4 = .ok (.iload_n 2, 1) := by decide +kernel
theorem dX11_saversHere_5 : decode cX11_saversHere 5 = .ok (.iconst 4, 1) := by decide +kernel
theorem dX11_saversHere_6 : decode cX11_saversHere 6 = .ok (.if_icmp .ge 29, 3) := by decide +kernel
theorem dX11_saversHere_9 : decode cX11_saversHere 9 = .ok (.iload_n 1, 1) := by decide +kernel
theorem dX11_saversHere_10 : decode cX11_saversHere 10 = .ok (.aload_n 0, 1) := by decide +kernel
theorem dX11_saversHere_11 : decode cX11_saversHere 11 = .ok (.getfield 52, 3) := by decide +kernel
theorem dX11_saversHere_14 : decode cX11_saversHere 14 = .ok (.iload_n 2, 1) := by decide +kernel
theorem dX11_saversHere_15 : decode cX11_saversHere 15 = .ok (.aaload, 1) := by decide +kernel
theorem dX11_saversHere_16 : decode cX11_saversHere 16 = .ok (.getfield 87, 3) := by decide +kernel
theorem dX11_saversHere_19 : decode cX11_saversHere 19 = .ok (.ifCond .eq 7, 3) := by decide +kernel
theorem dX11_saversHere_22 : decode cX11_saversHere 22 = .ok (.iconst 1, 1) := by decide +kernel
theorem dX11_saversHere_23 : decode cX11_saversHere 23 = .ok (.goto 4, 3) := by decide +kernel
theorem dX11_saversHere_26 : decode cX11_saversHere 26 = .ok (.iconst 0, 1) := by decide +kernel
theorem dX11_saversHere_27 : decode cX11_saversHere 27 = .ok (.iadd, 1) := by decide +kernel
theorem dX11_saversHere_28 : decode cX11_saversHere 28 = .ok (.istore_n 1, 1) := by decide +kernel
theorem dX11_saversHere_29 : decode cX11_saversHere 29 = .ok (.iinc 2 1, 3) := by decide +kernel
theorem dX11_saversHere_32 : decode cX11_saversHere 32 = .ok (.goto (-28), 3) := by decide +kernel
theorem dX11_saversHere_35 : decode cX11_saversHere 35 = .ok (.iload_n 1, 1) := by decide +kernel
theorem dX11_saversHere_36 : decode cX11_saversHere 36 = .ok (.ireturn, 1) := by decide +kernel
theorem dX11_saversThatUse_0 : decode cX11_saversThatUse 0 = .ok (.iconst 0, 1) := by decide +kernel
theorem dX11_saversThatUse_1 : decode cX11_saversThatUse 1 = .ok (.istore_n 2, 1) := by decide +kernel
theorem dX11_saversThatUse_2 : decode cX11_saversThatUse 2 = .ok (.iconst 0, 1) := by decide +kernel
theorem dX11_saversThatUse_3 : decode cX11_saversThatUse 3 = .ok (.istore_n 3, 1) := by decide +kernel
theorem dX11_saversThatUse_4 : decode cX11_saversThatUse 4 = .ok (.iload_n 3, 1) := by decide +kernel
theorem dX11_saversThatUse_5 : decode cX11_saversThatUse 5 = .ok (.iconst 4, 1) := by decide +kernel
theorem dX11_saversThatUse_6 : decode cX11_saversThatUse 6 = .ok (.if_icmp .ge 42, 3) := by decide +kernel
theorem dX11_saversThatUse_9 : decode cX11_saversThatUse 9 = .ok (.iload_n 2, 1) := by decide +kernel
theorem dX11_saversThatUse_10 : decode cX11_saversThatUse 10 = .ok (.aload_n 0, 1) := by decide +kernel
theorem dX11_saversThatUse_11 : decode cX11_saversThatUse 11 = .ok (.getfield 52, 3) := by decide +kernel
theorem dX11_saversThatUse_14 : decode cX11_saversThatUse 14 = .ok (.iload_n 3, 1) := by decide +kernel
theorem dX11_saversThatUse_15 : decode cX11_saversThatUse 15 = .ok (.aaload, 1) := by decide +kernel
theorem dX11_saversThatUse_16 : decode cX11_saversThatUse 16 = .ok (.getfield 87, 3) := by decide +kernel
theorem dX11_saversThatUse_19 : decode cX11_saversThatUse 19 = .ok (.ifCond .eq 20, 3) := by decide +kernel
theorem dX11_saversThatUse_22 : decode cX11_saversThatUse 22 = .ok (.aload_n 0, 1) := by decide +kernel
theorem dX11_saversThatUse_23 : decode cX11_saversThatUse 23 = .ok (.getfield 52, 3) := by decide +kernel
theorem dX11_saversThatUse_26 : decode cX11_saversThatUse 26 = .ok (.iload_n 3, 1) := by decide +kernel
theorem dX11_saversThatUse_27 : decode cX11_saversThatUse 27 = .ok (.aaload, 1) := by decide +kernel
theorem dX11_saversThatUse_28 : decode cX11_saversThatUse 28 = .ok (.iload_n 1, 1) := by decide +kernel
theorem dX11_saversThatUse_29 : decode cX11_saversThatUse 29 = .ok (.invokevirtual 106, 3) := by decide +kernel
theorem dX11_saversThatUse_32 : decode cX11_saversThatUse 32 = .ok (.ifCond .eq 7, 3) := by decide +kernel
theorem dX11_saversThatUse_35 : decode cX11_saversThatUse 35 = .ok (.iconst 1, 1) := by decide +kernel
theorem dX11_saversThatUse_36 : decode cX11_saversThatUse 36 = .ok (.goto 4, 3) := by decide +kernel
theorem dX11_saversThatUse_39 : decode cX11_saversThatUse 39 = .ok (.iconst 0, 1) := by decide +kernel
theorem dX11_saversThatUse_40 : decode cX11_saversThatUse 40 = .ok (.iadd, 1) := by decide +kernel
theorem dX11_saversThatUse_41 : decode cX11_saversThatUse 41 = .ok (.istore_n 2, 1) := by decide +kernel
theorem dX11_saversThatUse_42 : decode cX11_saversThatUse 42 = .ok (.iinc 3 1, 3) := by decide +kernel
theorem dX11_saversThatUse_45 : decode cX11_saversThatUse 45 = .ok (.goto (-41), 3) := by decide +kernel
theorem dX11_saversThatUse_48 : decode cX11_saversThatUse 48 = .ok (.iload_n 2, 1) := by decide +kernel
theorem dX11_saversThatUse_49 : decode cX11_saversThatUse 49 = .ok (.ireturn, 1) := by decide +kernel
theorem dX11_drop_0 : decode cX11_drop 0 = .ok (.aload_n 0, 1) := by decide +kernel
theorem dX11_drop_1 : decode cX11_drop 1 = .ok (.getfield 10, 3) := by decide +kernel
theorem dX11_drop_4 : decode cX11_drop 4 = .ok (.getfield 80, 3) := by decide +kernel
theorem dX11_drop_7 : decode cX11_drop 7 = .ok (.ifCond .eq 6, 3) := by decide +kernel
theorem dX11_drop_10 : decode cX11_drop 10 = .ok (.bipush (-106), 2) := by decide +kernel
theorem dX11_drop_12 : decode cX11_drop 12 = .ok (.ireturn, 1) := by decide +kernel
theorem dX11_drop_13 : decode cX11_drop 13 = .ok (.aload_n 0, 1) := by decide +kernel
theorem dX11_drop_14 : decode cX11_drop 14 = .ok (.iload_n 1, 1) := by decide +kernel
theorem dX11_drop_15 : decode cX11_drop 15 = .ok (.invokevirtual 203, 3) := by decide +kernel
theorem dX11_drop_18 : decode cX11_drop 18 = .ok (.ifCond .ne 6, 3) := by decide +kernel
theorem dX11_drop_21 : decode cX11_drop 21 = .ok (.bipush (-101), 2) := by decide +kernel
theorem dX11_drop_23 : decode cX11_drop 23 = .ok (.ireturn, 1) := by decide +kernel
theorem dX11_drop_24 : decode cX11_drop 24 = .ok (.aload_n 0, 1) := by decide +kernel
theorem dX11_drop_25 : decode cX11_drop 25 = .ok (.iload_n 1, 1) := by decide +kernel
theorem dX11_drop_26 : decode cX11_drop 26 = .ok (.invokevirtual 206, 3) := by decide +kernel
theorem dX11_drop_29 : decode cX11_drop 29 = .ok (.ifCond .eq 7, 3) := by decide +kernel
theorem dX11_drop_32 : decode cX11_drop 32 = .ok (.iconst 1, 1) := by decide +kernel
theorem dX11_drop_33 : decode cX11_drop 33 = .ok (.goto 7, 3) := by decide +kernel
theorem dX11_drop_36 : decode cX11_drop 36 = .ok (.aload_n 0, 1) := by decide +kernel
theorem dX11_drop_37 : decode cX11_drop 37 = .ok (.invokevirtual 151, 3) := by decide +kernel
theorem dX11_drop_40 : decode cX11_drop 40 = .ok (.ireturn, 1) := by decide +kernel
theorem dX11_rule_0 : decode cX11_rule 0 = .ok (.aload_n 0, 1) := by decide +kernel
theorem dX11_rule_1 : decode cX11_rule 1 = .ok (.getfield 10, 3) := by decide +kernel
theorem dX11_rule_4 : decode cX11_rule 4 = .ok (.getfield 80, 3) := by decide +kernel
theorem dX11_rule_7 : decode cX11_rule 7 = .ok (.ifCond .eq 6, 3) := by decide +kernel
theorem dX11_rule_10 : decode cX11_rule 10 = .ok (.bipush (-106), 2) := by decide +kernel
theorem dX11_rule_12 : decode cX11_rule 12 = .ok (.ireturn, 1) := by decide +kernel
theorem dX11_rule_13 : decode cX11_rule 13 = .ok (.iload_n 1, 1) := by decide +kernel
theorem dX11_rule_14 : decode cX11_rule 14 = .ok (.ifCond .lt 21, 3) := by decide +kernel
theorem dX11_rule_17 : decode cX11_rule 17 = .ok (.iload_n 1, 1) := by decide +kernel
theorem dX11_rule_18 : decode cX11_rule 18 = .ok (.bipush 6, 2) := by decide +kernel
theorem dX11_rule_20 : decode cX11_rule 20 = .ok (.if_icmp .ge 15, 3) := by decide +kernel
theorem dX11_rule_23 : decode cX11_rule 23 = .ok (.iload_n 2, 1) := by decide +kernel
theorem dX11_rule_24 : decode cX11_rule 24 = .ok (.ifCond .lt 11, 3) := by decide +kernel
theorem dX11_rule_27 : decode cX11_rule 27 = .ok (.iload_n 2, 1) := by decide +kernel
theorem dX11_rule_28 : decode cX11_rule 28 = .ok (.iload_n 1, 1) := by decide +kernel
theorem dX11_rule_29 : decode cX11_rule 29 = .ok (.invokestatic 209, 3) := by decide +kernel
theorem dX11_rule_32 : decode cX11_rule 32 = .ok (.if_icmp .le 6, 3) := by decide +kernel
theorem dX11_rule_35 : decode cX11_rule 35 = .ok (.bipush (-102), 2) := by decide +kernel
theorem dX11_rule_37 : decode cX11_rule 37 = .ok (.ireturn, 1) := by decide +kernel
theorem dX11_rule_38 : decode cX11_rule 38 = .ok (.aload_n 0, 1) := by decide +kernel
theorem dX11_rule_39 : decode cX11_rule 39 = .ok (.getfield 46, 3) := by decide +kernel
theorem dX11_rule_42 : decode cX11_rule 42 = .ok (.getfield 213, 3) := by decide +kernel
theorem dX11_rule_45 : decode cX11_rule 45 = .ok (.iload_n 1, 1) := by decide +kernel
theorem dX11_rule_46 : decode cX11_rule 46 = .ok (.iaload, 1) := by decide +kernel
theorem dX11_rule_47 : decode cX11_rule 47 = .ok (.istore_n 3, 1) := by decide +kernel
theorem dX11_rule_48 : decode cX11_rule 48 = .ok (.aload_n 0, 1) := by decide +kernel
theorem dX11_rule_49 : decode cX11_rule 49 = .ok (.getfield 46, 3) := by decide +kernel
theorem dX11_rule_52 : decode cX11_rule 52 = .ok (.getfield 213, 3) := by decide +kernel
theorem dX11_rule_55 : decode cX11_rule 55 = .ok (.iload_n 1, 1) := by decide +kernel
theorem dX11_rule_56 : decode cX11_rule 56 = .ok (.iload_n 2, 1) := by decide +kernel
theorem dX11_rule_57 : decode cX11_rule 57 = .ok (.iastore, 1) := by decide +kernel
theorem dX11_rule_58 : decode cX11_rule 58 = .ok (.iload_n 3, 1) := by decide +kernel
theorem dX11_rule_59 : decode cX11_rule 59 = .ok (.ireturn, 1) := by decide +kernel
theorem dX11_keeps_0 : decode cX11_keeps 0 = .ok (.aload_n 0, 1) := by decide +kernel
theorem dX11_keeps_1 : decode cX11_keeps 1 = .ok (.getfield 10, 3) := by decide +kernel
theorem dX11_keeps_4 : decode cX11_keeps 4 = .ok (.getfield 80, 3) := by decide +kernel
theorem dX11_keeps_7 : decode cX11_keeps 7 = .ok (.ifCond .eq 6, 3) := by decide +kernel
theorem dX11_keeps_10 : decode cX11_keeps 10 = .ok (.bipush (-106), 2) := by decide +kernel
theorem dX11_keeps_12 : decode cX11_keeps 12 = .ok (.ireturn, 1) := by decide +kernel
theorem dX11_keeps_13 : decode cX11_keeps 13 = .ok (.aload_n 0, 1) := by decide +kernel
theorem dX11_keeps_14 : decode cX11_keeps 14 = .ok (.iload_n 1, 1) := by decide +kernel
theorem dX11_keeps_15 : decode cX11_keeps 15 = .ok (.invokevirtual 203, 3) := by decide +kernel
theorem dX11_keeps_18 : decode cX11_keeps 18 = .ok (.ifCond .ne 6, 3) := by decide +kernel
theorem dX11_keeps_21 : decode cX11_keeps 21 = .ok (.bipush (-101), 2) := by decide +kernel
theorem dX11_keeps_23 : decode cX11_keeps 23 = .ok (.ireturn, 1) := by decide +kernel
theorem dX11_keeps_24 : decode cX11_keeps 24 = .ok (.aload_n 0, 1) := by decide +kernel
theorem dX11_keeps_25 : decode cX11_keeps 25 = .ok (.getfield 46, 3) := by decide +kernel
theorem dX11_keeps_28 : decode cX11_keeps 28 = .ok (.aload_n 0, 1) := by decide +kernel
theorem dX11_keeps_29 : decode cX11_keeps 29 = .ok (.getfield 59, 3) := by decide +kernel
theorem dX11_keeps_32 : decode cX11_keeps 32 = .ok (.aload_n 0, 1) := by decide +kernel
theorem dX11_keeps_33 : decode cX11_keeps 33 = .ok (.getfield 183, 3) := by decide +kernel
theorem dX11_keeps_36 : decode cX11_keeps 36 = .ok (.invokevirtual 216, 3) := by decide +kernel
theorem dX11_keeps_39 : decode cX11_keeps 39 = .ok (.aload_n 0, 1) := by decide +kernel
theorem dX11_keeps_40 : decode cX11_keeps 40 = .ok (.getfield 46, 3) := by decide +kernel
theorem dX11_keeps_43 : decode cX11_keeps 43 = .ok (.getfield 220, 3) := by decide +kernel
theorem dX11_keeps_46 : decode cX11_keeps 46 = .ok (.iload_n 1, 1) := by decide +kernel
theorem dX11_keeps_47 : decode cX11_keeps 47 = .ok (.iaload, 1) := by decide +kernel
theorem dX11_keeps_48 : decode cX11_keeps 48 = .ok (.ireturn, 1) := by decide +kernel
theorem dX11_prune_0 : decode cX11_prune 0 = .ok (.aload_n 0, 1) := by decide +kernel
theorem dX11_prune_1 : decode cX11_prune 1 = .ok (.getfield 10, 3) := by decide +kernel
theorem dX11_prune_4 : decode cX11_prune 4 = .ok (.getfield 80, 3) := by decide +kernel
theorem dX11_prune_7 : decode cX11_prune 7 = .ok (.ifCond .eq 6, 3) := by decide +kernel
theorem dX11_prune_10 : decode cX11_prune 10 = .ok (.bipush (-106), 2) := by decide +kernel
theorem dX11_prune_12 : decode cX11_prune 12 = .ok (.ireturn, 1) := by decide +kernel
theorem dX11_prune_13 : decode cX11_prune 13 = .ok (.aload_n 0, 1) := by decide +kernel
theorem dX11_prune_14 : decode cX11_prune 14 = .ok (.invokevirtual 186, 3) := by decide +kernel
theorem dX11_prune_17 : decode cX11_prune 17 = .ok (.istore_n 2, 1) := by decide +kernel
theorem dX11_prune_18 : decode cX11_prune 18 = .ok (.aload_n 0, 1) := by decide +kernel
theorem dX11_prune_19 : decode cX11_prune 19 = .ok (.getfield 46, 3) := by decide +kernel
theorem dX11_prune_22 : decode cX11_prune 22 = .ok (.aload_n 0, 1) := by decide +kernel
theorem dX11_prune_23 : decode cX11_prune 23 = .ok (.getfield 59, 3) := by decide +kernel
theorem dX11_prune_26 : decode cX11_prune 26 = .ok (.aload_n 0, 1) := by decide +kernel
theorem dX11_prune_27 : decode cX11_prune 27 = .ok (.getfield 183, 3) := by decide +kernel
theorem dX11_prune_30 : decode cX11_prune 30 = .ok (.invokevirtual 216, 3) := by decide +kernel
theorem dX11_prune_33 : decode cX11_prune 33 = .ok (.iconst 0, 1) := by decide +kernel
theorem dX11_prune_34 : decode cX11_prune 34 = .ok (.istore_n 3, 1) := by decide +kernel
theorem dX11_prune_35 : decode cX11_prune 35 = .ok (.iconst 0, 1) := by decide +kernel
theorem dX11_prune_36 : decode cX11_prune 36 = .ok (.istore 4, 2) := by decide +kernel
theorem dX11_prune_38 : decode cX11_prune 38 = .ok (.iload 4, 2) := by decide +kernel
theorem dX11_prune_40 : decode cX11_prune 40 = .ok (.aload_n 0, 1) := by decide +kernel
theorem dX11_prune_41 : decode cX11_prune 41 = .ok (.getfield 183, 3) := by decide +kernel
theorem dX11_prune_44 : decode cX11_prune 44 = .ok (.if_icmp .ge 26, 3) := by decide +kernel
theorem dX11_prune_47 : decode cX11_prune 47 = .ok (.iload_n 3, 1) := by decide +kernel
theorem dX11_prune_48 : decode cX11_prune 48 = .ok (.aload_n 0, 1) := by decide +kernel
theorem dX11_prune_49 : decode cX11_prune 49 = .ok (.iload 4, 2) := by decide +kernel
theorem dX11_prune_51 : decode cX11_prune 51 = .ok (.invokevirtual 223, 3) := by decide +kernel
theorem dX11_prune_54 : decode cX11_prune 54 = .ok (.ifCond .eq 7, 3) := by decide +kernel
theorem dX11_prune_57 : decode cX11_prune 57 = .ok (.iconst 1, 1) := by decide +kernel
theorem dX11_prune_58 : decode cX11_prune 58 = .ok (.goto 4, 3) := by decide +kernel
theorem dX11_prune_61 : decode cX11_prune 61 = .ok (.iconst 0, 1) := by decide +kernel
theorem dX11_prune_62 : decode cX11_prune 62 = .ok (.iadd, 1) := by decide +kernel
theorem dX11_prune_63 : decode cX11_prune 63 = .ok (.istore_n 3, 1) := by decide +kernel
theorem dX11_prune_64 : decode cX11_prune 64 = .ok (.iinc 4 1, 3) := by decide +kernel
theorem dX11_prune_67 : decode cX11_prune 67 = .ok (.goto (-29), 3) := by decide +kernel
theorem dX11_prune_70 : decode cX11_prune 70 = .ok (.iload_n 2, 1) := by decide +kernel
theorem dX11_prune_71 : decode cX11_prune 71 = .ok (.ifCond .le 15, 3) := by decide +kernel
theorem dX11_prune_74 : decode cX11_prune 74 = .ok (.iload_n 3, 1) := by decide +kernel
theorem dX11_prune_75 : decode cX11_prune 75 = .ok (.iload_n 2, 1) := by decide +kernel
theorem dX11_prune_76 : decode cX11_prune 76 = .ok (.if_icmp .ne 10, 3) := by decide +kernel
theorem dX11_prune_79 : decode cX11_prune 79 = .ok (.iload_n 1, 1) := by decide +kernel
theorem dX11_prune_80 : decode cX11_prune 80 = .ok (.ifCond .ne 6, 3) := by decide +kernel
theorem dX11_prune_83 : decode cX11_prune 83 = .ok (.bipush (-103), 2) := by decide +kernel
theorem dX11_prune_85 : decode cX11_prune 85 = .ok (.ireturn, 1) := by decide +kernel
theorem dX11_prune_86 : decode cX11_prune 86 = .ok (.iconst 0, 1) := by decide +kernel
theorem dX11_prune_87 : decode cX11_prune 87 = .ok (.istore 4, 2) := by decide +kernel
theorem dX11_prune_89 : decode cX11_prune 89 = .ok (.iload 4, 2) := by decide +kernel
theorem dX11_prune_91 : decode cX11_prune 91 = .ok (.aload_n 0, 1) := by decide +kernel
theorem dX11_prune_92 : decode cX11_prune 92 = .ok (.getfield 183, 3) := by decide +kernel
theorem dX11_prune_95 : decode cX11_prune 95 = .ok (.if_icmp .ge 32, 3) := by decide +kernel
theorem dX11_prune_98 : decode cX11_prune 98 = .ok (.aload_n 0, 1) := by decide +kernel
theorem dX11_prune_99 : decode cX11_prune 99 = .ok (.iload 4, 2) := by decide +kernel
theorem dX11_prune_101 : decode cX11_prune 101 = .ok (.invokevirtual 223, 3) := by decide +kernel
theorem dX11_prune_104 : decode cX11_prune 104 = .ok (.ifCond .eq 17, 3) := by decide +kernel
theorem dX11_prune_107 : decode cX11_prune 107 = .ok (.aload_n 0, 1) := by decide +kernel
theorem dX11_prune_108 : decode cX11_prune 108 = .ok (.iload 4, 2) := by decide +kernel
theorem dX11_prune_110 : decode cX11_prune 110 = .ok (.invokevirtual 206, 3) := by decide +kernel
theorem dX11_prune_113 : decode cX11_prune 113 = .ok (.ifCond .ne 8, 3) := by decide +kernel
theorem dX11_prune_116 : decode cX11_prune 116 = .ok (.aload_n 0, 1) := by decide +kernel
theorem dX11_prune_117 : decode cX11_prune 117 = .ok (.invokevirtual 151, 3) := by decide +kernel
theorem dX11_prune_120 : decode cX11_prune 120 = .ok (.ireturn, 1) := by decide +kernel
theorem dX11_prune_121 : decode cX11_prune 121 = .ok (.iinc 4 1, 3) := by decide +kernel
theorem dX11_prune_124 : decode cX11_prune 124 = .ok (.goto (-35), 3) := by decide +kernel
theorem dX11_prune_127 : decode cX11_prune 127 = .ok (.iload_n 3, 1) := by decide +kernel
theorem dX11_prune_128 : decode cX11_prune 128 = .ok (.ireturn, 1) := by decide +kernel
theorem dX11_snapshotIsThere_0 : decode cX11_snapshotIsThere 0 = .ok (.iload_n 1, 1) := by decide +kernel
theorem dX11_snapshotIsThere_1 : decode cX11_snapshotIsThere 1 = .ok (.ifCond .lt 27, 3) := by decide +kernel
theorem dX11_snapshotIsThere_4 : decode cX11_snapshotIsThere 4 = .ok (.iload_n 1, 1) := by decide +kernel
theorem dX11_snapshotIsThere_5 : decode cX11_snapshotIsThere 5 = .ok (.aload_n 0, 1) := by decide +kernel
theorem dX11_snapshotIsThere_6 : decode cX11_snapshotIsThere 6 = .ok (.getfield 183, 3) := by decide +kernel
theorem dX11_snapshotIsThere_9 : decode cX11_snapshotIsThere 9 = .ok (.if_icmp .ge 19, 3) := by decide +kernel
theorem dX11_snapshotIsThere_12 : decode cX11_snapshotIsThere 12 = .ok (.aload_n 0, 1) := by decide +kernel
theorem dX11_snapshotIsThere_13 : decode cX11_snapshotIsThere 13 = .ok (.getfield 59, 3) := by decide +kernel
theorem dX11_snapshotIsThere_16 : decode cX11_snapshotIsThere 16 = .ok (.iload_n 1, 1) := by decide +kernel
theorem dX11_snapshotIsThere_17 : decode cX11_snapshotIsThere 17 = .ok (.aaload, 1) := by decide +kernel
theorem dX11_snapshotIsThere_18 : decode cX11_snapshotIsThere 18 = .ok (.getfield 226, 3) := by decide +kernel
theorem dX11_snapshotIsThere_21 : decode cX11_snapshotIsThere 21 = .ok (.ifCond .ne 7, 3) := by decide +kernel
theorem dX11_snapshotIsThere_24 : decode cX11_snapshotIsThere 24 = .ok (.iconst 1, 1) := by decide +kernel
theorem dX11_snapshotIsThere_25 : decode cX11_snapshotIsThere 25 = .ok (.goto 4, 3) := by decide +kernel
theorem dX11_snapshotIsThere_28 : decode cX11_snapshotIsThere 28 = .ok (.iconst 0, 1) := by decide +kernel
theorem dX11_snapshotIsThere_29 : decode cX11_snapshotIsThere 29 = .ok (.ireturn, 1) := by decide +kernel
theorem dX11_snapshotIsUnkept_0 : decode cX11_snapshotIsUnkept 0 = .ok (.aload_n 0, 1) := by decide +kernel
theorem dX11_snapshotIsUnkept_1 : decode cX11_snapshotIsUnkept 1 = .ok (.getfield 59, 3) := by decide +kernel
theorem dX11_snapshotIsUnkept_4 : decode cX11_snapshotIsUnkept 4 = .ok (.iload_n 1, 1) := by decide +kernel
theorem dX11_snapshotIsUnkept_5 : decode cX11_snapshotIsUnkept 5 = .ok (.aaload, 1) := by decide +kernel
theorem dX11_snapshotIsUnkept_6 : decode cX11_snapshotIsUnkept 6 = .ok (.getfield 226, 3) := by decide +kernel
theorem dX11_snapshotIsUnkept_9 : decode cX11_snapshotIsUnkept 9 = .ok (.ifCond .ne 19, 3) := by decide +kernel
theorem dX11_snapshotIsUnkept_12 : decode cX11_snapshotIsUnkept 12 = .ok (.aload_n 0, 1) := by decide +kernel
theorem dX11_snapshotIsUnkept_13 : decode cX11_snapshotIsUnkept 13 = .ok (.getfield 46, 3) := by decide +kernel
theorem dX11_snapshotIsUnkept_16 : decode cX11_snapshotIsUnkept 16 = .ok (.getfield 220, 3) := by decide +kernel
theorem dX11_snapshotIsUnkept_19 : decode cX11_snapshotIsUnkept 19 = .ok (.iload_n 1, 1) := by decide +kernel
theorem dX11_snapshotIsUnkept_20 : decode cX11_snapshotIsUnkept 20 = .ok (.iaload, 1) := by decide +kernel
theorem dX11_snapshotIsUnkept_21 : decode cX11_snapshotIsUnkept 21 = .ok (.ifCond .ne 7, 3) := by decide +kernel
theorem dX11_snapshotIsUnkept_24 : decode cX11_snapshotIsUnkept 24 = .ok (.iconst 1, 1) := by decide +kernel
theorem dX11_snapshotIsUnkept_25 : decode cX11_snapshotIsUnkept 25 = .ok (.goto 4, 3) := by decide +kernel
theorem dX11_snapshotIsUnkept_28 : decode cX11_snapshotIsUnkept 28 = .ok (.iconst 0, 1) := by decide +kernel
theorem dX11_snapshotIsUnkept_29 : decode cX11_snapshotIsUnkept 29 = .ok (.ireturn, 1) := by decide +kernel
theorem dX11_snapshotsThere_0 : decode cX11_snapshotsThere 0 = .ok (.iconst 0, 1) := by decide +kernel
theorem dX11_snapshotsThere_1 : decode cX11_snapshotsThere 1 = .ok (.istore_n 1, 1) := by decide +kernel
theorem dX11_snapshotsThere_2 : decode cX11_snapshotsThere 2 = .ok (.iconst 0, 1) := by decide +kernel
theorem dX11_snapshotsThere_3 : decode cX11_snapshotsThere 3 = .ok (.istore_n 2, 1) := by decide +kernel
theorem dX11_snapshotsThere_4 : decode cX11_snapshotsThere 4 = .ok (.iload_n 2, 1) := by decide +kernel
theorem dX11_snapshotsThere_5 : decode cX11_snapshotsThere 5 = .ok (.aload_n 0, 1) := by decide +kernel
theorem dX11_snapshotsThere_6 : decode cX11_snapshotsThere 6 = .ok (.getfield 183, 3) := by decide +kernel
theorem dX11_snapshotsThere_9 : decode cX11_snapshotsThere 9 = .ok (.if_icmp .ge 29, 3) := by decide +kernel
theorem dX11_snapshotsThere_12 : decode cX11_snapshotsThere 12 = .ok (.iload_n 1, 1) := by decide +kernel
theorem dX11_snapshotsThere_13 : decode cX11_snapshotsThere 13 = .ok (.aload_n 0, 1) := by decide +kernel
theorem dX11_snapshotsThere_14 : decode cX11_snapshotsThere 14 = .ok (.getfield 59, 3) := by decide +kernel
theorem dX11_snapshotsThere_17 : decode cX11_snapshotsThere 17 = .ok (.iload_n 2, 1) := by decide +kernel
theorem dX11_snapshotsThere_18 : decode cX11_snapshotsThere 18 = .ok (.aaload, 1) := by decide +kernel
theorem dX11_snapshotsThere_19 : decode cX11_snapshotsThere 19 = .ok (.getfield 226, 3) := by decide +kernel
theorem dX11_snapshotsThere_22 : decode cX11_snapshotsThere 22 = .ok (.ifCond .eq 7, 3) := by decide +kernel
theorem dX11_snapshotsThere_25 : decode cX11_snapshotsThere 25 = .ok (.iconst 0, 1) := by decide +kernel
theorem dX11_snapshotsThere_26 : decode cX11_snapshotsThere 26 = .ok (.goto 4, 3) := by decide +kernel
theorem dX11_snapshotsThere_29 : decode cX11_snapshotsThere 29 = .ok (.iconst 1, 1) := by decide +kernel
theorem dX11_snapshotsThere_30 : decode cX11_snapshotsThere 30 = .ok (.iadd, 1) := by decide +kernel
theorem dX11_snapshotsThere_31 : decode cX11_snapshotsThere 31 = .ok (.istore_n 1, 1) := by decide +kernel
theorem dX11_snapshotsThere_32 : decode cX11_snapshotsThere 32 = .ok (.iinc 2 1, 3) := by decide +kernel
theorem dX11_snapshotsThere_35 : decode cX11_snapshotsThere 35 = .ok (.goto (-31), 3) := by decide +kernel
theorem dX11_snapshotsThere_38 : decode cX11_snapshotsThere 38 = .ok (.iload_n 1, 1) := by decide +kernel
theorem dX11_snapshotsThere_39 : decode cX11_snapshotsThere 39 = .ok (.ireturn, 1) := by decide +kernel
theorem dX11_removeSnapshot_0 : decode cX11_removeSnapshot 0 = .ok (.aload_n 0, 1) := by decide +kernel
theorem dX11_removeSnapshot_1 : decode cX11_removeSnapshot 1 = .ok (.getfield 10, 3) := by decide +kernel
theorem dX11_removeSnapshot_4 : decode cX11_removeSnapshot 4 = .ok (.iconst 3, 1) := by decide +kernel
theorem dX11_removeSnapshot_5 : decode cX11_removeSnapshot 5 = .ok (.iload_n 1, 1) := by decide +kernel
theorem dX11_removeSnapshot_6 : decode cX11_removeSnapshot 6 = .ok (.invokevirtual 189, 3) := by decide +kernel
theorem dX11_removeSnapshot_9 : decode cX11_removeSnapshot 9 = .ok (.ifCond .ne 5, 3) := by decide +kernel
theorem dX11_removeSnapshot_12 : decode cX11_removeSnapshot 12 = .ok (.iconst 0, 1) := by decide +kernel
theorem dX11_removeSnapshot_13 : decode cX11_removeSnapshot 13 = .ok (.ireturn, 1) := by decide +kernel
theorem dX11_removeSnapshot_14 : decode cX11_removeSnapshot 14 = .ok (.aload_n 0, 1) := by decide +kernel
theorem dX11_removeSnapshot_15 : decode cX11_removeSnapshot 15 = .ok (.getfield 59, 3) := by decide +kernel
theorem dX11_removeSnapshot_18 : decode cX11_removeSnapshot 18 = .ok (.iload_n 1, 1) := by decide +kernel
theorem dX11_removeSnapshot_19 : decode cX11_removeSnapshot 19 = .ok (.aaload, 1) := by decide +kernel
theorem dX11_removeSnapshot_20 : decode cX11_removeSnapshot 20 = .ok (.iconst 1, 1) := by decide +kernel
theorem dX11_removeSnapshot_21 : decode cX11_removeSnapshot 21 = .ok (.putfield 226, 3) := by decide +kernel
theorem dX11_removeSnapshot_24 : decode cX11_removeSnapshot 24 = .ok (.iconst 1, 1) := by decide +kernel
theorem dX11_removeSnapshot_25 : decode cX11_removeSnapshot 25 = .ok (.ireturn, 1) := by decide +kernel
theorem dX11_sweep_0 : decode cX11_sweep 0 = .ok (.aload_n 0, 1) := by decide +kernel
theorem dX11_sweep_1 : decode cX11_sweep 1 = .ok (.getfield 10, 3) := by decide +kernel
theorem dX11_sweep_4 : decode cX11_sweep 4 = .ok (.getfield 80, 3) := by decide +kernel
theorem dX11_sweep_7 : decode cX11_sweep 7 = .ok (.ifCond .eq 6, 3) := by decide +kernel
theorem dX11_sweep_10 : decode cX11_sweep 10 = .ok (.bipush (-106), 2) := by decide +kernel
theorem dX11_sweep_12 : decode cX11_sweep 12 = .ok (.ireturn, 1) := by decide +kernel
theorem dX11_sweep_13 : decode cX11_sweep 13 = .ok (.aload_n 0, 1) := by decide +kernel
theorem dX11_sweep_14 : decode cX11_sweep 14 = .ok (.getfield 39, 3) := by decide +kernel
theorem dX11_sweep_17 : decode cX11_sweep 17 = .ok (.getfield 229, 3) := by decide +kernel
theorem dX11_sweep_20 : decode cX11_sweep 20 = .ok (.ifCond .eq 6, 3) := by decide +kernel
theorem dX11_sweep_23 : decode cX11_sweep 23 = .ok (.bipush (-103), 2) := by decide +kernel
theorem dX11_sweep_25 : decode cX11_sweep 25 = .ok (.ireturn, 1) := by decide +kernel
theorem dX11_sweep_26 : decode cX11_sweep 26 = .ok (.aload_n 0, 1) := by decide +kernel
theorem dX11_sweep_27 : decode cX11_sweep 27 = .ok (.getfield 10, 3) := by decide +kernel
theorem dX11_sweep_30 : decode cX11_sweep 30 = .ok (.invokevirtual 232, 3) := by decide +kernel
theorem dX11_sweep_33 : decode cX11_sweep 33 = .ok (.ifCond .ne 8, 3) := by decide +kernel
theorem dX11_sweep_36 : decode cX11_sweep 36 = .ok (.aload_n 0, 1) := by decide +kernel
theorem dX11_sweep_37 : decode cX11_sweep 37 = .ok (.invokevirtual 151, 3) := by decide +kernel
theorem dX11_sweep_40 : decode cX11_sweep 40 = .ok (.ireturn, 1) := by decide +kernel
theorem dX11_sweep_41 : decode cX11_sweep 41 = .ok (.aload_n 0, 1) := by decide +kernel
theorem dX11_sweep_42 : decode cX11_sweep 42 = .ok (.getfield 39, 3) := by decide +kernel
theorem dX11_sweep_45 : decode cX11_sweep 45 = .ok (.invokevirtual 235, 3) := by decide +kernel
theorem dX11_sweep_48 : decode cX11_sweep 48 = .ok (.iconst 0, 1) := by decide +kernel
theorem dX11_sweep_49 : decode cX11_sweep 49 = .ok (.istore_n 1, 1) := by decide +kernel
theorem dX11_sweep_50 : decode cX11_sweep 50 = .ok (.iload_n 1, 1) := by decide +kernel
theorem dX11_sweep_51 : decode cX11_sweep 51 = .ok (.aload_n 0, 1) := by decide +kernel
theorem dX11_sweep_52 : decode cX11_sweep 52 = .ok (.getfield 183, 3) := by decide +kernel
theorem dX11_sweep_55 : decode cX11_sweep 55 = .ok (.if_icmp .ge 47, 3) := by decide +kernel
theorem dX11_sweep_58 : decode cX11_sweep 58 = .ok (.aload_n 0, 1) := by decide +kernel
theorem dX11_sweep_59 : decode cX11_sweep 59 = .ok (.getfield 59, 3) := by decide +kernel
theorem dX11_sweep_62 : decode cX11_sweep 62 = .ok (.iload_n 1, 1) := by decide +kernel
theorem dX11_sweep_63 : decode cX11_sweep 63 = .ok (.aaload, 1) := by decide +kernel
theorem dX11_sweep_64 : decode cX11_sweep 64 = .ok (.getfield 226, 3) := by decide +kernel
theorem dX11_sweep_67 : decode cX11_sweep 67 = .ok (.ifCond .ne 29, 3) := by decide +kernel
theorem dX11_sweep_70 : decode cX11_sweep 70 = .ok (.aload_n 0, 1) := by decide +kernel
theorem dX11_sweep_71 : decode cX11_sweep 71 = .ok (.getfield 39, 3) := by decide +kernel
theorem dX11_sweep_74 : decode cX11_sweep 74 = .ok (.aload_n 0, 1) := by decide +kernel
theorem dX11_sweep_75 : decode cX11_sweep 75 = .ok (.getfield 59, 3) := by decide +kernel
theorem dX11_sweep_78 : decode cX11_sweep 78 = .ok (.iload_n 1, 1) := by decide +kernel
theorem dX11_sweep_79 : decode cX11_sweep 79 = .ok (.aaload, 1) := by decide +kernel
theorem dX11_sweep_80 : decode cX11_sweep 80 = .ok (.getfield 238, 3) := by decide +kernel
theorem dX11_sweep_83 : decode cX11_sweep 83 = .ok (.aload_n 0, 1) := by decide +kernel
theorem dX11_sweep_84 : decode cX11_sweep 84 = .ok (.getfield 59, 3) := by decide +kernel
theorem dX11_sweep_87 : decode cX11_sweep 87 = .ok (.iload_n 1, 1) := by decide +kernel
theorem dX11_sweep_88 : decode cX11_sweep 88 = .ok (.aaload, 1) := by decide +kernel
theorem dX11_sweep_89 : decode cX11_sweep 89 = .ok (.getfield 238, 3) := by decide +kernel
theorem dX11_sweep_92 : decode cX11_sweep 92 = .ok (.arraylength, 1) := by decide +kernel
theorem dX11_sweep_93 : decode cX11_sweep 93 = .ok (.invokevirtual 241, 3) := by decide +kernel
theorem dX11_sweep_96 : decode cX11_sweep 96 = .ok (.iinc 1 1, 3) := by decide +kernel
theorem dX11_sweep_99 : decode cX11_sweep 99 = .ok (.goto (-49), 3) := by decide +kernel
theorem dX11_sweep_102 : decode cX11_sweep 102 = .ok (.iconst 0, 1) := by decide +kernel
theorem dX11_sweep_103 : decode cX11_sweep 103 = .ok (.istore_n 1, 1) := by decide +kernel
theorem dX11_sweep_104 : decode cX11_sweep 104 = .ok (.iload_n 1, 1) := by decide +kernel
theorem dX11_sweep_105 : decode cX11_sweep 105 = .ok (.iconst 4, 1) := by decide +kernel
theorem dX11_sweep_106 : decode cX11_sweep 106 = .ok (.if_icmp .ge 19, 3) := by decide +kernel
theorem dX11_sweep_109 : decode cX11_sweep 109 = .ok (.aload_n 0, 1) := by decide +kernel
theorem dX11_sweep_110 : decode cX11_sweep 110 = .ok (.aload_n 0, 1) := by decide +kernel
theorem dX11_sweep_111 : decode cX11_sweep 111 = .ok (.getfield 52, 3) := by decide +kernel
theorem dX11_sweep_114 : decode cX11_sweep 114 = .ok (.iload_n 1, 1) := by decide +kernel
theorem dX11_sweep_115 : decode cX11_sweep 115 = .ok (.aaload, 1) := by decide +kernel
theorem dX11_sweep_116 : decode cX11_sweep 116 = .ok (.invokevirtual 245, 3) := by decide +kernel
theorem dX11_sweep_119 : decode cX11_sweep 119 = .ok (.iinc 1 1, 3) := by decide +kernel
theorem dX11_sweep_122 : decode cX11_sweep 122 = .ok (.goto (-18), 3) := by decide +kernel
theorem dX11_sweep_125 : decode cX11_sweep 125 = .ok (.aload_n 0, 1) := by decide +kernel
theorem dX11_sweep_126 : decode cX11_sweep 126 = .ok (.getfield 39, 3) := by decide +kernel
theorem dX11_sweep_129 : decode cX11_sweep 129 = .ok (.invokevirtual 249, 3) := by decide +kernel
theorem dX11_sweep_132 : decode cX11_sweep 132 = .ok (.aload_n 0, 1) := by decide +kernel
theorem dX11_sweep_133 : decode cX11_sweep 133 = .ok (.getfield 39, 3) := by decide +kernel
theorem dX11_sweep_136 : decode cX11_sweep 136 = .ok (.getfield 252, 3) := by decide +kernel
theorem dX11_sweep_139 : decode cX11_sweep 139 = .ok (.ireturn, 1) := by decide +kernel
theorem dX11_lineUpOrDismiss_0 : decode cX11_lineUpOrDismiss 0 = .ok (.aload_n 1, 1) := by decide +kernel
theorem dX11_lineUpOrDismiss_1 : decode cX11_lineUpOrDismiss 1 = .ok (.getfield 87, 3) := by decide +kernel
theorem dX11_lineUpOrDismiss_4 : decode cX11_lineUpOrDismiss 4 = .ok (.ifCond .ne 4, 3) := by decide +kernel
theorem dX11_lineUpOrDismiss_7 : decode cX11_lineUpOrDismiss 7 = .ok (.return_, 1) := by decide +kernel
theorem dX11_lineUpOrDismiss_8 : decode cX11_lineUpOrDismiss 8 = .ok (.aload_n 1, 1) := by decide +kernel
theorem dX11_lineUpOrDismiss_9 : decode cX11_lineUpOrDismiss 9 = .ok (.aload_n 0, 1) := by decide +kernel
theorem dX11_lineUpOrDismiss_10 : decode cX11_lineUpOrDismiss 10 = .ok (.getfield 76, 3) := by decide +kernel
theorem dX11_lineUpOrDismiss_13 : decode cX11_lineUpOrDismiss 13 = .ok (.invokevirtual 102, 3) := by decide +kernel
theorem dX11_lineUpOrDismiss_16 : decode cX11_lineUpOrDismiss 16 = .ok (.ifCond .eq 11, 3) := by decide +kernel
theorem dX11_lineUpOrDismiss_19 : decode cX11_lineUpOrDismiss 19 = .ok (.aload_n 1, 1) := by decide +kernel
theorem dX11_lineUpOrDismiss_20 : decode cX11_lineUpOrDismiss 20 = .ok (.iconst 0, 1) := by decide +kernel
theorem dX11_lineUpOrDismiss_21 : decode cX11_lineUpOrDismiss 21 = .ok (.putfield 87, 3) := by decide +kernel
theorem dX11_lineUpOrDismiss_24 : decode cX11_lineUpOrDismiss 24 = .ok (.goto 18, 3) := by decide +kernel
theorem dX11_lineUpOrDismiss_27 : decode cX11_lineUpOrDismiss 27 = .ok (.aload_n 0, 1) := by decide +kernel
theorem dX11_lineUpOrDismiss_28 : decode cX11_lineUpOrDismiss 28 = .ok (.getfield 39, 3) := by decide +kernel
theorem dX11_lineUpOrDismiss_31 : decode cX11_lineUpOrDismiss 31 = .ok (.aload_n 1, 1) := by decide +kernel
theorem dX11_lineUpOrDismiss_32 : decode cX11_lineUpOrDismiss 32 = .ok (.getfield 193, 3) := by decide +kernel
theorem dX11_lineUpOrDismiss_35 : decode cX11_lineUpOrDismiss 35 = .ok (.aload_n 1, 1) := by decide +kernel
theorem dX11_lineUpOrDismiss_36 : decode cX11_lineUpOrDismiss 36 = .ok (.getfield 135, 3) := by decide +kernel
theorem dX11_lineUpOrDismiss_39 : decode cX11_lineUpOrDismiss 39 = .ok (.invokevirtual 241, 3) := by decide +kernel
theorem dX11_lineUpOrDismiss_42 : decode cX11_lineUpOrDismiss 42 = .ok (.return_, 1) := by decide +kernel
theorem dX11_step_0 : decode cX11_step 0 = .ok (.aload_n 0, 1) := by decide +kernel
theorem dX11_step_1 : decode cX11_step 1 = .ok (.getfield 10, 3) := by decide +kernel
theorem dX11_step_4 : decode cX11_step 4 = .ok (.getfield 80, 3) := by decide +kernel
theorem dX11_step_7 : decode cX11_step 7 = .ok (.ifCond .eq 6, 3) := by decide +kernel
theorem dX11_step_10 : decode cX11_step 10 = .ok (.bipush (-106), 2) := by decide +kernel
theorem dX11_step_12 : decode cX11_step 12 = .ok (.ireturn, 1) := by decide +kernel
theorem dX11_step_13 : decode cX11_step 13 = .ok (.iload_n 1, 1) := by decide +kernel
theorem dX11_step_14 : decode cX11_step 14 = .ok (.iconst 1, 1) := by decide +kernel
theorem dX11_step_15 : decode cX11_step 15 = .ok (.if_icmp .lt 10, 3) := by decide +kernel
theorem dX11_step_18 : decode cX11_step 18 = .ok (.iload_n 1, 1) := by decide +kernel
theorem dX11_step_19 : decode cX11_step 19 = .ok (.sipush 500, 3) := by decide +kernel
theorem dX11_step_22 : decode cX11_step 22 = .ok (.if_icmp .le 6, 3) := by decide +kernel
theorem dX11_step_25 : decode cX11_step 25 = .ok (.bipush (-102), 2) := by decide +kernel
theorem dX11_step_27 : decode cX11_step 27 = .ok (.ireturn, 1) := by decide +kernel
theorem dX11_step_28 : decode cX11_step 28 = .ok (.aload_n 0, 1) := by decide +kernel
theorem dX11_step_29 : decode cX11_step 29 = .ok (.getfield 39, 3) := by decide +kernel
theorem dX11_step_32 : decode cX11_step 32 = .ok (.getfield 229, 3) := by decide +kernel
theorem dX11_step_35 : decode cX11_step 35 = .ok (.ifCond .ne 6, 3) := by decide +kernel
theorem dX11_step_38 : decode cX11_step 38 = .ok (.bipush (-103), 2) := by decide +kernel
theorem dX11_step_40 : decode cX11_step 40 = .ok (.ireturn, 1) := by decide +kernel
theorem dX11_step_41 : decode cX11_step 41 = .ok (.iconst 0, 1) := by decide +kernel
theorem dX11_step_42 : decode cX11_step 42 = .ok (.istore_n 2, 1) := by decide +kernel
theorem dX11_step_43 : decode cX11_step 43 = .ok (.iload_n 2, 1) := by decide +kernel
theorem dX11_step_44 : decode cX11_step 44 = .ok (.iload_n 1, 1) := by decide +kernel
theorem dX11_step_45 : decode cX11_step 45 = .ok (.if_icmp .ge 36, 3) := by decide +kernel
theorem dX11_step_48 : decode cX11_step 48 = .ok (.aload_n 0, 1) := by decide +kernel
theorem dX11_step_49 : decode cX11_step 49 = .ok (.getfield 39, 3) := by decide +kernel
theorem dX11_step_52 : decode cX11_step 52 = .ok (.getfield 229, 3) := by decide +kernel
theorem dX11_step_55 : decode cX11_step 55 = .ok (.ifCond .ne 5, 3) := by decide +kernel
theorem dX11_step_58 : decode cX11_step 58 = .ok (.iload_n 2, 1) := by decide +kernel
theorem dX11_step_59 : decode cX11_step 59 = .ok (.ireturn, 1) := by decide +kernel
theorem dX11_step_60 : decode cX11_step 60 = .ok (.aload_n 0, 1) := by decide +kernel
theorem dX11_step_61 : decode cX11_step 61 = .ok (.getfield 39, 3) := by decide +kernel
theorem dX11_step_64 : decode cX11_step 64 = .ok (.invokevirtual 255, 3) := by decide +kernel
theorem dX11_step_67 : decode cX11_step 67 = .ok (.ifCond .ne 8, 3) := by decide +kernel
theorem dX11_step_70 : decode cX11_step 70 = .ok (.aload_n 0, 1) := by decide +kernel
theorem dX11_step_71 : decode cX11_step 71 = .ok (.invokevirtual 151, 3) := by decide +kernel
theorem dX11_step_74 : decode cX11_step 74 = .ok (.ireturn, 1) := by decide +kernel
theorem dX11_step_75 : decode cX11_step 75 = .ok (.iinc 2 1, 3) := by decide +kernel
theorem dX11_step_78 : decode cX11_step 78 = .ok (.goto (-35), 3) := by decide +kernel
theorem dX11_step_81 : decode cX11_step 81 = .ok (.iload_n 1, 1) := by decide +kernel
theorem dX11_step_82 : decode cX11_step 82 = .ok (.ireturn, 1) := by decide +kernel
theorem dX11_share_0 : decode cX11_share 0 = .ok (.aload_n 0, 1) := by decide +kernel
theorem dX11_share_1 : decode cX11_share 1 = .ok (.getfield 10, 3) := by decide +kernel
theorem dX11_share_4 : decode cX11_share 4 = .ok (.getfield 80, 3) := by decide +kernel
theorem dX11_share_7 : decode cX11_share 7 = .ok (.ifCond .eq 6, 3) := by decide +kernel
theorem dX11_share_10 : decode cX11_share 10 = .ok (.bipush (-106), 2) := by decide +kernel
theorem dX11_share_12 : decode cX11_share 12 = .ok (.ireturn, 1) := by decide +kernel
theorem dX11_share_13 : decode cX11_share 13 = .ok (.iload_n 1, 1) := by decide +kernel
theorem dX11_share_14 : decode cX11_share 14 = .ok (.ifCond .lt 9, 3) := by decide +kernel
theorem dX11_share_17 : decode cX11_share 17 = .ok (.iload_n 1, 1) := by decide +kernel
theorem dX11_share_18 : decode cX11_share 18 = .ok (.bipush 100, 2) := by decide +kernel
theorem dX11_share_20 : decode cX11_share 20 = .ok (.if_icmp .le 6, 3) := by decide +kernel
theorem dX11_share_23 : decode cX11_share 23 = .ok (.bipush (-102), 2) := by decide +kernel
theorem dX11_share_25 : decode cX11_share 25 = .ok (.ireturn, 1) := by decide +kernel
theorem dX11_share_26 : decode cX11_share 26 = .ok (.aload_n 0, 1) := by decide +kernel
theorem dX11_share_27 : decode cX11_share 27 = .ok (.getfield 39, 3) := by decide +kernel
theorem dX11_share_30 : decode cX11_share 30 = .ok (.getfield 258, 3) := by decide +kernel
theorem dX11_share_33 : decode cX11_share 33 = .ok (.istore_n 2, 1) := by decide +kernel
theorem dX11_share_34 : decode cX11_share 34 = .ok (.aload_n 0, 1) := by decide +kernel
theorem dX11_share_35 : decode cX11_share 35 = .ok (.getfield 39, 3) := by decide +kernel
theorem dX11_share_38 : decode cX11_share 38 = .ok (.iload_n 1, 1) := by decide +kernel
theorem dX11_share_39 : decode cX11_share 39 = .ok (.putfield 258, 3) := by decide +kernel
theorem dX11_share_42 : decode cX11_share 42 = .ok (.iload_n 2, 1) := by decide +kernel
theorem dX11_share_43 : decode cX11_share 43 = .ok (.ireturn, 1) := by decide +kernel
theorem dX11_cut_0 : decode cX11_cut 0 = .ok (.aload_n 0, 1) := by decide +kernel
theorem dX11_cut_1 : decode cX11_cut 1 = .ok (.getfield 10, 3) := by decide +kernel
theorem dX11_cut_4 : decode cX11_cut 4 = .ok (.getfield 80, 3) := by decide +kernel
theorem dX11_cut_7 : decode cX11_cut 7 = .ok (.ifCond .eq 6, 3) := by decide +kernel
theorem dX11_cut_10 : decode cX11_cut 10 = .ok (.bipush (-106), 2) := by decide +kernel
theorem dX11_cut_12 : decode cX11_cut 12 = .ok (.ireturn, 1) := by decide +kernel
theorem dX11_cut_13 : decode cX11_cut 13 = .ok (.iload_n 1, 1) := by decide +kernel
theorem dX11_cut_14 : decode cX11_cut 14 = .ok (.iconst (-1), 1) := by decide +kernel
theorem dX11_cut_15 : decode cX11_cut 15 = .ok (.if_icmp .lt 10, 3) := by decide +kernel
theorem dX11_cut_18 : decode cX11_cut 18 = .ok (.iload_n 1, 1) := by decide +kernel
theorem dX11_cut_19 : decode cX11_cut 19 = .ok (.sipush 500, 3) := by decide +kernel
theorem dX11_cut_22 : decode cX11_cut 22 = .ok (.if_icmp .le 6, 3) := by decide +kernel
theorem dX11_cut_25 : decode cX11_cut 25 = .ok (.bipush (-102), 2) := by decide +kernel
theorem dX11_cut_27 : decode cX11_cut 27 = .ok (.ireturn, 1) := by decide +kernel
theorem dX11_cut_28 : decode cX11_cut 28 = .ok (.aload_n 0, 1) := by decide +kernel
theorem dX11_cut_29 : decode cX11_cut 29 = .ok (.getfield 10, 3) := by decide +kernel
theorem dX11_cut_32 : decode cX11_cut 32 = .ok (.iload_n 1, 1) := by decide +kernel
theorem dX11_cut_33 : decode cX11_cut 33 = .ok (.putfield 261, 3) := by decide +kernel
theorem dX11_cut_36 : decode cX11_cut 36 = .ok (.iconst 1, 1) := by decide +kernel
theorem dX11_cut_37 : decode cX11_cut 37 = .ok (.ireturn, 1) := by decide +kernel
theorem dX11_open_0 : decode cX11_open 0 = .ok (.aload_n 0, 1) := by decide +kernel
theorem dX11_open_1 : decode cX11_open 1 = .ok (.getfield 10, 3) := by decide +kernel
theorem dX11_open_4 : decode cX11_open 4 = .ok (.getfield 80, 3) := by decide +kernel
theorem dX11_open_7 : decode cX11_open 7 = .ok (.ifCond .ne 6, 3) := by decide +kernel
theorem dX11_open_10 : decode cX11_open 10 = .ok (.bipush (-103), 2) := by decide +kernel
theorem dX11_open_12 : decode cX11_open 12 = .ok (.ireturn, 1) := by decide +kernel
theorem dX11_open_13 : decode cX11_open 13 = .ok (.aload_n 0, 1) := by decide +kernel
theorem dX11_open_14 : decode cX11_open 14 = .ok (.getfield 10, 3) := by decide +kernel
theorem dX11_open_17 : decode cX11_open 17 = .ok (.iconst 0, 1) := by decide +kernel
theorem dX11_open_18 : decode cX11_open 18 = .ok (.putfield 80, 3) := by decide +kernel
theorem dX11_open_21 : decode cX11_open 21 = .ok (.aload_n 0, 1) := by decide +kernel
theorem dX11_open_22 : decode cX11_open 22 = .ok (.getfield 30, 3) := by decide +kernel
theorem dX11_open_25 : decode cX11_open 25 = .ok (.invokevirtual 264, 3) := by decide +kernel
theorem dX11_open_28 : decode cX11_open 28 = .ok (.ireturn, 1) := by decide +kernel
theorem dX11_losePower_0 : decode cX11_losePower 0 = .ok (.iconst 0, 1) := by decide +kernel
theorem dX11_losePower_1 : decode cX11_losePower 1 = .ok (.istore_n 1, 1) := by decide +kernel
theorem dX11_losePower_2 : decode cX11_losePower 2 = .ok (.iload_n 1, 1) := by decide +kernel
theorem dX11_losePower_3 : decode cX11_losePower 3 = .ok (.iconst 4, 1) := by decide +kernel
theorem dX11_losePower_4 : decode cX11_losePower 4 = .ok (.if_icmp .ge 19, 3) := by decide +kernel
theorem dX11_losePower_7 : decode cX11_losePower 7 = .ok (.aload_n 0, 1) := by decide +kernel
theorem dX11_losePower_8 : decode cX11_losePower 8 = .ok (.getfield 52, 3) := by decide +kernel
theorem dX11_losePower_11 : decode cX11_losePower 11 = .ok (.iload_n 1, 1) := by decide +kernel
theorem dX11_losePower_12 : decode cX11_losePower 12 = .ok (.aaload, 1) := by decide +kernel
theorem dX11_losePower_13 : decode cX11_losePower 13 = .ok (.iconst 0, 1) := by decide +kernel
theorem dX11_losePower_14 : decode cX11_losePower 14 = .ok (.putfield 87, 3) := by decide +kernel
theorem dX11_losePower_17 : decode cX11_losePower 17 = .ok (.iinc 1 1, 3) := by decide +kernel
theorem dX11_losePower_20 : decode cX11_losePower 20 = .ok (.goto (-18), 3) := by decide +kernel
theorem dX11_losePower_23 : decode cX11_losePower 23 = .ok (.aload_n 0, 1) := by decide +kernel
theorem dX11_losePower_24 : decode cX11_losePower 24 = .ok (.getfield 39, 3) := by decide +kernel
theorem dX11_losePower_27 : decode cX11_losePower 27 = .ok (.iconst 0, 1) := by decide +kernel
theorem dX11_losePower_28 : decode cX11_losePower 28 = .ok (.putfield 229, 3) := by decide +kernel
theorem dX11_losePower_31 : decode cX11_losePower 31 = .ok (.bipush (-105), 2) := by decide +kernel
theorem dX11_losePower_33 : decode cX11_losePower 33 = .ok (.ireturn, 1) := by decide +kernel
theorem dX11_follow_0 : decode cX11_follow 0 = .ok (.iload_n 1, 1) := by decide +kernel
theorem dX11_follow_1 : decode cX11_follow 1 = .ok (.ifCond .lt 8, 3) := by decide +kernel
theorem dX11_follow_4 : decode cX11_follow 4 = .ok (.iload_n 1, 1) := by decide +kernel
theorem dX11_follow_5 : decode cX11_follow 5 = .ok (.iconst 2, 1) := by decide +kernel
theorem dX11_follow_6 : decode cX11_follow 6 = .ok (.if_icmp .lt 6, 3) := by decide +kernel
theorem dX11_follow_9 : decode cX11_follow 9 = .ok (.bipush (-101), 2) := by decide +kernel
theorem dX11_follow_11 : decode cX11_follow 11 = .ok (.ireturn, 1) := by decide +kernel
theorem dX11_follow_12 : decode cX11_follow 12 = .ok (.iload_n 2, 1) := by decide +kernel
theorem dX11_follow_13 : decode cX11_follow 13 = .ok (.ifCond .lt 10, 3) := by decide +kernel
theorem dX11_follow_16 : decode cX11_follow 16 = .ok (.iload_n 2, 1) := by decide +kernel
theorem dX11_follow_17 : decode cX11_follow 17 = .ok (.sipush 500, 3) := by decide +kernel
theorem dX11_follow_20 : decode cX11_follow 20 = .ok (.if_icmp .le 6, 3) := by decide +kernel
theorem dX11_follow_23 : decode cX11_follow 23 = .ok (.bipush (-102), 2) := by decide +kernel
theorem dX11_follow_25 : decode cX11_follow 25 = .ok (.ireturn, 1) := by decide +kernel
theorem dX11_follow_26 : decode cX11_follow 26 = .ok (.aload_n 0, 1) := by decide +kernel
theorem dX11_follow_27 : decode cX11_follow 27 = .ok (.getfield 65, 3) := by decide +kernel
theorem dX11_follow_30 : decode cX11_follow 30 = .ok (.iload_n 1, 1) := by decide +kernel
theorem dX11_follow_31 : decode cX11_follow 31 = .ok (.aaload, 1) := by decide +kernel
theorem dX11_follow_32 : decode cX11_follow 32 = .ok (.aload_n 0, 1) := by decide +kernel
theorem dX11_follow_33 : decode cX11_follow 33 = .ok (.getfield 10, 3) := by decide +kernel
theorem dX11_follow_36 : decode cX11_follow 36 = .ok (.iload_n 2, 1) := by decide +kernel
theorem dX11_follow_37 : decode cX11_follow 37 = .ok (.invokevirtual 267, 3) := by decide +kernel
theorem dX11_follow_40 : decode cX11_follow 40 = .ok (.aload_n 0, 1) := by decide +kernel
theorem dX11_follow_41 : decode cX11_follow 41 = .ok (.getfield 10, 3) := by decide +kernel
theorem dX11_follow_44 : decode cX11_follow 44 = .ok (.getfield 271, 3) := by decide +kernel
theorem dX11_follow_47 : decode cX11_follow 47 = .ok (.aload_n 0, 1) := by decide +kernel
theorem dX11_follow_48 : decode cX11_follow 48 = .ok (.getfield 65, 3) := by decide +kernel
theorem dX11_follow_51 : decode cX11_follow 51 = .ok (.iload_n 1, 1) := by decide +kernel
theorem dX11_follow_52 : decode cX11_follow 52 = .ok (.aaload, 1) := by decide +kernel
theorem dX11_follow_53 : decode cX11_follow 53 = .ok (.getfield 274, 3) := by decide +kernel
theorem dX11_follow_56 : decode cX11_follow 56 = .ok (.isub, 1) := by decide +kernel
theorem dX11_follow_57 : decode cX11_follow 57 = .ok (.ireturn, 1) := by decide +kernel
theorem dX11_count_0 : decode cX11_count 0 = .ok (.iload_n 1, 1) := by decide +kernel
theorem dX11_count_1 : decode cX11_count 1 = .ok (.tableswitch 201 0 13 #[71, 79, 95, 103, 108, 116, 132, 137, 145, 153, 161, 169, 177, 185], 71) := by decide +kernel
theorem dX11_count_72 : decode cX11_count 72 = .ok (.aload_n 0, 1) := by decide +kernel
theorem dX11_count_73 : decode cX11_count 73 = .ok (.getfield 30, 3) := by decide +kernel
theorem dX11_count_76 : decode cX11_count 76 = .ok (.getfield 277, 3) := by decide +kernel
theorem dX11_count_79 : decode cX11_count 79 = .ok (.ireturn, 1) := by decide +kernel
theorem dX11_count_80 : decode cX11_count 80 = .ok (.aload_n 0, 1) := by decide +kernel
theorem dX11_count_81 : decode cX11_count 81 = .ok (.getfield 30, 3) := by decide +kernel
theorem dX11_count_84 : decode cX11_count 84 = .ok (.getfield 277, 3) := by decide +kernel
theorem dX11_count_87 : decode cX11_count 87 = .ok (.aload_n 0, 1) := by decide +kernel
theorem dX11_count_88 : decode cX11_count 88 = .ok (.getfield 30, 3) := by decide +kernel
theorem dX11_count_91 : decode cX11_count 91 = .ok (.getfield 280, 3) := by decide +kernel
theorem dX11_count_94 : decode cX11_count 94 = .ok (.isub, 1) := by decide +kernel
theorem dX11_count_95 : decode cX11_count 95 = .ok (.ireturn, 1) := by decide +kernel
theorem dX11_count_96 : decode cX11_count 96 = .ok (.aload_n 0, 1) := by decide +kernel
theorem dX11_count_97 : decode cX11_count 97 = .ok (.getfield 30, 3) := by decide +kernel
theorem dX11_count_100 : decode cX11_count 100 = .ok (.invokevirtual 264, 3) := by decide +kernel
theorem dX11_count_103 : decode cX11_count 103 = .ok (.ireturn, 1) := by decide +kernel
theorem dX11_count_104 : decode cX11_count 104 = .ok (.aload_n 0, 1) := by decide +kernel
theorem dX11_count_105 : decode cX11_count 105 = .ok (.invokevirtual 186, 3) := by decide +kernel
theorem dX11_count_108 : decode cX11_count 108 = .ok (.ireturn, 1) := by decide +kernel
theorem dX11_count_109 : decode cX11_count 109 = .ok (.aload_n 0, 1) := by decide +kernel
theorem dX11_count_110 : decode cX11_count 110 = .ok (.getfield 30, 3) := by decide +kernel
theorem dX11_count_113 : decode cX11_count 113 = .ok (.getfield 283, 3) := by decide +kernel
theorem dX11_count_116 : decode cX11_count 116 = .ok (.ireturn, 1) := by decide +kernel
theorem dX11_count_117 : decode cX11_count 117 = .ok (.aload_n 0, 1) := by decide +kernel
theorem dX11_count_118 : decode cX11_count 118 = .ok (.getfield 30, 3) := by decide +kernel
theorem dX11_count_121 : decode cX11_count 121 = .ok (.getfield 283, 3) := by decide +kernel
theorem dX11_count_124 : decode cX11_count 124 = .ok (.aload_n 0, 1) := by decide +kernel
theorem dX11_count_125 : decode cX11_count 125 = .ok (.getfield 30, 3) := by decide +kernel
theorem dX11_count_128 : decode cX11_count 128 = .ok (.getfield 286, 3) := by decide +kernel
theorem dX11_count_131 : decode cX11_count 131 = .ok (.isub, 1) := by decide +kernel
theorem dX11_count_132 : decode cX11_count 132 = .ok (.ireturn, 1) := by decide +kernel
theorem dX11_count_133 : decode cX11_count 133 = .ok (.aload_n 0, 1) := by decide +kernel
theorem dX11_count_134 : decode cX11_count 134 = .ok (.invokevirtual 289, 3) := by decide +kernel
theorem dX11_count_137 : decode cX11_count 137 = .ok (.ireturn, 1) := by decide +kernel
theorem dX11_count_138 : decode cX11_count 138 = .ok (.aload_n 0, 1) := by decide +kernel
theorem dX11_count_139 : decode cX11_count 139 = .ok (.getfield 39, 3) := by decide +kernel
theorem dX11_count_142 : decode cX11_count 142 = .ok (.getfield 252, 3) := by decide +kernel
theorem dX11_count_145 : decode cX11_count 145 = .ok (.ireturn, 1) := by decide +kernel
theorem dX11_count_146 : decode cX11_count 146 = .ok (.aload_n 0, 1) := by decide +kernel
theorem dX11_count_147 : decode cX11_count 147 = .ok (.getfield 10, 3) := by decide +kernel
theorem dX11_count_150 : decode cX11_count 150 = .ok (.getfield 292, 3) := by decide +kernel
theorem dX11_count_153 : decode cX11_count 153 = .ok (.ireturn, 1) := by decide +kernel
theorem dX11_count_154 : decode cX11_count 154 = .ok (.aload_n 0, 1) := by decide +kernel
theorem dX11_count_155 : decode cX11_count 155 = .ok (.getfield 30, 3) := by decide +kernel
theorem dX11_count_158 : decode cX11_count 158 = .ok (.getfield 295, 3) := by decide +kernel
theorem dX11_count_161 : decode cX11_count 161 = .ok (.ireturn, 1) := by decide +kernel
theorem dX11_count_162 : decode cX11_count 162 = .ok (.aload_n 0, 1) := by decide +kernel
theorem dX11_count_163 : decode cX11_count 163 = .ok (.getfield 30, 3) := by decide +kernel
theorem dX11_count_166 : decode cX11_count 166 = .ok (.getfield 280, 3) := by decide +kernel
theorem dX11_count_169 : decode cX11_count 169 = .ok (.ireturn, 1) := by decide +kernel
theorem dX11_count_170 : decode cX11_count 170 = .ok (.aload_n 0, 1) := by decide +kernel
theorem dX11_count_171 : decode cX11_count 171 = .ok (.getfield 30, 3) := by decide +kernel
theorem dX11_count_174 : decode cX11_count 174 = .ok (.getfield 286, 3) := by decide +kernel
theorem dX11_count_177 : decode cX11_count 177 = .ok (.ireturn, 1) := by decide +kernel
theorem dX11_count_178 : decode cX11_count 178 = .ok (.aload_n 0, 1) := by decide +kernel
theorem dX11_count_179 : decode cX11_count 179 = .ok (.getfield 10, 3) := by decide +kernel
theorem dX11_count_182 : decode cX11_count 182 = .ok (.getfield 271, 3) := by decide +kernel
theorem dX11_count_185 : decode cX11_count 185 = .ok (.ireturn, 1) := by decide +kernel
theorem dX11_count_186 : decode cX11_count 186 = .ok (.aload_n 0, 1) := by decide +kernel
theorem dX11_count_187 : decode cX11_count 187 = .ok (.getfield 10, 3) := by decide +kernel
theorem dX11_count_190 : decode cX11_count 190 = .ok (.getfield 80, 3) := by decide +kernel
theorem dX11_count_193 : decode cX11_count 193 = .ok (.ifCond .eq 7, 3) := by decide +kernel
theorem dX11_count_196 : decode cX11_count 196 = .ok (.iconst 1, 1) := by decide +kernel
theorem dX11_count_197 : decode cX11_count 197 = .ok (.goto 4, 3) := by decide +kernel
theorem dX11_count_200 : decode cX11_count 200 = .ok (.iconst 0, 1) := by decide +kernel
theorem dX11_count_201 : decode cX11_count 201 = .ok (.ireturn, 1) := by decide +kernel
theorem dX11_count_202 : decode cX11_count 202 = .ok (.bipush (-102), 2) := by decide +kernel
theorem dX11_count_204 : decode cX11_count 204 = .ok (.ireturn, 1) := by decide +kernel
theorem dX11_block_0 : decode cX11_block 0 = .ok (.iload_n 1, 1) := by decide +kernel
theorem dX11_block_1 : decode cX11_block 1 = .ok (.ifCond .lt 14, 3) := by decide +kernel
theorem dX11_block_4 : decode cX11_block 4 = .ok (.iload_n 1, 1) := by decide +kernel
theorem dX11_block_5 : decode cX11_block 5 = .ok (.aload_n 0, 1) := by decide +kernel
theorem dX11_block_6 : decode cX11_block 6 = .ok (.getfield 30, 3) := by decide +kernel
theorem dX11_block_9 : decode cX11_block 9 = .ok (.getfield 277, 3) := by decide +kernel
theorem dX11_block_12 : decode cX11_block 12 = .ok (.if_icmp .lt 6, 3) := by decide +kernel
theorem dX11_block_15 : decode cX11_block 15 = .ok (.bipush (-101), 2) := by decide +kernel
theorem dX11_block_17 : decode cX11_block 17 = .ok (.ireturn, 1) := by decide +kernel
theorem dX11_block_18 : decode cX11_block 18 = .ok (.aload_n 0, 1) := by decide +kernel
theorem dX11_block_19 : decode cX11_block 19 = .ok (.getfield 30, 3) := by decide +kernel
theorem dX11_block_22 : decode cX11_block 22 = .ok (.getfield 298, 3) := by decide +kernel
theorem dX11_block_25 : decode cX11_block 25 = .ok (.iload_n 1, 1) := by decide +kernel
theorem dX11_block_26 : decode cX11_block 26 = .ok (.aaload, 1) := by decide +kernel
theorem dX11_block_27 : decode cX11_block 27 = .ok (.astore_n 3, 1) := by decide +kernel
theorem dX11_block_28 : decode cX11_block 28 = .ok (.iload_n 2, 1) := by decide +kernel
theorem dX11_block_29 : decode cX11_block 29 = .ok (.tableswitch 157 0 11 #[63, 76, 81, 86, 91, 96, 119, 125, 131, 131, 131, 131], 63) := by decide +kernel
theorem dX11_block_92 : decode cX11_block 92 = .ok (.aload_n 3, 1) := by decide +kernel
theorem dX11_block_93 : decode cX11_block 93 = .ok (.getfield 302, 3) := by decide +kernel
theorem dX11_block_96 : decode cX11_block 96 = .ok (.ifCond .eq 7, 3) := by decide +kernel
theorem dX11_block_99 : decode cX11_block 99 = .ok (.iconst 0, 1) := by decide +kernel
theorem dX11_block_100 : decode cX11_block 100 = .ok (.goto 4, 3) := by decide +kernel
theorem dX11_block_103 : decode cX11_block 103 = .ok (.iconst 1, 1) := by decide +kernel
theorem dX11_block_104 : decode cX11_block 104 = .ok (.ireturn, 1) := by decide +kernel
theorem dX11_block_105 : decode cX11_block 105 = .ok (.aload_n 3, 1) := by decide +kernel
theorem dX11_block_106 : decode cX11_block 106 = .ok (.getfield 307, 3) := by decide +kernel
theorem dX11_block_109 : decode cX11_block 109 = .ok (.ireturn, 1) := by decide +kernel
theorem dX11_block_110 : decode cX11_block 110 = .ok (.aload_n 3, 1) := by decide +kernel
theorem dX11_block_111 : decode cX11_block 111 = .ok (.getfield 310, 3) := by decide +kernel
theorem dX11_block_114 : decode cX11_block 114 = .ok (.ireturn, 1) := by decide +kernel
theorem dX11_block_115 : decode cX11_block 115 = .ok (.aload_n 3, 1) := by decide +kernel
theorem dX11_block_116 : decode cX11_block 116 = .ok (.getfield 313, 3) := by decide +kernel
theorem dX11_block_119 : decode cX11_block 119 = .ok (.ireturn, 1) := by decide +kernel
theorem dX11_block_120 : decode cX11_block 120 = .ok (.aload_n 3, 1) := by decide +kernel
theorem dX11_block_121 : decode cX11_block 121 = .ok (.getfield 316, 3) := by decide +kernel
theorem dX11_block_124 : decode cX11_block 124 = .ok (.ireturn, 1) := by decide +kernel
theorem dX11_block_125 : decode cX11_block 125 = .ok (.aload_n 0, 1) := by decide +kernel
theorem dX11_block_126 : decode cX11_block 126 = .ok (.getfield 39, 3) := by decide +kernel
theorem dX11_block_129 : decode cX11_block 129 = .ok (.getfield 229, 3) := by decide +kernel
theorem dX11_block_132 : decode cX11_block 132 = .ok (.ifCond .eq 14, 3) := by decide +kernel
theorem dX11_block_135 : decode cX11_block 135 = .ok (.aload_n 3, 1) := by decide +kernel
theorem dX11_block_136 : decode cX11_block 136 = .ok (.getfield 319, 3) := by decide +kernel
theorem dX11_block_139 : decode cX11_block 139 = .ok (.ifCond .eq 7, 3) := by decide +kernel
theorem dX11_block_142 : decode cX11_block 142 = .ok (.iconst 1, 1) := by decide +kernel
theorem dX11_block_143 : decode cX11_block 143 = .ok (.goto 4, 3) := by decide +kernel
theorem dX11_block_146 : decode cX11_block 146 = .ok (.iconst 0, 1) := by decide +kernel
theorem dX11_block_147 : decode cX11_block 147 = .ok (.ireturn, 1) := by decide +kernel
theorem dX11_block_148 : decode cX11_block 148 = .ok (.aload_n 0, 1) := by decide +kernel
theorem dX11_block_149 : decode cX11_block 149 = .ok (.iload_n 1, 1) := by decide +kernel
theorem dX11_block_150 : decode cX11_block 150 = .ok (.invokevirtual 322, 3) := by decide +kernel
theorem dX11_block_153 : decode cX11_block 153 = .ok (.ireturn, 1) := by decide +kernel
theorem dX11_block_154 : decode cX11_block 154 = .ok (.aload_n 3, 1) := by decide +kernel
theorem dX11_block_155 : decode cX11_block 155 = .ok (.getfield 325, 3) := by decide +kernel
theorem dX11_block_158 : decode cX11_block 158 = .ok (.arraylength, 1) := by decide +kernel
theorem dX11_block_159 : decode cX11_block 159 = .ok (.ireturn, 1) := by decide +kernel
theorem dX11_block_160 : decode cX11_block 160 = .ok (.iload_n 2, 1) := by decide +kernel
theorem dX11_block_161 : decode cX11_block 161 = .ok (.bipush 8, 2) := by decide +kernel
theorem dX11_block_163 : decode cX11_block 163 = .ok (.isub, 1) := by decide +kernel
theorem dX11_block_164 : decode cX11_block 164 = .ok (.aload_n 3, 1) := by decide +kernel
theorem dX11_block_165 : decode cX11_block 165 = .ok (.getfield 325, 3) := by decide +kernel
theorem dX11_block_168 : decode cX11_block 168 = .ok (.arraylength, 1) := by decide +kernel
theorem dX11_block_169 : decode cX11_block 169 = .ok (.if_icmp .ge 15, 3) := by decide +kernel
theorem dX11_block_172 : decode cX11_block 172 = .ok (.aload_n 3, 1) := by decide +kernel
theorem dX11_block_173 : decode cX11_block 173 = .ok (.getfield 325, 3) := by decide +kernel
theorem dX11_block_176 : decode cX11_block 176 = .ok (.iload_n 2, 1) := by decide +kernel
theorem dX11_block_177 : decode cX11_block 177 = .ok (.bipush 8, 2) := by decide +kernel
theorem dX11_block_179 : decode cX11_block 179 = .ok (.isub, 1) := by decide +kernel
theorem dX11_block_180 : decode cX11_block 180 = .ok (.iaload, 1) := by decide +kernel
theorem dX11_block_181 : decode cX11_block 181 = .ok (.goto 4, 3) := by decide +kernel
theorem dX11_block_184 : decode cX11_block 184 = .ok (.iconst (-1), 1) := by decide +kernel
theorem dX11_block_185 : decode cX11_block 185 = .ok (.ireturn, 1) := by decide +kernel
theorem dX11_block_186 : decode cX11_block 186 = .ok (.bipush (-102), 2) := by decide +kernel
theorem dX11_block_188 : decode cX11_block 188 = .ok (.ireturn, 1) := by decide +kernel
theorem dX11_key_0 : decode cX11_key 0 = .ok (.iload_n 1, 1) := by decide +kernel
theorem dX11_key_1 : decode cX11_key 1 = .ok (.ifCond .lt 29, 3) := by decide +kernel
theorem dX11_key_4 : decode cX11_key 4 = .ok (.iload_n 1, 1) := by decide +kernel
theorem dX11_key_5 : decode cX11_key 5 = .ok (.aload_n 0, 1) := by decide +kernel
theorem dX11_key_6 : decode cX11_key 6 = .ok (.getfield 30, 3) := by decide +kernel
theorem dX11_key_9 : decode cX11_key 9 = .ok (.getfield 277, 3) := by decide +kernel
theorem dX11_key_12 : decode cX11_key 12 = .ok (.if_icmp .ge 18, 3) := by decide +kernel
theorem dX11_key_15 : decode cX11_key 15 = .ok (.aload_n 0, 1) := by decide +kernel
theorem dX11_key_16 : decode cX11_key 16 = .ok (.getfield 30, 3) := by decide +kernel
theorem dX11_key_19 : decode cX11_key 19 = .ok (.getfield 298, 3) := by decide +kernel
theorem dX11_key_22 : decode cX11_key 22 = .ok (.iload_n 1, 1) := by decide +kernel
theorem dX11_key_23 : decode cX11_key 23 = .ok (.aaload, 1) := by decide +kernel
theorem dX11_key_24 : decode cX11_key 24 = .ok (.getfield 326, 3) := by decide +kernel
theorem dX11_key_27 : decode cX11_key 27 = .ok (.goto 4, 3) := by decide +kernel
theorem dX11_key_30 : decode cX11_key 30 = .ok (.lconst 0, 1) := by decide +kernel
theorem dX11_key_31 : decode cX11_key 31 = .ok (.lreturn, 1) := by decide +kernel
theorem dX11_pack_0 : decode cX11_pack 0 = .ok (.iload_n 1, 1) := by decide +kernel
theorem dX11_pack_1 : decode cX11_pack 1 = .ok (.ifCond .lt 14, 3) := by decide +kernel
theorem dX11_pack_4 : decode cX11_pack 4 = .ok (.iload_n 1, 1) := by decide +kernel
theorem dX11_pack_5 : decode cX11_pack 5 = .ok (.aload_n 0, 1) := by decide +kernel
theorem dX11_pack_6 : decode cX11_pack 6 = .ok (.getfield 30, 3) := by decide +kernel
theorem dX11_pack_9 : decode cX11_pack 9 = .ok (.getfield 283, 3) := by decide +kernel
theorem dX11_pack_12 : decode cX11_pack 12 = .ok (.if_icmp .lt 6, 3) := by decide +kernel
theorem dX11_pack_15 : decode cX11_pack 15 = .ok (.bipush (-101), 2) := by decide +kernel
theorem dX11_pack_17 : decode cX11_pack 17 = .ok (.ireturn, 1) := by decide +kernel
theorem dX11_pack_18 : decode cX11_pack 18 = .ok (.aload_n 0, 1) := by decide +kernel
theorem dX11_pack_19 : decode cX11_pack 19 = .ok (.getfield 30, 3) := by decide +kernel
theorem dX11_pack_22 : decode cX11_pack 22 = .ok (.getfield 329, 3) := by decide +kernel
theorem dX11_pack_25 : decode cX11_pack 25 = .ok (.iload_n 1, 1) := by decide +kernel
theorem dX11_pack_26 : decode cX11_pack 26 = .ok (.aaload, 1) := by decide +kernel
theorem dX11_pack_27 : decode cX11_pack 27 = .ok (.astore_n 3, 1) := by decide +kernel
theorem dX11_pack_28 : decode cX11_pack 28 = .ok (.iload_n 2, 1) := by decide +kernel
theorem dX11_pack_29 : decode cX11_pack 29 = .ok (.tableswitch 63 0 3 #[31, 44, 49, 54], 31) := by decide +kernel
theorem dX11_pack_60 : decode cX11_pack 60 = .ok (.aload_n 3, 1) := by decide +kernel
theorem dX11_pack_61 : decode cX11_pack 61 = .ok (.getfield 333, 3) := by decide +kernel
theorem dX11_pack_64 : decode cX11_pack 64 = .ok (.ifCond .eq 7, 3) := by decide +kernel
theorem dX11_pack_67 : decode cX11_pack 67 = .ok (.iconst 0, 1) := by decide +kernel
theorem dX11_pack_68 : decode cX11_pack 68 = .ok (.goto 4, 3) := by decide +kernel
theorem dX11_pack_71 : decode cX11_pack 71 = .ok (.iconst 1, 1) := by decide +kernel
theorem dX11_pack_72 : decode cX11_pack 72 = .ok (.ireturn, 1) := by decide +kernel
theorem dX11_pack_73 : decode cX11_pack 73 = .ok (.aload_n 3, 1) := by decide +kernel
theorem dX11_pack_74 : decode cX11_pack 74 = .ok (.getfield 336, 3) := by decide +kernel
theorem dX11_pack_77 : decode cX11_pack 77 = .ok (.ireturn, 1) := by decide +kernel
theorem dX11_pack_78 : decode cX11_pack 78 = .ok (.aload_n 3, 1) := by decide +kernel
theorem dX11_pack_79 : decode cX11_pack 79 = .ok (.getfield 339, 3) := by decide +kernel
theorem dX11_pack_82 : decode cX11_pack 82 = .ok (.ireturn, 1) := by decide +kernel
theorem dX11_pack_83 : decode cX11_pack 83 = .ok (.aload_n 0, 1) := by decide +kernel
theorem dX11_pack_84 : decode cX11_pack 84 = .ok (.getfield 30, 3) := by decide +kernel
theorem dX11_pack_87 : decode cX11_pack 87 = .ok (.iload_n 1, 1) := by decide +kernel
theorem dX11_pack_88 : decode cX11_pack 88 = .ok (.invokevirtual 342, 3) := by decide +kernel
theorem dX11_pack_91 : decode cX11_pack 91 = .ok (.ireturn, 1) := by decide +kernel
theorem dX11_pack_92 : decode cX11_pack 92 = .ok (.bipush (-102), 2) := by decide +kernel
theorem dX11_pack_94 : decode cX11_pack 94 = .ok (.ireturn, 1) := by decide +kernel
theorem dX11_snapshot_0 : decode cX11_snapshot 0 = .ok (.aload_n 0, 1) := by decide +kernel
theorem dX11_snapshot_1 : decode cX11_snapshot 1 = .ok (.iload_n 1, 1) := by decide +kernel
theorem dX11_snapshot_2 : decode cX11_snapshot 2 = .ok (.invokevirtual 203, 3) := by decide +kernel
theorem dX11_snapshot_5 : decode cX11_snapshot 5 = .ok (.ifCond .ne 6, 3) := by decide +kernel
theorem dX11_snapshot_8 : decode cX11_snapshot 8 = .ok (.bipush (-101), 2) := by decide +kernel
theorem dX11_snapshot_10 : decode cX11_snapshot 10 = .ok (.ireturn, 1) := by decide +kernel
theorem dX11_snapshot_11 : decode cX11_snapshot 11 = .ok (.aload_n 0, 1) := by decide +kernel
theorem dX11_snapshot_12 : decode cX11_snapshot 12 = .ok (.getfield 59, 3) := by decide +kernel
theorem dX11_snapshot_15 : decode cX11_snapshot 15 = .ok (.iload_n 1, 1) := by decide +kernel
theorem dX11_snapshot_16 : decode cX11_snapshot 16 = .ok (.aaload, 1) := by decide +kernel
theorem dX11_snapshot_17 : decode cX11_snapshot 17 = .ok (.astore_n 3, 1) := by decide +kernel
theorem dX11_snapshot_18 : decode cX11_snapshot 18 = .ok (.iload_n 2, 1) := by decide +kernel
theorem dX11_snapshot_19 : decode cX11_snapshot 19 = .ok (.ifCond .lt 14, 3) := by decide +kernel
theorem dX11_snapshot_22 : decode cX11_snapshot 22 = .ok (.iload_n 2, 1) := by decide +kernel
theorem dX11_snapshot_23 : decode cX11_snapshot 23 = .ok (.iconst 2, 1) := by decide +kernel
theorem dX11_snapshot_24 : decode cX11_snapshot 24 = .ok (.isub, 1) := by decide +kernel
theorem dX11_snapshot_25 : decode cX11_snapshot 25 = .ok (.aload_n 3, 1) := by decide +kernel
theorem dX11_snapshot_26 : decode cX11_snapshot 26 = .ok (.getfield 238, 3) := by decide +kernel
theorem dX11_snapshot_29 : decode cX11_snapshot 29 = .ok (.arraylength, 1) := by decide +kernel
theorem dX11_snapshot_30 : decode cX11_snapshot 30 = .ok (.if_icmp .lt 6, 3) := by decide +kernel
theorem dX11_snapshot_33 : decode cX11_snapshot 33 = .ok (.bipush (-102), 2) := by decide +kernel
theorem dX11_snapshot_35 : decode cX11_snapshot 35 = .ok (.ireturn, 1) := by decide +kernel
theorem dX11_snapshot_36 : decode cX11_snapshot 36 = .ok (.iload_n 2, 1) := by decide +kernel
theorem dX11_snapshot_37 : decode cX11_snapshot 37 = .ok (.lookupswitch 38 #[(0, 27), (1, 32)], 27) := by decide +kernel
theorem dX11_snapshot_64 : decode cX11_snapshot 64 = .ok (.aload_n 3, 1) := by decide +kernel
theorem dX11_snapshot_65 : decode cX11_snapshot 65 = .ok (.getfield 345, 3) := by decide +kernel
theorem dX11_snapshot_68 : decode cX11_snapshot 68 = .ok (.ireturn, 1) := by decide +kernel
theorem dX11_snapshot_69 : decode cX11_snapshot 69 = .ok (.aload_n 3, 1) := by decide +kernel
theorem dX11_snapshot_70 : decode cX11_snapshot 70 = .ok (.getfield 238, 3) := by decide +kernel
theorem dX11_snapshot_73 : decode cX11_snapshot 73 = .ok (.arraylength, 1) := by decide +kernel
theorem dX11_snapshot_74 : decode cX11_snapshot 74 = .ok (.ireturn, 1) := by decide +kernel
theorem dX11_snapshot_75 : decode cX11_snapshot 75 = .ok (.aload_n 3, 1) := by decide +kernel
theorem dX11_snapshot_76 : decode cX11_snapshot 76 = .ok (.getfield 238, 3) := by decide +kernel
theorem dX11_snapshot_79 : decode cX11_snapshot 79 = .ok (.iload_n 2, 1) := by decide +kernel
theorem dX11_snapshot_80 : decode cX11_snapshot 80 = .ok (.iconst 2, 1) := by decide +kernel
theorem dX11_snapshot_81 : decode cX11_snapshot 81 = .ok (.isub, 1) := by decide +kernel
theorem dX11_snapshot_82 : decode cX11_snapshot 82 = .ok (.iaload, 1) := by decide +kernel
theorem dX11_snapshot_83 : decode cX11_snapshot 83 = .ok (.ireturn, 1) := by decide +kernel
theorem dX11_time_0 : decode cX11_time 0 = .ok (.aload_n 0, 1) := by decide +kernel
theorem dX11_time_1 : decode cX11_time 1 = .ok (.iload_n 1, 1) := by decide +kernel
theorem dX11_time_2 : decode cX11_time 2 = .ok (.invokevirtual 203, 3) := by decide +kernel
theorem dX11_time_5 : decode cX11_time 5 = .ok (.ifCond .eq 15, 3) := by decide +kernel
theorem dX11_time_8 : decode cX11_time 8 = .ok (.aload_n 0, 1) := by decide +kernel
theorem dX11_time_9 : decode cX11_time 9 = .ok (.getfield 59, 3) := by decide +kernel
theorem dX11_time_12 : decode cX11_time 12 = .ok (.iload_n 1, 1) := by decide +kernel
theorem dX11_time_13 : decode cX11_time 13 = .ok (.aaload, 1) := by decide +kernel
theorem dX11_time_14 : decode cX11_time 14 = .ok (.getfield 348, 3) := by decide +kernel
theorem dX11_time_17 : decode cX11_time 17 = .ok (.goto 4, 3) := by decide +kernel
theorem dX11_time_20 : decode cX11_time 20 = .ok (.lconst 0, 1) := by decide +kernel
theorem dX11_time_21 : decode cX11_time 21 = .ok (.lreturn, 1) := by decide +kernel
theorem dX11_saver_0 : decode cX11_saver 0 = .ok (.aload_n 0, 1) := by decide +kernel
theorem dX11_saver_1 : decode cX11_saver 1 = .ok (.iload_n 1, 1) := by decide +kernel
theorem dX11_saver_2 : decode cX11_saver 2 = .ok (.invokevirtual 180, 3) := by decide +kernel
theorem dX11_saver_5 : decode cX11_saver 5 = .ok (.astore_n 3, 1) := by decide +kernel
theorem dX11_saver_6 : decode cX11_saver 6 = .ok (.aload_n 3, 1) := by decide +kernel
theorem dX11_saver_7 : decode cX11_saver 7 = .ok (.ifnonnull 6, 3) := by decide +kernel
theorem dX11_saver_10 : decode cX11_saver 10 = .ok (.bipush (-101), 2) := by decide +kernel
theorem dX11_saver_12 : decode cX11_saver 12 = .ok (.ireturn, 1) := by decide +kernel
theorem dX11_saver_13 : decode cX11_saver 13 = .ok (.iload_n 2, 1) := by decide +kernel
theorem dX11_saver_14 : decode cX11_saver 14 = .ok (.ifCond .lt 13, 3) := by decide +kernel
theorem dX11_saver_17 : decode cX11_saver 17 = .ok (.iload_n 2, 1) := by decide +kernel
theorem dX11_saver_18 : decode cX11_saver 18 = .ok (.iconst 3, 1) := by decide +kernel
theorem dX11_saver_19 : decode cX11_saver 19 = .ok (.isub, 1) := by decide +kernel
theorem dX11_saver_20 : decode cX11_saver 20 = .ok (.aload_n 3, 1) := by decide +kernel
theorem dX11_saver_21 : decode cX11_saver 21 = .ok (.getfield 135, 3) := by decide +kernel
theorem dX11_saver_24 : decode cX11_saver 24 = .ok (.if_icmp .lt 6, 3) := by decide +kernel
theorem dX11_saver_27 : decode cX11_saver 27 = .ok (.bipush (-102), 2) := by decide +kernel
theorem dX11_saver_29 : decode cX11_saver 29 = .ok (.ireturn, 1) := by decide +kernel
theorem dX11_saver_30 : decode cX11_saver 30 = .ok (.iload_n 2, 1) := by decide +kernel
theorem dX11_saver_31 : decode cX11_saver 31 = .ok (.tableswitch 52 0 2 #[25, 42, 47], 25) := by decide +kernel
theorem dX11_saver_56 : decode cX11_saver 56 = .ok (.aload_n 3, 1) := by decide +kernel
theorem dX11_saver_57 : decode cX11_saver 57 = .ok (.aload_n 0, 1) := by decide +kernel
theorem dX11_saver_58 : decode cX11_saver 58 = .ok (.getfield 76, 3) := by decide +kernel
theorem dX11_saver_61 : decode cX11_saver 61 = .ok (.invokevirtual 102, 3) := by decide +kernel
theorem dX11_saver_64 : decode cX11_saver 64 = .ok (.ifCond .eq 7, 3) := by decide +kernel
theorem dX11_saver_67 : decode cX11_saver 67 = .ok (.iconst 1, 1) := by decide +kernel
theorem dX11_saver_68 : decode cX11_saver 68 = .ok (.goto 4, 3) := by decide +kernel
theorem dX11_saver_71 : decode cX11_saver 71 = .ok (.iconst 0, 1) := by decide +kernel
theorem dX11_saver_72 : decode cX11_saver 72 = .ok (.ireturn, 1) := by decide +kernel
theorem dX11_saver_73 : decode cX11_saver 73 = .ok (.aload_n 3, 1) := by decide +kernel
theorem dX11_saver_74 : decode cX11_saver 74 = .ok (.getfield 135, 3) := by decide +kernel
theorem dX11_saver_77 : decode cX11_saver 77 = .ok (.ireturn, 1) := by decide +kernel
theorem dX11_saver_78 : decode cX11_saver 78 = .ok (.aload_n 3, 1) := by decide +kernel
theorem dX11_saver_79 : decode cX11_saver 79 = .ok (.getfield 112, 3) := by decide +kernel
theorem dX11_saver_82 : decode cX11_saver 82 = .ok (.ireturn, 1) := by decide +kernel
theorem dX11_saver_83 : decode cX11_saver 83 = .ok (.aload_n 3, 1) := by decide +kernel
theorem dX11_saver_84 : decode cX11_saver 84 = .ok (.getfield 193, 3) := by decide +kernel
theorem dX11_saver_87 : decode cX11_saver 87 = .ok (.iload_n 2, 1) := by decide +kernel
theorem dX11_saver_88 : decode cX11_saver 88 = .ok (.iconst 3, 1) := by decide +kernel
theorem dX11_saver_89 : decode cX11_saver 89 = .ok (.isub, 1) := by decide +kernel
theorem dX11_saver_90 : decode cX11_saver 90 = .ok (.iaload, 1) := by decide +kernel
theorem dX11_saver_91 : decode cX11_saver 91 = .ok (.ireturn, 1) := by decide +kernel
theorem dX11_swept_0 : decode cX11_swept 0 = .ok (.aload_n 0, 1) := by decide +kernel
theorem dX11_swept_1 : decode cX11_swept 1 = .ok (.getfield 39, 3) := by decide +kernel
theorem dX11_swept_4 : decode cX11_swept 4 = .ok (.getfield 229, 3) := by decide +kernel
theorem dX11_swept_7 : decode cX11_swept 7 = .ok (.ifCond .ne 7, 3) := by decide +kernel
theorem dX11_swept_10 : decode cX11_swept 10 = .ok (.iconst 1, 1) := by decide +kernel
theorem dX11_swept_11 : decode cX11_swept 11 = .ok (.goto 4, 3) := by decide +kernel
theorem dX11_swept_14 : decode cX11_swept 14 = .ok (.iconst 0, 1) := by decide +kernel
theorem dX11_swept_15 : decode cX11_swept 15 = .ok (.istore_n 2, 1) := by decide +kernel
theorem dX11_swept_16 : decode cX11_swept 16 = .ok (.iload_n 1, 1) := by decide +kernel
theorem dX11_swept_17 : decode cX11_swept 17 = .ok (.tableswitch 106 0 3 #[31, 39, 63, 79], 31) := by decide +kernel
theorem dX11_swept_48 : decode cX11_swept 48 = .ok (.aload_n 0, 1) := by decide +kernel
theorem dX11_swept_49 : decode cX11_swept 49 = .ok (.getfield 39, 3) := by decide +kernel
theorem dX11_swept_52 : decode cX11_swept 52 = .ok (.getfield 229, 3) := by decide +kernel
theorem dX11_swept_55 : decode cX11_swept 55 = .ok (.ireturn, 1) := by decide +kernel
theorem dX11_swept_56 : decode cX11_swept 56 = .ok (.iload_n 2, 1) := by decide +kernel
theorem dX11_swept_57 : decode cX11_swept 57 = .ok (.ifCond .eq 7, 3) := by decide +kernel
theorem dX11_swept_60 : decode cX11_swept 60 = .ok (.iconst (-1), 1) := by decide +kernel
theorem dX11_swept_61 : decode cX11_swept 61 = .ok (.goto 18, 3) := by decide +kernel
theorem dX11_swept_64 : decode cX11_swept 64 = .ok (.aload_n 0, 1) := by decide +kernel
theorem dX11_swept_65 : decode cX11_swept 65 = .ok (.getfield 39, 3) := by decide +kernel
theorem dX11_swept_68 : decode cX11_swept 68 = .ok (.getfield 351, 3) := by decide +kernel
theorem dX11_swept_71 : decode cX11_swept 71 = .ok (.aload_n 0, 1) := by decide +kernel
theorem dX11_swept_72 : decode cX11_swept 72 = .ok (.getfield 39, 3) := by decide +kernel
theorem dX11_swept_75 : decode cX11_swept 75 = .ok (.getfield 354, 3) := by decide +kernel
theorem dX11_swept_78 : decode cX11_swept 78 = .ok (.isub, 1) := by decide +kernel
theorem dX11_swept_79 : decode cX11_swept 79 = .ok (.ireturn, 1) := by decide +kernel
theorem dX11_swept_80 : decode cX11_swept 80 = .ok (.iload_n 2, 1) := by decide +kernel
theorem dX11_swept_81 : decode cX11_swept 81 = .ok (.ifCond .eq 7, 3) := by decide +kernel
theorem dX11_swept_84 : decode cX11_swept 84 = .ok (.iconst (-1), 1) := by decide +kernel
theorem dX11_swept_85 : decode cX11_swept 85 = .ok (.goto 10, 3) := by decide +kernel
theorem dX11_swept_88 : decode cX11_swept 88 = .ok (.aload_n 0, 1) := by decide +kernel
theorem dX11_swept_89 : decode cX11_swept 89 = .ok (.getfield 39, 3) := by decide +kernel
theorem dX11_swept_92 : decode cX11_swept 92 = .ok (.getfield 357, 3) := by decide +kernel
theorem dX11_swept_95 : decode cX11_swept 95 = .ok (.ireturn, 1) := by decide +kernel
theorem dX11_swept_96 : decode cX11_swept 96 = .ok (.iload_n 2, 1) := by decide +kernel
theorem dX11_swept_97 : decode cX11_swept 97 = .ok (.ifCond .ne 14, 3) := by decide +kernel
theorem dX11_swept_100 : decode cX11_swept 100 = .ok (.aload_n 0, 1) := by decide +kernel
theorem dX11_swept_101 : decode cX11_swept 101 = .ok (.getfield 39, 3) := by decide +kernel
theorem dX11_swept_104 : decode cX11_swept 104 = .ok (.getfield 229, 3) := by decide +kernel
theorem dX11_swept_107 : decode cX11_swept 107 = .ok (.iconst 1, 1) := by decide +kernel
theorem dX11_swept_108 : decode cX11_swept 108 = .ok (.if_icmp .ne 7, 3) := by decide +kernel
theorem dX11_swept_111 : decode cX11_swept 111 = .ok (.iconst (-1), 1) := by decide +kernel
theorem dX11_swept_112 : decode cX11_swept 112 = .ok (.goto 10, 3) := by decide +kernel
theorem dX11_swept_115 : decode cX11_swept 115 = .ok (.aload_n 0, 1) := by decide +kernel
theorem dX11_swept_116 : decode cX11_swept 116 = .ok (.getfield 39, 3) := by decide +kernel
theorem dX11_swept_119 : decode cX11_swept 119 = .ok (.getfield 360, 3) := by decide +kernel
theorem dX11_swept_122 : decode cX11_swept 122 = .ok (.ireturn, 1) := by decide +kernel
theorem dX11_swept_123 : decode cX11_swept 123 = .ok (.bipush (-102), 2) := by decide +kernel
theorem dX11_swept_125 : decode cX11_swept 125 = .ok (.ireturn, 1) := by decide +kernel
theorem dX11_calendar_0 : decode cX11_calendar 0 = .ok (.lload_n 1, 1) := by decide +kernel
theorem dX11_calendar_1 : decode cX11_calendar 1 = .ok (.ldc2_w 363, 3) := by decide +kernel
theorem dX11_calendar_4 : decode cX11_calendar 4 = .ok (.lcmp, 1) := by decide +kernel
theorem dX11_calendar_5 : decode cX11_calendar 5 = .ok (.ifCond .lt 11, 3) := by decide +kernel
theorem dX11_calendar_8 : decode cX11_calendar 8 = .ok (.lload_n 1, 1) := by decide +kernel
theorem dX11_calendar_9 : decode cX11_calendar 9 = .ok (.ldc2_w 84, 3) := by decide +kernel
theorem dX11_calendar_12 : decode cX11_calendar 12 = .ok (.lcmp, 1) := by decide +kernel
theorem dX11_calendar_13 : decode cX11_calendar 13 = .ok (.ifCond .le 6, 3) := by decide +kernel
theorem dX11_calendar_16 : decode cX11_calendar 16 = .ok (.bipush (-102), 2) := by decide +kernel
theorem dX11_calendar_18 : decode cX11_calendar 18 = .ok (.ireturn, 1) := by decide +kernel
theorem dX11_calendar_19 : decode cX11_calendar 19 = .ok (.lload_n 1, 1) := by decide +kernel
theorem dX11_calendar_20 : decode cX11_calendar 20 = .ok (.invokestatic 365, 3) := by decide +kernel
theorem dX11_calendar_23 : decode cX11_calendar 23 = .ok (.lstore 4, 2) := by decide +kernel
theorem dX11_calendar_25 : decode cX11_calendar 25 = .ok (.iload_n 3, 1) := by decide +kernel
theorem dX11_calendar_26 : decode cX11_calendar 26 = .ok (.tableswitch 63 0 4 #[34, 41, 47, 53, 59], 34) := by decide +kernel
theorem dX11_calendar_60 : decode cX11_calendar 60 = .ok (.lload 4, 2) := by decide +kernel
theorem dX11_calendar_62 : decode cX11_calendar 62 = .ok (.invokestatic 371, 3) := by decide +kernel
theorem dX11_calendar_65 : decode cX11_calendar 65 = .ok (.l2i, 1) := by decide +kernel
theorem dX11_calendar_66 : decode cX11_calendar 66 = .ok (.ireturn, 1) := by decide +kernel
theorem dX11_calendar_67 : decode cX11_calendar 67 = .ok (.lload 4, 2) := by decide +kernel
theorem dX11_calendar_69 : decode cX11_calendar 69 = .ok (.invokestatic 374, 3) := by decide +kernel
theorem dX11_calendar_72 : decode cX11_calendar 72 = .ok (.ireturn, 1) := by decide +kernel
theorem dX11_calendar_73 : decode cX11_calendar 73 = .ok (.lload 4, 2) := by decide +kernel
theorem dX11_calendar_75 : decode cX11_calendar 75 = .ok (.invokestatic 378, 3) := by decide +kernel
theorem dX11_calendar_78 : decode cX11_calendar 78 = .ok (.ireturn, 1) := by decide +kernel
theorem dX11_calendar_79 : decode cX11_calendar 79 = .ok (.lload 4, 2) := by decide +kernel
theorem dX11_calendar_81 : decode cX11_calendar 81 = .ok (.invokestatic 381, 3) := by decide +kernel
theorem dX11_calendar_84 : decode cX11_calendar 84 = .ok (.ireturn, 1) := by decide +kernel
theorem dX11_calendar_85 : decode cX11_calendar 85 = .ok (.lload 4, 2) := by decide +kernel
theorem dX11_calendar_87 : decode cX11_calendar 87 = .ok (.l2i, 1) := by decide +kernel
theorem dX11_calendar_88 : decode cX11_calendar 88 = .ok (.ireturn, 1) := by decide +kernel
theorem dX11_calendar_89 : decode cX11_calendar 89 = .ok (.bipush (-102), 2) := by decide +kernel
theorem dX11_calendar_91 : decode cX11_calendar 91 = .ok (.ireturn, 1) := by decide +kernel
theorem dX11_mirrored_0 : decode cX11_mirrored 0 = .ok (.iload_n 1, 1) := by decide +kernel
theorem dX11_mirrored_1 : decode cX11_mirrored 1 = .ok (.ifCond .lt 8, 3) := by decide +kernel
theorem dX11_mirrored_4 : decode cX11_mirrored 4 = .ok (.iload_n 1, 1) := by decide +kernel
theorem dX11_mirrored_5 : decode cX11_mirrored 5 = .ok (.iconst 2, 1) := by decide +kernel
theorem dX11_mirrored_6 : decode cX11_mirrored 6 = .ok (.if_icmp .lt 6, 3) := by decide +kernel
theorem dX11_mirrored_9 : decode cX11_mirrored 9 = .ok (.bipush (-101), 2) := by decide +kernel
theorem dX11_mirrored_11 : decode cX11_mirrored 11 = .ok (.ireturn, 1) := by decide +kernel
theorem dX11_mirrored_12 : decode cX11_mirrored 12 = .ok (.aload_n 0, 1) := by decide +kernel
theorem dX11_mirrored_13 : decode cX11_mirrored 13 = .ok (.getfield 65, 3) := by decide +kernel
theorem dX11_mirrored_16 : decode cX11_mirrored 16 = .ok (.iload_n 1, 1) := by decide +kernel
theorem dX11_mirrored_17 : decode cX11_mirrored 17 = .ok (.aaload, 1) := by decide +kernel
theorem dX11_mirrored_18 : decode cX11_mirrored 18 = .ok (.astore_n 3, 1) := by decide +kernel
theorem dX11_mirrored_19 : decode cX11_mirrored 19 = .ok (.iload_n 2, 1) := by decide +kernel
theorem dX11_mirrored_20 : decode cX11_mirrored 20 = .ok (.tableswitch 59 0 3 #[32, 37, 45, 53], 32) := by decide +kernel
theorem dX11_mirrored_52 : decode cX11_mirrored 52 = .ok (.aload_n 3, 1) := by decide +kernel
theorem dX11_mirrored_53 : decode cX11_mirrored 53 = .ok (.getfield 274, 3) := by decide +kernel
theorem dX11_mirrored_56 : decode cX11_mirrored 56 = .ok (.ireturn, 1) := by decide +kernel
theorem dX11_mirrored_57 : decode cX11_mirrored 57 = .ok (.aload_n 3, 1) := by decide +kernel
theorem dX11_mirrored_58 : decode cX11_mirrored 58 = .ok (.getfield 384, 3) := by decide +kernel
theorem dX11_mirrored_61 : decode cX11_mirrored 61 = .ok (.invokestatic 387, 3) := by decide +kernel
theorem dX11_mirrored_64 : decode cX11_mirrored 64 = .ok (.ireturn, 1) := by decide +kernel
theorem dX11_mirrored_65 : decode cX11_mirrored 65 = .ok (.aload_n 3, 1) := by decide +kernel
theorem dX11_mirrored_66 : decode cX11_mirrored 66 = .ok (.getfield 391, 3) := by decide +kernel
theorem dX11_mirrored_69 : decode cX11_mirrored 69 = .ok (.invokestatic 387, 3) := by decide +kernel
theorem dX11_mirrored_72 : decode cX11_mirrored 72 = .ok (.ireturn, 1) := by decide +kernel
theorem dX11_mirrored_73 : decode cX11_mirrored 73 = .ok (.aload_n 0, 1) := by decide +kernel
theorem dX11_mirrored_74 : decode cX11_mirrored 74 = .ok (.aload_n 3, 1) := by decide +kernel
theorem dX11_mirrored_75 : decode cX11_mirrored 75 = .ok (.invokevirtual 393, 3) := by decide +kernel
theorem dX11_mirrored_78 : decode cX11_mirrored 78 = .ok (.ireturn, 1) := by decide +kernel
theorem dX11_mirrored_79 : decode cX11_mirrored 79 = .ok (.bipush (-102), 2) := by decide +kernel
theorem dX11_mirrored_81 : decode cX11_mirrored 81 = .ok (.ireturn, 1) := by decide +kernel
theorem dX11_brokenSnapshots_0 : decode cX11_brokenSnapshots 0 = .ok (.iconst 0, 1) := by decide +kernel
theorem dX11_brokenSnapshots_1 : decode cX11_brokenSnapshots 1 = .ok (.istore_n 2, 1) := by decide +kernel
theorem dX11_brokenSnapshots_2 : decode cX11_brokenSnapshots 2 = .ok (.iconst 0, 1) := by decide +kernel
theorem dX11_brokenSnapshots_3 : decode cX11_brokenSnapshots 3 = .ok (.istore_n 3, 1) := by decide +kernel
theorem dX11_brokenSnapshots_4 : decode cX11_brokenSnapshots 4 = .ok (.iload_n 3, 1) := by decide +kernel
theorem dX11_brokenSnapshots_5 : decode cX11_brokenSnapshots 5 = .ok (.aload_n 0, 1) := by decide +kernel
theorem dX11_brokenSnapshots_6 : decode cX11_brokenSnapshots 6 = .ok (.getfield 183, 3) := by decide +kernel
theorem dX11_brokenSnapshots_9 : decode cX11_brokenSnapshots 9 = .ok (.if_icmp .ge 80, 3) := by decide +kernel
theorem dX11_brokenSnapshots_12 : decode cX11_brokenSnapshots 12 = .ok (.aload_n 1, 1) := by decide +kernel
theorem dX11_brokenSnapshots_13 : decode cX11_brokenSnapshots 13 = .ok (.getfield 391, 3) := by decide +kernel
theorem dX11_brokenSnapshots_16 : decode cX11_brokenSnapshots 16 = .ok (.iload_n 3, 1) := by decide +kernel
theorem dX11_brokenSnapshots_17 : decode cX11_brokenSnapshots 17 = .ok (.baload, 1) := by decide +kernel
theorem dX11_brokenSnapshots_18 : decode cX11_brokenSnapshots 18 = .ok (.ifCond .eq 65, 3) := by decide +kernel
theorem dX11_brokenSnapshots_21 : decode cX11_brokenSnapshots 21 = .ok (.aload_n 0, 1) := by decide +kernel
theorem dX11_brokenSnapshots_22 : decode cX11_brokenSnapshots 22 = .ok (.getfield 30, 3) := by decide +kernel
theorem dX11_brokenSnapshots_25 : decode cX11_brokenSnapshots 25 = .ok (.invokevirtual 165, 3) := by decide +kernel
theorem dX11_brokenSnapshots_28 : decode cX11_brokenSnapshots 28 = .ok (.aload_n 0, 1) := by decide +kernel
theorem dX11_brokenSnapshots_29 : decode cX11_brokenSnapshots 29 = .ok (.getfield 30, 3) := by decide +kernel
theorem dX11_brokenSnapshots_32 : decode cX11_brokenSnapshots 32 = .ok (.aload_n 0, 1) := by decide +kernel
theorem dX11_brokenSnapshots_33 : decode cX11_brokenSnapshots 33 = .ok (.getfield 59, 3) := by decide +kernel
theorem dX11_brokenSnapshots_36 : decode cX11_brokenSnapshots 36 = .ok (.iload_n 3, 1) := by decide +kernel
theorem dX11_brokenSnapshots_37 : decode cX11_brokenSnapshots 37 = .ok (.aaload, 1) := by decide +kernel
theorem dX11_brokenSnapshots_38 : decode cX11_brokenSnapshots 38 = .ok (.getfield 238, 3) := by decide +kernel
theorem dX11_brokenSnapshots_41 : decode cX11_brokenSnapshots 41 = .ok (.aload_n 0, 1) := by decide +kernel
theorem dX11_brokenSnapshots_42 : decode cX11_brokenSnapshots 42 = .ok (.getfield 59, 3) := by decide +kernel
theorem dX11_brokenSnapshots_45 : decode cX11_brokenSnapshots 45 = .ok (.iload_n 3, 1) := by decide +kernel
theorem dX11_brokenSnapshots_46 : decode cX11_brokenSnapshots 46 = .ok (.aaload, 1) := by decide +kernel
theorem dX11_brokenSnapshots_47 : decode cX11_brokenSnapshots 47 = .ok (.getfield 238, 3) := by decide +kernel
theorem dX11_brokenSnapshots_50 : decode cX11_brokenSnapshots 50 = .ok (.arraylength, 1) := by decide +kernel
theorem dX11_brokenSnapshots_51 : decode cX11_brokenSnapshots 51 = .ok (.invokevirtual 397, 3) := by decide +kernel
theorem dX11_brokenSnapshots_54 : decode cX11_brokenSnapshots 54 = .ok (.aload_n 0, 1) := by decide +kernel
theorem dX11_brokenSnapshots_55 : decode cX11_brokenSnapshots 55 = .ok (.getfield 30, 3) := by decide +kernel
theorem dX11_brokenSnapshots_58 : decode cX11_brokenSnapshots 58 = .ok (.invokevirtual 171, 3) := by decide +kernel
theorem dX11_brokenSnapshots_61 : decode cX11_brokenSnapshots 61 = .ok (.iload_n 2, 1) := by decide +kernel
theorem dX11_brokenSnapshots_62 : decode cX11_brokenSnapshots 62 = .ok (.aload_n 0, 1) := by decide +kernel
theorem dX11_brokenSnapshots_63 : decode cX11_brokenSnapshots 63 = .ok (.getfield 30, 3) := by decide +kernel
theorem dX11_brokenSnapshots_66 : decode cX11_brokenSnapshots 66 = .ok (.aload_n 1, 1) := by decide +kernel
theorem dX11_brokenSnapshots_67 : decode cX11_brokenSnapshots 67 = .ok (.getfield 384, 3) := by decide +kernel
theorem dX11_brokenSnapshots_70 : decode cX11_brokenSnapshots 70 = .ok (.invokevirtual 400, 3) := by decide +kernel
theorem dX11_brokenSnapshots_73 : decode cX11_brokenSnapshots 73 = .ok (.ifCond .le 7, 3) := by decide +kernel
theorem dX11_brokenSnapshots_76 : decode cX11_brokenSnapshots 76 = .ok (.iconst 1, 1) := by decide +kernel
theorem dX11_brokenSnapshots_77 : decode cX11_brokenSnapshots 77 = .ok (.goto 4, 3) := by decide +kernel
theorem dX11_brokenSnapshots_80 : decode cX11_brokenSnapshots 80 = .ok (.iconst 0, 1) := by decide +kernel
theorem dX11_brokenSnapshots_81 : decode cX11_brokenSnapshots 81 = .ok (.iadd, 1) := by decide +kernel
theorem dX11_brokenSnapshots_82 : decode cX11_brokenSnapshots 82 = .ok (.istore_n 2, 1) := by decide +kernel
theorem dX11_brokenSnapshots_83 : decode cX11_brokenSnapshots 83 = .ok (.iinc 3 1, 3) := by decide +kernel
theorem dX11_brokenSnapshots_86 : decode cX11_brokenSnapshots 86 = .ok (.goto (-82), 3) := by decide +kernel
theorem dX11_brokenSnapshots_89 : decode cX11_brokenSnapshots 89 = .ok (.iload_n 2, 1) := by decide +kernel
theorem dX11_brokenSnapshots_90 : decode cX11_brokenSnapshots 90 = .ok (.ireturn, 1) := by decide +kernel
theorem dX11_has_0 : decode cX11_has 0 = .ok (.iload_n 1, 1) := by decide +kernel
theorem dX11_has_1 : decode cX11_has 1 = .ok (.ifCond .lt 36, 3) := by decide +kernel
theorem dX11_has_4 : decode cX11_has 4 = .ok (.iload_n 1, 1) := by decide +kernel
theorem dX11_has_5 : decode cX11_has 5 = .ok (.iconst 2, 1) := by decide +kernel
theorem dX11_has_6 : decode cX11_has 6 = .ok (.if_icmp .ge 31, 3) := by decide +kernel
theorem dX11_has_9 : decode cX11_has 9 = .ok (.iload_n 2, 1) := by decide +kernel
theorem dX11_has_10 : decode cX11_has 10 = .ok (.ifCond .lt 27, 3) := by decide +kernel
theorem dX11_has_13 : decode cX11_has 13 = .ok (.iload_n 2, 1) := by decide +kernel
theorem dX11_has_14 : decode cX11_has 14 = .ok (.bipush 80, 2) := by decide +kernel
theorem dX11_has_16 : decode cX11_has 16 = .ok (.if_icmp .ge 21, 3) := by decide +kernel
theorem dX11_has_19 : decode cX11_has 19 = .ok (.aload_n 0, 1) := by decide +kernel
theorem dX11_has_20 : decode cX11_has 20 = .ok (.getfield 65, 3) := by decide +kernel
theorem dX11_has_23 : decode cX11_has 23 = .ok (.iload_n 1, 1) := by decide +kernel
theorem dX11_has_24 : decode cX11_has 24 = .ok (.aaload, 1) := by decide +kernel
theorem dX11_has_25 : decode cX11_has 25 = .ok (.getfield 384, 3) := by decide +kernel
theorem dX11_has_28 : decode cX11_has 28 = .ok (.iload_n 2, 1) := by decide +kernel
theorem dX11_has_29 : decode cX11_has 29 = .ok (.baload, 1) := by decide +kernel
theorem dX11_has_30 : decode cX11_has 30 = .ok (.ifCond .eq 7, 3) := by decide +kernel
theorem dX11_has_33 : decode cX11_has 33 = .ok (.iconst 1, 1) := by decide +kernel
theorem dX11_has_34 : decode cX11_has 34 = .ok (.goto 4, 3) := by decide +kernel
theorem dX11_has_37 : decode cX11_has 37 = .ok (.iconst 0, 1) := by decide +kernel
theorem dX11_has_38 : decode cX11_has 38 = .ok (.ireturn, 1) := by decide +kernel
theorem dX11_audit_0 : decode cX11_audit 0 = .ok (.aload_n 0, 1) := by decide +kernel
theorem dX11_audit_1 : decode cX11_audit 1 = .ok (.invokevirtual 403, 3) := by decide +kernel
theorem dX11_audit_4 : decode cX11_audit 4 = .ok (.aload_n 0, 1) := by decide +kernel
theorem dX11_audit_5 : decode cX11_audit 5 = .ok (.getfield 30, 3) := by decide +kernel
theorem dX11_audit_8 : decode cX11_audit 8 = .ok (.invokevirtual 406, 3) := by decide +kernel
theorem dX11_audit_11 : decode cX11_audit 11 = .ok (.iadd, 1) := by decide +kernel
theorem dX11_audit_12 : decode cX11_audit 12 = .ok (.aload_n 0, 1) := by decide +kernel
theorem dX11_audit_13 : decode cX11_audit 13 = .ok (.getfield 30, 3) := by decide +kernel
theorem dX11_audit_16 : decode cX11_audit 16 = .ok (.invokevirtual 409, 3) := by decide +kernel
theorem dX11_audit_19 : decode cX11_audit 19 = .ok (.iadd, 1) := by decide +kernel
theorem dX11_audit_20 : decode cX11_audit 20 = .ok (.istore_n 1, 1) := by decide +kernel
theorem dX11_audit_21 : decode cX11_audit 21 = .ok (.iconst 0, 1) := by decide +kernel
theorem dX11_audit_22 : decode cX11_audit 22 = .ok (.istore_n 2, 1) := by decide +kernel
theorem dX11_audit_23 : decode cX11_audit 23 = .ok (.iload_n 2, 1) := by decide +kernel
theorem dX11_audit_24 : decode cX11_audit 24 = .ok (.iconst 2, 1) := by decide +kernel
theorem dX11_audit_25 : decode cX11_audit 25 = .ok (.if_icmp .ge 52, 3) := by decide +kernel
theorem dX11_audit_28 : decode cX11_audit 28 = .ok (.aload_n 0, 1) := by decide +kernel
theorem dX11_audit_29 : decode cX11_audit 29 = .ok (.getfield 70, 3) := by decide +kernel
theorem dX11_audit_32 : decode cX11_audit 32 = .ok (.invokevirtual 412, 3) := by decide +kernel
theorem dX11_audit_35 : decode cX11_audit 35 = .ok (.aload_n 0, 1) := by decide +kernel
theorem dX11_audit_36 : decode cX11_audit 36 = .ok (.getfield 70, 3) := by decide +kernel
theorem dX11_audit_39 : decode cX11_audit 39 = .ok (.aload_n 0, 1) := by decide +kernel
theorem dX11_audit_40 : decode cX11_audit 40 = .ok (.getfield 10, 3) := by decide +kernel
theorem dX11_audit_43 : decode cX11_audit 43 = .ok (.aload_n 0, 1) := by decide +kernel
theorem dX11_audit_44 : decode cX11_audit 44 = .ok (.getfield 65, 3) := by decide +kernel
theorem dX11_audit_47 : decode cX11_audit 47 = .ok (.iload_n 2, 1) := by decide +kernel
theorem dX11_audit_48 : decode cX11_audit 48 = .ok (.aaload, 1) := by decide +kernel
theorem dX11_audit_49 : decode cX11_audit 49 = .ok (.getfield 274, 3) := by decide +kernel
theorem dX11_audit_52 : decode cX11_audit 52 = .ok (.invokevirtual 267, 3) := by decide +kernel
theorem dX11_audit_55 : decode cX11_audit 55 = .ok (.iload_n 1, 1) := by decide +kernel
theorem dX11_audit_56 : decode cX11_audit 56 = .ok (.aload_n 0, 1) := by decide +kernel
theorem dX11_audit_57 : decode cX11_audit 57 = .ok (.getfield 65, 3) := by decide +kernel
theorem dX11_audit_60 : decode cX11_audit 60 = .ok (.iload_n 2, 1) := by decide +kernel
theorem dX11_audit_61 : decode cX11_audit 61 = .ok (.aaload, 1) := by decide +kernel
theorem dX11_audit_62 : decode cX11_audit 62 = .ok (.aload_n 0, 1) := by decide +kernel
theorem dX11_audit_63 : decode cX11_audit 63 = .ok (.getfield 70, 3) := by decide +kernel
theorem dX11_audit_66 : decode cX11_audit 66 = .ok (.invokevirtual 415, 3) := by decide +kernel
theorem dX11_audit_69 : decode cX11_audit 69 = .ok (.iadd, 1) := by decide +kernel
theorem dX11_audit_70 : decode cX11_audit 70 = .ok (.istore_n 1, 1) := by decide +kernel
theorem dX11_audit_71 : decode cX11_audit 71 = .ok (.iinc 2 1, 3) := by decide +kernel
theorem dX11_audit_74 : decode cX11_audit 74 = .ok (.goto (-51), 3) := by decide +kernel
theorem dX11_audit_77 : decode cX11_audit 77 = .ok (.iload_n 1, 1) := by decide +kernel
theorem dX11_audit_78 : decode cX11_audit 78 = .ok (.ireturn, 1) := by decide +kernel
theorem dX11_reachedButFreed_0 : decode cX11_reachedButFreed 0 = .ok (.aload_n 0, 1) := by decide +kernel
theorem dX11_reachedButFreed_1 : decode cX11_reachedButFreed 1 = .ok (.getfield 30, 3) := by decide +kernel
theorem dX11_reachedButFreed_4 : decode cX11_reachedButFreed 4 = .ok (.invokevirtual 165, 3) := by decide +kernel
theorem dX11_reachedButFreed_7 : decode cX11_reachedButFreed 7 = .ok (.iconst 0, 1) := by decide +kernel
theorem dX11_reachedButFreed_8 : decode cX11_reachedButFreed 8 = .ok (.istore_n 1, 1) := by decide +kernel
theorem dX11_reachedButFreed_9 : decode cX11_reachedButFreed 9 = .ok (.iload_n 1, 1) := by decide +kernel
theorem dX11_reachedButFreed_10 : decode cX11_reachedButFreed 10 = .ok (.aload_n 0, 1) := by decide +kernel
theorem dX11_reachedButFreed_11 : decode cX11_reachedButFreed 11 = .ok (.getfield 183, 3) := by decide +kernel
theorem dX11_reachedButFreed_14 : decode cX11_reachedButFreed 14 = .ok (.if_icmp .ge 47, 3) := by decide +kernel
theorem dX11_reachedButFreed_17 : decode cX11_reachedButFreed 17 = .ok (.aload_n 0, 1) := by decide +kernel
theorem dX11_reachedButFreed_18 : decode cX11_reachedButFreed 18 = .ok (.getfield 59, 3) := by decide +kernel
theorem dX11_reachedButFreed_21 : decode cX11_reachedButFreed 21 = .ok (.iload_n 1, 1) := by decide +kernel
theorem dX11_reachedButFreed_22 : decode cX11_reachedButFreed 22 = .ok (.aaload, 1) := by decide +kernel
theorem dX11_reachedButFreed_23 : decode cX11_reachedButFreed 23 = .ok (.getfield 226, 3) := by decide +kernel
theorem dX11_reachedButFreed_26 : decode cX11_reachedButFreed 26 = .ok (.ifCond .ne 29, 3) := by decide +kernel
theorem dX11_reachedButFreed_29 : decode cX11_reachedButFreed 29 = .ok (.aload_n 0, 1) := by decide +kernel
theorem dX11_reachedButFreed_30 : decode cX11_reachedButFreed 30 = .ok (.getfield 30, 3) := by decide +kernel
theorem dX11_reachedButFreed_33 : decode cX11_reachedButFreed 33 = .ok (.aload_n 0, 1) := by decide +kernel
theorem dX11_reachedButFreed_34 : decode cX11_reachedButFreed 34 = .ok (.getfield 59, 3) := by decide +kernel
theorem dX11_reachedButFreed_37 : decode cX11_reachedButFreed 37 = .ok (.iload_n 1, 1) := by decide +kernel
theorem dX11_reachedButFreed_38 : decode cX11_reachedButFreed 38 = .ok (.aaload, 1) := by decide +kernel
theorem dX11_reachedButFreed_39 : decode cX11_reachedButFreed 39 = .ok (.getfield 238, 3) := by decide +kernel
theorem dX11_reachedButFreed_42 : decode cX11_reachedButFreed 42 = .ok (.aload_n 0, 1) := by decide +kernel
theorem dX11_reachedButFreed_43 : decode cX11_reachedButFreed 43 = .ok (.getfield 59, 3) := by decide +kernel
theorem dX11_reachedButFreed_46 : decode cX11_reachedButFreed 46 = .ok (.iload_n 1, 1) := by decide +kernel
theorem dX11_reachedButFreed_47 : decode cX11_reachedButFreed 47 = .ok (.aaload, 1) := by decide +kernel
theorem dX11_reachedButFreed_48 : decode cX11_reachedButFreed 48 = .ok (.getfield 238, 3) := by decide +kernel
theorem dX11_reachedButFreed_51 : decode cX11_reachedButFreed 51 = .ok (.arraylength, 1) := by decide +kernel
theorem dX11_reachedButFreed_52 : decode cX11_reachedButFreed 52 = .ok (.invokevirtual 397, 3) := by decide +kernel
theorem dX11_reachedButFreed_55 : decode cX11_reachedButFreed 55 = .ok (.iinc 1 1, 3) := by decide +kernel
theorem dX11_reachedButFreed_58 : decode cX11_reachedButFreed 58 = .ok (.goto (-49), 3) := by decide +kernel
theorem dX11_reachedButFreed_61 : decode cX11_reachedButFreed 61 = .ok (.iconst 0, 1) := by decide +kernel
theorem dX11_reachedButFreed_62 : decode cX11_reachedButFreed 62 = .ok (.istore_n 1, 1) := by decide +kernel
theorem dX11_reachedButFreed_63 : decode cX11_reachedButFreed 63 = .ok (.iload_n 1, 1) := by decide +kernel
theorem dX11_reachedButFreed_64 : decode cX11_reachedButFreed 64 = .ok (.iconst 4, 1) := by decide +kernel
theorem dX11_reachedButFreed_65 : decode cX11_reachedButFreed 65 = .ok (.if_icmp .ge 46, 3) := by decide +kernel
theorem dX11_reachedButFreed_68 : decode cX11_reachedButFreed 68 = .ok (.aload_n 0, 1) := by decide +kernel
theorem dX11_reachedButFreed_69 : decode cX11_reachedButFreed 69 = .ok (.getfield 52, 3) := by decide +kernel
theorem dX11_reachedButFreed_72 : decode cX11_reachedButFreed 72 = .ok (.iload_n 1, 1) := by decide +kernel
theorem dX11_reachedButFreed_73 : decode cX11_reachedButFreed 73 = .ok (.aaload, 1) := by decide +kernel
theorem dX11_reachedButFreed_74 : decode cX11_reachedButFreed 74 = .ok (.getfield 87, 3) := by decide +kernel
theorem dX11_reachedButFreed_77 : decode cX11_reachedButFreed 77 = .ok (.ifCond .eq 28, 3) := by decide +kernel
theorem dX11_reachedButFreed_80 : decode cX11_reachedButFreed 80 = .ok (.aload_n 0, 1) := by decide +kernel
theorem dX11_reachedButFreed_81 : decode cX11_reachedButFreed 81 = .ok (.getfield 30, 3) := by decide +kernel
theorem dX11_reachedButFreed_84 : decode cX11_reachedButFreed 84 = .ok (.aload_n 0, 1) := by decide +kernel
theorem dX11_reachedButFreed_85 : decode cX11_reachedButFreed 85 = .ok (.getfield 52, 3) := by decide +kernel
theorem dX11_reachedButFreed_88 : decode cX11_reachedButFreed 88 = .ok (.iload_n 1, 1) := by decide +kernel
theorem dX11_reachedButFreed_89 : decode cX11_reachedButFreed 89 = .ok (.aaload, 1) := by decide +kernel
theorem dX11_reachedButFreed_90 : decode cX11_reachedButFreed 90 = .ok (.getfield 193, 3) := by decide +kernel
theorem dX11_reachedButFreed_93 : decode cX11_reachedButFreed 93 = .ok (.aload_n 0, 1) := by decide +kernel
theorem dX11_reachedButFreed_94 : decode cX11_reachedButFreed 94 = .ok (.getfield 52, 3) := by decide +kernel
theorem dX11_reachedButFreed_97 : decode cX11_reachedButFreed 97 = .ok (.iload_n 1, 1) := by decide +kernel
theorem dX11_reachedButFreed_98 : decode cX11_reachedButFreed 98 = .ok (.aaload, 1) := by decide +kernel
theorem dX11_reachedButFreed_99 : decode cX11_reachedButFreed 99 = .ok (.getfield 135, 3) := by decide +kernel
theorem dX11_reachedButFreed_102 : decode cX11_reachedButFreed 102 = .ok (.invokevirtual 397, 3) := by decide +kernel
theorem dX11_reachedButFreed_105 : decode cX11_reachedButFreed 105 = .ok (.iinc 1 1, 3) := by decide +kernel
theorem dX11_reachedButFreed_108 : decode cX11_reachedButFreed 108 = .ok (.goto (-45), 3) := by decide +kernel
theorem dX11_reachedButFreed_111 : decode cX11_reachedButFreed 111 = .ok (.aload_n 0, 1) := by decide +kernel
theorem dX11_reachedButFreed_112 : decode cX11_reachedButFreed 112 = .ok (.getfield 30, 3) := by decide +kernel
theorem dX11_reachedButFreed_115 : decode cX11_reachedButFreed 115 = .ok (.invokevirtual 418, 3) := by decide +kernel
theorem dX11_reachedButFreed_118 : decode cX11_reachedButFreed 118 = .ok (.aload_n 0, 1) := by decide +kernel
theorem dX11_reachedButFreed_119 : decode cX11_reachedButFreed 119 = .ok (.getfield 30, 3) := by decide +kernel
theorem dX11_reachedButFreed_122 : decode cX11_reachedButFreed 122 = .ok (.invokevirtual 171, 3) := by decide +kernel
theorem dX11_reachedButFreed_125 : decode cX11_reachedButFreed 125 = .ok (.aload_n 0, 1) := by decide +kernel
theorem dX11_reachedButFreed_126 : decode cX11_reachedButFreed 126 = .ok (.getfield 30, 3) := by decide +kernel
theorem dX11_reachedButFreed_129 : decode cX11_reachedButFreed 129 = .ok (.invokevirtual 421, 3) := by decide +kernel
theorem dX11_reachedButFreed_132 : decode cX11_reachedButFreed 132 = .ok (.ireturn, 1) := by decide +kernel
