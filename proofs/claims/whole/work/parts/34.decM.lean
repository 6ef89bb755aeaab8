/-! What each instruction is (written by program). -/
theorem d_M_init_0 : decode b_M_init 0 = .ok (.aload_n 0, 1) := by decide +kernel
theorem d_M_init_1 : decode b_M_init 1 = .ok (.invokespecial 1, 3) := by decide +kernel
theorem d_M_init_4 : decode b_M_init 4 = .ok (.aload_n 0, 1) := by decide +kernel
theorem d_M_init_5 : decode b_M_init 5 = .ok (.ldc2_w 7, 3) := by decide +kernel
theorem d_M_init_8 : decode b_M_init 8 = .ok (.putfield 9, 3) := by decide +kernel
theorem d_M_init_11 : decode b_M_init 11 = .ok (.aload_n 0, 1) := by decide +kernel
theorem d_M_init_12 : decode b_M_init 12 = .ok (.ldc2_w 15, 3) := by decide +kernel
theorem d_M_init_15 : decode b_M_init 15 = .ok (.putfield 17, 3) := by decide +kernel
theorem d_M_init_18 : decode b_M_init 18 = .ok (.aload_n 0, 1) := by decide +kernel
theorem d_M_init_19 : decode b_M_init 19 = .ok (.bipush 8, 2) := by decide +kernel
theorem d_M_init_21 : decode b_M_init 21 = .ok (.newarray .long, 2) := by decide +kernel
theorem d_M_init_23 : decode b_M_init 23 = .ok (.putfield 20, 3) := by decide +kernel
theorem d_M_init_26 : decode b_M_init 26 = .ok (.aload_n 0, 1) := by decide +kernel
theorem d_M_init_27 : decode b_M_init 27 = .ok (.bipush 8, 2) := by decide +kernel
theorem d_M_init_29 : decode b_M_init 29 = .ok (.newarray .long, 2) := by decide +kernel
theorem d_M_init_31 : decode b_M_init 31 = .ok (.putfield 24, 3) := by decide +kernel
theorem d_M_init_34 : decode b_M_init 34 = .ok (.aload_n 0, 1) := by decide +kernel
theorem d_M_init_35 : decode b_M_init 35 = .ok (.bipush 8, 2) := by decide +kernel
theorem d_M_init_37 : decode b_M_init 37 = .ok (.newarray .long, 2) := by decide +kernel
theorem d_M_init_39 : decode b_M_init 39 = .ok (.putfield 27, 3) := by decide +kernel
theorem d_M_init_42 : decode b_M_init 42 = .ok (.aload_n 0, 1) := by decide +kernel
theorem d_M_init_43 : decode b_M_init 43 = .ok (.bipush 8, 2) := by decide +kernel
theorem d_M_init_45 : decode b_M_init 45 = .ok (.newarray .long, 2) := by decide +kernel
theorem d_M_init_47 : decode b_M_init 47 = .ok (.putfield 30, 3) := by decide +kernel
theorem d_M_init_50 : decode b_M_init 50 = .ok (.aload_n 0, 1) := by decide +kernel
theorem d_M_init_51 : decode b_M_init 51 = .ok (.ldc2_w 7, 3) := by decide +kernel
theorem d_M_init_54 : decode b_M_init 54 = .ok (.invokevirtual 33, 3) := by decide +kernel
theorem d_M_init_57 : decode b_M_init 57 = .ok (.return_, 1) := by decide +kernel
theorem d_M_thrown_0 : decode b_M_thrown 0 = .ok (.aload_n 0, 1) := by decide +kernel
theorem d_M_thrown_1 : decode b_M_thrown 1 = .ok (.getfield 37, 3) := by decide +kernel
theorem d_M_thrown_4 : decode b_M_thrown 4 = .ok (.ireturn, 1) := by decide +kernel
theorem d_M_in_0 : decode b_M_in 0 = .ok (.lload_n 0, 1) := by decide +kernel
theorem d_M_in_1 : decode b_M_in 1 = .ok (.lload_n 2, 1) := by decide +kernel
theorem d_M_in_2 : decode b_M_in 2 = .ok (.lcmp, 1) := by decide +kernel
theorem d_M_in_3 : decode b_M_in 3 = .ok (.ifCond .lt 14, 3) := by decide +kernel
theorem d_M_in_6 : decode b_M_in 6 = .ok (.lload_n 0, 1) := by decide +kernel
theorem d_M_in_7 : decode b_M_in 7 = .ok (.lload 4, 2) := by decide +kernel
theorem d_M_in_9 : decode b_M_in 9 = .ok (.lcmp, 1) := by decide +kernel
theorem d_M_in_10 : decode b_M_in 10 = .ok (.ifCond .gt 7, 3) := by decide +kernel
theorem d_M_in_13 : decode b_M_in 13 = .ok (.iconst 1, 1) := by decide +kernel
theorem d_M_in_14 : decode b_M_in 14 = .ok (.goto 4, 3) := by decide +kernel
theorem d_M_in_17 : decode b_M_in 17 = .ok (.iconst 0, 1) := by decide +kernel
theorem d_M_in_18 : decode b_M_in 18 = .ok (.ireturn, 1) := by decide +kernel
theorem d_M_size_0 : decode b_M_size 0 = .ok (.lload_n 0, 1) := by decide +kernel
theorem d_M_size_1 : decode b_M_size 1 = .ok (.lconst 0, 1) := by decide +kernel
theorem d_M_size_2 : decode b_M_size 2 = .ok (.lcmp, 1) := by decide +kernel
theorem d_M_size_3 : decode b_M_size 3 = .ok (.ifCond .ge 8, 3) := by decide +kernel
theorem d_M_size_6 : decode b_M_size 6 = .ok (.lload_n 0, 1) := by decide +kernel
theorem d_M_size_7 : decode b_M_size 7 = .ok (.lneg, 1) := by decide +kernel
theorem d_M_size_8 : decode b_M_size 8 = .ok (.goto 4, 3) := by decide +kernel
theorem d_M_size_11 : decode b_M_size 11 = .ok (.lload_n 0, 1) := by decide +kernel
theorem d_M_size_12 : decode b_M_size 12 = .ok (.lreturn, 1) := by decide +kernel
theorem d_M_rest_0 : decode b_M_rest 0 = .ok (.lload_n 0, 1) := by decide +kernel
theorem d_M_rest_1 : decode b_M_rest 1 = .ok (.lload_n 2, 1) := by decide +kernel
theorem d_M_rest_2 : decode b_M_rest 2 = .ok (.lrem, 1) := by decide +kernel
theorem d_M_rest_3 : decode b_M_rest 3 = .ok (.lstore 4, 2) := by decide +kernel
theorem d_M_rest_5 : decode b_M_rest 5 = .ok (.lload 4, 2) := by decide +kernel
theorem d_M_rest_7 : decode b_M_rest 7 = .ok (.lconst 0, 1) := by decide +kernel
theorem d_M_rest_8 : decode b_M_rest 8 = .ok (.lcmp, 1) := by decide +kernel
theorem d_M_rest_9 : decode b_M_rest 9 = .ok (.ifCond .ge 10, 3) := by decide +kernel
theorem d_M_rest_12 : decode b_M_rest 12 = .ok (.lload 4, 2) := by decide +kernel
theorem d_M_rest_14 : decode b_M_rest 14 = .ok (.lload_n 2, 1) := by decide +kernel
theorem d_M_rest_15 : decode b_M_rest 15 = .ok (.ladd, 1) := by decide +kernel
theorem d_M_rest_16 : decode b_M_rest 16 = .ok (.goto 5, 3) := by decide +kernel
theorem d_M_rest_19 : decode b_M_rest 19 = .ok (.lload 4, 2) := by decide +kernel
theorem d_M_rest_21 : decode b_M_rest 21 = .ok (.lreturn, 1) := by decide +kernel
theorem d_M_common_0 : decode b_M_common 0 = .ok (.lload_n 0, 1) := by decide +kernel
theorem d_M_common_1 : decode b_M_common 1 = .ok (.invokestatic 41, 3) := by decide +kernel
theorem d_M_common_4 : decode b_M_common 4 = .ok (.lstore 4, 2) := by decide +kernel
theorem d_M_common_6 : decode b_M_common 6 = .ok (.lload_n 2, 1) := by decide +kernel
theorem d_M_common_7 : decode b_M_common 7 = .ok (.invokestatic 41, 3) := by decide +kernel
theorem d_M_common_10 : decode b_M_common 10 = .ok (.lstore 6, 2) := by decide +kernel
theorem d_M_common_12 : decode b_M_common 12 = .ok (.lload 6, 2) := by decide +kernel
theorem d_M_common_14 : decode b_M_common 14 = .ok (.lconst 0, 1) := by decide +kernel
theorem d_M_common_15 : decode b_M_common 15 = .ok (.lcmp, 1) := by decide +kernel
theorem d_M_common_16 : decode b_M_common 16 = .ok (.ifCond .le 21, 3) := by decide +kernel
theorem d_M_common_19 : decode b_M_common 19 = .ok (.lload 4, 2) := by decide +kernel
theorem d_M_common_21 : decode b_M_common 21 = .ok (.lload 6, 2) := by decide +kernel
theorem d_M_common_23 : decode b_M_common 23 = .ok (.lrem, 1) := by decide +kernel
theorem d_M_common_24 : decode b_M_common 24 = .ok (.lstore 8, 2) := by decide +kernel
theorem d_M_common_26 : decode b_M_common 26 = .ok (.lload 6, 2) := by decide +kernel
theorem d_M_common_28 : decode b_M_common 28 = .ok (.lstore 4, 2) := by decide +kernel
theorem d_M_common_30 : decode b_M_common 30 = .ok (.lload 8, 2) := by decide +kernel
theorem d_M_common_32 : decode b_M_common 32 = .ok (.lstore 6, 2) := by decide +kernel
theorem d_M_common_34 : decode b_M_common 34 = .ok (.goto (-22), 3) := by decide +kernel
theorem d_M_common_37 : decode b_M_common 37 = .ok (.lload 4, 2) := by decide +kernel
theorem d_M_common_39 : decode b_M_common 39 = .ok (.lreturn, 1) := by decide +kernel
theorem d_M_rootOf_0 : decode b_M_rootOf 0 = .ok (.lconst 0, 1) := by decide +kernel
theorem d_M_rootOf_1 : decode b_M_rootOf 1 = .ok (.lstore_n 2, 1) := by decide +kernel
theorem d_M_rootOf_2 : decode b_M_rootOf 2 = .ok (.lload_n 2, 1) := by decide +kernel
theorem d_M_rootOf_3 : decode b_M_rootOf 3 = .ok (.lconst 1, 1) := by decide +kernel
theorem d_M_rootOf_4 : decode b_M_rootOf 4 = .ok (.ladd, 1) := by decide +kernel
theorem d_M_rootOf_5 : decode b_M_rootOf 5 = .ok (.lload_n 2, 1) := by decide +kernel
theorem d_M_rootOf_6 : decode b_M_rootOf 6 = .ok (.lconst 1, 1) := by decide +kernel
theorem d_M_rootOf_7 : decode b_M_rootOf 7 = .ok (.ladd, 1) := by decide +kernel
theorem d_M_rootOf_8 : decode b_M_rootOf 8 = .ok (.lmul, 1) := by decide +kernel
theorem d_M_rootOf_9 : decode b_M_rootOf 9 = .ok (.lload_n 0, 1) := by decide +kernel
theorem d_M_rootOf_10 : decode b_M_rootOf 10 = .ok (.lcmp, 1) := by decide +kernel
theorem d_M_rootOf_11 : decode b_M_rootOf 11 = .ok (.ifCond .gt 10, 3) := by decide +kernel
theorem d_M_rootOf_14 : decode b_M_rootOf 14 = .ok (.lload_n 2, 1) := by decide +kernel
theorem d_M_rootOf_15 : decode b_M_rootOf 15 = .ok (.lconst 1, 1) := by decide +kernel
theorem d_M_rootOf_16 : decode b_M_rootOf 16 = .ok (.ladd, 1) := by decide +kernel
theorem d_M_rootOf_17 : decode b_M_rootOf 17 = .ok (.lstore_n 2, 1) := by decide +kernel
theorem d_M_rootOf_18 : decode b_M_rootOf 18 = .ok (.goto (-16), 3) := by decide +kernel
theorem d_M_rootOf_21 : decode b_M_rootOf 21 = .ok (.lload_n 2, 1) := by decide +kernel
theorem d_M_rootOf_22 : decode b_M_rootOf 22 = .ok (.lreturn, 1) := by decide +kernel
theorem d_M_begin_0 : decode b_M_begin 0 = .ok (.aload_n 0, 1) := by decide +kernel
theorem d_M_begin_1 : decode b_M_begin 1 = .ok (.lload_n 1, 1) := by decide +kernel
theorem d_M_begin_2 : decode b_M_begin 2 = .ok (.putfield 9, 3) := by decide +kernel
theorem d_M_begin_5 : decode b_M_begin 5 = .ok (.aload_n 0, 1) := by decide +kernel
theorem d_M_begin_6 : decode b_M_begin 6 = .ok (.aload_n 0, 1) := by decide +kernel
theorem d_M_begin_7 : decode b_M_begin 7 = .ok (.getfield 9, 3) := by decide +kernel
theorem d_M_begin_10 : decode b_M_begin 10 = .ok (.lconst 0, 1) := by decide +kernel
theorem d_M_begin_11 : decode b_M_begin 11 = .ok (.lcmp, 1) := by decide +kernel
theorem d_M_begin_12 : decode b_M_begin 12 = .ok (.ifCond .ge 9, 3) := by decide +kernel
theorem d_M_begin_15 : decode b_M_begin 15 = .ok (.ldc2_w 15, 3) := by decide +kernel
theorem d_M_begin_18 : decode b_M_begin 18 = .ok (.goto 10, 3) := by decide +kernel
theorem d_M_begin_21 : decode b_M_begin 21 = .ok (.aload_n 0, 1) := by decide +kernel
theorem d_M_begin_22 : decode b_M_begin 22 = .ok (.getfield 9, 3) := by decide +kernel
theorem d_M_begin_25 : decode b_M_begin 25 = .ok (.invokestatic 45, 3) := by decide +kernel
theorem d_M_begin_28 : decode b_M_begin 28 = .ok (.putfield 17, 3) := by decide +kernel
theorem d_M_begin_31 : decode b_M_begin 31 = .ok (.aload_n 0, 1) := by decide +kernel
theorem d_M_begin_32 : decode b_M_begin 32 = .ok (.iconst 0, 1) := by decide +kernel
theorem d_M_begin_33 : decode b_M_begin 33 = .ok (.putfield 48, 3) := by decide +kernel
theorem d_M_begin_36 : decode b_M_begin 36 = .ok (.aload_n 0, 1) := by decide +kernel
theorem d_M_begin_37 : decode b_M_begin 37 = .ok (.getfield 9, 3) := by decide +kernel
theorem d_M_begin_40 : decode b_M_begin 40 = .ok (.invokestatic 41, 3) := by decide +kernel
theorem d_M_begin_43 : decode b_M_begin 43 = .ok (.lstore_n 3, 1) := by decide +kernel
theorem d_M_begin_44 : decode b_M_begin 44 = .ok (.ldc2_w 51, 3) := by decide +kernel
theorem d_M_begin_47 : decode b_M_begin 47 = .ok (.lstore 5, 2) := by decide +kernel
theorem d_M_begin_49 : decode b_M_begin 49 = .ok (.lload 5, 2) := by decide +kernel
theorem d_M_begin_51 : decode b_M_begin 51 = .ok (.lload_n 3, 1) := by decide +kernel
theorem d_M_begin_52 : decode b_M_begin 52 = .ok (.lcmp, 1) := by decide +kernel
theorem d_M_begin_53 : decode b_M_begin 53 = .ok (.ifCond .gt 64, 3) := by decide +kernel
theorem d_M_begin_56 : decode b_M_begin 56 = .ok (.lload_n 3, 1) := by decide +kernel
theorem d_M_begin_57 : decode b_M_begin 57 = .ok (.lload 5, 2) := by decide +kernel
theorem d_M_begin_59 : decode b_M_begin 59 = .ok (.lrem, 1) := by decide +kernel
theorem d_M_begin_60 : decode b_M_begin 60 = .ok (.lconst 0, 1) := by decide +kernel
theorem d_M_begin_61 : decode b_M_begin 61 = .ok (.lcmp, 1) := by decide +kernel
theorem d_M_begin_62 : decode b_M_begin 62 = .ok (.ifCond .eq 6, 3) := by decide +kernel
theorem d_M_begin_65 : decode b_M_begin 65 = .ok (.goto 41, 3) := by decide +kernel
theorem d_M_begin_68 : decode b_M_begin 68 = .ok (.aload_n 0, 1) := by decide +kernel
theorem d_M_begin_69 : decode b_M_begin 69 = .ok (.getfield 30, 3) := by decide +kernel
theorem d_M_begin_72 : decode b_M_begin 72 = .ok (.aload_n 0, 1) := by decide +kernel
theorem d_M_begin_73 : decode b_M_begin 73 = .ok (.getfield 48, 3) := by decide +kernel
theorem d_M_begin_76 : decode b_M_begin 76 = .ok (.lload 5, 2) := by decide +kernel
theorem d_M_begin_78 : decode b_M_begin 78 = .ok (.lastore, 1) := by decide +kernel
theorem d_M_begin_79 : decode b_M_begin 79 = .ok (.aload_n 0, 1) := by decide +kernel
theorem d_M_begin_80 : decode b_M_begin 80 = .ok (.dup, 1) := by decide +kernel
theorem d_M_begin_81 : decode b_M_begin 81 = .ok (.getfield 48, 3) := by decide +kernel
theorem d_M_begin_84 : decode b_M_begin 84 = .ok (.iconst 1, 1) := by decide +kernel
theorem d_M_begin_85 : decode b_M_begin 85 = .ok (.iadd, 1) := by decide +kernel
theorem d_M_begin_86 : decode b_M_begin 86 = .ok (.putfield 48, 3) := by decide +kernel
theorem d_M_begin_89 : decode b_M_begin 89 = .ok (.lload_n 3, 1) := by decide +kernel
theorem d_M_begin_90 : decode b_M_begin 90 = .ok (.lload 5, 2) := by decide +kernel
theorem d_M_begin_92 : decode b_M_begin 92 = .ok (.lrem, 1) := by decide +kernel
theorem d_M_begin_93 : decode b_M_begin 93 = .ok (.lconst 0, 1) := by decide +kernel
theorem d_M_begin_94 : decode b_M_begin 94 = .ok (.lcmp, 1) := by decide +kernel
theorem d_M_begin_95 : decode b_M_begin 95 = .ok (.ifCond .ne 11, 3) := by decide +kernel
theorem d_M_begin_98 : decode b_M_begin 98 = .ok (.lload_n 3, 1) := by decide +kernel
theorem d_M_begin_99 : decode b_M_begin 99 = .ok (.lload 5, 2) := by decide +kernel
theorem d_M_begin_101 : decode b_M_begin 101 = .ok (.ldiv, 1) := by decide +kernel
theorem d_M_begin_102 : decode b_M_begin 102 = .ok (.lstore_n 3, 1) := by decide +kernel
theorem d_M_begin_103 : decode b_M_begin 103 = .ok (.goto (-14), 3) := by decide +kernel
theorem d_M_begin_106 : decode b_M_begin 106 = .ok (.lload 5, 2) := by decide +kernel
theorem d_M_begin_108 : decode b_M_begin 108 = .ok (.ldc2_w 53, 3) := by decide +kernel
theorem d_M_begin_111 : decode b_M_begin 111 = .ok (.ladd, 1) := by decide +kernel
theorem d_M_begin_112 : decode b_M_begin 112 = .ok (.lstore 5, 2) := by decide +kernel
theorem d_M_begin_114 : decode b_M_begin 114 = .ok (.goto (-65), 3) := by decide +kernel
theorem d_M_begin_117 : decode b_M_begin 117 = .ok (.iconst 0, 1) := by decide +kernel
theorem d_M_begin_118 : decode b_M_begin 118 = .ok (.istore 5, 2) := by decide +kernel
theorem d_M_begin_120 : decode b_M_begin 120 = .ok (.iload 5, 2) := by decide +kernel
theorem d_M_begin_122 : decode b_M_begin 122 = .ok (.bipush 8, 2) := by decide +kernel
theorem d_M_begin_124 : decode b_M_begin 124 = .ok (.if_icmp .ge 15, 3) := by decide +kernel
theorem d_M_begin_127 : decode b_M_begin 127 = .ok (.aload_n 0, 1) := by decide +kernel
theorem d_M_begin_128 : decode b_M_begin 128 = .ok (.iload 5, 2) := by decide +kernel
theorem d_M_begin_130 : decode b_M_begin 130 = .ok (.invokevirtual 55, 3) := by decide +kernel
theorem d_M_begin_133 : decode b_M_begin 133 = .ok (.iinc 5 1, 3) := by decide +kernel
theorem d_M_begin_136 : decode b_M_begin 136 = .ok (.goto (-16), 3) := by decide +kernel
theorem d_M_begin_139 : decode b_M_begin 139 = .ok (.return_, 1) := by decide +kernel
theorem d_M_take_0 : decode b_M_take 0 = .ok (.iload_n 1, 1) := by decide +kernel
theorem d_M_take_1 : decode b_M_take 1 = .ok (.ifCond .ge 7, 3) := by decide +kernel
theorem d_M_take_4 : decode b_M_take 4 = .ok (.lconst 0, 1) := by decide +kernel
theorem d_M_take_5 : decode b_M_take 5 = .ok (.goto 8, 3) := by decide +kernel
theorem d_M_take_8 : decode b_M_take 8 = .ok (.iload_n 1, 1) := by decide +kernel
theorem d_M_take_9 : decode b_M_take 9 = .ok (.i2l, 1) := by decide +kernel
theorem d_M_take_10 : decode b_M_take 10 = .ok (.invokestatic 45, 3) := by decide +kernel
theorem d_M_take_13 : decode b_M_take 13 = .ok (.lstore_n 2, 1) := by decide +kernel
theorem d_M_take_14 : decode b_M_take 14 = .ok (.aload_n 0, 1) := by decide +kernel
theorem d_M_take_15 : decode b_M_take 15 = .ok (.iload_n 1, 1) := by decide +kernel
theorem d_M_take_16 : decode b_M_take 16 = .ok (.i2l, 1) := by decide +kernel
theorem d_M_take_17 : decode b_M_take 17 = .ok (.ldc2_w 59, 3) := by decide +kernel
theorem d_M_take_20 : decode b_M_take 20 = .ok (.ldc2_w 61, 3) := by decide +kernel
theorem d_M_take_23 : decode b_M_take 23 = .ok (.invokestatic 63, 3) := by decide +kernel
theorem d_M_take_26 : decode b_M_take 26 = .ok (.ifCond .eq 35, 3) := by decide +kernel
theorem d_M_take_29 : decode b_M_take 29 = .ok (.iload_n 1, 1) := by decide +kernel
theorem d_M_take_30 : decode b_M_take 30 = .ok (.i2l, 1) := by decide +kernel
theorem d_M_take_31 : decode b_M_take 31 = .ok (.ldc2_w 67, 3) := by decide +kernel
theorem d_M_take_34 : decode b_M_take 34 = .ok (.invokestatic 69, 3) := by decide +kernel
theorem d_M_take_37 : decode b_M_take 37 = .ok (.ldc2_w 53, 3) := by decide +kernel
theorem d_M_take_40 : decode b_M_take 40 = .ok (.lcmp, 1) := by decide +kernel
theorem d_M_take_41 : decode b_M_take 41 = .ok (.ifCond .ge 20, 3) := by decide +kernel
theorem d_M_take_44 : decode b_M_take 44 = .ok (.iload_n 1, 1) := by decide +kernel
theorem d_M_take_45 : decode b_M_take 45 = .ok (.ifCond .lt 12, 3) := by decide +kernel
theorem d_M_take_48 : decode b_M_take 48 = .ok (.lload_n 2, 1) := by decide +kernel
theorem d_M_take_49 : decode b_M_take 49 = .ok (.lload_n 2, 1) := by decide +kernel
theorem d_M_take_50 : decode b_M_take 50 = .ok (.lmul, 1) := by decide +kernel
theorem d_M_take_51 : decode b_M_take 51 = .ok (.iload_n 1, 1) := by decide +kernel
theorem d_M_take_52 : decode b_M_take 52 = .ok (.i2l, 1) := by decide +kernel
theorem d_M_take_53 : decode b_M_take 53 = .ok (.lcmp, 1) := by decide +kernel
theorem d_M_take_54 : decode b_M_take 54 = .ok (.ifCond .eq 7, 3) := by decide +kernel
theorem d_M_take_57 : decode b_M_take 57 = .ok (.iconst 0, 1) := by decide +kernel
theorem d_M_take_58 : decode b_M_take 58 = .ok (.goto 4, 3) := by decide +kernel
theorem d_M_take_61 : decode b_M_take 61 = .ok (.iconst 1, 1) := by decide +kernel
theorem d_M_take_62 : decode b_M_take 62 = .ok (.putfield 37, 3) := by decide +kernel
theorem d_M_take_65 : decode b_M_take 65 = .ok (.aload_n 0, 1) := by decide +kernel
theorem d_M_take_66 : decode b_M_take 66 = .ok (.getfield 37, 3) := by decide +kernel
theorem d_M_take_69 : decode b_M_take 69 = .ok (.ifCond .ne 9, 3) := by decide +kernel
theorem d_M_take_72 : decode b_M_take 72 = .ok (.aload_n 0, 1) := by decide +kernel
theorem d_M_take_73 : decode b_M_take 73 = .ok (.iload_n 1, 1) := by decide +kernel
theorem d_M_take_74 : decode b_M_take 74 = .ok (.i2l, 1) := by decide +kernel
theorem d_M_take_75 : decode b_M_take 75 = .ok (.invokevirtual 33, 3) := by decide +kernel
theorem d_M_take_78 : decode b_M_take 78 = .ok (.return_, 1) := by decide +kernel
theorem d_M_keep_0 : decode b_M_keep 0 = .ok (.aload_n 0, 1) := by decide +kernel
theorem d_M_keep_1 : decode b_M_keep 1 = .ok (.getfield 20, 3) := by decide +kernel
theorem d_M_keep_4 : decode b_M_keep 4 = .ok (.iload_n 1, 1) := by decide +kernel
theorem d_M_keep_5 : decode b_M_keep 5 = .ok (.aload_n 0, 1) := by decide +kernel
theorem d_M_keep_6 : decode b_M_keep 6 = .ok (.getfield 73, 3) := by decide +kernel
theorem d_M_keep_9 : decode b_M_keep 9 = .ok (.lastore, 1) := by decide +kernel
theorem d_M_keep_10 : decode b_M_keep 10 = .ok (.aload_n 0, 1) := by decide +kernel
theorem d_M_keep_11 : decode b_M_keep 11 = .ok (.getfield 24, 3) := by decide +kernel
theorem d_M_keep_14 : decode b_M_keep 14 = .ok (.iload_n 1, 1) := by decide +kernel
theorem d_M_keep_15 : decode b_M_keep 15 = .ok (.aload_n 0, 1) := by decide +kernel
theorem d_M_keep_16 : decode b_M_keep 16 = .ok (.getfield 76, 3) := by decide +kernel
theorem d_M_keep_19 : decode b_M_keep 19 = .ok (.lastore, 1) := by decide +kernel
theorem d_M_keep_20 : decode b_M_keep 20 = .ok (.aload_n 0, 1) := by decide +kernel
theorem d_M_keep_21 : decode b_M_keep 21 = .ok (.getfield 27, 3) := by decide +kernel
theorem d_M_keep_24 : decode b_M_keep 24 = .ok (.iload_n 1, 1) := by decide +kernel
theorem d_M_keep_25 : decode b_M_keep 25 = .ok (.aload_n 0, 1) := by decide +kernel
theorem d_M_keep_26 : decode b_M_keep 26 = .ok (.getfield 79, 3) := by decide +kernel
theorem d_M_keep_29 : decode b_M_keep 29 = .ok (.lastore, 1) := by decide +kernel
theorem d_M_keep_30 : decode b_M_keep 30 = .ok (.return_, 1) := by decide +kernel
theorem d_M_load_0 : decode b_M_load 0 = .ok (.aload_n 0, 1) := by decide +kernel
theorem d_M_load_1 : decode b_M_load 1 = .ok (.aload_n 0, 1) := by decide +kernel
theorem d_M_load_2 : decode b_M_load 2 = .ok (.getfield 20, 3) := by decide +kernel
theorem d_M_load_5 : decode b_M_load 5 = .ok (.iload_n 1, 1) := by decide +kernel
theorem d_M_load_6 : decode b_M_load 6 = .ok (.laload, 1) := by decide +kernel
theorem d_M_load_7 : decode b_M_load 7 = .ok (.putfield 73, 3) := by decide +kernel
theorem d_M_load_10 : decode b_M_load 10 = .ok (.aload_n 0, 1) := by decide +kernel
theorem d_M_load_11 : decode b_M_load 11 = .ok (.aload_n 0, 1) := by decide +kernel
theorem d_M_load_12 : decode b_M_load 12 = .ok (.getfield 24, 3) := by decide +kernel
theorem d_M_load_15 : decode b_M_load 15 = .ok (.iload_n 1, 1) := by decide +kernel
theorem d_M_load_16 : decode b_M_load 16 = .ok (.laload, 1) := by decide +kernel
theorem d_M_load_17 : decode b_M_load 17 = .ok (.putfield 76, 3) := by decide +kernel
theorem d_M_load_20 : decode b_M_load 20 = .ok (.aload_n 0, 1) := by decide +kernel
theorem d_M_load_21 : decode b_M_load 21 = .ok (.aload_n 0, 1) := by decide +kernel
theorem d_M_load_22 : decode b_M_load 22 = .ok (.getfield 27, 3) := by decide +kernel
theorem d_M_load_25 : decode b_M_load 25 = .ok (.iload_n 1, 1) := by decide +kernel
theorem d_M_load_26 : decode b_M_load 26 = .ok (.laload, 1) := by decide +kernel
theorem d_M_load_27 : decode b_M_load 27 = .ok (.putfield 79, 3) := by decide +kernel
theorem d_M_load_30 : decode b_M_load 30 = .ok (.return_, 1) := by decide +kernel
theorem d_M_one_0 : decode b_M_one 0 = .ok (.aload_n 0, 1) := by decide +kernel
theorem d_M_one_1 : decode b_M_one 1 = .ok (.lconst 1, 1) := by decide +kernel
theorem d_M_one_2 : decode b_M_one 2 = .ok (.putfield 73, 3) := by decide +kernel
theorem d_M_one_5 : decode b_M_one 5 = .ok (.aload_n 0, 1) := by decide +kernel
theorem d_M_one_6 : decode b_M_one 6 = .ok (.aload_n 0, 1) := by decide +kernel
theorem d_M_one_7 : decode b_M_one 7 = .ok (.getfield 9, 3) := by decide +kernel
theorem d_M_one_10 : decode b_M_one 10 = .ok (.ldc2_w 53, 3) := by decide +kernel
theorem d_M_one_13 : decode b_M_one 13 = .ok (.invokestatic 69, 3) := by decide +kernel
theorem d_M_one_16 : decode b_M_one 16 = .ok (.putfield 76, 3) := by decide +kernel
theorem d_M_one_19 : decode b_M_one 19 = .ok (.aload_n 0, 1) := by decide +kernel
theorem d_M_one_20 : decode b_M_one 20 = .ok (.aload_n 0, 1) := by decide +kernel
theorem d_M_one_21 : decode b_M_one 21 = .ok (.getfield 76, 3) := by decide +kernel
theorem d_M_one_24 : decode b_M_one 24 = .ok (.aload_n 0, 1) := by decide +kernel
theorem d_M_one_25 : decode b_M_one 25 = .ok (.getfield 9, 3) := by decide +kernel
theorem d_M_one_28 : decode b_M_one 28 = .ok (.lsub, 1) := by decide +kernel
theorem d_M_one_29 : decode b_M_one 29 = .ok (.ldc2_w 67, 3) := by decide +kernel
theorem d_M_one_32 : decode b_M_one 32 = .ok (.ldiv, 1) := by decide +kernel
theorem d_M_one_33 : decode b_M_one 33 = .ok (.putfield 79, 3) := by decide +kernel
theorem d_M_one_36 : decode b_M_one 36 = .ok (.aload_n 0, 1) := by decide +kernel
theorem d_M_one_37 : decode b_M_one 37 = .ok (.invokevirtual 82, 3) := by decide +kernel
theorem d_M_one_40 : decode b_M_one 40 = .ok (.return_, 1) := by decide +kernel
theorem d_M_keepOne_0 : decode b_M_keepOne 0 = .ok (.aload_n 0, 1) := by decide +kernel
theorem d_M_keepOne_1 : decode b_M_keepOne 1 = .ok (.invokevirtual 85, 3) := by decide +kernel
theorem d_M_keepOne_4 : decode b_M_keepOne 4 = .ok (.aload_n 0, 1) := by decide +kernel
theorem d_M_keepOne_5 : decode b_M_keepOne 5 = .ok (.iload_n 1, 1) := by decide +kernel
theorem d_M_keepOne_6 : decode b_M_keepOne 6 = .ok (.invokevirtual 88, 3) := by decide +kernel
theorem d_M_keepOne_9 : decode b_M_keepOne 9 = .ok (.return_, 1) := by decide +kernel
theorem d_M_isReduced_0 : decode b_M_isReduced 0 = .ok (.aload_n 0, 1) := by decide +kernel
theorem d_M_isReduced_1 : decode b_M_isReduced 1 = .ok (.getfield 9, 3) := by decide +kernel
theorem d_M_isReduced_4 : decode b_M_isReduced 4 = .ok (.lconst 0, 1) := by decide +kernel
theorem d_M_isReduced_5 : decode b_M_isReduced 5 = .ok (.lcmp, 1) := by decide +kernel
theorem d_M_isReduced_6 : decode b_M_isReduced 6 = .ok (.ifCond .ge 70, 3) := by decide +kernel
theorem d_M_isReduced_9 : decode b_M_isReduced 9 = .ok (.aload_n 0, 1) := by decide +kernel
theorem d_M_isReduced_10 : decode b_M_isReduced 10 = .ok (.getfield 76, 3) := by decide +kernel
theorem d_M_isReduced_13 : decode b_M_isReduced 13 = .ok (.invokestatic 41, 3) := by decide +kernel
theorem d_M_isReduced_16 : decode b_M_isReduced 16 = .ok (.aload_n 0, 1) := by decide +kernel
theorem d_M_isReduced_17 : decode b_M_isReduced 17 = .ok (.getfield 73, 3) := by decide +kernel
theorem d_M_isReduced_20 : decode b_M_isReduced 20 = .ok (.lcmp, 1) := by decide +kernel
theorem d_M_isReduced_21 : decode b_M_isReduced 21 = .ok (.ifCond .gt 53, 3) := by decide +kernel
theorem d_M_isReduced_24 : decode b_M_isReduced 24 = .ok (.aload_n 0, 1) := by decide +kernel
theorem d_M_isReduced_25 : decode b_M_isReduced 25 = .ok (.getfield 73, 3) := by decide +kernel
theorem d_M_isReduced_28 : decode b_M_isReduced 28 = .ok (.aload_n 0, 1) := by decide +kernel
theorem d_M_isReduced_29 : decode b_M_isReduced 29 = .ok (.getfield 79, 3) := by decide +kernel
theorem d_M_isReduced_32 : decode b_M_isReduced 32 = .ok (.lcmp, 1) := by decide +kernel
theorem d_M_isReduced_33 : decode b_M_isReduced 33 = .ok (.ifCond .gt 41, 3) := by decide +kernel
theorem d_M_isReduced_36 : decode b_M_isReduced 36 = .ok (.aload_n 0, 1) := by decide +kernel
theorem d_M_isReduced_37 : decode b_M_isReduced 37 = .ok (.getfield 76, 3) := by decide +kernel
theorem d_M_isReduced_40 : decode b_M_isReduced 40 = .ok (.lconst 0, 1) := by decide +kernel
theorem d_M_isReduced_41 : decode b_M_isReduced 41 = .ok (.lcmp, 1) := by decide +kernel
theorem d_M_isReduced_42 : decode b_M_isReduced 42 = .ok (.ifCond .ge 28, 3) := by decide +kernel
theorem d_M_isReduced_45 : decode b_M_isReduced 45 = .ok (.aload_n 0, 1) := by decide +kernel
theorem d_M_isReduced_46 : decode b_M_isReduced 46 = .ok (.getfield 76, 3) := by decide +kernel
theorem d_M_isReduced_49 : decode b_M_isReduced 49 = .ok (.lneg, 1) := by decide +kernel
theorem d_M_isReduced_50 : decode b_M_isReduced 50 = .ok (.aload_n 0, 1) := by decide +kernel
theorem d_M_isReduced_51 : decode b_M_isReduced 51 = .ok (.getfield 73, 3) := by decide +kernel
theorem d_M_isReduced_54 : decode b_M_isReduced 54 = .ok (.lcmp, 1) := by decide +kernel
theorem d_M_isReduced_55 : decode b_M_isReduced 55 = .ok (.ifCond .eq 19, 3) := by decide +kernel
theorem d_M_isReduced_58 : decode b_M_isReduced 58 = .ok (.aload_n 0, 1) := by decide +kernel
theorem d_M_isReduced_59 : decode b_M_isReduced 59 = .ok (.getfield 73, 3) := by decide +kernel
theorem d_M_isReduced_62 : decode b_M_isReduced 62 = .ok (.aload_n 0, 1) := by decide +kernel
theorem d_M_isReduced_63 : decode b_M_isReduced 63 = .ok (.getfield 79, 3) := by decide +kernel
theorem d_M_isReduced_66 : decode b_M_isReduced 66 = .ok (.lcmp, 1) := by decide +kernel
theorem d_M_isReduced_67 : decode b_M_isReduced 67 = .ok (.ifCond .eq 7, 3) := by decide +kernel
theorem d_M_isReduced_70 : decode b_M_isReduced 70 = .ok (.iconst 1, 1) := by decide +kernel
theorem d_M_isReduced_71 : decode b_M_isReduced 71 = .ok (.goto 4, 3) := by decide +kernel
theorem d_M_isReduced_74 : decode b_M_isReduced 74 = .ok (.iconst 0, 1) := by decide +kernel
theorem d_M_isReduced_75 : decode b_M_isReduced 75 = .ok (.ireturn, 1) := by decide +kernel
theorem d_M_isReduced_76 : decode b_M_isReduced 76 = .ok (.aload_n 0, 1) := by decide +kernel
theorem d_M_isReduced_77 : decode b_M_isReduced 77 = .ok (.getfield 76, 3) := by decide +kernel
theorem d_M_isReduced_80 : decode b_M_isReduced 80 = .ok (.lconst 0, 1) := by decide +kernel
theorem d_M_isReduced_81 : decode b_M_isReduced 81 = .ok (.lcmp, 1) := by decide +kernel
theorem d_M_isReduced_82 : decode b_M_isReduced 82 = .ok (.ifCond .le 72, 3) := by decide +kernel
theorem d_M_isReduced_85 : decode b_M_isReduced 85 = .ok (.aload_n 0, 1) := by decide +kernel
theorem d_M_isReduced_86 : decode b_M_isReduced 86 = .ok (.getfield 76, 3) := by decide +kernel
theorem d_M_isReduced_89 : decode b_M_isReduced 89 = .ok (.aload_n 0, 1) := by decide +kernel
theorem d_M_isReduced_90 : decode b_M_isReduced 90 = .ok (.getfield 76, 3) := by decide +kernel
theorem d_M_isReduced_93 : decode b_M_isReduced 93 = .ok (.lmul, 1) := by decide +kernel
theorem d_M_isReduced_94 : decode b_M_isReduced 94 = .ok (.aload_n 0, 1) := by decide +kernel
theorem d_M_isReduced_95 : decode b_M_isReduced 95 = .ok (.getfield 9, 3) := by decide +kernel
theorem d_M_isReduced_98 : decode b_M_isReduced 98 = .ok (.lcmp, 1) := by decide +kernel
theorem d_M_isReduced_99 : decode b_M_isReduced 99 = .ok (.ifCond .ge 55, 3) := by decide +kernel
theorem d_M_isReduced_102 : decode b_M_isReduced 102 = .ok (.ldc2_w 53, 3) := by decide +kernel
theorem d_M_isReduced_105 : decode b_M_isReduced 105 = .ok (.aload_n 0, 1) := by decide +kernel
theorem d_M_isReduced_106 : decode b_M_isReduced 106 = .ok (.getfield 73, 3) := by decide +kernel
theorem d_M_isReduced_109 : decode b_M_isReduced 109 = .ok (.invokestatic 41, 3) := by decide +kernel
theorem d_M_isReduced_112 : decode b_M_isReduced 112 = .ok (.lmul, 1) := by decide +kernel
theorem d_M_isReduced_113 : decode b_M_isReduced 113 = .ok (.aload_n 0, 1) := by decide +kernel
theorem d_M_isReduced_114 : decode b_M_isReduced 114 = .ok (.getfield 76, 3) := by decide +kernel
theorem d_M_isReduced_117 : decode b_M_isReduced 117 = .ok (.ladd, 1) := by decide +kernel
theorem d_M_isReduced_118 : decode b_M_isReduced 118 = .ok (.aload_n 0, 1) := by decide +kernel
theorem d_M_isReduced_119 : decode b_M_isReduced 119 = .ok (.getfield 17, 3) := by decide +kernel
theorem d_M_isReduced_122 : decode b_M_isReduced 122 = .ok (.lcmp, 1) := by decide +kernel
theorem d_M_isReduced_123 : decode b_M_isReduced 123 = .ok (.ifCond .le 31, 3) := by decide +kernel
theorem d_M_isReduced_126 : decode b_M_isReduced 126 = .ok (.ldc2_w 53, 3) := by decide +kernel
theorem d_M_isReduced_129 : decode b_M_isReduced 129 = .ok (.aload_n 0, 1) := by decide +kernel
theorem d_M_isReduced_130 : decode b_M_isReduced 130 = .ok (.getfield 73, 3) := by decide +kernel
theorem d_M_isReduced_133 : decode b_M_isReduced 133 = .ok (.invokestatic 41, 3) := by decide +kernel
theorem d_M_isReduced_136 : decode b_M_isReduced 136 = .ok (.lmul, 1) := by decide +kernel
theorem d_M_isReduced_137 : decode b_M_isReduced 137 = .ok (.aload_n 0, 1) := by decide +kernel
theorem d_M_isReduced_138 : decode b_M_isReduced 138 = .ok (.getfield 76, 3) := by decide +kernel
theorem d_M_isReduced_141 : decode b_M_isReduced 141 = .ok (.lsub, 1) := by decide +kernel
theorem d_M_isReduced_142 : decode b_M_isReduced 142 = .ok (.aload_n 0, 1) := by decide +kernel
theorem d_M_isReduced_143 : decode b_M_isReduced 143 = .ok (.getfield 17, 3) := by decide +kernel
theorem d_M_isReduced_146 : decode b_M_isReduced 146 = .ok (.lcmp, 1) := by decide +kernel
theorem d_M_isReduced_147 : decode b_M_isReduced 147 = .ok (.ifCond .gt 7, 3) := by decide +kernel
theorem d_M_isReduced_150 : decode b_M_isReduced 150 = .ok (.iconst 1, 1) := by decide +kernel
theorem d_M_isReduced_151 : decode b_M_isReduced 151 = .ok (.goto 4, 3) := by decide +kernel
theorem d_M_isReduced_154 : decode b_M_isReduced 154 = .ok (.iconst 0, 1) := by decide +kernel
theorem d_M_isReduced_155 : decode b_M_isReduced 155 = .ok (.ireturn, 1) := by decide +kernel
theorem d_M_step_0 : decode b_M_step 0 = .ok (.ldc2_w 53, 3) := by decide +kernel
theorem d_M_step_3 : decode b_M_step 3 = .ok (.aload_n 0, 1) := by decide +kernel
theorem d_M_step_4 : decode b_M_step 4 = .ok (.getfield 79, 3) := by decide +kernel
theorem d_M_step_7 : decode b_M_step 7 = .ok (.invokestatic 41, 3) := by decide +kernel
theorem d_M_step_10 : decode b_M_step 10 = .ok (.lmul, 1) := by decide +kernel
theorem d_M_step_11 : decode b_M_step 11 = .ok (.lstore_n 1, 1) := by decide +kernel
theorem d_M_step_12 : decode b_M_step 12 = .ok (.aload_n 0, 1) := by decide +kernel
theorem d_M_step_13 : decode b_M_step 13 = .ok (.getfield 9, 3) := by decide +kernel
theorem d_M_step_16 : decode b_M_step 16 = .ok (.lconst 0, 1) := by decide +kernel
theorem d_M_step_17 : decode b_M_step 17 = .ok (.lcmp, 1) := by decide +kernel
theorem d_M_step_18 : decode b_M_step 18 = .ok (.ifCond .lt 18, 3) := by decide +kernel
theorem d_M_step_21 : decode b_M_step 21 = .ok (.aload_n 0, 1) := by decide +kernel
theorem d_M_step_22 : decode b_M_step 22 = .ok (.getfield 79, 3) := by decide +kernel
theorem d_M_step_25 : decode b_M_step 25 = .ok (.invokestatic 41, 3) := by decide +kernel
theorem d_M_step_28 : decode b_M_step 28 = .ok (.aload_n 0, 1) := by decide +kernel
theorem d_M_step_29 : decode b_M_step 29 = .ok (.getfield 17, 3) := by decide +kernel
theorem d_M_step_32 : decode b_M_step 32 = .ok (.lcmp, 1) := by decide +kernel
theorem d_M_step_33 : decode b_M_step 33 = .ok (.ifCond .le 13, 3) := by decide +kernel
theorem d_M_step_36 : decode b_M_step 36 = .ok (.aload_n 0, 1) := by decide +kernel
theorem d_M_step_37 : decode b_M_step 37 = .ok (.getfield 79, 3) := by decide +kernel
theorem d_M_step_40 : decode b_M_step 40 = .ok (.invokestatic 41, 3) := by decide +kernel
theorem d_M_step_43 : decode b_M_step 43 = .ok (.goto 7, 3) := by decide +kernel
theorem d_M_step_46 : decode b_M_step 46 = .ok (.aload_n 0, 1) := by decide +kernel
theorem d_M_step_47 : decode b_M_step 47 = .ok (.getfield 17, 3) := by decide +kernel
theorem d_M_step_50 : decode b_M_step 50 = .ok (.lstore_n 3, 1) := by decide +kernel
theorem d_M_step_51 : decode b_M_step 51 = .ok (.lload_n 3, 1) := by decide +kernel
theorem d_M_step_52 : decode b_M_step 52 = .ok (.lload_n 3, 1) := by decide +kernel
theorem d_M_step_53 : decode b_M_step 53 = .ok (.aload_n 0, 1) := by decide +kernel
theorem d_M_step_54 : decode b_M_step 54 = .ok (.getfield 76, 3) := by decide +kernel
theorem d_M_step_57 : decode b_M_step 57 = .ok (.ladd, 1) := by decide +kernel
theorem d_M_step_58 : decode b_M_step 58 = .ok (.lload_n 1, 1) := by decide +kernel
theorem d_M_step_59 : decode b_M_step 59 = .ok (.invokestatic 69, 3) := by decide +kernel
theorem d_M_step_62 : decode b_M_step 62 = .ok (.lsub, 1) := by decide +kernel
theorem d_M_step_63 : decode b_M_step 63 = .ok (.lstore 5, 2) := by decide +kernel
theorem d_M_step_65 : decode b_M_step 65 = .ok (.lload 5, 2) := by decide +kernel
theorem d_M_step_67 : decode b_M_step 67 = .ok (.lload 5, 2) := by decide +kernel
theorem d_M_step_69 : decode b_M_step 69 = .ok (.lmul, 1) := by decide +kernel
theorem d_M_step_70 : decode b_M_step 70 = .ok (.aload_n 0, 1) := by decide +kernel
theorem d_M_step_71 : decode b_M_step 71 = .ok (.getfield 9, 3) := by decide +kernel
theorem d_M_step_74 : decode b_M_step 74 = .ok (.lsub, 1) := by decide +kernel
theorem d_M_step_75 : decode b_M_step 75 = .ok (.ldc2_w 67, 3) := by decide +kernel
theorem d_M_step_78 : decode b_M_step 78 = .ok (.aload_n 0, 1) := by decide +kernel
theorem d_M_step_79 : decode b_M_step 79 = .ok (.getfield 79, 3) := by decide +kernel
theorem d_M_step_82 : decode b_M_step 82 = .ok (.lmul, 1) := by decide +kernel
theorem d_M_step_83 : decode b_M_step 83 = .ok (.ldiv, 1) := by decide +kernel
theorem d_M_step_84 : decode b_M_step 84 = .ok (.lstore 7, 2) := by decide +kernel
theorem d_M_step_86 : decode b_M_step 86 = .ok (.aload_n 0, 1) := by decide +kernel
theorem d_M_step_87 : decode b_M_step 87 = .ok (.aload_n 0, 1) := by decide +kernel
theorem d_M_step_88 : decode b_M_step 88 = .ok (.getfield 79, 3) := by decide +kernel
theorem d_M_step_91 : decode b_M_step 91 = .ok (.putfield 73, 3) := by decide +kernel
theorem d_M_step_94 : decode b_M_step 94 = .ok (.aload_n 0, 1) := by decide +kernel
theorem d_M_step_95 : decode b_M_step 95 = .ok (.lload 5, 2) := by decide +kernel
theorem d_M_step_97 : decode b_M_step 97 = .ok (.putfield 76, 3) := by decide +kernel
theorem d_M_step_100 : decode b_M_step 100 = .ok (.aload_n 0, 1) := by decide +kernel
theorem d_M_step_101 : decode b_M_step 101 = .ok (.lload 7, 2) := by decide +kernel
theorem d_M_step_103 : decode b_M_step 103 = .ok (.putfield 79, 3) := by decide +kernel
theorem d_M_step_106 : decode b_M_step 106 = .ok (.return_, 1) := by decide +kernel
theorem d_M_toName_0 : decode b_M_toName 0 = .ok (.aload_n 0, 1) := by decide +kernel
theorem d_M_toName_1 : decode b_M_toName 1 = .ok (.invokevirtual 91, 3) := by decide +kernel
theorem d_M_toName_4 : decode b_M_toName 4 = .ok (.ifCond .ne 10, 3) := by decide +kernel
theorem d_M_toName_7 : decode b_M_toName 7 = .ok (.aload_n 0, 1) := by decide +kernel
theorem d_M_toName_8 : decode b_M_toName 8 = .ok (.invokevirtual 95, 3) := by decide +kernel
theorem d_M_toName_11 : decode b_M_toName 11 = .ok (.goto (-11), 3) := by decide +kernel
theorem d_M_toName_14 : decode b_M_toName 14 = .ok (.aload_n 0, 1) := by decide +kernel
theorem d_M_toName_15 : decode b_M_toName 15 = .ok (.getfield 9, 3) := by decide +kernel
theorem d_M_toName_18 : decode b_M_toName 18 = .ok (.lconst 0, 1) := by decide +kernel
theorem d_M_toName_19 : decode b_M_toName 19 = .ok (.lcmp, 1) := by decide +kernel
theorem d_M_toName_20 : decode b_M_toName 20 = .ok (.ifCond .ge 4, 3) := by decide +kernel
theorem d_M_toName_23 : decode b_M_toName 23 = .ok (.return_, 1) := by decide +kernel
theorem d_M_toName_24 : decode b_M_toName 24 = .ok (.aload_n 0, 1) := by decide +kernel
theorem d_M_toName_25 : decode b_M_toName 25 = .ok (.getfield 73, 3) := by decide +kernel
theorem d_M_toName_28 : decode b_M_toName 28 = .ok (.lstore_n 1, 1) := by decide +kernel
theorem d_M_toName_29 : decode b_M_toName 29 = .ok (.aload_n 0, 1) := by decide +kernel
theorem d_M_toName_30 : decode b_M_toName 30 = .ok (.getfield 76, 3) := by decide +kernel
theorem d_M_toName_33 : decode b_M_toName 33 = .ok (.lstore_n 3, 1) := by decide +kernel
theorem d_M_toName_34 : decode b_M_toName 34 = .ok (.aload_n 0, 1) := by decide +kernel
theorem d_M_toName_35 : decode b_M_toName 35 = .ok (.getfield 73, 3) := by decide +kernel
theorem d_M_toName_38 : decode b_M_toName 38 = .ok (.lstore 5, 2) := by decide +kernel
theorem d_M_toName_40 : decode b_M_toName 40 = .ok (.aload_n 0, 1) := by decide +kernel
theorem d_M_toName_41 : decode b_M_toName 41 = .ok (.getfield 76, 3) := by decide +kernel
theorem d_M_toName_44 : decode b_M_toName 44 = .ok (.lstore 7, 2) := by decide +kernel
theorem d_M_toName_46 : decode b_M_toName 46 = .ok (.iconst 1, 1) := by decide +kernel
theorem d_M_toName_47 : decode b_M_toName 47 = .ok (.istore 9, 2) := by decide +kernel
theorem d_M_toName_49 : decode b_M_toName 49 = .ok (.iload 9, 2) := by decide +kernel
theorem d_M_toName_51 : decode b_M_toName 51 = .ok (.ifCond .eq 77, 3) := by decide +kernel
theorem d_M_toName_54 : decode b_M_toName 54 = .ok (.aload_n 0, 1) := by decide +kernel
theorem d_M_toName_55 : decode b_M_toName 55 = .ok (.invokevirtual 95, 3) := by decide +kernel
theorem d_M_toName_58 : decode b_M_toName 58 = .ok (.aload_n 0, 1) := by decide +kernel
theorem d_M_toName_59 : decode b_M_toName 59 = .ok (.getfield 73, 3) := by decide +kernel
theorem d_M_toName_62 : decode b_M_toName 62 = .ok (.lload_n 1, 1) := by decide +kernel
theorem d_M_toName_63 : decode b_M_toName 63 = .ok (.lcmp, 1) := by decide +kernel
theorem d_M_toName_64 : decode b_M_toName 64 = .ok (.ifCond .ne 12, 3) := by decide +kernel
theorem d_M_toName_67 : decode b_M_toName 67 = .ok (.aload_n 0, 1) := by decide +kernel
theorem d_M_toName_68 : decode b_M_toName 68 = .ok (.getfield 76, 3) := by decide +kernel
theorem d_M_toName_71 : decode b_M_toName 71 = .ok (.lload_n 3, 1) := by decide +kernel
theorem d_M_toName_72 : decode b_M_toName 72 = .ok (.lcmp, 1) := by decide +kernel
theorem d_M_toName_73 : decode b_M_toName 73 = .ok (.ifCond .eq 7, 3) := by decide +kernel
theorem d_M_toName_76 : decode b_M_toName 76 = .ok (.iconst 1, 1) := by decide +kernel
theorem d_M_toName_77 : decode b_M_toName 77 = .ok (.goto 4, 3) := by decide +kernel
theorem d_M_toName_80 : decode b_M_toName 80 = .ok (.iconst 0, 1) := by decide +kernel
theorem d_M_toName_81 : decode b_M_toName 81 = .ok (.istore 9, 2) := by decide +kernel
theorem d_M_toName_83 : decode b_M_toName 83 = .ok (.aload_n 0, 1) := by decide +kernel
theorem d_M_toName_84 : decode b_M_toName 84 = .ok (.getfield 73, 3) := by decide +kernel
theorem d_M_toName_87 : decode b_M_toName 87 = .ok (.lload 5, 2) := by decide +kernel
theorem d_M_toName_89 : decode b_M_toName 89 = .ok (.lcmp, 1) := by decide +kernel
theorem d_M_toName_90 : decode b_M_toName 90 = .ok (.ifCond .lt 23, 3) := by decide +kernel
theorem d_M_toName_93 : decode b_M_toName 93 = .ok (.aload_n 0, 1) := by decide +kernel
theorem d_M_toName_94 : decode b_M_toName 94 = .ok (.getfield 73, 3) := by decide +kernel
theorem d_M_toName_97 : decode b_M_toName 97 = .ok (.lload 5, 2) := by decide +kernel
theorem d_M_toName_99 : decode b_M_toName 99 = .ok (.lcmp, 1) := by decide +kernel
theorem d_M_toName_100 : decode b_M_toName 100 = .ok (.ifCond .ne (-51), 3) := by decide +kernel
theorem d_M_toName_103 : decode b_M_toName 103 = .ok (.aload_n 0, 1) := by decide +kernel
theorem d_M_toName_104 : decode b_M_toName 104 = .ok (.getfield 76, 3) := by decide +kernel
theorem d_M_toName_107 : decode b_M_toName 107 = .ok (.lload 7, 2) := by decide +kernel
theorem d_M_toName_109 : decode b_M_toName 109 = .ok (.lcmp, 1) := by decide +kernel
theorem d_M_toName_110 : decode b_M_toName 110 = .ok (.ifCond .ge (-61), 3) := by decide +kernel
theorem d_M_toName_113 : decode b_M_toName 113 = .ok (.aload_n 0, 1) := by decide +kernel
theorem d_M_toName_114 : decode b_M_toName 114 = .ok (.getfield 73, 3) := by decide +kernel
theorem d_M_toName_117 : decode b_M_toName 117 = .ok (.lstore 5, 2) := by decide +kernel
theorem d_M_toName_119 : decode b_M_toName 119 = .ok (.aload_n 0, 1) := by decide +kernel
theorem d_M_toName_120 : decode b_M_toName 120 = .ok (.getfield 76, 3) := by decide +kernel
theorem d_M_toName_123 : decode b_M_toName 123 = .ok (.lstore 7, 2) := by decide +kernel
theorem d_M_toName_125 : decode b_M_toName 125 = .ok (.goto (-76), 3) := by decide +kernel
theorem d_M_toName_128 : decode b_M_toName 128 = .ok (.aload_n 0, 1) := by decide +kernel
theorem d_M_toName_129 : decode b_M_toName 129 = .ok (.lload 5, 2) := by decide +kernel
theorem d_M_toName_131 : decode b_M_toName 131 = .ok (.putfield 73, 3) := by decide +kernel
theorem d_M_toName_134 : decode b_M_toName 134 = .ok (.aload_n 0, 1) := by decide +kernel
theorem d_M_toName_135 : decode b_M_toName 135 = .ok (.lload 7, 2) := by decide +kernel
theorem d_M_toName_137 : decode b_M_toName 137 = .ok (.putfield 76, 3) := by decide +kernel
theorem d_M_toName_140 : decode b_M_toName 140 = .ok (.aload_n 0, 1) := by decide +kernel
theorem d_M_toName_141 : decode b_M_toName 141 = .ok (.aload_n 0, 1) := by decide +kernel
theorem d_M_toName_142 : decode b_M_toName 142 = .ok (.getfield 76, 3) := by decide +kernel
theorem d_M_toName_145 : decode b_M_toName 145 = .ok (.aload_n 0, 1) := by decide +kernel
theorem d_M_toName_146 : decode b_M_toName 146 = .ok (.getfield 76, 3) := by decide +kernel
theorem d_M_toName_149 : decode b_M_toName 149 = .ok (.lmul, 1) := by decide +kernel
theorem d_M_toName_150 : decode b_M_toName 150 = .ok (.aload_n 0, 1) := by decide +kernel
theorem d_M_toName_151 : decode b_M_toName 151 = .ok (.getfield 9, 3) := by decide +kernel
theorem d_M_toName_154 : decode b_M_toName 154 = .ok (.lsub, 1) := by decide +kernel
theorem d_M_toName_155 : decode b_M_toName 155 = .ok (.ldc2_w 67, 3) := by decide +kernel
theorem d_M_toName_158 : decode b_M_toName 158 = .ok (.aload_n 0, 1) := by decide +kernel
theorem d_M_toName_159 : decode b_M_toName 159 = .ok (.getfield 73, 3) := by decide +kernel
theorem d_M_toName_162 : decode b_M_toName 162 = .ok (.lmul, 1) := by decide +kernel
theorem d_M_toName_163 : decode b_M_toName 163 = .ok (.ldiv, 1) := by decide +kernel
theorem d_M_toName_164 : decode b_M_toName 164 = .ok (.putfield 79, 3) := by decide +kernel
theorem d_M_toName_167 : decode b_M_toName 167 = .ok (.return_, 1) := by decide +kernel
theorem d_M_formsOf_0 : decode b_M_formsOf 0 = .ok (.aload_n 0, 1) := by decide +kernel
theorem d_M_formsOf_1 : decode b_M_formsOf 1 = .ok (.getfield 9, 3) := by decide +kernel
theorem d_M_formsOf_4 : decode b_M_formsOf 4 = .ok (.lconst 0, 1) := by decide +kernel
theorem d_M_formsOf_5 : decode b_M_formsOf 5 = .ok (.lcmp, 1) := by decide +kernel
theorem d_M_formsOf_6 : decode b_M_formsOf 6 = .ok (.ifCond .ge 5, 3) := by decide +kernel
theorem d_M_formsOf_9 : decode b_M_formsOf 9 = .ok (.iconst 1, 1) := by decide +kernel
theorem d_M_formsOf_10 : decode b_M_formsOf 10 = .ok (.ireturn, 1) := by decide +kernel
theorem d_M_formsOf_11 : decode b_M_formsOf 11 = .ok (.aload_n 0, 1) := by decide +kernel
theorem d_M_formsOf_12 : decode b_M_formsOf 12 = .ok (.iload_n 1, 1) := by decide +kernel
theorem d_M_formsOf_13 : decode b_M_formsOf 13 = .ok (.invokevirtual 98, 3) := by decide +kernel
theorem d_M_formsOf_16 : decode b_M_formsOf 16 = .ok (.iconst 0, 1) := by decide +kernel
theorem d_M_formsOf_17 : decode b_M_formsOf 17 = .ok (.istore_n 2, 1) := by decide +kernel
theorem d_M_formsOf_18 : decode b_M_formsOf 18 = .ok (.aload_n 0, 1) := by decide +kernel
theorem d_M_formsOf_19 : decode b_M_formsOf 19 = .ok (.invokevirtual 95, 3) := by decide +kernel
theorem d_M_formsOf_22 : decode b_M_formsOf 22 = .ok (.iinc 2 1, 3) := by decide +kernel
theorem d_M_formsOf_25 : decode b_M_formsOf 25 = .ok (.aload_n 0, 1) := by decide +kernel
theorem d_M_formsOf_26 : decode b_M_formsOf 26 = .ok (.getfield 73, 3) := by decide +kernel
theorem d_M_formsOf_29 : decode b_M_formsOf 29 = .ok (.aload_n 0, 1) := by decide +kernel
theorem d_M_formsOf_30 : decode b_M_formsOf 30 = .ok (.getfield 20, 3) := by decide +kernel
theorem d_M_formsOf_33 : decode b_M_formsOf 33 = .ok (.iload_n 1, 1) := by decide +kernel
theorem d_M_formsOf_34 : decode b_M_formsOf 34 = .ok (.laload, 1) := by decide +kernel
theorem d_M_formsOf_35 : decode b_M_formsOf 35 = .ok (.lcmp, 1) := by decide +kernel
theorem d_M_formsOf_36 : decode b_M_formsOf 36 = .ok (.ifCond .ne (-18), 3) := by decide +kernel
theorem d_M_formsOf_39 : decode b_M_formsOf 39 = .ok (.aload_n 0, 1) := by decide +kernel
theorem d_M_formsOf_40 : decode b_M_formsOf 40 = .ok (.getfield 76, 3) := by decide +kernel
theorem d_M_formsOf_43 : decode b_M_formsOf 43 = .ok (.aload_n 0, 1) := by decide +kernel
theorem d_M_formsOf_44 : decode b_M_formsOf 44 = .ok (.getfield 24, 3) := by decide +kernel
theorem d_M_formsOf_47 : decode b_M_formsOf 47 = .ok (.iload_n 1, 1) := by decide +kernel
theorem d_M_formsOf_48 : decode b_M_formsOf 48 = .ok (.laload, 1) := by decide +kernel
theorem d_M_formsOf_49 : decode b_M_formsOf 49 = .ok (.lcmp, 1) := by decide +kernel
theorem d_M_formsOf_50 : decode b_M_formsOf 50 = .ok (.ifCond .ne (-32), 3) := by decide +kernel
theorem d_M_formsOf_53 : decode b_M_formsOf 53 = .ok (.iload_n 2, 1) := by decide +kernel
theorem d_M_formsOf_54 : decode b_M_formsOf 54 = .ok (.ireturn, 1) := by decide +kernel
theorem d_M_put_0 : decode b_M_put 0 = .ok (.aload_n 0, 1) := by decide +kernel
theorem d_M_put_1 : decode b_M_put 1 = .ok (.iload_n 1, 1) := by decide +kernel
theorem d_M_put_2 : decode b_M_put 2 = .ok (.i2l, 1) := by decide +kernel
theorem d_M_put_3 : decode b_M_put 3 = .ok (.lconst 0, 1) := by decide +kernel
theorem d_M_put_4 : decode b_M_put 4 = .ok (.ldc2_w 101, 3) := by decide +kernel
theorem d_M_put_7 : decode b_M_put 7 = .ok (.invokestatic 63, 3) := by decide +kernel
theorem d_M_put_10 : decode b_M_put 10 = .ok (.ifCond .eq 7, 3) := by decide +kernel
theorem d_M_put_13 : decode b_M_put 13 = .ok (.iconst 0, 1) := by decide +kernel
theorem d_M_put_14 : decode b_M_put 14 = .ok (.goto 4, 3) := by decide +kernel
theorem d_M_put_17 : decode b_M_put 17 = .ok (.iconst 1, 1) := by decide +kernel
theorem d_M_put_18 : decode b_M_put 18 = .ok (.putfield 37, 3) := by decide +kernel
theorem d_M_put_21 : decode b_M_put 21 = .ok (.aload_n 0, 1) := by decide +kernel
theorem d_M_put_22 : decode b_M_put 22 = .ok (.getfield 37, 3) := by decide +kernel
theorem d_M_put_25 : decode b_M_put 25 = .ok (.ifCond .le 4, 3) := by decide +kernel
theorem d_M_put_28 : decode b_M_put 28 = .ok (.return_, 1) := by decide +kernel
theorem d_M_put_29 : decode b_M_put 29 = .ok (.iload_n 2, 1) := by decide +kernel
theorem d_M_put_30 : decode b_M_put 30 = .ok (.i2l, 1) := by decide +kernel
theorem d_M_put_31 : decode b_M_put 31 = .ok (.ldc2_w 103, 3) := by decide +kernel
theorem d_M_put_34 : decode b_M_put 34 = .ok (.ldc2_w 105, 3) := by decide +kernel
theorem d_M_put_37 : decode b_M_put 37 = .ok (.invokestatic 63, 3) := by decide +kernel
theorem d_M_put_40 : decode b_M_put 40 = .ok (.ifCond .eq 36, 3) := by decide +kernel
theorem d_M_put_43 : decode b_M_put 43 = .ok (.iload_n 3, 1) := by decide +kernel
theorem d_M_put_44 : decode b_M_put 44 = .ok (.i2l, 1) := by decide +kernel
theorem d_M_put_45 : decode b_M_put 45 = .ok (.ldc2_w 103, 3) := by decide +kernel
theorem d_M_put_48 : decode b_M_put 48 = .ok (.ldc2_w 105, 3) := by decide +kernel
theorem d_M_put_51 : decode b_M_put 51 = .ok (.invokestatic 63, 3) := by decide +kernel
theorem d_M_put_54 : decode b_M_put 54 = .ok (.ifCond .eq 22, 3) := by decide +kernel
theorem d_M_put_57 : decode b_M_put 57 = .ok (.iload 4, 2) := by decide +kernel
theorem d_M_put_59 : decode b_M_put 59 = .ok (.i2l, 1) := by decide +kernel
theorem d_M_put_60 : decode b_M_put 60 = .ok (.ldc2_w 103, 3) := by decide +kernel
theorem d_M_put_63 : decode b_M_put 63 = .ok (.ldc2_w 105, 3) := by decide +kernel
theorem d_M_put_66 : decode b_M_put 66 = .ok (.invokestatic 63, 3) := by decide +kernel
theorem d_M_put_69 : decode b_M_put 69 = .ok (.ifCond .eq 7, 3) := by decide +kernel
theorem d_M_put_72 : decode b_M_put 72 = .ok (.iconst 1, 1) := by decide +kernel
theorem d_M_put_73 : decode b_M_put 73 = .ok (.goto 4, 3) := by decide +kernel
theorem d_M_put_76 : decode b_M_put 76 = .ok (.iconst 0, 1) := by decide +kernel
theorem d_M_put_77 : decode b_M_put 77 = .ok (.istore 5, 2) := by decide +kernel
theorem d_M_put_79 : decode b_M_put 79 = .ok (.iload 5, 2) := by decide +kernel
theorem d_M_put_81 : decode b_M_put 81 = .ok (.ifCond .eq 62, 3) := by decide +kernel
theorem d_M_put_84 : decode b_M_put 84 = .ok (.iload_n 3, 1) := by decide +kernel
theorem d_M_put_85 : decode b_M_put 85 = .ok (.i2l, 1) := by decide +kernel
theorem d_M_put_86 : decode b_M_put 86 = .ok (.iload_n 3, 1) := by decide +kernel
theorem d_M_put_87 : decode b_M_put 87 = .ok (.i2l, 1) := by decide +kernel
theorem d_M_put_88 : decode b_M_put 88 = .ok (.lmul, 1) := by decide +kernel
theorem d_M_put_89 : decode b_M_put 89 = .ok (.ldc2_w 67, 3) := by decide +kernel
theorem d_M_put_92 : decode b_M_put 92 = .ok (.iload_n 2, 1) := by decide +kernel
theorem d_M_put_93 : decode b_M_put 93 = .ok (.i2l, 1) := by decide +kernel
theorem d_M_put_94 : decode b_M_put 94 = .ok (.lmul, 1) := by decide +kernel
theorem d_M_put_95 : decode b_M_put 95 = .ok (.iload 4, 2) := by decide +kernel
theorem d_M_put_97 : decode b_M_put 97 = .ok (.i2l, 1) := by decide +kernel
theorem d_M_put_98 : decode b_M_put 98 = .ok (.lmul, 1) := by decide +kernel
theorem d_M_put_99 : decode b_M_put 99 = .ok (.lsub, 1) := by decide +kernel
theorem d_M_put_100 : decode b_M_put 100 = .ok (.aload_n 0, 1) := by decide +kernel
theorem d_M_put_101 : decode b_M_put 101 = .ok (.getfield 9, 3) := by decide +kernel
theorem d_M_put_104 : decode b_M_put 104 = .ok (.lcmp, 1) := by decide +kernel
theorem d_M_put_105 : decode b_M_put 105 = .ok (.ifCond .ne 38, 3) := by decide +kernel
theorem d_M_put_108 : decode b_M_put 108 = .ok (.aload_n 0, 1) := by decide +kernel
theorem d_M_put_109 : decode b_M_put 109 = .ok (.getfield 9, 3) := by decide +kernel
theorem d_M_put_112 : decode b_M_put 112 = .ok (.lconst 0, 1) := by decide +kernel
theorem d_M_put_113 : decode b_M_put 113 = .ok (.lcmp, 1) := by decide +kernel
theorem d_M_put_114 : decode b_M_put 114 = .ok (.ifCond .gt 7, 3) := by decide +kernel
theorem d_M_put_117 : decode b_M_put 117 = .ok (.iload_n 2, 1) := by decide +kernel
theorem d_M_put_118 : decode b_M_put 118 = .ok (.ifCond .le 25, 3) := by decide +kernel
theorem d_M_put_121 : decode b_M_put 121 = .ok (.iload_n 2, 1) := by decide +kernel
theorem d_M_put_122 : decode b_M_put 122 = .ok (.i2l, 1) := by decide +kernel
theorem d_M_put_123 : decode b_M_put 123 = .ok (.iload_n 3, 1) := by decide +kernel
theorem d_M_put_124 : decode b_M_put 124 = .ok (.i2l, 1) := by decide +kernel
theorem d_M_put_125 : decode b_M_put 125 = .ok (.invokestatic 107, 3) := by decide +kernel
theorem d_M_put_128 : decode b_M_put 128 = .ok (.iload 4, 2) := by decide +kernel
theorem d_M_put_130 : decode b_M_put 130 = .ok (.i2l, 1) := by decide +kernel
theorem d_M_put_131 : decode b_M_put 131 = .ok (.invokestatic 107, 3) := by decide +kernel
theorem d_M_put_134 : decode b_M_put 134 = .ok (.lconst 1, 1) := by decide +kernel
theorem d_M_put_135 : decode b_M_put 135 = .ok (.lcmp, 1) := by decide +kernel
theorem d_M_put_136 : decode b_M_put 136 = .ok (.ifCond .ne 7, 3) := by decide +kernel
theorem d_M_put_139 : decode b_M_put 139 = .ok (.iconst 1, 1) := by decide +kernel
theorem d_M_put_140 : decode b_M_put 140 = .ok (.goto 4, 3) := by decide +kernel
theorem d_M_put_143 : decode b_M_put 143 = .ok (.iconst 0, 1) := by decide +kernel
theorem d_M_put_144 : decode b_M_put 144 = .ok (.istore 6, 2) := by decide +kernel
theorem d_M_put_146 : decode b_M_put 146 = .ok (.aload_n 0, 1) := by decide +kernel
theorem d_M_put_147 : decode b_M_put 147 = .ok (.iload 6, 2) := by decide +kernel
theorem d_M_put_149 : decode b_M_put 149 = .ok (.ifCond .eq 7, 3) := by decide +kernel
theorem d_M_put_152 : decode b_M_put 152 = .ok (.iconst 0, 1) := by decide +kernel
theorem d_M_put_153 : decode b_M_put 153 = .ok (.goto 4, 3) := by decide +kernel
theorem d_M_put_156 : decode b_M_put 156 = .ok (.iconst 2, 1) := by decide +kernel
theorem d_M_put_157 : decode b_M_put 157 = .ok (.putfield 37, 3) := by decide +kernel
theorem d_M_put_160 : decode b_M_put 160 = .ok (.aload_n 0, 1) := by decide +kernel
theorem d_M_put_161 : decode b_M_put 161 = .ok (.getfield 37, 3) := by decide +kernel
theorem d_M_put_164 : decode b_M_put 164 = .ok (.ifCond .le 4, 3) := by decide +kernel
theorem d_M_put_167 : decode b_M_put 167 = .ok (.return_, 1) := by decide +kernel
theorem d_M_put_168 : decode b_M_put 168 = .ok (.aload_n 0, 1) := by decide +kernel
theorem d_M_put_169 : decode b_M_put 169 = .ok (.iload_n 2, 1) := by decide +kernel
theorem d_M_put_170 : decode b_M_put 170 = .ok (.i2l, 1) := by decide +kernel
theorem d_M_put_171 : decode b_M_put 171 = .ok (.putfield 73, 3) := by decide +kernel
theorem d_M_put_174 : decode b_M_put 174 = .ok (.aload_n 0, 1) := by decide +kernel
theorem d_M_put_175 : decode b_M_put 175 = .ok (.iload_n 3, 1) := by decide +kernel
theorem d_M_put_176 : decode b_M_put 176 = .ok (.i2l, 1) := by decide +kernel
theorem d_M_put_177 : decode b_M_put 177 = .ok (.putfield 76, 3) := by decide +kernel
theorem d_M_put_180 : decode b_M_put 180 = .ok (.aload_n 0, 1) := by decide +kernel
theorem d_M_put_181 : decode b_M_put 181 = .ok (.iload 4, 2) := by decide +kernel
theorem d_M_put_183 : decode b_M_put 183 = .ok (.i2l, 1) := by decide +kernel
theorem d_M_put_184 : decode b_M_put 184 = .ok (.putfield 79, 3) := by decide +kernel
theorem d_M_put_187 : decode b_M_put 187 = .ok (.aload_n 0, 1) := by decide +kernel
theorem d_M_put_188 : decode b_M_put 188 = .ok (.invokevirtual 82, 3) := by decide +kernel
theorem d_M_put_191 : decode b_M_put 191 = .ok (.aload_n 0, 1) := by decide +kernel
theorem d_M_put_192 : decode b_M_put 192 = .ok (.iload_n 1, 1) := by decide +kernel
theorem d_M_put_193 : decode b_M_put 193 = .ok (.invokevirtual 88, 3) := by decide +kernel
theorem d_M_put_196 : decode b_M_put 196 = .ok (.return_, 1) := by decide +kernel
theorem d_M_inverse_0 : decode b_M_inverse 0 = .ok (.lconst 1, 1) := by decide +kernel
theorem d_M_inverse_1 : decode b_M_inverse 1 = .ok (.lstore 4, 2) := by decide +kernel
theorem d_M_inverse_3 : decode b_M_inverse 3 = .ok (.lconst 0, 1) := by decide +kernel
theorem d_M_inverse_4 : decode b_M_inverse 4 = .ok (.lstore 6, 2) := by decide +kernel
theorem d_M_inverse_6 : decode b_M_inverse 6 = .ok (.lload_n 0, 1) := by decide +kernel
theorem d_M_inverse_7 : decode b_M_inverse 7 = .ok (.lload_n 2, 1) := by decide +kernel
theorem d_M_inverse_8 : decode b_M_inverse 8 = .ok (.invokestatic 69, 3) := by decide +kernel
theorem d_M_inverse_11 : decode b_M_inverse 11 = .ok (.lstore 8, 2) := by decide +kernel
theorem d_M_inverse_13 : decode b_M_inverse 13 = .ok (.lload_n 2, 1) := by decide +kernel
theorem d_M_inverse_14 : decode b_M_inverse 14 = .ok (.lstore 10, 2) := by decide +kernel
theorem d_M_inverse_16 : decode b_M_inverse 16 = .ok (.lload 10, 2) := by decide +kernel
theorem d_M_inverse_18 : decode b_M_inverse 18 = .ok (.lconst 0, 1) := by decide +kernel
theorem d_M_inverse_19 : decode b_M_inverse 19 = .ok (.lcmp, 1) := by decide +kernel
theorem d_M_inverse_20 : decode b_M_inverse 20 = .ok (.ifCond .le 49, 3) := by decide +kernel
theorem d_M_inverse_23 : decode b_M_inverse 23 = .ok (.lload 8, 2) := by decide +kernel
theorem d_M_inverse_25 : decode b_M_inverse 25 = .ok (.lload 10, 2) := by decide +kernel
theorem d_M_inverse_27 : decode b_M_inverse 27 = .ok (.ldiv, 1) := by decide +kernel
theorem d_M_inverse_28 : decode b_M_inverse 28 = .ok (.lstore 12, 2) := by decide +kernel
theorem d_M_inverse_30 : decode b_M_inverse 30 = .ok (.lload 8, 2) := by decide +kernel
theorem d_M_inverse_32 : decode b_M_inverse 32 = .ok (.lload 12, 2) := by decide +kernel
theorem d_M_inverse_34 : decode b_M_inverse 34 = .ok (.lload 10, 2) := by decide +kernel
theorem d_M_inverse_36 : decode b_M_inverse 36 = .ok (.lmul, 1) := by decide +kernel
theorem d_M_inverse_37 : decode b_M_inverse 37 = .ok (.lsub, 1) := by decide +kernel
theorem d_M_inverse_38 : decode b_M_inverse 38 = .ok (.lstore 14, 2) := by decide +kernel
theorem d_M_inverse_40 : decode b_M_inverse 40 = .ok (.lload 10, 2) := by decide +kernel
theorem d_M_inverse_42 : decode b_M_inverse 42 = .ok (.lstore 8, 2) := by decide +kernel
theorem d_M_inverse_44 : decode b_M_inverse 44 = .ok (.lload 14, 2) := by decide +kernel
theorem d_M_inverse_46 : decode b_M_inverse 46 = .ok (.lstore 10, 2) := by decide +kernel
theorem d_M_inverse_48 : decode b_M_inverse 48 = .ok (.lload 4, 2) := by decide +kernel
theorem d_M_inverse_50 : decode b_M_inverse 50 = .ok (.lload 12, 2) := by decide +kernel
theorem d_M_inverse_52 : decode b_M_inverse 52 = .ok (.lload 6, 2) := by decide +kernel
theorem d_M_inverse_54 : decode b_M_inverse 54 = .ok (.lmul, 1) := by decide +kernel
theorem d_M_inverse_55 : decode b_M_inverse 55 = .ok (.lsub, 1) := by decide +kernel
theorem d_M_inverse_56 : decode b_M_inverse 56 = .ok (.lstore 14, 2) := by decide +kernel
theorem d_M_inverse_58 : decode b_M_inverse 58 = .ok (.lload 6, 2) := by decide +kernel
theorem d_M_inverse_60 : decode b_M_inverse 60 = .ok (.lstore 4, 2) := by decide +kernel
theorem d_M_inverse_62 : decode b_M_inverse 62 = .ok (.lload 14, 2) := by decide +kernel
theorem d_M_inverse_64 : decode b_M_inverse 64 = .ok (.lstore 6, 2) := by decide +kernel
theorem d_M_inverse_66 : decode b_M_inverse 66 = .ok (.goto (-50), 3) := by decide +kernel
theorem d_M_inverse_69 : decode b_M_inverse 69 = .ok (.lload 4, 2) := by decide +kernel
theorem d_M_inverse_71 : decode b_M_inverse 71 = .ok (.lload_n 2, 1) := by decide +kernel
theorem d_M_inverse_72 : decode b_M_inverse 72 = .ok (.invokestatic 69, 3) := by decide +kernel
theorem d_M_inverse_75 : decode b_M_inverse 75 = .ok (.lreturn, 1) := by decide +kernel
theorem d_M_slide_0 : decode b_M_slide 0 = .ok (.aload_n 0, 1) := by decide +kernel
theorem d_M_slide_1 : decode b_M_slide 1 = .ok (.aload_n 0, 1) := by decide +kernel
theorem d_M_slide_2 : decode b_M_slide 2 = .ok (.getfield 73, 3) := by decide +kernel
theorem d_M_slide_5 : decode b_M_slide 5 = .ok (.lload_n 1, 1) := by decide +kernel
theorem d_M_slide_6 : decode b_M_slide 6 = .ok (.lmul, 1) := by decide +kernel
theorem d_M_slide_7 : decode b_M_slide 7 = .ok (.lload_n 1, 1) := by decide +kernel
theorem d_M_slide_8 : decode b_M_slide 8 = .ok (.lmul, 1) := by decide +kernel
theorem d_M_slide_9 : decode b_M_slide 9 = .ok (.aload_n 0, 1) := by decide +kernel
theorem d_M_slide_10 : decode b_M_slide 10 = .ok (.getfield 76, 3) := by decide +kernel
theorem d_M_slide_13 : decode b_M_slide 13 = .ok (.lload_n 1, 1) := by decide +kernel
theorem d_M_slide_14 : decode b_M_slide 14 = .ok (.lmul, 1) := by decide +kernel
theorem d_M_slide_15 : decode b_M_slide 15 = .ok (.ladd, 1) := by decide +kernel
theorem d_M_slide_16 : decode b_M_slide 16 = .ok (.aload_n 0, 1) := by decide +kernel
theorem d_M_slide_17 : decode b_M_slide 17 = .ok (.getfield 79, 3) := by decide +kernel
theorem d_M_slide_20 : decode b_M_slide 20 = .ok (.ladd, 1) := by decide +kernel
theorem d_M_slide_21 : decode b_M_slide 21 = .ok (.putfield 79, 3) := by decide +kernel
theorem d_M_slide_24 : decode b_M_slide 24 = .ok (.aload_n 0, 1) := by decide +kernel
theorem d_M_slide_25 : decode b_M_slide 25 = .ok (.aload_n 0, 1) := by decide +kernel
theorem d_M_slide_26 : decode b_M_slide 26 = .ok (.getfield 76, 3) := by decide +kernel
theorem d_M_slide_29 : decode b_M_slide 29 = .ok (.ldc2_w 53, 3) := by decide +kernel
theorem d_M_slide_32 : decode b_M_slide 32 = .ok (.aload_n 0, 1) := by decide +kernel
theorem d_M_slide_33 : decode b_M_slide 33 = .ok (.getfield 73, 3) := by decide +kernel
theorem d_M_slide_36 : decode b_M_slide 36 = .ok (.lmul, 1) := by decide +kernel
theorem d_M_slide_37 : decode b_M_slide 37 = .ok (.lload_n 1, 1) := by decide +kernel
theorem d_M_slide_38 : decode b_M_slide 38 = .ok (.lmul, 1) := by decide +kernel
theorem d_M_slide_39 : decode b_M_slide 39 = .ok (.ladd, 1) := by decide +kernel
theorem d_M_slide_40 : decode b_M_slide 40 = .ok (.putfield 76, 3) := by decide +kernel
theorem d_M_slide_43 : decode b_M_slide 43 = .ok (.return_, 1) := by decide +kernel
theorem d_M_turn_0 : decode b_M_turn 0 = .ok (.aload_n 0, 1) := by decide +kernel
theorem d_M_turn_1 : decode b_M_turn 1 = .ok (.getfield 73, 3) := by decide +kernel
theorem d_M_turn_4 : decode b_M_turn 4 = .ok (.lstore_n 1, 1) := by decide +kernel
theorem d_M_turn_5 : decode b_M_turn 5 = .ok (.aload_n 0, 1) := by decide +kernel
theorem d_M_turn_6 : decode b_M_turn 6 = .ok (.aload_n 0, 1) := by decide +kernel
theorem d_M_turn_7 : decode b_M_turn 7 = .ok (.getfield 79, 3) := by decide +kernel
theorem d_M_turn_10 : decode b_M_turn 10 = .ok (.putfield 73, 3) := by decide +kernel
theorem d_M_turn_13 : decode b_M_turn 13 = .ok (.aload_n 0, 1) := by decide +kernel
theorem d_M_turn_14 : decode b_M_turn 14 = .ok (.aload_n 0, 1) := by decide +kernel
theorem d_M_turn_15 : decode b_M_turn 15 = .ok (.getfield 76, 3) := by decide +kernel
theorem d_M_turn_18 : decode b_M_turn 18 = .ok (.lneg, 1) := by decide +kernel
theorem d_M_turn_19 : decode b_M_turn 19 = .ok (.putfield 76, 3) := by decide +kernel
theorem d_M_turn_22 : decode b_M_turn 22 = .ok (.aload_n 0, 1) := by decide +kernel
theorem d_M_turn_23 : decode b_M_turn 23 = .ok (.lload_n 1, 1) := by decide +kernel
theorem d_M_turn_24 : decode b_M_turn 24 = .ok (.putfield 79, 3) := by decide +kernel
theorem d_M_turn_27 : decode b_M_turn 27 = .ok (.return_, 1) := by decide +kernel
theorem d_M_freeOf_0 : decode b_M_freeOf 0 = .ok (.aload_n 0, 1) := by decide +kernel
theorem d_M_freeOf_1 : decode b_M_freeOf 1 = .ok (.getfield 73, 3) := by decide +kernel
theorem d_M_freeOf_4 : decode b_M_freeOf 4 = .ok (.lstore_n 3, 1) := by decide +kernel
theorem d_M_freeOf_5 : decode b_M_freeOf 5 = .ok (.aload_n 0, 1) := by decide +kernel
theorem d_M_freeOf_6 : decode b_M_freeOf 6 = .ok (.getfield 76, 3) := by decide +kernel
theorem d_M_freeOf_9 : decode b_M_freeOf 9 = .ok (.lstore 5, 2) := by decide +kernel
theorem d_M_freeOf_11 : decode b_M_freeOf 11 = .ok (.aload_n 0, 1) := by decide +kernel
theorem d_M_freeOf_12 : decode b_M_freeOf 12 = .ok (.getfield 79, 3) := by decide +kernel
theorem d_M_freeOf_15 : decode b_M_freeOf 15 = .ok (.lstore 7, 2) := by decide +kernel
theorem d_M_freeOf_17 : decode b_M_freeOf 17 = .ok (.lconst 0, 1) := by decide +kernel
theorem d_M_freeOf_18 : decode b_M_freeOf 18 = .ok (.lstore 9, 2) := by decide +kernel
theorem d_M_freeOf_20 : decode b_M_freeOf 20 = .ok (.aload_n 0, 1) := by decide +kernel
theorem d_M_freeOf_21 : decode b_M_freeOf 21 = .ok (.getfield 73, 3) := by decide +kernel
theorem d_M_freeOf_24 : decode b_M_freeOf 24 = .ok (.lload_n 1, 1) := by decide +kernel
theorem d_M_freeOf_25 : decode b_M_freeOf 25 = .ok (.invokestatic 107, 3) := by decide +kernel
theorem d_M_freeOf_28 : decode b_M_freeOf 28 = .ok (.lconst 1, 1) := by decide +kernel
theorem d_M_freeOf_29 : decode b_M_freeOf 29 = .ok (.lcmp, 1) := by decide +kernel
theorem d_M_freeOf_30 : decode b_M_freeOf 30 = .ok (.ifCond .eq 100, 3) := by decide +kernel
theorem d_M_freeOf_33 : decode b_M_freeOf 33 = .ok (.lload 9, 2) := by decide +kernel
theorem d_M_freeOf_35 : decode b_M_freeOf 35 = .ok (.lneg, 1) := by decide +kernel
theorem d_M_freeOf_36 : decode b_M_freeOf 36 = .ok (.lstore 11, 2) := by decide +kernel
theorem d_M_freeOf_38 : decode b_M_freeOf 38 = .ok (.lload 11, 2) := by decide +kernel
theorem d_M_freeOf_40 : decode b_M_freeOf 40 = .ok (.lload 9, 2) := by decide +kernel
theorem d_M_freeOf_42 : decode b_M_freeOf 42 = .ok (.lcmp, 1) := by decide +kernel
theorem d_M_freeOf_43 : decode b_M_freeOf 43 = .ok (.ifCond .gt 78, 3) := by decide +kernel
theorem d_M_freeOf_46 : decode b_M_freeOf 46 = .ok (.aload_n 0, 1) := by decide +kernel
theorem d_M_freeOf_47 : decode b_M_freeOf 47 = .ok (.getfield 73, 3) := by decide +kernel
theorem d_M_freeOf_50 : decode b_M_freeOf 50 = .ok (.lload_n 1, 1) := by decide +kernel
theorem d_M_freeOf_51 : decode b_M_freeOf 51 = .ok (.invokestatic 107, 3) := by decide +kernel
theorem d_M_freeOf_54 : decode b_M_freeOf 54 = .ok (.lconst 1, 1) := by decide +kernel
theorem d_M_freeOf_55 : decode b_M_freeOf 55 = .ok (.lcmp, 1) := by decide +kernel
theorem d_M_freeOf_56 : decode b_M_freeOf 56 = .ok (.ifCond .eq 65, 3) := by decide +kernel
theorem d_M_freeOf_59 : decode b_M_freeOf 59 = .ok (.aload_n 0, 1) := by decide +kernel
theorem d_M_freeOf_60 : decode b_M_freeOf 60 = .ok (.lload_n 3, 1) := by decide +kernel
theorem d_M_freeOf_61 : decode b_M_freeOf 61 = .ok (.putfield 73, 3) := by decide +kernel
theorem d_M_freeOf_64 : decode b_M_freeOf 64 = .ok (.aload_n 0, 1) := by decide +kernel
theorem d_M_freeOf_65 : decode b_M_freeOf 65 = .ok (.lload 5, 2) := by decide +kernel
theorem d_M_freeOf_67 : decode b_M_freeOf 67 = .ok (.putfield 76, 3) := by decide +kernel
theorem d_M_freeOf_70 : decode b_M_freeOf 70 = .ok (.aload_n 0, 1) := by decide +kernel
theorem d_M_freeOf_71 : decode b_M_freeOf 71 = .ok (.lload 7, 2) := by decide +kernel
theorem d_M_freeOf_73 : decode b_M_freeOf 73 = .ok (.putfield 79, 3) := by decide +kernel
theorem d_M_freeOf_76 : decode b_M_freeOf 76 = .ok (.aload_n 0, 1) := by decide +kernel
theorem d_M_freeOf_77 : decode b_M_freeOf 77 = .ok (.lload 11, 2) := by decide +kernel
theorem d_M_freeOf_79 : decode b_M_freeOf 79 = .ok (.invokevirtual 110, 3) := by decide +kernel
theorem d_M_freeOf_82 : decode b_M_freeOf 82 = .ok (.aload_n 0, 1) := by decide +kernel
theorem d_M_freeOf_83 : decode b_M_freeOf 83 = .ok (.invokevirtual 113, 3) := by decide +kernel
theorem d_M_freeOf_86 : decode b_M_freeOf 86 = .ok (.aload_n 0, 1) := by decide +kernel
theorem d_M_freeOf_87 : decode b_M_freeOf 87 = .ok (.getfield 73, 3) := by decide +kernel
theorem d_M_freeOf_90 : decode b_M_freeOf 90 = .ok (.lload_n 1, 1) := by decide +kernel
theorem d_M_freeOf_91 : decode b_M_freeOf 91 = .ok (.invokestatic 107, 3) := by decide +kernel
theorem d_M_freeOf_94 : decode b_M_freeOf 94 = .ok (.lconst 1, 1) := by decide +kernel
theorem d_M_freeOf_95 : decode b_M_freeOf 95 = .ok (.lcmp, 1) := by decide +kernel
theorem d_M_freeOf_96 : decode b_M_freeOf 96 = .ok (.ifCond .ne 6, 3) := by decide +kernel
theorem d_M_freeOf_99 : decode b_M_freeOf 99 = .ok (.goto 13, 3) := by decide +kernel
theorem d_M_freeOf_102 : decode b_M_freeOf 102 = .ok (.aload_n 0, 1) := by decide +kernel
theorem d_M_freeOf_103 : decode b_M_freeOf 103 = .ok (.lload 9, 2) := by decide +kernel
theorem d_M_freeOf_105 : decode b_M_freeOf 105 = .ok (.invokevirtual 110, 3) := by decide +kernel
theorem d_M_freeOf_108 : decode b_M_freeOf 108 = .ok (.aload_n 0, 1) := by decide +kernel
theorem d_M_freeOf_109 : decode b_M_freeOf 109 = .ok (.invokevirtual 113, 3) := by decide +kernel
theorem d_M_freeOf_112 : decode b_M_freeOf 112 = .ok (.lload 11, 2) := by decide +kernel
theorem d_M_freeOf_114 : decode b_M_freeOf 114 = .ok (.lconst 1, 1) := by decide +kernel
theorem d_M_freeOf_115 : decode b_M_freeOf 115 = .ok (.ladd, 1) := by decide +kernel
theorem d_M_freeOf_116 : decode b_M_freeOf 116 = .ok (.lstore 11, 2) := by decide +kernel
theorem d_M_freeOf_118 : decode b_M_freeOf 118 = .ok (.goto (-80), 3) := by decide +kernel
theorem d_M_freeOf_121 : decode b_M_freeOf 121 = .ok (.lload 9, 2) := by decide +kernel
theorem d_M_freeOf_123 : decode b_M_freeOf 123 = .ok (.lconst 1, 1) := by decide +kernel
theorem d_M_freeOf_124 : decode b_M_freeOf 124 = .ok (.ladd, 1) := by decide +kernel
theorem d_M_freeOf_125 : decode b_M_freeOf 125 = .ok (.lstore 9, 2) := by decide +kernel
theorem d_M_freeOf_127 : decode b_M_freeOf 127 = .ok (.goto (-107), 3) := by decide +kernel
theorem d_M_freeOf_130 : decode b_M_freeOf 130 = .ok (.return_, 1) := by decide +kernel
theorem d_M_times_0 : decode b_M_times 0 = .ok (.aload_n 0, 1) := by decide +kernel
theorem d_M_times_1 : decode b_M_times 1 = .ok (.getfield 73, 3) := by decide +kernel
theorem d_M_times_4 : decode b_M_times 4 = .ok (.lstore_n 2, 1) := by decide +kernel
theorem d_M_times_5 : decode b_M_times 5 = .ok (.aload_n 0, 1) := by decide +kernel
theorem d_M_times_6 : decode b_M_times 6 = .ok (.getfield 76, 3) := by decide +kernel
theorem d_M_times_9 : decode b_M_times 9 = .ok (.lstore 4, 2) := by decide +kernel
theorem d_M_times_11 : decode b_M_times 11 = .ok (.aload_n 0, 1) := by decide +kernel
theorem d_M_times_12 : decode b_M_times 12 = .ok (.getfield 79, 3) := by decide +kernel
theorem d_M_times_15 : decode b_M_times 15 = .ok (.lstore 6, 2) := by decide +kernel
theorem d_M_times_17 : decode b_M_times 17 = .ok (.aload_n 0, 1) := by decide +kernel
theorem d_M_times_18 : decode b_M_times 18 = .ok (.iload_n 1, 1) := by decide +kernel
theorem d_M_times_19 : decode b_M_times 19 = .ok (.invokevirtual 98, 3) := by decide +kernel
theorem d_M_times_22 : decode b_M_times 22 = .ok (.aload_n 0, 1) := by decide +kernel
theorem d_M_times_23 : decode b_M_times 23 = .ok (.lload_n 2, 1) := by decide +kernel
theorem d_M_times_24 : decode b_M_times 24 = .ok (.invokevirtual 116, 3) := by decide +kernel
theorem d_M_times_27 : decode b_M_times 27 = .ok (.aload_n 0, 1) := by decide +kernel
theorem d_M_times_28 : decode b_M_times 28 = .ok (.getfield 73, 3) := by decide +kernel
theorem d_M_times_31 : decode b_M_times 31 = .ok (.invokestatic 41, 3) := by decide +kernel
theorem d_M_times_34 : decode b_M_times 34 = .ok (.lstore 8, 2) := by decide +kernel
theorem d_M_times_36 : decode b_M_times 36 = .ok (.aload_n 0, 1) := by decide +kernel
theorem d_M_times_37 : decode b_M_times 37 = .ok (.getfield 76, 3) := by decide +kernel
theorem d_M_times_40 : decode b_M_times 40 = .ok (.lload 4, 2) := by decide +kernel
theorem d_M_times_42 : decode b_M_times 42 = .ok (.lsub, 1) := by decide +kernel
theorem d_M_times_43 : decode b_M_times 43 = .ok (.ldc2_w 53, 3) := by decide +kernel
theorem d_M_times_46 : decode b_M_times 46 = .ok (.ldiv, 1) := by decide +kernel
theorem d_M_times_47 : decode b_M_times 47 = .ok (.lload 8, 2) := by decide +kernel
theorem d_M_times_49 : decode b_M_times 49 = .ok (.invokestatic 69, 3) := by decide +kernel
theorem d_M_times_52 : decode b_M_times 52 = .ok (.lload_n 2, 1) := by decide +kernel
theorem d_M_times_53 : decode b_M_times 53 = .ok (.lload 8, 2) := by decide +kernel
theorem d_M_times_55 : decode b_M_times 55 = .ok (.invokestatic 119, 3) := by decide +kernel
theorem d_M_times_58 : decode b_M_times 58 = .ok (.lmul, 1) := by decide +kernel
theorem d_M_times_59 : decode b_M_times 59 = .ok (.lload 8, 2) := by decide +kernel
theorem d_M_times_61 : decode b_M_times 61 = .ok (.invokestatic 69, 3) := by decide +kernel
theorem d_M_times_64 : decode b_M_times 64 = .ok (.lstore 10, 2) := by decide +kernel
theorem d_M_times_66 : decode b_M_times 66 = .ok (.aload_n 0, 1) := by decide +kernel
theorem d_M_times_67 : decode b_M_times 67 = .ok (.lload 4, 2) := by decide +kernel
theorem d_M_times_69 : decode b_M_times 69 = .ok (.ldc2_w 53, 3) := by decide +kernel
theorem d_M_times_72 : decode b_M_times 72 = .ok (.lload_n 2, 1) := by decide +kernel
theorem d_M_times_73 : decode b_M_times 73 = .ok (.lmul, 1) := by decide +kernel
theorem d_M_times_74 : decode b_M_times 74 = .ok (.lload 10, 2) := by decide +kernel
theorem d_M_times_76 : decode b_M_times 76 = .ok (.lmul, 1) := by decide +kernel
theorem d_M_times_77 : decode b_M_times 77 = .ok (.ladd, 1) := by decide +kernel
theorem d_M_times_78 : decode b_M_times 78 = .ok (.putfield 76, 3) := by decide +kernel
theorem d_M_times_81 : decode b_M_times 81 = .ok (.aload_n 0, 1) := by decide +kernel
theorem d_M_times_82 : decode b_M_times 82 = .ok (.lload 6, 2) := by decide +kernel
theorem d_M_times_84 : decode b_M_times 84 = .ok (.lload 4, 2) := by decide +kernel
theorem d_M_times_86 : decode b_M_times 86 = .ok (.lload 10, 2) := by decide +kernel
theorem d_M_times_88 : decode b_M_times 88 = .ok (.lmul, 1) := by decide +kernel
theorem d_M_times_89 : decode b_M_times 89 = .ok (.ladd, 1) := by decide +kernel
theorem d_M_times_90 : decode b_M_times 90 = .ok (.lload_n 2, 1) := by decide +kernel
theorem d_M_times_91 : decode b_M_times 91 = .ok (.lload 10, 2) := by decide +kernel
theorem d_M_times_93 : decode b_M_times 93 = .ok (.lmul, 1) := by decide +kernel
theorem d_M_times_94 : decode b_M_times 94 = .ok (.lload 10, 2) := by decide +kernel
theorem d_M_times_96 : decode b_M_times 96 = .ok (.lmul, 1) := by decide +kernel
theorem d_M_times_97 : decode b_M_times 97 = .ok (.ladd, 1) := by decide +kernel
theorem d_M_times_98 : decode b_M_times 98 = .ok (.aload_n 0, 1) := by decide +kernel
theorem d_M_times_99 : decode b_M_times 99 = .ok (.getfield 73, 3) := by decide +kernel
theorem d_M_times_102 : decode b_M_times 102 = .ok (.ldiv, 1) := by decide +kernel
theorem d_M_times_103 : decode b_M_times 103 = .ok (.putfield 79, 3) := by decide +kernel
theorem d_M_times_106 : decode b_M_times 106 = .ok (.aload_n 0, 1) := by decide +kernel
theorem d_M_times_107 : decode b_M_times 107 = .ok (.lload_n 2, 1) := by decide +kernel
theorem d_M_times_108 : decode b_M_times 108 = .ok (.aload_n 0, 1) := by decide +kernel
theorem d_M_times_109 : decode b_M_times 109 = .ok (.getfield 73, 3) := by decide +kernel
theorem d_M_times_112 : decode b_M_times 112 = .ok (.lmul, 1) := by decide +kernel
theorem d_M_times_113 : decode b_M_times 113 = .ok (.putfield 73, 3) := by decide +kernel
theorem d_M_times_116 : decode b_M_times 116 = .ok (.ldc2_w 53, 3) := by decide +kernel
theorem d_M_times_119 : decode b_M_times 119 = .ok (.aload_n 0, 1) := by decide +kernel
theorem d_M_times_120 : decode b_M_times 120 = .ok (.getfield 73, 3) := by decide +kernel
theorem d_M_times_123 : decode b_M_times 123 = .ok (.invokestatic 41, 3) := by decide +kernel
theorem d_M_times_126 : decode b_M_times 126 = .ok (.lmul, 1) := by decide +kernel
theorem d_M_times_127 : decode b_M_times 127 = .ok (.lstore 12, 2) := by decide +kernel
theorem d_M_times_129 : decode b_M_times 129 = .ok (.aload_n 0, 1) := by decide +kernel
theorem d_M_times_130 : decode b_M_times 130 = .ok (.getfield 76, 3) := by decide +kernel
theorem d_M_times_133 : decode b_M_times 133 = .ok (.lload 12, 2) := by decide +kernel
theorem d_M_times_135 : decode b_M_times 135 = .ok (.invokestatic 69, 3) := by decide +kernel
theorem d_M_times_138 : decode b_M_times 138 = .ok (.lstore 14, 2) := by decide +kernel
theorem d_M_times_140 : decode b_M_times 140 = .ok (.ldc2_w 53, 3) := by decide +kernel
theorem d_M_times_143 : decode b_M_times 143 = .ok (.lload 14, 2) := by decide +kernel
theorem d_M_times_145 : decode b_M_times 145 = .ok (.lmul, 1) := by decide +kernel
theorem d_M_times_146 : decode b_M_times 146 = .ok (.lload 12, 2) := by decide +kernel
theorem d_M_times_148 : decode b_M_times 148 = .ok (.lcmp, 1) := by decide +kernel
theorem d_M_times_149 : decode b_M_times 149 = .ok (.ifCond .le 10, 3) := by decide +kernel
theorem d_M_times_152 : decode b_M_times 152 = .ok (.lload 14, 2) := by decide +kernel
theorem d_M_times_154 : decode b_M_times 154 = .ok (.lload 12, 2) := by decide +kernel
theorem d_M_times_156 : decode b_M_times 156 = .ok (.lsub, 1) := by decide +kernel
theorem d_M_times_157 : decode b_M_times 157 = .ok (.lstore 14, 2) := by decide +kernel
theorem d_M_times_159 : decode b_M_times 159 = .ok (.aload_n 0, 1) := by decide +kernel
theorem d_M_times_160 : decode b_M_times 160 = .ok (.lload 14, 2) := by decide +kernel
theorem d_M_times_162 : decode b_M_times 162 = .ok (.aload_n 0, 1) := by decide +kernel
theorem d_M_times_163 : decode b_M_times 163 = .ok (.getfield 76, 3) := by decide +kernel
theorem d_M_times_166 : decode b_M_times 166 = .ok (.lsub, 1) := by decide +kernel
theorem d_M_times_167 : decode b_M_times 167 = .ok (.ldc2_w 53, 3) := by decide +kernel
theorem d_M_times_170 : decode b_M_times 170 = .ok (.aload_n 0, 1) := by decide +kernel
theorem d_M_times_171 : decode b_M_times 171 = .ok (.getfield 73, 3) := by decide +kernel
theorem d_M_times_174 : decode b_M_times 174 = .ok (.lmul, 1) := by decide +kernel
theorem d_M_times_175 : decode b_M_times 175 = .ok (.ldiv, 1) := by decide +kernel
theorem d_M_times_176 : decode b_M_times 176 = .ok (.invokevirtual 110, 3) := by decide +kernel
theorem d_M_times_179 : decode b_M_times 179 = .ok (.aload_n 0, 1) := by decide +kernel
theorem d_M_times_180 : decode b_M_times 180 = .ok (.invokevirtual 82, 3) := by decide +kernel
theorem d_M_times_183 : decode b_M_times 183 = .ok (.return_, 1) := by decide +kernel
theorem d_M_isRegister_0 : decode b_M_isRegister 0 = .ok (.iload_n 0, 1) := by decide +kernel
theorem d_M_isRegister_1 : decode b_M_isRegister 1 = .ok (.i2l, 1) := by decide +kernel
theorem d_M_isRegister_2 : decode b_M_isRegister 2 = .ok (.lconst 0, 1) := by decide +kernel
theorem d_M_isRegister_3 : decode b_M_isRegister 3 = .ok (.ldc2_w 101, 3) := by decide +kernel
theorem d_M_isRegister_6 : decode b_M_isRegister 6 = .ok (.invokestatic 63, 3) := by decide +kernel
theorem d_M_isRegister_9 : decode b_M_isRegister 9 = .ok (.ireturn, 1) := by decide +kernel
theorem d_M_compose_0 : decode b_M_compose 0 = .ok (.aload_n 0, 1) := by decide +kernel
theorem d_M_compose_1 : decode b_M_compose 1 = .ok (.iload_n 1, 1) := by decide +kernel
theorem d_M_compose_2 : decode b_M_compose 2 = .ok (.invokestatic 122, 3) := by decide +kernel
theorem d_M_compose_5 : decode b_M_compose 5 = .ok (.ifCond .eq 21, 3) := by decide +kernel
theorem d_M_compose_8 : decode b_M_compose 8 = .ok (.iload_n 2, 1) := by decide +kernel
theorem d_M_compose_9 : decode b_M_compose 9 = .ok (.invokestatic 122, 3) := by decide +kernel
theorem d_M_compose_12 : decode b_M_compose 12 = .ok (.ifCond .eq 14, 3) := by decide +kernel
theorem d_M_compose_15 : decode b_M_compose 15 = .ok (.iload_n 3, 1) := by decide +kernel
theorem d_M_compose_16 : decode b_M_compose 16 = .ok (.invokestatic 122, 3) := by decide +kernel
theorem d_M_compose_19 : decode b_M_compose 19 = .ok (.ifCond .eq 7, 3) := by decide +kernel
theorem d_M_compose_22 : decode b_M_compose 22 = .ok (.iconst 0, 1) := by decide +kernel
theorem d_M_compose_23 : decode b_M_compose 23 = .ok (.goto 4, 3) := by decide +kernel
theorem d_M_compose_26 : decode b_M_compose 26 = .ok (.iconst 1, 1) := by decide +kernel
theorem d_M_compose_27 : decode b_M_compose 27 = .ok (.putfield 37, 3) := by decide +kernel
theorem d_M_compose_30 : decode b_M_compose 30 = .ok (.aload_n 0, 1) := by decide +kernel
theorem d_M_compose_31 : decode b_M_compose 31 = .ok (.getfield 37, 3) := by decide +kernel
theorem d_M_compose_34 : decode b_M_compose 34 = .ok (.ifCond .le 4, 3) := by decide +kernel
theorem d_M_compose_37 : decode b_M_compose 37 = .ok (.return_, 1) := by decide +kernel
theorem d_M_compose_38 : decode b_M_compose 38 = .ok (.aload_n 0, 1) := by decide +kernel
theorem d_M_compose_39 : decode b_M_compose 39 = .ok (.iload_n 2, 1) := by decide +kernel
theorem d_M_compose_40 : decode b_M_compose 40 = .ok (.invokevirtual 98, 3) := by decide +kernel
theorem d_M_compose_43 : decode b_M_compose 43 = .ok (.aload_n 0, 1) := by decide +kernel
theorem d_M_compose_44 : decode b_M_compose 44 = .ok (.iload_n 3, 1) := by decide +kernel
theorem d_M_compose_45 : decode b_M_compose 45 = .ok (.invokevirtual 126, 3) := by decide +kernel
theorem d_M_compose_48 : decode b_M_compose 48 = .ok (.aload_n 0, 1) := by decide +kernel
theorem d_M_compose_49 : decode b_M_compose 49 = .ok (.iload_n 1, 1) := by decide +kernel
theorem d_M_compose_50 : decode b_M_compose 50 = .ok (.invokevirtual 88, 3) := by decide +kernel
theorem d_M_compose_53 : decode b_M_compose 53 = .ok (.return_, 1) := by decide +kernel
theorem d_M_invert_0 : decode b_M_invert 0 = .ok (.aload_n 0, 1) := by decide +kernel
theorem d_M_invert_1 : decode b_M_invert 1 = .ok (.iload_n 1, 1) := by decide +kernel
theorem d_M_invert_2 : decode b_M_invert 2 = .ok (.invokestatic 122, 3) := by decide +kernel
theorem d_M_invert_5 : decode b_M_invert 5 = .ok (.ifCond .eq 14, 3) := by decide +kernel
theorem d_M_invert_8 : decode b_M_invert 8 = .ok (.iload_n 2, 1) := by decide +kernel
theorem d_M_invert_9 : decode b_M_invert 9 = .ok (.invokestatic 122, 3) := by decide +kernel
theorem d_M_invert_12 : decode b_M_invert 12 = .ok (.ifCond .eq 7, 3) := by decide +kernel
theorem d_M_invert_15 : decode b_M_invert 15 = .ok (.iconst 0, 1) := by decide +kernel
theorem d_M_invert_16 : decode b_M_invert 16 = .ok (.goto 4, 3) := by decide +kernel
theorem d_M_invert_19 : decode b_M_invert 19 = .ok (.iconst 1, 1) := by decide +kernel
theorem d_M_invert_20 : decode b_M_invert 20 = .ok (.putfield 37, 3) := by decide +kernel
theorem d_M_invert_23 : decode b_M_invert 23 = .ok (.aload_n 0, 1) := by decide +kernel
theorem d_M_invert_24 : decode b_M_invert 24 = .ok (.getfield 37, 3) := by decide +kernel
theorem d_M_invert_27 : decode b_M_invert 27 = .ok (.ifCond .le 4, 3) := by decide +kernel
theorem d_M_invert_30 : decode b_M_invert 30 = .ok (.return_, 1) := by decide +kernel
theorem d_M_invert_31 : decode b_M_invert 31 = .ok (.aload_n 0, 1) := by decide +kernel
theorem d_M_invert_32 : decode b_M_invert 32 = .ok (.iload_n 2, 1) := by decide +kernel
theorem d_M_invert_33 : decode b_M_invert 33 = .ok (.invokevirtual 98, 3) := by decide +kernel
theorem d_M_invert_36 : decode b_M_invert 36 = .ok (.aload_n 0, 1) := by decide +kernel
theorem d_M_invert_37 : decode b_M_invert 37 = .ok (.aload_n 0, 1) := by decide +kernel
theorem d_M_invert_38 : decode b_M_invert 38 = .ok (.getfield 76, 3) := by decide +kernel
theorem d_M_invert_41 : decode b_M_invert 41 = .ok (.lneg, 1) := by decide +kernel
theorem d_M_invert_42 : decode b_M_invert 42 = .ok (.putfield 76, 3) := by decide +kernel
theorem d_M_invert_45 : decode b_M_invert 45 = .ok (.aload_n 0, 1) := by decide +kernel
theorem d_M_invert_46 : decode b_M_invert 46 = .ok (.invokevirtual 82, 3) := by decide +kernel
theorem d_M_invert_49 : decode b_M_invert 49 = .ok (.aload_n 0, 1) := by decide +kernel
theorem d_M_invert_50 : decode b_M_invert 50 = .ok (.iload_n 1, 1) := by decide +kernel
theorem d_M_invert_51 : decode b_M_invert 51 = .ok (.invokevirtual 88, 3) := by decide +kernel
theorem d_M_invert_54 : decode b_M_invert 54 = .ok (.return_, 1) := by decide +kernel
theorem d_M_isAt_0 : decode b_M_isAt 0 = .ok (.aload_n 0, 1) := by decide +kernel
theorem d_M_isAt_1 : decode b_M_isAt 1 = .ok (.getfield 73, 3) := by decide +kernel
theorem d_M_isAt_4 : decode b_M_isAt 4 = .ok (.aload_n 0, 1) := by decide +kernel
theorem d_M_isAt_5 : decode b_M_isAt 5 = .ok (.getfield 20, 3) := by decide +kernel
theorem d_M_isAt_8 : decode b_M_isAt 8 = .ok (.iload_n 1, 1) := by decide +kernel
theorem d_M_isAt_9 : decode b_M_isAt 9 = .ok (.laload, 1) := by decide +kernel
theorem d_M_isAt_10 : decode b_M_isAt 10 = .ok (.lcmp, 1) := by decide +kernel
theorem d_M_isAt_11 : decode b_M_isAt 11 = .ok (.ifCond .ne 21, 3) := by decide +kernel
theorem d_M_isAt_14 : decode b_M_isAt 14 = .ok (.aload_n 0, 1) := by decide +kernel
theorem d_M_isAt_15 : decode b_M_isAt 15 = .ok (.getfield 76, 3) := by decide +kernel
theorem d_M_isAt_18 : decode b_M_isAt 18 = .ok (.aload_n 0, 1) := by decide +kernel
theorem d_M_isAt_19 : decode b_M_isAt 19 = .ok (.getfield 24, 3) := by decide +kernel
theorem d_M_isAt_22 : decode b_M_isAt 22 = .ok (.iload_n 1, 1) := by decide +kernel
theorem d_M_isAt_23 : decode b_M_isAt 23 = .ok (.laload, 1) := by decide +kernel
theorem d_M_isAt_24 : decode b_M_isAt 24 = .ok (.lcmp, 1) := by decide +kernel
theorem d_M_isAt_25 : decode b_M_isAt 25 = .ok (.ifCond .ne 7, 3) := by decide +kernel
theorem d_M_isAt_28 : decode b_M_isAt 28 = .ok (.iconst 1, 1) := by decide +kernel
theorem d_M_isAt_29 : decode b_M_isAt 29 = .ok (.goto 4, 3) := by decide +kernel
theorem d_M_isAt_32 : decode b_M_isAt 32 = .ok (.iconst 0, 1) := by decide +kernel
theorem d_M_isAt_33 : decode b_M_isAt 33 = .ok (.ireturn, 1) := by decide +kernel
theorem d_M_isOne_0 : decode b_M_isOne 0 = .ok (.aload_n 0, 1) := by decide +kernel
theorem d_M_isOne_1 : decode b_M_isOne 1 = .ok (.getfield 73, 3) := by decide +kernel
theorem d_M_isOne_4 : decode b_M_isOne 4 = .ok (.lstore_n 1, 1) := by decide +kernel
theorem d_M_isOne_5 : decode b_M_isOne 5 = .ok (.aload_n 0, 1) := by decide +kernel
theorem d_M_isOne_6 : decode b_M_isOne 6 = .ok (.getfield 76, 3) := by decide +kernel
theorem d_M_isOne_9 : decode b_M_isOne 9 = .ok (.lstore_n 3, 1) := by decide +kernel
theorem d_M_isOne_10 : decode b_M_isOne 10 = .ok (.aload_n 0, 1) := by decide +kernel
theorem d_M_isOne_11 : decode b_M_isOne 11 = .ok (.getfield 79, 3) := by decide +kernel
theorem d_M_isOne_14 : decode b_M_isOne 14 = .ok (.lstore 5, 2) := by decide +kernel
theorem d_M_isOne_16 : decode b_M_isOne 16 = .ok (.aload_n 0, 1) := by decide +kernel
theorem d_M_isOne_17 : decode b_M_isOne 17 = .ok (.invokevirtual 85, 3) := by decide +kernel
theorem d_M_isOne_20 : decode b_M_isOne 20 = .ok (.aload_n 0, 1) := by decide +kernel
theorem d_M_isOne_21 : decode b_M_isOne 21 = .ok (.getfield 73, 3) := by decide +kernel
theorem d_M_isOne_24 : decode b_M_isOne 24 = .ok (.lload_n 1, 1) := by decide +kernel
theorem d_M_isOne_25 : decode b_M_isOne 25 = .ok (.lcmp, 1) := by decide +kernel
theorem d_M_isOne_26 : decode b_M_isOne 26 = .ok (.ifCond .ne 16, 3) := by decide +kernel
theorem d_M_isOne_29 : decode b_M_isOne 29 = .ok (.aload_n 0, 1) := by decide +kernel
theorem d_M_isOne_30 : decode b_M_isOne 30 = .ok (.getfield 76, 3) := by decide +kernel
theorem d_M_isOne_33 : decode b_M_isOne 33 = .ok (.lload_n 3, 1) := by decide +kernel
theorem d_M_isOne_34 : decode b_M_isOne 34 = .ok (.lcmp, 1) := by decide +kernel
theorem d_M_isOne_35 : decode b_M_isOne 35 = .ok (.ifCond .ne 7, 3) := by decide +kernel
theorem d_M_isOne_38 : decode b_M_isOne 38 = .ok (.iconst 1, 1) := by decide +kernel
theorem d_M_isOne_39 : decode b_M_isOne 39 = .ok (.goto 4, 3) := by decide +kernel
theorem d_M_isOne_42 : decode b_M_isOne 42 = .ok (.iconst 0, 1) := by decide +kernel
theorem d_M_isOne_43 : decode b_M_isOne 43 = .ok (.istore 7, 2) := by decide +kernel
theorem d_M_isOne_45 : decode b_M_isOne 45 = .ok (.aload_n 0, 1) := by decide +kernel
theorem d_M_isOne_46 : decode b_M_isOne 46 = .ok (.lload_n 1, 1) := by decide +kernel
theorem d_M_isOne_47 : decode b_M_isOne 47 = .ok (.putfield 73, 3) := by decide +kernel
theorem d_M_isOne_50 : decode b_M_isOne 50 = .ok (.aload_n 0, 1) := by decide +kernel
theorem d_M_isOne_51 : decode b_M_isOne 51 = .ok (.lload_n 3, 1) := by decide +kernel
theorem d_M_isOne_52 : decode b_M_isOne 52 = .ok (.putfield 76, 3) := by decide +kernel
theorem d_M_isOne_55 : decode b_M_isOne 55 = .ok (.aload_n 0, 1) := by decide +kernel
theorem d_M_isOne_56 : decode b_M_isOne 56 = .ok (.lload 5, 2) := by decide +kernel
theorem d_M_isOne_58 : decode b_M_isOne 58 = .ok (.putfield 79, 3) := by decide +kernel
theorem d_M_isOne_61 : decode b_M_isOne 61 = .ok (.iload 7, 2) := by decide +kernel
theorem d_M_isOne_63 : decode b_M_isOne 63 = .ok (.ireturn, 1) := by decide +kernel
theorem d_M_orderOf_0 : decode b_M_orderOf 0 = .ok (.aload_n 0, 1) := by decide +kernel
theorem d_M_orderOf_1 : decode b_M_orderOf 1 = .ok (.iload_n 1, 1) := by decide +kernel
theorem d_M_orderOf_2 : decode b_M_orderOf 2 = .ok (.invokevirtual 98, 3) := by decide +kernel
theorem d_M_orderOf_5 : decode b_M_orderOf 5 = .ok (.iconst 1, 1) := by decide +kernel
theorem d_M_orderOf_6 : decode b_M_orderOf 6 = .ok (.istore_n 2, 1) := by decide +kernel
theorem d_M_orderOf_7 : decode b_M_orderOf 7 = .ok (.aload_n 0, 1) := by decide +kernel
theorem d_M_orderOf_8 : decode b_M_orderOf 8 = .ok (.invokevirtual 129, 3) := by decide +kernel
theorem d_M_orderOf_11 : decode b_M_orderOf 11 = .ok (.ifCond .ne 14, 3) := by decide +kernel
theorem d_M_orderOf_14 : decode b_M_orderOf 14 = .ok (.aload_n 0, 1) := by decide +kernel
theorem d_M_orderOf_15 : decode b_M_orderOf 15 = .ok (.iload_n 1, 1) := by decide +kernel
theorem d_M_orderOf_16 : decode b_M_orderOf 16 = .ok (.invokevirtual 126, 3) := by decide +kernel
theorem d_M_orderOf_19 : decode b_M_orderOf 19 = .ok (.iinc 2 1, 3) := by decide +kernel
theorem d_M_orderOf_22 : decode b_M_orderOf 22 = .ok (.goto (-15), 3) := by decide +kernel
theorem d_M_orderOf_25 : decode b_M_orderOf 25 = .ok (.iload_n 2, 1) := by decide +kernel
theorem d_M_orderOf_26 : decode b_M_orderOf 26 = .ok (.ireturn, 1) := by decide +kernel
theorem d_M_power_0 : decode b_M_power 0 = .ok (.aload_n 0, 1) := by decide +kernel
theorem d_M_power_1 : decode b_M_power 1 = .ok (.iload_n 1, 1) := by decide +kernel
theorem d_M_power_2 : decode b_M_power 2 = .ok (.invokestatic 122, 3) := by decide +kernel
theorem d_M_power_5 : decode b_M_power 5 = .ok (.ifCond .eq 14, 3) := by decide +kernel
theorem d_M_power_8 : decode b_M_power 8 = .ok (.iload_n 2, 1) := by decide +kernel
theorem d_M_power_9 : decode b_M_power 9 = .ok (.invokestatic 122, 3) := by decide +kernel
theorem d_M_power_12 : decode b_M_power 12 = .ok (.ifCond .eq 7, 3) := by decide +kernel
theorem d_M_power_15 : decode b_M_power 15 = .ok (.iconst 0, 1) := by decide +kernel
theorem d_M_power_16 : decode b_M_power 16 = .ok (.goto 4, 3) := by decide +kernel
theorem d_M_power_19 : decode b_M_power 19 = .ok (.iconst 1, 1) := by decide +kernel
theorem d_M_power_20 : decode b_M_power 20 = .ok (.putfield 37, 3) := by decide +kernel
theorem d_M_power_23 : decode b_M_power 23 = .ok (.aload_n 0, 1) := by decide +kernel
theorem d_M_power_24 : decode b_M_power 24 = .ok (.getfield 37, 3) := by decide +kernel
theorem d_M_power_27 : decode b_M_power 27 = .ok (.ifCond .le 4, 3) := by decide +kernel
theorem d_M_power_30 : decode b_M_power 30 = .ok (.return_, 1) := by decide +kernel
theorem d_M_power_31 : decode b_M_power 31 = .ok (.lload_n 3, 1) := by decide +kernel
theorem d_M_power_32 : decode b_M_power 32 = .ok (.aload_n 0, 1) := by decide +kernel
theorem d_M_power_33 : decode b_M_power 33 = .ok (.iload_n 2, 1) := by decide +kernel
theorem d_M_power_34 : decode b_M_power 34 = .ok (.invokevirtual 132, 3) := by decide +kernel
theorem d_M_power_37 : decode b_M_power 37 = .ok (.i2l, 1) := by decide +kernel
theorem d_M_power_38 : decode b_M_power 38 = .ok (.invokestatic 69, 3) := by decide +kernel
theorem d_M_power_41 : decode b_M_power 41 = .ok (.lstore 5, 2) := by decide +kernel
theorem d_M_power_43 : decode b_M_power 43 = .ok (.aload_n 0, 1) := by decide +kernel
theorem d_M_power_44 : decode b_M_power 44 = .ok (.invokevirtual 85, 3) := by decide +kernel
theorem d_M_power_47 : decode b_M_power 47 = .ok (.lload 5, 2) := by decide +kernel
theorem d_M_power_49 : decode b_M_power 49 = .ok (.lconst 0, 1) := by decide +kernel
theorem d_M_power_50 : decode b_M_power 50 = .ok (.lcmp, 1) := by decide +kernel
theorem d_M_power_51 : decode b_M_power 51 = .ok (.ifCond .le 17, 3) := by decide +kernel
theorem d_M_power_54 : decode b_M_power 54 = .ok (.aload_n 0, 1) := by decide +kernel
theorem d_M_power_55 : decode b_M_power 55 = .ok (.iload_n 2, 1) := by decide +kernel
theorem d_M_power_56 : decode b_M_power 56 = .ok (.invokevirtual 126, 3) := by decide +kernel
theorem d_M_power_59 : decode b_M_power 59 = .ok (.lload 5, 2) := by decide +kernel
theorem d_M_power_61 : decode b_M_power 61 = .ok (.lconst 1, 1) := by decide +kernel
theorem d_M_power_62 : decode b_M_power 62 = .ok (.lsub, 1) := by decide +kernel
theorem d_M_power_63 : decode b_M_power 63 = .ok (.lstore 5, 2) := by decide +kernel
theorem d_M_power_65 : decode b_M_power 65 = .ok (.goto (-18), 3) := by decide +kernel
theorem d_M_power_68 : decode b_M_power 68 = .ok (.aload_n 0, 1) := by decide +kernel
theorem d_M_power_69 : decode b_M_power 69 = .ok (.iload_n 1, 1) := by decide +kernel
theorem d_M_power_70 : decode b_M_power 70 = .ok (.invokevirtual 88, 3) := by decide +kernel
theorem d_M_power_73 : decode b_M_power 73 = .ok (.return_, 1) := by decide +kernel
theorem d_M_form_0 : decode b_M_form 0 = .ok (.aload_n 0, 1) := by decide +kernel
theorem d_M_form_1 : decode b_M_form 1 = .ok (.iload_n 1, 1) := by decide +kernel
theorem d_M_form_2 : decode b_M_form 2 = .ok (.invokestatic 122, 3) := by decide +kernel
theorem d_M_form_5 : decode b_M_form 5 = .ok (.ifCond .eq 19, 3) := by decide +kernel
theorem d_M_form_8 : decode b_M_form 8 = .ok (.iload_n 2, 1) := by decide +kernel
theorem d_M_form_9 : decode b_M_form 9 = .ok (.i2l, 1) := by decide +kernel
theorem d_M_form_10 : decode b_M_form 10 = .ok (.lconst 0, 1) := by decide +kernel
theorem d_M_form_11 : decode b_M_form 11 = .ok (.ldc2_w 53, 3) := by decide +kernel
theorem d_M_form_14 : decode b_M_form 14 = .ok (.invokestatic 63, 3) := by decide +kernel
theorem d_M_form_17 : decode b_M_form 17 = .ok (.ifCond .eq 7, 3) := by decide +kernel
theorem d_M_form_20 : decode b_M_form 20 = .ok (.iconst 0, 1) := by decide +kernel
theorem d_M_form_21 : decode b_M_form 21 = .ok (.goto 4, 3) := by decide +kernel
theorem d_M_form_24 : decode b_M_form 24 = .ok (.iconst 1, 1) := by decide +kernel
theorem d_M_form_25 : decode b_M_form 25 = .ok (.putfield 37, 3) := by decide +kernel
theorem d_M_form_28 : decode b_M_form 28 = .ok (.aload_n 0, 1) := by decide +kernel
theorem d_M_form_29 : decode b_M_form 29 = .ok (.getfield 37, 3) := by decide +kernel
theorem d_M_form_32 : decode b_M_form 32 = .ok (.ifCond .le 5, 3) := by decide +kernel
theorem d_M_form_35 : decode b_M_form 35 = .ok (.iconst 0, 1) := by decide +kernel
theorem d_M_form_36 : decode b_M_form 36 = .ok (.ireturn, 1) := by decide +kernel
theorem d_M_form_37 : decode b_M_form 37 = .ok (.iload_n 2, 1) := by decide +kernel
theorem d_M_form_38 : decode b_M_form 38 = .ok (.ifCond .ne 12, 3) := by decide +kernel
theorem d_M_form_41 : decode b_M_form 41 = .ok (.aload_n 0, 1) := by decide +kernel
theorem d_M_form_42 : decode b_M_form 42 = .ok (.getfield 20, 3) := by decide +kernel
theorem d_M_form_45 : decode b_M_form 45 = .ok (.iload_n 1, 1) := by decide +kernel
theorem d_M_form_46 : decode b_M_form 46 = .ok (.laload, 1) := by decide +kernel
theorem d_M_form_47 : decode b_M_form 47 = .ok (.goto 23, 3) := by decide +kernel
theorem d_M_form_50 : decode b_M_form 50 = .ok (.iload_n 2, 1) := by decide +kernel
theorem d_M_form_51 : decode b_M_form 51 = .ok (.iconst 1, 1) := by decide +kernel
theorem d_M_form_52 : decode b_M_form 52 = .ok (.if_icmp .ne 12, 3) := by decide +kernel
theorem d_M_form_55 : decode b_M_form 55 = .ok (.aload_n 0, 1) := by decide +kernel
theorem d_M_form_56 : decode b_M_form 56 = .ok (.getfield 24, 3) := by decide +kernel
theorem d_M_form_59 : decode b_M_form 59 = .ok (.iload_n 1, 1) := by decide +kernel
theorem d_M_form_60 : decode b_M_form 60 = .ok (.laload, 1) := by decide +kernel
theorem d_M_form_61 : decode b_M_form 61 = .ok (.goto 9, 3) := by decide +kernel
theorem d_M_form_64 : decode b_M_form 64 = .ok (.aload_n 0, 1) := by decide +kernel
theorem d_M_form_65 : decode b_M_form 65 = .ok (.getfield 27, 3) := by decide +kernel
theorem d_M_form_68 : decode b_M_form 68 = .ok (.iload_n 1, 1) := by decide +kernel
theorem d_M_form_69 : decode b_M_form 69 = .ok (.laload, 1) := by decide +kernel
theorem d_M_form_70 : decode b_M_form 70 = .ok (.l2i, 1) := by decide +kernel
theorem d_M_form_71 : decode b_M_form 71 = .ok (.ireturn, 1) := by decide +kernel
theorem d_M_same_0 : decode b_M_same 0 = .ok (.aload_n 0, 1) := by decide +kernel
theorem d_M_same_1 : decode b_M_same 1 = .ok (.iload_n 1, 1) := by decide +kernel
theorem d_M_same_2 : decode b_M_same 2 = .ok (.invokestatic 122, 3) := by decide +kernel
theorem d_M_same_5 : decode b_M_same 5 = .ok (.ifCond .eq 14, 3) := by decide +kernel
theorem d_M_same_8 : decode b_M_same 8 = .ok (.iload_n 2, 1) := by decide +kernel
theorem d_M_same_9 : decode b_M_same 9 = .ok (.invokestatic 122, 3) := by decide +kernel
theorem d_M_same_12 : decode b_M_same 12 = .ok (.ifCond .eq 7, 3) := by decide +kernel
theorem d_M_same_15 : decode b_M_same 15 = .ok (.iconst 0, 1) := by decide +kernel
theorem d_M_same_16 : decode b_M_same 16 = .ok (.goto 4, 3) := by decide +kernel
theorem d_M_same_19 : decode b_M_same 19 = .ok (.iconst 1, 1) := by decide +kernel
theorem d_M_same_20 : decode b_M_same 20 = .ok (.putfield 37, 3) := by decide +kernel
theorem d_M_same_23 : decode b_M_same 23 = .ok (.aload_n 0, 1) := by decide +kernel
theorem d_M_same_24 : decode b_M_same 24 = .ok (.getfield 37, 3) := by decide +kernel
theorem d_M_same_27 : decode b_M_same 27 = .ok (.ifCond .le 5, 3) := by decide +kernel
theorem d_M_same_30 : decode b_M_same 30 = .ok (.iconst 0, 1) := by decide +kernel
theorem d_M_same_31 : decode b_M_same 31 = .ok (.ireturn, 1) := by decide +kernel
theorem d_M_same_32 : decode b_M_same 32 = .ok (.aload_n 0, 1) := by decide +kernel
theorem d_M_same_33 : decode b_M_same 33 = .ok (.iload_n 1, 1) := by decide +kernel
theorem d_M_same_34 : decode b_M_same 34 = .ok (.invokevirtual 98, 3) := by decide +kernel
theorem d_M_same_37 : decode b_M_same 37 = .ok (.aload_n 0, 1) := by decide +kernel
theorem d_M_same_38 : decode b_M_same 38 = .ok (.iload_n 2, 1) := by decide +kernel
theorem d_M_same_39 : decode b_M_same 39 = .ok (.invokevirtual 136, 3) := by decide +kernel
theorem d_M_same_42 : decode b_M_same 42 = .ok (.ireturn, 1) := by decide +kernel
theorem d_M_order_0 : decode b_M_order 0 = .ok (.aload_n 0, 1) := by decide +kernel
theorem d_M_order_1 : decode b_M_order 1 = .ok (.iload_n 1, 1) := by decide +kernel
theorem d_M_order_2 : decode b_M_order 2 = .ok (.invokestatic 122, 3) := by decide +kernel
theorem d_M_order_5 : decode b_M_order 5 = .ok (.ifCond .eq 7, 3) := by decide +kernel
theorem d_M_order_8 : decode b_M_order 8 = .ok (.iconst 0, 1) := by decide +kernel
theorem d_M_order_9 : decode b_M_order 9 = .ok (.goto 4, 3) := by decide +kernel
theorem d_M_order_12 : decode b_M_order 12 = .ok (.iconst 1, 1) := by decide +kernel
theorem d_M_order_13 : decode b_M_order 13 = .ok (.putfield 37, 3) := by decide +kernel
theorem d_M_order_16 : decode b_M_order 16 = .ok (.aload_n 0, 1) := by decide +kernel
theorem d_M_order_17 : decode b_M_order 17 = .ok (.getfield 37, 3) := by decide +kernel
theorem d_M_order_20 : decode b_M_order 20 = .ok (.ifCond .le 7, 3) := by decide +kernel
theorem d_M_order_23 : decode b_M_order 23 = .ok (.iconst 0, 1) := by decide +kernel
theorem d_M_order_24 : decode b_M_order 24 = .ok (.goto 8, 3) := by decide +kernel
theorem d_M_order_27 : decode b_M_order 27 = .ok (.aload_n 0, 1) := by decide +kernel
theorem d_M_order_28 : decode b_M_order 28 = .ok (.iload_n 1, 1) := by decide +kernel
theorem d_M_order_29 : decode b_M_order 29 = .ok (.invokevirtual 132, 3) := by decide +kernel
theorem d_M_order_32 : decode b_M_order 32 = .ok (.ireturn, 1) := by decide +kernel
theorem d_M_exponent_0 : decode b_M_exponent 0 = .ok (.aload_n 0, 1) := by decide +kernel
theorem d_M_exponent_1 : decode b_M_exponent 1 = .ok (.iload_n 1, 1) := by decide +kernel
theorem d_M_exponent_2 : decode b_M_exponent 2 = .ok (.invokestatic 122, 3) := by decide +kernel
theorem d_M_exponent_5 : decode b_M_exponent 5 = .ok (.ifCond .eq 14, 3) := by decide +kernel
theorem d_M_exponent_8 : decode b_M_exponent 8 = .ok (.iload_n 2, 1) := by decide +kernel
theorem d_M_exponent_9 : decode b_M_exponent 9 = .ok (.invokestatic 122, 3) := by decide +kernel
theorem d_M_exponent_12 : decode b_M_exponent 12 = .ok (.ifCond .eq 7, 3) := by decide +kernel
theorem d_M_exponent_15 : decode b_M_exponent 15 = .ok (.iconst 0, 1) := by decide +kernel
theorem d_M_exponent_16 : decode b_M_exponent 16 = .ok (.goto 4, 3) := by decide +kernel
theorem d_M_exponent_19 : decode b_M_exponent 19 = .ok (.iconst 1, 1) := by decide +kernel
theorem d_M_exponent_20 : decode b_M_exponent 20 = .ok (.putfield 37, 3) := by decide +kernel
theorem d_M_exponent_23 : decode b_M_exponent 23 = .ok (.aload_n 0, 1) := by decide +kernel
theorem d_M_exponent_24 : decode b_M_exponent 24 = .ok (.getfield 37, 3) := by decide +kernel
theorem d_M_exponent_27 : decode b_M_exponent 27 = .ok (.ifCond .le 5, 3) := by decide +kernel
theorem d_M_exponent_30 : decode b_M_exponent 30 = .ok (.iconst 0, 1) := by decide +kernel
theorem d_M_exponent_31 : decode b_M_exponent 31 = .ok (.ireturn, 1) := by decide +kernel
theorem d_M_exponent_32 : decode b_M_exponent 32 = .ok (.aload_n 0, 1) := by decide +kernel
theorem d_M_exponent_33 : decode b_M_exponent 33 = .ok (.iload_n 1, 1) := by decide +kernel
theorem d_M_exponent_34 : decode b_M_exponent 34 = .ok (.invokevirtual 132, 3) := by decide +kernel
theorem d_M_exponent_37 : decode b_M_exponent 37 = .ok (.istore_n 3, 1) := by decide +kernel
theorem d_M_exponent_38 : decode b_M_exponent 38 = .ok (.aload_n 0, 1) := by decide +kernel
theorem d_M_exponent_39 : decode b_M_exponent 39 = .ok (.invokevirtual 85, 3) := by decide +kernel
theorem d_M_exponent_42 : decode b_M_exponent 42 = .ok (.iconst 0, 1) := by decide +kernel
theorem d_M_exponent_43 : decode b_M_exponent 43 = .ok (.istore 4, 2) := by decide +kernel
theorem d_M_exponent_45 : decode b_M_exponent 45 = .ok (.iload 4, 2) := by decide +kernel
theorem d_M_exponent_47 : decode b_M_exponent 47 = .ok (.iload_n 3, 1) := by decide +kernel
theorem d_M_exponent_48 : decode b_M_exponent 48 = .ok (.if_icmp .ge 25, 3) := by decide +kernel
theorem d_M_exponent_51 : decode b_M_exponent 51 = .ok (.aload_n 0, 1) := by decide +kernel
theorem d_M_exponent_52 : decode b_M_exponent 52 = .ok (.iload_n 2, 1) := by decide +kernel
theorem d_M_exponent_53 : decode b_M_exponent 53 = .ok (.invokevirtual 136, 3) := by decide +kernel
theorem d_M_exponent_56 : decode b_M_exponent 56 = .ok (.ifCond .eq 6, 3) := by decide +kernel
theorem d_M_exponent_59 : decode b_M_exponent 59 = .ok (.iload 4, 2) := by decide +kernel
theorem d_M_exponent_61 : decode b_M_exponent 61 = .ok (.ireturn, 1) := by decide +kernel
theorem d_M_exponent_62 : decode b_M_exponent 62 = .ok (.aload_n 0, 1) := by decide +kernel
theorem d_M_exponent_63 : decode b_M_exponent 63 = .ok (.iload_n 1, 1) := by decide +kernel
theorem d_M_exponent_64 : decode b_M_exponent 64 = .ok (.invokevirtual 126, 3) := by decide +kernel
theorem d_M_exponent_67 : decode b_M_exponent 67 = .ok (.iinc 4 1, 3) := by decide +kernel
theorem d_M_exponent_70 : decode b_M_exponent 70 = .ok (.goto (-25), 3) := by decide +kernel
theorem d_M_exponent_73 : decode b_M_exponent 73 = .ok (.iconst (-1), 1) := by decide +kernel
theorem d_M_exponent_74 : decode b_M_exponent 74 = .ok (.ireturn, 1) := by decide +kernel
theorem d_M_count_0 : decode b_M_count 0 = .ok (.aload_n 0, 1) := by decide +kernel
theorem d_M_count_1 : decode b_M_count 1 = .ok (.iconst 0, 1) := by decide +kernel
theorem d_M_count_2 : decode b_M_count 2 = .ok (.putfield 37, 3) := by decide +kernel
theorem d_M_count_5 : decode b_M_count 5 = .ok (.iload_n 1, 1) := by decide +kernel
theorem d_M_count_6 : decode b_M_count 6 = .ok (.ifCond .ne 11, 3) := by decide +kernel
theorem d_M_count_9 : decode b_M_count 9 = .ok (.aload_n 0, 1) := by decide +kernel
theorem d_M_count_10 : decode b_M_count 10 = .ok (.getfield 9, 3) := by decide +kernel
theorem d_M_count_13 : decode b_M_count 13 = .ok (.l2i, 1) := by decide +kernel
theorem d_M_count_14 : decode b_M_count 14 = .ok (.goto 42, 3) := by decide +kernel
theorem d_M_count_17 : decode b_M_count 17 = .ok (.iload_n 1, 1) := by decide +kernel
theorem d_M_count_18 : decode b_M_count 18 = .ok (.iconst 1, 1) := by decide +kernel
theorem d_M_count_19 : decode b_M_count 19 = .ok (.if_icmp .ne 11, 3) := by decide +kernel
theorem d_M_count_22 : decode b_M_count 22 = .ok (.aload_n 0, 1) := by decide +kernel
theorem d_M_count_23 : decode b_M_count 23 = .ok (.getfield 17, 3) := by decide +kernel
theorem d_M_count_26 : decode b_M_count 26 = .ok (.l2i, 1) := by decide +kernel
theorem d_M_count_27 : decode b_M_count 27 = .ok (.goto 29, 3) := by decide +kernel
theorem d_M_count_30 : decode b_M_count 30 = .ok (.iload_n 1, 1) := by decide +kernel
theorem d_M_count_31 : decode b_M_count 31 = .ok (.iconst 2, 1) := by decide +kernel
theorem d_M_count_32 : decode b_M_count 32 = .ok (.if_icmp .ne 10, 3) := by decide +kernel
theorem d_M_count_35 : decode b_M_count 35 = .ok (.aload_n 0, 1) := by decide +kernel
theorem d_M_count_36 : decode b_M_count 36 = .ok (.getfield 48, 3) := by decide +kernel
theorem d_M_count_39 : decode b_M_count 39 = .ok (.goto 17, 3) := by decide +kernel
theorem d_M_count_42 : decode b_M_count 42 = .ok (.iload_n 1, 1) := by decide +kernel
theorem d_M_count_43 : decode b_M_count 43 = .ok (.iconst 3, 1) := by decide +kernel
theorem d_M_count_44 : decode b_M_count 44 = .ok (.if_icmp .ne 11, 3) := by decide +kernel
theorem d_M_count_47 : decode b_M_count 47 = .ok (.aload_n 0, 1) := by decide +kernel
theorem d_M_count_48 : decode b_M_count 48 = .ok (.iconst 0, 1) := by decide +kernel
theorem d_M_count_49 : decode b_M_count 49 = .ok (.invokevirtual 139, 3) := by decide +kernel
theorem d_M_count_52 : decode b_M_count 52 = .ok (.goto 4, 3) := by decide +kernel
theorem d_M_count_55 : decode b_M_count 55 = .ok (.iconst (-1), 1) := by decide +kernel
theorem d_M_count_56 : decode b_M_count 56 = .ok (.ireturn, 1) := by decide +kernel
theorem d_M_prime_0 : decode b_M_prime 0 = .ok (.aload_n 0, 1) := by decide +kernel
theorem d_M_prime_1 : decode b_M_prime 1 = .ok (.iload_n 1, 1) := by decide +kernel
theorem d_M_prime_2 : decode b_M_prime 2 = .ok (.i2l, 1) := by decide +kernel
theorem d_M_prime_3 : decode b_M_prime 3 = .ok (.lconst 0, 1) := by decide +kernel
theorem d_M_prime_4 : decode b_M_prime 4 = .ok (.aload_n 0, 1) := by decide +kernel
theorem d_M_prime_5 : decode b_M_prime 5 = .ok (.getfield 48, 3) := by decide +kernel
theorem d_M_prime_8 : decode b_M_prime 8 = .ok (.iconst 1, 1) := by decide +kernel
theorem d_M_prime_9 : decode b_M_prime 9 = .ok (.isub, 1) := by decide +kernel
theorem d_M_prime_10 : decode b_M_prime 10 = .ok (.i2l, 1) := by decide +kernel
theorem d_M_prime_11 : decode b_M_prime 11 = .ok (.invokestatic 63, 3) := by decide +kernel
theorem d_M_prime_14 : decode b_M_prime 14 = .ok (.ifCond .eq 7, 3) := by decide +kernel
theorem d_M_prime_17 : decode b_M_prime 17 = .ok (.iconst 0, 1) := by decide +kernel
theorem d_M_prime_18 : decode b_M_prime 18 = .ok (.goto 4, 3) := by decide +kernel
theorem d_M_prime_21 : decode b_M_prime 21 = .ok (.iconst 1, 1) := by decide +kernel
theorem d_M_prime_22 : decode b_M_prime 22 = .ok (.putfield 37, 3) := by decide +kernel
theorem d_M_prime_25 : decode b_M_prime 25 = .ok (.aload_n 0, 1) := by decide +kernel
theorem d_M_prime_26 : decode b_M_prime 26 = .ok (.getfield 37, 3) := by decide +kernel
theorem d_M_prime_29 : decode b_M_prime 29 = .ok (.ifCond .le 7, 3) := by decide +kernel
theorem d_M_prime_32 : decode b_M_prime 32 = .ok (.iconst 0, 1) := by decide +kernel
theorem d_M_prime_33 : decode b_M_prime 33 = .ok (.goto 10, 3) := by decide +kernel
theorem d_M_prime_36 : decode b_M_prime 36 = .ok (.aload_n 0, 1) := by decide +kernel
theorem d_M_prime_37 : decode b_M_prime 37 = .ok (.getfield 30, 3) := by decide +kernel
theorem d_M_prime_40 : decode b_M_prime 40 = .ok (.iload_n 1, 1) := by decide +kernel
theorem d_M_prime_41 : decode b_M_prime 41 = .ok (.laload, 1) := by decide +kernel
theorem d_M_prime_42 : decode b_M_prime 42 = .ok (.l2i, 1) := by decide +kernel
theorem d_M_prime_43 : decode b_M_prime 43 = .ok (.ireturn, 1) := by decide +kernel
theorem d_M_isSquare_0 : decode b_M_isSquare 0 = .ok (.lconst 0, 1) := by decide +kernel
theorem d_M_isSquare_1 : decode b_M_isSquare 1 = .ok (.lstore 4, 2) := by decide +kernel
theorem d_M_isSquare_3 : decode b_M_isSquare 3 = .ok (.lconst 0, 1) := by decide +kernel
theorem d_M_isSquare_4 : decode b_M_isSquare 4 = .ok (.lstore 6, 2) := by decide +kernel
theorem d_M_isSquare_6 : decode b_M_isSquare 6 = .ok (.lload 6, 2) := by decide +kernel
theorem d_M_isSquare_8 : decode b_M_isSquare 8 = .ok (.lload_n 2, 1) := by decide +kernel
theorem d_M_isSquare_9 : decode b_M_isSquare 9 = .ok (.ldc2_w 53, 3) := by decide +kernel
theorem d_M_isSquare_12 : decode b_M_isSquare 12 = .ok (.ldiv, 1) := by decide +kernel
theorem d_M_isSquare_13 : decode b_M_isSquare 13 = .ok (.lcmp, 1) := by decide +kernel
theorem d_M_isSquare_14 : decode b_M_isSquare 14 = .ok (.ifCond .gt 36, 3) := by decide +kernel
theorem d_M_isSquare_17 : decode b_M_isSquare 17 = .ok (.lload 4, 2) := by decide +kernel
theorem d_M_isSquare_19 : decode b_M_isSquare 19 = .ok (.lload_n 0, 1) := by decide +kernel
theorem d_M_isSquare_20 : decode b_M_isSquare 20 = .ok (.lcmp, 1) := by decide +kernel
theorem d_M_isSquare_21 : decode b_M_isSquare 21 = .ok (.ifCond .ne 5, 3) := by decide +kernel
theorem d_M_isSquare_24 : decode b_M_isSquare 24 = .ok (.iconst 1, 1) := by decide +kernel
theorem d_M_isSquare_25 : decode b_M_isSquare 25 = .ok (.ireturn, 1) := by decide +kernel
theorem d_M_isSquare_26 : decode b_M_isSquare 26 = .ok (.lload 4, 2) := by decide +kernel
theorem d_M_isSquare_28 : decode b_M_isSquare 28 = .ok (.ldc2_w 53, 3) := by decide +kernel
theorem d_M_isSquare_31 : decode b_M_isSquare 31 = .ok (.lload 6, 2) := by decide +kernel
theorem d_M_isSquare_33 : decode b_M_isSquare 33 = .ok (.lmul, 1) := by decide +kernel
theorem d_M_isSquare_34 : decode b_M_isSquare 34 = .ok (.ladd, 1) := by decide +kernel
theorem d_M_isSquare_35 : decode b_M_isSquare 35 = .ok (.lconst 1, 1) := by decide +kernel
theorem d_M_isSquare_36 : decode b_M_isSquare 36 = .ok (.ladd, 1) := by decide +kernel
theorem d_M_isSquare_37 : decode b_M_isSquare 37 = .ok (.lload_n 2, 1) := by decide +kernel
theorem d_M_isSquare_38 : decode b_M_isSquare 38 = .ok (.lrem, 1) := by decide +kernel
theorem d_M_isSquare_39 : decode b_M_isSquare 39 = .ok (.lstore 4, 2) := by decide +kernel
theorem d_M_isSquare_41 : decode b_M_isSquare 41 = .ok (.lload 6, 2) := by decide +kernel
theorem d_M_isSquare_43 : decode b_M_isSquare 43 = .ok (.lconst 1, 1) := by decide +kernel
theorem d_M_isSquare_44 : decode b_M_isSquare 44 = .ok (.ladd, 1) := by decide +kernel
theorem d_M_isSquare_45 : decode b_M_isSquare 45 = .ok (.lstore 6, 2) := by decide +kernel
theorem d_M_isSquare_47 : decode b_M_isSquare 47 = .ok (.goto (-41), 3) := by decide +kernel
theorem d_M_isSquare_50 : decode b_M_isSquare 50 = .ok (.iconst 0, 1) := by decide +kernel
theorem d_M_isSquare_51 : decode b_M_isSquare 51 = .ok (.ireturn, 1) := by decide +kernel
theorem d_M_character_0 : decode b_M_character 0 = .ok (.aload_n 0, 1) := by decide +kernel
theorem d_M_character_1 : decode b_M_character 1 = .ok (.iload_n 1, 1) := by decide +kernel
theorem d_M_character_2 : decode b_M_character 2 = .ok (.invokestatic 122, 3) := by decide +kernel
theorem d_M_character_5 : decode b_M_character 5 = .ok (.ifCond .eq 23, 3) := by decide +kernel
theorem d_M_character_8 : decode b_M_character 8 = .ok (.iload_n 2, 1) := by decide +kernel
theorem d_M_character_9 : decode b_M_character 9 = .ok (.i2l, 1) := by decide +kernel
theorem d_M_character_10 : decode b_M_character 10 = .ok (.lconst 0, 1) := by decide +kernel
theorem d_M_character_11 : decode b_M_character 11 = .ok (.aload_n 0, 1) := by decide +kernel
theorem d_M_character_12 : decode b_M_character 12 = .ok (.getfield 48, 3) := by decide +kernel
theorem d_M_character_15 : decode b_M_character 15 = .ok (.iconst 1, 1) := by decide +kernel
theorem d_M_character_16 : decode b_M_character 16 = .ok (.isub, 1) := by decide +kernel
theorem d_M_character_17 : decode b_M_character 17 = .ok (.i2l, 1) := by decide +kernel
theorem d_M_character_18 : decode b_M_character 18 = .ok (.invokestatic 63, 3) := by decide +kernel
theorem d_M_character_21 : decode b_M_character 21 = .ok (.ifCond .eq 7, 3) := by decide +kernel
theorem d_M_character_24 : decode b_M_character 24 = .ok (.iconst 0, 1) := by decide +kernel
theorem d_M_character_25 : decode b_M_character 25 = .ok (.goto 4, 3) := by decide +kernel
theorem d_M_character_28 : decode b_M_character 28 = .ok (.iconst 1, 1) := by decide +kernel
theorem d_M_character_29 : decode b_M_character 29 = .ok (.putfield 37, 3) := by decide +kernel
theorem d_M_character_32 : decode b_M_character 32 = .ok (.aload_n 0, 1) := by decide +kernel
theorem d_M_character_33 : decode b_M_character 33 = .ok (.getfield 37, 3) := by decide +kernel
theorem d_M_character_36 : decode b_M_character 36 = .ok (.ifCond .le 5, 3) := by decide +kernel
theorem d_M_character_39 : decode b_M_character 39 = .ok (.iconst 0, 1) := by decide +kernel
theorem d_M_character_40 : decode b_M_character 40 = .ok (.ireturn, 1) := by decide +kernel
theorem d_M_character_41 : decode b_M_character 41 = .ok (.aload_n 0, 1) := by decide +kernel
theorem d_M_character_42 : decode b_M_character 42 = .ok (.iload_n 1, 1) := by decide +kernel
theorem d_M_character_43 : decode b_M_character 43 = .ok (.invokevirtual 98, 3) := by decide +kernel
theorem d_M_character_46 : decode b_M_character 46 = .ok (.aload_n 0, 1) := by decide +kernel
theorem d_M_character_47 : decode b_M_character 47 = .ok (.aload_n 0, 1) := by decide +kernel
theorem d_M_character_48 : decode b_M_character 48 = .ok (.getfield 30, 3) := by decide +kernel
theorem d_M_character_51 : decode b_M_character 51 = .ok (.iload_n 2, 1) := by decide +kernel
theorem d_M_character_52 : decode b_M_character 52 = .ok (.laload, 1) := by decide +kernel
theorem d_M_character_53 : decode b_M_character 53 = .ok (.invokevirtual 116, 3) := by decide +kernel
theorem d_M_character_56 : decode b_M_character 56 = .ok (.aload_n 0, 1) := by decide +kernel
theorem d_M_character_57 : decode b_M_character 57 = .ok (.getfield 73, 3) := by decide +kernel
theorem d_M_character_60 : decode b_M_character 60 = .ok (.aload_n 0, 1) := by decide +kernel
theorem d_M_character_61 : decode b_M_character 61 = .ok (.getfield 30, 3) := by decide +kernel
theorem d_M_character_64 : decode b_M_character 64 = .ok (.iload_n 2, 1) := by decide +kernel
theorem d_M_character_65 : decode b_M_character 65 = .ok (.laload, 1) := by decide +kernel
theorem d_M_character_66 : decode b_M_character 66 = .ok (.invokestatic 69, 3) := by decide +kernel
theorem d_M_character_69 : decode b_M_character 69 = .ok (.aload_n 0, 1) := by decide +kernel
theorem d_M_character_70 : decode b_M_character 70 = .ok (.getfield 30, 3) := by decide +kernel
theorem d_M_character_73 : decode b_M_character 73 = .ok (.iload_n 2, 1) := by decide +kernel
theorem d_M_character_74 : decode b_M_character 74 = .ok (.laload, 1) := by decide +kernel
theorem d_M_character_75 : decode b_M_character 75 = .ok (.invokestatic 142, 3) := by decide +kernel
theorem d_M_character_78 : decode b_M_character 78 = .ok (.ifCond .eq 7, 3) := by decide +kernel
theorem d_M_character_81 : decode b_M_character 81 = .ok (.iconst 1, 1) := by decide +kernel
theorem d_M_character_82 : decode b_M_character 82 = .ok (.goto 4, 3) := by decide +kernel
theorem d_M_character_85 : decode b_M_character 85 = .ok (.iconst (-1), 1) := by decide +kernel
theorem d_M_character_86 : decode b_M_character 86 = .ok (.ireturn, 1) := by decide +kernel
