/-! What each instruction is (written by program). -/
theorem d_X_init_0 : decode b_X_init 0 = .ok (.aload_n 0, 1) := by decide +kernel
theorem d_X_init_1 : decode b_X_init 1 = .ok (.invokespecial 1, 3) := by decide +kernel
theorem d_X_init_4 : decode b_X_init 4 = .ok (.aload_n 0, 1) := by decide +kernel
theorem d_X_init_5 : decode b_X_init 5 = .ok (.new 7, 3) := by decide +kernel
theorem d_X_init_8 : decode b_X_init 8 = .ok (.dup, 1) := by decide +kernel
theorem d_X_init_9 : decode b_X_init 9 = .ok (.invokespecial 9, 3) := by decide +kernel
theorem d_X_init_12 : decode b_X_init 12 = .ok (.putfield 10, 3) := by decide +kernel
theorem d_X_init_15 : decode b_X_init 15 = .ok (.aload_n 0, 1) := by decide +kernel
theorem d_X_init_16 : decode b_X_init 16 = .ok (.new 16, 3) := by decide +kernel
theorem d_X_init_19 : decode b_X_init 19 = .ok (.dup, 1) := by decide +kernel
theorem d_X_init_20 : decode b_X_init 20 = .ok (.invokespecial 18, 3) := by decide +kernel
theorem d_X_init_23 : decode b_X_init 23 = .ok (.putfield 19, 3) := by decide +kernel
theorem d_X_init_26 : decode b_X_init 26 = .ok (.aload_n 0, 1) := by decide +kernel
theorem d_X_init_27 : decode b_X_init 27 = .ok (.new 23, 3) := by decide +kernel
theorem d_X_init_30 : decode b_X_init 30 = .ok (.dup, 1) := by decide +kernel
theorem d_X_init_31 : decode b_X_init 31 = .ok (.invokespecial 25, 3) := by decide +kernel
theorem d_X_init_34 : decode b_X_init 34 = .ok (.putfield 26, 3) := by decide +kernel
theorem d_X_init_37 : decode b_X_init 37 = .ok (.aload_n 0, 1) := by decide +kernel
theorem d_X_init_38 : decode b_X_init 38 = .ok (.bipush 8, 2) := by decide +kernel
theorem d_X_init_40 : decode b_X_init 40 = .ok (.anewarray 23, 3) := by decide +kernel
theorem d_X_init_43 : decode b_X_init 43 = .ok (.putfield 30, 3) := by decide +kernel
theorem d_X_init_46 : decode b_X_init 46 = .ok (.iconst 0, 1) := by decide +kernel
theorem d_X_init_47 : decode b_X_init 47 = .ok (.istore_n 1, 1) := by decide +kernel
theorem d_X_init_48 : decode b_X_init 48 = .ok (.iload_n 1, 1) := by decide +kernel
theorem d_X_init_49 : decode b_X_init 49 = .ok (.bipush 8, 2) := by decide +kernel
theorem d_X_init_51 : decode b_X_init 51 = .ok (.if_icmp .ge 22, 3) := by decide +kernel
theorem d_X_init_54 : decode b_X_init 54 = .ok (.aload_n 0, 1) := by decide +kernel
theorem d_X_init_55 : decode b_X_init 55 = .ok (.getfield 30, 3) := by decide +kernel
theorem d_X_init_58 : decode b_X_init 58 = .ok (.iload_n 1, 1) := by decide +kernel
theorem d_X_init_59 : decode b_X_init 59 = .ok (.new 23, 3) := by decide +kernel
theorem d_X_init_62 : decode b_X_init 62 = .ok (.dup, 1) := by decide +kernel
theorem d_X_init_63 : decode b_X_init 63 = .ok (.invokespecial 25, 3) := by decide +kernel
theorem d_X_init_66 : decode b_X_init 66 = .ok (.aastore, 1) := by decide +kernel
theorem d_X_init_67 : decode b_X_init 67 = .ok (.iinc 1 1, 3) := by decide +kernel
theorem d_X_init_70 : decode b_X_init 70 = .ok (.goto (-22), 3) := by decide +kernel
theorem d_X_init_73 : decode b_X_init 73 = .ok (.aload_n 0, 1) := by decide +kernel
theorem d_X_init_74 : decode b_X_init 74 = .ok (.bipush (-4), 2) := by decide +kernel
theorem d_X_init_76 : decode b_X_init 76 = .ok (.invokevirtual 34, 3) := by decide +kernel
theorem d_X_init_79 : decode b_X_init 79 = .ok (.return_, 1) := by decide +kernel
theorem d_X_take_0 : decode b_X_take 0 = .ok (.iload_n 1, 1) := by decide +kernel
theorem d_X_take_1 : decode b_X_take 1 = .ok (.invokestatic 38, 3) := by decide +kernel
theorem d_X_take_4 : decode b_X_take 4 = .ok (.ifCond .ne 13, 3) := by decide +kernel
theorem d_X_take_7 : decode b_X_take 7 = .ok (.new 42, 3) := by decide +kernel
theorem d_X_take_10 : decode b_X_take 10 = .ok (.dup, 1) := by decide +kernel
theorem d_X_take_11 : decode b_X_take 11 = .ok (.ldc 44, 2) := by decide +kernel
theorem d_X_take_13 : decode b_X_take 13 = .ok (.invokespecial 46, 3) := by decide +kernel
theorem d_X_take_16 : decode b_X_take 16 = .ok (.athrow, 1) := by decide +kernel
theorem d_X_take_17 : decode b_X_take 17 = .ok (.aload_n 0, 1) := by decide +kernel
theorem d_X_take_18 : decode b_X_take 18 = .ok (.iload_n 1, 1) := by decide +kernel
theorem d_X_take_19 : decode b_X_take 19 = .ok (.invokevirtual 34, 3) := by decide +kernel
theorem d_X_take_22 : decode b_X_take 22 = .ok (.return_, 1) := by decide +kernel
theorem d_X_put_0 : decode b_X_put 0 = .ok (.aload_n 0, 1) := by decide +kernel
theorem d_X_put_1 : decode b_X_put 1 = .ok (.iload_n 1, 1) := by decide +kernel
theorem d_X_put_2 : decode b_X_put 2 = .ok (.invokevirtual 49, 3) := by decide +kernel
theorem d_X_put_5 : decode b_X_put 5 = .ok (.astore 5, 2) := by decide +kernel
theorem d_X_put_7 : decode b_X_put 7 = .ok (.aload_n 0, 1) := by decide +kernel
theorem d_X_put_8 : decode b_X_put 8 = .ok (.getfield 10, 3) := by decide +kernel
theorem d_X_put_11 : decode b_X_put 11 = .ok (.iload_n 2, 1) := by decide +kernel
theorem d_X_put_12 : decode b_X_put 12 = .ok (.i2l, 1) := by decide +kernel
theorem d_X_put_13 : decode b_X_put 13 = .ok (.iload_n 3, 1) := by decide +kernel
theorem d_X_put_14 : decode b_X_put 14 = .ok (.i2l, 1) := by decide +kernel
theorem d_X_put_15 : decode b_X_put 15 = .ok (.iload 4, 2) := by decide +kernel
theorem d_X_put_17 : decode b_X_put 17 = .ok (.i2l, 1) := by decide +kernel
theorem d_X_put_18 : decode b_X_put 18 = .ok (.invokevirtual 53, 3) := by decide +kernel
theorem d_X_put_21 : decode b_X_put 21 = .ok (.ifCond .ne 13, 3) := by decide +kernel
theorem d_X_put_24 : decode b_X_put 24 = .ok (.new 42, 3) := by decide +kernel
theorem d_X_put_27 : decode b_X_put 27 = .ok (.dup, 1) := by decide +kernel
theorem d_X_put_28 : decode b_X_put 28 = .ok (.ldc 57, 2) := by decide +kernel
theorem d_X_put_30 : decode b_X_put 30 = .ok (.invokespecial 46, 3) := by decide +kernel
theorem d_X_put_33 : decode b_X_put 33 = .ok (.athrow, 1) := by decide +kernel
theorem d_X_put_34 : decode b_X_put 34 = .ok (.aload_n 0, 1) := by decide +kernel
theorem d_X_put_35 : decode b_X_put 35 = .ok (.getfield 26, 3) := by decide +kernel
theorem d_X_put_38 : decode b_X_put 38 = .ok (.iload_n 2, 1) := by decide +kernel
theorem d_X_put_39 : decode b_X_put 39 = .ok (.i2l, 1) := by decide +kernel
theorem d_X_put_40 : decode b_X_put 40 = .ok (.iload_n 3, 1) := by decide +kernel
theorem d_X_put_41 : decode b_X_put 41 = .ok (.i2l, 1) := by decide +kernel
theorem d_X_put_42 : decode b_X_put 42 = .ok (.iload 4, 2) := by decide +kernel
theorem d_X_put_44 : decode b_X_put 44 = .ok (.i2l, 1) := by decide +kernel
theorem d_X_put_45 : decode b_X_put 45 = .ok (.invokevirtual 59, 3) := by decide +kernel
theorem d_X_put_48 : decode b_X_put 48 = .ok (.aload_n 0, 1) := by decide +kernel
theorem d_X_put_49 : decode b_X_put 49 = .ok (.getfield 10, 3) := by decide +kernel
theorem d_X_put_52 : decode b_X_put 52 = .ok (.aload_n 0, 1) := by decide +kernel
theorem d_X_put_53 : decode b_X_put 53 = .ok (.getfield 26, 3) := by decide +kernel
theorem d_X_put_56 : decode b_X_put 56 = .ok (.invokevirtual 63, 3) := by decide +kernel
theorem d_X_put_59 : decode b_X_put 59 = .ok (.aload_n 0, 1) := by decide +kernel
theorem d_X_put_60 : decode b_X_put 60 = .ok (.aload 5, 2) := by decide +kernel
theorem d_X_put_62 : decode b_X_put 62 = .ok (.invokevirtual 67, 3) := by decide +kernel
theorem d_X_put_65 : decode b_X_put 65 = .ok (.return_, 1) := by decide +kernel
theorem d_X_compose_0 : decode b_X_compose 0 = .ok (.aload_n 0, 1) := by decide +kernel
theorem d_X_compose_1 : decode b_X_compose 1 = .ok (.iload_n 1, 1) := by decide +kernel
theorem d_X_compose_2 : decode b_X_compose 2 = .ok (.invokevirtual 49, 3) := by decide +kernel
theorem d_X_compose_5 : decode b_X_compose 5 = .ok (.astore 4, 2) := by decide +kernel
theorem d_X_compose_7 : decode b_X_compose 7 = .ok (.aload_n 0, 1) := by decide +kernel
theorem d_X_compose_8 : decode b_X_compose 8 = .ok (.iload_n 2, 1) := by decide +kernel
theorem d_X_compose_9 : decode b_X_compose 9 = .ok (.invokevirtual 49, 3) := by decide +kernel
theorem d_X_compose_12 : decode b_X_compose 12 = .ok (.astore 5, 2) := by decide +kernel
theorem d_X_compose_14 : decode b_X_compose 14 = .ok (.aload_n 0, 1) := by decide +kernel
theorem d_X_compose_15 : decode b_X_compose 15 = .ok (.iload_n 3, 1) := by decide +kernel
theorem d_X_compose_16 : decode b_X_compose 16 = .ok (.invokevirtual 49, 3) := by decide +kernel
theorem d_X_compose_19 : decode b_X_compose 19 = .ok (.astore 6, 2) := by decide +kernel
theorem d_X_compose_21 : decode b_X_compose 21 = .ok (.aload_n 0, 1) := by decide +kernel
theorem d_X_compose_22 : decode b_X_compose 22 = .ok (.getfield 26, 3) := by decide +kernel
theorem d_X_compose_25 : decode b_X_compose 25 = .ok (.aload 5, 2) := by decide +kernel
theorem d_X_compose_27 : decode b_X_compose 27 = .ok (.invokevirtual 70, 3) := by decide +kernel
theorem d_X_compose_30 : decode b_X_compose 30 = .ok (.aload_n 0, 1) := by decide +kernel
theorem d_X_compose_31 : decode b_X_compose 31 = .ok (.getfield 10, 3) := by decide +kernel
theorem d_X_compose_34 : decode b_X_compose 34 = .ok (.aload_n 0, 1) := by decide +kernel
theorem d_X_compose_35 : decode b_X_compose 35 = .ok (.getfield 26, 3) := by decide +kernel
theorem d_X_compose_38 : decode b_X_compose 38 = .ok (.aload 6, 2) := by decide +kernel
theorem d_X_compose_40 : decode b_X_compose 40 = .ok (.invokevirtual 73, 3) := by decide +kernel
theorem d_X_compose_43 : decode b_X_compose 43 = .ok (.aload_n 0, 1) := by decide +kernel
theorem d_X_compose_44 : decode b_X_compose 44 = .ok (.aload 4, 2) := by decide +kernel
theorem d_X_compose_46 : decode b_X_compose 46 = .ok (.invokevirtual 67, 3) := by decide +kernel
theorem d_X_compose_49 : decode b_X_compose 49 = .ok (.return_, 1) := by decide +kernel
theorem d_X_invert_0 : decode b_X_invert 0 = .ok (.aload_n 0, 1) := by decide +kernel
theorem d_X_invert_1 : decode b_X_invert 1 = .ok (.iload_n 1, 1) := by decide +kernel
theorem d_X_invert_2 : decode b_X_invert 2 = .ok (.invokevirtual 49, 3) := by decide +kernel
theorem d_X_invert_5 : decode b_X_invert 5 = .ok (.astore_n 3, 1) := by decide +kernel
theorem d_X_invert_6 : decode b_X_invert 6 = .ok (.aload_n 0, 1) := by decide +kernel
theorem d_X_invert_7 : decode b_X_invert 7 = .ok (.getfield 26, 3) := by decide +kernel
theorem d_X_invert_10 : decode b_X_invert 10 = .ok (.aload_n 0, 1) := by decide +kernel
theorem d_X_invert_11 : decode b_X_invert 11 = .ok (.iload_n 2, 1) := by decide +kernel
theorem d_X_invert_12 : decode b_X_invert 12 = .ok (.invokevirtual 49, 3) := by decide +kernel
theorem d_X_invert_15 : decode b_X_invert 15 = .ok (.invokevirtual 70, 3) := by decide +kernel
theorem d_X_invert_18 : decode b_X_invert 18 = .ok (.aload_n 0, 1) := by decide +kernel
theorem d_X_invert_19 : decode b_X_invert 19 = .ok (.getfield 10, 3) := by decide +kernel
theorem d_X_invert_22 : decode b_X_invert 22 = .ok (.aload_n 0, 1) := by decide +kernel
theorem d_X_invert_23 : decode b_X_invert 23 = .ok (.getfield 26, 3) := by decide +kernel
theorem d_X_invert_26 : decode b_X_invert 26 = .ok (.invokevirtual 77, 3) := by decide +kernel
theorem d_X_invert_29 : decode b_X_invert 29 = .ok (.aload_n 0, 1) := by decide +kernel
theorem d_X_invert_30 : decode b_X_invert 30 = .ok (.aload_n 3, 1) := by decide +kernel
theorem d_X_invert_31 : decode b_X_invert 31 = .ok (.invokevirtual 67, 3) := by decide +kernel
theorem d_X_invert_34 : decode b_X_invert 34 = .ok (.return_, 1) := by decide +kernel
theorem d_X_power_0 : decode b_X_power 0 = .ok (.aload_n 0, 1) := by decide +kernel
theorem d_X_power_1 : decode b_X_power 1 = .ok (.iload_n 1, 1) := by decide +kernel
theorem d_X_power_2 : decode b_X_power 2 = .ok (.invokevirtual 49, 3) := by decide +kernel
theorem d_X_power_5 : decode b_X_power 5 = .ok (.astore 5, 2) := by decide +kernel
theorem d_X_power_7 : decode b_X_power 7 = .ok (.aload_n 0, 1) := by decide +kernel
theorem d_X_power_8 : decode b_X_power 8 = .ok (.getfield 26, 3) := by decide +kernel
theorem d_X_power_11 : decode b_X_power 11 = .ok (.aload_n 0, 1) := by decide +kernel
theorem d_X_power_12 : decode b_X_power 12 = .ok (.iload_n 2, 1) := by decide +kernel
theorem d_X_power_13 : decode b_X_power 13 = .ok (.invokevirtual 49, 3) := by decide +kernel
theorem d_X_power_16 : decode b_X_power 16 = .ok (.invokevirtual 70, 3) := by decide +kernel
theorem d_X_power_19 : decode b_X_power 19 = .ok (.aload_n 0, 1) := by decide +kernel
theorem d_X_power_20 : decode b_X_power 20 = .ok (.getfield 10, 3) := by decide +kernel
theorem d_X_power_23 : decode b_X_power 23 = .ok (.aload_n 0, 1) := by decide +kernel
theorem d_X_power_24 : decode b_X_power 24 = .ok (.getfield 26, 3) := by decide +kernel
theorem d_X_power_27 : decode b_X_power 27 = .ok (.lload_n 3, 1) := by decide +kernel
theorem d_X_power_28 : decode b_X_power 28 = .ok (.invokevirtual 80, 3) := by decide +kernel
theorem d_X_power_31 : decode b_X_power 31 = .ok (.aload_n 0, 1) := by decide +kernel
theorem d_X_power_32 : decode b_X_power 32 = .ok (.aload 5, 2) := by decide +kernel
theorem d_X_power_34 : decode b_X_power 34 = .ok (.invokevirtual 67, 3) := by decide +kernel
theorem d_X_power_37 : decode b_X_power 37 = .ok (.return_, 1) := by decide +kernel
theorem d_X_form_0 : decode b_X_form 0 = .ok (.aload_n 0, 1) := by decide +kernel
theorem d_X_form_1 : decode b_X_form 1 = .ok (.iload_n 1, 1) := by decide +kernel
theorem d_X_form_2 : decode b_X_form 2 = .ok (.invokevirtual 49, 3) := by decide +kernel
theorem d_X_form_5 : decode b_X_form 5 = .ok (.astore_n 3, 1) := by decide +kernel
theorem d_X_form_6 : decode b_X_form 6 = .ok (.iload_n 2, 1) := by decide +kernel
theorem d_X_form_7 : decode b_X_form 7 = .ok (.tableswitch 43 0 2 #[25, 31, 37], 25) := by decide +kernel
theorem d_X_form_32 : decode b_X_form 32 = .ok (.aload_n 3, 1) := by decide +kernel
theorem d_X_form_33 : decode b_X_form 33 = .ok (.getfield 84, 3) := by decide +kernel
theorem d_X_form_36 : decode b_X_form 36 = .ok (.l2i, 1) := by decide +kernel
theorem d_X_form_37 : decode b_X_form 37 = .ok (.ireturn, 1) := by decide +kernel
theorem d_X_form_38 : decode b_X_form 38 = .ok (.aload_n 3, 1) := by decide +kernel
theorem d_X_form_39 : decode b_X_form 39 = .ok (.getfield 88, 3) := by decide +kernel
theorem d_X_form_42 : decode b_X_form 42 = .ok (.l2i, 1) := by decide +kernel
theorem d_X_form_43 : decode b_X_form 43 = .ok (.ireturn, 1) := by decide +kernel
theorem d_X_form_44 : decode b_X_form 44 = .ok (.aload_n 3, 1) := by decide +kernel
theorem d_X_form_45 : decode b_X_form 45 = .ok (.getfield 91, 3) := by decide +kernel
theorem d_X_form_48 : decode b_X_form 48 = .ok (.l2i, 1) := by decide +kernel
theorem d_X_form_49 : decode b_X_form 49 = .ok (.ireturn, 1) := by decide +kernel
theorem d_X_form_50 : decode b_X_form 50 = .ok (.new 94, 3) := by decide +kernel
theorem d_X_form_53 : decode b_X_form 53 = .ok (.dup, 1) := by decide +kernel
theorem d_X_form_54 : decode b_X_form 54 = .ok (.ldc 96, 2) := by decide +kernel
theorem d_X_form_56 : decode b_X_form 56 = .ok (.invokespecial 98, 3) := by decide +kernel
theorem d_X_form_59 : decode b_X_form 59 = .ok (.athrow, 1) := by decide +kernel
theorem d_X_same_0 : decode b_X_same 0 = .ok (.aload_n 0, 1) := by decide +kernel
theorem d_X_same_1 : decode b_X_same 1 = .ok (.iload_n 1, 1) := by decide +kernel
theorem d_X_same_2 : decode b_X_same 2 = .ok (.invokevirtual 49, 3) := by decide +kernel
theorem d_X_same_5 : decode b_X_same 5 = .ok (.astore_n 3, 1) := by decide +kernel
theorem d_X_same_6 : decode b_X_same 6 = .ok (.aload_n 3, 1) := by decide +kernel
theorem d_X_same_7 : decode b_X_same 7 = .ok (.aload_n 0, 1) := by decide +kernel
theorem d_X_same_8 : decode b_X_same 8 = .ok (.iload_n 2, 1) := by decide +kernel
theorem d_X_same_9 : decode b_X_same 9 = .ok (.invokevirtual 49, 3) := by decide +kernel
theorem d_X_same_12 : decode b_X_same 12 = .ok (.invokevirtual 99, 3) := by decide +kernel
theorem d_X_same_15 : decode b_X_same 15 = .ok (.ireturn, 1) := by decide +kernel
theorem d_X_order_0 : decode b_X_order 0 = .ok (.aload_n 0, 1) := by decide +kernel
theorem d_X_order_1 : decode b_X_order 1 = .ok (.getfield 10, 3) := by decide +kernel
theorem d_X_order_4 : decode b_X_order 4 = .ok (.aload_n 0, 1) := by decide +kernel
theorem d_X_order_5 : decode b_X_order 5 = .ok (.iload_n 1, 1) := by decide +kernel
theorem d_X_order_6 : decode b_X_order 6 = .ok (.invokevirtual 49, 3) := by decide +kernel
theorem d_X_order_9 : decode b_X_order 9 = .ok (.invokevirtual 103, 3) := by decide +kernel
theorem d_X_order_12 : decode b_X_order 12 = .ok (.ireturn, 1) := by decide +kernel
theorem d_X_exponent_0 : decode b_X_exponent 0 = .ok (.aload_n 0, 1) := by decide +kernel
theorem d_X_exponent_1 : decode b_X_exponent 1 = .ok (.iload_n 1, 1) := by decide +kernel
theorem d_X_exponent_2 : decode b_X_exponent 2 = .ok (.invokevirtual 49, 3) := by decide +kernel
theorem d_X_exponent_5 : decode b_X_exponent 5 = .ok (.astore_n 3, 1) := by decide +kernel
theorem d_X_exponent_6 : decode b_X_exponent 6 = .ok (.aload_n 0, 1) := by decide +kernel
theorem d_X_exponent_7 : decode b_X_exponent 7 = .ok (.getfield 10, 3) := by decide +kernel
theorem d_X_exponent_10 : decode b_X_exponent 10 = .ok (.aload_n 3, 1) := by decide +kernel
theorem d_X_exponent_11 : decode b_X_exponent 11 = .ok (.aload_n 0, 1) := by decide +kernel
theorem d_X_exponent_12 : decode b_X_exponent 12 = .ok (.iload_n 2, 1) := by decide +kernel
theorem d_X_exponent_13 : decode b_X_exponent 13 = .ok (.invokevirtual 49, 3) := by decide +kernel
theorem d_X_exponent_16 : decode b_X_exponent 16 = .ok (.invokevirtual 107, 3) := by decide +kernel
theorem d_X_exponent_19 : decode b_X_exponent 19 = .ok (.ireturn, 1) := by decide +kernel
theorem d_X_count_0 : decode b_X_count 0 = .ok (.iload_n 1, 1) := by decide +kernel
theorem d_X_count_1 : decode b_X_count 1 = .ok (.tableswitch 80 0 3 #[31, 39, 47, 55], 31) := by decide +kernel
theorem d_X_count_32 : decode b_X_count 32 = .ok (.aload_n 0, 1) := by decide +kernel
theorem d_X_count_33 : decode b_X_count 33 = .ok (.getfield 10, 3) := by decide +kernel
theorem d_X_count_36 : decode b_X_count 36 = .ok (.getfield 111, 3) := by decide +kernel
theorem d_X_count_39 : decode b_X_count 39 = .ok (.ireturn, 1) := by decide +kernel
theorem d_X_count_40 : decode b_X_count 40 = .ok (.aload_n 0, 1) := by decide +kernel
theorem d_X_count_41 : decode b_X_count 41 = .ok (.getfield 10, 3) := by decide +kernel
theorem d_X_count_44 : decode b_X_count 44 = .ok (.getfield 115, 3) := by decide +kernel
theorem d_X_count_47 : decode b_X_count 47 = .ok (.ireturn, 1) := by decide +kernel
theorem d_X_count_48 : decode b_X_count 48 = .ok (.aload_n 0, 1) := by decide +kernel
theorem d_X_count_49 : decode b_X_count 49 = .ok (.getfield 19, 3) := by decide +kernel
theorem d_X_count_52 : decode b_X_count 52 = .ok (.getfield 118, 3) := by decide +kernel
theorem d_X_count_55 : decode b_X_count 55 = .ok (.ireturn, 1) := by decide +kernel
theorem d_X_count_56 : decode b_X_count 56 = .ok (.aload_n 0, 1) := by decide +kernel
theorem d_X_count_57 : decode b_X_count 57 = .ok (.getfield 26, 3) := by decide +kernel
theorem d_X_count_60 : decode b_X_count 60 = .ok (.aload_n 0, 1) := by decide +kernel
theorem d_X_count_61 : decode b_X_count 61 = .ok (.getfield 30, 3) := by decide +kernel
theorem d_X_count_64 : decode b_X_count 64 = .ok (.iconst 0, 1) := by decide +kernel
theorem d_X_count_65 : decode b_X_count 65 = .ok (.aaload, 1) := by decide +kernel
theorem d_X_count_66 : decode b_X_count 66 = .ok (.invokevirtual 70, 3) := by decide +kernel
theorem d_X_count_69 : decode b_X_count 69 = .ok (.aload_n 0, 1) := by decide +kernel
theorem d_X_count_70 : decode b_X_count 70 = .ok (.getfield 10, 3) := by decide +kernel
theorem d_X_count_73 : decode b_X_count 73 = .ok (.aload_n 0, 1) := by decide +kernel
theorem d_X_count_74 : decode b_X_count 74 = .ok (.getfield 26, 3) := by decide +kernel
theorem d_X_count_77 : decode b_X_count 77 = .ok (.invokevirtual 121, 3) := by decide +kernel
theorem d_X_count_80 : decode b_X_count 80 = .ok (.ireturn, 1) := by decide +kernel
theorem d_X_count_81 : decode b_X_count 81 = .ok (.iconst (-1), 1) := by decide +kernel
theorem d_X_count_82 : decode b_X_count 82 = .ok (.ireturn, 1) := by decide +kernel
theorem d_X_prime_0 : decode b_X_prime 0 = .ok (.aload_n 0, 1) := by decide +kernel
theorem d_X_prime_1 : decode b_X_prime 1 = .ok (.getfield 19, 3) := by decide +kernel
theorem d_X_prime_4 : decode b_X_prime 4 = .ok (.iload_n 1, 1) := by decide +kernel
theorem d_X_prime_5 : decode b_X_prime 5 = .ok (.invokevirtual 124, 3) := by decide +kernel
theorem d_X_prime_8 : decode b_X_prime 8 = .ok (.ifCond .ne 13, 3) := by decide +kernel
theorem d_X_prime_11 : decode b_X_prime 11 = .ok (.new 94, 3) := by decide +kernel
theorem d_X_prime_14 : decode b_X_prime 14 = .ok (.dup, 1) := by decide +kernel
theorem d_X_prime_15 : decode b_X_prime 15 = .ok (.ldc 127, 2) := by decide +kernel
theorem d_X_prime_17 : decode b_X_prime 17 = .ok (.invokespecial 98, 3) := by decide +kernel
theorem d_X_prime_20 : decode b_X_prime 20 = .ok (.athrow, 1) := by decide +kernel
theorem d_X_prime_21 : decode b_X_prime 21 = .ok (.aload_n 0, 1) := by decide +kernel
theorem d_X_prime_22 : decode b_X_prime 22 = .ok (.getfield 19, 3) := by decide +kernel
theorem d_X_prime_25 : decode b_X_prime 25 = .ok (.iload_n 1, 1) := by decide +kernel
theorem d_X_prime_26 : decode b_X_prime 26 = .ok (.invokevirtual 129, 3) := by decide +kernel
theorem d_X_prime_29 : decode b_X_prime 29 = .ok (.ireturn, 1) := by decide +kernel
theorem d_X_character_0 : decode b_X_character 0 = .ok (.aload_n 0, 1) := by decide +kernel
theorem d_X_character_1 : decode b_X_character 1 = .ok (.iload_n 1, 1) := by decide +kernel
theorem d_X_character_2 : decode b_X_character 2 = .ok (.invokevirtual 49, 3) := by decide +kernel
theorem d_X_character_5 : decode b_X_character 5 = .ok (.astore_n 3, 1) := by decide +kernel
theorem d_X_character_6 : decode b_X_character 6 = .ok (.aload_n 0, 1) := by decide +kernel
theorem d_X_character_7 : decode b_X_character 7 = .ok (.getfield 19, 3) := by decide +kernel
theorem d_X_character_10 : decode b_X_character 10 = .ok (.iload_n 2, 1) := by decide +kernel
theorem d_X_character_11 : decode b_X_character 11 = .ok (.invokevirtual 124, 3) := by decide +kernel
theorem d_X_character_14 : decode b_X_character 14 = .ok (.ifCond .ne 13, 3) := by decide +kernel
theorem d_X_character_17 : decode b_X_character 17 = .ok (.new 94, 3) := by decide +kernel
theorem d_X_character_20 : decode b_X_character 20 = .ok (.dup, 1) := by decide +kernel
theorem d_X_character_21 : decode b_X_character 21 = .ok (.ldc 127, 2) := by decide +kernel
theorem d_X_character_23 : decode b_X_character 23 = .ok (.invokespecial 98, 3) := by decide +kernel
theorem d_X_character_26 : decode b_X_character 26 = .ok (.athrow, 1) := by decide +kernel
theorem d_X_character_27 : decode b_X_character 27 = .ok (.aload_n 0, 1) := by decide +kernel
theorem d_X_character_28 : decode b_X_character 28 = .ok (.getfield 19, 3) := by decide +kernel
theorem d_X_character_31 : decode b_X_character 31 = .ok (.iload_n 2, 1) := by decide +kernel
theorem d_X_character_32 : decode b_X_character 32 = .ok (.invokevirtual 129, 3) := by decide +kernel
theorem d_X_character_35 : decode b_X_character 35 = .ok (.istore 4, 2) := by decide +kernel
theorem d_X_character_37 : decode b_X_character 37 = .ok (.aload_n 3, 1) := by decide +kernel
theorem d_X_character_38 : decode b_X_character 38 = .ok (.getfield 84, 3) := by decide +kernel
theorem d_X_character_41 : decode b_X_character 41 = .ok (.iload 4, 2) := by decide +kernel
theorem d_X_character_43 : decode b_X_character 43 = .ok (.i2l, 1) := by decide +kernel
theorem d_X_character_44 : decode b_X_character 44 = .ok (.invokestatic 133, 3) := by decide +kernel
theorem d_X_character_47 : decode b_X_character 47 = .ok (.lconst 0, 1) := by decide +kernel
theorem d_X_character_48 : decode b_X_character 48 = .ok (.lcmp, 1) := by decide +kernel
theorem d_X_character_49 : decode b_X_character 49 = .ok (.ifCond .eq 10, 3) := by decide +kernel
theorem d_X_character_52 : decode b_X_character 52 = .ok (.aload_n 3, 1) := by decide +kernel
theorem d_X_character_53 : decode b_X_character 53 = .ok (.getfield 84, 3) := by decide +kernel
theorem d_X_character_56 : decode b_X_character 56 = .ok (.goto 7, 3) := by decide +kernel
theorem d_X_character_59 : decode b_X_character 59 = .ok (.aload_n 3, 1) := by decide +kernel
theorem d_X_character_60 : decode b_X_character 60 = .ok (.getfield 91, 3) := by decide +kernel
theorem d_X_character_63 : decode b_X_character 63 = .ok (.lstore 5, 2) := by decide +kernel
theorem d_X_character_65 : decode b_X_character 65 = .ok (.lload 5, 2) := by decide +kernel
theorem d_X_character_67 : decode b_X_character 67 = .ok (.iload 4, 2) := by decide +kernel
theorem d_X_character_69 : decode b_X_character 69 = .ok (.invokestatic 137, 3) := by decide +kernel
theorem d_X_character_72 : decode b_X_character 72 = .ok (.ifCond .eq 7, 3) := by decide +kernel
theorem d_X_character_75 : decode b_X_character 75 = .ok (.iconst 1, 1) := by decide +kernel
theorem d_X_character_76 : decode b_X_character 76 = .ok (.goto 4, 3) := by decide +kernel
theorem d_X_character_79 : decode b_X_character 79 = .ok (.iconst (-1), 1) := by decide +kernel
theorem d_X_character_80 : decode b_X_character 80 = .ok (.ireturn, 1) := by decide +kernel
theorem d_X_begin_0 : decode b_X_begin 0 = .ok (.aload_n 0, 1) := by decide +kernel
theorem d_X_begin_1 : decode b_X_begin 1 = .ok (.getfield 10, 3) := by decide +kernel
theorem d_X_begin_4 : decode b_X_begin 4 = .ok (.iload_n 1, 1) := by decide +kernel
theorem d_X_begin_5 : decode b_X_begin 5 = .ok (.invokevirtual 141, 3) := by decide +kernel
theorem d_X_begin_8 : decode b_X_begin 8 = .ok (.aload_n 0, 1) := by decide +kernel
theorem d_X_begin_9 : decode b_X_begin 9 = .ok (.getfield 19, 3) := by decide +kernel
theorem d_X_begin_12 : decode b_X_begin 12 = .ok (.iload_n 1, 1) := by decide +kernel
theorem d_X_begin_13 : decode b_X_begin 13 = .ok (.invokevirtual 144, 3) := by decide +kernel
theorem d_X_begin_16 : decode b_X_begin 16 = .ok (.iconst 0, 1) := by decide +kernel
theorem d_X_begin_17 : decode b_X_begin 17 = .ok (.istore_n 2, 1) := by decide +kernel
theorem d_X_begin_18 : decode b_X_begin 18 = .ok (.iload_n 2, 1) := by decide +kernel
theorem d_X_begin_19 : decode b_X_begin 19 = .ok (.bipush 8, 2) := by decide +kernel
theorem d_X_begin_21 : decode b_X_begin 21 = .ok (.if_icmp .ge 25, 3) := by decide +kernel
theorem d_X_begin_24 : decode b_X_begin 24 = .ok (.aload_n 0, 1) := by decide +kernel
theorem d_X_begin_25 : decode b_X_begin 25 = .ok (.getfield 30, 3) := by decide +kernel
theorem d_X_begin_28 : decode b_X_begin 28 = .ok (.iload_n 2, 1) := by decide +kernel
theorem d_X_begin_29 : decode b_X_begin 29 = .ok (.aaload, 1) := by decide +kernel
theorem d_X_begin_30 : decode b_X_begin 30 = .ok (.aload_n 0, 1) := by decide +kernel
theorem d_X_begin_31 : decode b_X_begin 31 = .ok (.getfield 10, 3) := by decide +kernel
theorem d_X_begin_34 : decode b_X_begin 34 = .ok (.getfield 147, 3) := by decide +kernel
theorem d_X_begin_37 : decode b_X_begin 37 = .ok (.invokevirtual 70, 3) := by decide +kernel
theorem d_X_begin_40 : decode b_X_begin 40 = .ok (.iinc 2 1, 3) := by decide +kernel
theorem d_X_begin_43 : decode b_X_begin 43 = .ok (.goto (-25), 3) := by decide +kernel
theorem d_X_begin_46 : decode b_X_begin 46 = .ok (.return_, 1) := by decide +kernel
theorem d_X_held_0 : decode b_X_held 0 = .ok (.iload_n 1, 1) := by decide +kernel
theorem d_X_held_1 : decode b_X_held 1 = .ok (.ifCond .lt 9, 3) := by decide +kernel
theorem d_X_held_4 : decode b_X_held 4 = .ok (.iload_n 1, 1) := by decide +kernel
theorem d_X_held_5 : decode b_X_held 5 = .ok (.bipush 8, 2) := by decide +kernel
theorem d_X_held_7 : decode b_X_held 7 = .ok (.if_icmp .lt 13, 3) := by decide +kernel
theorem d_X_held_10 : decode b_X_held 10 = .ok (.new 94, 3) := by decide +kernel
theorem d_X_held_13 : decode b_X_held 13 = .ok (.dup, 1) := by decide +kernel
theorem d_X_held_14 : decode b_X_held 14 = .ok (.ldc 150, 2) := by decide +kernel
theorem d_X_held_16 : decode b_X_held 16 = .ok (.invokespecial 98, 3) := by decide +kernel
theorem d_X_held_19 : decode b_X_held 19 = .ok (.athrow, 1) := by decide +kernel
theorem d_X_held_20 : decode b_X_held 20 = .ok (.aload_n 0, 1) := by decide +kernel
theorem d_X_held_21 : decode b_X_held 21 = .ok (.getfield 30, 3) := by decide +kernel
theorem d_X_held_24 : decode b_X_held 24 = .ok (.iload_n 1, 1) := by decide +kernel
theorem d_X_held_25 : decode b_X_held 25 = .ok (.aaload, 1) := by decide +kernel
theorem d_X_held_26 : decode b_X_held 26 = .ok (.areturn, 1) := by decide +kernel
theorem d_X_storeName_0 : decode b_X_storeName 0 = .ok (.aload_n 0, 1) := by decide +kernel
theorem d_X_storeName_1 : decode b_X_storeName 1 = .ok (.getfield 10, 3) := by decide +kernel
theorem d_X_storeName_4 : decode b_X_storeName 4 = .ok (.aload_n 0, 1) := by decide +kernel
theorem d_X_storeName_5 : decode b_X_storeName 5 = .ok (.getfield 26, 3) := by decide +kernel
theorem d_X_storeName_8 : decode b_X_storeName 8 = .ok (.invokevirtual 121, 3) := by decide +kernel
theorem d_X_storeName_11 : decode b_X_storeName 11 = .ok (.pop, 1) := by decide +kernel
theorem d_X_storeName_12 : decode b_X_storeName 12 = .ok (.aload_n 1, 1) := by decide +kernel
theorem d_X_storeName_13 : decode b_X_storeName 13 = .ok (.aload_n 0, 1) := by decide +kernel
theorem d_X_storeName_14 : decode b_X_storeName 14 = .ok (.getfield 26, 3) := by decide +kernel
theorem d_X_storeName_17 : decode b_X_storeName 17 = .ok (.invokevirtual 70, 3) := by decide +kernel
theorem d_X_storeName_20 : decode b_X_storeName 20 = .ok (.return_, 1) := by decide +kernel
theorem d_X_isDiscriminant_0 : decode b_X_isDiscriminant 0 = .ok (.iload_n 0, 1) := by decide +kernel
theorem d_X_isDiscriminant_1 : decode b_X_isDiscriminant 1 = .ok (.ldc 152, 2) := by decide +kernel
theorem d_X_isDiscriminant_3 : decode b_X_isDiscriminant 3 = .ok (.if_icmp .lt 18, 3) := by decide +kernel
theorem d_X_isDiscriminant_6 : decode b_X_isDiscriminant 6 = .ok (.iload_n 0, 1) := by decide +kernel
theorem d_X_isDiscriminant_7 : decode b_X_isDiscriminant 7 = .ok (.ldc 153, 2) := by decide +kernel
theorem d_X_isDiscriminant_9 : decode b_X_isDiscriminant 9 = .ok (.if_icmp .gt 12, 3) := by decide +kernel
theorem d_X_isDiscriminant_12 : decode b_X_isDiscriminant 12 = .ok (.iload_n 0, 1) := by decide +kernel
theorem d_X_isDiscriminant_13 : decode b_X_isDiscriminant 13 = .ok (.iconst 4, 1) := by decide +kernel
theorem d_X_isDiscriminant_14 : decode b_X_isDiscriminant 14 = .ok (.invokestatic 154, 3) := by decide +kernel
theorem d_X_isDiscriminant_17 : decode b_X_isDiscriminant 17 = .ok (.iconst 1, 1) := by decide +kernel
theorem d_X_isDiscriminant_18 : decode b_X_isDiscriminant 18 = .ok (.if_icmp .le 5, 3) := by decide +kernel
theorem d_X_isDiscriminant_21 : decode b_X_isDiscriminant 21 = .ok (.iconst 0, 1) := by decide +kernel
theorem d_X_isDiscriminant_22 : decode b_X_isDiscriminant 22 = .ok (.ireturn, 1) := by decide +kernel
theorem d_X_isDiscriminant_23 : decode b_X_isDiscriminant 23 = .ok (.iload_n 0, 1) := by decide +kernel
theorem d_X_isDiscriminant_24 : decode b_X_isDiscriminant 24 = .ok (.invokestatic 160, 3) := by decide +kernel
theorem d_X_isDiscriminant_27 : decode b_X_isDiscriminant 27 = .ok (.istore_n 1, 1) := by decide +kernel
theorem d_X_isDiscriminant_28 : decode b_X_isDiscriminant 28 = .ok (.iload_n 1, 1) := by decide +kernel
theorem d_X_isDiscriminant_29 : decode b_X_isDiscriminant 29 = .ok (.ifCond .lt 10, 3) := by decide +kernel
theorem d_X_isDiscriminant_32 : decode b_X_isDiscriminant 32 = .ok (.iload_n 1, 1) := by decide +kernel
theorem d_X_isDiscriminant_33 : decode b_X_isDiscriminant 33 = .ok (.iload_n 1, 1) := by decide +kernel
theorem d_X_isDiscriminant_34 : decode b_X_isDiscriminant 34 = .ok (.imul, 1) := by decide +kernel
theorem d_X_isDiscriminant_35 : decode b_X_isDiscriminant 35 = .ok (.iload_n 0, 1) := by decide +kernel
theorem d_X_isDiscriminant_36 : decode b_X_isDiscriminant 36 = .ok (.if_icmp .eq 7, 3) := by decide +kernel
theorem d_X_isDiscriminant_39 : decode b_X_isDiscriminant 39 = .ok (.iconst 1, 1) := by decide +kernel
theorem d_X_isDiscriminant_40 : decode b_X_isDiscriminant 40 = .ok (.goto 4, 3) := by decide +kernel
theorem d_X_isDiscriminant_43 : decode b_X_isDiscriminant 43 = .ok (.iconst 0, 1) := by decide +kernel
theorem d_X_isDiscriminant_44 : decode b_X_isDiscriminant 44 = .ok (.ireturn, 1) := by decide +kernel
theorem d_X_wholeRoot_0 : decode b_X_wholeRoot 0 = .ok (.iload_n 0, 1) := by decide +kernel
theorem d_X_wholeRoot_1 : decode b_X_wholeRoot 1 = .ok (.ifCond .ge 5, 3) := by decide +kernel
theorem d_X_wholeRoot_4 : decode b_X_wholeRoot 4 = .ok (.iconst (-1), 1) := by decide +kernel
theorem d_X_wholeRoot_5 : decode b_X_wholeRoot 5 = .ok (.ireturn, 1) := by decide +kernel
theorem d_X_wholeRoot_6 : decode b_X_wholeRoot 6 = .ok (.iconst 0, 1) := by decide +kernel
theorem d_X_wholeRoot_7 : decode b_X_wholeRoot 7 = .ok (.istore_n 1, 1) := by decide +kernel
theorem d_X_wholeRoot_8 : decode b_X_wholeRoot 8 = .ok (.iload_n 1, 1) := by decide +kernel
theorem d_X_wholeRoot_9 : decode b_X_wholeRoot 9 = .ok (.sipush 1024, 3) := by decide +kernel
theorem d_X_wholeRoot_12 : decode b_X_wholeRoot 12 = .ok (.if_icmp .ge 20, 3) := by decide +kernel
theorem d_X_wholeRoot_15 : decode b_X_wholeRoot 15 = .ok (.iload_n 1, 1) := by decide +kernel
theorem d_X_wholeRoot_16 : decode b_X_wholeRoot 16 = .ok (.iconst 1, 1) := by decide +kernel
theorem d_X_wholeRoot_17 : decode b_X_wholeRoot 17 = .ok (.iadd, 1) := by decide +kernel
theorem d_X_wholeRoot_18 : decode b_X_wholeRoot 18 = .ok (.iload_n 1, 1) := by decide +kernel
theorem d_X_wholeRoot_19 : decode b_X_wholeRoot 19 = .ok (.iconst 1, 1) := by decide +kernel
theorem d_X_wholeRoot_20 : decode b_X_wholeRoot 20 = .ok (.iadd, 1) := by decide +kernel
theorem d_X_wholeRoot_21 : decode b_X_wholeRoot 21 = .ok (.imul, 1) := by decide +kernel
theorem d_X_wholeRoot_22 : decode b_X_wholeRoot 22 = .ok (.iload_n 0, 1) := by decide +kernel
theorem d_X_wholeRoot_23 : decode b_X_wholeRoot 23 = .ok (.if_icmp .gt 9, 3) := by decide +kernel
theorem d_X_wholeRoot_26 : decode b_X_wholeRoot 26 = .ok (.iinc 1 1, 3) := by decide +kernel
theorem d_X_wholeRoot_29 : decode b_X_wholeRoot 29 = .ok (.goto (-21), 3) := by decide +kernel
theorem d_X_wholeRoot_32 : decode b_X_wholeRoot 32 = .ok (.iload_n 1, 1) := by decide +kernel
theorem d_X_wholeRoot_33 : decode b_X_wholeRoot 33 = .ok (.ireturn, 1) := by decide +kernel
theorem d_X_isLikeSquare_0 : decode b_X_isLikeSquare 0 = .ok (.lload_n 0, 1) := by decide +kernel
theorem d_X_isLikeSquare_1 : decode b_X_isLikeSquare 1 = .ok (.iload_n 2, 1) := by decide +kernel
theorem d_X_isLikeSquare_2 : decode b_X_isLikeSquare 2 = .ok (.i2l, 1) := by decide +kernel
theorem d_X_isLikeSquare_3 : decode b_X_isLikeSquare 3 = .ok (.invokestatic 133, 3) := by decide +kernel
theorem d_X_isLikeSquare_6 : decode b_X_isLikeSquare 6 = .ok (.lstore_n 3, 1) := by decide +kernel
theorem d_X_isLikeSquare_7 : decode b_X_isLikeSquare 7 = .ok (.lconst 1, 1) := by decide +kernel
theorem d_X_isLikeSquare_8 : decode b_X_isLikeSquare 8 = .ok (.lstore 5, 2) := by decide +kernel
theorem d_X_isLikeSquare_10 : decode b_X_isLikeSquare 10 = .ok (.iload_n 2, 1) := by decide +kernel
theorem d_X_isLikeSquare_11 : decode b_X_isLikeSquare 11 = .ok (.iconst 1, 1) := by decide +kernel
theorem d_X_isLikeSquare_12 : decode b_X_isLikeSquare 12 = .ok (.isub, 1) := by decide +kernel
theorem d_X_isLikeSquare_13 : decode b_X_isLikeSquare 13 = .ok (.iconst 2, 1) := by decide +kernel
theorem d_X_isLikeSquare_14 : decode b_X_isLikeSquare 14 = .ok (.idiv, 1) := by decide +kernel
theorem d_X_isLikeSquare_15 : decode b_X_isLikeSquare 15 = .ok (.istore 7, 2) := by decide +kernel
theorem d_X_isLikeSquare_17 : decode b_X_isLikeSquare 17 = .ok (.iconst 0, 1) := by decide +kernel
theorem d_X_isLikeSquare_18 : decode b_X_isLikeSquare 18 = .ok (.istore 8, 2) := by decide +kernel
theorem d_X_isLikeSquare_20 : decode b_X_isLikeSquare 20 = .ok (.iload 8, 2) := by decide +kernel
theorem d_X_isLikeSquare_22 : decode b_X_isLikeSquare 22 = .ok (.bipush 64, 2) := by decide +kernel
theorem d_X_isLikeSquare_24 : decode b_X_isLikeSquare 24 = .ok (.if_icmp .ge 48, 3) := by decide +kernel
theorem d_X_isLikeSquare_27 : decode b_X_isLikeSquare 27 = .ok (.iload 7, 2) := by decide +kernel
theorem d_X_isLikeSquare_29 : decode b_X_isLikeSquare 29 = .ok (.ifCond .le 43, 3) := by decide +kernel
theorem d_X_isLikeSquare_32 : decode b_X_isLikeSquare 32 = .ok (.iload 7, 2) := by decide +kernel
theorem d_X_isLikeSquare_34 : decode b_X_isLikeSquare 34 = .ok (.iconst 1, 1) := by decide +kernel
theorem d_X_isLikeSquare_35 : decode b_X_isLikeSquare 35 = .ok (.iand, 1) := by decide +kernel
theorem d_X_isLikeSquare_36 : decode b_X_isLikeSquare 36 = .ok (.iconst 1, 1) := by decide +kernel
theorem d_X_isLikeSquare_37 : decode b_X_isLikeSquare 37 = .ok (.if_icmp .ne 14, 3) := by decide +kernel
theorem d_X_isLikeSquare_40 : decode b_X_isLikeSquare 40 = .ok (.lload 5, 2) := by decide +kernel
theorem d_X_isLikeSquare_42 : decode b_X_isLikeSquare 42 = .ok (.lload_n 3, 1) := by decide +kernel
theorem d_X_isLikeSquare_43 : decode b_X_isLikeSquare 43 = .ok (.lmul, 1) := by decide +kernel
theorem d_X_isLikeSquare_44 : decode b_X_isLikeSquare 44 = .ok (.iload_n 2, 1) := by decide +kernel
theorem d_X_isLikeSquare_45 : decode b_X_isLikeSquare 45 = .ok (.i2l, 1) := by decide +kernel
theorem d_X_isLikeSquare_46 : decode b_X_isLikeSquare 46 = .ok (.invokestatic 133, 3) := by decide +kernel
theorem d_X_isLikeSquare_49 : decode b_X_isLikeSquare 49 = .ok (.lstore 5, 2) := by decide +kernel
theorem d_X_isLikeSquare_51 : decode b_X_isLikeSquare 51 = .ok (.lload_n 3, 1) := by decide +kernel
theorem d_X_isLikeSquare_52 : decode b_X_isLikeSquare 52 = .ok (.lload_n 3, 1) := by decide +kernel
theorem d_X_isLikeSquare_53 : decode b_X_isLikeSquare 53 = .ok (.lmul, 1) := by decide +kernel
theorem d_X_isLikeSquare_54 : decode b_X_isLikeSquare 54 = .ok (.iload_n 2, 1) := by decide +kernel
theorem d_X_isLikeSquare_55 : decode b_X_isLikeSquare 55 = .ok (.i2l, 1) := by decide +kernel
theorem d_X_isLikeSquare_56 : decode b_X_isLikeSquare 56 = .ok (.invokestatic 133, 3) := by decide +kernel
theorem d_X_isLikeSquare_59 : decode b_X_isLikeSquare 59 = .ok (.lstore_n 3, 1) := by decide +kernel
theorem d_X_isLikeSquare_60 : decode b_X_isLikeSquare 60 = .ok (.iload 7, 2) := by decide +kernel
theorem d_X_isLikeSquare_62 : decode b_X_isLikeSquare 62 = .ok (.iconst 1, 1) := by decide +kernel
theorem d_X_isLikeSquare_63 : decode b_X_isLikeSquare 63 = .ok (.ishr, 1) := by decide +kernel
theorem d_X_isLikeSquare_64 : decode b_X_isLikeSquare 64 = .ok (.istore 7, 2) := by decide +kernel
theorem d_X_isLikeSquare_66 : decode b_X_isLikeSquare 66 = .ok (.iinc 8 1, 3) := by decide +kernel
theorem d_X_isLikeSquare_69 : decode b_X_isLikeSquare 69 = .ok (.goto (-49), 3) := by decide +kernel
theorem d_X_isLikeSquare_72 : decode b_X_isLikeSquare 72 = .ok (.lload 5, 2) := by decide +kernel
theorem d_X_isLikeSquare_74 : decode b_X_isLikeSquare 74 = .ok (.lconst 1, 1) := by decide +kernel
theorem d_X_isLikeSquare_75 : decode b_X_isLikeSquare 75 = .ok (.lcmp, 1) := by decide +kernel
theorem d_X_isLikeSquare_76 : decode b_X_isLikeSquare 76 = .ok (.ifCond .ne 7, 3) := by decide +kernel
theorem d_X_isLikeSquare_79 : decode b_X_isLikeSquare 79 = .ok (.iconst 1, 1) := by decide +kernel
theorem d_X_isLikeSquare_80 : decode b_X_isLikeSquare 80 = .ok (.goto 4, 3) := by decide +kernel
theorem d_X_isLikeSquare_83 : decode b_X_isLikeSquare 83 = .ok (.iconst 0, 1) := by decide +kernel
theorem d_X_isLikeSquare_84 : decode b_X_isLikeSquare 84 = .ok (.ireturn, 1) := by decide +kernel
theorem d_X_remainder_0 : decode b_X_remainder 0 = .ok (.lload_n 2, 1) := by decide +kernel
theorem d_X_remainder_1 : decode b_X_remainder 1 = .ok (.lconst 0, 1) := by decide +kernel
theorem d_X_remainder_2 : decode b_X_remainder 2 = .ok (.lcmp, 1) := by decide +kernel
theorem d_X_remainder_3 : decode b_X_remainder 3 = .ok (.ifCond .le 11, 3) := by decide +kernel
theorem d_X_remainder_6 : decode b_X_remainder 6 = .ok (.lload_n 0, 1) := by decide +kernel
theorem d_X_remainder_7 : decode b_X_remainder 7 = .ok (.lload_n 2, 1) := by decide +kernel
theorem d_X_remainder_8 : decode b_X_remainder 8 = .ok (.invokestatic 163, 3) := by decide +kernel
theorem d_X_remainder_11 : decode b_X_remainder 11 = .ok (.goto 4, 3) := by decide +kernel
theorem d_X_remainder_14 : decode b_X_remainder 14 = .ok (.lconst 0, 1) := by decide +kernel
theorem d_X_remainder_15 : decode b_X_remainder 15 = .ok (.lreturn, 1) := by decide +kernel
theorem d_X_quotient_0 : decode b_X_quotient 0 = .ok (.lload_n 2, 1) := by decide +kernel
theorem d_X_quotient_1 : decode b_X_quotient 1 = .ok (.lconst 0, 1) := by decide +kernel
theorem d_X_quotient_2 : decode b_X_quotient 2 = .ok (.lcmp, 1) := by decide +kernel
theorem d_X_quotient_3 : decode b_X_quotient 3 = .ok (.ifCond .eq 9, 3) := by decide +kernel
theorem d_X_quotient_6 : decode b_X_quotient 6 = .ok (.lload_n 0, 1) := by decide +kernel
theorem d_X_quotient_7 : decode b_X_quotient 7 = .ok (.lload_n 2, 1) := by decide +kernel
theorem d_X_quotient_8 : decode b_X_quotient 8 = .ok (.ldiv, 1) := by decide +kernel
theorem d_X_quotient_9 : decode b_X_quotient 9 = .ok (.goto 4, 3) := by decide +kernel
theorem d_X_quotient_12 : decode b_X_quotient 12 = .ok (.lconst 0, 1) := by decide +kernel
theorem d_X_quotient_13 : decode b_X_quotient 13 = .ok (.lreturn, 1) := by decide +kernel
theorem d_E_init_0 : decode b_E_init 0 = .ok (.aload_n 0, 1) := by decide +kernel
theorem d_E_init_1 : decode b_E_init 1 = .ok (.invokespecial 3, 3) := by decide +kernel
theorem d_E_init_4 : decode b_E_init 4 = .ok (.return_, 1) := by decide +kernel
theorem d_E_solve_0 : decode b_E_solve 0 = .ok (.lload_n 3, 1) := by decide +kernel
theorem d_E_solve_1 : decode b_E_solve 1 = .ok (.lstore 5, 2) := by decide +kernel
theorem d_E_solve_3 : decode b_E_solve 3 = .ok (.lconst 0, 1) := by decide +kernel
theorem d_E_solve_4 : decode b_E_solve 4 = .ok (.lstore 7, 2) := by decide +kernel
theorem d_E_solve_6 : decode b_E_solve 6 = .ok (.lconst 1, 1) := by decide +kernel
theorem d_E_solve_7 : decode b_E_solve 7 = .ok (.lstore 9, 2) := by decide +kernel
theorem d_E_solve_9 : decode b_E_solve 9 = .ok (.aload_n 0, 1) := by decide +kernel
theorem d_E_solve_10 : decode b_E_solve 10 = .ok (.lload_n 1, 1) := by decide +kernel
theorem d_E_solve_11 : decode b_E_solve 11 = .ok (.putfield 9, 3) := by decide +kernel
theorem d_E_solve_14 : decode b_E_solve 14 = .ok (.aload_n 0, 1) := by decide +kernel
theorem d_E_solve_15 : decode b_E_solve 15 = .ok (.lconst 1, 1) := by decide +kernel
theorem d_E_solve_16 : decode b_E_solve 16 = .ok (.putfield 15, 3) := by decide +kernel
theorem d_E_solve_19 : decode b_E_solve 19 = .ok (.aload_n 0, 1) := by decide +kernel
theorem d_E_solve_20 : decode b_E_solve 20 = .ok (.lconst 0, 1) := by decide +kernel
theorem d_E_solve_21 : decode b_E_solve 21 = .ok (.putfield 18, 3) := by decide +kernel
theorem d_E_solve_24 : decode b_E_solve 24 = .ok (.iconst 0, 1) := by decide +kernel
theorem d_E_solve_25 : decode b_E_solve 25 = .ok (.istore 11, 2) := by decide +kernel
theorem d_E_solve_27 : decode b_E_solve 27 = .ok (.iload 11, 2) := by decide +kernel
theorem d_E_solve_29 : decode b_E_solve 29 = .ok (.ldc 21, 2) := by decide +kernel
theorem d_E_solve_31 : decode b_E_solve 31 = .ok (.if_icmp .ge 93, 3) := by decide +kernel
theorem d_E_solve_34 : decode b_E_solve 34 = .ok (.lload 5, 2) := by decide +kernel
theorem d_E_solve_36 : decode b_E_solve 36 = .ok (.lconst 0, 1) := by decide +kernel
theorem d_E_solve_37 : decode b_E_solve 37 = .ok (.lcmp, 1) := by decide +kernel
theorem d_E_solve_38 : decode b_E_solve 38 = .ok (.ifCond .eq 86, 3) := by decide +kernel
theorem d_E_solve_41 : decode b_E_solve 41 = .ok (.aload_n 0, 1) := by decide +kernel
theorem d_E_solve_42 : decode b_E_solve 42 = .ok (.getfield 9, 3) := by decide +kernel
theorem d_E_solve_45 : decode b_E_solve 45 = .ok (.lload 5, 2) := by decide +kernel
theorem d_E_solve_47 : decode b_E_solve 47 = .ok (.invokestatic 22, 3) := by decide +kernel
theorem d_E_solve_50 : decode b_E_solve 50 = .ok (.lstore 12, 2) := by decide +kernel
theorem d_E_solve_52 : decode b_E_solve 52 = .ok (.aload_n 0, 1) := by decide +kernel
theorem d_E_solve_53 : decode b_E_solve 53 = .ok (.getfield 9, 3) := by decide +kernel
theorem d_E_solve_56 : decode b_E_solve 56 = .ok (.lload 12, 2) := by decide +kernel
theorem d_E_solve_58 : decode b_E_solve 58 = .ok (.lload 5, 2) := by decide +kernel
theorem d_E_solve_60 : decode b_E_solve 60 = .ok (.lmul, 1) := by decide +kernel
theorem d_E_solve_61 : decode b_E_solve 61 = .ok (.lsub, 1) := by decide +kernel
theorem d_E_solve_62 : decode b_E_solve 62 = .ok (.lstore 14, 2) := by decide +kernel
theorem d_E_solve_64 : decode b_E_solve 64 = .ok (.aload_n 0, 1) := by decide +kernel
theorem d_E_solve_65 : decode b_E_solve 65 = .ok (.getfield 15, 3) := by decide +kernel
theorem d_E_solve_68 : decode b_E_solve 68 = .ok (.lload 12, 2) := by decide +kernel
theorem d_E_solve_70 : decode b_E_solve 70 = .ok (.lload 7, 2) := by decide +kernel
theorem d_E_solve_72 : decode b_E_solve 72 = .ok (.lmul, 1) := by decide +kernel
theorem d_E_solve_73 : decode b_E_solve 73 = .ok (.lsub, 1) := by decide +kernel
theorem d_E_solve_74 : decode b_E_solve 74 = .ok (.lstore 16, 2) := by decide +kernel
theorem d_E_solve_76 : decode b_E_solve 76 = .ok (.aload_n 0, 1) := by decide +kernel
theorem d_E_solve_77 : decode b_E_solve 77 = .ok (.getfield 18, 3) := by decide +kernel
theorem d_E_solve_80 : decode b_E_solve 80 = .ok (.lload 12, 2) := by decide +kernel
theorem d_E_solve_82 : decode b_E_solve 82 = .ok (.lload 9, 2) := by decide +kernel
theorem d_E_solve_84 : decode b_E_solve 84 = .ok (.lmul, 1) := by decide +kernel
theorem d_E_solve_85 : decode b_E_solve 85 = .ok (.lsub, 1) := by decide +kernel
theorem d_E_solve_86 : decode b_E_solve 86 = .ok (.lstore 18, 2) := by decide +kernel
theorem d_E_solve_88 : decode b_E_solve 88 = .ok (.aload_n 0, 1) := by decide +kernel
theorem d_E_solve_89 : decode b_E_solve 89 = .ok (.lload 5, 2) := by decide +kernel
theorem d_E_solve_91 : decode b_E_solve 91 = .ok (.putfield 9, 3) := by decide +kernel
theorem d_E_solve_94 : decode b_E_solve 94 = .ok (.aload_n 0, 1) := by decide +kernel
theorem d_E_solve_95 : decode b_E_solve 95 = .ok (.lload 7, 2) := by decide +kernel
theorem d_E_solve_97 : decode b_E_solve 97 = .ok (.putfield 15, 3) := by decide +kernel
theorem d_E_solve_100 : decode b_E_solve 100 = .ok (.aload_n 0, 1) := by decide +kernel
theorem d_E_solve_101 : decode b_E_solve 101 = .ok (.lload 9, 2) := by decide +kernel
theorem d_E_solve_103 : decode b_E_solve 103 = .ok (.putfield 18, 3) := by decide +kernel
theorem d_E_solve_106 : decode b_E_solve 106 = .ok (.lload 14, 2) := by decide +kernel
theorem d_E_solve_108 : decode b_E_solve 108 = .ok (.lstore 5, 2) := by decide +kernel
theorem d_E_solve_110 : decode b_E_solve 110 = .ok (.lload 16, 2) := by decide +kernel
theorem d_E_solve_112 : decode b_E_solve 112 = .ok (.lstore 7, 2) := by decide +kernel
theorem d_E_solve_114 : decode b_E_solve 114 = .ok (.lload 18, 2) := by decide +kernel
theorem d_E_solve_116 : decode b_E_solve 116 = .ok (.lstore 9, 2) := by decide +kernel
theorem d_E_solve_118 : decode b_E_solve 118 = .ok (.iinc 11 1, 3) := by decide +kernel
theorem d_E_solve_121 : decode b_E_solve 121 = .ok (.goto (-94), 3) := by decide +kernel
theorem d_E_solve_124 : decode b_E_solve 124 = .ok (.aload_n 0, 1) := by decide +kernel
theorem d_E_solve_125 : decode b_E_solve 125 = .ok (.getfield 9, 3) := by decide +kernel
theorem d_E_solve_128 : decode b_E_solve 128 = .ok (.lconst 0, 1) := by decide +kernel
theorem d_E_solve_129 : decode b_E_solve 129 = .ok (.lcmp, 1) := by decide +kernel
theorem d_E_solve_130 : decode b_E_solve 130 = .ok (.ifCond .ge 30, 3) := by decide +kernel
theorem d_E_solve_133 : decode b_E_solve 133 = .ok (.aload_n 0, 1) := by decide +kernel
theorem d_E_solve_134 : decode b_E_solve 134 = .ok (.aload_n 0, 1) := by decide +kernel
theorem d_E_solve_135 : decode b_E_solve 135 = .ok (.getfield 9, 3) := by decide +kernel
theorem d_E_solve_138 : decode b_E_solve 138 = .ok (.lneg, 1) := by decide +kernel
theorem d_E_solve_139 : decode b_E_solve 139 = .ok (.putfield 9, 3) := by decide +kernel
theorem d_E_solve_142 : decode b_E_solve 142 = .ok (.aload_n 0, 1) := by decide +kernel
theorem d_E_solve_143 : decode b_E_solve 143 = .ok (.aload_n 0, 1) := by decide +kernel
theorem d_E_solve_144 : decode b_E_solve 144 = .ok (.getfield 15, 3) := by decide +kernel
theorem d_E_solve_147 : decode b_E_solve 147 = .ok (.lneg, 1) := by decide +kernel
theorem d_E_solve_148 : decode b_E_solve 148 = .ok (.putfield 15, 3) := by decide +kernel
theorem d_E_solve_151 : decode b_E_solve 151 = .ok (.aload_n 0, 1) := by decide +kernel
theorem d_E_solve_152 : decode b_E_solve 152 = .ok (.aload_n 0, 1) := by decide +kernel
theorem d_E_solve_153 : decode b_E_solve 153 = .ok (.getfield 18, 3) := by decide +kernel
theorem d_E_solve_156 : decode b_E_solve 156 = .ok (.lneg, 1) := by decide +kernel
theorem d_E_solve_157 : decode b_E_solve 157 = .ok (.putfield 18, 3) := by decide +kernel
theorem d_E_solve_160 : decode b_E_solve 160 = .ok (.return_, 1) := by decide +kernel
theorem d_F_init_0 : decode b_F_init 0 = .ok (.aload_n 0, 1) := by decide +kernel
theorem d_F_init_1 : decode b_F_init 1 = .ok (.invokespecial 1, 3) := by decide +kernel
theorem d_F_init_4 : decode b_F_init 4 = .ok (.return_, 1) := by decide +kernel
theorem d_F_become_0 : decode b_F_become 0 = .ok (.aload_n 0, 1) := by decide +kernel
theorem d_F_become_1 : decode b_F_become 1 = .ok (.lload_n 1, 1) := by decide +kernel
theorem d_F_become_2 : decode b_F_become 2 = .ok (.putfield 7, 3) := by decide +kernel
theorem d_F_become_5 : decode b_F_become 5 = .ok (.aload_n 0, 1) := by decide +kernel
theorem d_F_become_6 : decode b_F_become 6 = .ok (.lload_n 3, 1) := by decide +kernel
theorem d_F_become_7 : decode b_F_become 7 = .ok (.putfield 13, 3) := by decide +kernel
theorem d_F_become_10 : decode b_F_become 10 = .ok (.aload_n 0, 1) := by decide +kernel
theorem d_F_become_11 : decode b_F_become 11 = .ok (.lload 5, 2) := by decide +kernel
theorem d_F_become_13 : decode b_F_become 13 = .ok (.putfield 16, 3) := by decide +kernel
theorem d_F_become_16 : decode b_F_become 16 = .ok (.return_, 1) := by decide +kernel
theorem d_F_copy_0 : decode b_F_copy 0 = .ok (.aload_n 0, 1) := by decide +kernel
theorem d_F_copy_1 : decode b_F_copy 1 = .ok (.aload_n 1, 1) := by decide +kernel
theorem d_F_copy_2 : decode b_F_copy 2 = .ok (.getfield 7, 3) := by decide +kernel
theorem d_F_copy_5 : decode b_F_copy 5 = .ok (.aload_n 1, 1) := by decide +kernel
theorem d_F_copy_6 : decode b_F_copy 6 = .ok (.getfield 13, 3) := by decide +kernel
theorem d_F_copy_9 : decode b_F_copy 9 = .ok (.aload_n 1, 1) := by decide +kernel
theorem d_F_copy_10 : decode b_F_copy 10 = .ok (.getfield 16, 3) := by decide +kernel
theorem d_F_copy_13 : decode b_F_copy 13 = .ok (.invokevirtual 19, 3) := by decide +kernel
theorem d_F_copy_16 : decode b_F_copy 16 = .ok (.return_, 1) := by decide +kernel
theorem d_F_matches_0 : decode b_F_matches 0 = .ok (.aload_n 0, 1) := by decide +kernel
theorem d_F_matches_1 : decode b_F_matches 1 = .ok (.getfield 7, 3) := by decide +kernel
theorem d_F_matches_4 : decode b_F_matches 4 = .ok (.aload_n 1, 1) := by decide +kernel
theorem d_F_matches_5 : decode b_F_matches 5 = .ok (.getfield 7, 3) := by decide +kernel
theorem d_F_matches_8 : decode b_F_matches 8 = .ok (.lcmp, 1) := by decide +kernel
theorem d_F_matches_9 : decode b_F_matches 9 = .ok (.ifCond .ne 31, 3) := by decide +kernel
theorem d_F_matches_12 : decode b_F_matches 12 = .ok (.aload_n 0, 1) := by decide +kernel
theorem d_F_matches_13 : decode b_F_matches 13 = .ok (.getfield 13, 3) := by decide +kernel
theorem d_F_matches_16 : decode b_F_matches 16 = .ok (.aload_n 1, 1) := by decide +kernel
theorem d_F_matches_17 : decode b_F_matches 17 = .ok (.getfield 13, 3) := by decide +kernel
theorem d_F_matches_20 : decode b_F_matches 20 = .ok (.lcmp, 1) := by decide +kernel
theorem d_F_matches_21 : decode b_F_matches 21 = .ok (.ifCond .ne 19, 3) := by decide +kernel
theorem d_F_matches_24 : decode b_F_matches 24 = .ok (.aload_n 0, 1) := by decide +kernel
theorem d_F_matches_25 : decode b_F_matches 25 = .ok (.getfield 16, 3) := by decide +kernel
theorem d_F_matches_28 : decode b_F_matches 28 = .ok (.aload_n 1, 1) := by decide +kernel
theorem d_F_matches_29 : decode b_F_matches 29 = .ok (.getfield 16, 3) := by decide +kernel
theorem d_F_matches_32 : decode b_F_matches 32 = .ok (.lcmp, 1) := by decide +kernel
theorem d_F_matches_33 : decode b_F_matches 33 = .ok (.ifCond .ne 7, 3) := by decide +kernel
theorem d_F_matches_36 : decode b_F_matches 36 = .ok (.iconst 1, 1) := by decide +kernel
theorem d_F_matches_37 : decode b_F_matches 37 = .ok (.goto 4, 3) := by decide +kernel
theorem d_F_matches_40 : decode b_F_matches 40 = .ok (.iconst 0, 1) := by decide +kernel
theorem d_F_matches_41 : decode b_F_matches 41 = .ok (.ireturn, 1) := by decide +kernel
theorem d_F_isBefore_0 : decode b_F_isBefore 0 = .ok (.aload_n 0, 1) := by decide +kernel
theorem d_F_isBefore_1 : decode b_F_isBefore 1 = .ok (.getfield 7, 3) := by decide +kernel
theorem d_F_isBefore_4 : decode b_F_isBefore 4 = .ok (.aload_n 1, 1) := by decide +kernel
theorem d_F_isBefore_5 : decode b_F_isBefore 5 = .ok (.getfield 7, 3) := by decide +kernel
theorem d_F_isBefore_8 : decode b_F_isBefore 8 = .ok (.lcmp, 1) := by decide +kernel
theorem d_F_isBefore_9 : decode b_F_isBefore 9 = .ok (.ifCond .lt 27, 3) := by decide +kernel
theorem d_F_isBefore_12 : decode b_F_isBefore 12 = .ok (.aload_n 0, 1) := by decide +kernel
theorem d_F_isBefore_13 : decode b_F_isBefore 13 = .ok (.getfield 7, 3) := by decide +kernel
theorem d_F_isBefore_16 : decode b_F_isBefore 16 = .ok (.aload_n 1, 1) := by decide +kernel
theorem d_F_isBefore_17 : decode b_F_isBefore 17 = .ok (.getfield 7, 3) := by decide +kernel
theorem d_F_isBefore_20 : decode b_F_isBefore 20 = .ok (.lcmp, 1) := by decide +kernel
theorem d_F_isBefore_21 : decode b_F_isBefore 21 = .ok (.ifCond .ne 19, 3) := by decide +kernel
theorem d_F_isBefore_24 : decode b_F_isBefore 24 = .ok (.aload_n 0, 1) := by decide +kernel
theorem d_F_isBefore_25 : decode b_F_isBefore 25 = .ok (.getfield 13, 3) := by decide +kernel
theorem d_F_isBefore_28 : decode b_F_isBefore 28 = .ok (.aload_n 1, 1) := by decide +kernel
theorem d_F_isBefore_29 : decode b_F_isBefore 29 = .ok (.getfield 13, 3) := by decide +kernel
theorem d_F_isBefore_32 : decode b_F_isBefore 32 = .ok (.lcmp, 1) := by decide +kernel
theorem d_F_isBefore_33 : decode b_F_isBefore 33 = .ok (.ifCond .ge 7, 3) := by decide +kernel
theorem d_F_isBefore_36 : decode b_F_isBefore 36 = .ok (.iconst 1, 1) := by decide +kernel
theorem d_F_isBefore_37 : decode b_F_isBefore 37 = .ok (.goto 4, 3) := by decide +kernel
theorem d_F_isBefore_40 : decode b_F_isBefore 40 = .ok (.iconst 0, 1) := by decide +kernel
theorem d_F_isBefore_41 : decode b_F_isBefore 41 = .ok (.ireturn, 1) := by decide +kernel
theorem d_G_init_0 : decode b_G_init 0 = .ok (.aload_n 0, 1) := by decide +kernel
theorem d_G_init_1 : decode b_G_init 1 = .ok (.invokespecial 3, 3) := by decide +kernel
theorem d_G_init_4 : decode b_G_init 4 = .ok (.aload_n 0, 1) := by decide +kernel
theorem d_G_init_5 : decode b_G_init 5 = .ok (.new 9, 3) := by decide +kernel
theorem d_G_init_8 : decode b_G_init 8 = .ok (.dup, 1) := by decide +kernel
theorem d_G_init_9 : decode b_G_init 9 = .ok (.invokespecial 11, 3) := by decide +kernel
theorem d_G_init_12 : decode b_G_init 12 = .ok (.putfield 12, 3) := by decide +kernel
theorem d_G_init_15 : decode b_G_init 15 = .ok (.aload_n 0, 1) := by decide +kernel
theorem d_G_init_16 : decode b_G_init 16 = .ok (.new 9, 3) := by decide +kernel
theorem d_G_init_19 : decode b_G_init 19 = .ok (.dup, 1) := by decide +kernel
theorem d_G_init_20 : decode b_G_init 20 = .ok (.invokespecial 11, 3) := by decide +kernel
theorem d_G_init_23 : decode b_G_init 23 = .ok (.putfield 18, 3) := by decide +kernel
theorem d_G_init_26 : decode b_G_init 26 = .ok (.aload_n 0, 1) := by decide +kernel
theorem d_G_init_27 : decode b_G_init 27 = .ok (.new 9, 3) := by decide +kernel
theorem d_G_init_30 : decode b_G_init 30 = .ok (.dup, 1) := by decide +kernel
theorem d_G_init_31 : decode b_G_init 31 = .ok (.invokespecial 11, 3) := by decide +kernel
theorem d_G_init_34 : decode b_G_init 34 = .ok (.putfield 21, 3) := by decide +kernel
theorem d_G_init_37 : decode b_G_init 37 = .ok (.aload_n 0, 1) := by decide +kernel
theorem d_G_init_38 : decode b_G_init 38 = .ok (.new 9, 3) := by decide +kernel
theorem d_G_init_41 : decode b_G_init 41 = .ok (.dup, 1) := by decide +kernel
theorem d_G_init_42 : decode b_G_init 42 = .ok (.invokespecial 11, 3) := by decide +kernel
theorem d_G_init_45 : decode b_G_init 45 = .ok (.putfield 24, 3) := by decide +kernel
theorem d_G_init_48 : decode b_G_init 48 = .ok (.aload_n 0, 1) := by decide +kernel
theorem d_G_init_49 : decode b_G_init 49 = .ok (.new 27, 3) := by decide +kernel
theorem d_G_init_52 : decode b_G_init 52 = .ok (.dup, 1) := by decide +kernel
theorem d_G_init_53 : decode b_G_init 53 = .ok (.invokespecial 29, 3) := by decide +kernel
theorem d_G_init_56 : decode b_G_init 56 = .ok (.putfield 30, 3) := by decide +kernel
theorem d_G_init_59 : decode b_G_init 59 = .ok (.return_, 1) := by decide +kernel
theorem d_G_settle_0 : decode b_G_settle 0 = .ok (.aload_n 0, 1) := by decide +kernel
theorem d_G_settle_1 : decode b_G_settle 1 = .ok (.iload_n 1, 1) := by decide +kernel
theorem d_G_settle_2 : decode b_G_settle 2 = .ok (.putfield 34, 3) := by decide +kernel
theorem d_G_settle_5 : decode b_G_settle 5 = .ok (.aload_n 0, 1) := by decide +kernel
theorem d_G_settle_6 : decode b_G_settle 6 = .ok (.iload_n 1, 1) := by decide +kernel
theorem d_G_settle_7 : decode b_G_settle 7 = .ok (.invokestatic 38, 3) := by decide +kernel
theorem d_G_settle_10 : decode b_G_settle 10 = .ok (.putfield 42, 3) := by decide +kernel
theorem d_G_settle_13 : decode b_G_settle 13 = .ok (.aload_n 0, 1) := by decide +kernel
theorem d_G_settle_14 : decode b_G_settle 14 = .ok (.aload_n 0, 1) := by decide +kernel
theorem d_G_settle_15 : decode b_G_settle 15 = .ok (.getfield 12, 3) := by decide +kernel
theorem d_G_settle_18 : decode b_G_settle 18 = .ok (.lconst 1, 1) := by decide +kernel
theorem d_G_settle_19 : decode b_G_settle 19 = .ok (.iload_n 1, 1) := by decide +kernel
theorem d_G_settle_20 : decode b_G_settle 20 = .ok (.iconst 1, 1) := by decide +kernel
theorem d_G_settle_21 : decode b_G_settle 21 = .ok (.iand, 1) := by decide +kernel
theorem d_G_settle_22 : decode b_G_settle 22 = .ok (.i2l, 1) := by decide +kernel
theorem d_G_settle_23 : decode b_G_settle 23 = .ok (.invokevirtual 45, 3) := by decide +kernel
theorem d_G_settle_26 : decode b_G_settle 26 = .ok (.aload_n 0, 1) := by decide +kernel
theorem d_G_settle_27 : decode b_G_settle 27 = .ok (.aload_n 0, 1) := by decide +kernel
theorem d_G_settle_28 : decode b_G_settle 28 = .ok (.getfield 12, 3) := by decide +kernel
theorem d_G_settle_31 : decode b_G_settle 31 = .ok (.invokevirtual 49, 3) := by decide +kernel
theorem d_G_settle_34 : decode b_G_settle 34 = .ok (.aload_n 0, 1) := by decide +kernel
theorem d_G_settle_35 : decode b_G_settle 35 = .ok (.aload_n 0, 1) := by decide +kernel
theorem d_G_settle_36 : decode b_G_settle 36 = .ok (.getfield 12, 3) := by decide +kernel
theorem d_G_settle_39 : decode b_G_settle 39 = .ok (.invokevirtual 53, 3) := by decide +kernel
theorem d_G_settle_42 : decode b_G_settle 42 = .ok (.pop, 1) := by decide +kernel
theorem d_G_settle_43 : decode b_G_settle 43 = .ok (.return_, 1) := by decide +kernel
theorem d_G_canTake_0 : decode b_G_canTake 0 = .ok (.lload_n 1, 1) := by decide +kernel
theorem d_G_canTake_1 : decode b_G_canTake 1 = .ok (.invokestatic 57, 3) := by decide +kernel
theorem d_G_canTake_4 : decode b_G_canTake 4 = .ok (.ifCond .eq 18, 3) := by decide +kernel
theorem d_G_canTake_7 : decode b_G_canTake 7 = .ok (.lload_n 3, 1) := by decide +kernel
theorem d_G_canTake_8 : decode b_G_canTake 8 = .ok (.invokestatic 57, 3) := by decide +kernel
theorem d_G_canTake_11 : decode b_G_canTake 11 = .ok (.ifCond .eq 11, 3) := by decide +kernel
theorem d_G_canTake_14 : decode b_G_canTake 14 = .ok (.lload 5, 2) := by decide +kernel
theorem d_G_canTake_16 : decode b_G_canTake 16 = .ok (.invokestatic 57, 3) := by decide +kernel
theorem d_G_canTake_19 : decode b_G_canTake 19 = .ok (.ifCond .ne 5, 3) := by decide +kernel
theorem d_G_canTake_22 : decode b_G_canTake 22 = .ok (.iconst 0, 1) := by decide +kernel
theorem d_G_canTake_23 : decode b_G_canTake 23 = .ok (.ireturn, 1) := by decide +kernel
theorem d_G_canTake_24 : decode b_G_canTake 24 = .ok (.lload_n 3, 1) := by decide +kernel
theorem d_G_canTake_25 : decode b_G_canTake 25 = .ok (.lload_n 3, 1) := by decide +kernel
theorem d_G_canTake_26 : decode b_G_canTake 26 = .ok (.lmul, 1) := by decide +kernel
theorem d_G_canTake_27 : decode b_G_canTake 27 = .ok (.ldc2_w 61, 3) := by decide +kernel
theorem d_G_canTake_30 : decode b_G_canTake 30 = .ok (.lload_n 1, 1) := by decide +kernel
theorem d_G_canTake_31 : decode b_G_canTake 31 = .ok (.lmul, 1) := by decide +kernel
theorem d_G_canTake_32 : decode b_G_canTake 32 = .ok (.lload 5, 2) := by decide +kernel
theorem d_G_canTake_34 : decode b_G_canTake 34 = .ok (.lmul, 1) := by decide +kernel
theorem d_G_canTake_35 : decode b_G_canTake 35 = .ok (.lsub, 1) := by decide +kernel
theorem d_G_canTake_36 : decode b_G_canTake 36 = .ok (.aload_n 0, 1) := by decide +kernel
theorem d_G_canTake_37 : decode b_G_canTake 37 = .ok (.getfield 34, 3) := by decide +kernel
theorem d_G_canTake_40 : decode b_G_canTake 40 = .ok (.i2l, 1) := by decide +kernel
theorem d_G_canTake_41 : decode b_G_canTake 41 = .ok (.lcmp, 1) := by decide +kernel
theorem d_G_canTake_42 : decode b_G_canTake 42 = .ok (.ifCond .ne 16, 3) := by decide +kernel
theorem d_G_canTake_45 : decode b_G_canTake 45 = .ok (.aload_n 0, 1) := by decide +kernel
theorem d_G_canTake_46 : decode b_G_canTake 46 = .ok (.getfield 34, 3) := by decide +kernel
theorem d_G_canTake_49 : decode b_G_canTake 49 = .ok (.ifCond .ge 11, 3) := by decide +kernel
theorem d_G_canTake_52 : decode b_G_canTake 52 = .ok (.lload_n 1, 1) := by decide +kernel
theorem d_G_canTake_53 : decode b_G_canTake 53 = .ok (.lconst 0, 1) := by decide +kernel
theorem d_G_canTake_54 : decode b_G_canTake 54 = .ok (.lcmp, 1) := by decide +kernel
theorem d_G_canTake_55 : decode b_G_canTake 55 = .ok (.ifCond .gt 5, 3) := by decide +kernel
theorem d_G_canTake_58 : decode b_G_canTake 58 = .ok (.iconst 0, 1) := by decide +kernel
theorem d_G_canTake_59 : decode b_G_canTake 59 = .ok (.ireturn, 1) := by decide +kernel
theorem d_G_canTake_60 : decode b_G_canTake 60 = .ok (.aload_n 0, 1) := by decide +kernel
theorem d_G_canTake_61 : decode b_G_canTake 61 = .ok (.getfield 30, 3) := by decide +kernel
theorem d_G_canTake_64 : decode b_G_canTake 64 = .ok (.lload_n 1, 1) := by decide +kernel
theorem d_G_canTake_65 : decode b_G_canTake 65 = .ok (.lload_n 3, 1) := by decide +kernel
theorem d_G_canTake_66 : decode b_G_canTake 66 = .ok (.invokevirtual 63, 3) := by decide +kernel
theorem d_G_canTake_69 : decode b_G_canTake 69 = .ok (.aload_n 0, 1) := by decide +kernel
theorem d_G_canTake_70 : decode b_G_canTake 70 = .ok (.getfield 30, 3) := by decide +kernel
theorem d_G_canTake_73 : decode b_G_canTake 73 = .ok (.aload_n 0, 1) := by decide +kernel
theorem d_G_canTake_74 : decode b_G_canTake 74 = .ok (.getfield 30, 3) := by decide +kernel
theorem d_G_canTake_77 : decode b_G_canTake 77 = .ok (.getfield 67, 3) := by decide +kernel
theorem d_G_canTake_80 : decode b_G_canTake 80 = .ok (.lload 5, 2) := by decide +kernel
theorem d_G_canTake_82 : decode b_G_canTake 82 = .ok (.invokevirtual 63, 3) := by decide +kernel
theorem d_G_canTake_85 : decode b_G_canTake 85 = .ok (.aload_n 0, 1) := by decide +kernel
theorem d_G_canTake_86 : decode b_G_canTake 86 = .ok (.getfield 30, 3) := by decide +kernel
theorem d_G_canTake_89 : decode b_G_canTake 89 = .ok (.getfield 67, 3) := by decide +kernel
theorem d_G_canTake_92 : decode b_G_canTake 92 = .ok (.lconst 1, 1) := by decide +kernel
theorem d_G_canTake_93 : decode b_G_canTake 93 = .ok (.lcmp, 1) := by decide +kernel
theorem d_G_canTake_94 : decode b_G_canTake 94 = .ok (.ifCond .ne 7, 3) := by decide +kernel
theorem d_G_canTake_97 : decode b_G_canTake 97 = .ok (.iconst 1, 1) := by decide +kernel
theorem d_G_canTake_98 : decode b_G_canTake 98 = .ok (.goto 4, 3) := by decide +kernel
theorem d_G_canTake_101 : decode b_G_canTake 101 = .ok (.iconst 0, 1) := by decide +kernel
theorem d_G_canTake_102 : decode b_G_canTake 102 = .ok (.ireturn, 1) := by decide +kernel
theorem d_G_isCoefficient_0 : decode b_G_isCoefficient 0 = .ok (.lload_n 0, 1) := by decide +kernel
theorem d_G_isCoefficient_1 : decode b_G_isCoefficient 1 = .ok (.ldc2_w 71, 3) := by decide +kernel
theorem d_G_isCoefficient_4 : decode b_G_isCoefficient 4 = .ok (.lcmp, 1) := by decide +kernel
theorem d_G_isCoefficient_5 : decode b_G_isCoefficient 5 = .ok (.ifCond .lt 15, 3) := by decide +kernel
theorem d_G_isCoefficient_8 : decode b_G_isCoefficient 8 = .ok (.lload_n 0, 1) := by decide +kernel
theorem d_G_isCoefficient_9 : decode b_G_isCoefficient 9 = .ok (.ldc2_w 73, 3) := by decide +kernel
theorem d_G_isCoefficient_12 : decode b_G_isCoefficient 12 = .ok (.lcmp, 1) := by decide +kernel
theorem d_G_isCoefficient_13 : decode b_G_isCoefficient 13 = .ok (.ifCond .gt 7, 3) := by decide +kernel
theorem d_G_isCoefficient_16 : decode b_G_isCoefficient 16 = .ok (.iconst 1, 1) := by decide +kernel
theorem d_G_isCoefficient_17 : decode b_G_isCoefficient 17 = .ok (.goto 4, 3) := by decide +kernel
theorem d_G_isCoefficient_20 : decode b_G_isCoefficient 20 = .ok (.iconst 0, 1) := by decide +kernel
theorem d_G_isCoefficient_21 : decode b_G_isCoefficient 21 = .ok (.ireturn, 1) := by decide +kernel
theorem d_G_becomeFrom_0 : decode b_G_becomeFrom 0 = .ok (.aload_n 1, 1) := by decide +kernel
theorem d_G_becomeFrom_1 : decode b_G_becomeFrom 1 = .ok (.lload_n 2, 1) := by decide +kernel
theorem d_G_becomeFrom_2 : decode b_G_becomeFrom 2 = .ok (.lload 4, 2) := by decide +kernel
theorem d_G_becomeFrom_4 : decode b_G_becomeFrom 4 = .ok (.lload 4, 2) := by decide +kernel
theorem d_G_becomeFrom_6 : decode b_G_becomeFrom 6 = .ok (.lload 4, 2) := by decide +kernel
theorem d_G_becomeFrom_8 : decode b_G_becomeFrom 8 = .ok (.lmul, 1) := by decide +kernel
theorem d_G_becomeFrom_9 : decode b_G_becomeFrom 9 = .ok (.aload_n 0, 1) := by decide +kernel
theorem d_G_becomeFrom_10 : decode b_G_becomeFrom 10 = .ok (.getfield 34, 3) := by decide +kernel
theorem d_G_becomeFrom_13 : decode b_G_becomeFrom 13 = .ok (.i2l, 1) := by decide +kernel
theorem d_G_becomeFrom_14 : decode b_G_becomeFrom 14 = .ok (.lsub, 1) := by decide +kernel
theorem d_G_becomeFrom_15 : decode b_G_becomeFrom 15 = .ok (.ldc2_w 61, 3) := by decide +kernel
theorem d_G_becomeFrom_18 : decode b_G_becomeFrom 18 = .ok (.lload_n 2, 1) := by decide +kernel
theorem d_G_becomeFrom_19 : decode b_G_becomeFrom 19 = .ok (.lmul, 1) := by decide +kernel
theorem d_G_becomeFrom_20 : decode b_G_becomeFrom 20 = .ok (.invokestatic 75, 3) := by decide +kernel
theorem d_G_becomeFrom_23 : decode b_G_becomeFrom 23 = .ok (.invokevirtual 79, 3) := by decide +kernel
theorem d_G_becomeFrom_26 : decode b_G_becomeFrom 26 = .ok (.return_, 1) := by decide +kernel
theorem d_G_reduce_0 : decode b_G_reduce 0 = .ok (.aload_n 0, 1) := by decide +kernel
theorem d_G_reduce_1 : decode b_G_reduce 1 = .ok (.getfield 34, 3) := by decide +kernel
theorem d_G_reduce_4 : decode b_G_reduce 4 = .ok (.ifCond .ge 9, 3) := by decide +kernel
theorem d_G_reduce_7 : decode b_G_reduce 7 = .ok (.aload_n 0, 1) := by decide +kernel
theorem d_G_reduce_8 : decode b_G_reduce 8 = .ok (.aload_n 1, 1) := by decide +kernel
theorem d_G_reduce_9 : decode b_G_reduce 9 = .ok (.invokevirtual 83, 3) := by decide +kernel
theorem d_G_reduce_12 : decode b_G_reduce 12 = .ok (.return_, 1) := by decide +kernel
theorem d_G_reduce_13 : decode b_G_reduce 13 = .ok (.iconst 0, 1) := by decide +kernel
theorem d_G_reduce_14 : decode b_G_reduce 14 = .ok (.istore_n 2, 1) := by decide +kernel
theorem d_G_reduce_15 : decode b_G_reduce 15 = .ok (.iload_n 2, 1) := by decide +kernel
theorem d_G_reduce_16 : decode b_G_reduce 16 = .ok (.ldc 86, 2) := by decide +kernel
theorem d_G_reduce_18 : decode b_G_reduce 18 = .ok (.if_icmp .ge 22, 3) := by decide +kernel
theorem d_G_reduce_21 : decode b_G_reduce 21 = .ok (.aload_n 0, 1) := by decide +kernel
theorem d_G_reduce_22 : decode b_G_reduce 22 = .ok (.aload_n 1, 1) := by decide +kernel
theorem d_G_reduce_23 : decode b_G_reduce 23 = .ok (.invokevirtual 87, 3) := by decide +kernel
theorem d_G_reduce_26 : decode b_G_reduce 26 = .ok (.ifCond .ne 14, 3) := by decide +kernel
theorem d_G_reduce_29 : decode b_G_reduce 29 = .ok (.aload_n 0, 1) := by decide +kernel
theorem d_G_reduce_30 : decode b_G_reduce 30 = .ok (.aload_n 1, 1) := by decide +kernel
theorem d_G_reduce_31 : decode b_G_reduce 31 = .ok (.invokevirtual 91, 3) := by decide +kernel
theorem d_G_reduce_34 : decode b_G_reduce 34 = .ok (.iinc 2 1, 3) := by decide +kernel
theorem d_G_reduce_37 : decode b_G_reduce 37 = .ok (.goto (-22), 3) := by decide +kernel
theorem d_G_reduce_40 : decode b_G_reduce 40 = .ok (.return_, 1) := by decide +kernel
theorem d_G_reduceBelow_0 : decode b_G_reduceBelow 0 = .ok (.iconst 0, 1) := by decide +kernel
theorem d_G_reduceBelow_1 : decode b_G_reduceBelow 1 = .ok (.istore_n 2, 1) := by decide +kernel
theorem d_G_reduceBelow_2 : decode b_G_reduceBelow 2 = .ok (.iload_n 2, 1) := by decide +kernel
theorem d_G_reduceBelow_3 : decode b_G_reduceBelow 3 = .ok (.ldc 86, 2) := by decide +kernel
theorem d_G_reduceBelow_5 : decode b_G_reduceBelow 5 = .ok (.if_icmp .ge 75, 3) := by decide +kernel
theorem d_G_reduceBelow_8 : decode b_G_reduceBelow 8 = .ok (.aload_n 0, 1) := by decide +kernel
theorem d_G_reduceBelow_9 : decode b_G_reduceBelow 9 = .ok (.aload_n 1, 1) := by decide +kernel
theorem d_G_reduceBelow_10 : decode b_G_reduceBelow 10 = .ok (.aload_n 1, 1) := by decide +kernel
theorem d_G_reduceBelow_11 : decode b_G_reduceBelow 11 = .ok (.getfield 94, 3) := by decide +kernel
theorem d_G_reduceBelow_14 : decode b_G_reduceBelow 14 = .ok (.aload_n 1, 1) := by decide +kernel
theorem d_G_reduceBelow_15 : decode b_G_reduceBelow 15 = .ok (.getfield 94, 3) := by decide +kernel
theorem d_G_reduceBelow_18 : decode b_G_reduceBelow 18 = .ok (.aload_n 1, 1) := by decide +kernel
theorem d_G_reduceBelow_19 : decode b_G_reduceBelow 19 = .ok (.getfield 94, 3) := by decide +kernel
theorem d_G_reduceBelow_22 : decode b_G_reduceBelow 22 = .ok (.aload_n 1, 1) := by decide +kernel
theorem d_G_reduceBelow_23 : decode b_G_reduceBelow 23 = .ok (.getfield 97, 3) := by decide +kernel
theorem d_G_reduceBelow_26 : decode b_G_reduceBelow 26 = .ok (.lsub, 1) := by decide +kernel
theorem d_G_reduceBelow_27 : decode b_G_reduceBelow 27 = .ok (.ldc2_w 100, 3) := by decide +kernel
theorem d_G_reduceBelow_30 : decode b_G_reduceBelow 30 = .ok (.aload_n 1, 1) := by decide +kernel
theorem d_G_reduceBelow_31 : decode b_G_reduceBelow 31 = .ok (.getfield 94, 3) := by decide +kernel
theorem d_G_reduceBelow_34 : decode b_G_reduceBelow 34 = .ok (.lmul, 1) := by decide +kernel
theorem d_G_reduceBelow_35 : decode b_G_reduceBelow 35 = .ok (.invokestatic 102, 3) := by decide +kernel
theorem d_G_reduceBelow_38 : decode b_G_reduceBelow 38 = .ok (.lsub, 1) := by decide +kernel
theorem d_G_reduceBelow_39 : decode b_G_reduceBelow 39 = .ok (.invokevirtual 45, 3) := by decide +kernel
theorem d_G_reduceBelow_42 : decode b_G_reduceBelow 42 = .ok (.aload_n 1, 1) := by decide +kernel
theorem d_G_reduceBelow_43 : decode b_G_reduceBelow 43 = .ok (.getfield 94, 3) := by decide +kernel
theorem d_G_reduceBelow_46 : decode b_G_reduceBelow 46 = .ok (.aload_n 1, 1) := by decide +kernel
theorem d_G_reduceBelow_47 : decode b_G_reduceBelow 47 = .ok (.getfield 105, 3) := by decide +kernel
theorem d_G_reduceBelow_50 : decode b_G_reduceBelow 50 = .ok (.lcmp, 1) := by decide +kernel
theorem d_G_reduceBelow_51 : decode b_G_reduceBelow 51 = .ok (.ifCond .gt 6, 3) := by decide +kernel
theorem d_G_reduceBelow_54 : decode b_G_reduceBelow 54 = .ok (.goto 26, 3) := by decide +kernel
theorem d_G_reduceBelow_57 : decode b_G_reduceBelow 57 = .ok (.aload_n 1, 1) := by decide +kernel
theorem d_G_reduceBelow_58 : decode b_G_reduceBelow 58 = .ok (.aload_n 1, 1) := by decide +kernel
theorem d_G_reduceBelow_59 : decode b_G_reduceBelow 59 = .ok (.getfield 105, 3) := by decide +kernel
theorem d_G_reduceBelow_62 : decode b_G_reduceBelow 62 = .ok (.aload_n 1, 1) := by decide +kernel
theorem d_G_reduceBelow_63 : decode b_G_reduceBelow 63 = .ok (.getfield 97, 3) := by decide +kernel
theorem d_G_reduceBelow_66 : decode b_G_reduceBelow 66 = .ok (.lneg, 1) := by decide +kernel
theorem d_G_reduceBelow_67 : decode b_G_reduceBelow 67 = .ok (.aload_n 1, 1) := by decide +kernel
theorem d_G_reduceBelow_68 : decode b_G_reduceBelow 68 = .ok (.getfield 94, 3) := by decide +kernel
theorem d_G_reduceBelow_71 : decode b_G_reduceBelow 71 = .ok (.invokevirtual 79, 3) := by decide +kernel
theorem d_G_reduceBelow_74 : decode b_G_reduceBelow 74 = .ok (.iinc 2 1, 3) := by decide +kernel
theorem d_G_reduceBelow_77 : decode b_G_reduceBelow 77 = .ok (.goto (-75), 3) := by decide +kernel
theorem d_G_reduceBelow_80 : decode b_G_reduceBelow 80 = .ok (.aload_n 1, 1) := by decide +kernel
theorem d_G_reduceBelow_81 : decode b_G_reduceBelow 81 = .ok (.getfield 94, 3) := by decide +kernel
theorem d_G_reduceBelow_84 : decode b_G_reduceBelow 84 = .ok (.aload_n 1, 1) := by decide +kernel
theorem d_G_reduceBelow_85 : decode b_G_reduceBelow 85 = .ok (.getfield 105, 3) := by decide +kernel
theorem d_G_reduceBelow_88 : decode b_G_reduceBelow 88 = .ok (.lcmp, 1) := by decide +kernel
theorem d_G_reduceBelow_89 : decode b_G_reduceBelow 89 = .ok (.ifCond .ne 21, 3) := by decide +kernel
theorem d_G_reduceBelow_92 : decode b_G_reduceBelow 92 = .ok (.aload_n 1, 1) := by decide +kernel
theorem d_G_reduceBelow_93 : decode b_G_reduceBelow 93 = .ok (.getfield 97, 3) := by decide +kernel
theorem d_G_reduceBelow_96 : decode b_G_reduceBelow 96 = .ok (.lconst 0, 1) := by decide +kernel
theorem d_G_reduceBelow_97 : decode b_G_reduceBelow 97 = .ok (.lcmp, 1) := by decide +kernel
theorem d_G_reduceBelow_98 : decode b_G_reduceBelow 98 = .ok (.ifCond .ge 12, 3) := by decide +kernel
theorem d_G_reduceBelow_101 : decode b_G_reduceBelow 101 = .ok (.aload_n 1, 1) := by decide +kernel
theorem d_G_reduceBelow_102 : decode b_G_reduceBelow 102 = .ok (.aload_n 1, 1) := by decide +kernel
theorem d_G_reduceBelow_103 : decode b_G_reduceBelow 103 = .ok (.getfield 97, 3) := by decide +kernel
theorem d_G_reduceBelow_106 : decode b_G_reduceBelow 106 = .ok (.lneg, 1) := by decide +kernel
theorem d_G_reduceBelow_107 : decode b_G_reduceBelow 107 = .ok (.putfield 97, 3) := by decide +kernel
theorem d_G_reduceBelow_110 : decode b_G_reduceBelow 110 = .ok (.return_, 1) := by decide +kernel
theorem d_G_isReducedAbove_0 : decode b_G_isReducedAbove 0 = .ok (.ldc2_w 100, 3) := by decide +kernel
theorem d_G_isReducedAbove_3 : decode b_G_isReducedAbove 3 = .ok (.aload_n 1, 1) := by decide +kernel
theorem d_G_isReducedAbove_4 : decode b_G_isReducedAbove 4 = .ok (.getfield 94, 3) := by decide +kernel
theorem d_G_isReducedAbove_7 : decode b_G_isReducedAbove 7 = .ok (.invokestatic 108, 3) := by decide +kernel
theorem d_G_isReducedAbove_10 : decode b_G_isReducedAbove 10 = .ok (.lmul, 1) := by decide +kernel
theorem d_G_isReducedAbove_11 : decode b_G_isReducedAbove 11 = .ok (.lstore_n 2, 1) := by decide +kernel
theorem d_G_isReducedAbove_12 : decode b_G_isReducedAbove 12 = .ok (.aload_n 1, 1) := by decide +kernel
theorem d_G_isReducedAbove_13 : decode b_G_isReducedAbove 13 = .ok (.getfield 97, 3) := by decide +kernel
theorem d_G_isReducedAbove_16 : decode b_G_isReducedAbove 16 = .ok (.lconst 0, 1) := by decide +kernel
theorem d_G_isReducedAbove_17 : decode b_G_isReducedAbove 17 = .ok (.lcmp, 1) := by decide +kernel
theorem d_G_isReducedAbove_18 : decode b_G_isReducedAbove 18 = .ok (.ifCond .le 50, 3) := by decide +kernel
theorem d_G_isReducedAbove_21 : decode b_G_isReducedAbove 21 = .ok (.aload_n 1, 1) := by decide +kernel
theorem d_G_isReducedAbove_22 : decode b_G_isReducedAbove 22 = .ok (.getfield 97, 3) := by decide +kernel
theorem d_G_isReducedAbove_25 : decode b_G_isReducedAbove 25 = .ok (.aload_n 0, 1) := by decide +kernel
theorem d_G_isReducedAbove_26 : decode b_G_isReducedAbove 26 = .ok (.getfield 42, 3) := by decide +kernel
theorem d_G_isReducedAbove_29 : decode b_G_isReducedAbove 29 = .ok (.i2l, 1) := by decide +kernel
theorem d_G_isReducedAbove_30 : decode b_G_isReducedAbove 30 = .ok (.lcmp, 1) := by decide +kernel
theorem d_G_isReducedAbove_31 : decode b_G_isReducedAbove 31 = .ok (.ifCond .gt 37, 3) := by decide +kernel
theorem d_G_isReducedAbove_34 : decode b_G_isReducedAbove 34 = .ok (.lload_n 2, 1) := by decide +kernel
theorem d_G_isReducedAbove_35 : decode b_G_isReducedAbove 35 = .ok (.aload_n 1, 1) := by decide +kernel
theorem d_G_isReducedAbove_36 : decode b_G_isReducedAbove 36 = .ok (.getfield 97, 3) := by decide +kernel
theorem d_G_isReducedAbove_39 : decode b_G_isReducedAbove 39 = .ok (.ladd, 1) := by decide +kernel
theorem d_G_isReducedAbove_40 : decode b_G_isReducedAbove 40 = .ok (.aload_n 0, 1) := by decide +kernel
theorem d_G_isReducedAbove_41 : decode b_G_isReducedAbove 41 = .ok (.getfield 42, 3) := by decide +kernel
theorem d_G_isReducedAbove_44 : decode b_G_isReducedAbove 44 = .ok (.i2l, 1) := by decide +kernel
theorem d_G_isReducedAbove_45 : decode b_G_isReducedAbove 45 = .ok (.lcmp, 1) := by decide +kernel
theorem d_G_isReducedAbove_46 : decode b_G_isReducedAbove 46 = .ok (.ifCond .le 22, 3) := by decide +kernel
theorem d_G_isReducedAbove_49 : decode b_G_isReducedAbove 49 = .ok (.lload_n 2, 1) := by decide +kernel
theorem d_G_isReducedAbove_50 : decode b_G_isReducedAbove 50 = .ok (.aload_n 1, 1) := by decide +kernel
theorem d_G_isReducedAbove_51 : decode b_G_isReducedAbove 51 = .ok (.getfield 97, 3) := by decide +kernel
theorem d_G_isReducedAbove_54 : decode b_G_isReducedAbove 54 = .ok (.lsub, 1) := by decide +kernel
theorem d_G_isReducedAbove_55 : decode b_G_isReducedAbove 55 = .ok (.aload_n 0, 1) := by decide +kernel
theorem d_G_isReducedAbove_56 : decode b_G_isReducedAbove 56 = .ok (.getfield 42, 3) := by decide +kernel
theorem d_G_isReducedAbove_59 : decode b_G_isReducedAbove 59 = .ok (.i2l, 1) := by decide +kernel
theorem d_G_isReducedAbove_60 : decode b_G_isReducedAbove 60 = .ok (.lcmp, 1) := by decide +kernel
theorem d_G_isReducedAbove_61 : decode b_G_isReducedAbove 61 = .ok (.ifCond .gt 7, 3) := by decide +kernel
theorem d_G_isReducedAbove_64 : decode b_G_isReducedAbove 64 = .ok (.iconst 1, 1) := by decide +kernel
theorem d_G_isReducedAbove_65 : decode b_G_isReducedAbove 65 = .ok (.goto 4, 3) := by decide +kernel
theorem d_G_isReducedAbove_68 : decode b_G_isReducedAbove 68 = .ok (.iconst 0, 1) := by decide +kernel
theorem d_G_isReducedAbove_69 : decode b_G_isReducedAbove 69 = .ok (.ireturn, 1) := by decide +kernel
theorem d_G_step_0 : decode b_G_step 0 = .ok (.aload_n 1, 1) := by decide +kernel
theorem d_G_step_1 : decode b_G_step 1 = .ok (.getfield 105, 3) := by decide +kernel
theorem d_G_step_4 : decode b_G_step 4 = .ok (.invokestatic 108, 3) := by decide +kernel
theorem d_G_step_7 : decode b_G_step 7 = .ok (.lstore_n 2, 1) := by decide +kernel
theorem d_G_step_8 : decode b_G_step 8 = .ok (.lload_n 2, 1) := by decide +kernel
theorem d_G_step_9 : decode b_G_step 9 = .ok (.aload_n 0, 1) := by decide +kernel
theorem d_G_step_10 : decode b_G_step 10 = .ok (.getfield 42, 3) := by decide +kernel
theorem d_G_step_13 : decode b_G_step 13 = .ok (.i2l, 1) := by decide +kernel
theorem d_G_step_14 : decode b_G_step 14 = .ok (.invokestatic 114, 3) := by decide +kernel
theorem d_G_step_17 : decode b_G_step 17 = .ok (.lstore 4, 2) := by decide +kernel
theorem d_G_step_19 : decode b_G_step 19 = .ok (.aload_n 0, 1) := by decide +kernel
theorem d_G_step_20 : decode b_G_step 20 = .ok (.aload_n 1, 1) := by decide +kernel
theorem d_G_step_21 : decode b_G_step 21 = .ok (.aload_n 1, 1) := by decide +kernel
theorem d_G_step_22 : decode b_G_step 22 = .ok (.getfield 105, 3) := by decide +kernel
theorem d_G_step_25 : decode b_G_step 25 = .ok (.lload 4, 2) := by decide +kernel
theorem d_G_step_27 : decode b_G_step 27 = .ok (.lload 4, 2) := by decide +kernel
theorem d_G_step_29 : decode b_G_step 29 = .ok (.aload_n 1, 1) := by decide +kernel
theorem d_G_step_30 : decode b_G_step 30 = .ok (.getfield 97, 3) := by decide +kernel
theorem d_G_step_33 : decode b_G_step 33 = .ok (.ladd, 1) := by decide +kernel
theorem d_G_step_34 : decode b_G_step 34 = .ok (.ldc2_w 100, 3) := by decide +kernel
theorem d_G_step_37 : decode b_G_step 37 = .ok (.lload_n 2, 1) := by decide +kernel
theorem d_G_step_38 : decode b_G_step 38 = .ok (.lmul, 1) := by decide +kernel
theorem d_G_step_39 : decode b_G_step 39 = .ok (.invokestatic 102, 3) := by decide +kernel
theorem d_G_step_42 : decode b_G_step 42 = .ok (.lsub, 1) := by decide +kernel
theorem d_G_step_43 : decode b_G_step 43 = .ok (.invokevirtual 45, 3) := by decide +kernel
theorem d_G_step_46 : decode b_G_step 46 = .ok (.return_, 1) := by decide +kernel
theorem d_G_turnIntoName_0 : decode b_G_turnIntoName 0 = .ok (.aload_n 0, 1) := by decide +kernel
theorem d_G_turnIntoName_1 : decode b_G_turnIntoName 1 = .ok (.getfield 34, 3) := by decide +kernel
theorem d_G_turnIntoName_4 : decode b_G_turnIntoName 4 = .ok (.ifCond .ge 5, 3) := by decide +kernel
theorem d_G_turnIntoName_7 : decode b_G_turnIntoName 7 = .ok (.iconst 1, 1) := by decide +kernel
theorem d_G_turnIntoName_8 : decode b_G_turnIntoName 8 = .ok (.ireturn, 1) := by decide +kernel
theorem d_G_turnIntoName_9 : decode b_G_turnIntoName 9 = .ok (.aload_n 0, 1) := by decide +kernel
theorem d_G_turnIntoName_10 : decode b_G_turnIntoName 10 = .ok (.getfield 21, 3) := by decide +kernel
theorem d_G_turnIntoName_13 : decode b_G_turnIntoName 13 = .ok (.aload_n 1, 1) := by decide +kernel
theorem d_G_turnIntoName_14 : decode b_G_turnIntoName 14 = .ok (.invokevirtual 117, 3) := by decide +kernel
theorem d_G_turnIntoName_17 : decode b_G_turnIntoName 17 = .ok (.aload_n 0, 1) := by decide +kernel
theorem d_G_turnIntoName_18 : decode b_G_turnIntoName 18 = .ok (.getfield 18, 3) := by decide +kernel
theorem d_G_turnIntoName_21 : decode b_G_turnIntoName 21 = .ok (.aload_n 1, 1) := by decide +kernel
theorem d_G_turnIntoName_22 : decode b_G_turnIntoName 22 = .ok (.invokevirtual 117, 3) := by decide +kernel
theorem d_G_turnIntoName_25 : decode b_G_turnIntoName 25 = .ok (.aload_n 0, 1) := by decide +kernel
theorem d_G_turnIntoName_26 : decode b_G_turnIntoName 26 = .ok (.aload_n 0, 1) := by decide +kernel
theorem d_G_turnIntoName_27 : decode b_G_turnIntoName 27 = .ok (.getfield 18, 3) := by decide +kernel
theorem d_G_turnIntoName_30 : decode b_G_turnIntoName 30 = .ok (.invokevirtual 91, 3) := by decide +kernel
theorem d_G_turnIntoName_33 : decode b_G_turnIntoName 33 = .ok (.iconst 1, 1) := by decide +kernel
theorem d_G_turnIntoName_34 : decode b_G_turnIntoName 34 = .ok (.istore_n 2, 1) := by decide +kernel
theorem d_G_turnIntoName_35 : decode b_G_turnIntoName 35 = .ok (.iload_n 2, 1) := by decide +kernel
theorem d_G_turnIntoName_36 : decode b_G_turnIntoName 36 = .ok (.ldc 86, 2) := by decide +kernel
theorem d_G_turnIntoName_38 : decode b_G_turnIntoName 38 = .ok (.if_icmp .ge 50, 3) := by decide +kernel
theorem d_G_turnIntoName_41 : decode b_G_turnIntoName 41 = .ok (.aload_n 0, 1) := by decide +kernel
theorem d_G_turnIntoName_42 : decode b_G_turnIntoName 42 = .ok (.getfield 18, 3) := by decide +kernel
theorem d_G_turnIntoName_45 : decode b_G_turnIntoName 45 = .ok (.aload_n 0, 1) := by decide +kernel
theorem d_G_turnIntoName_46 : decode b_G_turnIntoName 46 = .ok (.getfield 21, 3) := by decide +kernel
theorem d_G_turnIntoName_49 : decode b_G_turnIntoName 49 = .ok (.invokevirtual 120, 3) := by decide +kernel
theorem d_G_turnIntoName_52 : decode b_G_turnIntoName 52 = .ok (.ifCond .ne 36, 3) := by decide +kernel
theorem d_G_turnIntoName_55 : decode b_G_turnIntoName 55 = .ok (.aload_n 0, 1) := by decide +kernel
theorem d_G_turnIntoName_56 : decode b_G_turnIntoName 56 = .ok (.getfield 18, 3) := by decide +kernel
theorem d_G_turnIntoName_59 : decode b_G_turnIntoName 59 = .ok (.aload_n 1, 1) := by decide +kernel
theorem d_G_turnIntoName_60 : decode b_G_turnIntoName 60 = .ok (.invokevirtual 123, 3) := by decide +kernel
theorem d_G_turnIntoName_63 : decode b_G_turnIntoName 63 = .ok (.ifCond .eq 11, 3) := by decide +kernel
theorem d_G_turnIntoName_66 : decode b_G_turnIntoName 66 = .ok (.aload_n 1, 1) := by decide +kernel
theorem d_G_turnIntoName_67 : decode b_G_turnIntoName 67 = .ok (.aload_n 0, 1) := by decide +kernel
theorem d_G_turnIntoName_68 : decode b_G_turnIntoName 68 = .ok (.getfield 18, 3) := by decide +kernel
theorem d_G_turnIntoName_71 : decode b_G_turnIntoName 71 = .ok (.invokevirtual 117, 3) := by decide +kernel
theorem d_G_turnIntoName_74 : decode b_G_turnIntoName 74 = .ok (.aload_n 0, 1) := by decide +kernel
theorem d_G_turnIntoName_75 : decode b_G_turnIntoName 75 = .ok (.aload_n 0, 1) := by decide +kernel
theorem d_G_turnIntoName_76 : decode b_G_turnIntoName 76 = .ok (.getfield 18, 3) := by decide +kernel
theorem d_G_turnIntoName_79 : decode b_G_turnIntoName 79 = .ok (.invokevirtual 91, 3) := by decide +kernel
theorem d_G_turnIntoName_82 : decode b_G_turnIntoName 82 = .ok (.iinc 2 1, 3) := by decide +kernel
theorem d_G_turnIntoName_85 : decode b_G_turnIntoName 85 = .ok (.goto (-50), 3) := by decide +kernel
theorem d_G_turnIntoName_88 : decode b_G_turnIntoName 88 = .ok (.iload_n 2, 1) := by decide +kernel
theorem d_G_turnIntoName_89 : decode b_G_turnIntoName 89 = .ok (.ireturn, 1) := by decide +kernel
theorem d_G_multiply_0 : decode b_G_multiply 0 = .ok (.aload_n 1, 1) := by decide +kernel
theorem d_G_multiply_1 : decode b_G_multiply 1 = .ok (.getfield 97, 3) := by decide +kernel
theorem d_G_multiply_4 : decode b_G_multiply 4 = .ok (.aload_n 2, 1) := by decide +kernel
theorem d_G_multiply_5 : decode b_G_multiply 5 = .ok (.getfield 97, 3) := by decide +kernel
theorem d_G_multiply_8 : decode b_G_multiply 8 = .ok (.ladd, 1) := by decide +kernel
theorem d_G_multiply_9 : decode b_G_multiply 9 = .ok (.ldc2_w 100, 3) := by decide +kernel
theorem d_G_multiply_12 : decode b_G_multiply 12 = .ok (.ldiv, 1) := by decide +kernel
theorem d_G_multiply_13 : decode b_G_multiply 13 = .ok (.lstore_n 3, 1) := by decide +kernel
theorem d_G_multiply_14 : decode b_G_multiply 14 = .ok (.aload_n 0, 1) := by decide +kernel
theorem d_G_multiply_15 : decode b_G_multiply 15 = .ok (.getfield 30, 3) := by decide +kernel
theorem d_G_multiply_18 : decode b_G_multiply 18 = .ok (.aload_n 1, 1) := by decide +kernel
theorem d_G_multiply_19 : decode b_G_multiply 19 = .ok (.getfield 94, 3) := by decide +kernel
theorem d_G_multiply_22 : decode b_G_multiply 22 = .ok (.aload_n 2, 1) := by decide +kernel
theorem d_G_multiply_23 : decode b_G_multiply 23 = .ok (.getfield 94, 3) := by decide +kernel
theorem d_G_multiply_26 : decode b_G_multiply 26 = .ok (.invokevirtual 63, 3) := by decide +kernel
theorem d_G_multiply_29 : decode b_G_multiply 29 = .ok (.aload_n 0, 1) := by decide +kernel
theorem d_G_multiply_30 : decode b_G_multiply 30 = .ok (.getfield 30, 3) := by decide +kernel
theorem d_G_multiply_33 : decode b_G_multiply 33 = .ok (.getfield 126, 3) := by decide +kernel
theorem d_G_multiply_36 : decode b_G_multiply 36 = .ok (.lstore 5, 2) := by decide +kernel
theorem d_G_multiply_38 : decode b_G_multiply 38 = .ok (.aload_n 0, 1) := by decide +kernel
theorem d_G_multiply_39 : decode b_G_multiply 39 = .ok (.getfield 30, 3) := by decide +kernel
theorem d_G_multiply_42 : decode b_G_multiply 42 = .ok (.getfield 129, 3) := by decide +kernel
theorem d_G_multiply_45 : decode b_G_multiply 45 = .ok (.lstore 7, 2) := by decide +kernel
theorem d_G_multiply_47 : decode b_G_multiply 47 = .ok (.aload_n 0, 1) := by decide +kernel
theorem d_G_multiply_48 : decode b_G_multiply 48 = .ok (.getfield 30, 3) := by decide +kernel
theorem d_G_multiply_51 : decode b_G_multiply 51 = .ok (.aload_n 0, 1) := by decide +kernel
theorem d_G_multiply_52 : decode b_G_multiply 52 = .ok (.getfield 30, 3) := by decide +kernel
theorem d_G_multiply_55 : decode b_G_multiply 55 = .ok (.getfield 67, 3) := by decide +kernel
theorem d_G_multiply_58 : decode b_G_multiply 58 = .ok (.lload_n 3, 1) := by decide +kernel
theorem d_G_multiply_59 : decode b_G_multiply 59 = .ok (.invokevirtual 63, 3) := by decide +kernel
theorem d_G_multiply_62 : decode b_G_multiply 62 = .ok (.aload_n 0, 1) := by decide +kernel
theorem d_G_multiply_63 : decode b_G_multiply 63 = .ok (.getfield 30, 3) := by decide +kernel
theorem d_G_multiply_66 : decode b_G_multiply 66 = .ok (.getfield 67, 3) := by decide +kernel
theorem d_G_multiply_69 : decode b_G_multiply 69 = .ok (.lstore 9, 2) := by decide +kernel
theorem d_G_multiply_71 : decode b_G_multiply 71 = .ok (.aload_n 0, 1) := by decide +kernel
theorem d_G_multiply_72 : decode b_G_multiply 72 = .ok (.getfield 30, 3) := by decide +kernel
theorem d_G_multiply_75 : decode b_G_multiply 75 = .ok (.getfield 126, 3) := by decide +kernel
theorem d_G_multiply_78 : decode b_G_multiply 78 = .ok (.lload 5, 2) := by decide +kernel
theorem d_G_multiply_80 : decode b_G_multiply 80 = .ok (.aload_n 1, 1) := by decide +kernel
theorem d_G_multiply_81 : decode b_G_multiply 81 = .ok (.getfield 94, 3) := by decide +kernel
theorem d_G_multiply_84 : decode b_G_multiply 84 = .ok (.lmul, 1) := by decide +kernel
theorem d_G_multiply_85 : decode b_G_multiply 85 = .ok (.aload_n 2, 1) := by decide +kernel
theorem d_G_multiply_86 : decode b_G_multiply 86 = .ok (.getfield 97, 3) := by decide +kernel
theorem d_G_multiply_89 : decode b_G_multiply 89 = .ok (.lmul, 1) := by decide +kernel
theorem d_G_multiply_90 : decode b_G_multiply 90 = .ok (.lload 7, 2) := by decide +kernel
theorem d_G_multiply_92 : decode b_G_multiply 92 = .ok (.aload_n 2, 1) := by decide +kernel
theorem d_G_multiply_93 : decode b_G_multiply 93 = .ok (.getfield 94, 3) := by decide +kernel
theorem d_G_multiply_96 : decode b_G_multiply 96 = .ok (.lmul, 1) := by decide +kernel
theorem d_G_multiply_97 : decode b_G_multiply 97 = .ok (.aload_n 1, 1) := by decide +kernel
theorem d_G_multiply_98 : decode b_G_multiply 98 = .ok (.getfield 97, 3) := by decide +kernel
theorem d_G_multiply_101 : decode b_G_multiply 101 = .ok (.lmul, 1) := by decide +kernel
theorem d_G_multiply_102 : decode b_G_multiply 102 = .ok (.ladd, 1) := by decide +kernel
theorem d_G_multiply_103 : decode b_G_multiply 103 = .ok (.lmul, 1) := by decide +kernel
theorem d_G_multiply_104 : decode b_G_multiply 104 = .ok (.aload_n 0, 1) := by decide +kernel
theorem d_G_multiply_105 : decode b_G_multiply 105 = .ok (.getfield 30, 3) := by decide +kernel
theorem d_G_multiply_108 : decode b_G_multiply 108 = .ok (.getfield 129, 3) := by decide +kernel
theorem d_G_multiply_111 : decode b_G_multiply 111 = .ok (.aload_n 1, 1) := by decide +kernel
theorem d_G_multiply_112 : decode b_G_multiply 112 = .ok (.getfield 97, 3) := by decide +kernel
theorem d_G_multiply_115 : decode b_G_multiply 115 = .ok (.aload_n 2, 1) := by decide +kernel
theorem d_G_multiply_116 : decode b_G_multiply 116 = .ok (.getfield 97, 3) := by decide +kernel
theorem d_G_multiply_119 : decode b_G_multiply 119 = .ok (.lmul, 1) := by decide +kernel
theorem d_G_multiply_120 : decode b_G_multiply 120 = .ok (.aload_n 0, 1) := by decide +kernel
theorem d_G_multiply_121 : decode b_G_multiply 121 = .ok (.getfield 34, 3) := by decide +kernel
theorem d_G_multiply_124 : decode b_G_multiply 124 = .ok (.i2l, 1) := by decide +kernel
theorem d_G_multiply_125 : decode b_G_multiply 125 = .ok (.ladd, 1) := by decide +kernel
theorem d_G_multiply_126 : decode b_G_multiply 126 = .ok (.ldc2_w 100, 3) := by decide +kernel
theorem d_G_multiply_129 : decode b_G_multiply 129 = .ok (.ldiv, 1) := by decide +kernel
theorem d_G_multiply_130 : decode b_G_multiply 130 = .ok (.lmul, 1) := by decide +kernel
theorem d_G_multiply_131 : decode b_G_multiply 131 = .ok (.ladd, 1) := by decide +kernel
theorem d_G_multiply_132 : decode b_G_multiply 132 = .ok (.lstore 11, 2) := by decide +kernel
theorem d_G_multiply_134 : decode b_G_multiply 134 = .ok (.aload_n 1, 1) := by decide +kernel
theorem d_G_multiply_135 : decode b_G_multiply 135 = .ok (.getfield 94, 3) := by decide +kernel
theorem d_G_multiply_138 : decode b_G_multiply 138 = .ok (.lload 9, 2) := by decide +kernel
theorem d_G_multiply_140 : decode b_G_multiply 140 = .ok (.invokestatic 75, 3) := by decide +kernel
theorem d_G_multiply_143 : decode b_G_multiply 143 = .ok (.aload_n 2, 1) := by decide +kernel
theorem d_G_multiply_144 : decode b_G_multiply 144 = .ok (.getfield 94, 3) := by decide +kernel
theorem d_G_multiply_147 : decode b_G_multiply 147 = .ok (.lload 9, 2) := by decide +kernel
theorem d_G_multiply_149 : decode b_G_multiply 149 = .ok (.invokestatic 75, 3) := by decide +kernel
theorem d_G_multiply_152 : decode b_G_multiply 152 = .ok (.lmul, 1) := by decide +kernel
theorem d_G_multiply_153 : decode b_G_multiply 153 = .ok (.lstore 13, 2) := by decide +kernel
theorem d_G_multiply_155 : decode b_G_multiply 155 = .ok (.aload_n 0, 1) := by decide +kernel
theorem d_G_multiply_156 : decode b_G_multiply 156 = .ok (.aload_n 1, 1) := by decide +kernel
theorem d_G_multiply_157 : decode b_G_multiply 157 = .ok (.lload 13, 2) := by decide +kernel
theorem d_G_multiply_159 : decode b_G_multiply 159 = .ok (.lload 11, 2) := by decide +kernel
theorem d_G_multiply_161 : decode b_G_multiply 161 = .ok (.lload 9, 2) := by decide +kernel
theorem d_G_multiply_163 : decode b_G_multiply 163 = .ok (.invokestatic 75, 3) := by decide +kernel
theorem d_G_multiply_166 : decode b_G_multiply 166 = .ok (.ldc2_w 100, 3) := by decide +kernel
theorem d_G_multiply_169 : decode b_G_multiply 169 = .ok (.lload 13, 2) := by decide +kernel
theorem d_G_multiply_171 : decode b_G_multiply 171 = .ok (.invokestatic 108, 3) := by decide +kernel
theorem d_G_multiply_174 : decode b_G_multiply 174 = .ok (.lmul, 1) := by decide +kernel
theorem d_G_multiply_175 : decode b_G_multiply 175 = .ok (.invokestatic 102, 3) := by decide +kernel
theorem d_G_multiply_178 : decode b_G_multiply 178 = .ok (.invokevirtual 45, 3) := by decide +kernel
theorem d_G_multiply_181 : decode b_G_multiply 181 = .ok (.aload_n 0, 1) := by decide +kernel
theorem d_G_multiply_182 : decode b_G_multiply 182 = .ok (.aload_n 1, 1) := by decide +kernel
theorem d_G_multiply_183 : decode b_G_multiply 183 = .ok (.invokevirtual 49, 3) := by decide +kernel
theorem d_G_multiply_186 : decode b_G_multiply 186 = .ok (.return_, 1) := by decide +kernel
theorem d_G_turn_0 : decode b_G_turn 0 = .ok (.aload_n 1, 1) := by decide +kernel
theorem d_G_turn_1 : decode b_G_turn 1 = .ok (.aload_n 1, 1) := by decide +kernel
theorem d_G_turn_2 : decode b_G_turn 2 = .ok (.getfield 97, 3) := by decide +kernel
theorem d_G_turn_5 : decode b_G_turn 5 = .ok (.lneg, 1) := by decide +kernel
theorem d_G_turn_6 : decode b_G_turn 6 = .ok (.putfield 97, 3) := by decide +kernel
theorem d_G_turn_9 : decode b_G_turn 9 = .ok (.aload_n 0, 1) := by decide +kernel
theorem d_G_turn_10 : decode b_G_turn 10 = .ok (.aload_n 1, 1) := by decide +kernel
theorem d_G_turn_11 : decode b_G_turn 11 = .ok (.invokevirtual 49, 3) := by decide +kernel
theorem d_G_turn_14 : decode b_G_turn 14 = .ok (.return_, 1) := by decide +kernel
theorem d_G_raise_0 : decode b_G_raise 0 = .ok (.aload_n 0, 1) := by decide +kernel
theorem d_G_raise_1 : decode b_G_raise 1 = .ok (.getfield 24, 3) := by decide +kernel
theorem d_G_raise_4 : decode b_G_raise 4 = .ok (.aload_n 1, 1) := by decide +kernel
theorem d_G_raise_5 : decode b_G_raise 5 = .ok (.invokevirtual 117, 3) := by decide +kernel
theorem d_G_raise_8 : decode b_G_raise 8 = .ok (.lload_n 2, 1) := by decide +kernel
theorem d_G_raise_9 : decode b_G_raise 9 = .ok (.lconst 0, 1) := by decide +kernel
theorem d_G_raise_10 : decode b_G_raise 10 = .ok (.lcmp, 1) := by decide +kernel
theorem d_G_raise_11 : decode b_G_raise 11 = .ok (.ifCond .ge 11, 3) := by decide +kernel
theorem d_G_raise_14 : decode b_G_raise 14 = .ok (.aload_n 0, 1) := by decide +kernel
theorem d_G_raise_15 : decode b_G_raise 15 = .ok (.aload_n 0, 1) := by decide +kernel
theorem d_G_raise_16 : decode b_G_raise 16 = .ok (.getfield 24, 3) := by decide +kernel
theorem d_G_raise_19 : decode b_G_raise 19 = .ok (.invokevirtual 132, 3) := by decide +kernel
theorem d_G_raise_22 : decode b_G_raise 22 = .ok (.aload_n 1, 1) := by decide +kernel
theorem d_G_raise_23 : decode b_G_raise 23 = .ok (.aload_n 0, 1) := by decide +kernel
theorem d_G_raise_24 : decode b_G_raise 24 = .ok (.getfield 12, 3) := by decide +kernel
theorem d_G_raise_27 : decode b_G_raise 27 = .ok (.invokevirtual 117, 3) := by decide +kernel
theorem d_G_raise_30 : decode b_G_raise 30 = .ok (.lload_n 2, 1) := by decide +kernel
theorem d_G_raise_31 : decode b_G_raise 31 = .ok (.lconst 0, 1) := by decide +kernel
theorem d_G_raise_32 : decode b_G_raise 32 = .ok (.lcmp, 1) := by decide +kernel
theorem d_G_raise_33 : decode b_G_raise 33 = .ok (.ifCond .ge 8, 3) := by decide +kernel
theorem d_G_raise_36 : decode b_G_raise 36 = .ok (.lload_n 2, 1) := by decide +kernel
theorem d_G_raise_37 : decode b_G_raise 37 = .ok (.lneg, 1) := by decide +kernel
theorem d_G_raise_38 : decode b_G_raise 38 = .ok (.goto 4, 3) := by decide +kernel
theorem d_G_raise_41 : decode b_G_raise 41 = .ok (.lload_n 2, 1) := by decide +kernel
theorem d_G_raise_42 : decode b_G_raise 42 = .ok (.lstore 4, 2) := by decide +kernel
theorem d_G_raise_44 : decode b_G_raise 44 = .ok (.iconst 0, 1) := by decide +kernel
theorem d_G_raise_45 : decode b_G_raise 45 = .ok (.istore 6, 2) := by decide +kernel
theorem d_G_raise_47 : decode b_G_raise 47 = .ok (.iload 6, 2) := by decide +kernel
theorem d_G_raise_49 : decode b_G_raise 49 = .ok (.bipush 64, 2) := by decide +kernel
theorem d_G_raise_51 : decode b_G_raise 51 = .ok (.if_icmp .ge 52, 3) := by decide +kernel
theorem d_G_raise_54 : decode b_G_raise 54 = .ok (.lload 4, 2) := by decide +kernel
theorem d_G_raise_56 : decode b_G_raise 56 = .ok (.lconst 0, 1) := by decide +kernel
theorem d_G_raise_57 : decode b_G_raise 57 = .ok (.lcmp, 1) := by decide +kernel
theorem d_G_raise_58 : decode b_G_raise 58 = .ok (.ifCond .eq 45, 3) := by decide +kernel
theorem d_G_raise_61 : decode b_G_raise 61 = .ok (.lload 4, 2) := by decide +kernel
theorem d_G_raise_63 : decode b_G_raise 63 = .ok (.lconst 1, 1) := by decide +kernel
theorem d_G_raise_64 : decode b_G_raise 64 = .ok (.land, 1) := by decide +kernel
theorem d_G_raise_65 : decode b_G_raise 65 = .ok (.lconst 1, 1) := by decide +kernel
theorem d_G_raise_66 : decode b_G_raise 66 = .ok (.lcmp, 1) := by decide +kernel
theorem d_G_raise_67 : decode b_G_raise 67 = .ok (.ifCond .ne 12, 3) := by decide +kernel
theorem d_G_raise_70 : decode b_G_raise 70 = .ok (.aload_n 0, 1) := by decide +kernel
theorem d_G_raise_71 : decode b_G_raise 71 = .ok (.aload_n 1, 1) := by decide +kernel
theorem d_G_raise_72 : decode b_G_raise 72 = .ok (.aload_n 0, 1) := by decide +kernel
theorem d_G_raise_73 : decode b_G_raise 73 = .ok (.getfield 24, 3) := by decide +kernel
theorem d_G_raise_76 : decode b_G_raise 76 = .ok (.invokevirtual 135, 3) := by decide +kernel
theorem d_G_raise_79 : decode b_G_raise 79 = .ok (.aload_n 0, 1) := by decide +kernel
theorem d_G_raise_80 : decode b_G_raise 80 = .ok (.aload_n 0, 1) := by decide +kernel
theorem d_G_raise_81 : decode b_G_raise 81 = .ok (.getfield 24, 3) := by decide +kernel
theorem d_G_raise_84 : decode b_G_raise 84 = .ok (.aload_n 0, 1) := by decide +kernel
theorem d_G_raise_85 : decode b_G_raise 85 = .ok (.getfield 24, 3) := by decide +kernel
theorem d_G_raise_88 : decode b_G_raise 88 = .ok (.invokevirtual 135, 3) := by decide +kernel
theorem d_G_raise_91 : decode b_G_raise 91 = .ok (.lload 4, 2) := by decide +kernel
theorem d_G_raise_93 : decode b_G_raise 93 = .ok (.iconst 1, 1) := by decide +kernel
theorem d_G_raise_94 : decode b_G_raise 94 = .ok (.lushr, 1) := by decide +kernel
theorem d_G_raise_95 : decode b_G_raise 95 = .ok (.lstore 4, 2) := by decide +kernel
theorem d_G_raise_97 : decode b_G_raise 97 = .ok (.iinc 6 1, 3) := by decide +kernel
theorem d_G_raise_100 : decode b_G_raise 100 = .ok (.goto (-53), 3) := by decide +kernel
theorem d_G_raise_103 : decode b_G_raise 103 = .ok (.return_, 1) := by decide +kernel
theorem d_G_orderOf_0 : decode b_G_orderOf 0 = .ok (.aload_n 0, 1) := by decide +kernel
theorem d_G_orderOf_1 : decode b_G_orderOf 1 = .ok (.getfield 24, 3) := by decide +kernel
theorem d_G_orderOf_4 : decode b_G_orderOf 4 = .ok (.aload_n 1, 1) := by decide +kernel
theorem d_G_orderOf_5 : decode b_G_orderOf 5 = .ok (.invokevirtual 117, 3) := by decide +kernel
theorem d_G_orderOf_8 : decode b_G_orderOf 8 = .ok (.iconst 1, 1) := by decide +kernel
theorem d_G_orderOf_9 : decode b_G_orderOf 9 = .ok (.istore_n 2, 1) := by decide +kernel
theorem d_G_orderOf_10 : decode b_G_orderOf 10 = .ok (.iload_n 2, 1) := by decide +kernel
theorem d_G_orderOf_11 : decode b_G_orderOf 11 = .ok (.ldc 86, 2) := by decide +kernel
theorem d_G_orderOf_13 : decode b_G_orderOf 13 = .ok (.if_icmp .ge 41, 3) := by decide +kernel
theorem d_G_orderOf_16 : decode b_G_orderOf 16 = .ok (.aload_n 0, 1) := by decide +kernel
theorem d_G_orderOf_17 : decode b_G_orderOf 17 = .ok (.getfield 24, 3) := by decide +kernel
theorem d_G_orderOf_20 : decode b_G_orderOf 20 = .ok (.aload_n 0, 1) := by decide +kernel
theorem d_G_orderOf_21 : decode b_G_orderOf 21 = .ok (.getfield 12, 3) := by decide +kernel
theorem d_G_orderOf_24 : decode b_G_orderOf 24 = .ok (.invokevirtual 120, 3) := by decide +kernel
theorem d_G_orderOf_27 : decode b_G_orderOf 27 = .ok (.ifCond .ne 27, 3) := by decide +kernel
theorem d_G_orderOf_30 : decode b_G_orderOf 30 = .ok (.aload_n 0, 1) := by decide +kernel
theorem d_G_orderOf_31 : decode b_G_orderOf 31 = .ok (.aload_n 0, 1) := by decide +kernel
theorem d_G_orderOf_32 : decode b_G_orderOf 32 = .ok (.getfield 24, 3) := by decide +kernel
theorem d_G_orderOf_35 : decode b_G_orderOf 35 = .ok (.aload_n 1, 1) := by decide +kernel
theorem d_G_orderOf_36 : decode b_G_orderOf 36 = .ok (.invokevirtual 135, 3) := by decide +kernel
theorem d_G_orderOf_39 : decode b_G_orderOf 39 = .ok (.aload_n 0, 1) := by decide +kernel
theorem d_G_orderOf_40 : decode b_G_orderOf 40 = .ok (.aload_n 0, 1) := by decide +kernel
theorem d_G_orderOf_41 : decode b_G_orderOf 41 = .ok (.getfield 24, 3) := by decide +kernel
theorem d_G_orderOf_44 : decode b_G_orderOf 44 = .ok (.invokevirtual 53, 3) := by decide +kernel
theorem d_G_orderOf_47 : decode b_G_orderOf 47 = .ok (.pop, 1) := by decide +kernel
theorem d_G_orderOf_48 : decode b_G_orderOf 48 = .ok (.iinc 2 1, 3) := by decide +kernel
theorem d_G_orderOf_51 : decode b_G_orderOf 51 = .ok (.goto (-41), 3) := by decide +kernel
theorem d_G_orderOf_54 : decode b_G_orderOf 54 = .ok (.iload_n 2, 1) := by decide +kernel
theorem d_G_orderOf_55 : decode b_G_orderOf 55 = .ok (.ireturn, 1) := by decide +kernel
theorem d_G_exponentOf_0 : decode b_G_exponentOf 0 = .ok (.aload_n 2, 1) := by decide +kernel
theorem d_G_exponentOf_1 : decode b_G_exponentOf 1 = .ok (.aload_n 0, 1) := by decide +kernel
theorem d_G_exponentOf_2 : decode b_G_exponentOf 2 = .ok (.getfield 12, 3) := by decide +kernel
theorem d_G_exponentOf_5 : decode b_G_exponentOf 5 = .ok (.invokevirtual 120, 3) := by decide +kernel
theorem d_G_exponentOf_8 : decode b_G_exponentOf 8 = .ok (.ifCond .eq 5, 3) := by decide +kernel
theorem d_G_exponentOf_11 : decode b_G_exponentOf 11 = .ok (.iconst 0, 1) := by decide +kernel
theorem d_G_exponentOf_12 : decode b_G_exponentOf 12 = .ok (.ireturn, 1) := by decide +kernel
theorem d_G_exponentOf_13 : decode b_G_exponentOf 13 = .ok (.aload_n 0, 1) := by decide +kernel
theorem d_G_exponentOf_14 : decode b_G_exponentOf 14 = .ok (.getfield 24, 3) := by decide +kernel
theorem d_G_exponentOf_17 : decode b_G_exponentOf 17 = .ok (.aload_n 1, 1) := by decide +kernel
theorem d_G_exponentOf_18 : decode b_G_exponentOf 18 = .ok (.invokevirtual 117, 3) := by decide +kernel
theorem d_G_exponentOf_21 : decode b_G_exponentOf 21 = .ok (.iconst 1, 1) := by decide +kernel
theorem d_G_exponentOf_22 : decode b_G_exponentOf 22 = .ok (.istore_n 3, 1) := by decide +kernel
theorem d_G_exponentOf_23 : decode b_G_exponentOf 23 = .ok (.iload_n 3, 1) := by decide +kernel
theorem d_G_exponentOf_24 : decode b_G_exponentOf 24 = .ok (.ldc 86, 2) := by decide +kernel
theorem d_G_exponentOf_26 : decode b_G_exponentOf 26 = .ok (.if_icmp .ge 54, 3) := by decide +kernel
theorem d_G_exponentOf_29 : decode b_G_exponentOf 29 = .ok (.aload_n 0, 1) := by decide +kernel
theorem d_G_exponentOf_30 : decode b_G_exponentOf 30 = .ok (.getfield 24, 3) := by decide +kernel
theorem d_G_exponentOf_33 : decode b_G_exponentOf 33 = .ok (.aload_n 2, 1) := by decide +kernel
theorem d_G_exponentOf_34 : decode b_G_exponentOf 34 = .ok (.invokevirtual 120, 3) := by decide +kernel
theorem d_G_exponentOf_37 : decode b_G_exponentOf 37 = .ok (.ifCond .ne 43, 3) := by decide +kernel
theorem d_G_exponentOf_40 : decode b_G_exponentOf 40 = .ok (.aload_n 0, 1) := by decide +kernel
theorem d_G_exponentOf_41 : decode b_G_exponentOf 41 = .ok (.getfield 24, 3) := by decide +kernel
theorem d_G_exponentOf_44 : decode b_G_exponentOf 44 = .ok (.aload_n 0, 1) := by decide +kernel
theorem d_G_exponentOf_45 : decode b_G_exponentOf 45 = .ok (.getfield 12, 3) := by decide +kernel
theorem d_G_exponentOf_48 : decode b_G_exponentOf 48 = .ok (.invokevirtual 120, 3) := by decide +kernel
theorem d_G_exponentOf_51 : decode b_G_exponentOf 51 = .ok (.ifCond .eq 5, 3) := by decide +kernel
theorem d_G_exponentOf_54 : decode b_G_exponentOf 54 = .ok (.iconst (-1), 1) := by decide +kernel
theorem d_G_exponentOf_55 : decode b_G_exponentOf 55 = .ok (.ireturn, 1) := by decide +kernel
theorem d_G_exponentOf_56 : decode b_G_exponentOf 56 = .ok (.aload_n 0, 1) := by decide +kernel
theorem d_G_exponentOf_57 : decode b_G_exponentOf 57 = .ok (.aload_n 0, 1) := by decide +kernel
theorem d_G_exponentOf_58 : decode b_G_exponentOf 58 = .ok (.getfield 24, 3) := by decide +kernel
theorem d_G_exponentOf_61 : decode b_G_exponentOf 61 = .ok (.aload_n 1, 1) := by decide +kernel
theorem d_G_exponentOf_62 : decode b_G_exponentOf 62 = .ok (.invokevirtual 135, 3) := by decide +kernel
theorem d_G_exponentOf_65 : decode b_G_exponentOf 65 = .ok (.aload_n 0, 1) := by decide +kernel
theorem d_G_exponentOf_66 : decode b_G_exponentOf 66 = .ok (.aload_n 0, 1) := by decide +kernel
theorem d_G_exponentOf_67 : decode b_G_exponentOf 67 = .ok (.getfield 24, 3) := by decide +kernel
theorem d_G_exponentOf_70 : decode b_G_exponentOf 70 = .ok (.invokevirtual 53, 3) := by decide +kernel
theorem d_G_exponentOf_73 : decode b_G_exponentOf 73 = .ok (.pop, 1) := by decide +kernel
theorem d_G_exponentOf_74 : decode b_G_exponentOf 74 = .ok (.iinc 3 1, 3) := by decide +kernel
theorem d_G_exponentOf_77 : decode b_G_exponentOf 77 = .ok (.goto (-54), 3) := by decide +kernel
theorem d_G_exponentOf_80 : decode b_G_exponentOf 80 = .ok (.iload_n 3, 1) := by decide +kernel
theorem d_G_exponentOf_81 : decode b_G_exponentOf 81 = .ok (.ireturn, 1) := by decide +kernel
theorem d_P_init_0 : decode b_P_init 0 = .ok (.aload_n 0, 1) := by decide +kernel
theorem d_P_init_1 : decode b_P_init 1 = .ok (.invokespecial 3, 3) := by decide +kernel
theorem d_P_init_4 : decode b_P_init 4 = .ok (.aload_n 0, 1) := by decide +kernel
theorem d_P_init_5 : decode b_P_init 5 = .ok (.bipush 6, 2) := by decide +kernel
theorem d_P_init_7 : decode b_P_init 7 = .ok (.newarray .int, 2) := by decide +kernel
theorem d_P_init_9 : decode b_P_init 9 = .ok (.putfield 9, 3) := by decide +kernel
theorem d_P_init_12 : decode b_P_init 12 = .ok (.return_, 1) := by decide +kernel
theorem d_P_find_0 : decode b_P_find 0 = .ok (.aload_n 0, 1) := by decide +kernel
theorem d_P_find_1 : decode b_P_find 1 = .ok (.iconst 0, 1) := by decide +kernel
theorem d_P_find_2 : decode b_P_find 2 = .ok (.putfield 15, 3) := by decide +kernel
theorem d_P_find_5 : decode b_P_find 5 = .ok (.iconst 2, 1) := by decide +kernel
theorem d_P_find_6 : decode b_P_find 6 = .ok (.iload_n 1, 1) := by decide +kernel
theorem d_P_find_7 : decode b_P_find 7 = .ok (.invokestatic 19, 3) := by decide +kernel
theorem d_P_find_10 : decode b_P_find 10 = .ok (.invokestatic 25, 3) := by decide +kernel
theorem d_P_find_13 : decode b_P_find 13 = .ok (.istore_n 2, 1) := by decide +kernel
theorem d_P_find_14 : decode b_P_find 14 = .ok (.iconst 3, 1) := by decide +kernel
theorem d_P_find_15 : decode b_P_find 15 = .ok (.istore_n 3, 1) := by decide +kernel
theorem d_P_find_16 : decode b_P_find 16 = .ok (.iload_n 3, 1) := by decide +kernel
theorem d_P_find_17 : decode b_P_find 17 = .ok (.sipush 1024, 3) := by decide +kernel
theorem d_P_find_20 : decode b_P_find 20 = .ok (.if_icmp .gt 39, 3) := by decide +kernel
theorem d_P_find_23 : decode b_P_find 23 = .ok (.iload_n 3, 1) := by decide +kernel
theorem d_P_find_24 : decode b_P_find 24 = .ok (.iload_n 3, 1) := by decide +kernel
theorem d_P_find_25 : decode b_P_find 25 = .ok (.imul, 1) := by decide +kernel
theorem d_P_find_26 : decode b_P_find 26 = .ok (.iload_n 2, 1) := by decide +kernel
theorem d_P_find_27 : decode b_P_find 27 = .ok (.if_icmp .gt 32, 3) := by decide +kernel
theorem d_P_find_30 : decode b_P_find 30 = .ok (.iload_n 2, 1) := by decide +kernel
theorem d_P_find_31 : decode b_P_find 31 = .ok (.i2l, 1) := by decide +kernel
theorem d_P_find_32 : decode b_P_find 32 = .ok (.iload_n 3, 1) := by decide +kernel
theorem d_P_find_33 : decode b_P_find 33 = .ok (.i2l, 1) := by decide +kernel
theorem d_P_find_34 : decode b_P_find 34 = .ok (.invokestatic 29, 3) := by decide +kernel
theorem d_P_find_37 : decode b_P_find 37 = .ok (.lconst 0, 1) := by decide +kernel
theorem d_P_find_38 : decode b_P_find 38 = .ok (.lcmp, 1) := by decide +kernel
theorem d_P_find_39 : decode b_P_find 39 = .ok (.ifCond .ne 14, 3) := by decide +kernel
theorem d_P_find_42 : decode b_P_find 42 = .ok (.aload_n 0, 1) := by decide +kernel
theorem d_P_find_43 : decode b_P_find 43 = .ok (.iload_n 3, 1) := by decide +kernel
theorem d_P_find_44 : decode b_P_find 44 = .ok (.invokevirtual 33, 3) := by decide +kernel
theorem d_P_find_47 : decode b_P_find 47 = .ok (.iload_n 3, 1) := by decide +kernel
theorem d_P_find_48 : decode b_P_find 48 = .ok (.iload_n 2, 1) := by decide +kernel
theorem d_P_find_49 : decode b_P_find 49 = .ok (.invokestatic 25, 3) := by decide +kernel
theorem d_P_find_52 : decode b_P_find 52 = .ok (.istore_n 2, 1) := by decide +kernel
theorem d_P_find_53 : decode b_P_find 53 = .ok (.iinc 3 2, 3) := by decide +kernel
theorem d_P_find_56 : decode b_P_find 56 = .ok (.goto (-40), 3) := by decide +kernel
theorem d_P_find_59 : decode b_P_find 59 = .ok (.iload_n 2, 1) := by decide +kernel
theorem d_P_find_60 : decode b_P_find 60 = .ok (.iconst 1, 1) := by decide +kernel
theorem d_P_find_61 : decode b_P_find 61 = .ok (.if_icmp .le 8, 3) := by decide +kernel
theorem d_P_find_64 : decode b_P_find 64 = .ok (.aload_n 0, 1) := by decide +kernel
theorem d_P_find_65 : decode b_P_find 65 = .ok (.iload_n 2, 1) := by decide +kernel
theorem d_P_find_66 : decode b_P_find 66 = .ok (.invokevirtual 33, 3) := by decide +kernel
theorem d_P_find_69 : decode b_P_find 69 = .ok (.return_, 1) := by decide +kernel
theorem d_P_append_0 : decode b_P_append 0 = .ok (.aload_n 0, 1) := by decide +kernel
theorem d_P_append_1 : decode b_P_append 1 = .ok (.getfield 15, 3) := by decide +kernel
theorem d_P_append_4 : decode b_P_append 4 = .ok (.bipush 6, 2) := by decide +kernel
theorem d_P_append_6 : decode b_P_append 6 = .ok (.if_icmp .ge 23, 3) := by decide +kernel
theorem d_P_append_9 : decode b_P_append 9 = .ok (.aload_n 0, 1) := by decide +kernel
theorem d_P_append_10 : decode b_P_append 10 = .ok (.getfield 9, 3) := by decide +kernel
theorem d_P_append_13 : decode b_P_append 13 = .ok (.aload_n 0, 1) := by decide +kernel
theorem d_P_append_14 : decode b_P_append 14 = .ok (.getfield 15, 3) := by decide +kernel
theorem d_P_append_17 : decode b_P_append 17 = .ok (.iload_n 1, 1) := by decide +kernel
theorem d_P_append_18 : decode b_P_append 18 = .ok (.iastore, 1) := by decide +kernel
theorem d_P_append_19 : decode b_P_append 19 = .ok (.aload_n 0, 1) := by decide +kernel
theorem d_P_append_20 : decode b_P_append 20 = .ok (.dup, 1) := by decide +kernel
theorem d_P_append_21 : decode b_P_append 21 = .ok (.getfield 15, 3) := by decide +kernel
theorem d_P_append_24 : decode b_P_append 24 = .ok (.iconst 1, 1) := by decide +kernel
theorem d_P_append_25 : decode b_P_append 25 = .ok (.iadd, 1) := by decide +kernel
theorem d_P_append_26 : decode b_P_append 26 = .ok (.putfield 15, 3) := by decide +kernel
theorem d_P_append_29 : decode b_P_append 29 = .ok (.return_, 1) := by decide +kernel
theorem d_P_has_0 : decode b_P_has 0 = .ok (.iload_n 1, 1) := by decide +kernel
theorem d_P_has_1 : decode b_P_has 1 = .ok (.ifCond .lt 15, 3) := by decide +kernel
theorem d_P_has_4 : decode b_P_has 4 = .ok (.iload_n 1, 1) := by decide +kernel
theorem d_P_has_5 : decode b_P_has 5 = .ok (.aload_n 0, 1) := by decide +kernel
theorem d_P_has_6 : decode b_P_has 6 = .ok (.getfield 15, 3) := by decide +kernel
theorem d_P_has_9 : decode b_P_has 9 = .ok (.if_icmp .ge 7, 3) := by decide +kernel
theorem d_P_has_12 : decode b_P_has 12 = .ok (.iconst 1, 1) := by decide +kernel
theorem d_P_has_13 : decode b_P_has 13 = .ok (.goto 4, 3) := by decide +kernel
theorem d_P_has_16 : decode b_P_has 16 = .ok (.iconst 0, 1) := by decide +kernel
theorem d_P_has_17 : decode b_P_has 17 = .ok (.ireturn, 1) := by decide +kernel
theorem d_P_at_0 : decode b_P_at 0 = .ok (.aload_n 0, 1) := by decide +kernel
theorem d_P_at_1 : decode b_P_at 1 = .ok (.iload_n 1, 1) := by decide +kernel
theorem d_P_at_2 : decode b_P_at 2 = .ok (.invokevirtual 37, 3) := by decide +kernel
theorem d_P_at_5 : decode b_P_at 5 = .ok (.ifCond .eq 12, 3) := by decide +kernel
theorem d_P_at_8 : decode b_P_at 8 = .ok (.aload_n 0, 1) := by decide +kernel
theorem d_P_at_9 : decode b_P_at 9 = .ok (.getfield 9, 3) := by decide +kernel
theorem d_P_at_12 : decode b_P_at 12 = .ok (.iload_n 1, 1) := by decide +kernel
theorem d_P_at_13 : decode b_P_at 13 = .ok (.iaload, 1) := by decide +kernel
theorem d_P_at_14 : decode b_P_at 14 = .ok (.goto 4, 3) := by decide +kernel
theorem d_P_at_17 : decode b_P_at 17 = .ok (.iconst 0, 1) := by decide +kernel
theorem d_P_at_18 : decode b_P_at 18 = .ok (.ireturn, 1) := by decide +kernel
theorem d_P_without_0 : decode b_P_without 0 = .ok (.iload_n 1, 1) := by decide +kernel
theorem d_P_without_1 : decode b_P_without 1 = .ok (.istore_n 2, 1) := by decide +kernel
theorem d_P_without_2 : decode b_P_without 2 = .ok (.iconst 0, 1) := by decide +kernel
theorem d_P_without_3 : decode b_P_without 3 = .ok (.istore_n 3, 1) := by decide +kernel
theorem d_P_without_4 : decode b_P_without 4 = .ok (.iload_n 3, 1) := by decide +kernel
theorem d_P_without_5 : decode b_P_without 5 = .ok (.ldc 41, 2) := by decide +kernel
theorem d_P_without_7 : decode b_P_without 7 = .ok (.if_icmp .ge 30, 3) := by decide +kernel
theorem d_P_without_10 : decode b_P_without 10 = .ok (.iload_n 2, 1) := by decide +kernel
theorem d_P_without_11 : decode b_P_without 11 = .ok (.i2l, 1) := by decide +kernel
theorem d_P_without_12 : decode b_P_without 12 = .ok (.iload_n 0, 1) := by decide +kernel
theorem d_P_without_13 : decode b_P_without 13 = .ok (.i2l, 1) := by decide +kernel
theorem d_P_without_14 : decode b_P_without 14 = .ok (.invokestatic 29, 3) := by decide +kernel
theorem d_P_without_17 : decode b_P_without 17 = .ok (.lconst 0, 1) := by decide +kernel
theorem d_P_without_18 : decode b_P_without 18 = .ok (.lcmp, 1) := by decide +kernel
theorem d_P_without_19 : decode b_P_without 19 = .ok (.ifCond .ne 18, 3) := by decide +kernel
theorem d_P_without_22 : decode b_P_without 22 = .ok (.iload_n 2, 1) := by decide +kernel
theorem d_P_without_23 : decode b_P_without 23 = .ok (.i2l, 1) := by decide +kernel
theorem d_P_without_24 : decode b_P_without 24 = .ok (.iload_n 0, 1) := by decide +kernel
theorem d_P_without_25 : decode b_P_without 25 = .ok (.i2l, 1) := by decide +kernel
theorem d_P_without_26 : decode b_P_without 26 = .ok (.invokestatic 42, 3) := by decide +kernel
theorem d_P_without_29 : decode b_P_without 29 = .ok (.l2i, 1) := by decide +kernel
theorem d_P_without_30 : decode b_P_without 30 = .ok (.istore_n 2, 1) := by decide +kernel
theorem d_P_without_31 : decode b_P_without 31 = .ok (.iinc 3 1, 3) := by decide +kernel
theorem d_P_without_34 : decode b_P_without 34 = .ok (.goto (-30), 3) := by decide +kernel
theorem d_P_without_37 : decode b_P_without 37 = .ok (.iload_n 2, 1) := by decide +kernel
theorem d_P_without_38 : decode b_P_without 38 = .ok (.ireturn, 1) := by decide +kernel
theorem d_J_floorModI_0 : decode b_J_floorModI 0 = .ok (.iload_n 0, 1) := by decide +kernel
theorem d_J_floorModI_1 : decode b_J_floorModI 1 = .ok (.iload_n 1, 1) := by decide +kernel
theorem d_J_floorModI_2 : decode b_J_floorModI 2 = .ok (.irem, 1) := by decide +kernel
theorem d_J_floorModI_3 : decode b_J_floorModI 3 = .ok (.istore_n 2, 1) := by decide +kernel
theorem d_J_floorModI_4 : decode b_J_floorModI 4 = .ok (.iload_n 0, 1) := by decide +kernel
theorem d_J_floorModI_5 : decode b_J_floorModI 5 = .ok (.iload_n 1, 1) := by decide +kernel
theorem d_J_floorModI_6 : decode b_J_floorModI 6 = .ok (.ixor, 1) := by decide +kernel
theorem d_J_floorModI_7 : decode b_J_floorModI 7 = .ok (.ifCond .ge 11, 3) := by decide +kernel
theorem d_J_floorModI_10 : decode b_J_floorModI 10 = .ok (.iload_n 2, 1) := by decide +kernel
theorem d_J_floorModI_11 : decode b_J_floorModI 11 = .ok (.ifCond .eq 7, 3) := by decide +kernel
theorem d_J_floorModI_14 : decode b_J_floorModI 14 = .ok (.iload_n 2, 1) := by decide +kernel
theorem d_J_floorModI_15 : decode b_J_floorModI 15 = .ok (.iload_n 1, 1) := by decide +kernel
theorem d_J_floorModI_16 : decode b_J_floorModI 16 = .ok (.iadd, 1) := by decide +kernel
theorem d_J_floorModI_17 : decode b_J_floorModI 17 = .ok (.ireturn, 1) := by decide +kernel
theorem d_J_floorModI_18 : decode b_J_floorModI 18 = .ok (.iload_n 2, 1) := by decide +kernel
theorem d_J_floorModI_19 : decode b_J_floorModI 19 = .ok (.ireturn, 1) := by decide +kernel
theorem d_J_floorModJ_0 : decode b_J_floorModJ 0 = .ok (.lload_n 0, 1) := by decide +kernel
theorem d_J_floorModJ_1 : decode b_J_floorModJ 1 = .ok (.lload_n 2, 1) := by decide +kernel
theorem d_J_floorModJ_2 : decode b_J_floorModJ 2 = .ok (.lrem, 1) := by decide +kernel
theorem d_J_floorModJ_3 : decode b_J_floorModJ 3 = .ok (.lstore 4, 2) := by decide +kernel
theorem d_J_floorModJ_5 : decode b_J_floorModJ 5 = .ok (.lload_n 0, 1) := by decide +kernel
theorem d_J_floorModJ_6 : decode b_J_floorModJ 6 = .ok (.lload_n 2, 1) := by decide +kernel
theorem d_J_floorModJ_7 : decode b_J_floorModJ 7 = .ok (.lxor, 1) := by decide +kernel
theorem d_J_floorModJ_8 : decode b_J_floorModJ 8 = .ok (.lconst 0, 1) := by decide +kernel
theorem d_J_floorModJ_9 : decode b_J_floorModJ 9 = .ok (.lcmp, 1) := by decide +kernel
theorem d_J_floorModJ_10 : decode b_J_floorModJ 10 = .ok (.ifCond .ge 15, 3) := by decide +kernel
theorem d_J_floorModJ_13 : decode b_J_floorModJ 13 = .ok (.lload 4, 2) := by decide +kernel
theorem d_J_floorModJ_15 : decode b_J_floorModJ 15 = .ok (.lconst 0, 1) := by decide +kernel
theorem d_J_floorModJ_16 : decode b_J_floorModJ 16 = .ok (.lcmp, 1) := by decide +kernel
theorem d_J_floorModJ_17 : decode b_J_floorModJ 17 = .ok (.ifCond .eq 8, 3) := by decide +kernel
theorem d_J_floorModJ_20 : decode b_J_floorModJ 20 = .ok (.lload 4, 2) := by decide +kernel
theorem d_J_floorModJ_22 : decode b_J_floorModJ 22 = .ok (.lload_n 2, 1) := by decide +kernel
theorem d_J_floorModJ_23 : decode b_J_floorModJ 23 = .ok (.ladd, 1) := by decide +kernel
theorem d_J_floorModJ_24 : decode b_J_floorModJ 24 = .ok (.lreturn, 1) := by decide +kernel
theorem d_J_floorModJ_25 : decode b_J_floorModJ 25 = .ok (.lload 4, 2) := by decide +kernel
theorem d_J_floorModJ_27 : decode b_J_floorModJ 27 = .ok (.lreturn, 1) := by decide +kernel
