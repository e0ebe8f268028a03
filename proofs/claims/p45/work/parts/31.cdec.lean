theorem d_h_init_0 : decode c_h_init 0 = .ok (.aload_n 0, 1) := by decide +kernel
theorem d_h_init_1 : decode c_h_init 1 = .ok (.invokespecial 3, 3) := by decide +kernel
theorem d_h_init_4 : decode c_h_init 4 = .ok (.aload_n 0, 1) := by decide +kernel
theorem d_h_init_5 : decode c_h_init 5 = .ok (.new 9, 3) := by decide +kernel
theorem d_h_init_8 : decode c_h_init 8 = .ok (.dup, 1) := by decide +kernel
theorem d_h_init_9 : decode c_h_init 9 = .ok (.invokespecial 11, 3) := by decide +kernel
theorem d_h_init_12 : decode c_h_init 12 = .ok (.putfield 12, 3) := by decide +kernel
theorem d_h_init_15 : decode c_h_init 15 = .ok (.aload_n 0, 1) := by decide +kernel
theorem d_h_init_16 : decode c_h_init 16 = .ok (.new 9, 3) := by decide +kernel
theorem d_h_init_19 : decode c_h_init 19 = .ok (.dup, 1) := by decide +kernel
theorem d_h_init_20 : decode c_h_init 20 = .ok (.invokespecial 11, 3) := by decide +kernel
theorem d_h_init_23 : decode c_h_init 23 = .ok (.putfield 16, 3) := by decide +kernel
theorem d_h_init_26 : decode c_h_init 26 = .ok (.aload_n 0, 1) := by decide +kernel
theorem d_h_init_27 : decode c_h_init 27 = .ok (.new 9, 3) := by decide +kernel
theorem d_h_init_30 : decode c_h_init 30 = .ok (.dup, 1) := by decide +kernel
theorem d_h_init_31 : decode c_h_init 31 = .ok (.invokespecial 11, 3) := by decide +kernel
theorem d_h_init_34 : decode c_h_init 34 = .ok (.putfield 19, 3) := by decide +kernel
theorem d_h_init_37 : decode c_h_init 37 = .ok (.aload_n 0, 1) := by decide +kernel
theorem d_h_init_38 : decode c_h_init 38 = .ok (.new 9, 3) := by decide +kernel
theorem d_h_init_41 : decode c_h_init 41 = .ok (.dup, 1) := by decide +kernel
theorem d_h_init_42 : decode c_h_init 42 = .ok (.invokespecial 11, 3) := by decide +kernel
theorem d_h_init_45 : decode c_h_init 45 = .ok (.putfield 22, 3) := by decide +kernel
theorem d_h_init_48 : decode c_h_init 48 = .ok (.aload_n 0, 1) := by decide +kernel
theorem d_h_init_49 : decode c_h_init 49 = .ok (.bipush 32, 2) := by decide +kernel
theorem d_h_init_51 : decode c_h_init 51 = .ok (.anewarray 25, 3) := by decide +kernel
theorem d_h_init_54 : decode c_h_init 54 = .ok (.putfield 27, 3) := by decide +kernel
theorem d_h_init_57 : decode c_h_init 57 = .ok (.aload_n 0, 1) := by decide +kernel
theorem d_h_init_58 : decode c_h_init 58 = .ok (.new 9, 3) := by decide +kernel
theorem d_h_init_61 : decode c_h_init 61 = .ok (.dup, 1) := by decide +kernel
theorem d_h_init_62 : decode c_h_init 62 = .ok (.invokespecial 11, 3) := by decide +kernel
theorem d_h_init_65 : decode c_h_init 65 = .ok (.putfield 31, 3) := by decide +kernel
theorem d_h_init_68 : decode c_h_init 68 = .ok (.aload_n 0, 1) := by decide +kernel
theorem d_h_init_69 : decode c_h_init 69 = .ok (.bipush 28, 2) := by decide +kernel
theorem d_h_init_71 : decode c_h_init 71 = .ok (.newarray .int, 2) := by decide +kernel
theorem d_h_init_73 : decode c_h_init 73 = .ok (.putfield 34, 3) := by decide +kernel
theorem d_h_init_76 : decode c_h_init 76 = .ok (.aload_n 0, 1) := by decide +kernel
theorem d_h_init_77 : decode c_h_init 77 = .ok (.getfield 16, 3) := by decide +kernel
theorem d_h_init_80 : decode c_h_init 80 = .ok (.new 38, 3) := by decide +kernel
theorem d_h_init_83 : decode c_h_init 83 = .ok (.dup, 1) := by decide +kernel
theorem d_h_init_84 : decode c_h_init 84 = .ok (.aconst_null, 1) := by decide +kernel
theorem d_h_init_85 : decode c_h_init 85 = .ok (.sipush 10000, 3) := by decide +kernel
theorem d_h_init_88 : decode c_h_init 88 = .ok (.bipush 100, 2) := by decide +kernel
theorem d_h_init_90 : decode c_h_init 90 = .ok (.iconst 1, 1) := by decide +kernel
theorem d_h_init_91 : decode c_h_init 91 = .ok (.invokespecial 40, 3) := by decide +kernel
theorem d_h_init_94 : decode c_h_init 94 = .ok (.invokevirtual 43, 3) := by decide +kernel
theorem d_h_init_97 : decode c_h_init 97 = .ok (.pop, 1) := by decide +kernel
theorem d_h_init_98 : decode c_h_init 98 = .ok (.return_, 1) := by decide +kernel
theorem d_al_init_0 : decode c_al_init 0 = .ok (.aload_n 0, 1) := by decide +kernel
theorem d_al_init_1 : decode c_al_init 1 = .ok (.invokespecial 1, 3) := by decide +kernel
theorem d_al_init_4 : decode c_al_init 4 = .ok (.aload_n 0, 1) := by decide +kernel
theorem d_al_init_5 : decode c_al_init 5 = .ok (.getstatic 39, 3) := by decide +kernel
theorem d_al_init_8 : decode c_al_init 8 = .ok (.putfield 9, 3) := by decide +kernel
theorem d_al_init_11 : decode c_al_init 11 = .ok (.return_, 1) := by decide +kernel
theorem d_abl_init_0 : decode c_abl_init 0 = .ok (.aload_n 0, 1) := by decide +kernel
theorem d_abl_init_1 : decode c_abl_init 1 = .ok (.invokespecial 1, 3) := by decide +kernel
theorem d_abl_init_4 : decode c_abl_init 4 = .ok (.aload_n 0, 1) := by decide +kernel
theorem d_abl_init_5 : decode c_abl_init 5 = .ok (.iconst 0, 1) := by decide +kernel
theorem d_abl_init_6 : decode c_abl_init 6 = .ok (.putfield 7, 3) := by decide +kernel
theorem d_abl_init_9 : decode c_abl_init 9 = .ok (.return_, 1) := by decide +kernel
theorem d_abc_init_0 : decode c_abc_init 0 = .ok (.aload_n 0, 1) := by decide +kernel
theorem d_abc_init_1 : decode c_abc_init 1 = .ok (.invokespecial 1, 3) := by decide +kernel
theorem d_abc_init_4 : decode c_abc_init 4 = .ok (.return_, 1) := by decide +kernel
theorem d_g_init_0 : decode c_g_init 0 = .ok (.aload_n 0, 1) := by decide +kernel
theorem d_g_init_1 : decode c_g_init 1 = .ok (.iload 4, 2) := by decide +kernel
theorem d_g_init_3 : decode c_g_init 3 = .ok (.invokespecial 1, 3) := by decide +kernel
theorem d_g_init_6 : decode c_g_init 6 = .ok (.aload_n 0, 1) := by decide +kernel
theorem d_g_init_7 : decode c_g_init 7 = .ok (.aload_n 1, 1) := by decide +kernel
theorem d_g_init_8 : decode c_g_init 8 = .ok (.putfield 7, 3) := by decide +kernel
theorem d_g_init_11 : decode c_g_init 11 = .ok (.aload_n 0, 1) := by decide +kernel
theorem d_g_init_12 : decode c_g_init 12 = .ok (.iload_n 2, 1) := by decide +kernel
theorem d_g_init_13 : decode c_g_init 13 = .ok (.putfield 13, 3) := by decide +kernel
theorem d_g_init_16 : decode c_g_init 16 = .ok (.aload_n 0, 1) := by decide +kernel
theorem d_g_init_17 : decode c_g_init 17 = .ok (.iload_n 3, 1) := by decide +kernel
theorem d_g_init_18 : decode c_g_init 18 = .ok (.putfield 17, 3) := by decide +kernel
theorem d_g_init_21 : decode c_g_init 21 = .ok (.return_, 1) := by decide +kernel
theorem d_p_init_0 : decode c_p_init 0 = .ok (.aload_n 0, 1) := by decide +kernel
theorem d_p_init_1 : decode c_p_init 1 = .ok (.invokespecial 1, 3) := by decide +kernel
theorem d_p_init_4 : decode c_p_init 4 = .ok (.aload_n 0, 1) := by decide +kernel
theorem d_p_init_5 : decode c_p_init 5 = .ok (.iload_n 1, 1) := by decide +kernel
theorem d_p_init_6 : decode c_p_init 6 = .ok (.putfield 7, 3) := by decide +kernel
theorem d_p_init_9 : decode c_p_init 9 = .ok (.return_, 1) := by decide +kernel
theorem d_al_add_ngObject21_0 : decode c_al_add_ngObject21 0 = .ok (.aload_n 0, 1) := by decide +kernel
theorem d_al_add_ngObject21_1 : decode c_al_add_ngObject21 1 = .ok (.dup, 1) := by decide +kernel
theorem d_al_add_ngObject21_2 : decode c_al_add_ngObject21 2 = .ok (.getfield 63, 3) := by decide +kernel
theorem d_al_add_ngObject21_5 : decode c_al_add_ngObject21 5 = .ok (.iconst 1, 1) := by decide +kernel
theorem d_al_add_ngObject21_6 : decode c_al_add_ngObject21 6 = .ok (.iadd, 1) := by decide +kernel
theorem d_al_add_ngObject21_7 : decode c_al_add_ngObject21 7 = .ok (.putfield 63, 3) := by decide +kernel
theorem d_al_add_ngObject21_10 : decode c_al_add_ngObject21 10 = .ok (.aload_n 0, 1) := by decide +kernel
theorem d_al_add_ngObject21_11 : decode c_al_add_ngObject21 11 = .ok (.aload_n 1, 1) := by decide +kernel
theorem d_al_add_ngObject21_12 : decode c_al_add_ngObject21 12 = .ok (.aload_n 0, 1) := by decide +kernel
theorem d_al_add_ngObject21_13 : decode c_al_add_ngObject21 13 = .ok (.getfield 9, 3) := by decide +kernel
theorem d_al_add_ngObject21_16 : decode c_al_add_ngObject21 16 = .ok (.aload_n 0, 1) := by decide +kernel
theorem d_al_add_ngObject21_17 : decode c_al_add_ngObject21 17 = .ok (.getfield 48, 3) := by decide +kernel
theorem d_al_add_ngObject21_20 : decode c_al_add_ngObject21 20 = .ok (.invokevirtual 131, 3) := by decide +kernel
theorem d_al_add_ngObject21_23 : decode c_al_add_ngObject21 23 = .ok (.iconst 1, 1) := by decide +kernel
theorem d_al_add_ngObject21_24 : decode c_al_add_ngObject21 24 = .ok (.ireturn, 1) := by decide +kernel
theorem d_al_add_gObjectI41_0 : decode c_al_add_gObjectI41 0 = .ok (.iload_n 3, 1) := by decide +kernel
theorem d_al_add_gObjectI41_1 : decode c_al_add_gObjectI41 1 = .ok (.aload_n 2, 1) := by decide +kernel
theorem d_al_add_gObjectI41_2 : decode c_al_add_gObjectI41 2 = .ok (.arraylength, 1) := by decide +kernel
theorem d_al_add_gObjectI41_3 : decode c_al_add_gObjectI41 3 = .ok (.if_icmp .ne 8, 3) := by decide +kernel
theorem d_al_add_gObjectI41_6 : decode c_al_add_gObjectI41 6 = .ok (.aload_n 0, 1) := by decide +kernel
theorem d_al_add_gObjectI41_7 : decode c_al_add_gObjectI41 7 = .ok (.invokevirtual 129, 3) := by decide +kernel
theorem d_al_add_gObjectI41_10 : decode c_al_add_gObjectI41 10 = .ok (.astore_n 2, 1) := by decide +kernel
theorem d_al_add_gObjectI41_11 : decode c_al_add_gObjectI41 11 = .ok (.aload_n 2, 1) := by decide +kernel
theorem d_al_add_gObjectI41_12 : decode c_al_add_gObjectI41 12 = .ok (.iload_n 3, 1) := by decide +kernel
theorem d_al_add_gObjectI41_13 : decode c_al_add_gObjectI41 13 = .ok (.aload_n 1, 1) := by decide +kernel
theorem d_al_add_gObjectI41_14 : decode c_al_add_gObjectI41 14 = .ok (.aastore, 1) := by decide +kernel
theorem d_al_add_gObjectI41_15 : decode c_al_add_gObjectI41 15 = .ok (.aload_n 0, 1) := by decide +kernel
theorem d_al_add_gObjectI41_16 : decode c_al_add_gObjectI41 16 = .ok (.iload_n 3, 1) := by decide +kernel
theorem d_al_add_gObjectI41_17 : decode c_al_add_gObjectI41 17 = .ok (.iconst 1, 1) := by decide +kernel
theorem d_al_add_gObjectI41_18 : decode c_al_add_gObjectI41 18 = .ok (.iadd, 1) := by decide +kernel
theorem d_al_add_gObjectI41_19 : decode c_al_add_gObjectI41 19 = .ok (.putfield 48, 3) := by decide +kernel
theorem d_al_add_gObjectI41_22 : decode c_al_add_gObjectI41 22 = .ok (.return_, 1) := by decide +kernel
theorem d_al_grow_21_0 : decode c_al_grow_21 0 = .ok (.aload_n 0, 1) := by decide +kernel
theorem d_al_grow_21_1 : decode c_al_grow_21 1 = .ok (.aload_n 0, 1) := by decide +kernel
theorem d_al_grow_21_2 : decode c_al_grow_21 2 = .ok (.getfield 48, 3) := by decide +kernel
theorem d_al_grow_21_5 : decode c_al_grow_21 5 = .ok (.iconst 1, 1) := by decide +kernel
theorem d_al_grow_21_6 : decode c_al_grow_21 6 = .ok (.iadd, 1) := by decide +kernel
theorem d_al_grow_21_7 : decode c_al_grow_21 7 = .ok (.invokevirtual 69, 3) := by decide +kernel
theorem d_al_grow_21_10 : decode c_al_grow_21 10 = .ok (.areturn, 1) := by decide +kernel
theorem d_al_grow_I22_0 : decode c_al_grow_I22 0 = .ok (.aload_n 0, 1) := by decide +kernel
theorem d_al_grow_I22_1 : decode c_al_grow_I22 1 = .ok (.getfield 9, 3) := by decide +kernel
theorem d_al_grow_I22_4 : decode c_al_grow_I22 4 = .ok (.arraylength, 1) := by decide +kernel
theorem d_al_grow_I22_5 : decode c_al_grow_I22 5 = .ok (.istore_n 2, 1) := by decide +kernel
theorem d_al_grow_I22_6 : decode c_al_grow_I22 6 = .ok (.iload_n 2, 1) := by decide +kernel
theorem d_al_grow_I22_7 : decode c_al_grow_I22 7 = .ok (.ifCond .gt 13, 3) := by decide +kernel
theorem d_al_grow_I22_10 : decode c_al_grow_I22 10 = .ok (.aload_n 0, 1) := by decide +kernel
theorem d_al_grow_I22_11 : decode c_al_grow_I22 11 = .ok (.getfield 9, 3) := by decide +kernel
theorem d_al_grow_I22_14 : decode c_al_grow_I22 14 = .ok (.getstatic 39, 3) := by decide +kernel
theorem d_al_grow_I22_17 : decode c_al_grow_I22 17 = .ok (.if_acmp .eq 28, 3) := by decide +kernel
theorem d_al_grow_I22_20 : decode c_al_grow_I22 20 = .ok (.iload_n 2, 1) := by decide +kernel
theorem d_al_grow_I22_21 : decode c_al_grow_I22 21 = .ok (.iload_n 1, 1) := by decide +kernel
theorem d_al_grow_I22_22 : decode c_al_grow_I22 22 = .ok (.iload_n 2, 1) := by decide +kernel
theorem d_al_grow_I22_23 : decode c_al_grow_I22 23 = .ok (.isub, 1) := by decide +kernel
theorem d_al_grow_I22_24 : decode c_al_grow_I22 24 = .ok (.iload_n 2, 1) := by decide +kernel
theorem d_al_grow_I22_25 : decode c_al_grow_I22 25 = .ok (.iconst 1, 1) := by decide +kernel
theorem d_al_grow_I22_26 : decode c_al_grow_I22 26 = .ok (.ishr, 1) := by decide +kernel
theorem d_al_grow_I22_27 : decode c_al_grow_I22 27 = .ok (.invokestatic 73, 3) := by decide +kernel
theorem d_al_grow_I22_30 : decode c_al_grow_I22 30 = .ok (.istore_n 3, 1) := by decide +kernel
theorem d_al_grow_I22_31 : decode c_al_grow_I22 31 = .ok (.aload_n 0, 1) := by decide +kernel
theorem d_al_grow_I22_32 : decode c_al_grow_I22 32 = .ok (.aload_n 0, 1) := by decide +kernel
theorem d_al_grow_I22_33 : decode c_al_grow_I22 33 = .ok (.getfield 9, 3) := by decide +kernel
theorem d_al_grow_I22_36 : decode c_al_grow_I22 36 = .ok (.iload_n 3, 1) := by decide +kernel
theorem d_al_grow_I22_37 : decode c_al_grow_I22 37 = .ok (.invokestatic 66, 3) := by decide +kernel
theorem d_al_grow_I22_40 : decode c_al_grow_I22 40 = .ok (.dup_x1, 1) := by decide +kernel
theorem d_al_grow_I22_41 : decode c_al_grow_I22 41 = .ok (.putfield 9, 3) := by decide +kernel
theorem d_al_grow_I22_44 : decode c_al_grow_I22 44 = .ok (.areturn, 1) := by decide +kernel
theorem d_al_grow_I22_45 : decode c_al_grow_I22 45 = .ok (.aload_n 0, 1) := by decide +kernel
theorem d_al_grow_I22_46 : decode c_al_grow_I22 46 = .ok (.bipush 10, 2) := by decide +kernel
theorem d_al_grow_I22_48 : decode c_al_grow_I22 48 = .ok (.iload_n 1, 1) := by decide +kernel
theorem d_al_grow_I22_49 : decode c_al_grow_I22 49 = .ok (.invokestatic 79, 3) := by decide +kernel
theorem d_al_grow_I22_52 : decode c_al_grow_I22 52 = .ok (.anewarray 7, 3) := by decide +kernel
theorem d_al_grow_I22_55 : decode c_al_grow_I22 55 = .ok (.dup_x1, 1) := by decide +kernel
theorem d_al_grow_I22_56 : decode c_al_grow_I22 56 = .ok (.putfield 9, 3) := by decide +kernel
theorem d_al_grow_I22_59 : decode c_al_grow_I22 59 = .ok (.areturn, 1) := by decide +kernel
theorem d_as_newLength_0 : decode c_as_newLength 0 = .ok (.iload_n 0, 1) := by decide +kernel
theorem d_as_newLength_1 : decode c_as_newLength 1 = .ok (.iload_n 1, 1) := by decide +kernel
theorem d_as_newLength_2 : decode c_as_newLength 2 = .ok (.iload_n 2, 1) := by decide +kernel
theorem d_as_newLength_3 : decode c_as_newLength 3 = .ok (.invokestatic 194, 3) := by decide +kernel
theorem d_as_newLength_6 : decode c_as_newLength 6 = .ok (.iadd, 1) := by decide +kernel
theorem d_as_newLength_7 : decode c_as_newLength 7 = .ok (.istore_n 3, 1) := by decide +kernel
theorem d_as_newLength_8 : decode c_as_newLength 8 = .ok (.iconst 0, 1) := by decide +kernel
theorem d_as_newLength_9 : decode c_as_newLength 9 = .ok (.iload_n 3, 1) := by decide +kernel
theorem d_as_newLength_10 : decode c_as_newLength 10 = .ok (.if_icmp .ge 11, 3) := by decide +kernel
theorem d_as_newLength_13 : decode c_as_newLength 13 = .ok (.iload_n 3, 1) := by decide +kernel
theorem d_as_newLength_14 : decode c_as_newLength 14 = .ok (.ldc 200, 2) := by decide +kernel
theorem d_as_newLength_16 : decode c_as_newLength 16 = .ok (.if_icmp .gt 5, 3) := by decide +kernel
theorem d_as_newLength_19 : decode c_as_newLength 19 = .ok (.iload_n 3, 1) := by decide +kernel
theorem d_as_newLength_20 : decode c_as_newLength 20 = .ok (.ireturn, 1) := by decide +kernel
theorem d_as_newLength_21 : decode c_as_newLength 21 = .ok (.iload_n 0, 1) := by decide +kernel
theorem d_as_newLength_22 : decode c_as_newLength 22 = .ok (.iload_n 1, 1) := by decide +kernel
theorem d_as_newLength_23 : decode c_as_newLength 23 = .ok (.invokestatic 201, 3) := by decide +kernel
theorem d_as_newLength_26 : decode c_as_newLength 26 = .ok (.ireturn, 1) := by decide +kernel
theorem d_ma_max_0 : decode c_ma_max 0 = .ok (.iload_n 0, 1) := by decide +kernel
theorem d_ma_max_1 : decode c_ma_max 1 = .ok (.iload_n 1, 1) := by decide +kernel
theorem d_ma_max_2 : decode c_ma_max 2 = .ok (.if_icmp .lt 7, 3) := by decide +kernel
theorem d_ma_max_5 : decode c_ma_max 5 = .ok (.iload_n 0, 1) := by decide +kernel
theorem d_ma_max_6 : decode c_ma_max 6 = .ok (.goto 4, 3) := by decide +kernel
theorem d_ma_max_9 : decode c_ma_max 9 = .ok (.iload_n 1, 1) := by decide +kernel
theorem d_ma_max_10 : decode c_ma_max 10 = .ok (.ireturn, 1) := by decide +kernel
theorem d_ar_copyOf_gObjectI41_0 : decode c_ar_copyOf_gObjectI41 0 = .ok (.aload_n 0, 1) := by decide +kernel
theorem d_ar_copyOf_gObjectI41_1 : decode c_ar_copyOf_gObjectI41 1 = .ok (.iload_n 1, 1) := by decide +kernel
theorem d_ar_copyOf_gObjectI41_2 : decode c_ar_copyOf_gObjectI41 2 = .ok (.aload_n 0, 1) := by decide +kernel
theorem d_ar_copyOf_gObjectI41_3 : decode c_ar_copyOf_gObjectI41 3 = .ok (.invokevirtual 86, 3) := by decide +kernel
theorem d_ar_copyOf_gObjectI41_6 : decode c_ar_copyOf_gObjectI41 6 = .ok (.invokestatic 300, 3) := by decide +kernel
theorem d_ar_copyOf_gObjectI41_9 : decode c_ar_copyOf_gObjectI41 9 = .ok (.areturn, 1) := by decide +kernel
theorem d_ar_copyOf_angClass58_0 : decode c_ar_copyOf_angClass58 0 = .ok (.aload_n 2, 1) := by decide +kernel
theorem d_ar_copyOf_angClass58_1 : decode c_ar_copyOf_angClass58 1 = .ok (.ldc 110, 2) := by decide +kernel
theorem d_ar_copyOf_angClass58_3 : decode c_ar_copyOf_angClass58 3 = .ok (.if_acmp .ne 10, 3) := by decide +kernel
theorem d_ar_copyOf_angClass58_6 : decode c_ar_copyOf_angClass58 6 = .ok (.iload_n 1, 1) := by decide +kernel
theorem d_ar_copyOf_angClass58_7 : decode c_ar_copyOf_angClass58 7 = .ok (.anewarray 2, 3) := by decide +kernel
theorem d_ar_copyOf_angClass58_10 : decode c_ar_copyOf_angClass58 10 = .ok (.goto 14, 3) := by decide +kernel
theorem d_ar_copyOf_angClass58_13 : decode c_ar_copyOf_angClass58 13 = .ok (.aload_n 2, 1) := by decide +kernel
theorem d_ar_copyOf_angClass58_14 : decode c_ar_copyOf_angClass58 14 = .ok (.invokevirtual 90, 3) := by decide +kernel
theorem d_ar_copyOf_angClass58_17 : decode c_ar_copyOf_angClass58 17 = .ok (.iload_n 1, 1) := by decide +kernel
theorem d_ar_copyOf_angClass58_18 : decode c_ar_copyOf_angClass58 18 = .ok (.invokestatic 95, 3) := by decide +kernel
theorem d_ar_copyOf_angClass58_21 : decode c_ar_copyOf_angClass58 21 = .ok (.checkcast 110, 3) := by decide +kernel
theorem d_ar_copyOf_angClass58_24 : decode c_ar_copyOf_angClass58 24 = .ok (.astore_n 3, 1) := by decide +kernel
theorem d_ar_copyOf_angClass58_25 : decode c_ar_copyOf_angClass58 25 = .ok (.aload_n 0, 1) := by decide +kernel
theorem d_ar_copyOf_angClass58_26 : decode c_ar_copyOf_angClass58 26 = .ok (.iconst 0, 1) := by decide +kernel
theorem d_ar_copyOf_angClass58_27 : decode c_ar_copyOf_angClass58 27 = .ok (.aload_n 3, 1) := by decide +kernel
theorem d_ar_copyOf_angClass58_28 : decode c_ar_copyOf_angClass58 28 = .ok (.iconst 0, 1) := by decide +kernel
theorem d_ar_copyOf_angClass58_29 : decode c_ar_copyOf_angClass58 29 = .ok (.aload_n 0, 1) := by decide +kernel
theorem d_ar_copyOf_angClass58_30 : decode c_ar_copyOf_angClass58 30 = .ok (.arraylength, 1) := by decide +kernel
theorem d_ar_copyOf_angClass58_31 : decode c_ar_copyOf_angClass58 31 = .ok (.iload_n 1, 1) := by decide +kernel
theorem d_ar_copyOf_angClass58_32 : decode c_ar_copyOf_angClass58 32 = .ok (.invokestatic 304, 3) := by decide +kernel
theorem d_ar_copyOf_angClass58_35 : decode c_ar_copyOf_angClass58 35 = .ok (.invokestatic 150, 3) := by decide +kernel
theorem d_ar_copyOf_angClass58_38 : decode c_ar_copyOf_angClass58 38 = .ok (.aload_n 3, 1) := by decide +kernel
theorem d_ar_copyOf_angClass58_39 : decode c_ar_copyOf_angClass58 39 = .ok (.areturn, 1) := by decide +kernel
theorem d_ma_min_0 : decode c_ma_min 0 = .ok (.iload_n 0, 1) := by decide +kernel
theorem d_ma_min_1 : decode c_ma_min 1 = .ok (.iload_n 1, 1) := by decide +kernel
theorem d_ma_min_2 : decode c_ma_min 2 = .ok (.if_icmp .gt 7, 3) := by decide +kernel
theorem d_ma_min_5 : decode c_ma_min 5 = .ok (.iload_n 0, 1) := by decide +kernel
theorem d_ma_min_6 : decode c_ma_min 6 = .ok (.goto 4, 3) := by decide +kernel
theorem d_ma_min_9 : decode c_ma_min 9 = .ok (.iload_n 1, 1) := by decide +kernel
theorem d_ma_min_10 : decode c_ma_min 10 = .ok (.ireturn, 1) := by decide +kernel
theorem d_h_containers_0 : decode c_h_containers 0 = .ok (.aload_n 0, 1) := by decide +kernel
theorem d_h_containers_1 : decode c_h_containers 1 = .ok (.getfield 19, 3) := by decide +kernel
theorem d_h_containers_4 : decode c_h_containers 4 = .ok (.invokevirtual 147, 3) := by decide +kernel
theorem d_h_containers_7 : decode c_h_containers 7 = .ok (.ireturn, 1) := by decide +kernel
theorem d_al_size_0 : decode c_al_size 0 = .ok (.aload_n 0, 1) := by decide +kernel
theorem d_al_size_1 : decode c_al_size 1 = .ok (.getfield 48, 3) := by decide +kernel
theorem d_al_size_4 : decode c_al_size 4 = .ok (.ireturn, 1) := by decide +kernel
theorem d_h_newImage_0 : decode c_h_newImage 0 = .ok (.iload_n 1, 1) := by decide +kernel
theorem d_h_newImage_1 : decode c_h_newImage 1 = .ok (.iconst (-1), 1) := by decide +kernel
theorem d_h_newImage_2 : decode c_h_newImage 2 = .ok (.if_icmp .ne 7, 3) := by decide +kernel
theorem d_h_newImage_5 : decode c_h_newImage 5 = .ok (.aconst_null, 1) := by decide +kernel
theorem d_h_newImage_6 : decode c_h_newImage 6 = .ok (.goto 11, 3) := by decide +kernel
theorem d_h_newImage_9 : decode c_h_newImage 9 = .ok (.aload_n 0, 1) := by decide +kernel
theorem d_h_newImage_10 : decode c_h_newImage 10 = .ok (.iload_n 1, 1) := by decide +kernel
theorem d_h_newImage_11 : decode c_h_newImage 11 = .ok (.invokevirtual 47, 3) := by decide +kernel
theorem d_h_newImage_14 : decode c_h_newImage 14 = .ok (.invokestatic 51, 3) := by decide +kernel
theorem d_h_newImage_17 : decode c_h_newImage 17 = .ok (.astore_n 2, 1) := by decide +kernel
theorem d_h_newImage_18 : decode c_h_newImage 18 = .ok (.aload_n 0, 1) := by decide +kernel
theorem d_h_newImage_19 : decode c_h_newImage 19 = .ok (.invokevirtual 55, 3) := by decide +kernel
theorem d_h_newImage_22 : decode c_h_newImage 22 = .ok (.aload_n 0, 1) := by decide +kernel
theorem d_h_newImage_23 : decode c_h_newImage 23 = .ok (.new 58, 3) := by decide +kernel
theorem d_h_newImage_26 : decode c_h_newImage 26 = .ok (.dup, 1) := by decide +kernel
theorem d_h_newImage_27 : decode c_h_newImage 27 = .ok (.aload_n 2, 1) := by decide +kernel
theorem d_h_newImage_28 : decode c_h_newImage 28 = .ok (.invokespecial 60, 3) := by decide +kernel
theorem d_h_newImage_31 : decode c_h_newImage 31 = .ok (.iconst 0, 1) := by decide +kernel
theorem d_h_newImage_32 : decode c_h_newImage 32 = .ok (.invokevirtual 63, 3) := by decide +kernel
theorem d_h_newImage_35 : decode c_h_newImage 35 = .ok (.ireturn, 1) := by decide +kernel
theorem d_h_imageAt_0 : decode c_h_imageAt 0 = .ok (.iload_n 1, 1) := by decide +kernel
theorem d_h_imageAt_1 : decode c_h_imageAt 1 = .ok (.ifCond .lt 14, 3) := by decide +kernel
theorem d_h_imageAt_4 : decode c_h_imageAt 4 = .ok (.iload_n 1, 1) := by decide +kernel
theorem d_h_imageAt_5 : decode c_h_imageAt 5 = .ok (.aload_n 0, 1) := by decide +kernel
theorem d_h_imageAt_6 : decode c_h_imageAt 6 = .ok (.getfield 12, 3) := by decide +kernel
theorem d_h_imageAt_9 : decode c_h_imageAt 9 = .ok (.invokevirtual 147, 3) := by decide +kernel
theorem d_h_imageAt_12 : decode c_h_imageAt 12 = .ok (.if_icmp .lt 14, 3) := by decide +kernel
theorem d_h_imageAt_15 : decode c_h_imageAt 15 = .ok (.new 96, 3) := by decide +kernel
theorem d_h_imageAt_18 : decode c_h_imageAt 18 = .ok (.dup, 1) := by decide +kernel
theorem d_h_imageAt_19 : decode c_h_imageAt 19 = .ok (.ldc_w 325, 3) := by decide +kernel
theorem d_h_imageAt_22 : decode c_h_imageAt 22 = .ok (.invokespecial 100, 3) := by decide +kernel
theorem d_h_imageAt_25 : decode c_h_imageAt 25 = .ok (.athrow, 1) := by decide +kernel
theorem d_h_imageAt_26 : decode c_h_imageAt 26 = .ok (.aload_n 0, 1) := by decide +kernel
theorem d_h_imageAt_27 : decode c_h_imageAt 27 = .ok (.getfield 12, 3) := by decide +kernel
theorem d_h_imageAt_30 : decode c_h_imageAt 30 = .ok (.iload_n 1, 1) := by decide +kernel
theorem d_h_imageAt_31 : decode c_h_imageAt 31 = .ok (.invokevirtual 226, 3) := by decide +kernel
theorem d_h_imageAt_34 : decode c_h_imageAt 34 = .ok (.checkcast 80, 3) := by decide +kernel
theorem d_h_imageAt_37 : decode c_h_imageAt 37 = .ok (.areturn, 1) := by decide +kernel
theorem d_al_get_0 : decode c_al_get 0 = .ok (.iload_n 1, 1) := by decide +kernel
theorem d_al_get_1 : decode c_al_get 1 = .ok (.aload_n 0, 1) := by decide +kernel
theorem d_al_get_2 : decode c_al_get 2 = .ok (.getfield 48, 3) := by decide +kernel
theorem d_al_get_5 : decode c_al_get 5 = .ok (.invokestatic 118, 3) := by decide +kernel
theorem d_al_get_8 : decode c_al_get 8 = .ok (.pop, 1) := by decide +kernel
theorem d_al_get_9 : decode c_al_get 9 = .ok (.aload_n 0, 1) := by decide +kernel
theorem d_al_get_10 : decode c_al_get 10 = .ok (.iload_n 1, 1) := by decide +kernel
theorem d_al_get_11 : decode c_al_get 11 = .ok (.invokevirtual 123, 3) := by decide +kernel
theorem d_al_get_14 : decode c_al_get 14 = .ok (.areturn, 1) := by decide +kernel
theorem d_ob_checkIndex_0 : decode c_ob_checkIndex 0 = .ok (.iload_n 0, 1) := by decide +kernel
theorem d_ob_checkIndex_1 : decode c_ob_checkIndex 1 = .ok (.iload_n 1, 1) := by decide +kernel
theorem d_ob_checkIndex_2 : decode c_ob_checkIndex 2 = .ok (.aconst_null, 1) := by decide +kernel
theorem d_ob_checkIndex_3 : decode c_ob_checkIndex 3 = .ok (.invokestatic 105, 3) := by decide +kernel
theorem d_ob_checkIndex_6 : decode c_ob_checkIndex 6 = .ok (.ireturn, 1) := by decide +kernel
theorem d_pr_checkIndex_0 : decode c_pr_checkIndex 0 = .ok (.iload_n 0, 1) := by decide +kernel
theorem d_pr_checkIndex_1 : decode c_pr_checkIndex 1 = .ok (.ifCond .lt 8, 3) := by decide +kernel
theorem d_pr_checkIndex_4 : decode c_pr_checkIndex 4 = .ok (.iload_n 0, 1) := by decide +kernel
theorem d_pr_checkIndex_5 : decode c_pr_checkIndex 5 = .ok (.iload_n 1, 1) := by decide +kernel
theorem d_pr_checkIndex_6 : decode c_pr_checkIndex 6 = .ok (.if_icmp .lt 10, 3) := by decide +kernel
theorem d_pr_checkIndex_9 : decode c_pr_checkIndex 9 = .ok (.aload_n 2, 1) := by decide +kernel
theorem d_pr_checkIndex_10 : decode c_pr_checkIndex 10 = .ok (.iload_n 0, 1) := by decide +kernel
theorem d_pr_checkIndex_11 : decode c_pr_checkIndex 11 = .ok (.iload_n 1, 1) := by decide +kernel
theorem d_pr_checkIndex_12 : decode c_pr_checkIndex 12 = .ok (.invokestatic 95, 3) := by decide +kernel
theorem d_pr_checkIndex_15 : decode c_pr_checkIndex 15 = .ok (.athrow, 1) := by decide +kernel
theorem d_pr_checkIndex_16 : decode c_pr_checkIndex 16 = .ok (.iload_n 0, 1) := by decide +kernel
theorem d_pr_checkIndex_17 : decode c_pr_checkIndex 17 = .ok (.ireturn, 1) := by decide +kernel
theorem d_al_elementData_0 : decode c_al_elementData 0 = .ok (.aload_n 0, 1) := by decide +kernel
theorem d_al_elementData_1 : decode c_al_elementData 1 = .ok (.getfield 9, 3) := by decide +kernel
theorem d_al_elementData_4 : decode c_al_elementData 4 = .ok (.iload_n 1, 1) := by decide +kernel
theorem d_al_elementData_5 : decode c_al_elementData 5 = .ok (.aaload, 1) := by decide +kernel
theorem d_al_elementData_6 : decode c_al_elementData 6 = .ok (.areturn, 1) := by decide +kernel
theorem d_h_baseLayer_0 : decode c_h_baseLayer 0 = .ok (.aload_n 0, 1) := by decide +kernel
theorem d_h_baseLayer_1 : decode c_h_baseLayer 1 = .ok (.getfield 109, 3) := by decide +kernel
theorem d_h_baseLayer_4 : decode c_h_baseLayer 4 = .ok (.ifCond .eq 15, 3) := by decide +kernel
theorem d_h_baseLayer_7 : decode c_h_baseLayer 7 = .ok (.aload_n 0, 1) := by decide +kernel
theorem d_h_baseLayer_8 : decode c_h_baseLayer 8 = .ok (.getfield 79, 3) := by decide +kernel
theorem d_h_baseLayer_11 : decode c_h_baseLayer 11 = .ok (.getfield 113, 3) := by decide +kernel
theorem d_h_baseLayer_14 : decode c_h_baseLayer 14 = .ok (.bipush 8, 2) := by decide +kernel
theorem d_h_baseLayer_16 : decode c_h_baseLayer 16 = .ok (.if_icmp .lt 14, 3) := by decide +kernel
theorem d_h_baseLayer_19 : decode c_h_baseLayer 19 = .ok (.new 134, 3) := by decide +kernel
theorem d_h_baseLayer_22 : decode c_h_baseLayer 22 = .ok (.dup, 1) := by decide +kernel
theorem d_h_baseLayer_23 : decode c_h_baseLayer 23 = .ok (.ldc_w 361, 3) := by decide +kernel
theorem d_h_baseLayer_26 : decode c_h_baseLayer 26 = .ok (.invokespecial 138, 3) := by decide +kernel
theorem d_h_baseLayer_29 : decode c_h_baseLayer 29 = .ok (.athrow, 1) := by decide +kernel
theorem d_h_baseLayer_30 : decode c_h_baseLayer 30 = .ok (.aload_n 0, 1) := by decide +kernel
theorem d_h_baseLayer_31 : decode c_h_baseLayer 31 = .ok (.getfield 79, 3) := by decide +kernel
theorem d_h_baseLayer_34 : decode c_h_baseLayer 34 = .ok (.areturn, 1) := by decide +kernel
theorem d_h_requireImageSlot_0 : decode c_h_requireImageSlot 0 = .ok (.aload_n 0, 1) := by decide +kernel
theorem d_h_requireImageSlot_1 : decode c_h_requireImageSlot 1 = .ok (.getfield 12, 3) := by decide +kernel
theorem d_h_requireImageSlot_4 : decode c_h_requireImageSlot 4 = .ok (.invokevirtual 147, 3) := by decide +kernel
theorem d_h_requireImageSlot_7 : decode c_h_requireImageSlot 7 = .ok (.bipush 10, 2) := by decide +kernel
theorem d_h_requireImageSlot_9 : decode c_h_requireImageSlot 9 = .ok (.if_icmp .lt 14, 3) := by decide +kernel
theorem d_h_requireImageSlot_12 : decode c_h_requireImageSlot 12 = .ok (.new 134, 3) := by decide +kernel
theorem d_h_requireImageSlot_15 : decode c_h_requireImageSlot 15 = .ok (.dup, 1) := by decide +kernel
theorem d_h_requireImageSlot_16 : decode c_h_requireImageSlot 16 = .ok (.ldc_w 345, 3) := by decide +kernel
theorem d_h_requireImageSlot_19 : decode c_h_requireImageSlot 19 = .ok (.invokespecial 138, 3) := by decide +kernel
theorem d_h_requireImageSlot_22 : decode c_h_requireImageSlot 22 = .ok (.athrow, 1) := by decide +kernel
theorem d_h_requireImageSlot_23 : decode c_h_requireImageSlot 23 = .ok (.return_, 1) := by decide +kernel
theorem d_l_init_0 : decode c_l_init 0 = .ok (.aload_n 0, 1) := by decide +kernel
theorem d_l_init_1 : decode c_l_init 1 = .ok (.invokespecial 3, 3) := by decide +kernel
theorem d_l_init_4 : decode c_l_init 4 = .ok (.aload_n 0, 1) := by decide +kernel
theorem d_l_init_5 : decode c_l_init 5 = .ok (.bipush 32, 2) := by decide +kernel
theorem d_l_init_7 : decode c_l_init 7 = .ok (.newarray .int, 2) := by decide +kernel
theorem d_l_init_9 : decode c_l_init 9 = .ok (.putfield 9, 3) := by decide +kernel
theorem d_l_init_12 : decode c_l_init 12 = .ok (.aload_n 0, 1) := by decide +kernel
theorem d_l_init_13 : decode c_l_init 13 = .ok (.aload_n 1, 1) := by decide +kernel
theorem d_l_init_14 : decode c_l_init 14 = .ok (.putfield 15, 3) := by decide +kernel
theorem d_l_init_17 : decode c_l_init 17 = .ok (.aload_n 0, 1) := by decide +kernel
theorem d_l_init_18 : decode c_l_init 18 = .ok (.aload_n 1, 1) := by decide +kernel
theorem d_l_init_19 : decode c_l_init 19 = .ok (.ifnonnull 7, 3) := by decide +kernel
theorem d_l_init_22 : decode c_l_init 22 = .ok (.iconst 1, 1) := by decide +kernel
theorem d_l_init_23 : decode c_l_init 23 = .ok (.goto 9, 3) := by decide +kernel
theorem d_l_init_26 : decode c_l_init 26 = .ok (.aload_n 1, 1) := by decide +kernel
theorem d_l_init_27 : decode c_l_init 27 = .ok (.getfield 19, 3) := by decide +kernel
theorem d_l_init_30 : decode c_l_init 30 = .ok (.iconst 1, 1) := by decide +kernel
theorem d_l_init_31 : decode c_l_init 31 = .ok (.iadd, 1) := by decide +kernel
theorem d_l_init_32 : decode c_l_init 32 = .ok (.putfield 19, 3) := by decide +kernel
theorem d_l_init_35 : decode c_l_init 35 = .ok (.return_, 1) := by decide +kernel
theorem d_h_addImage_0 : decode c_h_addImage 0 = .ok (.aload_n 0, 1) := by decide +kernel
theorem d_h_addImage_1 : decode c_h_addImage 1 = .ok (.getfield 12, 3) := by decide +kernel
theorem d_h_addImage_4 : decode c_h_addImage 4 = .ok (.new 80, 3) := by decide +kernel
theorem d_h_addImage_7 : decode c_h_addImage 7 = .ok (.dup, 1) := by decide +kernel
theorem d_h_addImage_8 : decode c_h_addImage 8 = .ok (.aload_n 1, 1) := by decide +kernel
theorem d_h_addImage_9 : decode c_h_addImage 9 = .ok (.iload_n 2, 1) := by decide +kernel
theorem d_h_addImage_10 : decode c_h_addImage 10 = .ok (.invokespecial 363, 3) := by decide +kernel
theorem d_h_addImage_13 : decode c_h_addImage 13 = .ok (.invokevirtual 43, 3) := by decide +kernel
theorem d_h_addImage_16 : decode c_h_addImage 16 = .ok (.pop, 1) := by decide +kernel
theorem d_h_addImage_17 : decode c_h_addImage 17 = .ok (.aload_n 0, 1) := by decide +kernel
theorem d_h_addImage_18 : decode c_h_addImage 18 = .ok (.getfield 12, 3) := by decide +kernel
theorem d_h_addImage_21 : decode c_h_addImage 21 = .ok (.invokevirtual 147, 3) := by decide +kernel
theorem d_h_addImage_24 : decode c_h_addImage 24 = .ok (.iconst 1, 1) := by decide +kernel
theorem d_h_addImage_25 : decode c_h_addImage 25 = .ok (.isub, 1) := by decide +kernel
theorem d_h_addImage_26 : decode c_h_addImage 26 = .ok (.ireturn, 1) := by decide +kernel
theorem d_i_init_0 : decode c_i_init 0 = .ok (.aload_n 0, 1) := by decide +kernel
theorem d_i_init_1 : decode c_i_init 1 = .ok (.invokespecial 1, 3) := by decide +kernel
theorem d_i_init_4 : decode c_i_init 4 = .ok (.aload_n 0, 1) := by decide +kernel
theorem d_i_init_5 : decode c_i_init 5 = .ok (.aload_n 1, 1) := by decide +kernel
theorem d_i_init_6 : decode c_i_init 6 = .ok (.putfield 7, 3) := by decide +kernel
theorem d_i_init_9 : decode c_i_init 9 = .ok (.aload_n 0, 1) := by decide +kernel
theorem d_i_init_10 : decode c_i_init 10 = .ok (.iload_n 2, 1) := by decide +kernel
theorem d_i_init_11 : decode c_i_init 11 = .ok (.putfield 13, 3) := by decide +kernel
theorem d_i_init_14 : decode c_i_init 14 = .ok (.return_, 1) := by decide +kernel
theorem d_h_write_0 : decode c_h_write 0 = .ok (.aload_n 0, 1) := by decide +kernel
theorem d_h_write_1 : decode c_h_write 1 = .ok (.iload_n 1, 1) := by decide +kernel
theorem d_h_write_2 : decode c_h_write 2 = .ok (.invokevirtual 47, 3) := by decide +kernel
theorem d_h_write_5 : decode c_h_write 5 = .ok (.astore 4, 2) := by decide +kernel
theorem d_h_write_7 : decode c_h_write 7 = .ok (.iload_n 2, 1) := by decide +kernel
theorem d_h_write_8 : decode c_h_write 8 = .ok (.invokestatic 67, 3) := by decide +kernel
theorem d_h_write_11 : decode c_h_write 11 = .ok (.iload_n 3, 1) := by decide +kernel
theorem d_h_write_12 : decode c_h_write 12 = .ok (.sipush 999, 3) := by decide +kernel
theorem d_h_write_15 : decode c_h_write 15 = .ok (.invokestatic 71, 3) := by decide +kernel
theorem d_h_write_18 : decode c_h_write 18 = .ok (.aload 4, 2) := by decide +kernel
theorem d_h_write_20 : decode c_h_write 20 = .ok (.invokestatic 75, 3) := by decide +kernel
theorem d_h_write_23 : decode c_h_write 23 = .ok (.aload 4, 2) := by decide +kernel
theorem d_h_write_25 : decode c_h_write 25 = .ok (.getfield 79, 3) := by decide +kernel
theorem d_h_write_28 : decode c_h_write 28 = .ok (.iload_n 2, 1) := by decide +kernel
theorem d_h_write_29 : decode c_h_write 29 = .ok (.invokevirtual 85, 3) := by decide +kernel
theorem d_h_write_32 : decode c_h_write 32 = .ok (.istore 5, 2) := by decide +kernel
theorem d_h_write_34 : decode c_h_write 34 = .ok (.aload 4, 2) := by decide +kernel
theorem d_h_write_36 : decode c_h_write 36 = .ok (.getfield 79, 3) := by decide +kernel
theorem d_h_write_39 : decode c_h_write 39 = .ok (.getfield 89, 3) := by decide +kernel
theorem d_h_write_42 : decode c_h_write 42 = .ok (.iload_n 2, 1) := by decide +kernel
theorem d_h_write_43 : decode c_h_write 43 = .ok (.iload_n 3, 1) := by decide +kernel
theorem d_h_write_44 : decode c_h_write 44 = .ok (.iastore, 1) := by decide +kernel
theorem d_h_write_45 : decode c_h_write 45 = .ok (.iload 5, 2) := by decide +kernel
theorem d_h_write_47 : decode c_h_write 47 = .ok (.ireturn, 1) := by decide +kernel
theorem d_h_requireFile_0 : decode c_h_requireFile 0 = .ok (.iload_n 0, 1) := by decide +kernel
theorem d_h_requireFile_1 : decode c_h_requireFile 1 = .ok (.ifCond .lt 9, 3) := by decide +kernel
theorem d_h_requireFile_4 : decode c_h_requireFile 4 = .ok (.iload_n 0, 1) := by decide +kernel
theorem d_h_requireFile_5 : decode c_h_requireFile 5 = .ok (.bipush 32, 2) := by decide +kernel
theorem d_h_requireFile_7 : decode c_h_requireFile 7 = .ok (.if_icmp .lt 14, 3) := by decide +kernel
theorem d_h_requireFile_10 : decode c_h_requireFile 10 = .ok (.new 96, 3) := by decide +kernel
theorem d_h_requireFile_13 : decode c_h_requireFile 13 = .ok (.dup, 1) := by decide +kernel
theorem d_h_requireFile_14 : decode c_h_requireFile 14 = .ok (.ldc_w 333, 3) := by decide +kernel
theorem d_h_requireFile_17 : decode c_h_requireFile 17 = .ok (.invokespecial 100, 3) := by decide +kernel
theorem d_h_requireFile_20 : decode c_h_requireFile 20 = .ok (.athrow, 1) := by decide +kernel
theorem d_h_requireFile_21 : decode c_h_requireFile 21 = .ok (.return_, 1) := by decide +kernel
theorem d_h_requireWithin_0 : decode c_h_requireWithin 0 = .ok (.iload_n 0, 1) := by decide +kernel
theorem d_h_requireWithin_1 : decode c_h_requireWithin 1 = .ok (.iconst 1, 1) := by decide +kernel
theorem d_h_requireWithin_2 : decode c_h_requireWithin 2 = .ok (.if_icmp .lt 8, 3) := by decide +kernel
theorem d_h_requireWithin_5 : decode c_h_requireWithin 5 = .ok (.iload_n 0, 1) := by decide +kernel
theorem d_h_requireWithin_6 : decode c_h_requireWithin 6 = .ok (.iload_n 1, 1) := by decide +kernel
theorem d_h_requireWithin_7 : decode c_h_requireWithin 7 = .ok (.if_icmp .le 14, 3) := by decide +kernel
theorem d_h_requireWithin_10 : decode c_h_requireWithin 10 = .ok (.new 158, 3) := by decide +kernel
theorem d_h_requireWithin_13 : decode c_h_requireWithin 13 = .ok (.dup, 1) := by decide +kernel
theorem d_h_requireWithin_14 : decode c_h_requireWithin 14 = .ok (.ldc_w 341, 3) := by decide +kernel
theorem d_h_requireWithin_17 : decode c_h_requireWithin 17 = .ok (.invokespecial 162, 3) := by decide +kernel
theorem d_h_requireWithin_20 : decode c_h_requireWithin 20 = .ok (.athrow, 1) := by decide +kernel
theorem d_h_requireWithin_21 : decode c_h_requireWithin 21 = .ok (.return_, 1) := by decide +kernel
theorem d_h_requireOpen_0 : decode c_h_requireOpen 0 = .ok (.aload_n 0, 1) := by decide +kernel
theorem d_h_requireOpen_1 : decode c_h_requireOpen 1 = .ok (.getfield 109, 3) := by decide +kernel
theorem d_h_requireOpen_4 : decode c_h_requireOpen 4 = .ok (.ifCond .eq 14, 3) := by decide +kernel
theorem d_h_requireOpen_7 : decode c_h_requireOpen 7 = .ok (.new 134, 3) := by decide +kernel
theorem d_h_requireOpen_10 : decode c_h_requireOpen 10 = .ok (.dup, 1) := by decide +kernel
theorem d_h_requireOpen_11 : decode c_h_requireOpen 11 = .ok (.ldc_w 343, 3) := by decide +kernel
theorem d_h_requireOpen_14 : decode c_h_requireOpen 14 = .ok (.invokespecial 138, 3) := by decide +kernel
theorem d_h_requireOpen_17 : decode c_h_requireOpen 17 = .ok (.athrow, 1) := by decide +kernel
theorem d_h_requireOpen_18 : decode c_h_requireOpen 18 = .ok (.return_, 1) := by decide +kernel
theorem d_l_fileSeen_0 : decode c_l_fileSeen 0 = .ok (.aload_n 0, 1) := by decide +kernel
theorem d_l_fileSeen_1 : decode c_l_fileSeen 1 = .ok (.astore_n 2, 1) := by decide +kernel
theorem d_l_fileSeen_2 : decode c_l_fileSeen 2 = .ok (.aload_n 2, 1) := by decide +kernel
theorem d_l_fileSeen_3 : decode c_l_fileSeen 3 = .ok (.ifnull 35, 3) := by decide +kernel
theorem d_l_fileSeen_6 : decode c_l_fileSeen 6 = .ok (.aload_n 2, 1) := by decide +kernel
theorem d_l_fileSeen_7 : decode c_l_fileSeen 7 = .ok (.getfield 9, 3) := by decide +kernel
theorem d_l_fileSeen_10 : decode c_l_fileSeen 10 = .ok (.iload_n 1, 1) := by decide +kernel
theorem d_l_fileSeen_11 : decode c_l_fileSeen 11 = .ok (.iaload, 1) := by decide +kernel
theorem d_l_fileSeen_12 : decode c_l_fileSeen 12 = .ok (.ifCond .ne 11, 3) := by decide +kernel
theorem d_l_fileSeen_15 : decode c_l_fileSeen 15 = .ok (.aload_n 2, 1) := by decide +kernel
theorem d_l_fileSeen_16 : decode c_l_fileSeen 16 = .ok (.iload_n 1, 1) := by decide +kernel
theorem d_l_fileSeen_17 : decode c_l_fileSeen 17 = .ok (.invokevirtual 41, 3) := by decide +kernel
theorem d_l_fileSeen_20 : decode c_l_fileSeen 20 = .ok (.ifCond .eq 10, 3) := by decide +kernel
theorem d_l_fileSeen_23 : decode c_l_fileSeen 23 = .ok (.aload_n 2, 1) := by decide +kernel
theorem d_l_fileSeen_24 : decode c_l_fileSeen 24 = .ok (.iconst 0, 1) := by decide +kernel
theorem d_l_fileSeen_25 : decode c_l_fileSeen 25 = .ok (.iload_n 1, 1) := by decide +kernel
theorem d_l_fileSeen_26 : decode c_l_fileSeen 26 = .ok (.invokevirtual 45, 3) := by decide +kernel
theorem d_l_fileSeen_29 : decode c_l_fileSeen 29 = .ok (.ireturn, 1) := by decide +kernel
theorem d_l_fileSeen_30 : decode c_l_fileSeen 30 = .ok (.aload_n 2, 1) := by decide +kernel
theorem d_l_fileSeen_31 : decode c_l_fileSeen 31 = .ok (.getfield 15, 3) := by decide +kernel
theorem d_l_fileSeen_34 : decode c_l_fileSeen 34 = .ok (.astore_n 2, 1) := by decide +kernel
theorem d_l_fileSeen_35 : decode c_l_fileSeen 35 = .ok (.goto (-33), 3) := by decide +kernel
theorem d_l_fileSeen_38 : decode c_l_fileSeen 38 = .ok (.iconst 0, 1) := by decide +kernel
theorem d_l_fileSeen_39 : decode c_l_fileSeen 39 = .ok (.ireturn, 1) := by decide +kernel
theorem d_l_hidesBelow_0 : decode c_l_hidesBelow 0 = .ok (.aload_n 0, 1) := by decide +kernel
theorem d_l_hidesBelow_1 : decode c_l_hidesBelow 1 = .ok (.getfield 32, 3) := by decide +kernel
theorem d_l_hidesBelow_4 : decode c_l_hidesBelow 4 = .ok (.iconst 1, 1) := by decide +kernel
theorem d_l_hidesBelow_5 : decode c_l_hidesBelow 5 = .ok (.iload_n 1, 1) := by decide +kernel
theorem d_l_hidesBelow_6 : decode c_l_hidesBelow 6 = .ok (.iconst 4, 1) := by decide +kernel
theorem d_l_hidesBelow_7 : decode c_l_hidesBelow 7 = .ok (.idiv, 1) := by decide +kernel
theorem d_l_hidesBelow_8 : decode c_l_hidesBelow 8 = .ok (.ishl, 1) := by decide +kernel
theorem d_l_hidesBelow_9 : decode c_l_hidesBelow 9 = .ok (.iand, 1) := by decide +kernel
theorem d_l_hidesBelow_10 : decode c_l_hidesBelow 10 = .ok (.ifCond .eq 7, 3) := by decide +kernel
theorem d_l_hidesBelow_13 : decode c_l_hidesBelow 13 = .ok (.iconst 1, 1) := by decide +kernel
theorem d_l_hidesBelow_14 : decode c_l_hidesBelow 14 = .ok (.goto 4, 3) := by decide +kernel
theorem d_l_hidesBelow_17 : decode c_l_hidesBelow 17 = .ok (.iconst 0, 1) := by decide +kernel
theorem d_l_hidesBelow_18 : decode c_l_hidesBelow 18 = .ok (.ireturn, 1) := by decide +kernel
theorem d_l_laidOver_0 : decode c_l_laidOver 0 = .ok (.aload_n 0, 1) := by decide +kernel
theorem d_l_laidOver_1 : decode c_l_laidOver 1 = .ok (.getfield 9, 3) := by decide +kernel
theorem d_l_laidOver_4 : decode c_l_laidOver 4 = .ok (.iload_n 2, 1) := by decide +kernel
theorem d_l_laidOver_5 : decode c_l_laidOver 5 = .ok (.iaload, 1) := by decide +kernel
theorem d_l_laidOver_6 : decode c_l_laidOver 6 = .ok (.istore_n 3, 1) := by decide +kernel
theorem d_l_laidOver_7 : decode c_l_laidOver 7 = .ok (.iload_n 3, 1) := by decide +kernel
theorem d_l_laidOver_8 : decode c_l_laidOver 8 = .ok (.ifCond .ne 17, 3) := by decide +kernel
theorem d_l_laidOver_11 : decode c_l_laidOver 11 = .ok (.aload_n 0, 1) := by decide +kernel
theorem d_l_laidOver_12 : decode c_l_laidOver 12 = .ok (.iload_n 2, 1) := by decide +kernel
theorem d_l_laidOver_13 : decode c_l_laidOver 13 = .ok (.invokevirtual 41, 3) := by decide +kernel
theorem d_l_laidOver_16 : decode c_l_laidOver 16 = .ok (.ifCond .eq 7, 3) := by decide +kernel
theorem d_l_laidOver_19 : decode c_l_laidOver 19 = .ok (.iconst 0, 1) := by decide +kernel
theorem d_l_laidOver_20 : decode c_l_laidOver 20 = .ok (.goto 4, 3) := by decide +kernel
theorem d_l_laidOver_23 : decode c_l_laidOver 23 = .ok (.iload_n 1, 1) := by decide +kernel
theorem d_l_laidOver_24 : decode c_l_laidOver 24 = .ok (.ireturn, 1) := by decide +kernel
theorem d_l_laidOver_25 : decode c_l_laidOver 25 = .ok (.iload_n 3, 1) := by decide +kernel
theorem d_l_laidOver_26 : decode c_l_laidOver 26 = .ok (.iconst (-1), 1) := by decide +kernel
theorem d_l_laidOver_27 : decode c_l_laidOver 27 = .ok (.if_icmp .ne 7, 3) := by decide +kernel
theorem d_l_laidOver_30 : decode c_l_laidOver 30 = .ok (.iconst 0, 1) := by decide +kernel
theorem d_l_laidOver_31 : decode c_l_laidOver 31 = .ok (.goto 4, 3) := by decide +kernel
theorem d_l_laidOver_34 : decode c_l_laidOver 34 = .ok (.iload_n 3, 1) := by decide +kernel
theorem d_l_laidOver_35 : decode c_l_laidOver 35 = .ok (.ireturn, 1) := by decide +kernel
theorem d_h_remove_0 : decode c_h_remove 0 = .ok (.aload_n 0, 1) := by decide +kernel
theorem d_h_remove_1 : decode c_h_remove 1 = .ok (.iload_n 1, 1) := by decide +kernel
theorem d_h_remove_2 : decode c_h_remove 2 = .ok (.invokevirtual 47, 3) := by decide +kernel
theorem d_h_remove_5 : decode c_h_remove 5 = .ok (.astore_n 3, 1) := by decide +kernel
theorem d_h_remove_6 : decode c_h_remove 6 = .ok (.iload_n 2, 1) := by decide +kernel
theorem d_h_remove_7 : decode c_h_remove 7 = .ok (.invokestatic 67, 3) := by decide +kernel
theorem d_h_remove_10 : decode c_h_remove 10 = .ok (.aload_n 3, 1) := by decide +kernel
theorem d_h_remove_11 : decode c_h_remove 11 = .ok (.invokestatic 75, 3) := by decide +kernel
theorem d_h_remove_14 : decode c_h_remove 14 = .ok (.aload_n 3, 1) := by decide +kernel
theorem d_h_remove_15 : decode c_h_remove 15 = .ok (.getfield 79, 3) := by decide +kernel
theorem d_h_remove_18 : decode c_h_remove 18 = .ok (.iload_n 2, 1) := by decide +kernel
theorem d_h_remove_19 : decode c_h_remove 19 = .ok (.invokestatic 92, 3) := by decide +kernel
theorem d_h_remove_22 : decode c_h_remove 22 = .ok (.ireturn, 1) := by decide +kernel
theorem d_h_whiteOut_0 : decode c_h_whiteOut 0 = .ok (.aload_n 0, 1) := by decide +kernel
theorem d_h_whiteOut_1 : decode c_h_whiteOut 1 = .ok (.iload_n 1, 1) := by decide +kernel
theorem d_h_whiteOut_2 : decode c_h_whiteOut 2 = .ok (.invokevirtual 85, 3) := by decide +kernel
theorem d_h_whiteOut_5 : decode c_h_whiteOut 5 = .ok (.istore_n 2, 1) := by decide +kernel
theorem d_h_whiteOut_6 : decode c_h_whiteOut 6 = .ok (.iload_n 2, 1) := by decide +kernel
theorem d_h_whiteOut_7 : decode c_h_whiteOut 7 = .ok (.ifCond .ne 14, 3) := by decide +kernel
theorem d_h_whiteOut_10 : decode c_h_whiteOut 10 = .ok (.new 134, 3) := by decide +kernel
theorem d_h_whiteOut_13 : decode c_h_whiteOut 13 = .ok (.dup, 1) := by decide +kernel
theorem d_h_whiteOut_14 : decode c_h_whiteOut 14 = .ok (.ldc_w 366, 3) := by decide +kernel
theorem d_h_whiteOut_17 : decode c_h_whiteOut 17 = .ok (.invokespecial 138, 3) := by decide +kernel
theorem d_h_whiteOut_20 : decode c_h_whiteOut 20 = .ok (.athrow, 1) := by decide +kernel
theorem d_h_whiteOut_21 : decode c_h_whiteOut 21 = .ok (.aload_n 0, 1) := by decide +kernel
theorem d_h_whiteOut_22 : decode c_h_whiteOut 22 = .ok (.getfield 89, 3) := by decide +kernel
theorem d_h_whiteOut_25 : decode c_h_whiteOut 25 = .ok (.iload_n 1, 1) := by decide +kernel
theorem d_h_whiteOut_26 : decode c_h_whiteOut 26 = .ok (.iconst (-1), 1) := by decide +kernel
theorem d_h_whiteOut_27 : decode c_h_whiteOut 27 = .ok (.iastore, 1) := by decide +kernel
theorem d_h_whiteOut_28 : decode c_h_whiteOut 28 = .ok (.iload_n 2, 1) := by decide +kernel
theorem d_h_whiteOut_29 : decode c_h_whiteOut 29 = .ok (.ireturn, 1) := by decide +kernel
theorem d_h_clear_0 : decode c_h_clear 0 = .ok (.aload_n 0, 1) := by decide +kernel
theorem d_h_clear_1 : decode c_h_clear 1 = .ok (.iload_n 1, 1) := by decide +kernel
theorem d_h_clear_2 : decode c_h_clear 2 = .ok (.invokevirtual 47, 3) := by decide +kernel
theorem d_h_clear_5 : decode c_h_clear 5 = .ok (.astore_n 3, 1) := by decide +kernel
theorem d_h_clear_6 : decode c_h_clear 6 = .ok (.iload_n 2, 1) := by decide +kernel
theorem d_h_clear_7 : decode c_h_clear 7 = .ok (.ifCond .lt 9, 3) := by decide +kernel
theorem d_h_clear_10 : decode c_h_clear 10 = .ok (.iload_n 2, 1) := by decide +kernel
theorem d_h_clear_11 : decode c_h_clear 11 = .ok (.bipush 8, 2) := by decide +kernel
theorem d_h_clear_13 : decode c_h_clear 13 = .ok (.if_icmp .lt 13, 3) := by decide +kernel
theorem d_h_clear_16 : decode c_h_clear 16 = .ok (.new 96, 3) := by decide +kernel
theorem d_h_clear_19 : decode c_h_clear 19 = .ok (.dup, 1) := by decide +kernel
theorem d_h_clear_20 : decode c_h_clear 20 = .ok (.ldc 98, 2) := by decide +kernel
theorem d_h_clear_22 : decode c_h_clear 22 = .ok (.invokespecial 100, 3) := by decide +kernel
theorem d_h_clear_25 : decode c_h_clear 25 = .ok (.athrow, 1) := by decide +kernel
theorem d_h_clear_26 : decode c_h_clear 26 = .ok (.aload_n 3, 1) := by decide +kernel
theorem d_h_clear_27 : decode c_h_clear 27 = .ok (.invokestatic 75, 3) := by decide +kernel
theorem d_h_clear_30 : decode c_h_clear 30 = .ok (.aload_n 3, 1) := by decide +kernel
theorem d_h_clear_31 : decode c_h_clear 31 = .ok (.getfield 79, 3) := by decide +kernel
theorem d_h_clear_34 : decode c_h_clear 34 = .ok (.iload_n 2, 1) := by decide +kernel
theorem d_h_clear_35 : decode c_h_clear 35 = .ok (.invokevirtual 103, 3) := by decide +kernel
theorem d_h_clear_38 : decode c_h_clear 38 = .ok (.istore 4, 2) := by decide +kernel
theorem d_h_clear_40 : decode c_h_clear 40 = .ok (.aload_n 3, 1) := by decide +kernel
theorem d_h_clear_41 : decode c_h_clear 41 = .ok (.getfield 79, 3) := by decide +kernel
theorem d_h_clear_44 : decode c_h_clear 44 = .ok (.iload_n 2, 1) := by decide +kernel
theorem d_h_clear_45 : decode c_h_clear 45 = .ok (.invokevirtual 106, 3) := by decide +kernel
theorem d_h_clear_48 : decode c_h_clear 48 = .ok (.iload 4, 2) := by decide +kernel
theorem d_h_clear_50 : decode c_h_clear 50 = .ok (.ireturn, 1) := by decide +kernel
theorem d_l_filesSeenIn_0 : decode c_l_filesSeenIn 0 = .ok (.iconst 0, 1) := by decide +kernel
theorem d_l_filesSeenIn_1 : decode c_l_filesSeenIn 1 = .ok (.istore_n 2, 1) := by decide +kernel
theorem d_l_filesSeenIn_2 : decode c_l_filesSeenIn 2 = .ok (.iconst 0, 1) := by decide +kernel
theorem d_l_filesSeenIn_3 : decode c_l_filesSeenIn 3 = .ok (.istore_n 3, 1) := by decide +kernel
theorem d_l_filesSeenIn_4 : decode c_l_filesSeenIn 4 = .ok (.iload_n 3, 1) := by decide +kernel
theorem d_l_filesSeenIn_5 : decode c_l_filesSeenIn 5 = .ok (.iconst 4, 1) := by decide +kernel
theorem d_l_filesSeenIn_6 : decode c_l_filesSeenIn 6 = .ok (.if_icmp .ge 29, 3) := by decide +kernel
theorem d_l_filesSeenIn_9 : decode c_l_filesSeenIn 9 = .ok (.iload_n 2, 1) := by decide +kernel
theorem d_l_filesSeenIn_10 : decode c_l_filesSeenIn 10 = .ok (.aload_n 0, 1) := by decide +kernel
theorem d_l_filesSeenIn_11 : decode c_l_filesSeenIn 11 = .ok (.iload_n 1, 1) := by decide +kernel
theorem d_l_filesSeenIn_12 : decode c_l_filesSeenIn 12 = .ok (.iconst 4, 1) := by decide +kernel
theorem d_l_filesSeenIn_13 : decode c_l_filesSeenIn 13 = .ok (.imul, 1) := by decide +kernel
theorem d_l_filesSeenIn_14 : decode c_l_filesSeenIn 14 = .ok (.iload_n 3, 1) := by decide +kernel
theorem d_l_filesSeenIn_15 : decode c_l_filesSeenIn 15 = .ok (.iadd, 1) := by decide +kernel
theorem d_l_filesSeenIn_16 : decode c_l_filesSeenIn 16 = .ok (.invokevirtual 49, 3) := by decide +kernel
theorem d_l_filesSeenIn_19 : decode c_l_filesSeenIn 19 = .ok (.ifCond .ne 7, 3) := by decide +kernel
theorem d_l_filesSeenIn_22 : decode c_l_filesSeenIn 22 = .ok (.iconst 0, 1) := by decide +kernel
theorem d_l_filesSeenIn_23 : decode c_l_filesSeenIn 23 = .ok (.goto 4, 3) := by decide +kernel
theorem d_l_filesSeenIn_26 : decode c_l_filesSeenIn 26 = .ok (.iconst 1, 1) := by decide +kernel
theorem d_l_filesSeenIn_27 : decode c_l_filesSeenIn 27 = .ok (.iadd, 1) := by decide +kernel
theorem d_l_filesSeenIn_28 : decode c_l_filesSeenIn 28 = .ok (.istore_n 2, 1) := by decide +kernel
theorem d_l_filesSeenIn_29 : decode c_l_filesSeenIn 29 = .ok (.iinc 3 1, 3) := by decide +kernel
theorem d_l_filesSeenIn_32 : decode c_l_filesSeenIn 32 = .ok (.goto (-28), 3) := by decide +kernel
theorem d_l_filesSeenIn_35 : decode c_l_filesSeenIn 35 = .ok (.iload_n 2, 1) := by decide +kernel
theorem d_l_filesSeenIn_36 : decode c_l_filesSeenIn 36 = .ok (.ireturn, 1) := by decide +kernel
theorem d_l_makeOpaque_0 : decode c_l_makeOpaque 0 = .ok (.aload_n 0, 1) := by decide +kernel
theorem d_l_makeOpaque_1 : decode c_l_makeOpaque 1 = .ok (.dup, 1) := by decide +kernel
theorem d_l_makeOpaque_2 : decode c_l_makeOpaque 2 = .ok (.getfield 32, 3) := by decide +kernel
theorem d_l_makeOpaque_5 : decode c_l_makeOpaque 5 = .ok (.iconst 1, 1) := by decide +kernel
theorem d_l_makeOpaque_6 : decode c_l_makeOpaque 6 = .ok (.iload_n 1, 1) := by decide +kernel
theorem d_l_makeOpaque_7 : decode c_l_makeOpaque 7 = .ok (.ishl, 1) := by decide +kernel
theorem d_l_makeOpaque_8 : decode c_l_makeOpaque 8 = .ok (.ior, 1) := by decide +kernel
theorem d_l_makeOpaque_9 : decode c_l_makeOpaque 9 = .ok (.putfield 32, 3) := by decide +kernel
theorem d_l_makeOpaque_12 : decode c_l_makeOpaque 12 = .ok (.iconst 0, 1) := by decide +kernel
theorem d_l_makeOpaque_13 : decode c_l_makeOpaque 13 = .ok (.istore_n 2, 1) := by decide +kernel
theorem d_l_makeOpaque_14 : decode c_l_makeOpaque 14 = .ok (.iload_n 2, 1) := by decide +kernel
theorem d_l_makeOpaque_15 : decode c_l_makeOpaque 15 = .ok (.iconst 4, 1) := by decide +kernel
theorem d_l_makeOpaque_16 : decode c_l_makeOpaque 16 = .ok (.if_icmp .ge 20, 3) := by decide +kernel
theorem d_l_makeOpaque_19 : decode c_l_makeOpaque 19 = .ok (.aload_n 0, 1) := by decide +kernel
theorem d_l_makeOpaque_20 : decode c_l_makeOpaque 20 = .ok (.getfield 9, 3) := by decide +kernel
theorem d_l_makeOpaque_23 : decode c_l_makeOpaque 23 = .ok (.iload_n 1, 1) := by decide +kernel
theorem d_l_makeOpaque_24 : decode c_l_makeOpaque 24 = .ok (.iconst 4, 1) := by decide +kernel
theorem d_l_makeOpaque_25 : decode c_l_makeOpaque 25 = .ok (.imul, 1) := by decide +kernel
theorem d_l_makeOpaque_26 : decode c_l_makeOpaque 26 = .ok (.iload_n 2, 1) := by decide +kernel
theorem d_l_makeOpaque_27 : decode c_l_makeOpaque 27 = .ok (.iadd, 1) := by decide +kernel
theorem d_l_makeOpaque_28 : decode c_l_makeOpaque 28 = .ok (.iconst 0, 1) := by decide +kernel
theorem d_l_makeOpaque_29 : decode c_l_makeOpaque 29 = .ok (.iastore, 1) := by decide +kernel
theorem d_l_makeOpaque_30 : decode c_l_makeOpaque 30 = .ok (.iinc 2 1, 3) := by decide +kernel
theorem d_l_makeOpaque_33 : decode c_l_makeOpaque 33 = .ok (.goto (-19), 3) := by decide +kernel
theorem d_l_makeOpaque_36 : decode c_l_makeOpaque 36 = .ok (.return_, 1) := by decide +kernel
theorem d_h_seal_0 : decode c_h_seal 0 = .ok (.aload_n 0, 1) := by decide +kernel
theorem d_h_seal_1 : decode c_h_seal 1 = .ok (.iload_n 1, 1) := by decide +kernel
theorem d_h_seal_2 : decode c_h_seal 2 = .ok (.invokevirtual 47, 3) := by decide +kernel
theorem d_h_seal_5 : decode c_h_seal 5 = .ok (.astore_n 2, 1) := by decide +kernel
theorem d_h_seal_6 : decode c_h_seal 6 = .ok (.aload_n 2, 1) := by decide +kernel
theorem d_h_seal_7 : decode c_h_seal 7 = .ok (.invokestatic 75, 3) := by decide +kernel
theorem d_h_seal_10 : decode c_h_seal 10 = .ok (.aload_n 2, 1) := by decide +kernel
theorem d_h_seal_11 : decode c_h_seal 11 = .ok (.iconst 1, 1) := by decide +kernel
theorem d_h_seal_12 : decode c_h_seal 12 = .ok (.putfield 109, 3) := by decide +kernel
theorem d_h_seal_15 : decode c_h_seal 15 = .ok (.aload_n 2, 1) := by decide +kernel
theorem d_h_seal_16 : decode c_h_seal 16 = .ok (.getfield 79, 3) := by decide +kernel
theorem d_h_seal_19 : decode c_h_seal 19 = .ok (.getfield 113, 3) := by decide +kernel
theorem d_h_seal_22 : decode c_h_seal 22 = .ok (.ireturn, 1) := by decide +kernel
theorem d_h_shown_0 : decode c_h_shown 0 = .ok (.aload_n 0, 1) := by decide +kernel
theorem d_h_shown_1 : decode c_h_shown 1 = .ok (.iload_n 1, 1) := by decide +kernel
theorem d_h_shown_2 : decode c_h_shown 2 = .ok (.invokevirtual 47, 3) := by decide +kernel
theorem d_h_shown_5 : decode c_h_shown 5 = .ok (.astore_n 3, 1) := by decide +kernel
theorem d_h_shown_6 : decode c_h_shown 6 = .ok (.iload_n 2, 1) := by decide +kernel
theorem d_h_shown_7 : decode c_h_shown 7 = .ok (.invokestatic 67, 3) := by decide +kernel
theorem d_h_shown_10 : decode c_h_shown 10 = .ok (.aload_n 3, 1) := by decide +kernel
theorem d_h_shown_11 : decode c_h_shown 11 = .ok (.getfield 79, 3) := by decide +kernel
theorem d_h_shown_14 : decode c_h_shown 14 = .ok (.iload_n 2, 1) := by decide +kernel
theorem d_h_shown_15 : decode c_h_shown 15 = .ok (.invokevirtual 85, 3) := by decide +kernel
theorem d_h_shown_18 : decode c_h_shown 18 = .ok (.ireturn, 1) := by decide +kernel
theorem d_h_entries_0 : decode c_h_entries 0 = .ok (.aload_n 0, 1) := by decide +kernel
theorem d_h_entries_1 : decode c_h_entries 1 = .ok (.iload_n 1, 1) := by decide +kernel
theorem d_h_entries_2 : decode c_h_entries 2 = .ok (.invokevirtual 47, 3) := by decide +kernel
theorem d_h_entries_5 : decode c_h_entries 5 = .ok (.getfield 79, 3) := by decide +kernel
theorem d_h_entries_8 : decode c_h_entries 8 = .ok (.astore_n 3, 1) := by decide +kernel
theorem d_h_entries_9 : decode c_h_entries 9 = .ok (.iload_n 2, 1) := by decide +kernel
theorem d_h_entries_10 : decode c_h_entries 10 = .ok (.ifCond .lt 11, 3) := by decide +kernel
theorem d_h_entries_13 : decode c_h_entries 13 = .ok (.iload_n 2, 1) := by decide +kernel
theorem d_h_entries_14 : decode c_h_entries 14 = .ok (.aload_n 3, 1) := by decide +kernel
theorem d_h_entries_15 : decode c_h_entries 15 = .ok (.getfield 113, 3) := by decide +kernel
theorem d_h_entries_18 : decode c_h_entries 18 = .ok (.if_icmp .lt 13, 3) := by decide +kernel
theorem d_h_entries_21 : decode c_h_entries 21 = .ok (.new 96, 3) := by decide +kernel
theorem d_h_entries_24 : decode c_h_entries 24 = .ok (.dup, 1) := by decide +kernel
theorem d_h_entries_25 : decode c_h_entries 25 = .ok (.ldc 117, 2) := by decide +kernel
theorem d_h_entries_27 : decode c_h_entries 27 = .ok (.invokespecial 100, 3) := by decide +kernel
theorem d_h_entries_30 : decode c_h_entries 30 = .ok (.athrow, 1) := by decide +kernel
theorem d_h_entries_31 : decode c_h_entries 31 = .ok (.aload_n 3, 1) := by decide +kernel
theorem d_h_entries_32 : decode c_h_entries 32 = .ok (.iload_n 2, 1) := by decide +kernel
theorem d_h_entries_33 : decode c_h_entries 33 = .ok (.iconst 1, 1) := by decide +kernel
theorem d_h_entries_34 : decode c_h_entries 34 = .ok (.iadd, 1) := by decide +kernel
theorem d_h_entries_35 : decode c_h_entries 35 = .ok (.invokevirtual 119, 3) := by decide +kernel
theorem d_h_entries_38 : decode c_h_entries 38 = .ok (.astore 4, 2) := by decide +kernel
theorem d_h_entries_40 : decode c_h_entries 40 = .ok (.aload 4, 2) := by decide +kernel
theorem d_h_entries_42 : decode c_h_entries 42 = .ok (.ifnonnull 7, 3) := by decide +kernel
theorem d_h_entries_45 : decode c_h_entries 45 = .ok (.iconst 0, 1) := by decide +kernel
theorem d_h_entries_46 : decode c_h_entries 46 = .ok (.goto 8, 3) := by decide +kernel
theorem d_h_entries_49 : decode c_h_entries 49 = .ok (.aload 4, 2) := by decide +kernel
theorem d_h_entries_51 : decode c_h_entries 51 = .ok (.invokevirtual 123, 3) := by decide +kernel
theorem d_h_entries_54 : decode c_h_entries 54 = .ok (.ireturn, 1) := by decide +kernel
theorem d_l_atHeight_0 : decode c_l_atHeight 0 = .ok (.aload_n 0, 1) := by decide +kernel
theorem d_l_atHeight_1 : decode c_l_atHeight 1 = .ok (.astore_n 2, 1) := by decide +kernel
theorem d_l_atHeight_2 : decode c_l_atHeight 2 = .ok (.aload_n 2, 1) := by decide +kernel
theorem d_l_atHeight_3 : decode c_l_atHeight 3 = .ok (.ifnull 19, 3) := by decide +kernel
theorem d_l_atHeight_6 : decode c_l_atHeight 6 = .ok (.aload_n 2, 1) := by decide +kernel
theorem d_l_atHeight_7 : decode c_l_atHeight 7 = .ok (.getfield 19, 3) := by decide +kernel
theorem d_l_atHeight_10 : decode c_l_atHeight 10 = .ok (.iload_n 1, 1) := by decide +kernel
theorem d_l_atHeight_11 : decode c_l_atHeight 11 = .ok (.if_icmp .eq 11, 3) := by decide +kernel
theorem d_l_atHeight_14 : decode c_l_atHeight 14 = .ok (.aload_n 2, 1) := by decide +kernel
theorem d_l_atHeight_15 : decode c_l_atHeight 15 = .ok (.getfield 15, 3) := by decide +kernel
theorem d_l_atHeight_18 : decode c_l_atHeight 18 = .ok (.astore_n 2, 1) := by decide +kernel
theorem d_l_atHeight_19 : decode c_l_atHeight 19 = .ok (.goto (-17), 3) := by decide +kernel
theorem d_l_atHeight_22 : decode c_l_atHeight 22 = .ok (.aload_n 2, 1) := by decide +kernel
theorem d_l_atHeight_23 : decode c_l_atHeight 23 = .ok (.areturn, 1) := by decide +kernel
theorem d_l_countEntries_0 : decode c_l_countEntries 0 = .ok (.aload_n 0, 1) := by decide +kernel
theorem d_l_countEntries_1 : decode c_l_countEntries 1 = .ok (.getfield 32, 3) := by decide +kernel
theorem d_l_countEntries_4 : decode c_l_countEntries 4 = .ok (.invokestatic 35, 3) := by decide +kernel
theorem d_l_countEntries_7 : decode c_l_countEntries 7 = .ok (.istore_n 1, 1) := by decide +kernel
theorem d_l_countEntries_8 : decode c_l_countEntries 8 = .ok (.iconst 0, 1) := by decide +kernel
theorem d_l_countEntries_9 : decode c_l_countEntries 9 = .ok (.istore_n 2, 1) := by decide +kernel
theorem d_l_countEntries_10 : decode c_l_countEntries 10 = .ok (.iload_n 2, 1) := by decide +kernel
theorem d_l_countEntries_11 : decode c_l_countEntries 11 = .ok (.bipush 32, 2) := by decide +kernel
theorem d_l_countEntries_13 : decode c_l_countEntries 13 = .ok (.if_icmp .ge 26, 3) := by decide +kernel
theorem d_l_countEntries_16 : decode c_l_countEntries 16 = .ok (.iload_n 1, 1) := by decide +kernel
theorem d_l_countEntries_17 : decode c_l_countEntries 17 = .ok (.aload_n 0, 1) := by decide +kernel
theorem d_l_countEntries_18 : decode c_l_countEntries 18 = .ok (.getfield 9, 3) := by decide +kernel
theorem d_l_countEntries_21 : decode c_l_countEntries 21 = .ok (.iload_n 2, 1) := by decide +kernel
theorem d_l_countEntries_22 : decode c_l_countEntries 22 = .ok (.iaload, 1) := by decide +kernel
theorem d_l_countEntries_23 : decode c_l_countEntries 23 = .ok (.ifCond .ne 7, 3) := by decide +kernel
theorem d_l_countEntries_26 : decode c_l_countEntries 26 = .ok (.iconst 0, 1) := by decide +kernel
theorem d_l_countEntries_27 : decode c_l_countEntries 27 = .ok (.goto 4, 3) := by decide +kernel
theorem d_l_countEntries_30 : decode c_l_countEntries 30 = .ok (.iconst 1, 1) := by decide +kernel
theorem d_l_countEntries_31 : decode c_l_countEntries 31 = .ok (.iadd, 1) := by decide +kernel
theorem d_l_countEntries_32 : decode c_l_countEntries 32 = .ok (.istore_n 1, 1) := by decide +kernel
theorem d_l_countEntries_33 : decode c_l_countEntries 33 = .ok (.iinc 2 1, 3) := by decide +kernel
theorem d_l_countEntries_36 : decode c_l_countEntries 36 = .ok (.goto (-26), 3) := by decide +kernel
theorem d_l_countEntries_39 : decode c_l_countEntries 39 = .ok (.iload_n 1, 1) := by decide +kernel
theorem d_l_countEntries_40 : decode c_l_countEntries 40 = .ok (.ireturn, 1) := by decide +kernel
theorem d_in_bitCount_0 : decode c_in_bitCount 0 = .ok (.iload_n 0, 1) := by decide +kernel
theorem d_in_bitCount_1 : decode c_in_bitCount 1 = .ok (.iload_n 0, 1) := by decide +kernel
theorem d_in_bitCount_2 : decode c_in_bitCount 2 = .ok (.iconst 1, 1) := by decide +kernel
theorem d_in_bitCount_3 : decode c_in_bitCount 3 = .ok (.iushr, 1) := by decide +kernel
theorem d_in_bitCount_4 : decode c_in_bitCount 4 = .ok (.ldc_w 265, 3) := by decide +kernel
theorem d_in_bitCount_7 : decode c_in_bitCount 7 = .ok (.iand, 1) := by decide +kernel
theorem d_in_bitCount_8 : decode c_in_bitCount 8 = .ok (.isub, 1) := by decide +kernel
theorem d_in_bitCount_9 : decode c_in_bitCount 9 = .ok (.istore_n 0, 1) := by decide +kernel
theorem d_in_bitCount_10 : decode c_in_bitCount 10 = .ok (.iload_n 0, 1) := by decide +kernel
theorem d_in_bitCount_11 : decode c_in_bitCount 11 = .ok (.ldc_w 266, 3) := by decide +kernel
theorem d_in_bitCount_14 : decode c_in_bitCount 14 = .ok (.iand, 1) := by decide +kernel
theorem d_in_bitCount_15 : decode c_in_bitCount 15 = .ok (.iload_n 0, 1) := by decide +kernel
theorem d_in_bitCount_16 : decode c_in_bitCount 16 = .ok (.iconst 2, 1) := by decide +kernel
theorem d_in_bitCount_17 : decode c_in_bitCount 17 = .ok (.iushr, 1) := by decide +kernel
theorem d_in_bitCount_18 : decode c_in_bitCount 18 = .ok (.ldc_w 266, 3) := by decide +kernel
theorem d_in_bitCount_21 : decode c_in_bitCount 21 = .ok (.iand, 1) := by decide +kernel
theorem d_in_bitCount_22 : decode c_in_bitCount 22 = .ok (.iadd, 1) := by decide +kernel
theorem d_in_bitCount_23 : decode c_in_bitCount 23 = .ok (.istore_n 0, 1) := by decide +kernel
theorem d_in_bitCount_24 : decode c_in_bitCount 24 = .ok (.iload_n 0, 1) := by decide +kernel
theorem d_in_bitCount_25 : decode c_in_bitCount 25 = .ok (.iload_n 0, 1) := by decide +kernel
theorem d_in_bitCount_26 : decode c_in_bitCount 26 = .ok (.iconst 4, 1) := by decide +kernel
theorem d_in_bitCount_27 : decode c_in_bitCount 27 = .ok (.iushr, 1) := by decide +kernel
theorem d_in_bitCount_28 : decode c_in_bitCount 28 = .ok (.iadd, 1) := by decide +kernel
theorem d_in_bitCount_29 : decode c_in_bitCount 29 = .ok (.ldc_w 267, 3) := by decide +kernel
theorem d_in_bitCount_32 : decode c_in_bitCount 32 = .ok (.iand, 1) := by decide +kernel
theorem d_in_bitCount_33 : decode c_in_bitCount 33 = .ok (.istore_n 0, 1) := by decide +kernel
theorem d_in_bitCount_34 : decode c_in_bitCount 34 = .ok (.iload_n 0, 1) := by decide +kernel
theorem d_in_bitCount_35 : decode c_in_bitCount 35 = .ok (.iload_n 0, 1) := by decide +kernel
theorem d_in_bitCount_36 : decode c_in_bitCount 36 = .ok (.bipush 8, 2) := by decide +kernel
theorem d_in_bitCount_38 : decode c_in_bitCount 38 = .ok (.iushr, 1) := by decide +kernel
theorem d_in_bitCount_39 : decode c_in_bitCount 39 = .ok (.iadd, 1) := by decide +kernel
theorem d_in_bitCount_40 : decode c_in_bitCount 40 = .ok (.istore_n 0, 1) := by decide +kernel
theorem d_in_bitCount_41 : decode c_in_bitCount 41 = .ok (.iload_n 0, 1) := by decide +kernel
theorem d_in_bitCount_42 : decode c_in_bitCount 42 = .ok (.iload_n 0, 1) := by decide +kernel
theorem d_in_bitCount_43 : decode c_in_bitCount 43 = .ok (.bipush 16, 2) := by decide +kernel
theorem d_in_bitCount_45 : decode c_in_bitCount 45 = .ok (.iushr, 1) := by decide +kernel
theorem d_in_bitCount_46 : decode c_in_bitCount 46 = .ok (.iadd, 1) := by decide +kernel
theorem d_in_bitCount_47 : decode c_in_bitCount 47 = .ok (.istore_n 0, 1) := by decide +kernel
theorem d_in_bitCount_48 : decode c_in_bitCount 48 = .ok (.iload_n 0, 1) := by decide +kernel
theorem d_in_bitCount_49 : decode c_in_bitCount 49 = .ok (.bipush 63, 2) := by decide +kernel
theorem d_in_bitCount_51 : decode c_in_bitCount 51 = .ok (.iand, 1) := by decide +kernel
theorem d_in_bitCount_52 : decode c_in_bitCount 52 = .ok (.ireturn, 1) := by decide +kernel
theorem d_h_commit_0 : decode c_h_commit 0 = .ok (.aload_n 0, 1) := by decide +kernel
theorem d_h_commit_1 : decode c_h_commit 1 = .ok (.iload_n 1, 1) := by decide +kernel
theorem d_h_commit_2 : decode c_h_commit 2 = .ok (.invokevirtual 127, 3) := by decide +kernel
theorem d_h_commit_5 : decode c_h_commit 5 = .ok (.getfield 131, 3) := by decide +kernel
theorem d_h_commit_8 : decode c_h_commit 8 = .ok (.astore_n 2, 1) := by decide +kernel
theorem d_h_commit_9 : decode c_h_commit 9 = .ok (.aload_n 2, 1) := by decide +kernel
theorem d_h_commit_10 : decode c_h_commit 10 = .ok (.getfield 113, 3) := by decide +kernel
theorem d_h_commit_13 : decode c_h_commit 13 = .ok (.bipush 8, 2) := by decide +kernel
theorem d_h_commit_15 : decode c_h_commit 15 = .ok (.if_icmp .le 13, 3) := by decide +kernel
theorem d_h_commit_18 : decode c_h_commit 18 = .ok (.new 134, 3) := by decide +kernel
theorem d_h_commit_21 : decode c_h_commit 21 = .ok (.dup, 1) := by decide +kernel
theorem d_h_commit_22 : decode c_h_commit 22 = .ok (.ldc 136, 2) := by decide +kernel
theorem d_h_commit_24 : decode c_h_commit 24 = .ok (.invokespecial 138, 3) := by decide +kernel
theorem d_h_commit_27 : decode c_h_commit 27 = .ok (.athrow, 1) := by decide +kernel
theorem d_h_commit_28 : decode c_h_commit 28 = .ok (.aload_n 0, 1) := by decide +kernel
theorem d_h_commit_29 : decode c_h_commit 29 = .ok (.invokevirtual 55, 3) := by decide +kernel
theorem d_h_commit_32 : decode c_h_commit 32 = .ok (.aload_n 0, 1) := by decide +kernel
theorem d_h_commit_33 : decode c_h_commit 33 = .ok (.aload_n 2, 1) := by decide +kernel
theorem d_h_commit_34 : decode c_h_commit 34 = .ok (.invokevirtual 139, 3) := by decide +kernel
theorem d_h_commit_37 : decode c_h_commit 37 = .ok (.iconst 1, 1) := by decide +kernel
theorem d_h_commit_38 : decode c_h_commit 38 = .ok (.invokevirtual 63, 3) := by decide +kernel
theorem d_h_commit_41 : decode c_h_commit 41 = .ok (.ireturn, 1) := by decide +kernel
theorem d_h_containerAt_0 : decode c_h_containerAt 0 = .ok (.iload_n 1, 1) := by decide +kernel
theorem d_h_containerAt_1 : decode c_h_containerAt 1 = .ok (.ifCond .lt 14, 3) := by decide +kernel
theorem d_h_containerAt_4 : decode c_h_containerAt 4 = .ok (.iload_n 1, 1) := by decide +kernel
theorem d_h_containerAt_5 : decode c_h_containerAt 5 = .ok (.aload_n 0, 1) := by decide +kernel
theorem d_h_containerAt_6 : decode c_h_containerAt 6 = .ok (.getfield 19, 3) := by decide +kernel
theorem d_h_containerAt_9 : decode c_h_containerAt 9 = .ok (.invokevirtual 147, 3) := by decide +kernel
theorem d_h_containerAt_12 : decode c_h_containerAt 12 = .ok (.if_icmp .lt 14, 3) := by decide +kernel
theorem d_h_containerAt_15 : decode c_h_containerAt 15 = .ok (.new 96, 3) := by decide +kernel
theorem d_h_containerAt_18 : decode c_h_containerAt 18 = .ok (.dup, 1) := by decide +kernel
theorem d_h_containerAt_19 : decode c_h_containerAt 19 = .ok (.ldc_w 329, 3) := by decide +kernel
theorem d_h_containerAt_22 : decode c_h_containerAt 22 = .ok (.invokespecial 100, 3) := by decide +kernel
theorem d_h_containerAt_25 : decode c_h_containerAt 25 = .ok (.athrow, 1) := by decide +kernel
theorem d_h_containerAt_26 : decode c_h_containerAt 26 = .ok (.aload_n 0, 1) := by decide +kernel
theorem d_h_containerAt_27 : decode c_h_containerAt 27 = .ok (.getfield 19, 3) := by decide +kernel
theorem d_h_containerAt_30 : decode c_h_containerAt 30 = .ok (.iload_n 1, 1) := by decide +kernel
theorem d_h_containerAt_31 : decode c_h_containerAt 31 = .ok (.invokevirtual 226, 3) := by decide +kernel
theorem d_h_containerAt_34 : decode c_h_containerAt 34 = .ok (.checkcast 25, 3) := by decide +kernel
theorem d_h_containerAt_37 : decode c_h_containerAt 37 = .ok (.areturn, 1) := by decide +kernel
theorem d_l_copied_0 : decode c_l_copied 0 = .ok (.new 10, 3) := by decide +kernel
theorem d_l_copied_3 : decode c_l_copied 3 = .ok (.dup, 1) := by decide +kernel
theorem d_l_copied_4 : decode c_l_copied 4 = .ok (.aload_n 0, 1) := by decide +kernel
theorem d_l_copied_5 : decode c_l_copied 5 = .ok (.getfield 15, 3) := by decide +kernel
theorem d_l_copied_8 : decode c_l_copied 8 = .ok (.invokespecial 23, 3) := by decide +kernel
theorem d_l_copied_11 : decode c_l_copied 11 = .ok (.astore_n 1, 1) := by decide +kernel
theorem d_l_copied_12 : decode c_l_copied 12 = .ok (.aload_n 0, 1) := by decide +kernel
theorem d_l_copied_13 : decode c_l_copied 13 = .ok (.getfield 9, 3) := by decide +kernel
theorem d_l_copied_16 : decode c_l_copied 16 = .ok (.iconst 0, 1) := by decide +kernel
theorem d_l_copied_17 : decode c_l_copied 17 = .ok (.aload_n 1, 1) := by decide +kernel
theorem d_l_copied_18 : decode c_l_copied 18 = .ok (.getfield 9, 3) := by decide +kernel
theorem d_l_copied_21 : decode c_l_copied 21 = .ok (.iconst 0, 1) := by decide +kernel
theorem d_l_copied_22 : decode c_l_copied 22 = .ok (.bipush 32, 2) := by decide +kernel
theorem d_l_copied_24 : decode c_l_copied 24 = .ok (.invokestatic 26, 3) := by decide +kernel
theorem d_l_copied_27 : decode c_l_copied 27 = .ok (.aload_n 1, 1) := by decide +kernel
theorem d_l_copied_28 : decode c_l_copied 28 = .ok (.aload_n 0, 1) := by decide +kernel
theorem d_l_copied_29 : decode c_l_copied 29 = .ok (.getfield 32, 3) := by decide +kernel
theorem d_l_copied_32 : decode c_l_copied 32 = .ok (.putfield 32, 3) := by decide +kernel
theorem d_l_copied_35 : decode c_l_copied 35 = .ok (.aload_n 1, 1) := by decide +kernel
theorem d_l_copied_36 : decode c_l_copied 36 = .ok (.areturn, 1) := by decide +kernel
theorem d_h_newGroup_0 : decode c_h_newGroup 0 = .ok (.aload_n 0, 1) := by decide +kernel
theorem d_h_newGroup_1 : decode c_h_newGroup 1 = .ok (.iload_n 1, 1) := by decide +kernel
theorem d_h_newGroup_2 : decode c_h_newGroup 2 = .ok (.invokevirtual 143, 3) := by decide +kernel
theorem d_h_newGroup_5 : decode c_h_newGroup 5 = .ok (.astore 5, 2) := by decide +kernel
theorem d_h_newGroup_7 : decode c_h_newGroup 7 = .ok (.iload_n 2, 1) := by decide +kernel
theorem d_h_newGroup_8 : decode c_h_newGroup 8 = .ok (.sipush 10000, 3) := by decide +kernel
theorem d_h_newGroup_11 : decode c_h_newGroup 11 = .ok (.invokestatic 71, 3) := by decide +kernel
theorem d_h_newGroup_14 : decode c_h_newGroup 14 = .ok (.iload_n 3, 1) := by decide +kernel
theorem d_h_newGroup_15 : decode c_h_newGroup 15 = .ok (.bipush 100, 2) := by decide +kernel
theorem d_h_newGroup_17 : decode c_h_newGroup 17 = .ok (.invokestatic 71, 3) := by decide +kernel
theorem d_h_newGroup_20 : decode c_h_newGroup 20 = .ok (.iload 4, 2) := by decide +kernel
theorem d_h_newGroup_22 : decode c_h_newGroup 22 = .ok (.bipush 100, 2) := by decide +kernel
theorem d_h_newGroup_24 : decode c_h_newGroup 24 = .ok (.invokestatic 71, 3) := by decide +kernel
theorem d_h_newGroup_27 : decode c_h_newGroup 27 = .ok (.aload_n 0, 1) := by decide +kernel
theorem d_h_newGroup_28 : decode c_h_newGroup 28 = .ok (.getfield 16, 3) := by decide +kernel
theorem d_h_newGroup_31 : decode c_h_newGroup 31 = .ok (.invokevirtual 147, 3) := by decide +kernel
theorem d_h_newGroup_34 : decode c_h_newGroup 34 = .ok (.bipush 8, 2) := by decide +kernel
theorem d_h_newGroup_36 : decode c_h_newGroup 36 = .ok (.if_icmp .lt 13, 3) := by decide +kernel
theorem d_h_newGroup_39 : decode c_h_newGroup 39 = .ok (.new 134, 3) := by decide +kernel
theorem d_h_newGroup_42 : decode c_h_newGroup 42 = .ok (.dup, 1) := by decide +kernel
theorem d_h_newGroup_43 : decode c_h_newGroup 43 = .ok (.ldc 150, 2) := by decide +kernel
theorem d_h_newGroup_45 : decode c_h_newGroup 45 = .ok (.invokespecial 138, 3) := by decide +kernel
theorem d_h_newGroup_48 : decode c_h_newGroup 48 = .ok (.athrow, 1) := by decide +kernel
theorem d_h_newGroup_49 : decode c_h_newGroup 49 = .ok (.aload_n 0, 1) := by decide +kernel
theorem d_h_newGroup_50 : decode c_h_newGroup 50 = .ok (.getfield 16, 3) := by decide +kernel
theorem d_h_newGroup_53 : decode c_h_newGroup 53 = .ok (.new 38, 3) := by decide +kernel
theorem d_h_newGroup_56 : decode c_h_newGroup 56 = .ok (.dup, 1) := by decide +kernel
theorem d_h_newGroup_57 : decode c_h_newGroup 57 = .ok (.aload 5, 2) := by decide +kernel
theorem d_h_newGroup_59 : decode c_h_newGroup 59 = .ok (.iload_n 2, 1) := by decide +kernel
theorem d_h_newGroup_60 : decode c_h_newGroup 60 = .ok (.iload_n 3, 1) := by decide +kernel
theorem d_h_newGroup_61 : decode c_h_newGroup 61 = .ok (.iload 4, 2) := by decide +kernel
theorem d_h_newGroup_63 : decode c_h_newGroup 63 = .ok (.invokespecial 40, 3) := by decide +kernel
theorem d_h_newGroup_66 : decode c_h_newGroup 66 = .ok (.invokevirtual 43, 3) := by decide +kernel
theorem d_h_newGroup_69 : decode c_h_newGroup 69 = .ok (.pop, 1) := by decide +kernel
theorem d_h_newGroup_70 : decode c_h_newGroup 70 = .ok (.aload_n 0, 1) := by decide +kernel
theorem d_h_newGroup_71 : decode c_h_newGroup 71 = .ok (.getfield 16, 3) := by decide +kernel
theorem d_h_newGroup_74 : decode c_h_newGroup 74 = .ok (.invokevirtual 147, 3) := by decide +kernel
theorem d_h_newGroup_77 : decode c_h_newGroup 77 = .ok (.iconst 1, 1) := by decide +kernel
theorem d_h_newGroup_78 : decode c_h_newGroup 78 = .ok (.isub, 1) := by decide +kernel
theorem d_h_newGroup_79 : decode c_h_newGroup 79 = .ok (.ireturn, 1) := by decide +kernel
theorem d_h_groupAt_0 : decode c_h_groupAt 0 = .ok (.iload_n 1, 1) := by decide +kernel
theorem d_h_groupAt_1 : decode c_h_groupAt 1 = .ok (.ifCond .lt 14, 3) := by decide +kernel
theorem d_h_groupAt_4 : decode c_h_groupAt 4 = .ok (.iload_n 1, 1) := by decide +kernel
theorem d_h_groupAt_5 : decode c_h_groupAt 5 = .ok (.aload_n 0, 1) := by decide +kernel
theorem d_h_groupAt_6 : decode c_h_groupAt 6 = .ok (.getfield 16, 3) := by decide +kernel
theorem d_h_groupAt_9 : decode c_h_groupAt 9 = .ok (.invokevirtual 147, 3) := by decide +kernel
theorem d_h_groupAt_12 : decode c_h_groupAt 12 = .ok (.if_icmp .lt 14, 3) := by decide +kernel
theorem d_h_groupAt_15 : decode c_h_groupAt 15 = .ok (.new 96, 3) := by decide +kernel
theorem d_h_groupAt_18 : decode c_h_groupAt 18 = .ok (.dup, 1) := by decide +kernel
theorem d_h_groupAt_19 : decode c_h_groupAt 19 = .ok (.ldc_w 327, 3) := by decide +kernel
theorem d_h_groupAt_22 : decode c_h_groupAt 22 = .ok (.invokespecial 100, 3) := by decide +kernel
theorem d_h_groupAt_25 : decode c_h_groupAt 25 = .ok (.athrow, 1) := by decide +kernel
theorem d_h_groupAt_26 : decode c_h_groupAt 26 = .ok (.aload_n 0, 1) := by decide +kernel
theorem d_h_groupAt_27 : decode c_h_groupAt 27 = .ok (.getfield 16, 3) := by decide +kernel
theorem d_h_groupAt_30 : decode c_h_groupAt 30 = .ok (.iload_n 1, 1) := by decide +kernel
theorem d_h_groupAt_31 : decode c_h_groupAt 31 = .ok (.invokevirtual 226, 3) := by decide +kernel
theorem d_h_groupAt_34 : decode c_h_groupAt 34 = .ok (.checkcast 38, 3) := by decide +kernel
theorem d_h_groupAt_37 : decode c_h_groupAt 37 = .ok (.areturn, 1) := by decide +kernel
theorem d_h_groupMemory_0 : decode c_h_groupMemory 0 = .ok (.aload_n 0, 1) := by decide +kernel
theorem d_h_groupMemory_1 : decode c_h_groupMemory 1 = .ok (.iload_n 1, 1) := by decide +kernel
theorem d_h_groupMemory_2 : decode c_h_groupMemory 2 = .ok (.invokevirtual 143, 3) := by decide +kernel
theorem d_h_groupMemory_5 : decode c_h_groupMemory 5 = .ok (.getfield 152, 3) := by decide +kernel
theorem d_h_groupMemory_8 : decode c_h_groupMemory 8 = .ok (.ireturn, 1) := by decide +kernel
theorem d_h_groupProcesses_0 : decode c_h_groupProcesses 0 = .ok (.aload_n 0, 1) := by decide +kernel
theorem d_h_groupProcesses_1 : decode c_h_groupProcesses 1 = .ok (.iload_n 1, 1) := by decide +kernel
theorem d_h_groupProcesses_2 : decode c_h_groupProcesses 2 = .ok (.invokevirtual 143, 3) := by decide +kernel
theorem d_h_groupProcesses_5 : decode c_h_groupProcesses 5 = .ok (.getfield 155, 3) := by decide +kernel
theorem d_h_groupProcesses_8 : decode c_h_groupProcesses 8 = .ok (.ireturn, 1) := by decide +kernel
theorem d_h_run_0 : decode c_h_run 0 = .ok (.aload_n 0, 1) := by decide +kernel
theorem d_h_run_1 : decode c_h_run 1 = .ok (.iload_n 1, 1) := by decide +kernel
theorem d_h_run_2 : decode c_h_run 2 = .ok (.invokevirtual 47, 3) := by decide +kernel
theorem d_h_run_5 : decode c_h_run 5 = .ok (.astore 5, 2) := by decide +kernel
theorem d_h_run_7 : decode c_h_run 7 = .ok (.aload_n 0, 1) := by decide +kernel
theorem d_h_run_8 : decode c_h_run 8 = .ok (.iload_n 2, 1) := by decide +kernel
theorem d_h_run_9 : decode c_h_run 9 = .ok (.invokevirtual 143, 3) := by decide +kernel
theorem d_h_run_12 : decode c_h_run 12 = .ok (.astore 6, 2) := by decide +kernel
theorem d_h_run_14 : decode c_h_run 14 = .ok (.iload_n 3, 1) := by decide +kernel
theorem d_h_run_15 : decode c_h_run 15 = .ok (.ifCond .lt 9, 3) := by decide +kernel
theorem d_h_run_18 : decode c_h_run 18 = .ok (.iload_n 3, 1) := by decide +kernel
theorem d_h_run_19 : decode c_h_run 19 = .ok (.bipush 15, 2) := by decide +kernel
theorem d_h_run_21 : decode c_h_run 21 = .ok (.if_icmp .le 13, 3) := by decide +kernel
theorem d_h_run_24 : decode c_h_run 24 = .ok (.new 158, 3) := by decide +kernel
theorem d_h_run_27 : decode c_h_run 27 = .ok (.dup, 1) := by decide +kernel
theorem d_h_run_28 : decode c_h_run 28 = .ok (.ldc 160, 2) := by decide +kernel
theorem d_h_run_30 : decode c_h_run 30 = .ok (.invokespecial 162, 3) := by decide +kernel
theorem d_h_run_33 : decode c_h_run 33 = .ok (.athrow, 1) := by decide +kernel
theorem d_h_run_34 : decode c_h_run 34 = .ok (.iload 4, 2) := by decide +kernel
theorem d_h_run_36 : decode c_h_run 36 = .ok (.bipush 100, 2) := by decide +kernel
theorem d_h_run_38 : decode c_h_run 38 = .ok (.invokestatic 71, 3) := by decide +kernel
theorem d_h_run_41 : decode c_h_run 41 = .ok (.aload 5, 2) := by decide +kernel
theorem d_h_run_43 : decode c_h_run 43 = .ok (.getfield 109, 3) := by decide +kernel
theorem d_h_run_46 : decode c_h_run 46 = .ok (.ifCond .ne 13, 3) := by decide +kernel
theorem d_h_run_49 : decode c_h_run 49 = .ok (.new 134, 3) := by decide +kernel
theorem d_h_run_52 : decode c_h_run 52 = .ok (.dup, 1) := by decide +kernel
theorem d_h_run_53 : decode c_h_run 53 = .ok (.ldc 163, 2) := by decide +kernel
theorem d_h_run_55 : decode c_h_run 55 = .ok (.invokespecial 138, 3) := by decide +kernel
theorem d_h_run_58 : decode c_h_run 58 = .ok (.athrow, 1) := by decide +kernel
theorem d_h_run_59 : decode c_h_run 59 = .ok (.aload_n 0, 1) := by decide +kernel
theorem d_h_run_60 : decode c_h_run 60 = .ok (.invokevirtual 165, 3) := by decide +kernel
theorem d_h_run_63 : decode c_h_run 63 = .ok (.aload 6, 2) := by decide +kernel
theorem d_h_run_65 : decode c_h_run 65 = .ok (.iconst 0, 1) := by decide +kernel
theorem d_h_run_66 : decode c_h_run 66 = .ok (.iconst 1, 1) := by decide +kernel
theorem d_h_run_67 : decode c_h_run 67 = .ok (.invokestatic 168, 3) := by decide +kernel
theorem d_h_run_70 : decode c_h_run 70 = .ok (.aload_n 0, 1) := by decide +kernel
theorem d_h_run_71 : decode c_h_run 71 = .ok (.aload 6, 2) := by decide +kernel
theorem d_h_run_73 : decode c_h_run 73 = .ok (.new 58, 3) := by decide +kernel
theorem d_h_run_76 : decode c_h_run 76 = .ok (.dup, 1) := by decide +kernel
theorem d_h_run_77 : decode c_h_run 77 = .ok (.aload 5, 2) := by decide +kernel
theorem d_h_run_79 : decode c_h_run 79 = .ok (.getfield 79, 3) := by decide +kernel
theorem d_h_run_82 : decode c_h_run 82 = .ok (.invokespecial 60, 3) := by decide +kernel
theorem d_h_run_85 : decode c_h_run 85 = .ok (.iload 4, 2) := by decide +kernel
theorem d_h_run_87 : decode c_h_run 87 = .ok (.invokevirtual 172, 3) := by decide +kernel
theorem d_h_run_90 : decode c_h_run 90 = .ok (.astore 7, 2) := by decide +kernel
theorem d_h_run_92 : decode c_h_run 92 = .ok (.aload 7, 2) := by decide +kernel
theorem d_h_run_94 : decode c_h_run 94 = .ok (.iload_n 3, 1) := by decide +kernel
theorem d_h_run_95 : decode c_h_run 95 = .ok (.putfield 176, 3) := by decide +kernel
theorem d_h_run_98 : decode c_h_run 98 = .ok (.aload 7, 2) := by decide +kernel
theorem d_h_run_100 : decode c_h_run 100 = .ok (.iload_n 3, 1) := by decide +kernel
theorem d_h_run_101 : decode c_h_run 101 = .ok (.putfield 179, 3) := by decide +kernel
theorem d_h_run_104 : decode c_h_run 104 = .ok (.aload 7, 2) := by decide +kernel
theorem d_h_run_106 : decode c_h_run 106 = .ok (.iconst 0, 1) := by decide +kernel
theorem d_h_run_107 : decode c_h_run 107 = .ok (.iconst 1, 1) := by decide +kernel
theorem d_h_run_108 : decode c_h_run 108 = .ok (.invokevirtual 182, 3) := by decide +kernel
theorem d_h_run_111 : decode c_h_run 111 = .ok (.aload 7, 2) := by decide +kernel
theorem d_h_run_113 : decode c_h_run 113 = .ok (.getfield 185, 3) := by decide +kernel
theorem d_h_run_116 : decode c_h_run 116 = .ok (.ireturn, 1) := by decide +kernel
theorem d_h_requireContainerSlot_0 : decode c_h_requireContainerSlot 0 = .ok (.aload_n 0, 1) := by decide +kernel
theorem d_h_requireContainerSlot_1 : decode c_h_requireContainerSlot 1 = .ok (.getfield 19, 3) := by decide +kernel
theorem d_h_requireContainerSlot_4 : decode c_h_requireContainerSlot 4 = .ok (.invokevirtual 147, 3) := by decide +kernel
theorem d_h_requireContainerSlot_7 : decode c_h_requireContainerSlot 7 = .ok (.bipush 20, 2) := by decide +kernel
theorem d_h_requireContainerSlot_9 : decode c_h_requireContainerSlot 9 = .ok (.if_icmp .lt 14, 3) := by decide +kernel
theorem d_h_requireContainerSlot_12 : decode c_h_requireContainerSlot 12 = .ok (.new 134, 3) := by decide +kernel
theorem d_h_requireContainerSlot_15 : decode c_h_requireContainerSlot 15 = .ok (.dup, 1) := by decide +kernel
theorem d_h_requireContainerSlot_16 : decode c_h_requireContainerSlot 16 = .ok (.ldc_w 347, 3) := by decide +kernel
theorem d_h_requireContainerSlot_19 : decode c_h_requireContainerSlot 19 = .ok (.invokespecial 138, 3) := by decide +kernel
theorem d_h_requireContainerSlot_22 : decode c_h_requireContainerSlot 22 = .ok (.athrow, 1) := by decide +kernel
theorem d_h_requireContainerSlot_23 : decode c_h_requireContainerSlot 23 = .ok (.return_, 1) := by decide +kernel
theorem d_h_requireRoom_0 : decode c_h_requireRoom 0 = .ok (.aload_n 0, 1) := by decide +kernel
theorem d_h_requireRoom_1 : decode c_h_requireRoom 1 = .ok (.iload_n 1, 1) := by decide +kernel
theorem d_h_requireRoom_2 : decode c_h_requireRoom 2 = .ok (.iload_n 2, 1) := by decide +kernel
theorem d_h_requireRoom_3 : decode c_h_requireRoom 3 = .ok (.invokevirtual 349, 3) := by decide +kernel
theorem d_h_requireRoom_6 : decode c_h_requireRoom 6 = .ok (.ifCond .ne 14, 3) := by decide +kernel
theorem d_h_requireRoom_9 : decode c_h_requireRoom 9 = .ok (.new 134, 3) := by decide +kernel
theorem d_h_requireRoom_12 : decode c_h_requireRoom 12 = .ok (.dup, 1) := by decide +kernel
theorem d_h_requireRoom_13 : decode c_h_requireRoom 13 = .ok (.ldc_w 353, 3) := by decide +kernel
theorem d_h_requireRoom_16 : decode c_h_requireRoom 16 = .ok (.invokespecial 138, 3) := by decide +kernel
theorem d_h_requireRoom_19 : decode c_h_requireRoom 19 = .ok (.athrow, 1) := by decide +kernel
theorem d_h_requireRoom_20 : decode c_h_requireRoom 20 = .ok (.return_, 1) := by decide +kernel
theorem d_g_hasRoom_0 : decode c_g_hasRoom 0 = .ok (.aload_n 0, 1) := by decide +kernel
theorem d_g_hasRoom_1 : decode c_g_hasRoom 1 = .ok (.astore_n 3, 1) := by decide +kernel
theorem d_g_hasRoom_2 : decode c_g_hasRoom 2 = .ok (.aload_n 3, 1) := by decide +kernel
theorem d_g_hasRoom_3 : decode c_g_hasRoom 3 = .ok (.ifnull 63, 3) := by decide +kernel
theorem d_g_hasRoom_6 : decode c_g_hasRoom 6 = .ok (.aload_n 3, 1) := by decide +kernel
theorem d_g_hasRoom_7 : decode c_g_hasRoom 7 = .ok (.getfield 23, 3) := by decide +kernel
theorem d_g_hasRoom_10 : decode c_g_hasRoom 10 = .ok (.iload_n 1, 1) := by decide +kernel
theorem d_g_hasRoom_11 : decode c_g_hasRoom 11 = .ok (.iadd, 1) := by decide +kernel
theorem d_g_hasRoom_12 : decode c_g_hasRoom 12 = .ok (.aload_n 3, 1) := by decide +kernel
theorem d_g_hasRoom_13 : decode c_g_hasRoom 13 = .ok (.getfield 13, 3) := by decide +kernel
theorem d_g_hasRoom_16 : decode c_g_hasRoom 16 = .ok (.if_icmp .gt 7, 3) := by decide +kernel
theorem d_g_hasRoom_19 : decode c_g_hasRoom 19 = .ok (.iconst 1, 1) := by decide +kernel
theorem d_g_hasRoom_20 : decode c_g_hasRoom 20 = .ok (.goto 4, 3) := by decide +kernel
theorem d_g_hasRoom_23 : decode c_g_hasRoom 23 = .ok (.iconst 0, 1) := by decide +kernel
theorem d_g_hasRoom_24 : decode c_g_hasRoom 24 = .ok (.istore 4, 2) := by decide +kernel
theorem d_g_hasRoom_26 : decode c_g_hasRoom 26 = .ok (.aload_n 3, 1) := by decide +kernel
theorem d_g_hasRoom_27 : decode c_g_hasRoom 27 = .ok (.getfield 26, 3) := by decide +kernel
theorem d_g_hasRoom_30 : decode c_g_hasRoom 30 = .ok (.iload_n 2, 1) := by decide +kernel
theorem d_g_hasRoom_31 : decode c_g_hasRoom 31 = .ok (.iadd, 1) := by decide +kernel
theorem d_g_hasRoom_32 : decode c_g_hasRoom 32 = .ok (.aload_n 3, 1) := by decide +kernel
theorem d_g_hasRoom_33 : decode c_g_hasRoom 33 = .ok (.getfield 17, 3) := by decide +kernel
theorem d_g_hasRoom_36 : decode c_g_hasRoom 36 = .ok (.if_icmp .gt 7, 3) := by decide +kernel
theorem d_g_hasRoom_39 : decode c_g_hasRoom 39 = .ok (.iconst 1, 1) := by decide +kernel
theorem d_g_hasRoom_40 : decode c_g_hasRoom 40 = .ok (.goto 4, 3) := by decide +kernel
theorem d_g_hasRoom_43 : decode c_g_hasRoom 43 = .ok (.iconst 0, 1) := by decide +kernel
theorem d_g_hasRoom_44 : decode c_g_hasRoom 44 = .ok (.istore 5, 2) := by decide +kernel
theorem d_g_hasRoom_46 : decode c_g_hasRoom 46 = .ok (.iload 4, 2) := by decide +kernel
theorem d_g_hasRoom_48 : decode c_g_hasRoom 48 = .ok (.ifCond .eq 8, 3) := by decide +kernel
theorem d_g_hasRoom_51 : decode c_g_hasRoom 51 = .ok (.iload 5, 2) := by decide +kernel
theorem d_g_hasRoom_53 : decode c_g_hasRoom 53 = .ok (.ifCond .ne 5, 3) := by decide +kernel
theorem d_g_hasRoom_56 : decode c_g_hasRoom 56 = .ok (.iconst 0, 1) := by decide +kernel
theorem d_g_hasRoom_57 : decode c_g_hasRoom 57 = .ok (.ireturn, 1) := by decide +kernel
theorem d_g_hasRoom_58 : decode c_g_hasRoom 58 = .ok (.aload_n 3, 1) := by decide +kernel
theorem d_g_hasRoom_59 : decode c_g_hasRoom 59 = .ok (.getfield 7, 3) := by decide +kernel
theorem d_g_hasRoom_62 : decode c_g_hasRoom 62 = .ok (.astore_n 3, 1) := by decide +kernel
theorem d_g_hasRoom_63 : decode c_g_hasRoom 63 = .ok (.goto (-61), 3) := by decide +kernel
theorem d_g_hasRoom_66 : decode c_g_hasRoom 66 = .ok (.iconst 1, 1) := by decide +kernel
theorem d_g_hasRoom_67 : decode c_g_hasRoom 67 = .ok (.ireturn, 1) := by decide +kernel
theorem d_h_addContainer_0 : decode c_h_addContainer 0 = .ok (.new 25, 3) := by decide +kernel
theorem d_h_addContainer_3 : decode c_h_addContainer 3 = .ok (.dup, 1) := by decide +kernel
theorem d_h_addContainer_4 : decode c_h_addContainer 4 = .ok (.aload_n 0, 1) := by decide +kernel
theorem d_h_addContainer_5 : decode c_h_addContainer 5 = .ok (.getfield 19, 3) := by decide +kernel
theorem d_h_addContainer_8 : decode c_h_addContainer 8 = .ok (.invokevirtual 147, 3) := by decide +kernel
theorem d_h_addContainer_11 : decode c_h_addContainer 11 = .ok (.aload_n 1, 1) := by decide +kernel
theorem d_h_addContainer_12 : decode c_h_addContainer 12 = .ok (.aload_n 2, 1) := by decide +kernel
theorem d_h_addContainer_13 : decode c_h_addContainer 13 = .ok (.iload_n 3, 1) := by decide +kernel
theorem d_h_addContainer_14 : decode c_h_addContainer 14 = .ok (.invokespecial 368, 3) := by decide +kernel
theorem d_h_addContainer_17 : decode c_h_addContainer 17 = .ok (.astore 4, 2) := by decide +kernel
theorem d_h_addContainer_19 : decode c_h_addContainer 19 = .ok (.aload_n 0, 1) := by decide +kernel
theorem d_h_addContainer_20 : decode c_h_addContainer 20 = .ok (.getfield 19, 3) := by decide +kernel
theorem d_h_addContainer_23 : decode c_h_addContainer 23 = .ok (.aload 4, 2) := by decide +kernel
theorem d_h_addContainer_25 : decode c_h_addContainer 25 = .ok (.invokevirtual 43, 3) := by decide +kernel
theorem d_h_addContainer_28 : decode c_h_addContainer 28 = .ok (.pop, 1) := by decide +kernel
theorem d_h_addContainer_29 : decode c_h_addContainer 29 = .ok (.aload 4, 2) := by decide +kernel
theorem d_h_addContainer_31 : decode c_h_addContainer 31 = .ok (.areturn, 1) := by decide +kernel
theorem d_c_init_0 : decode c_c_init 0 = .ok (.aload_n 0, 1) := by decide +kernel
theorem d_c_init_1 : decode c_c_init 1 = .ok (.iload 4, 2) := by decide +kernel
theorem d_c_init_3 : decode c_c_init 3 = .ok (.invokespecial 3, 3) := by decide +kernel
theorem d_c_init_6 : decode c_c_init 6 = .ok (.aload_n 0, 1) := by decide +kernel
theorem d_c_init_7 : decode c_c_init 7 = .ok (.iconst 0, 1) := by decide +kernel
theorem d_c_init_8 : decode c_c_init 8 = .ok (.putfield 9, 3) := by decide +kernel
theorem d_c_init_11 : decode c_c_init 11 = .ok (.aload_n 0, 1) := by decide +kernel
theorem d_c_init_12 : decode c_c_init 12 = .ok (.iconst (-1), 1) := by decide +kernel
theorem d_c_init_13 : decode c_c_init 13 = .ok (.putfield 15, 3) := by decide +kernel
theorem d_c_init_16 : decode c_c_init 16 = .ok (.aload_n 0, 1) := by decide +kernel
theorem d_c_init_17 : decode c_c_init 17 = .ok (.iconst (-1), 1) := by decide +kernel
theorem d_c_init_18 : decode c_c_init 18 = .ok (.putfield 18, 3) := by decide +kernel
theorem d_c_init_21 : decode c_c_init 21 = .ok (.aload_n 0, 1) := by decide +kernel
theorem d_c_init_22 : decode c_c_init 22 = .ok (.iload_n 1, 1) := by decide +kernel
theorem d_c_init_23 : decode c_c_init 23 = .ok (.putfield 21, 3) := by decide +kernel
theorem d_c_init_26 : decode c_c_init 26 = .ok (.aload_n 0, 1) := by decide +kernel
theorem d_c_init_27 : decode c_c_init 27 = .ok (.aload_n 2, 1) := by decide +kernel
theorem d_c_init_28 : decode c_c_init 28 = .ok (.putfield 24, 3) := by decide +kernel
theorem d_c_init_31 : decode c_c_init 31 = .ok (.aload_n 0, 1) := by decide +kernel
theorem d_c_init_32 : decode c_c_init 32 = .ok (.aload_n 3, 1) := by decide +kernel
theorem d_c_init_33 : decode c_c_init 33 = .ok (.putfield 28, 3) := by decide +kernel
theorem d_c_init_36 : decode c_c_init 36 = .ok (.return_, 1) := by decide +kernel
theorem d_c_charge_0 : decode c_c_charge 0 = .ok (.aload_n 0, 1) := by decide +kernel
theorem d_c_charge_1 : decode c_c_charge 1 = .ok (.dup, 1) := by decide +kernel
theorem d_c_charge_2 : decode c_c_charge 2 = .ok (.getfield 35, 3) := by decide +kernel
theorem d_c_charge_5 : decode c_c_charge 5 = .ok (.iload_n 1, 1) := by decide +kernel
theorem d_c_charge_6 : decode c_c_charge 6 = .ok (.iadd, 1) := by decide +kernel
theorem d_c_charge_7 : decode c_c_charge 7 = .ok (.putfield 35, 3) := by decide +kernel
theorem d_c_charge_10 : decode c_c_charge 10 = .ok (.aload_n 0, 1) := by decide +kernel
theorem d_c_charge_11 : decode c_c_charge 11 = .ok (.dup, 1) := by decide +kernel
theorem d_c_charge_12 : decode c_c_charge 12 = .ok (.getfield 38, 3) := by decide +kernel
theorem d_c_charge_15 : decode c_c_charge 15 = .ok (.iload_n 2, 1) := by decide +kernel
theorem d_c_charge_16 : decode c_c_charge 16 = .ok (.iadd, 1) := by decide +kernel
theorem d_c_charge_17 : decode c_c_charge 17 = .ok (.putfield 38, 3) := by decide +kernel
theorem d_c_charge_20 : decode c_c_charge 20 = .ok (.aload_n 0, 1) := by decide +kernel
theorem d_c_charge_21 : decode c_c_charge 21 = .ok (.getfield 24, 3) := by decide +kernel
theorem d_c_charge_24 : decode c_c_charge 24 = .ok (.astore_n 3, 1) := by decide +kernel
theorem d_c_charge_25 : decode c_c_charge 25 = .ok (.aload_n 3, 1) := by decide +kernel
theorem d_c_charge_26 : decode c_c_charge 26 = .ok (.ifnull 31, 3) := by decide +kernel
theorem d_c_charge_29 : decode c_c_charge 29 = .ok (.aload_n 3, 1) := by decide +kernel
theorem d_c_charge_30 : decode c_c_charge 30 = .ok (.dup, 1) := by decide +kernel
theorem d_c_charge_31 : decode c_c_charge 31 = .ok (.getfield 41, 3) := by decide +kernel
theorem d_c_charge_34 : decode c_c_charge 34 = .ok (.iload_n 1, 1) := by decide +kernel
theorem d_c_charge_35 : decode c_c_charge 35 = .ok (.iadd, 1) := by decide +kernel
theorem d_c_charge_36 : decode c_c_charge 36 = .ok (.putfield 41, 3) := by decide +kernel
theorem d_c_charge_39 : decode c_c_charge 39 = .ok (.aload_n 3, 1) := by decide +kernel
theorem d_c_charge_40 : decode c_c_charge 40 = .ok (.dup, 1) := by decide +kernel
theorem d_c_charge_41 : decode c_c_charge 41 = .ok (.getfield 44, 3) := by decide +kernel
theorem d_c_charge_44 : decode c_c_charge 44 = .ok (.iload_n 2, 1) := by decide +kernel
theorem d_c_charge_45 : decode c_c_charge 45 = .ok (.iadd, 1) := by decide +kernel
theorem d_c_charge_46 : decode c_c_charge 46 = .ok (.putfield 44, 3) := by decide +kernel
theorem d_c_charge_49 : decode c_c_charge 49 = .ok (.aload_n 3, 1) := by decide +kernel
theorem d_c_charge_50 : decode c_c_charge 50 = .ok (.getfield 45, 3) := by decide +kernel
theorem d_c_charge_53 : decode c_c_charge 53 = .ok (.astore_n 3, 1) := by decide +kernel
theorem d_c_charge_54 : decode c_c_charge 54 = .ok (.goto (-29), 3) := by decide +kernel
theorem d_c_charge_57 : decode c_c_charge 57 = .ok (.return_, 1) := by decide +kernel
theorem d_h_pause_0 : decode c_h_pause 0 = .ok (.aload_n 0, 1) := by decide +kernel
theorem d_h_pause_1 : decode c_h_pause 1 = .ok (.iload_n 1, 1) := by decide +kernel
theorem d_h_pause_2 : decode c_h_pause 2 = .ok (.invokevirtual 188, 3) := by decide +kernel
theorem d_h_pause_5 : decode c_h_pause 5 = .ok (.iconst 1, 1) := by decide +kernel
theorem d_h_pause_6 : decode c_h_pause 6 = .ok (.putfield 191, 3) := by decide +kernel
theorem d_h_pause_9 : decode c_h_pause 9 = .ok (.return_, 1) := by decide +kernel
theorem d_h_runningAt_0 : decode c_h_runningAt 0 = .ok (.aload_n 0, 1) := by decide +kernel
theorem d_h_runningAt_1 : decode c_h_runningAt 1 = .ok (.iload_n 1, 1) := by decide +kernel
theorem d_h_runningAt_2 : decode c_h_runningAt 2 = .ok (.invokevirtual 127, 3) := by decide +kernel
theorem d_h_runningAt_5 : decode c_h_runningAt 5 = .ok (.astore_n 2, 1) := by decide +kernel
theorem d_h_runningAt_6 : decode c_h_runningAt 6 = .ok (.aload_n 2, 1) := by decide +kernel
theorem d_h_runningAt_7 : decode c_h_runningAt 7 = .ok (.invokestatic 203, 3) := by decide +kernel
theorem d_h_runningAt_10 : decode c_h_runningAt 10 = .ok (.aload_n 2, 1) := by decide +kernel
theorem d_h_runningAt_11 : decode c_h_runningAt 11 = .ok (.areturn, 1) := by decide +kernel
theorem d_h_requireRunning_0 : decode c_h_requireRunning 0 = .ok (.aload_n 0, 1) := by decide +kernel
theorem d_h_requireRunning_1 : decode c_h_requireRunning 1 = .ok (.getfield 191, 3) := by decide +kernel
theorem d_h_requireRunning_4 : decode c_h_requireRunning 4 = .ok (.ifCond .eq 14, 3) := by decide +kernel
theorem d_h_requireRunning_7 : decode c_h_requireRunning 7 = .ok (.new 134, 3) := by decide +kernel
theorem d_h_requireRunning_10 : decode c_h_requireRunning 10 = .ok (.dup, 1) := by decide +kernel
theorem d_h_requireRunning_11 : decode c_h_requireRunning 11 = .ok (.ldc_w 355, 3) := by decide +kernel
theorem d_h_requireRunning_14 : decode c_h_requireRunning 14 = .ok (.invokespecial 138, 3) := by decide +kernel
theorem d_h_requireRunning_17 : decode c_h_requireRunning 17 = .ok (.athrow, 1) := by decide +kernel
theorem d_h_requireRunning_18 : decode c_h_requireRunning 18 = .ok (.return_, 1) := by decide +kernel
theorem d_h_resume_0 : decode c_h_resume 0 = .ok (.aload_n 0, 1) := by decide +kernel
theorem d_h_resume_1 : decode c_h_resume 1 = .ok (.iload_n 1, 1) := by decide +kernel
theorem d_h_resume_2 : decode c_h_resume 2 = .ok (.invokevirtual 194, 3) := by decide +kernel
theorem d_h_resume_5 : decode c_h_resume 5 = .ok (.iconst 0, 1) := by decide +kernel
theorem d_h_resume_6 : decode c_h_resume 6 = .ok (.putfield 191, 3) := by decide +kernel
theorem d_h_resume_9 : decode c_h_resume 9 = .ok (.return_, 1) := by decide +kernel
theorem d_h_pausedAt_0 : decode c_h_pausedAt 0 = .ok (.aload_n 0, 1) := by decide +kernel
theorem d_h_pausedAt_1 : decode c_h_pausedAt 1 = .ok (.iload_n 1, 1) := by decide +kernel
theorem d_h_pausedAt_2 : decode c_h_pausedAt 2 = .ok (.invokevirtual 127, 3) := by decide +kernel
theorem d_h_pausedAt_5 : decode c_h_pausedAt 5 = .ok (.astore_n 2, 1) := by decide +kernel
theorem d_h_pausedAt_6 : decode c_h_pausedAt 6 = .ok (.aload_n 2, 1) := by decide +kernel
theorem d_h_pausedAt_7 : decode c_h_pausedAt 7 = .ok (.getfield 191, 3) := by decide +kernel
theorem d_h_pausedAt_10 : decode c_h_pausedAt 10 = .ok (.iconst 1, 1) := by decide +kernel
theorem d_h_pausedAt_11 : decode c_h_pausedAt 11 = .ok (.if_icmp .eq 14, 3) := by decide +kernel
theorem d_h_pausedAt_14 : decode c_h_pausedAt 14 = .ok (.new 134, 3) := by decide +kernel
theorem d_h_pausedAt_17 : decode c_h_pausedAt 17 = .ok (.dup, 1) := by decide +kernel
theorem d_h_pausedAt_18 : decode c_h_pausedAt 18 = .ok (.ldc_w 331, 3) := by decide +kernel
theorem d_h_pausedAt_21 : decode c_h_pausedAt 21 = .ok (.invokespecial 138, 3) := by decide +kernel
theorem d_h_pausedAt_24 : decode c_h_pausedAt 24 = .ok (.athrow, 1) := by decide +kernel
theorem d_h_pausedAt_25 : decode c_h_pausedAt 25 = .ok (.aload_n 2, 1) := by decide +kernel
theorem d_h_pausedAt_26 : decode c_h_pausedAt 26 = .ok (.areturn, 1) := by decide +kernel
theorem d_h_stop_0 : decode c_h_stop 0 = .ok (.aload_n 0, 1) := by decide +kernel
theorem d_h_stop_1 : decode c_h_stop 1 = .ok (.iload_n 1, 1) := by decide +kernel
theorem d_h_stop_2 : decode c_h_stop 2 = .ok (.invokevirtual 127, 3) := by decide +kernel
theorem d_h_stop_5 : decode c_h_stop 5 = .ok (.astore_n 2, 1) := by decide +kernel
theorem d_h_stop_6 : decode c_h_stop 6 = .ok (.aload_n 2, 1) := by decide +kernel
theorem d_h_stop_7 : decode c_h_stop 7 = .ok (.getfield 191, 3) := by decide +kernel
theorem d_h_stop_10 : decode c_h_stop 10 = .ok (.iconst 2, 1) := by decide +kernel
theorem d_h_stop_11 : decode c_h_stop 11 = .ok (.if_icmp .ne 13, 3) := by decide +kernel
theorem d_h_stop_14 : decode c_h_stop 14 = .ok (.new 134, 3) := by decide +kernel
theorem d_h_stop_17 : decode c_h_stop 17 = .ok (.dup, 1) := by decide +kernel
theorem d_h_stop_18 : decode c_h_stop 18 = .ok (.ldc 197, 2) := by decide +kernel
theorem d_h_stop_20 : decode c_h_stop 20 = .ok (.invokespecial 138, 3) := by decide +kernel
theorem d_h_stop_23 : decode c_h_stop 23 = .ok (.athrow, 1) := by decide +kernel
theorem d_h_stop_24 : decode c_h_stop 24 = .ok (.aload_n 0, 1) := by decide +kernel
theorem d_h_stop_25 : decode c_h_stop 25 = .ok (.aload_n 2, 1) := by decide +kernel
theorem d_h_stop_26 : decode c_h_stop 26 = .ok (.invokevirtual 199, 3) := by decide +kernel
theorem d_h_stop_29 : decode c_h_stop 29 = .ok (.ireturn, 1) := by decide +kernel
theorem d_h_halt_0 : decode c_h_halt 0 = .ok (.aload_n 1, 1) := by decide +kernel
theorem d_h_halt_1 : decode c_h_halt 1 = .ok (.getfield 211, 3) := by decide +kernel
theorem d_h_halt_4 : decode c_h_halt 4 = .ok (.istore_n 2, 1) := by decide +kernel
theorem d_h_halt_5 : decode c_h_halt 5 = .ok (.aload_n 1, 1) := by decide +kernel
theorem d_h_halt_6 : decode c_h_halt 6 = .ok (.iload_n 2, 1) := by decide +kernel
theorem d_h_halt_7 : decode c_h_halt 7 = .ok (.ineg, 1) := by decide +kernel
theorem d_h_halt_8 : decode c_h_halt 8 = .ok (.aload_n 1, 1) := by decide +kernel
theorem d_h_halt_9 : decode c_h_halt 9 = .ok (.getfield 218, 3) := by decide +kernel
theorem d_h_halt_12 : decode c_h_halt 12 = .ok (.ineg, 1) := by decide +kernel
theorem d_h_halt_13 : decode c_h_halt 13 = .ok (.invokevirtual 182, 3) := by decide +kernel
theorem d_h_halt_16 : decode c_h_halt 16 = .ok (.aload_n 1, 1) := by decide +kernel
theorem d_h_halt_17 : decode c_h_halt 17 = .ok (.iconst 2, 1) := by decide +kernel
theorem d_h_halt_18 : decode c_h_halt 18 = .ok (.putfield 191, 3) := by decide +kernel
theorem d_h_halt_21 : decode c_h_halt 21 = .ok (.aload_n 1, 1) := by decide +kernel
theorem d_h_halt_22 : decode c_h_halt 22 = .ok (.invokevirtual 271, 3) := by decide +kernel
theorem d_h_halt_25 : decode c_h_halt 25 = .ok (.aload_n 1, 1) := by decide +kernel
theorem d_h_halt_26 : decode c_h_halt 26 = .ok (.iconst 0, 1) := by decide +kernel
theorem d_h_halt_27 : decode c_h_halt 27 = .ok (.putfield 283, 3) := by decide +kernel
theorem d_h_halt_30 : decode c_h_halt 30 = .ok (.iconst 0, 1) := by decide +kernel
theorem d_h_halt_31 : decode c_h_halt 31 = .ok (.istore_n 3, 1) := by decide +kernel
theorem d_h_halt_32 : decode c_h_halt 32 = .ok (.iload_n 3, 1) := by decide +kernel
theorem d_h_halt_33 : decode c_h_halt 33 = .ok (.aload_n 0, 1) := by decide +kernel
theorem d_h_halt_34 : decode c_h_halt 34 = .ok (.getfield 27, 3) := by decide +kernel
theorem d_h_halt_37 : decode c_h_halt 37 = .ok (.arraylength, 1) := by decide +kernel
theorem d_h_halt_38 : decode c_h_halt 38 = .ok (.if_icmp .ge 26, 3) := by decide +kernel
theorem d_h_halt_41 : decode c_h_halt 41 = .ok (.aload_n 0, 1) := by decide +kernel
theorem d_h_halt_42 : decode c_h_halt 42 = .ok (.getfield 27, 3) := by decide +kernel
theorem d_h_halt_45 : decode c_h_halt 45 = .ok (.iload_n 3, 1) := by decide +kernel
theorem d_h_halt_46 : decode c_h_halt 46 = .ok (.aaload, 1) := by decide +kernel
theorem d_h_halt_47 : decode c_h_halt 47 = .ok (.aload_n 1, 1) := by decide +kernel
theorem d_h_halt_48 : decode c_h_halt 48 = .ok (.if_acmp .ne 10, 3) := by decide +kernel
theorem d_h_halt_51 : decode c_h_halt 51 = .ok (.aload_n 0, 1) := by decide +kernel
theorem d_h_halt_52 : decode c_h_halt 52 = .ok (.getfield 27, 3) := by decide +kernel
theorem d_h_halt_55 : decode c_h_halt 55 = .ok (.iload_n 3, 1) := by decide +kernel
theorem d_h_halt_56 : decode c_h_halt 56 = .ok (.aconst_null, 1) := by decide +kernel
theorem d_h_halt_57 : decode c_h_halt 57 = .ok (.aastore, 1) := by decide +kernel
theorem d_h_halt_58 : decode c_h_halt 58 = .ok (.iinc 3 1, 3) := by decide +kernel
theorem d_h_halt_61 : decode c_h_halt 61 = .ok (.goto (-29), 3) := by decide +kernel
theorem d_h_halt_64 : decode c_h_halt 64 = .ok (.iload_n 2, 1) := by decide +kernel
theorem d_h_halt_65 : decode c_h_halt 65 = .ok (.ireturn, 1) := by decide +kernel
theorem d_c_leaveBridge_0 : decode c_c_leaveBridge 0 = .ok (.aload_n 0, 1) := by decide +kernel
theorem d_c_leaveBridge_1 : decode c_c_leaveBridge 1 = .ok (.iconst (-1), 1) := by decide +kernel
theorem d_c_leaveBridge_2 : decode c_c_leaveBridge 2 = .ok (.putfield 15, 3) := by decide +kernel
theorem d_c_leaveBridge_5 : decode c_c_leaveBridge 5 = .ok (.aload_n 0, 1) := by decide +kernel
theorem d_c_leaveBridge_6 : decode c_c_leaveBridge 6 = .ok (.iconst (-1), 1) := by decide +kernel
theorem d_c_leaveBridge_7 : decode c_c_leaveBridge 7 = .ok (.putfield 18, 3) := by decide +kernel
theorem d_c_leaveBridge_10 : decode c_c_leaveBridge 10 = .ok (.return_, 1) := by decide +kernel
theorem d_h_allocate_0 : decode c_h_allocate 0 = .ok (.aload_n 0, 1) := by decide +kernel
theorem d_h_allocate_1 : decode c_h_allocate 1 = .ok (.iload_n 1, 1) := by decide +kernel
theorem d_h_allocate_2 : decode c_h_allocate 2 = .ok (.invokevirtual 127, 3) := by decide +kernel
theorem d_h_allocate_5 : decode c_h_allocate 5 = .ok (.astore_n 3, 1) := by decide +kernel
theorem d_h_allocate_6 : decode c_h_allocate 6 = .ok (.iload_n 2, 1) := by decide +kernel
theorem d_h_allocate_7 : decode c_h_allocate 7 = .ok (.sipush 5000, 3) := by decide +kernel
theorem d_h_allocate_10 : decode c_h_allocate 10 = .ok (.invokestatic 71, 3) := by decide +kernel
theorem d_h_allocate_13 : decode c_h_allocate 13 = .ok (.aload_n 3, 1) := by decide +kernel
theorem d_h_allocate_14 : decode c_h_allocate 14 = .ok (.invokestatic 203, 3) := by decide +kernel
theorem d_h_allocate_17 : decode c_h_allocate 17 = .ok (.aload_n 0, 1) := by decide +kernel
theorem d_h_allocate_18 : decode c_h_allocate 18 = .ok (.aload_n 3, 1) := by decide +kernel
theorem d_h_allocate_19 : decode c_h_allocate 19 = .ok (.iload_n 2, 1) := by decide +kernel
theorem d_h_allocate_20 : decode c_h_allocate 20 = .ok (.invokevirtual 207, 3) := by decide +kernel
theorem d_h_allocate_23 : decode c_h_allocate 23 = .ok (.aload_n 3, 1) := by decide +kernel
theorem d_h_allocate_24 : decode c_h_allocate 24 = .ok (.getfield 191, 3) := by decide +kernel
theorem d_h_allocate_27 : decode c_h_allocate 27 = .ok (.iconst 2, 1) := by decide +kernel
theorem d_h_allocate_28 : decode c_h_allocate 28 = .ok (.if_icmp .ne 5, 3) := by decide +kernel
theorem d_h_allocate_31 : decode c_h_allocate 31 = .ok (.iconst (-1), 1) := by decide +kernel
theorem d_h_allocate_32 : decode c_h_allocate 32 = .ok (.ireturn, 1) := by decide +kernel
theorem d_h_allocate_33 : decode c_h_allocate 33 = .ok (.aload_n 3, 1) := by decide +kernel
theorem d_h_allocate_34 : decode c_h_allocate 34 = .ok (.iload_n 2, 1) := by decide +kernel
theorem d_h_allocate_35 : decode c_h_allocate 35 = .ok (.iconst 0, 1) := by decide +kernel
theorem d_h_allocate_36 : decode c_h_allocate 36 = .ok (.invokevirtual 182, 3) := by decide +kernel
theorem d_h_allocate_39 : decode c_h_allocate 39 = .ok (.aload_n 3, 1) := by decide +kernel
theorem d_h_allocate_40 : decode c_h_allocate 40 = .ok (.getfield 211, 3) := by decide +kernel
theorem d_h_allocate_43 : decode c_h_allocate 43 = .ok (.ireturn, 1) := by decide +kernel
theorem d_h_killUntilFits_0 : decode c_h_killUntilFits 0 = .ok (.iconst 0, 1) := by decide +kernel
theorem d_h_killUntilFits_1 : decode c_h_killUntilFits 1 = .ok (.istore_n 3, 1) := by decide +kernel
theorem d_h_killUntilFits_2 : decode c_h_killUntilFits 2 = .ok (.iload_n 3, 1) := by decide +kernel
theorem d_h_killUntilFits_3 : decode c_h_killUntilFits 3 = .ok (.aload_n 0, 1) := by decide +kernel
theorem d_h_killUntilFits_4 : decode c_h_killUntilFits 4 = .ok (.getfield 19, 3) := by decide +kernel
theorem d_h_killUntilFits_7 : decode c_h_killUntilFits 7 = .ok (.invokevirtual 147, 3) := by decide +kernel
theorem d_h_killUntilFits_10 : decode c_h_killUntilFits 10 = .ok (.if_icmp .ge 54, 3) := by decide +kernel
theorem d_h_killUntilFits_13 : decode c_h_killUntilFits 13 = .ok (.aload_n 1, 1) := by decide +kernel
theorem d_h_killUntilFits_14 : decode c_h_killUntilFits 14 = .ok (.getfield 214, 3) := by decide +kernel
theorem d_h_killUntilFits_17 : decode c_h_killUntilFits 17 = .ok (.iload_n 2, 1) := by decide +kernel
theorem d_h_killUntilFits_18 : decode c_h_killUntilFits 18 = .ok (.invokevirtual 371, 3) := by decide +kernel
theorem d_h_killUntilFits_21 : decode c_h_killUntilFits 21 = .ok (.astore 4, 2) := by decide +kernel
theorem d_h_killUntilFits_23 : decode c_h_killUntilFits 23 = .ok (.aload 4, 2) := by decide +kernel
theorem d_h_killUntilFits_25 : decode c_h_killUntilFits 25 = .ok (.ifnull 11, 3) := by decide +kernel
theorem d_h_killUntilFits_28 : decode c_h_killUntilFits 28 = .ok (.aload_n 1, 1) := by decide +kernel
theorem d_h_killUntilFits_29 : decode c_h_killUntilFits 29 = .ok (.getfield 191, 3) := by decide +kernel
theorem d_h_killUntilFits_32 : decode c_h_killUntilFits 32 = .ok (.iconst 2, 1) := by decide +kernel
theorem d_h_killUntilFits_33 : decode c_h_killUntilFits 33 = .ok (.if_icmp .ne 4, 3) := by decide +kernel
theorem d_h_killUntilFits_36 : decode c_h_killUntilFits 36 = .ok (.return_, 1) := by decide +kernel
theorem d_h_killUntilFits_37 : decode c_h_killUntilFits 37 = .ok (.aload_n 0, 1) := by decide +kernel
theorem d_h_killUntilFits_38 : decode c_h_killUntilFits 38 = .ok (.aload 4, 2) := by decide +kernel
theorem d_h_killUntilFits_40 : decode c_h_killUntilFits 40 = .ok (.invokevirtual 374, 3) := by decide +kernel
theorem d_h_killUntilFits_43 : decode c_h_killUntilFits 43 = .ok (.astore 5, 2) := by decide +kernel
theorem d_h_killUntilFits_45 : decode c_h_killUntilFits 45 = .ok (.aload 5, 2) := by decide +kernel
theorem d_h_killUntilFits_47 : decode c_h_killUntilFits 47 = .ok (.ifnonnull 4, 3) := by decide +kernel
theorem d_h_killUntilFits_50 : decode c_h_killUntilFits 50 = .ok (.return_, 1) := by decide +kernel
theorem d_h_killUntilFits_51 : decode c_h_killUntilFits 51 = .ok (.aload_n 0, 1) := by decide +kernel
theorem d_h_killUntilFits_52 : decode c_h_killUntilFits 52 = .ok (.aload 5, 2) := by decide +kernel
theorem d_h_killUntilFits_54 : decode c_h_killUntilFits 54 = .ok (.invokevirtual 199, 3) := by decide +kernel
theorem d_h_killUntilFits_57 : decode c_h_killUntilFits 57 = .ok (.pop, 1) := by decide +kernel
theorem d_h_killUntilFits_58 : decode c_h_killUntilFits 58 = .ok (.iinc 3 1, 3) := by decide +kernel
theorem d_h_killUntilFits_61 : decode c_h_killUntilFits 61 = .ok (.goto (-59), 3) := by decide +kernel
theorem d_h_killUntilFits_64 : decode c_h_killUntilFits 64 = .ok (.return_, 1) := by decide +kernel
theorem d_g_firstWithoutMemory_0 : decode c_g_firstWithoutMemory 0 = .ok (.aload_n 0, 1) := by decide +kernel
theorem d_g_firstWithoutMemory_1 : decode c_g_firstWithoutMemory 1 = .ok (.astore_n 2, 1) := by decide +kernel
theorem d_g_firstWithoutMemory_2 : decode c_g_firstWithoutMemory 2 = .ok (.aload_n 2, 1) := by decide +kernel
theorem d_g_firstWithoutMemory_3 : decode c_g_firstWithoutMemory 3 = .ok (.ifnull 26, 3) := by decide +kernel
theorem d_g_firstWithoutMemory_6 : decode c_g_firstWithoutMemory 6 = .ok (.aload_n 2, 1) := by decide +kernel
theorem d_g_firstWithoutMemory_7 : decode c_g_firstWithoutMemory 7 = .ok (.getfield 23, 3) := by decide +kernel
theorem d_g_firstWithoutMemory_10 : decode c_g_firstWithoutMemory 10 = .ok (.iload_n 1, 1) := by decide +kernel
theorem d_g_firstWithoutMemory_11 : decode c_g_firstWithoutMemory 11 = .ok (.iadd, 1) := by decide +kernel
theorem d_g_firstWithoutMemory_12 : decode c_g_firstWithoutMemory 12 = .ok (.aload_n 2, 1) := by decide +kernel
theorem d_g_firstWithoutMemory_13 : decode c_g_firstWithoutMemory 13 = .ok (.getfield 13, 3) := by decide +kernel
theorem d_g_firstWithoutMemory_16 : decode c_g_firstWithoutMemory 16 = .ok (.if_icmp .le 5, 3) := by decide +kernel
theorem d_g_firstWithoutMemory_19 : decode c_g_firstWithoutMemory 19 = .ok (.aload_n 2, 1) := by decide +kernel
theorem d_g_firstWithoutMemory_20 : decode c_g_firstWithoutMemory 20 = .ok (.areturn, 1) := by decide +kernel
theorem d_g_firstWithoutMemory_21 : decode c_g_firstWithoutMemory 21 = .ok (.aload_n 2, 1) := by decide +kernel
theorem d_g_firstWithoutMemory_22 : decode c_g_firstWithoutMemory 22 = .ok (.getfield 7, 3) := by decide +kernel
theorem d_g_firstWithoutMemory_25 : decode c_g_firstWithoutMemory 25 = .ok (.astore_n 2, 1) := by decide +kernel
theorem d_g_firstWithoutMemory_26 : decode c_g_firstWithoutMemory 26 = .ok (.goto (-24), 3) := by decide +kernel
theorem d_g_firstWithoutMemory_29 : decode c_g_firstWithoutMemory 29 = .ok (.aconst_null, 1) := by decide +kernel
theorem d_g_firstWithoutMemory_30 : decode c_g_firstWithoutMemory 30 = .ok (.areturn, 1) := by decide +kernel
theorem d_h_largestIn_0 : decode c_h_largestIn 0 = .ok (.aconst_null, 1) := by decide +kernel
theorem d_h_largestIn_1 : decode c_h_largestIn 1 = .ok (.astore_n 2, 1) := by decide +kernel
theorem d_h_largestIn_2 : decode c_h_largestIn 2 = .ok (.iconst 0, 1) := by decide +kernel
theorem d_h_largestIn_3 : decode c_h_largestIn 3 = .ok (.istore_n 3, 1) := by decide +kernel
theorem d_h_largestIn_4 : decode c_h_largestIn 4 = .ok (.iload_n 3, 1) := by decide +kernel
theorem d_h_largestIn_5 : decode c_h_largestIn 5 = .ok (.aload_n 0, 1) := by decide +kernel
theorem d_h_largestIn_6 : decode c_h_largestIn 6 = .ok (.getfield 19, 3) := by decide +kernel
theorem d_h_largestIn_9 : decode c_h_largestIn 9 = .ok (.invokevirtual 147, 3) := by decide +kernel
theorem d_h_largestIn_12 : decode c_h_largestIn 12 = .ok (.if_icmp .ge 74, 3) := by decide +kernel
theorem d_h_largestIn_15 : decode c_h_largestIn 15 = .ok (.aload_n 0, 1) := by decide +kernel
theorem d_h_largestIn_16 : decode c_h_largestIn 16 = .ok (.getfield 19, 3) := by decide +kernel
theorem d_h_largestIn_19 : decode c_h_largestIn 19 = .ok (.iload_n 3, 1) := by decide +kernel
theorem d_h_largestIn_20 : decode c_h_largestIn 20 = .ok (.invokevirtual 226, 3) := by decide +kernel
theorem d_h_largestIn_23 : decode c_h_largestIn 23 = .ok (.checkcast 25, 3) := by decide +kernel
theorem d_h_largestIn_26 : decode c_h_largestIn 26 = .ok (.astore 4, 2) := by decide +kernel
theorem d_h_largestIn_28 : decode c_h_largestIn 28 = .ok (.aload 4, 2) := by decide +kernel
theorem d_h_largestIn_30 : decode c_h_largestIn 30 = .ok (.getfield 191, 3) := by decide +kernel
theorem d_h_largestIn_33 : decode c_h_largestIn 33 = .ok (.iconst 2, 1) := by decide +kernel
theorem d_h_largestIn_34 : decode c_h_largestIn 34 = .ok (.if_icmp .eq 19, 3) := by decide +kernel
theorem d_h_largestIn_37 : decode c_h_largestIn 37 = .ok (.aload 4, 2) := by decide +kernel
theorem d_h_largestIn_39 : decode c_h_largestIn 39 = .ok (.getfield 214, 3) := by decide +kernel
theorem d_h_largestIn_42 : decode c_h_largestIn 42 = .ok (.aload_n 1, 1) := by decide +kernel
theorem d_h_largestIn_43 : decode c_h_largestIn 43 = .ok (.invokevirtual 250, 3) := by decide +kernel
theorem d_h_largestIn_46 : decode c_h_largestIn 46 = .ok (.ifCond .eq 7, 3) := by decide +kernel
theorem d_h_largestIn_49 : decode c_h_largestIn 49 = .ok (.iconst 1, 1) := by decide +kernel
theorem d_h_largestIn_50 : decode c_h_largestIn 50 = .ok (.goto 4, 3) := by decide +kernel
theorem d_h_largestIn_53 : decode c_h_largestIn 53 = .ok (.iconst 0, 1) := by decide +kernel
theorem d_h_largestIn_54 : decode c_h_largestIn 54 = .ok (.istore 5, 2) := by decide +kernel
theorem d_h_largestIn_56 : decode c_h_largestIn 56 = .ok (.iload 5, 2) := by decide +kernel
theorem d_h_largestIn_58 : decode c_h_largestIn 58 = .ok (.ifCond .eq 22, 3) := by decide +kernel
theorem d_h_largestIn_61 : decode c_h_largestIn 61 = .ok (.aload_n 2, 1) := by decide +kernel
theorem d_h_largestIn_62 : decode c_h_largestIn 62 = .ok (.ifnull 15, 3) := by decide +kernel
theorem d_h_largestIn_65 : decode c_h_largestIn 65 = .ok (.aload 4, 2) := by decide +kernel
theorem d_h_largestIn_67 : decode c_h_largestIn 67 = .ok (.getfield 211, 3) := by decide +kernel
theorem d_h_largestIn_70 : decode c_h_largestIn 70 = .ok (.aload_n 2, 1) := by decide +kernel
theorem d_h_largestIn_71 : decode c_h_largestIn 71 = .ok (.getfield 211, 3) := by decide +kernel
theorem d_h_largestIn_74 : decode c_h_largestIn 74 = .ok (.if_icmp .lt 6, 3) := by decide +kernel
theorem d_h_largestIn_77 : decode c_h_largestIn 77 = .ok (.aload 4, 2) := by decide +kernel
theorem d_h_largestIn_79 : decode c_h_largestIn 79 = .ok (.astore_n 2, 1) := by decide +kernel
theorem d_h_largestIn_80 : decode c_h_largestIn 80 = .ok (.iinc 3 1, 3) := by decide +kernel
theorem d_h_largestIn_83 : decode c_h_largestIn 83 = .ok (.goto (-79), 3) := by decide +kernel
theorem d_h_largestIn_86 : decode c_h_largestIn 86 = .ok (.aload_n 2, 1) := by decide +kernel
theorem d_h_largestIn_87 : decode c_h_largestIn 87 = .ok (.areturn, 1) := by decide +kernel
theorem d_g_isWithin_0 : decode c_g_isWithin 0 = .ok (.aload_n 0, 1) := by decide +kernel
theorem d_g_isWithin_1 : decode c_g_isWithin 1 = .ok (.astore_n 2, 1) := by decide +kernel
theorem d_g_isWithin_2 : decode c_g_isWithin 2 = .ok (.aload_n 2, 1) := by decide +kernel
theorem d_g_isWithin_3 : decode c_g_isWithin 3 = .ok (.ifnull 18, 3) := by decide +kernel
theorem d_g_isWithin_6 : decode c_g_isWithin 6 = .ok (.aload_n 2, 1) := by decide +kernel
theorem d_g_isWithin_7 : decode c_g_isWithin 7 = .ok (.aload_n 1, 1) := by decide +kernel
theorem d_g_isWithin_8 : decode c_g_isWithin 8 = .ok (.if_acmp .ne 5, 3) := by decide +kernel
theorem d_g_isWithin_11 : decode c_g_isWithin 11 = .ok (.iconst 1, 1) := by decide +kernel
theorem d_g_isWithin_12 : decode c_g_isWithin 12 = .ok (.ireturn, 1) := by decide +kernel
theorem d_g_isWithin_13 : decode c_g_isWithin 13 = .ok (.aload_n 2, 1) := by decide +kernel
theorem d_g_isWithin_14 : decode c_g_isWithin 14 = .ok (.getfield 7, 3) := by decide +kernel
theorem d_g_isWithin_17 : decode c_g_isWithin 17 = .ok (.astore_n 2, 1) := by decide +kernel
theorem d_g_isWithin_18 : decode c_g_isWithin 18 = .ok (.goto (-16), 3) := by decide +kernel
theorem d_g_isWithin_21 : decode c_g_isWithin 21 = .ok (.iconst 0, 1) := by decide +kernel
theorem d_g_isWithin_22 : decode c_g_isWithin 22 = .ok (.ireturn, 1) := by decide +kernel
theorem d_h_free_0 : decode c_h_free 0 = .ok (.aload_n 0, 1) := by decide +kernel
theorem d_h_free_1 : decode c_h_free 1 = .ok (.iload_n 1, 1) := by decide +kernel
theorem d_h_free_2 : decode c_h_free 2 = .ok (.invokevirtual 127, 3) := by decide +kernel
theorem d_h_free_5 : decode c_h_free 5 = .ok (.astore_n 3, 1) := by decide +kernel
theorem d_h_free_6 : decode c_h_free 6 = .ok (.iload_n 2, 1) := by decide +kernel
theorem d_h_free_7 : decode c_h_free 7 = .ok (.sipush 5000, 3) := by decide +kernel
theorem d_h_free_10 : decode c_h_free 10 = .ok (.invokestatic 71, 3) := by decide +kernel
theorem d_h_free_13 : decode c_h_free 13 = .ok (.aload_n 3, 1) := by decide +kernel
theorem d_h_free_14 : decode c_h_free 14 = .ok (.invokestatic 203, 3) := by decide +kernel
theorem d_h_free_17 : decode c_h_free 17 = .ok (.aload_n 3, 1) := by decide +kernel
theorem d_h_free_18 : decode c_h_free 18 = .ok (.getfield 211, 3) := by decide +kernel
theorem d_h_free_21 : decode c_h_free 21 = .ok (.iload_n 2, 1) := by decide +kernel
theorem d_h_free_22 : decode c_h_free 22 = .ok (.if_icmp .ge 13, 3) := by decide +kernel
theorem d_h_free_25 : decode c_h_free 25 = .ok (.new 134, 3) := by decide +kernel
theorem d_h_free_28 : decode c_h_free 28 = .ok (.dup, 1) := by decide +kernel
theorem d_h_free_29 : decode c_h_free 29 = .ok (.ldc 212, 2) := by decide +kernel
theorem d_h_free_31 : decode c_h_free 31 = .ok (.invokespecial 138, 3) := by decide +kernel
theorem d_h_free_34 : decode c_h_free 34 = .ok (.athrow, 1) := by decide +kernel
theorem d_h_free_35 : decode c_h_free 35 = .ok (.aload_n 3, 1) := by decide +kernel
theorem d_h_free_36 : decode c_h_free 36 = .ok (.iload_n 2, 1) := by decide +kernel
theorem d_h_free_37 : decode c_h_free 37 = .ok (.ineg, 1) := by decide +kernel
theorem d_h_free_38 : decode c_h_free 38 = .ok (.iconst 0, 1) := by decide +kernel
theorem d_h_free_39 : decode c_h_free 39 = .ok (.invokevirtual 182, 3) := by decide +kernel
theorem d_h_free_42 : decode c_h_free 42 = .ok (.aload_n 3, 1) := by decide +kernel
theorem d_h_free_43 : decode c_h_free 43 = .ok (.getfield 211, 3) := by decide +kernel
theorem d_h_free_46 : decode c_h_free 46 = .ok (.ireturn, 1) := by decide +kernel
theorem d_h_fork_0 : decode c_h_fork 0 = .ok (.aload_n 0, 1) := by decide +kernel
theorem d_h_fork_1 : decode c_h_fork 1 = .ok (.iload_n 1, 1) := by decide +kernel
theorem d_h_fork_2 : decode c_h_fork 2 = .ok (.invokevirtual 188, 3) := by decide +kernel
theorem d_h_fork_5 : decode c_h_fork 5 = .ok (.astore_n 2, 1) := by decide +kernel
theorem d_h_fork_6 : decode c_h_fork 6 = .ok (.aload_n 2, 1) := by decide +kernel
theorem d_h_fork_7 : decode c_h_fork 7 = .ok (.getfield 214, 3) := by decide +kernel
theorem d_h_fork_10 : decode c_h_fork 10 = .ok (.iconst 0, 1) := by decide +kernel
theorem d_h_fork_11 : decode c_h_fork 11 = .ok (.iconst 1, 1) := by decide +kernel
theorem d_h_fork_12 : decode c_h_fork 12 = .ok (.invokestatic 168, 3) := by decide +kernel
theorem d_h_fork_15 : decode c_h_fork 15 = .ok (.aload_n 2, 1) := by decide +kernel
theorem d_h_fork_16 : decode c_h_fork 16 = .ok (.iconst 0, 1) := by decide +kernel
theorem d_h_fork_17 : decode c_h_fork 17 = .ok (.iconst 1, 1) := by decide +kernel
theorem d_h_fork_18 : decode c_h_fork 18 = .ok (.invokevirtual 182, 3) := by decide +kernel
theorem d_h_fork_21 : decode c_h_fork 21 = .ok (.aload_n 2, 1) := by decide +kernel
theorem d_h_fork_22 : decode c_h_fork 22 = .ok (.getfield 218, 3) := by decide +kernel
theorem d_h_fork_25 : decode c_h_fork 25 = .ok (.ireturn, 1) := by decide +kernel
theorem d_h_exit_0 : decode c_h_exit 0 = .ok (.aload_n 0, 1) := by decide +kernel
theorem d_h_exit_1 : decode c_h_exit 1 = .ok (.iload_n 1, 1) := by decide +kernel
theorem d_h_exit_2 : decode c_h_exit 2 = .ok (.invokevirtual 188, 3) := by decide +kernel
theorem d_h_exit_5 : decode c_h_exit 5 = .ok (.astore_n 2, 1) := by decide +kernel
theorem d_h_exit_6 : decode c_h_exit 6 = .ok (.aload_n 2, 1) := by decide +kernel
theorem d_h_exit_7 : decode c_h_exit 7 = .ok (.getfield 218, 3) := by decide +kernel
theorem d_h_exit_10 : decode c_h_exit 10 = .ok (.iconst 1, 1) := by decide +kernel
theorem d_h_exit_11 : decode c_h_exit 11 = .ok (.if_icmp .le 12, 3) := by decide +kernel
theorem d_h_exit_14 : decode c_h_exit 14 = .ok (.aload_n 2, 1) := by decide +kernel
theorem d_h_exit_15 : decode c_h_exit 15 = .ok (.iconst 0, 1) := by decide +kernel
theorem d_h_exit_16 : decode c_h_exit 16 = .ok (.iconst (-1), 1) := by decide +kernel
theorem d_h_exit_17 : decode c_h_exit 17 = .ok (.invokevirtual 182, 3) := by decide +kernel
theorem d_h_exit_20 : decode c_h_exit 20 = .ok (.goto 9, 3) := by decide +kernel
theorem d_h_exit_23 : decode c_h_exit 23 = .ok (.aload_n 0, 1) := by decide +kernel
theorem d_h_exit_24 : decode c_h_exit 24 = .ok (.aload_n 2, 1) := by decide +kernel
theorem d_h_exit_25 : decode c_h_exit 25 = .ok (.invokevirtual 199, 3) := by decide +kernel
theorem d_h_exit_28 : decode c_h_exit 28 = .ok (.pop, 1) := by decide +kernel
theorem d_h_exit_29 : decode c_h_exit 29 = .ok (.aload_n 2, 1) := by decide +kernel
theorem d_h_exit_30 : decode c_h_exit 30 = .ok (.getfield 218, 3) := by decide +kernel
theorem d_h_exit_33 : decode c_h_exit 33 = .ok (.ireturn, 1) := by decide +kernel
theorem d_h_schedule_0 : decode c_h_schedule 0 = .ok (.iload_n 1, 1) := by decide +kernel
theorem d_h_schedule_1 : decode c_h_schedule 1 = .ok (.sipush 10000, 3) := by decide +kernel
theorem d_h_schedule_4 : decode c_h_schedule 4 = .ok (.invokestatic 71, 3) := by decide +kernel
theorem d_h_schedule_7 : decode c_h_schedule 7 = .ok (.aload_n 0, 1) := by decide +kernel
theorem d_h_schedule_8 : decode c_h_schedule 8 = .ok (.iconst 0, 1) := by decide +kernel
theorem d_h_schedule_9 : decode c_h_schedule 9 = .ok (.invokevirtual 143, 3) := by decide +kernel
theorem d_h_schedule_12 : decode c_h_schedule 12 = .ok (.astore_n 2, 1) := by decide +kernel
theorem d_h_schedule_13 : decode c_h_schedule 13 = .ok (.aload_n 0, 1) := by decide +kernel
theorem d_h_schedule_14 : decode c_h_schedule 14 = .ok (.aload_n 2, 1) := by decide +kernel
theorem d_h_schedule_15 : decode c_h_schedule 15 = .ok (.invokevirtual 219, 3) := by decide +kernel
theorem d_h_schedule_18 : decode c_h_schedule 18 = .ok (.ifCond .ne 5, 3) := by decide +kernel
theorem d_h_schedule_21 : decode c_h_schedule 21 = .ok (.iconst 0, 1) := by decide +kernel
theorem d_h_schedule_22 : decode c_h_schedule 22 = .ok (.ireturn, 1) := by decide +kernel
theorem d_h_schedule_23 : decode c_h_schedule 23 = .ok (.aload_n 2, 1) := by decide +kernel
theorem d_h_schedule_24 : decode c_h_schedule 24 = .ok (.iload_n 1, 1) := by decide +kernel
theorem d_h_schedule_25 : decode c_h_schedule 25 = .ok (.putfield 223, 3) := by decide +kernel
theorem d_h_schedule_28 : decode c_h_schedule 28 = .ok (.iconst 0, 1) := by decide +kernel
theorem d_h_schedule_29 : decode c_h_schedule 29 = .ok (.istore_n 3, 1) := by decide +kernel
theorem d_h_schedule_30 : decode c_h_schedule 30 = .ok (.iload_n 3, 1) := by decide +kernel
theorem d_h_schedule_31 : decode c_h_schedule 31 = .ok (.aload_n 0, 1) := by decide +kernel
theorem d_h_schedule_32 : decode c_h_schedule 32 = .ok (.getfield 16, 3) := by decide +kernel
theorem d_h_schedule_35 : decode c_h_schedule 35 = .ok (.invokevirtual 147, 3) := by decide +kernel
theorem d_h_schedule_38 : decode c_h_schedule 38 = .ok (.if_icmp .ge 24, 3) := by decide +kernel
theorem d_h_schedule_41 : decode c_h_schedule 41 = .ok (.aload_n 0, 1) := by decide +kernel
theorem d_h_schedule_42 : decode c_h_schedule 42 = .ok (.aload_n 0, 1) := by decide +kernel
theorem d_h_schedule_43 : decode c_h_schedule 43 = .ok (.getfield 16, 3) := by decide +kernel
theorem d_h_schedule_46 : decode c_h_schedule 46 = .ok (.iload_n 3, 1) := by decide +kernel
theorem d_h_schedule_47 : decode c_h_schedule 47 = .ok (.invokevirtual 226, 3) := by decide +kernel
theorem d_h_schedule_50 : decode c_h_schedule 50 = .ok (.checkcast 38, 3) := by decide +kernel
theorem d_h_schedule_53 : decode c_h_schedule 53 = .ok (.invokevirtual 230, 3) := by decide +kernel
theorem d_h_schedule_56 : decode c_h_schedule 56 = .ok (.iinc 3 1, 3) := by decide +kernel
theorem d_h_schedule_59 : decode c_h_schedule 59 = .ok (.goto (-29), 3) := by decide +kernel
theorem d_h_schedule_62 : decode c_h_schedule 62 = .ok (.iload_n 1, 1) := by decide +kernel
theorem d_h_schedule_63 : decode c_h_schedule 63 = .ok (.ireturn, 1) := by decide +kernel
theorem d_h_hasRunning_0 : decode c_h_hasRunning 0 = .ok (.iconst 0, 1) := by decide +kernel
theorem d_h_hasRunning_1 : decode c_h_hasRunning 1 = .ok (.istore_n 2, 1) := by decide +kernel
theorem d_h_hasRunning_2 : decode c_h_hasRunning 2 = .ok (.iload_n 2, 1) := by decide +kernel
theorem d_h_hasRunning_3 : decode c_h_hasRunning 3 = .ok (.aload_n 0, 1) := by decide +kernel
theorem d_h_hasRunning_4 : decode c_h_hasRunning 4 = .ok (.getfield 19, 3) := by decide +kernel
theorem d_h_hasRunning_7 : decode c_h_hasRunning 7 = .ok (.invokevirtual 147, 3) := by decide +kernel
theorem d_h_hasRunning_10 : decode c_h_hasRunning 10 = .ok (.if_icmp .ge 41, 3) := by decide +kernel
theorem d_h_hasRunning_13 : decode c_h_hasRunning 13 = .ok (.aload_n 0, 1) := by decide +kernel
theorem d_h_hasRunning_14 : decode c_h_hasRunning 14 = .ok (.getfield 19, 3) := by decide +kernel
theorem d_h_hasRunning_17 : decode c_h_hasRunning 17 = .ok (.iload_n 2, 1) := by decide +kernel
theorem d_h_hasRunning_18 : decode c_h_hasRunning 18 = .ok (.invokevirtual 226, 3) := by decide +kernel
theorem d_h_hasRunning_21 : decode c_h_hasRunning 21 = .ok (.checkcast 25, 3) := by decide +kernel
theorem d_h_hasRunning_24 : decode c_h_hasRunning 24 = .ok (.astore_n 3, 1) := by decide +kernel
theorem d_h_hasRunning_25 : decode c_h_hasRunning 25 = .ok (.aload_n 3, 1) := by decide +kernel
theorem d_h_hasRunning_26 : decode c_h_hasRunning 26 = .ok (.getfield 191, 3) := by decide +kernel
theorem d_h_hasRunning_29 : decode c_h_hasRunning 29 = .ok (.ifCond .ne 16, 3) := by decide +kernel
theorem d_h_hasRunning_32 : decode c_h_hasRunning 32 = .ok (.aload_n 3, 1) := by decide +kernel
theorem d_h_hasRunning_33 : decode c_h_hasRunning 33 = .ok (.getfield 214, 3) := by decide +kernel
theorem d_h_hasRunning_36 : decode c_h_hasRunning 36 = .ok (.aload_n 1, 1) := by decide +kernel
theorem d_h_hasRunning_37 : decode c_h_hasRunning 37 = .ok (.invokevirtual 250, 3) := by decide +kernel
theorem d_h_hasRunning_40 : decode c_h_hasRunning 40 = .ok (.ifCond .eq 5, 3) := by decide +kernel
theorem d_h_hasRunning_43 : decode c_h_hasRunning 43 = .ok (.iconst 1, 1) := by decide +kernel
theorem d_h_hasRunning_44 : decode c_h_hasRunning 44 = .ok (.ireturn, 1) := by decide +kernel
theorem d_h_hasRunning_45 : decode c_h_hasRunning 45 = .ok (.iinc 2 1, 3) := by decide +kernel
theorem d_h_hasRunning_48 : decode c_h_hasRunning 48 = .ok (.goto (-46), 3) := by decide +kernel
theorem d_h_hasRunning_51 : decode c_h_hasRunning 51 = .ok (.iconst 0, 1) := by decide +kernel
theorem d_h_hasRunning_52 : decode c_h_hasRunning 52 = .ok (.ireturn, 1) := by decide +kernel
theorem d_h_shareOut_0 : decode c_h_shareOut 0 = .ok (.aload_n 1, 1) := by decide +kernel
theorem d_h_shareOut_1 : decode c_h_shareOut 1 = .ok (.getfield 223, 3) := by decide +kernel
theorem d_h_shareOut_4 : decode c_h_shareOut 4 = .ok (.istore_n 2, 1) := by decide +kernel
theorem d_h_shareOut_5 : decode c_h_shareOut 5 = .ok (.aload_n 1, 1) := by decide +kernel
theorem d_h_shareOut_6 : decode c_h_shareOut 6 = .ok (.iconst 0, 1) := by decide +kernel
theorem d_h_shareOut_7 : decode c_h_shareOut 7 = .ok (.putfield 223, 3) := by decide +kernel
theorem d_h_shareOut_10 : decode c_h_shareOut 10 = .ok (.aload_n 0, 1) := by decide +kernel
theorem d_h_shareOut_11 : decode c_h_shareOut 11 = .ok (.aload_n 1, 1) := by decide +kernel
theorem d_h_shareOut_12 : decode c_h_shareOut 12 = .ok (.invokevirtual 378, 3) := by decide +kernel
theorem d_h_shareOut_15 : decode c_h_shareOut 15 = .ok (.istore_n 3, 1) := by decide +kernel
theorem d_h_shareOut_16 : decode c_h_shareOut 16 = .ok (.iload_n 3, 1) := by decide +kernel
theorem d_h_shareOut_17 : decode c_h_shareOut 17 = .ok (.ifCond .ne 4, 3) := by decide +kernel
theorem d_h_shareOut_20 : decode c_h_shareOut 20 = .ok (.return_, 1) := by decide +kernel
theorem d_h_shareOut_21 : decode c_h_shareOut 21 = .ok (.iload_n 2, 1) := by decide +kernel
theorem d_h_shareOut_22 : decode c_h_shareOut 22 = .ok (.istore 4, 2) := by decide +kernel
theorem d_h_shareOut_24 : decode c_h_shareOut 24 = .ok (.iconst 0, 1) := by decide +kernel
theorem d_h_shareOut_25 : decode c_h_shareOut 25 = .ok (.istore 5, 2) := by decide +kernel
theorem d_h_shareOut_27 : decode c_h_shareOut 27 = .ok (.iload 5, 2) := by decide +kernel
theorem d_h_shareOut_29 : decode c_h_shareOut 29 = .ok (.aload_n 0, 1) := by decide +kernel
theorem d_h_shareOut_30 : decode c_h_shareOut 30 = .ok (.getfield 31, 3) := by decide +kernel
theorem d_h_shareOut_33 : decode c_h_shareOut 33 = .ok (.invokevirtual 147, 3) := by decide +kernel
theorem d_h_shareOut_36 : decode c_h_shareOut 36 = .ok (.if_icmp .ge 71, 3) := by decide +kernel
theorem d_h_shareOut_39 : decode c_h_shareOut 39 = .ok (.iload 5, 2) := by decide +kernel
theorem d_h_shareOut_41 : decode c_h_shareOut 41 = .ok (.aload_n 0, 1) := by decide +kernel
theorem d_h_shareOut_42 : decode c_h_shareOut 42 = .ok (.getfield 34, 3) := by decide +kernel
theorem d_h_shareOut_45 : decode c_h_shareOut 45 = .ok (.arraylength, 1) := by decide +kernel
theorem d_h_shareOut_46 : decode c_h_shareOut 46 = .ok (.if_icmp .ge 61, 3) := by decide +kernel
theorem d_h_shareOut_49 : decode c_h_shareOut 49 = .ok (.aload_n 0, 1) := by decide +kernel
theorem d_h_shareOut_50 : decode c_h_shareOut 50 = .ok (.getfield 31, 3) := by decide +kernel
theorem d_h_shareOut_53 : decode c_h_shareOut 53 = .ok (.iload 5, 2) := by decide +kernel
theorem d_h_shareOut_55 : decode c_h_shareOut 55 = .ok (.invokevirtual 226, 3) := by decide +kernel
theorem d_h_shareOut_58 : decode c_h_shareOut 58 = .ok (.checkcast 382, 3) := by decide +kernel
theorem d_h_shareOut_61 : decode c_h_shareOut 61 = .ok (.astore 6, 2) := by decide +kernel
theorem d_h_shareOut_63 : decode c_h_shareOut 63 = .ok (.iload_n 2, 1) := by decide +kernel
theorem d_h_shareOut_64 : decode c_h_shareOut 64 = .ok (.aload 6, 2) := by decide +kernel
theorem d_h_shareOut_66 : decode c_h_shareOut 66 = .ok (.getfield 384, 3) := by decide +kernel
theorem d_h_shareOut_69 : decode c_h_shareOut 69 = .ok (.imul, 1) := by decide +kernel
theorem d_h_shareOut_70 : decode c_h_shareOut 70 = .ok (.istore 7, 2) := by decide +kernel
theorem d_h_shareOut_72 : decode c_h_shareOut 72 = .ok (.aload_n 0, 1) := by decide +kernel
theorem d_h_shareOut_73 : decode c_h_shareOut 73 = .ok (.getfield 34, 3) := by decide +kernel
theorem d_h_shareOut_76 : decode c_h_shareOut 76 = .ok (.iload 5, 2) := by decide +kernel
theorem d_h_shareOut_78 : decode c_h_shareOut 78 = .ok (.iload 7, 2) := by decide +kernel
theorem d_h_shareOut_80 : decode c_h_shareOut 80 = .ok (.iload_n 3, 1) := by decide +kernel
theorem d_h_shareOut_81 : decode c_h_shareOut 81 = .ok (.irem, 1) := by decide +kernel
theorem d_h_shareOut_82 : decode c_h_shareOut 82 = .ok (.iastore, 1) := by decide +kernel
theorem d_h_shareOut_83 : decode c_h_shareOut 83 = .ok (.aload 6, 2) := by decide +kernel
theorem d_h_shareOut_85 : decode c_h_shareOut 85 = .ok (.iload 7, 2) := by decide +kernel
theorem d_h_shareOut_87 : decode c_h_shareOut 87 = .ok (.iload_n 3, 1) := by decide +kernel
theorem d_h_shareOut_88 : decode c_h_shareOut 88 = .ok (.idiv, 1) := by decide +kernel
theorem d_h_shareOut_89 : decode c_h_shareOut 89 = .ok (.invokevirtual 385, 3) := by decide +kernel
theorem d_h_shareOut_92 : decode c_h_shareOut 92 = .ok (.iload 4, 2) := by decide +kernel
theorem d_h_shareOut_94 : decode c_h_shareOut 94 = .ok (.iload 7, 2) := by decide +kernel
theorem d_h_shareOut_96 : decode c_h_shareOut 96 = .ok (.iload_n 3, 1) := by decide +kernel
theorem d_h_shareOut_97 : decode c_h_shareOut 97 = .ok (.idiv, 1) := by decide +kernel
theorem d_h_shareOut_98 : decode c_h_shareOut 98 = .ok (.isub, 1) := by decide +kernel
theorem d_h_shareOut_99 : decode c_h_shareOut 99 = .ok (.istore 4, 2) := by decide +kernel
theorem d_h_shareOut_101 : decode c_h_shareOut 101 = .ok (.iinc 5 1, 3) := by decide +kernel
theorem d_h_shareOut_104 : decode c_h_shareOut 104 = .ok (.goto (-77), 3) := by decide +kernel
theorem d_h_shareOut_107 : decode c_h_shareOut 107 = .ok (.aload_n 0, 1) := by decide +kernel
theorem d_h_shareOut_108 : decode c_h_shareOut 108 = .ok (.iload 4, 2) := by decide +kernel
theorem d_h_shareOut_110 : decode c_h_shareOut 110 = .ok (.invokevirtual 388, 3) := by decide +kernel
theorem d_h_shareOut_113 : decode c_h_shareOut 113 = .ok (.return_, 1) := by decide +kernel
theorem d_h_collectParts_0 : decode c_h_collectParts 0 = .ok (.aload_n 0, 1) := by decide +kernel
theorem d_h_collectParts_1 : decode c_h_collectParts 1 = .ok (.getfield 31, 3) := by decide +kernel
theorem d_h_collectParts_4 : decode c_h_collectParts 4 = .ok (.invokevirtual 391, 3) := by decide +kernel
theorem d_h_collectParts_7 : decode c_h_collectParts 7 = .ok (.iconst 0, 1) := by decide +kernel
theorem d_h_collectParts_8 : decode c_h_collectParts 8 = .ok (.istore_n 2, 1) := by decide +kernel
theorem d_h_collectParts_9 : decode c_h_collectParts 9 = .ok (.iconst 0, 1) := by decide +kernel
theorem d_h_collectParts_10 : decode c_h_collectParts 10 = .ok (.istore_n 3, 1) := by decide +kernel
theorem d_h_collectParts_11 : decode c_h_collectParts 11 = .ok (.iload_n 3, 1) := by decide +kernel
theorem d_h_collectParts_12 : decode c_h_collectParts 12 = .ok (.aload_n 0, 1) := by decide +kernel
theorem d_h_collectParts_13 : decode c_h_collectParts 13 = .ok (.getfield 16, 3) := by decide +kernel
theorem d_h_collectParts_16 : decode c_h_collectParts 16 = .ok (.invokevirtual 147, 3) := by decide +kernel
theorem d_h_collectParts_19 : decode c_h_collectParts 19 = .ok (.if_icmp .ge 58, 3) := by decide +kernel
theorem d_h_collectParts_22 : decode c_h_collectParts 22 = .ok (.aload_n 0, 1) := by decide +kernel
theorem d_h_collectParts_23 : decode c_h_collectParts 23 = .ok (.getfield 16, 3) := by decide +kernel
theorem d_h_collectParts_26 : decode c_h_collectParts 26 = .ok (.iload_n 3, 1) := by decide +kernel
theorem d_h_collectParts_27 : decode c_h_collectParts 27 = .ok (.invokevirtual 226, 3) := by decide +kernel
theorem d_h_collectParts_30 : decode c_h_collectParts 30 = .ok (.checkcast 38, 3) := by decide +kernel
theorem d_h_collectParts_33 : decode c_h_collectParts 33 = .ok (.astore 4, 2) := by decide +kernel
theorem d_h_collectParts_35 : decode c_h_collectParts 35 = .ok (.aload 4, 2) := by decide +kernel
theorem d_h_collectParts_37 : decode c_h_collectParts 37 = .ok (.getfield 394, 3) := by decide +kernel
theorem d_h_collectParts_40 : decode c_h_collectParts 40 = .ok (.aload_n 1, 1) := by decide +kernel
theorem d_h_collectParts_41 : decode c_h_collectParts 41 = .ok (.if_acmp .ne 30, 3) := by decide +kernel
theorem d_h_collectParts_44 : decode c_h_collectParts 44 = .ok (.aload_n 0, 1) := by decide +kernel
theorem d_h_collectParts_45 : decode c_h_collectParts 45 = .ok (.aload 4, 2) := by decide +kernel
theorem d_h_collectParts_47 : decode c_h_collectParts 47 = .ok (.invokevirtual 219, 3) := by decide +kernel
theorem d_h_collectParts_50 : decode c_h_collectParts 50 = .ok (.ifCond .eq 21, 3) := by decide +kernel
theorem d_h_collectParts_53 : decode c_h_collectParts 53 = .ok (.aload_n 0, 1) := by decide +kernel
theorem d_h_collectParts_54 : decode c_h_collectParts 54 = .ok (.getfield 31, 3) := by decide +kernel
theorem d_h_collectParts_57 : decode c_h_collectParts 57 = .ok (.aload 4, 2) := by decide +kernel
theorem d_h_collectParts_59 : decode c_h_collectParts 59 = .ok (.invokevirtual 43, 3) := by decide +kernel
theorem d_h_collectParts_62 : decode c_h_collectParts 62 = .ok (.pop, 1) := by decide +kernel
theorem d_h_collectParts_63 : decode c_h_collectParts 63 = .ok (.iload_n 2, 1) := by decide +kernel
theorem d_h_collectParts_64 : decode c_h_collectParts 64 = .ok (.aload 4, 2) := by decide +kernel
theorem d_h_collectParts_66 : decode c_h_collectParts 66 = .ok (.getfield 397, 3) := by decide +kernel
theorem d_h_collectParts_69 : decode c_h_collectParts 69 = .ok (.iadd, 1) := by decide +kernel
theorem d_h_collectParts_70 : decode c_h_collectParts 70 = .ok (.istore_n 2, 1) := by decide +kernel
theorem d_h_collectParts_71 : decode c_h_collectParts 71 = .ok (.iinc 3 1, 3) := by decide +kernel
theorem d_h_collectParts_74 : decode c_h_collectParts 74 = .ok (.goto (-63), 3) := by decide +kernel
theorem d_h_collectParts_77 : decode c_h_collectParts 77 = .ok (.iconst 0, 1) := by decide +kernel
theorem d_h_collectParts_78 : decode c_h_collectParts 78 = .ok (.istore_n 3, 1) := by decide +kernel
theorem d_h_collectParts_79 : decode c_h_collectParts 79 = .ok (.iload_n 3, 1) := by decide +kernel
theorem d_h_collectParts_80 : decode c_h_collectParts 80 = .ok (.aload_n 0, 1) := by decide +kernel
theorem d_h_collectParts_81 : decode c_h_collectParts 81 = .ok (.getfield 19, 3) := by decide +kernel
theorem d_h_collectParts_84 : decode c_h_collectParts 84 = .ok (.invokevirtual 147, 3) := by decide +kernel
theorem d_h_collectParts_87 : decode c_h_collectParts 87 = .ok (.if_icmp .ge 57, 3) := by decide +kernel
theorem d_h_collectParts_90 : decode c_h_collectParts 90 = .ok (.aload_n 0, 1) := by decide +kernel
theorem d_h_collectParts_91 : decode c_h_collectParts 91 = .ok (.getfield 19, 3) := by decide +kernel
theorem d_h_collectParts_94 : decode c_h_collectParts 94 = .ok (.iload_n 3, 1) := by decide +kernel
theorem d_h_collectParts_95 : decode c_h_collectParts 95 = .ok (.invokevirtual 226, 3) := by decide +kernel
theorem d_h_collectParts_98 : decode c_h_collectParts 98 = .ok (.checkcast 25, 3) := by decide +kernel
theorem d_h_collectParts_101 : decode c_h_collectParts 101 = .ok (.astore 4, 2) := by decide +kernel
theorem d_h_collectParts_103 : decode c_h_collectParts 103 = .ok (.aload 4, 2) := by decide +kernel
theorem d_h_collectParts_105 : decode c_h_collectParts 105 = .ok (.getfield 214, 3) := by decide +kernel
theorem d_h_collectParts_108 : decode c_h_collectParts 108 = .ok (.aload_n 1, 1) := by decide +kernel
theorem d_h_collectParts_109 : decode c_h_collectParts 109 = .ok (.if_acmp .ne 29, 3) := by decide +kernel
theorem d_h_collectParts_112 : decode c_h_collectParts 112 = .ok (.aload 4, 2) := by decide +kernel
theorem d_h_collectParts_114 : decode c_h_collectParts 114 = .ok (.getfield 191, 3) := by decide +kernel
theorem d_h_collectParts_117 : decode c_h_collectParts 117 = .ok (.ifCond .ne 21, 3) := by decide +kernel
theorem d_h_collectParts_120 : decode c_h_collectParts 120 = .ok (.aload_n 0, 1) := by decide +kernel
theorem d_h_collectParts_121 : decode c_h_collectParts 121 = .ok (.getfield 31, 3) := by decide +kernel
theorem d_h_collectParts_124 : decode c_h_collectParts 124 = .ok (.aload 4, 2) := by decide +kernel
theorem d_h_collectParts_126 : decode c_h_collectParts 126 = .ok (.invokevirtual 43, 3) := by decide +kernel
theorem d_h_collectParts_129 : decode c_h_collectParts 129 = .ok (.pop, 1) := by decide +kernel
theorem d_h_collectParts_130 : decode c_h_collectParts 130 = .ok (.iload_n 2, 1) := by decide +kernel
theorem d_h_collectParts_131 : decode c_h_collectParts 131 = .ok (.aload 4, 2) := by decide +kernel
theorem d_h_collectParts_133 : decode c_h_collectParts 133 = .ok (.getfield 398, 3) := by decide +kernel
theorem d_h_collectParts_136 : decode c_h_collectParts 136 = .ok (.iadd, 1) := by decide +kernel
theorem d_h_collectParts_137 : decode c_h_collectParts 137 = .ok (.istore_n 2, 1) := by decide +kernel
theorem d_h_collectParts_138 : decode c_h_collectParts 138 = .ok (.iinc 3 1, 3) := by decide +kernel
theorem d_h_collectParts_141 : decode c_h_collectParts 141 = .ok (.goto (-62), 3) := by decide +kernel
theorem d_h_collectParts_144 : decode c_h_collectParts 144 = .ok (.iload_n 2, 1) := by decide +kernel
theorem d_h_collectParts_145 : decode c_h_collectParts 145 = .ok (.ireturn, 1) := by decide +kernel
theorem d_al_clear_0 : decode c_al_clear 0 = .ok (.aload_n 0, 1) := by decide +kernel
theorem d_al_clear_1 : decode c_al_clear 1 = .ok (.dup, 1) := by decide +kernel
theorem d_al_clear_2 : decode c_al_clear 2 = .ok (.getfield 63, 3) := by decide +kernel
theorem d_al_clear_5 : decode c_al_clear 5 = .ok (.iconst 1, 1) := by decide +kernel
theorem d_al_clear_6 : decode c_al_clear 6 = .ok (.iadd, 1) := by decide +kernel
theorem d_al_clear_7 : decode c_al_clear 7 = .ok (.putfield 63, 3) := by decide +kernel
theorem d_al_clear_10 : decode c_al_clear 10 = .ok (.aload_n 0, 1) := by decide +kernel
theorem d_al_clear_11 : decode c_al_clear 11 = .ok (.getfield 9, 3) := by decide +kernel
theorem d_al_clear_14 : decode c_al_clear 14 = .ok (.astore_n 1, 1) := by decide +kernel
theorem d_al_clear_15 : decode c_al_clear 15 = .ok (.aload_n 0, 1) := by decide +kernel
theorem d_al_clear_16 : decode c_al_clear 16 = .ok (.getfield 48, 3) := by decide +kernel
theorem d_al_clear_19 : decode c_al_clear 19 = .ok (.istore_n 2, 1) := by decide +kernel
theorem d_al_clear_20 : decode c_al_clear 20 = .ok (.aload_n 0, 1) := by decide +kernel
theorem d_al_clear_21 : decode c_al_clear 21 = .ok (.iconst 0, 1) := by decide +kernel
theorem d_al_clear_22 : decode c_al_clear 22 = .ok (.dup_x1, 1) := by decide +kernel
theorem d_al_clear_23 : decode c_al_clear 23 = .ok (.putfield 48, 3) := by decide +kernel
theorem d_al_clear_26 : decode c_al_clear 26 = .ok (.istore_n 3, 1) := by decide +kernel
theorem d_al_clear_27 : decode c_al_clear 27 = .ok (.iload_n 3, 1) := by decide +kernel
theorem d_al_clear_28 : decode c_al_clear 28 = .ok (.iload_n 2, 1) := by decide +kernel
theorem d_al_clear_29 : decode c_al_clear 29 = .ok (.if_icmp .ge 13, 3) := by decide +kernel
theorem d_al_clear_32 : decode c_al_clear 32 = .ok (.aload_n 1, 1) := by decide +kernel
theorem d_al_clear_33 : decode c_al_clear 33 = .ok (.iload_n 3, 1) := by decide +kernel
theorem d_al_clear_34 : decode c_al_clear 34 = .ok (.aconst_null, 1) := by decide +kernel
theorem d_al_clear_35 : decode c_al_clear 35 = .ok (.aastore, 1) := by decide +kernel
theorem d_al_clear_36 : decode c_al_clear 36 = .ok (.iinc 3 1, 3) := by decide +kernel
theorem d_al_clear_39 : decode c_al_clear 39 = .ok (.goto (-12), 3) := by decide +kernel
theorem d_al_clear_42 : decode c_al_clear 42 = .ok (.return_, 1) := by decide +kernel
theorem d_c_grant_0 : decode c_c_grant 0 = .ok (.aload_n 0, 1) := by decide +kernel
theorem d_c_grant_1 : decode c_c_grant 1 = .ok (.dup, 1) := by decide +kernel
theorem d_c_grant_2 : decode c_c_grant 2 = .ok (.getfield 32, 3) := by decide +kernel
theorem d_c_grant_5 : decode c_c_grant 5 = .ok (.iload_n 1, 1) := by decide +kernel
theorem d_c_grant_6 : decode c_c_grant 6 = .ok (.iadd, 1) := by decide +kernel
theorem d_c_grant_7 : decode c_c_grant 7 = .ok (.putfield 32, 3) := by decide +kernel
theorem d_c_grant_10 : decode c_c_grant 10 = .ok (.return_, 1) := by decide +kernel
theorem d_g_grant_0 : decode c_g_grant 0 = .ok (.aload_n 0, 1) := by decide +kernel
theorem d_g_grant_1 : decode c_g_grant 1 = .ok (.dup, 1) := by decide +kernel
theorem d_g_grant_2 : decode c_g_grant 2 = .ok (.getfield 20, 3) := by decide +kernel
theorem d_g_grant_5 : decode c_g_grant 5 = .ok (.iload_n 1, 1) := by decide +kernel
theorem d_g_grant_6 : decode c_g_grant 6 = .ok (.iadd, 1) := by decide +kernel
theorem d_g_grant_7 : decode c_g_grant 7 = .ok (.putfield 20, 3) := by decide +kernel
theorem d_g_grant_10 : decode c_g_grant 10 = .ok (.return_, 1) := by decide +kernel
theorem d_h_grantLeft_0 : decode c_h_grantLeft 0 = .ok (.iconst 0, 1) := by decide +kernel
theorem d_h_grantLeft_1 : decode c_h_grantLeft 1 = .ok (.istore_n 2, 1) := by decide +kernel
theorem d_h_grantLeft_2 : decode c_h_grantLeft 2 = .ok (.iload_n 2, 1) := by decide +kernel
theorem d_h_grantLeft_3 : decode c_h_grantLeft 3 = .ok (.iload_n 1, 1) := by decide +kernel
theorem d_h_grantLeft_4 : decode c_h_grantLeft 4 = .ok (.if_icmp .ge 42, 3) := by decide +kernel
theorem d_h_grantLeft_7 : decode c_h_grantLeft 7 = .ok (.aload_n 0, 1) := by decide +kernel
theorem d_h_grantLeft_8 : decode c_h_grantLeft 8 = .ok (.invokevirtual 399, 3) := by decide +kernel
theorem d_h_grantLeft_11 : decode c_h_grantLeft 11 = .ok (.istore_n 3, 1) := by decide +kernel
theorem d_h_grantLeft_12 : decode c_h_grantLeft 12 = .ok (.iload_n 3, 1) := by decide +kernel
theorem d_h_grantLeft_13 : decode c_h_grantLeft 13 = .ok (.iconst (-1), 1) := by decide +kernel
theorem d_h_grantLeft_14 : decode c_h_grantLeft 14 = .ok (.if_icmp .ne 4, 3) := by decide +kernel
theorem d_h_grantLeft_17 : decode c_h_grantLeft 17 = .ok (.return_, 1) := by decide +kernel
theorem d_h_grantLeft_18 : decode c_h_grantLeft 18 = .ok (.aload_n 0, 1) := by decide +kernel
theorem d_h_grantLeft_19 : decode c_h_grantLeft 19 = .ok (.getfield 31, 3) := by decide +kernel
theorem d_h_grantLeft_22 : decode c_h_grantLeft 22 = .ok (.iload_n 3, 1) := by decide +kernel
theorem d_h_grantLeft_23 : decode c_h_grantLeft 23 = .ok (.invokevirtual 226, 3) := by decide +kernel
theorem d_h_grantLeft_26 : decode c_h_grantLeft 26 = .ok (.checkcast 382, 3) := by decide +kernel
theorem d_h_grantLeft_29 : decode c_h_grantLeft 29 = .ok (.iconst 1, 1) := by decide +kernel
theorem d_h_grantLeft_30 : decode c_h_grantLeft 30 = .ok (.invokevirtual 385, 3) := by decide +kernel
theorem d_h_grantLeft_33 : decode c_h_grantLeft 33 = .ok (.aload_n 0, 1) := by decide +kernel
theorem d_h_grantLeft_34 : decode c_h_grantLeft 34 = .ok (.getfield 34, 3) := by decide +kernel
theorem d_h_grantLeft_37 : decode c_h_grantLeft 37 = .ok (.iload_n 3, 1) := by decide +kernel
theorem d_h_grantLeft_38 : decode c_h_grantLeft 38 = .ok (.iconst (-1), 1) := by decide +kernel
theorem d_h_grantLeft_39 : decode c_h_grantLeft 39 = .ok (.iastore, 1) := by decide +kernel
theorem d_h_grantLeft_40 : decode c_h_grantLeft 40 = .ok (.iinc 2 1, 3) := by decide +kernel
theorem d_h_grantLeft_43 : decode c_h_grantLeft 43 = .ok (.goto (-41), 3) := by decide +kernel
theorem d_h_grantLeft_46 : decode c_h_grantLeft 46 = .ok (.return_, 1) := by decide +kernel
theorem d_h_greatestRemainder_0 : decode c_h_greatestRemainder 0 = .ok (.iconst (-1), 1) := by decide +kernel
theorem d_h_greatestRemainder_1 : decode c_h_greatestRemainder 1 = .ok (.istore_n 1, 1) := by decide +kernel
theorem d_h_greatestRemainder_2 : decode c_h_greatestRemainder 2 = .ok (.iconst (-1), 1) := by decide +kernel
theorem d_h_greatestRemainder_3 : decode c_h_greatestRemainder 3 = .ok (.istore_n 2, 1) := by decide +kernel
theorem d_h_greatestRemainder_4 : decode c_h_greatestRemainder 4 = .ok (.iconst 0, 1) := by decide +kernel
theorem d_h_greatestRemainder_5 : decode c_h_greatestRemainder 5 = .ok (.istore_n 3, 1) := by decide +kernel
theorem d_h_greatestRemainder_6 : decode c_h_greatestRemainder 6 = .ok (.iload_n 3, 1) := by decide +kernel
theorem d_h_greatestRemainder_7 : decode c_h_greatestRemainder 7 = .ok (.aload_n 0, 1) := by decide +kernel
theorem d_h_greatestRemainder_8 : decode c_h_greatestRemainder 8 = .ok (.getfield 31, 3) := by decide +kernel
theorem d_h_greatestRemainder_11 : decode c_h_greatestRemainder 11 = .ok (.invokevirtual 147, 3) := by decide +kernel
theorem d_h_greatestRemainder_14 : decode c_h_greatestRemainder 14 = .ok (.if_icmp .ge 37, 3) := by decide +kernel
theorem d_h_greatestRemainder_17 : decode c_h_greatestRemainder 17 = .ok (.iload_n 3, 1) := by decide +kernel
theorem d_h_greatestRemainder_18 : decode c_h_greatestRemainder 18 = .ok (.aload_n 0, 1) := by decide +kernel
theorem d_h_greatestRemainder_19 : decode c_h_greatestRemainder 19 = .ok (.getfield 34, 3) := by decide +kernel
theorem d_h_greatestRemainder_22 : decode c_h_greatestRemainder 22 = .ok (.arraylength, 1) := by decide +kernel
theorem d_h_greatestRemainder_23 : decode c_h_greatestRemainder 23 = .ok (.if_icmp .ge 28, 3) := by decide +kernel
theorem d_h_greatestRemainder_26 : decode c_h_greatestRemainder 26 = .ok (.aload_n 0, 1) := by decide +kernel
theorem d_h_greatestRemainder_27 : decode c_h_greatestRemainder 27 = .ok (.getfield 34, 3) := by decide +kernel
theorem d_h_greatestRemainder_30 : decode c_h_greatestRemainder 30 = .ok (.iload_n 3, 1) := by decide +kernel
theorem d_h_greatestRemainder_31 : decode c_h_greatestRemainder 31 = .ok (.iaload, 1) := by decide +kernel
theorem d_h_greatestRemainder_32 : decode c_h_greatestRemainder 32 = .ok (.iload_n 2, 1) := by decide +kernel
theorem d_h_greatestRemainder_33 : decode c_h_greatestRemainder 33 = .ok (.if_icmp .le 12, 3) := by decide +kernel
theorem d_h_greatestRemainder_36 : decode c_h_greatestRemainder 36 = .ok (.iload_n 3, 1) := by decide +kernel
theorem d_h_greatestRemainder_37 : decode c_h_greatestRemainder 37 = .ok (.istore_n 1, 1) := by decide +kernel
theorem d_h_greatestRemainder_38 : decode c_h_greatestRemainder 38 = .ok (.aload_n 0, 1) := by decide +kernel
theorem d_h_greatestRemainder_39 : decode c_h_greatestRemainder 39 = .ok (.getfield 34, 3) := by decide +kernel
theorem d_h_greatestRemainder_42 : decode c_h_greatestRemainder 42 = .ok (.iload_n 3, 1) := by decide +kernel
theorem d_h_greatestRemainder_43 : decode c_h_greatestRemainder 43 = .ok (.iaload, 1) := by decide +kernel
theorem d_h_greatestRemainder_44 : decode c_h_greatestRemainder 44 = .ok (.istore_n 2, 1) := by decide +kernel
theorem d_h_greatestRemainder_45 : decode c_h_greatestRemainder 45 = .ok (.iinc 3 1, 3) := by decide +kernel
theorem d_h_greatestRemainder_48 : decode c_h_greatestRemainder 48 = .ok (.goto (-42), 3) := by decide +kernel
theorem d_h_greatestRemainder_51 : decode c_h_greatestRemainder 51 = .ok (.iload_n 1, 1) := by decide +kernel
theorem d_h_greatestRemainder_52 : decode c_h_greatestRemainder 52 = .ok (.ireturn, 1) := by decide +kernel
theorem d_h_writeFile_0 : decode c_h_writeFile 0 = .ok (.aload_n 0, 1) := by decide +kernel
theorem d_h_writeFile_1 : decode c_h_writeFile 1 = .ok (.iload_n 1, 1) := by decide +kernel
theorem d_h_writeFile_2 : decode c_h_writeFile 2 = .ok (.invokevirtual 127, 3) := by decide +kernel
theorem d_h_writeFile_5 : decode c_h_writeFile 5 = .ok (.astore 4, 2) := by decide +kernel
theorem d_h_writeFile_7 : decode c_h_writeFile 7 = .ok (.iload_n 2, 1) := by decide +kernel
theorem d_h_writeFile_8 : decode c_h_writeFile 8 = .ok (.invokestatic 67, 3) := by decide +kernel
theorem d_h_writeFile_11 : decode c_h_writeFile 11 = .ok (.iload_n 3, 1) := by decide +kernel
theorem d_h_writeFile_12 : decode c_h_writeFile 12 = .ok (.sipush 999, 3) := by decide +kernel
theorem d_h_writeFile_15 : decode c_h_writeFile 15 = .ok (.invokestatic 71, 3) := by decide +kernel
theorem d_h_writeFile_18 : decode c_h_writeFile 18 = .ok (.aload 4, 2) := by decide +kernel
theorem d_h_writeFile_20 : decode c_h_writeFile 20 = .ok (.iload_n 2, 1) := by decide +kernel
theorem d_h_writeFile_21 : decode c_h_writeFile 21 = .ok (.invokestatic 234, 3) := by decide +kernel
theorem d_h_writeFile_24 : decode c_h_writeFile 24 = .ok (.aload 4, 2) := by decide +kernel
theorem d_h_writeFile_26 : decode c_h_writeFile 26 = .ok (.getfield 131, 3) := by decide +kernel
theorem d_h_writeFile_29 : decode c_h_writeFile 29 = .ok (.iload_n 2, 1) := by decide +kernel
theorem d_h_writeFile_30 : decode c_h_writeFile 30 = .ok (.invokevirtual 85, 3) := by decide +kernel
theorem d_h_writeFile_33 : decode c_h_writeFile 33 = .ok (.istore 5, 2) := by decide +kernel
theorem d_h_writeFile_35 : decode c_h_writeFile 35 = .ok (.aload 4, 2) := by decide +kernel
theorem d_h_writeFile_37 : decode c_h_writeFile 37 = .ok (.getfield 131, 3) := by decide +kernel
theorem d_h_writeFile_40 : decode c_h_writeFile 40 = .ok (.getfield 89, 3) := by decide +kernel
theorem d_h_writeFile_43 : decode c_h_writeFile 43 = .ok (.iload_n 2, 1) := by decide +kernel
theorem d_h_writeFile_44 : decode c_h_writeFile 44 = .ok (.iload_n 3, 1) := by decide +kernel
theorem d_h_writeFile_45 : decode c_h_writeFile 45 = .ok (.iastore, 1) := by decide +kernel
theorem d_h_writeFile_46 : decode c_h_writeFile 46 = .ok (.iload 5, 2) := by decide +kernel
theorem d_h_writeFile_48 : decode c_h_writeFile 48 = .ok (.ireturn, 1) := by decide +kernel
theorem d_h_requireMayChange_0 : decode c_h_requireMayChange 0 = .ok (.aload_n 0, 1) := by decide +kernel
theorem d_h_requireMayChange_1 : decode c_h_requireMayChange 1 = .ok (.invokestatic 203, 3) := by decide +kernel
theorem d_h_requireMayChange_4 : decode c_h_requireMayChange 4 = .ok (.iload_n 1, 1) := by decide +kernel
theorem d_h_requireMayChange_5 : decode c_h_requireMayChange 5 = .ok (.iconst 4, 1) := by decide +kernel
theorem d_h_requireMayChange_6 : decode c_h_requireMayChange 6 = .ok (.if_icmp .ge 8, 3) := by decide +kernel
theorem d_h_requireMayChange_9 : decode c_h_requireMayChange 9 = .ok (.aload_n 0, 1) := by decide +kernel
theorem d_h_requireMayChange_10 : decode c_h_requireMayChange 10 = .ok (.iconst 1, 1) := by decide +kernel
theorem d_h_requireMayChange_11 : decode c_h_requireMayChange 11 = .ok (.invokestatic 245, 3) := by decide +kernel
theorem d_h_requireMayChange_14 : decode c_h_requireMayChange 14 = .ok (.return_, 1) := by decide +kernel
theorem d_h_requireEffective_0 : decode c_h_requireEffective 0 = .ok (.aload_n 0, 1) := by decide +kernel
theorem d_h_requireEffective_1 : decode c_h_requireEffective 1 = .ok (.getfield 179, 3) := by decide +kernel
theorem d_h_requireEffective_4 : decode c_h_requireEffective 4 = .ok (.iconst 1, 1) := by decide +kernel
theorem d_h_requireEffective_5 : decode c_h_requireEffective 5 = .ok (.iload_n 1, 1) := by decide +kernel
theorem d_h_requireEffective_6 : decode c_h_requireEffective 6 = .ok (.ishl, 1) := by decide +kernel
theorem d_h_requireEffective_7 : decode c_h_requireEffective 7 = .ok (.iand, 1) := by decide +kernel
theorem d_h_requireEffective_8 : decode c_h_requireEffective 8 = .ok (.ifCond .ne 14, 3) := by decide +kernel
theorem d_h_requireEffective_11 : decode c_h_requireEffective 11 = .ok (.new 134, 3) := by decide +kernel
theorem d_h_requireEffective_14 : decode c_h_requireEffective 14 = .ok (.dup, 1) := by decide +kernel
theorem d_h_requireEffective_15 : decode c_h_requireEffective 15 = .ok (.ldc_w 357, 3) := by decide +kernel
theorem d_h_requireEffective_18 : decode c_h_requireEffective 18 = .ok (.invokespecial 138, 3) := by decide +kernel
theorem d_h_requireEffective_21 : decode c_h_requireEffective 21 = .ok (.athrow, 1) := by decide +kernel
theorem d_h_requireEffective_22 : decode c_h_requireEffective 22 = .ok (.return_, 1) := by decide +kernel
theorem d_h_removeFile_0 : decode c_h_removeFile 0 = .ok (.aload_n 0, 1) := by decide +kernel
theorem d_h_removeFile_1 : decode c_h_removeFile 1 = .ok (.iload_n 1, 1) := by decide +kernel
theorem d_h_removeFile_2 : decode c_h_removeFile 2 = .ok (.invokevirtual 127, 3) := by decide +kernel
theorem d_h_removeFile_5 : decode c_h_removeFile 5 = .ok (.astore_n 3, 1) := by decide +kernel
theorem d_h_removeFile_6 : decode c_h_removeFile 6 = .ok (.iload_n 2, 1) := by decide +kernel
theorem d_h_removeFile_7 : decode c_h_removeFile 7 = .ok (.invokestatic 67, 3) := by decide +kernel
theorem d_h_removeFile_10 : decode c_h_removeFile 10 = .ok (.aload_n 3, 1) := by decide +kernel
theorem d_h_removeFile_11 : decode c_h_removeFile 11 = .ok (.iload_n 2, 1) := by decide +kernel
theorem d_h_removeFile_12 : decode c_h_removeFile 12 = .ok (.invokestatic 234, 3) := by decide +kernel
theorem d_h_removeFile_15 : decode c_h_removeFile 15 = .ok (.aload_n 3, 1) := by decide +kernel
theorem d_h_removeFile_16 : decode c_h_removeFile 16 = .ok (.getfield 131, 3) := by decide +kernel
theorem d_h_removeFile_19 : decode c_h_removeFile 19 = .ok (.iload_n 2, 1) := by decide +kernel
theorem d_h_removeFile_20 : decode c_h_removeFile 20 = .ok (.invokestatic 92, 3) := by decide +kernel
theorem d_h_removeFile_23 : decode c_h_removeFile 23 = .ok (.ireturn, 1) := by decide +kernel
theorem d_h_fileOf_0 : decode c_h_fileOf 0 = .ok (.aload_n 0, 1) := by decide +kernel
theorem d_h_fileOf_1 : decode c_h_fileOf 1 = .ok (.iload_n 1, 1) := by decide +kernel
theorem d_h_fileOf_2 : decode c_h_fileOf 2 = .ok (.invokevirtual 127, 3) := by decide +kernel
theorem d_h_fileOf_5 : decode c_h_fileOf 5 = .ok (.astore_n 3, 1) := by decide +kernel
theorem d_h_fileOf_6 : decode c_h_fileOf 6 = .ok (.iload_n 2, 1) := by decide +kernel
theorem d_h_fileOf_7 : decode c_h_fileOf 7 = .ok (.invokestatic 67, 3) := by decide +kernel
theorem d_h_fileOf_10 : decode c_h_fileOf 10 = .ok (.aload_n 3, 1) := by decide +kernel
theorem d_h_fileOf_11 : decode c_h_fileOf 11 = .ok (.getfield 131, 3) := by decide +kernel
theorem d_h_fileOf_14 : decode c_h_fileOf 14 = .ok (.iload_n 2, 1) := by decide +kernel
theorem d_h_fileOf_15 : decode c_h_fileOf 15 = .ok (.invokevirtual 85, 3) := by decide +kernel
theorem d_h_fileOf_18 : decode c_h_fileOf 18 = .ok (.ireturn, 1) := by decide +kernel
theorem d_h_plainFileOf_0 : decode c_h_plainFileOf 0 = .ok (.aload_n 0, 1) := by decide +kernel
theorem d_h_plainFileOf_1 : decode c_h_plainFileOf 1 = .ok (.iload_n 1, 1) := by decide +kernel
theorem d_h_plainFileOf_2 : decode c_h_plainFileOf 2 = .ok (.invokevirtual 127, 3) := by decide +kernel
theorem d_h_plainFileOf_5 : decode c_h_plainFileOf 5 = .ok (.astore_n 3, 1) := by decide +kernel
theorem d_h_plainFileOf_6 : decode c_h_plainFileOf 6 = .ok (.iload_n 2, 1) := by decide +kernel
theorem d_h_plainFileOf_7 : decode c_h_plainFileOf 7 = .ok (.invokestatic 67, 3) := by decide +kernel
theorem d_h_plainFileOf_10 : decode c_h_plainFileOf 10 = .ok (.aload_n 3, 1) := by decide +kernel
theorem d_h_plainFileOf_11 : decode c_h_plainFileOf 11 = .ok (.getfield 131, 3) := by decide +kernel
theorem d_h_plainFileOf_14 : decode c_h_plainFileOf 14 = .ok (.iload_n 2, 1) := by decide +kernel
theorem d_h_plainFileOf_15 : decode c_h_plainFileOf 15 = .ok (.invokevirtual 237, 3) := by decide +kernel
theorem d_h_plainFileOf_18 : decode c_h_plainFileOf 18 = .ok (.ireturn, 1) := by decide +kernel
theorem d_l_fileBuiltUp_0 : decode c_l_fileBuiltUp 0 = .ok (.iconst 0, 1) := by decide +kernel
theorem d_l_fileBuiltUp_1 : decode c_l_fileBuiltUp 1 = .ok (.istore_n 2, 1) := by decide +kernel
theorem d_l_fileBuiltUp_2 : decode c_l_fileBuiltUp 2 = .ok (.iconst 1, 1) := by decide +kernel
theorem d_l_fileBuiltUp_3 : decode c_l_fileBuiltUp 3 = .ok (.istore_n 3, 1) := by decide +kernel
theorem d_l_fileBuiltUp_4 : decode c_l_fileBuiltUp 4 = .ok (.iload_n 3, 1) := by decide +kernel
theorem d_l_fileBuiltUp_5 : decode c_l_fileBuiltUp 5 = .ok (.aload_n 0, 1) := by decide +kernel
theorem d_l_fileBuiltUp_6 : decode c_l_fileBuiltUp 6 = .ok (.getfield 19, 3) := by decide +kernel
theorem d_l_fileBuiltUp_9 : decode c_l_fileBuiltUp 9 = .ok (.if_icmp .gt 33, 3) := by decide +kernel
theorem d_l_fileBuiltUp_12 : decode c_l_fileBuiltUp 12 = .ok (.aload_n 0, 1) := by decide +kernel
theorem d_l_fileBuiltUp_13 : decode c_l_fileBuiltUp 13 = .ok (.iload_n 3, 1) := by decide +kernel
theorem d_l_fileBuiltUp_14 : decode c_l_fileBuiltUp 14 = .ok (.invokevirtual 52, 3) := by decide +kernel
theorem d_l_fileBuiltUp_17 : decode c_l_fileBuiltUp 17 = .ok (.astore 4, 2) := by decide +kernel
theorem d_l_fileBuiltUp_19 : decode c_l_fileBuiltUp 19 = .ok (.aload 4, 2) := by decide +kernel
theorem d_l_fileBuiltUp_21 : decode c_l_fileBuiltUp 21 = .ok (.ifnonnull 7, 3) := by decide +kernel
theorem d_l_fileBuiltUp_24 : decode c_l_fileBuiltUp 24 = .ok (.iload_n 2, 1) := by decide +kernel
theorem d_l_fileBuiltUp_25 : decode c_l_fileBuiltUp 25 = .ok (.goto 10, 3) := by decide +kernel
theorem d_l_fileBuiltUp_28 : decode c_l_fileBuiltUp 28 = .ok (.aload 4, 2) := by decide +kernel
theorem d_l_fileBuiltUp_30 : decode c_l_fileBuiltUp 30 = .ok (.iload_n 2, 1) := by decide +kernel
theorem d_l_fileBuiltUp_31 : decode c_l_fileBuiltUp 31 = .ok (.iload_n 1, 1) := by decide +kernel
theorem d_l_fileBuiltUp_32 : decode c_l_fileBuiltUp 32 = .ok (.invokevirtual 45, 3) := by decide +kernel
theorem d_l_fileBuiltUp_35 : decode c_l_fileBuiltUp 35 = .ok (.istore_n 2, 1) := by decide +kernel
theorem d_l_fileBuiltUp_36 : decode c_l_fileBuiltUp 36 = .ok (.iinc 3 1, 3) := by decide +kernel
theorem d_l_fileBuiltUp_39 : decode c_l_fileBuiltUp 39 = .ok (.goto (-35), 3) := by decide +kernel
theorem d_l_fileBuiltUp_42 : decode c_l_fileBuiltUp 42 = .ok (.iload_n 2, 1) := by decide +kernel
theorem d_l_fileBuiltUp_43 : decode c_l_fileBuiltUp 43 = .ok (.ireturn, 1) := by decide +kernel
theorem d_h_raise_0 : decode c_h_raise 0 = .ok (.aload_n 0, 1) := by decide +kernel
theorem d_h_raise_1 : decode c_h_raise 1 = .ok (.iload_n 1, 1) := by decide +kernel
theorem d_h_raise_2 : decode c_h_raise 2 = .ok (.invokevirtual 127, 3) := by decide +kernel
theorem d_h_raise_5 : decode c_h_raise 5 = .ok (.astore_n 3, 1) := by decide +kernel
theorem d_h_raise_6 : decode c_h_raise 6 = .ok (.iload_n 2, 1) := by decide +kernel
theorem d_h_raise_7 : decode c_h_raise 7 = .ok (.invokestatic 240, 3) := by decide +kernel
theorem d_h_raise_10 : decode c_h_raise 10 = .ok (.aload_n 3, 1) := by decide +kernel
theorem d_h_raise_11 : decode c_h_raise 11 = .ok (.invokestatic 203, 3) := by decide +kernel
theorem d_h_raise_14 : decode c_h_raise 14 = .ok (.iconst 1, 1) := by decide +kernel
theorem d_h_raise_15 : decode c_h_raise 15 = .ok (.iload_n 2, 1) := by decide +kernel
theorem d_h_raise_16 : decode c_h_raise 16 = .ok (.ishl, 1) := by decide +kernel
theorem d_h_raise_17 : decode c_h_raise 17 = .ok (.istore 4, 2) := by decide +kernel
theorem d_h_raise_19 : decode c_h_raise 19 = .ok (.aload_n 3, 1) := by decide +kernel
theorem d_h_raise_20 : decode c_h_raise 20 = .ok (.getfield 176, 3) := by decide +kernel
theorem d_h_raise_23 : decode c_h_raise 23 = .ok (.iload 4, 2) := by decide +kernel
theorem d_h_raise_25 : decode c_h_raise 25 = .ok (.iand, 1) := by decide +kernel
theorem d_h_raise_26 : decode c_h_raise 26 = .ok (.ifCond .ne 13, 3) := by decide +kernel
theorem d_h_raise_29 : decode c_h_raise 29 = .ok (.new 134, 3) := by decide +kernel
theorem d_h_raise_32 : decode c_h_raise 32 = .ok (.dup, 1) := by decide +kernel
theorem d_h_raise_33 : decode c_h_raise 33 = .ok (.ldc 243, 2) := by decide +kernel
theorem d_h_raise_35 : decode c_h_raise 35 = .ok (.invokespecial 138, 3) := by decide +kernel
theorem d_h_raise_38 : decode c_h_raise 38 = .ok (.athrow, 1) := by decide +kernel
theorem d_h_raise_39 : decode c_h_raise 39 = .ok (.aload_n 3, 1) := by decide +kernel
theorem d_h_raise_40 : decode c_h_raise 40 = .ok (.dup, 1) := by decide +kernel
theorem d_h_raise_41 : decode c_h_raise 41 = .ok (.getfield 179, 3) := by decide +kernel
theorem d_h_raise_44 : decode c_h_raise 44 = .ok (.iload 4, 2) := by decide +kernel
theorem d_h_raise_46 : decode c_h_raise 46 = .ok (.ior, 1) := by decide +kernel
theorem d_h_raise_47 : decode c_h_raise 47 = .ok (.putfield 179, 3) := by decide +kernel
theorem d_h_raise_50 : decode c_h_raise 50 = .ok (.aload_n 3, 1) := by decide +kernel
theorem d_h_raise_51 : decode c_h_raise 51 = .ok (.getfield 179, 3) := by decide +kernel
theorem d_h_raise_54 : decode c_h_raise 54 = .ok (.ireturn, 1) := by decide +kernel
theorem d_h_requireCapability_0 : decode c_h_requireCapability 0 = .ok (.iload_n 0, 1) := by decide +kernel
theorem d_h_requireCapability_1 : decode c_h_requireCapability 1 = .ok (.ifCond .lt 8, 3) := by decide +kernel
theorem d_h_requireCapability_4 : decode c_h_requireCapability 4 = .ok (.iload_n 0, 1) := by decide +kernel
theorem d_h_requireCapability_5 : decode c_h_requireCapability 5 = .ok (.iconst 4, 1) := by decide +kernel
theorem d_h_requireCapability_6 : decode c_h_requireCapability 6 = .ok (.if_icmp .lt 14, 3) := by decide +kernel
theorem d_h_requireCapability_9 : decode c_h_requireCapability 9 = .ok (.new 96, 3) := by decide +kernel
theorem d_h_requireCapability_12 : decode c_h_requireCapability 12 = .ok (.dup, 1) := by decide +kernel
theorem d_h_requireCapability_13 : decode c_h_requireCapability 13 = .ok (.ldc_w 335, 3) := by decide +kernel
theorem d_h_requireCapability_16 : decode c_h_requireCapability 16 = .ok (.invokespecial 100, 3) := by decide +kernel
theorem d_h_requireCapability_19 : decode c_h_requireCapability 19 = .ok (.athrow, 1) := by decide +kernel
theorem d_h_requireCapability_20 : decode c_h_requireCapability 20 = .ok (.return_, 1) := by decide +kernel
theorem d_h_lower_0 : decode c_h_lower 0 = .ok (.aload_n 0, 1) := by decide +kernel
theorem d_h_lower_1 : decode c_h_lower 1 = .ok (.iload_n 1, 1) := by decide +kernel
theorem d_h_lower_2 : decode c_h_lower 2 = .ok (.invokevirtual 127, 3) := by decide +kernel
theorem d_h_lower_5 : decode c_h_lower 5 = .ok (.astore_n 3, 1) := by decide +kernel
theorem d_h_lower_6 : decode c_h_lower 6 = .ok (.iload_n 2, 1) := by decide +kernel
theorem d_h_lower_7 : decode c_h_lower 7 = .ok (.invokestatic 240, 3) := by decide +kernel
theorem d_h_lower_10 : decode c_h_lower 10 = .ok (.aload_n 3, 1) := by decide +kernel
theorem d_h_lower_11 : decode c_h_lower 11 = .ok (.invokestatic 203, 3) := by decide +kernel
theorem d_h_lower_14 : decode c_h_lower 14 = .ok (.aload_n 3, 1) := by decide +kernel
theorem d_h_lower_15 : decode c_h_lower 15 = .ok (.dup, 1) := by decide +kernel
theorem d_h_lower_16 : decode c_h_lower 16 = .ok (.getfield 179, 3) := by decide +kernel
theorem d_h_lower_19 : decode c_h_lower 19 = .ok (.iconst 1, 1) := by decide +kernel
theorem d_h_lower_20 : decode c_h_lower 20 = .ok (.iload_n 2, 1) := by decide +kernel
theorem d_h_lower_21 : decode c_h_lower 21 = .ok (.ishl, 1) := by decide +kernel
theorem d_h_lower_22 : decode c_h_lower 22 = .ok (.iconst (-1), 1) := by decide +kernel
theorem d_h_lower_23 : decode c_h_lower 23 = .ok (.ixor, 1) := by decide +kernel
theorem d_h_lower_24 : decode c_h_lower 24 = .ok (.iand, 1) := by decide +kernel
theorem d_h_lower_25 : decode c_h_lower 25 = .ok (.putfield 179, 3) := by decide +kernel
theorem d_h_lower_28 : decode c_h_lower 28 = .ok (.aload_n 3, 1) := by decide +kernel
theorem d_h_lower_29 : decode c_h_lower 29 = .ok (.getfield 179, 3) := by decide +kernel
theorem d_h_lower_32 : decode c_h_lower 32 = .ok (.ireturn, 1) := by decide +kernel
theorem d_h_drop_0 : decode c_h_drop 0 = .ok (.aload_n 0, 1) := by decide +kernel
theorem d_h_drop_1 : decode c_h_drop 1 = .ok (.iload_n 1, 1) := by decide +kernel
theorem d_h_drop_2 : decode c_h_drop 2 = .ok (.invokevirtual 127, 3) := by decide +kernel
theorem d_h_drop_5 : decode c_h_drop 5 = .ok (.astore_n 3, 1) := by decide +kernel
theorem d_h_drop_6 : decode c_h_drop 6 = .ok (.iload_n 2, 1) := by decide +kernel
theorem d_h_drop_7 : decode c_h_drop 7 = .ok (.invokestatic 240, 3) := by decide +kernel
theorem d_h_drop_10 : decode c_h_drop 10 = .ok (.aload_n 3, 1) := by decide +kernel
theorem d_h_drop_11 : decode c_h_drop 11 = .ok (.invokestatic 203, 3) := by decide +kernel
theorem d_h_drop_14 : decode c_h_drop 14 = .ok (.aload_n 3, 1) := by decide +kernel
theorem d_h_drop_15 : decode c_h_drop 15 = .ok (.dup, 1) := by decide +kernel
theorem d_h_drop_16 : decode c_h_drop 16 = .ok (.getfield 179, 3) := by decide +kernel
theorem d_h_drop_19 : decode c_h_drop 19 = .ok (.iconst 1, 1) := by decide +kernel
theorem d_h_drop_20 : decode c_h_drop 20 = .ok (.iload_n 2, 1) := by decide +kernel
theorem d_h_drop_21 : decode c_h_drop 21 = .ok (.ishl, 1) := by decide +kernel
theorem d_h_drop_22 : decode c_h_drop 22 = .ok (.iconst (-1), 1) := by decide +kernel
theorem d_h_drop_23 : decode c_h_drop 23 = .ok (.ixor, 1) := by decide +kernel
theorem d_h_drop_24 : decode c_h_drop 24 = .ok (.iand, 1) := by decide +kernel
theorem d_h_drop_25 : decode c_h_drop 25 = .ok (.putfield 179, 3) := by decide +kernel
theorem d_h_drop_28 : decode c_h_drop 28 = .ok (.aload_n 3, 1) := by decide +kernel
theorem d_h_drop_29 : decode c_h_drop 29 = .ok (.dup, 1) := by decide +kernel
theorem d_h_drop_30 : decode c_h_drop 30 = .ok (.getfield 176, 3) := by decide +kernel
theorem d_h_drop_33 : decode c_h_drop 33 = .ok (.iconst 1, 1) := by decide +kernel
theorem d_h_drop_34 : decode c_h_drop 34 = .ok (.iload_n 2, 1) := by decide +kernel
theorem d_h_drop_35 : decode c_h_drop 35 = .ok (.ishl, 1) := by decide +kernel
theorem d_h_drop_36 : decode c_h_drop 36 = .ok (.iconst (-1), 1) := by decide +kernel
theorem d_h_drop_37 : decode c_h_drop 37 = .ok (.ixor, 1) := by decide +kernel
theorem d_h_drop_38 : decode c_h_drop 38 = .ok (.iand, 1) := by decide +kernel
theorem d_h_drop_39 : decode c_h_drop 39 = .ok (.putfield 176, 3) := by decide +kernel
theorem d_h_drop_42 : decode c_h_drop 42 = .ok (.aload_n 3, 1) := by decide +kernel
theorem d_h_drop_43 : decode c_h_drop 43 = .ok (.getfield 176, 3) := by decide +kernel
theorem d_h_drop_46 : decode c_h_drop 46 = .ok (.ireturn, 1) := by decide +kernel
theorem d_h_kill_0 : decode c_h_kill 0 = .ok (.aload_n 0, 1) := by decide +kernel
theorem d_h_kill_1 : decode c_h_kill 1 = .ok (.iload_n 1, 1) := by decide +kernel
theorem d_h_kill_2 : decode c_h_kill 2 = .ok (.invokevirtual 127, 3) := by decide +kernel
theorem d_h_kill_5 : decode c_h_kill 5 = .ok (.astore_n 3, 1) := by decide +kernel
theorem d_h_kill_6 : decode c_h_kill 6 = .ok (.aload_n 0, 1) := by decide +kernel
theorem d_h_kill_7 : decode c_h_kill 7 = .ok (.iload_n 2, 1) := by decide +kernel
theorem d_h_kill_8 : decode c_h_kill 8 = .ok (.invokevirtual 127, 3) := by decide +kernel
theorem d_h_kill_11 : decode c_h_kill 11 = .ok (.astore 4, 2) := by decide +kernel
theorem d_h_kill_13 : decode c_h_kill 13 = .ok (.aload_n 3, 1) := by decide +kernel
theorem d_h_kill_14 : decode c_h_kill 14 = .ok (.invokestatic 203, 3) := by decide +kernel
theorem d_h_kill_17 : decode c_h_kill 17 = .ok (.aload_n 3, 1) := by decide +kernel
theorem d_h_kill_18 : decode c_h_kill 18 = .ok (.iconst 3, 1) := by decide +kernel
theorem d_h_kill_19 : decode c_h_kill 19 = .ok (.invokestatic 245, 3) := by decide +kernel
theorem d_h_kill_22 : decode c_h_kill 22 = .ok (.aload 4, 2) := by decide +kernel
theorem d_h_kill_24 : decode c_h_kill 24 = .ok (.aload_n 3, 1) := by decide +kernel
theorem d_h_kill_25 : decode c_h_kill 25 = .ok (.if_acmp .eq 12, 3) := by decide +kernel
theorem d_h_kill_28 : decode c_h_kill 28 = .ok (.aload 4, 2) := by decide +kernel
theorem d_h_kill_30 : decode c_h_kill 30 = .ok (.getfield 191, 3) := by decide +kernel
theorem d_h_kill_33 : decode c_h_kill 33 = .ok (.iconst 2, 1) := by decide +kernel
theorem d_h_kill_34 : decode c_h_kill 34 = .ok (.if_icmp .ne 13, 3) := by decide +kernel
theorem d_h_kill_37 : decode c_h_kill 37 = .ok (.new 134, 3) := by decide +kernel
theorem d_h_kill_40 : decode c_h_kill 40 = .ok (.dup, 1) := by decide +kernel
theorem d_h_kill_41 : decode c_h_kill 41 = .ok (.ldc 248, 2) := by decide +kernel
theorem d_h_kill_43 : decode c_h_kill 43 = .ok (.invokespecial 138, 3) := by decide +kernel
theorem d_h_kill_46 : decode c_h_kill 46 = .ok (.athrow, 1) := by decide +kernel
theorem d_h_kill_47 : decode c_h_kill 47 = .ok (.aload 4, 2) := by decide +kernel
theorem d_h_kill_49 : decode c_h_kill 49 = .ok (.getfield 214, 3) := by decide +kernel
theorem d_h_kill_52 : decode c_h_kill 52 = .ok (.aload_n 3, 1) := by decide +kernel
theorem d_h_kill_53 : decode c_h_kill 53 = .ok (.getfield 214, 3) := by decide +kernel
theorem d_h_kill_56 : decode c_h_kill 56 = .ok (.invokevirtual 250, 3) := by decide +kernel
theorem d_h_kill_59 : decode c_h_kill 59 = .ok (.ifCond .ne 13, 3) := by decide +kernel
theorem d_h_kill_62 : decode c_h_kill 62 = .ok (.new 134, 3) := by decide +kernel
theorem d_h_kill_65 : decode c_h_kill 65 = .ok (.dup, 1) := by decide +kernel
theorem d_h_kill_66 : decode c_h_kill 66 = .ok (.ldc 253, 2) := by decide +kernel
theorem d_h_kill_68 : decode c_h_kill 68 = .ok (.invokespecial 138, 3) := by decide +kernel
theorem d_h_kill_71 : decode c_h_kill 71 = .ok (.athrow, 1) := by decide +kernel
theorem d_h_kill_72 : decode c_h_kill 72 = .ok (.aload_n 0, 1) := by decide +kernel
theorem d_h_kill_73 : decode c_h_kill 73 = .ok (.aload 4, 2) := by decide +kernel
theorem d_h_kill_75 : decode c_h_kill 75 = .ok (.invokevirtual 199, 3) := by decide +kernel
theorem d_h_kill_78 : decode c_h_kill 78 = .ok (.ireturn, 1) := by decide +kernel
theorem d_h_attach_0 : decode c_h_attach 0 = .ok (.aload_n 0, 1) := by decide +kernel
theorem d_h_attach_1 : decode c_h_attach 1 = .ok (.iload_n 1, 1) := by decide +kernel
theorem d_h_attach_2 : decode c_h_attach 2 = .ok (.invokevirtual 127, 3) := by decide +kernel
theorem d_h_attach_5 : decode c_h_attach 5 = .ok (.astore_n 3, 1) := by decide +kernel
theorem d_h_attach_6 : decode c_h_attach 6 = .ok (.iload_n 2, 1) := by decide +kernel
theorem d_h_attach_7 : decode c_h_attach 7 = .ok (.ifCond .lt 8, 3) := by decide +kernel
theorem d_h_attach_10 : decode c_h_attach 10 = .ok (.iload_n 2, 1) := by decide +kernel
theorem d_h_attach_11 : decode c_h_attach 11 = .ok (.iconst 4, 1) := by decide +kernel
theorem d_h_attach_12 : decode c_h_attach 12 = .ok (.if_icmp .lt 13, 3) := by decide +kernel
theorem d_h_attach_15 : decode c_h_attach 15 = .ok (.new 96, 3) := by decide +kernel
theorem d_h_attach_18 : decode c_h_attach 18 = .ok (.dup, 1) := by decide +kernel
theorem d_h_attach_19 : decode c_h_attach 19 = .ok (.ldc 255, 2) := by decide +kernel
theorem d_h_attach_21 : decode c_h_attach 21 = .ok (.invokespecial 100, 3) := by decide +kernel
theorem d_h_attach_24 : decode c_h_attach 24 = .ok (.athrow, 1) := by decide +kernel
theorem d_h_attach_25 : decode c_h_attach 25 = .ok (.aload_n 3, 1) := by decide +kernel
theorem d_h_attach_26 : decode c_h_attach 26 = .ok (.invokestatic 203, 3) := by decide +kernel
theorem d_h_attach_29 : decode c_h_attach 29 = .ok (.aload_n 3, 1) := by decide +kernel
theorem d_h_attach_30 : decode c_h_attach 30 = .ok (.iconst 2, 1) := by decide +kernel
theorem d_h_attach_31 : decode c_h_attach 31 = .ok (.invokestatic 245, 3) := by decide +kernel
theorem d_h_attach_34 : decode c_h_attach 34 = .ok (.aload_n 0, 1) := by decide +kernel
theorem d_h_attach_35 : decode c_h_attach 35 = .ok (.iload_n 2, 1) := by decide +kernel
theorem d_h_attach_36 : decode c_h_attach 36 = .ok (.invokevirtual 257, 3) := by decide +kernel
theorem d_h_attach_39 : decode c_h_attach 39 = .ok (.istore 4, 2) := by decide +kernel
theorem d_h_attach_41 : decode c_h_attach 41 = .ok (.aload_n 3, 1) := by decide +kernel
theorem d_h_attach_42 : decode c_h_attach 42 = .ok (.getfield 260, 3) := by decide +kernel
theorem d_h_attach_45 : decode c_h_attach 45 = .ok (.iconst (-1), 1) := by decide +kernel
theorem d_h_attach_46 : decode c_h_attach 46 = .ok (.if_icmp .ne 9, 3) := by decide +kernel
theorem d_h_attach_49 : decode c_h_attach 49 = .ok (.iload 4, 2) := by decide +kernel
theorem d_h_attach_51 : decode c_h_attach 51 = .ok (.iconst (-1), 1) := by decide +kernel
theorem d_h_attach_52 : decode c_h_attach 52 = .ok (.if_icmp .ne 14, 3) := by decide +kernel
theorem d_h_attach_55 : decode c_h_attach 55 = .ok (.new 134, 3) := by decide +kernel
theorem d_h_attach_58 : decode c_h_attach 58 = .ok (.dup, 1) := by decide +kernel
theorem d_h_attach_59 : decode c_h_attach 59 = .ok (.ldc_w 263, 3) := by decide +kernel
theorem d_h_attach_62 : decode c_h_attach 62 = .ok (.invokespecial 138, 3) := by decide +kernel
theorem d_h_attach_65 : decode c_h_attach 65 = .ok (.athrow, 1) := by decide +kernel
theorem d_h_attach_66 : decode c_h_attach 66 = .ok (.aload_n 3, 1) := by decide +kernel
theorem d_h_attach_67 : decode c_h_attach 67 = .ok (.iload_n 2, 1) := by decide +kernel
theorem d_h_attach_68 : decode c_h_attach 68 = .ok (.putfield 260, 3) := by decide +kernel
theorem d_h_attach_71 : decode c_h_attach 71 = .ok (.aload_n 3, 1) := by decide +kernel
theorem d_h_attach_72 : decode c_h_attach 72 = .ok (.iload 4, 2) := by decide +kernel
theorem d_h_attach_74 : decode c_h_attach 74 = .ok (.putfield 265, 3) := by decide +kernel
theorem d_h_attach_77 : decode c_h_attach 77 = .ok (.iload 4, 2) := by decide +kernel
theorem d_h_attach_79 : decode c_h_attach 79 = .ok (.ireturn, 1) := by decide +kernel
theorem d_h_leastFreeAddress_0 : decode c_h_leastFreeAddress 0 = .ok (.iconst 1, 1) := by decide +kernel
theorem d_h_leastFreeAddress_1 : decode c_h_leastFreeAddress 1 = .ok (.istore_n 2, 1) := by decide +kernel
theorem d_h_leastFreeAddress_2 : decode c_h_leastFreeAddress 2 = .ok (.iload_n 2, 1) := by decide +kernel
theorem d_h_leastFreeAddress_3 : decode c_h_leastFreeAddress 3 = .ok (.bipush 6, 2) := by decide +kernel
theorem d_h_leastFreeAddress_5 : decode c_h_leastFreeAddress 5 = .ok (.if_icmp .gt 20, 3) := by decide +kernel
theorem d_h_leastFreeAddress_8 : decode c_h_leastFreeAddress 8 = .ok (.aload_n 0, 1) := by decide +kernel
theorem d_h_leastFreeAddress_9 : decode c_h_leastFreeAddress 9 = .ok (.iload_n 1, 1) := by decide +kernel
theorem d_h_leastFreeAddress_10 : decode c_h_leastFreeAddress 10 = .ok (.iload_n 2, 1) := by decide +kernel
theorem d_h_leastFreeAddress_11 : decode c_h_leastFreeAddress 11 = .ok (.invokevirtual 301, 3) := by decide +kernel
theorem d_h_leastFreeAddress_14 : decode c_h_leastFreeAddress 14 = .ok (.ifnonnull 5, 3) := by decide +kernel
theorem d_h_leastFreeAddress_17 : decode c_h_leastFreeAddress 17 = .ok (.iload_n 2, 1) := by decide +kernel
theorem d_h_leastFreeAddress_18 : decode c_h_leastFreeAddress 18 = .ok (.ireturn, 1) := by decide +kernel
theorem d_h_leastFreeAddress_19 : decode c_h_leastFreeAddress 19 = .ok (.iinc 2 1, 3) := by decide +kernel
theorem d_h_leastFreeAddress_22 : decode c_h_leastFreeAddress 22 = .ok (.goto (-20), 3) := by decide +kernel
theorem d_h_leastFreeAddress_25 : decode c_h_leastFreeAddress 25 = .ok (.iconst (-1), 1) := by decide +kernel
theorem d_h_leastFreeAddress_26 : decode c_h_leastFreeAddress 26 = .ok (.ireturn, 1) := by decide +kernel
theorem d_h_attachedAt_0 : decode c_h_attachedAt 0 = .ok (.iconst 0, 1) := by decide +kernel
theorem d_h_attachedAt_1 : decode c_h_attachedAt 1 = .ok (.istore_n 3, 1) := by decide +kernel
theorem d_h_attachedAt_2 : decode c_h_attachedAt 2 = .ok (.iload_n 3, 1) := by decide +kernel
theorem d_h_attachedAt_3 : decode c_h_attachedAt 3 = .ok (.aload_n 0, 1) := by decide +kernel
theorem d_h_attachedAt_4 : decode c_h_attachedAt 4 = .ok (.getfield 19, 3) := by decide +kernel
theorem d_h_attachedAt_7 : decode c_h_attachedAt 7 = .ok (.invokevirtual 147, 3) := by decide +kernel
theorem d_h_attachedAt_10 : decode c_h_attachedAt 10 = .ok (.if_icmp .ge 43, 3) := by decide +kernel
theorem d_h_attachedAt_13 : decode c_h_attachedAt 13 = .ok (.aload_n 0, 1) := by decide +kernel
theorem d_h_attachedAt_14 : decode c_h_attachedAt 14 = .ok (.getfield 19, 3) := by decide +kernel
theorem d_h_attachedAt_17 : decode c_h_attachedAt 17 = .ok (.iload_n 3, 1) := by decide +kernel
theorem d_h_attachedAt_18 : decode c_h_attachedAt 18 = .ok (.invokevirtual 226, 3) := by decide +kernel
theorem d_h_attachedAt_21 : decode c_h_attachedAt 21 = .ok (.checkcast 25, 3) := by decide +kernel
theorem d_h_attachedAt_24 : decode c_h_attachedAt 24 = .ok (.astore 4, 2) := by decide +kernel
theorem d_h_attachedAt_26 : decode c_h_attachedAt 26 = .ok (.aload 4, 2) := by decide +kernel
theorem d_h_attachedAt_28 : decode c_h_attachedAt 28 = .ok (.getfield 260, 3) := by decide +kernel
theorem d_h_attachedAt_31 : decode c_h_attachedAt 31 = .ok (.iload_n 1, 1) := by decide +kernel
theorem d_h_attachedAt_32 : decode c_h_attachedAt 32 = .ok (.if_icmp .ne 15, 3) := by decide +kernel
theorem d_h_attachedAt_35 : decode c_h_attachedAt 35 = .ok (.aload 4, 2) := by decide +kernel
theorem d_h_attachedAt_37 : decode c_h_attachedAt 37 = .ok (.getfield 265, 3) := by decide +kernel
theorem d_h_attachedAt_40 : decode c_h_attachedAt 40 = .ok (.iload_n 2, 1) := by decide +kernel
theorem d_h_attachedAt_41 : decode c_h_attachedAt 41 = .ok (.if_icmp .ne 6, 3) := by decide +kernel
theorem d_h_attachedAt_44 : decode c_h_attachedAt 44 = .ok (.aload 4, 2) := by decide +kernel
theorem d_h_attachedAt_46 : decode c_h_attachedAt 46 = .ok (.areturn, 1) := by decide +kernel
theorem d_h_attachedAt_47 : decode c_h_attachedAt 47 = .ok (.iinc 3 1, 3) := by decide +kernel
theorem d_h_attachedAt_50 : decode c_h_attachedAt 50 = .ok (.goto (-48), 3) := by decide +kernel
theorem d_h_attachedAt_53 : decode c_h_attachedAt 53 = .ok (.aconst_null, 1) := by decide +kernel
theorem d_h_attachedAt_54 : decode c_h_attachedAt 54 = .ok (.areturn, 1) := by decide +kernel
theorem d_h_detach_0 : decode c_h_detach 0 = .ok (.aload_n 0, 1) := by decide +kernel
theorem d_h_detach_1 : decode c_h_detach 1 = .ok (.iload_n 1, 1) := by decide +kernel
theorem d_h_detach_2 : decode c_h_detach 2 = .ok (.invokevirtual 188, 3) := by decide +kernel
theorem d_h_detach_5 : decode c_h_detach 5 = .ok (.astore_n 2, 1) := by decide +kernel
theorem d_h_detach_6 : decode c_h_detach 6 = .ok (.aload_n 2, 1) := by decide +kernel
theorem d_h_detach_7 : decode c_h_detach 7 = .ok (.invokestatic 268, 3) := by decide +kernel
theorem d_h_detach_10 : decode c_h_detach 10 = .ok (.aload_n 2, 1) := by decide +kernel
theorem d_h_detach_11 : decode c_h_detach 11 = .ok (.getfield 260, 3) := by decide +kernel
theorem d_h_detach_14 : decode c_h_detach 14 = .ok (.istore_n 3, 1) := by decide +kernel
theorem d_h_detach_15 : decode c_h_detach 15 = .ok (.aload_n 2, 1) := by decide +kernel
theorem d_h_detach_16 : decode c_h_detach 16 = .ok (.invokevirtual 271, 3) := by decide +kernel
theorem d_h_detach_19 : decode c_h_detach 19 = .ok (.iload_n 3, 1) := by decide +kernel
theorem d_h_detach_20 : decode c_h_detach 20 = .ok (.ireturn, 1) := by decide +kernel
theorem d_h_requireAttached_0 : decode c_h_requireAttached 0 = .ok (.aload_n 0, 1) := by decide +kernel
theorem d_h_requireAttached_1 : decode c_h_requireAttached 1 = .ok (.getfield 260, 3) := by decide +kernel
theorem d_h_requireAttached_4 : decode c_h_requireAttached 4 = .ok (.iconst (-1), 1) := by decide +kernel
theorem d_h_requireAttached_5 : decode c_h_requireAttached 5 = .ok (.if_icmp .ne 14, 3) := by decide +kernel
theorem d_h_requireAttached_8 : decode c_h_requireAttached 8 = .ok (.new 134, 3) := by decide +kernel
theorem d_h_requireAttached_11 : decode c_h_requireAttached 11 = .ok (.dup, 1) := by decide +kernel
theorem d_h_requireAttached_12 : decode c_h_requireAttached 12 = .ok (.ldc_w 359, 3) := by decide +kernel
theorem d_h_requireAttached_15 : decode c_h_requireAttached 15 = .ok (.invokespecial 138, 3) := by decide +kernel
theorem d_h_requireAttached_18 : decode c_h_requireAttached 18 = .ok (.athrow, 1) := by decide +kernel
theorem d_h_requireAttached_19 : decode c_h_requireAttached 19 = .ok (.return_, 1) := by decide +kernel
theorem d_h_listen_0 : decode c_h_listen 0 = .ok (.aload_n 0, 1) := by decide +kernel
theorem d_h_listen_1 : decode c_h_listen 1 = .ok (.iload_n 1, 1) := by decide +kernel
theorem d_h_listen_2 : decode c_h_listen 2 = .ok (.invokevirtual 127, 3) := by decide +kernel
theorem d_h_listen_5 : decode c_h_listen 5 = .ok (.astore_n 3, 1) := by decide +kernel
theorem d_h_listen_6 : decode c_h_listen 6 = .ok (.iload_n 2, 1) := by decide +kernel
theorem d_h_listen_7 : decode c_h_listen 7 = .ok (.invokestatic 274, 3) := by decide +kernel
theorem d_h_listen_10 : decode c_h_listen 10 = .ok (.aload_n 3, 1) := by decide +kernel
theorem d_h_listen_11 : decode c_h_listen 11 = .ok (.invokestatic 203, 3) := by decide +kernel
theorem d_h_listen_14 : decode c_h_listen 14 = .ok (.aload_n 3, 1) := by decide +kernel
theorem d_h_listen_15 : decode c_h_listen 15 = .ok (.iload_n 2, 1) := by decide +kernel
theorem d_h_listen_16 : decode c_h_listen 16 = .ok (.invokevirtual 277, 3) := by decide +kernel
theorem d_h_listen_19 : decode c_h_listen 19 = .ok (.ifCond .eq 14, 3) := by decide +kernel
theorem d_h_listen_22 : decode c_h_listen 22 = .ok (.new 134, 3) := by decide +kernel
theorem d_h_listen_25 : decode c_h_listen 25 = .ok (.dup, 1) := by decide +kernel
theorem d_h_listen_26 : decode c_h_listen 26 = .ok (.ldc_w 281, 3) := by decide +kernel
theorem d_h_listen_29 : decode c_h_listen 29 = .ok (.invokespecial 138, 3) := by decide +kernel
theorem d_h_listen_32 : decode c_h_listen 32 = .ok (.athrow, 1) := by decide +kernel
theorem d_h_listen_33 : decode c_h_listen 33 = .ok (.iload_n 2, 1) := by decide +kernel
theorem d_h_listen_34 : decode c_h_listen 34 = .ok (.iconst 4, 1) := by decide +kernel
theorem d_h_listen_35 : decode c_h_listen 35 = .ok (.if_icmp .ge 8, 3) := by decide +kernel
theorem d_h_listen_38 : decode c_h_listen 38 = .ok (.aload_n 3, 1) := by decide +kernel
theorem d_h_listen_39 : decode c_h_listen 39 = .ok (.iconst 0, 1) := by decide +kernel
theorem d_h_listen_40 : decode c_h_listen 40 = .ok (.invokestatic 245, 3) := by decide +kernel
theorem d_h_listen_43 : decode c_h_listen 43 = .ok (.aload_n 3, 1) := by decide +kernel
theorem d_h_listen_44 : decode c_h_listen 44 = .ok (.dup, 1) := by decide +kernel
theorem d_h_listen_45 : decode c_h_listen 45 = .ok (.getfield 283, 3) := by decide +kernel
theorem d_h_listen_48 : decode c_h_listen 48 = .ok (.iconst 1, 1) := by decide +kernel
theorem d_h_listen_49 : decode c_h_listen 49 = .ok (.iload_n 2, 1) := by decide +kernel
theorem d_h_listen_50 : decode c_h_listen 50 = .ok (.ishl, 1) := by decide +kernel
theorem d_h_listen_51 : decode c_h_listen 51 = .ok (.ior, 1) := by decide +kernel
theorem d_h_listen_52 : decode c_h_listen 52 = .ok (.putfield 283, 3) := by decide +kernel
theorem d_h_listen_55 : decode c_h_listen 55 = .ok (.aload_n 3, 1) := by decide +kernel
theorem d_h_listen_56 : decode c_h_listen 56 = .ok (.getfield 283, 3) := by decide +kernel
theorem d_h_listen_59 : decode c_h_listen 59 = .ok (.invokestatic 286, 3) := by decide +kernel
theorem d_h_listen_62 : decode c_h_listen 62 = .ok (.ireturn, 1) := by decide +kernel
theorem d_h_requirePort_0 : decode c_h_requirePort 0 = .ok (.iload_n 0, 1) := by decide +kernel
theorem d_h_requirePort_1 : decode c_h_requirePort 1 = .ok (.ifCond .lt 9, 3) := by decide +kernel
theorem d_h_requirePort_4 : decode c_h_requirePort 4 = .ok (.iload_n 0, 1) := by decide +kernel
theorem d_h_requirePort_5 : decode c_h_requirePort 5 = .ok (.bipush 16, 2) := by decide +kernel
theorem d_h_requirePort_7 : decode c_h_requirePort 7 = .ok (.if_icmp .lt 14, 3) := by decide +kernel
theorem d_h_requirePort_10 : decode c_h_requirePort 10 = .ok (.new 96, 3) := by decide +kernel
theorem d_h_requirePort_13 : decode c_h_requirePort 13 = .ok (.dup, 1) := by decide +kernel
theorem d_h_requirePort_14 : decode c_h_requirePort 14 = .ok (.ldc_w 337, 3) := by decide +kernel
theorem d_h_requirePort_17 : decode c_h_requirePort 17 = .ok (.invokespecial 100, 3) := by decide +kernel
theorem d_h_requirePort_20 : decode c_h_requirePort 20 = .ok (.athrow, 1) := by decide +kernel
theorem d_h_requirePort_21 : decode c_h_requirePort 21 = .ok (.return_, 1) := by decide +kernel
theorem d_c_listensOn_0 : decode c_c_listensOn 0 = .ok (.aload_n 0, 1) := by decide +kernel
theorem d_c_listensOn_1 : decode c_c_listensOn 1 = .ok (.getfield 48, 3) := by decide +kernel
theorem d_c_listensOn_4 : decode c_c_listensOn 4 = .ok (.iconst 1, 1) := by decide +kernel
theorem d_c_listensOn_5 : decode c_c_listensOn 5 = .ok (.iload_n 1, 1) := by decide +kernel
theorem d_c_listensOn_6 : decode c_c_listensOn 6 = .ok (.ishl, 1) := by decide +kernel
theorem d_c_listensOn_7 : decode c_c_listensOn 7 = .ok (.iand, 1) := by decide +kernel
theorem d_c_listensOn_8 : decode c_c_listensOn 8 = .ok (.ifCond .eq 7, 3) := by decide +kernel
theorem d_c_listensOn_11 : decode c_c_listensOn 11 = .ok (.iconst 1, 1) := by decide +kernel
theorem d_c_listensOn_12 : decode c_c_listensOn 12 = .ok (.goto 4, 3) := by decide +kernel
theorem d_c_listensOn_15 : decode c_c_listensOn 15 = .ok (.iconst 0, 1) := by decide +kernel
theorem d_c_listensOn_16 : decode c_c_listensOn 16 = .ok (.ireturn, 1) := by decide +kernel
theorem d_h_requireHostPort_0 : decode c_h_requireHostPort 0 = .ok (.iload_n 0, 1) := by decide +kernel
theorem d_h_requireHostPort_1 : decode c_h_requireHostPort 1 = .ok (.ifCond .lt 9, 3) := by decide +kernel
theorem d_h_requireHostPort_4 : decode c_h_requireHostPort 4 = .ok (.iload_n 0, 1) := by decide +kernel
theorem d_h_requireHostPort_5 : decode c_h_requireHostPort 5 = .ok (.bipush 32, 2) := by decide +kernel
theorem d_h_requireHostPort_7 : decode c_h_requireHostPort 7 = .ok (.if_icmp .lt 14, 3) := by decide +kernel
theorem d_h_requireHostPort_10 : decode c_h_requireHostPort 10 = .ok (.new 96, 3) := by decide +kernel
theorem d_h_requireHostPort_13 : decode c_h_requireHostPort 13 = .ok (.dup, 1) := by decide +kernel
theorem d_h_requireHostPort_14 : decode c_h_requireHostPort 14 = .ok (.ldc_w 339, 3) := by decide +kernel
theorem d_h_requireHostPort_17 : decode c_h_requireHostPort 17 = .ok (.invokespecial 100, 3) := by decide +kernel
theorem d_h_requireHostPort_20 : decode c_h_requireHostPort 20 = .ok (.athrow, 1) := by decide +kernel
theorem d_h_requireHostPort_21 : decode c_h_requireHostPort 21 = .ok (.return_, 1) := by decide +kernel
theorem d_h_connect_0 : decode c_h_connect 0 = .ok (.aload_n 0, 1) := by decide +kernel
theorem d_h_connect_1 : decode c_h_connect 1 = .ok (.iload_n 1, 1) := by decide +kernel
theorem d_h_connect_2 : decode c_h_connect 2 = .ok (.invokevirtual 127, 3) := by decide +kernel
theorem d_h_connect_5 : decode c_h_connect 5 = .ok (.astore 4, 2) := by decide +kernel
theorem d_h_connect_7 : decode c_h_connect 7 = .ok (.iload_n 3, 1) := by decide +kernel
theorem d_h_connect_8 : decode c_h_connect 8 = .ok (.invokestatic 274, 3) := by decide +kernel
theorem d_h_connect_11 : decode c_h_connect 11 = .ok (.iload_n 2, 1) := by decide +kernel
theorem d_h_connect_12 : decode c_h_connect 12 = .ok (.bipush 6, 2) := by decide +kernel
theorem d_h_connect_14 : decode c_h_connect 14 = .ok (.invokestatic 71, 3) := by decide +kernel
theorem d_h_connect_17 : decode c_h_connect 17 = .ok (.aload 4, 2) := by decide +kernel
theorem d_h_connect_19 : decode c_h_connect 19 = .ok (.invokestatic 203, 3) := by decide +kernel
theorem d_h_connect_22 : decode c_h_connect 22 = .ok (.aload 4, 2) := by decide +kernel
theorem d_h_connect_24 : decode c_h_connect 24 = .ok (.invokestatic 268, 3) := by decide +kernel
theorem d_h_connect_27 : decode c_h_connect 27 = .ok (.aload_n 0, 1) := by decide +kernel
theorem d_h_connect_28 : decode c_h_connect 28 = .ok (.aload 4, 2) := by decide +kernel
theorem d_h_connect_30 : decode c_h_connect 30 = .ok (.getfield 260, 3) := by decide +kernel
theorem d_h_connect_33 : decode c_h_connect 33 = .ok (.iload_n 2, 1) := by decide +kernel
theorem d_h_connect_34 : decode c_h_connect 34 = .ok (.invokevirtual 301, 3) := by decide +kernel
theorem d_h_connect_37 : decode c_h_connect 37 = .ok (.astore 5, 2) := by decide +kernel
theorem d_h_connect_39 : decode c_h_connect 39 = .ok (.aload 5, 2) := by decide +kernel
theorem d_h_connect_41 : decode c_h_connect 41 = .ok (.ifnull 20, 3) := by decide +kernel
theorem d_h_connect_44 : decode c_h_connect 44 = .ok (.aload 5, 2) := by decide +kernel
theorem d_h_connect_46 : decode c_h_connect 46 = .ok (.getfield 191, 3) := by decide +kernel
theorem d_h_connect_49 : decode c_h_connect 49 = .ok (.ifCond .ne 12, 3) := by decide +kernel
theorem d_h_connect_52 : decode c_h_connect 52 = .ok (.aload 5, 2) := by decide +kernel
theorem d_h_connect_54 : decode c_h_connect 54 = .ok (.iload_n 3, 1) := by decide +kernel
theorem d_h_connect_55 : decode c_h_connect 55 = .ok (.invokevirtual 277, 3) := by decide +kernel
theorem d_h_connect_58 : decode c_h_connect 58 = .ok (.ifCond .ne 5, 3) := by decide +kernel
theorem d_h_connect_61 : decode c_h_connect 61 = .ok (.iconst (-1), 1) := by decide +kernel
theorem d_h_connect_62 : decode c_h_connect 62 = .ok (.ireturn, 1) := by decide +kernel
theorem d_h_connect_63 : decode c_h_connect 63 = .ok (.aload 5, 2) := by decide +kernel
theorem d_h_connect_65 : decode c_h_connect 65 = .ok (.getfield 185, 3) := by decide +kernel
theorem d_h_connect_68 : decode c_h_connect 68 = .ok (.ireturn, 1) := by decide +kernel
theorem d_h_connectHost_0 : decode c_h_connectHost 0 = .ok (.iload_n 1, 1) := by decide +kernel
theorem d_h_connectHost_1 : decode c_h_connectHost 1 = .ok (.invokestatic 291, 3) := by decide +kernel
theorem d_h_connectHost_4 : decode c_h_connectHost 4 = .ok (.aload_n 0, 1) := by decide +kernel
theorem d_h_connectHost_5 : decode c_h_connectHost 5 = .ok (.getfield 27, 3) := by decide +kernel
theorem d_h_connectHost_8 : decode c_h_connectHost 8 = .ok (.iload_n 1, 1) := by decide +kernel
theorem d_h_connectHost_9 : decode c_h_connectHost 9 = .ok (.aaload, 1) := by decide +kernel
theorem d_h_connectHost_10 : decode c_h_connectHost 10 = .ok (.astore_n 2, 1) := by decide +kernel
theorem d_h_connectHost_11 : decode c_h_connectHost 11 = .ok (.aload_n 2, 1) := by decide +kernel
theorem d_h_connectHost_12 : decode c_h_connectHost 12 = .ok (.ifnull 17, 3) := by decide +kernel
theorem d_h_connectHost_15 : decode c_h_connectHost 15 = .ok (.aload_n 2, 1) := by decide +kernel
theorem d_h_connectHost_16 : decode c_h_connectHost 16 = .ok (.getfield 191, 3) := by decide +kernel
theorem d_h_connectHost_19 : decode c_h_connectHost 19 = .ok (.ifCond .ne 10, 3) := by decide +kernel
theorem d_h_connectHost_22 : decode c_h_connectHost 22 = .ok (.aload_n 2, 1) := by decide +kernel
theorem d_h_connectHost_23 : decode c_h_connectHost 23 = .ok (.getfield 185, 3) := by decide +kernel
theorem d_h_connectHost_26 : decode c_h_connectHost 26 = .ok (.goto 4, 3) := by decide +kernel
theorem d_h_connectHost_29 : decode c_h_connectHost 29 = .ok (.iconst (-1), 1) := by decide +kernel
theorem d_h_connectHost_30 : decode c_h_connectHost 30 = .ok (.ireturn, 1) := by decide +kernel
theorem d_h_save_0 : decode c_h_save 0 = .ok (.aload_n 0, 1) := by decide +kernel
theorem d_h_save_1 : decode c_h_save 1 = .ok (.iload_n 1, 1) := by decide +kernel
theorem d_h_save_2 : decode c_h_save 2 = .ok (.invokevirtual 194, 3) := by decide +kernel
theorem d_h_save_5 : decode c_h_save 5 = .ok (.astore_n 2, 1) := by decide +kernel
theorem d_h_save_6 : decode c_h_save 6 = .ok (.aload_n 0, 1) := by decide +kernel
theorem d_h_save_7 : decode c_h_save 7 = .ok (.getfield 22, 3) := by decide +kernel
theorem d_h_save_10 : decode c_h_save 10 = .ok (.invokevirtual 147, 3) := by decide +kernel
theorem d_h_save_13 : decode c_h_save 13 = .ok (.iconst 5, 1) := by decide +kernel
theorem d_h_save_14 : decode c_h_save 14 = .ok (.if_icmp .lt 14, 3) := by decide +kernel
theorem d_h_save_17 : decode c_h_save 17 = .ok (.new 134, 3) := by decide +kernel
theorem d_h_save_20 : decode c_h_save 20 = .ok (.dup, 1) := by decide +kernel
theorem d_h_save_21 : decode c_h_save 21 = .ok (.ldc_w 305, 3) := by decide +kernel
theorem d_h_save_24 : decode c_h_save 24 = .ok (.invokespecial 138, 3) := by decide +kernel
theorem d_h_save_27 : decode c_h_save 27 = .ok (.athrow, 1) := by decide +kernel
theorem d_h_save_28 : decode c_h_save 28 = .ok (.aload_n 0, 1) := by decide +kernel
theorem d_h_save_29 : decode c_h_save 29 = .ok (.getfield 22, 3) := by decide +kernel
theorem d_h_save_32 : decode c_h_save 32 = .ok (.new 307, 3) := by decide +kernel
theorem d_h_save_35 : decode c_h_save 35 = .ok (.dup, 1) := by decide +kernel
theorem d_h_save_36 : decode c_h_save 36 = .ok (.aload_n 2, 1) := by decide +kernel
theorem d_h_save_37 : decode c_h_save 37 = .ok (.invokespecial 309, 3) := by decide +kernel
theorem d_h_save_40 : decode c_h_save 40 = .ok (.invokevirtual 43, 3) := by decide +kernel
theorem d_h_save_43 : decode c_h_save 43 = .ok (.pop, 1) := by decide +kernel
theorem d_h_save_44 : decode c_h_save 44 = .ok (.aload_n 0, 1) := by decide +kernel
theorem d_h_save_45 : decode c_h_save 45 = .ok (.getfield 22, 3) := by decide +kernel
theorem d_h_save_48 : decode c_h_save 48 = .ok (.invokevirtual 147, 3) := by decide +kernel
theorem d_h_save_51 : decode c_h_save 51 = .ok (.iconst 1, 1) := by decide +kernel
theorem d_h_save_52 : decode c_h_save 52 = .ok (.isub, 1) := by decide +kernel
theorem d_h_save_53 : decode c_h_save 53 = .ok (.ireturn, 1) := by decide +kernel
theorem d_k_init_0 : decode c_k_init 0 = .ok (.aload_n 0, 1) := by decide +kernel
theorem d_k_init_1 : decode c_k_init 1 = .ok (.invokespecial 1, 3) := by decide +kernel
theorem d_k_init_4 : decode c_k_init 4 = .ok (.aload_n 0, 1) := by decide +kernel
theorem d_k_init_5 : decode c_k_init 5 = .ok (.aload_n 1, 1) := by decide +kernel
theorem d_k_init_6 : decode c_k_init 6 = .ok (.getfield 7, 3) := by decide +kernel
theorem d_k_init_9 : decode c_k_init 9 = .ok (.invokevirtual 13, 3) := by decide +kernel
theorem d_k_init_12 : decode c_k_init 12 = .ok (.putfield 19, 3) := by decide +kernel
theorem d_k_init_15 : decode c_k_init 15 = .ok (.aload_n 0, 1) := by decide +kernel
theorem d_k_init_16 : decode c_k_init 16 = .ok (.aload_n 1, 1) := by decide +kernel
theorem d_k_init_17 : decode c_k_init 17 = .ok (.getfield 22, 3) := by decide +kernel
theorem d_k_init_20 : decode c_k_init 20 = .ok (.putfield 26, 3) := by decide +kernel
theorem d_k_init_23 : decode c_k_init 23 = .ok (.aload_n 0, 1) := by decide +kernel
theorem d_k_init_24 : decode c_k_init 24 = .ok (.aload_n 1, 1) := by decide +kernel
theorem d_k_init_25 : decode c_k_init 25 = .ok (.getfield 27, 3) := by decide +kernel
theorem d_k_init_28 : decode c_k_init 28 = .ok (.putfield 30, 3) := by decide +kernel
theorem d_k_init_31 : decode c_k_init 31 = .ok (.aload_n 0, 1) := by decide +kernel
theorem d_k_init_32 : decode c_k_init 32 = .ok (.aload_n 1, 1) := by decide +kernel
theorem d_k_init_33 : decode c_k_init 33 = .ok (.getfield 31, 3) := by decide +kernel
theorem d_k_init_36 : decode c_k_init 36 = .ok (.putfield 34, 3) := by decide +kernel
theorem d_k_init_39 : decode c_k_init 39 = .ok (.aload_n 0, 1) := by decide +kernel
theorem d_k_init_40 : decode c_k_init 40 = .ok (.aload_n 1, 1) := by decide +kernel
theorem d_k_init_41 : decode c_k_init 41 = .ok (.getfield 35, 3) := by decide +kernel
theorem d_k_init_44 : decode c_k_init 44 = .ok (.putfield 38, 3) := by decide +kernel
theorem d_k_init_47 : decode c_k_init 47 = .ok (.aload_n 0, 1) := by decide +kernel
theorem d_k_init_48 : decode c_k_init 48 = .ok (.aload_n 1, 1) := by decide +kernel
theorem d_k_init_49 : decode c_k_init 49 = .ok (.getfield 39, 3) := by decide +kernel
theorem d_k_init_52 : decode c_k_init 52 = .ok (.putfield 42, 3) := by decide +kernel
theorem d_k_init_55 : decode c_k_init 55 = .ok (.aload_n 0, 1) := by decide +kernel
theorem d_k_init_56 : decode c_k_init 56 = .ok (.aload_n 1, 1) := by decide +kernel
theorem d_k_init_57 : decode c_k_init 57 = .ok (.getfield 43, 3) := by decide +kernel
theorem d_k_init_60 : decode c_k_init 60 = .ok (.putfield 46, 3) := by decide +kernel
theorem d_k_init_63 : decode c_k_init 63 = .ok (.return_, 1) := by decide +kernel
theorem d_h_restore_0 : decode c_h_restore 0 = .ok (.iload_n 1, 1) := by decide +kernel
theorem d_h_restore_1 : decode c_h_restore 1 = .ok (.ifCond .lt 14, 3) := by decide +kernel
theorem d_h_restore_4 : decode c_h_restore 4 = .ok (.iload_n 1, 1) := by decide +kernel
theorem d_h_restore_5 : decode c_h_restore 5 = .ok (.aload_n 0, 1) := by decide +kernel
theorem d_h_restore_6 : decode c_h_restore 6 = .ok (.getfield 22, 3) := by decide +kernel
theorem d_h_restore_9 : decode c_h_restore 9 = .ok (.invokevirtual 147, 3) := by decide +kernel
theorem d_h_restore_12 : decode c_h_restore 12 = .ok (.if_icmp .lt 14, 3) := by decide +kernel
theorem d_h_restore_15 : decode c_h_restore 15 = .ok (.new 96, 3) := by decide +kernel
theorem d_h_restore_18 : decode c_h_restore 18 = .ok (.dup, 1) := by decide +kernel
theorem d_h_restore_19 : decode c_h_restore 19 = .ok (.ldc_w 311, 3) := by decide +kernel
theorem d_h_restore_22 : decode c_h_restore 22 = .ok (.invokespecial 100, 3) := by decide +kernel
theorem d_h_restore_25 : decode c_h_restore 25 = .ok (.athrow, 1) := by decide +kernel
theorem d_h_restore_26 : decode c_h_restore 26 = .ok (.aload_n 0, 1) := by decide +kernel
theorem d_h_restore_27 : decode c_h_restore 27 = .ok (.getfield 22, 3) := by decide +kernel
theorem d_h_restore_30 : decode c_h_restore 30 = .ok (.iload_n 1, 1) := by decide +kernel
theorem d_h_restore_31 : decode c_h_restore 31 = .ok (.invokevirtual 226, 3) := by decide +kernel
theorem d_h_restore_34 : decode c_h_restore 34 = .ok (.checkcast 307, 3) := by decide +kernel
theorem d_h_restore_37 : decode c_h_restore 37 = .ok (.astore_n 3, 1) := by decide +kernel
theorem d_h_restore_38 : decode c_h_restore 38 = .ok (.aload_n 0, 1) := by decide +kernel
theorem d_h_restore_39 : decode c_h_restore 39 = .ok (.iload_n 2, 1) := by decide +kernel
theorem d_h_restore_40 : decode c_h_restore 40 = .ok (.invokevirtual 143, 3) := by decide +kernel
theorem d_h_restore_43 : decode c_h_restore 43 = .ok (.astore 4, 2) := by decide +kernel
theorem d_h_restore_45 : decode c_h_restore 45 = .ok (.aload_n 0, 1) := by decide +kernel
theorem d_h_restore_46 : decode c_h_restore 46 = .ok (.invokevirtual 165, 3) := by decide +kernel
theorem d_h_restore_49 : decode c_h_restore 49 = .ok (.aload 4, 2) := by decide +kernel
theorem d_h_restore_51 : decode c_h_restore 51 = .ok (.aload_n 3, 1) := by decide +kernel
theorem d_h_restore_52 : decode c_h_restore 52 = .ok (.getfield 313, 3) := by decide +kernel
theorem d_h_restore_55 : decode c_h_restore 55 = .ok (.aload_n 3, 1) := by decide +kernel
theorem d_h_restore_56 : decode c_h_restore 56 = .ok (.getfield 314, 3) := by decide +kernel
theorem d_h_restore_59 : decode c_h_restore 59 = .ok (.invokestatic 168, 3) := by decide +kernel
theorem d_h_restore_62 : decode c_h_restore 62 = .ok (.aload_n 0, 1) := by decide +kernel
theorem d_h_restore_63 : decode c_h_restore 63 = .ok (.aload 4, 2) := by decide +kernel
theorem d_h_restore_65 : decode c_h_restore 65 = .ok (.aload_n 3, 1) := by decide +kernel
theorem d_h_restore_66 : decode c_h_restore 66 = .ok (.getfield 315, 3) := by decide +kernel
theorem d_h_restore_69 : decode c_h_restore 69 = .ok (.invokevirtual 139, 3) := by decide +kernel
theorem d_h_restore_72 : decode c_h_restore 72 = .ok (.aload_n 3, 1) := by decide +kernel
theorem d_h_restore_73 : decode c_h_restore 73 = .ok (.getfield 316, 3) := by decide +kernel
theorem d_h_restore_76 : decode c_h_restore 76 = .ok (.invokevirtual 172, 3) := by decide +kernel
theorem d_h_restore_79 : decode c_h_restore 79 = .ok (.astore 5, 2) := by decide +kernel
theorem d_h_restore_81 : decode c_h_restore 81 = .ok (.aload 5, 2) := by decide +kernel
theorem d_h_restore_83 : decode c_h_restore 83 = .ok (.aload_n 3, 1) := by decide +kernel
theorem d_h_restore_84 : decode c_h_restore 84 = .ok (.getfield 319, 3) := by decide +kernel
theorem d_h_restore_87 : decode c_h_restore 87 = .ok (.putfield 176, 3) := by decide +kernel
theorem d_h_restore_90 : decode c_h_restore 90 = .ok (.aload 5, 2) := by decide +kernel
theorem d_h_restore_92 : decode c_h_restore 92 = .ok (.aload_n 3, 1) := by decide +kernel
theorem d_h_restore_93 : decode c_h_restore 93 = .ok (.getfield 320, 3) := by decide +kernel
theorem d_h_restore_96 : decode c_h_restore 96 = .ok (.putfield 179, 3) := by decide +kernel
theorem d_h_restore_99 : decode c_h_restore 99 = .ok (.aload 5, 2) := by decide +kernel
theorem d_h_restore_101 : decode c_h_restore 101 = .ok (.aload_n 3, 1) := by decide +kernel
theorem d_h_restore_102 : decode c_h_restore 102 = .ok (.getfield 321, 3) := by decide +kernel
theorem d_h_restore_105 : decode c_h_restore 105 = .ok (.putfield 283, 3) := by decide +kernel
theorem d_h_restore_108 : decode c_h_restore 108 = .ok (.aload 5, 2) := by decide +kernel
theorem d_h_restore_110 : decode c_h_restore 110 = .ok (.aload_n 3, 1) := by decide +kernel
theorem d_h_restore_111 : decode c_h_restore 111 = .ok (.getfield 313, 3) := by decide +kernel
theorem d_h_restore_114 : decode c_h_restore 114 = .ok (.aload_n 3, 1) := by decide +kernel
theorem d_h_restore_115 : decode c_h_restore 115 = .ok (.getfield 314, 3) := by decide +kernel
theorem d_h_restore_118 : decode c_h_restore 118 = .ok (.invokevirtual 182, 3) := by decide +kernel
theorem d_h_restore_121 : decode c_h_restore 121 = .ok (.aload 5, 2) := by decide +kernel
theorem d_h_restore_123 : decode c_h_restore 123 = .ok (.getfield 185, 3) := by decide +kernel
theorem d_h_restore_126 : decode c_h_restore 126 = .ok (.ireturn, 1) := by decide +kernel
theorem d_h_stateOf_0 : decode c_h_stateOf 0 = .ok (.aload_n 0, 1) := by decide +kernel
theorem d_h_stateOf_1 : decode c_h_stateOf 1 = .ok (.iload_n 1, 1) := by decide +kernel
theorem d_h_stateOf_2 : decode c_h_stateOf 2 = .ok (.invokevirtual 127, 3) := by decide +kernel
theorem d_h_stateOf_5 : decode c_h_stateOf 5 = .ok (.getfield 191, 3) := by decide +kernel
theorem d_h_stateOf_8 : decode c_h_stateOf 8 = .ok (.ireturn, 1) := by decide +kernel
theorem d_h_memoryOf_0 : decode c_h_memoryOf 0 = .ok (.aload_n 0, 1) := by decide +kernel
theorem d_h_memoryOf_1 : decode c_h_memoryOf 1 = .ok (.iload_n 1, 1) := by decide +kernel
theorem d_h_memoryOf_2 : decode c_h_memoryOf 2 = .ok (.invokevirtual 127, 3) := by decide +kernel
theorem d_h_memoryOf_5 : decode c_h_memoryOf 5 = .ok (.getfield 211, 3) := by decide +kernel
theorem d_h_memoryOf_8 : decode c_h_memoryOf 8 = .ok (.ireturn, 1) := by decide +kernel
theorem d_h_timeOf_0 : decode c_h_timeOf 0 = .ok (.aload_n 0, 1) := by decide +kernel
theorem d_h_timeOf_1 : decode c_h_timeOf 1 = .ok (.iload_n 1, 1) := by decide +kernel
theorem d_h_timeOf_2 : decode c_h_timeOf 2 = .ok (.invokevirtual 127, 3) := by decide +kernel
theorem d_h_timeOf_5 : decode c_h_timeOf 5 = .ok (.getfield 322, 3) := by decide +kernel
theorem d_h_timeOf_8 : decode c_h_timeOf 8 = .ok (.ireturn, 1) := by decide +kernel
theorem d_h_capabilitiesOf_0 : decode c_h_capabilitiesOf 0 = .ok (.aload_n 0, 1) := by decide +kernel
theorem d_h_capabilitiesOf_1 : decode c_h_capabilitiesOf 1 = .ok (.iload_n 1, 1) := by decide +kernel
theorem d_h_capabilitiesOf_2 : decode c_h_capabilitiesOf 2 = .ok (.invokevirtual 127, 3) := by decide +kernel
theorem d_h_capabilitiesOf_5 : decode c_h_capabilitiesOf 5 = .ok (.astore_n 2, 1) := by decide +kernel
theorem d_h_capabilitiesOf_6 : decode c_h_capabilitiesOf 6 = .ok (.bipush 16, 2) := by decide +kernel
theorem d_h_capabilitiesOf_8 : decode c_h_capabilitiesOf 8 = .ok (.aload_n 2, 1) := by decide +kernel
theorem d_h_capabilitiesOf_9 : decode c_h_capabilitiesOf 9 = .ok (.getfield 176, 3) := by decide +kernel
theorem d_h_capabilitiesOf_12 : decode c_h_capabilitiesOf 12 = .ok (.imul, 1) := by decide +kernel
theorem d_h_capabilitiesOf_13 : decode c_h_capabilitiesOf 13 = .ok (.aload_n 2, 1) := by decide +kernel
theorem d_h_capabilitiesOf_14 : decode c_h_capabilitiesOf 14 = .ok (.getfield 179, 3) := by decide +kernel
theorem d_h_capabilitiesOf_17 : decode c_h_capabilitiesOf 17 = .ok (.iadd, 1) := by decide +kernel
theorem d_h_capabilitiesOf_18 : decode c_h_capabilitiesOf 18 = .ok (.ireturn, 1) := by decide +kernel
theorem d_h_addressOf_0 : decode c_h_addressOf 0 = .ok (.aload_n 0, 1) := by decide +kernel
theorem d_h_addressOf_1 : decode c_h_addressOf 1 = .ok (.iload_n 1, 1) := by decide +kernel
theorem d_h_addressOf_2 : decode c_h_addressOf 2 = .ok (.invokevirtual 127, 3) := by decide +kernel
theorem d_h_addressOf_5 : decode c_h_addressOf 5 = .ok (.astore_n 2, 1) := by decide +kernel
theorem d_h_addressOf_6 : decode c_h_addressOf 6 = .ok (.aload_n 2, 1) := by decide +kernel
theorem d_h_addressOf_7 : decode c_h_addressOf 7 = .ok (.getfield 260, 3) := by decide +kernel
theorem d_h_addressOf_10 : decode c_h_addressOf 10 = .ok (.iconst (-1), 1) := by decide +kernel
theorem d_h_addressOf_11 : decode c_h_addressOf 11 = .ok (.if_icmp .ne 7, 3) := by decide +kernel
theorem d_h_addressOf_14 : decode c_h_addressOf 14 = .ok (.iconst (-1), 1) := by decide +kernel
theorem d_h_addressOf_15 : decode c_h_addressOf 15 = .ok (.goto 15, 3) := by decide +kernel
theorem d_h_addressOf_18 : decode c_h_addressOf 18 = .ok (.bipush 10, 2) := by decide +kernel
theorem d_h_addressOf_20 : decode c_h_addressOf 20 = .ok (.aload_n 2, 1) := by decide +kernel
theorem d_h_addressOf_21 : decode c_h_addressOf 21 = .ok (.getfield 260, 3) := by decide +kernel
theorem d_h_addressOf_24 : decode c_h_addressOf 24 = .ok (.imul, 1) := by decide +kernel
theorem d_h_addressOf_25 : decode c_h_addressOf 25 = .ok (.aload_n 2, 1) := by decide +kernel
theorem d_h_addressOf_26 : decode c_h_addressOf 26 = .ok (.getfield 265, 3) := by decide +kernel
theorem d_h_addressOf_29 : decode c_h_addressOf 29 = .ok (.iadd, 1) := by decide +kernel
theorem d_h_addressOf_30 : decode c_h_addressOf 30 = .ok (.ireturn, 1) := by decide +kernel
