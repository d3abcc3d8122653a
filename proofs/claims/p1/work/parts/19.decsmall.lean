theorem d_P_init_0 : decode (xMc m_P_init) 0 = .ok (.aload_n 0, 1) := by decide +kernel
theorem d_P_init_1 : decode (xMc m_P_init) 1 = .ok (.invokespecial 3, 3) := by decide +kernel
theorem d_P_init_4 : decode (xMc m_P_init) 4 = .ok (.aload_n 0, 1) := by decide +kernel
theorem d_P_init_5 : decode (xMc m_P_init) 5 = .ok (.iconst 0, 1) := by decide +kernel
theorem d_P_init_6 : decode (xMc m_P_init) 6 = .ok (.putfield 9, 3) := by decide +kernel
theorem d_P_init_9 : decode (xMc m_P_init) 9 = .ok (.aload_n 0, 1) := by decide +kernel
theorem d_P_init_10 : decode (xMc m_P_init) 10 = .ok (.iload_n 1, 1) := by decide +kernel
theorem d_P_init_11 : decode (xMc m_P_init) 11 = .ok (.newarray .int, 2) := by decide +kernel
theorem d_P_init_13 : decode (xMc m_P_init) 13 = .ok (.putfield 15, 3) := by decide +kernel
theorem d_P_init_16 : decode (xMc m_P_init) 16 = .ok (.aload_n 0, 1) := by decide +kernel
theorem d_P_init_17 : decode (xMc m_P_init) 17 = .ok (.iload_n 1, 1) := by decide +kernel
theorem d_P_init_18 : decode (xMc m_P_init) 18 = .ok (.newarray .int, 2) := by decide +kernel
theorem d_P_init_20 : decode (xMc m_P_init) 20 = .ok (.putfield 19, 3) := by decide +kernel
theorem d_P_init_23 : decode (xMc m_P_init) 23 = .ok (.return_, 1) := by decide +kernel
theorem d_J_init_0 : decode (xMc m_J_init) 0 = .ok (.aload_n 0, 1) := by decide +kernel
theorem d_J_init_1 : decode (xMc m_J_init) 1 = .ok (.invokespecial 3, 3) := by decide +kernel
theorem d_J_init_4 : decode (xMc m_J_init) 4 = .ok (.aload_n 0, 1) := by decide +kernel
theorem d_J_init_5 : decode (xMc m_J_init) 5 = .ok (.iconst 3, 1) := by decide +kernel
theorem d_J_init_6 : decode (xMc m_J_init) 6 = .ok (.anewarray 9, 3) := by decide +kernel
theorem d_J_init_9 : decode (xMc m_J_init) 9 = .ok (.putfield 11, 3) := by decide +kernel
theorem d_J_init_12 : decode (xMc m_J_init) 12 = .ok (.aload_n 0, 1) := by decide +kernel
theorem d_J_init_13 : decode (xMc m_J_init) 13 = .ok (.iconst 3, 1) := by decide +kernel
theorem d_J_init_14 : decode (xMc m_J_init) 14 = .ok (.anewarray 9, 3) := by decide +kernel
theorem d_J_init_17 : decode (xMc m_J_init) 17 = .ok (.putfield 17, 3) := by decide +kernel
theorem d_J_init_20 : decode (xMc m_J_init) 20 = .ok (.aload_n 0, 1) := by decide +kernel
theorem d_J_init_21 : decode (xMc m_J_init) 21 = .ok (.iconst 0, 1) := by decide +kernel
theorem d_J_init_22 : decode (xMc m_J_init) 22 = .ok (.putfield 20, 3) := by decide +kernel
theorem d_J_init_25 : decode (xMc m_J_init) 25 = .ok (.aload_n 0, 1) := by decide +kernel
theorem d_J_init_26 : decode (xMc m_J_init) 26 = .ok (.iconst 0, 1) := by decide +kernel
theorem d_J_init_27 : decode (xMc m_J_init) 27 = .ok (.putfield 24, 3) := by decide +kernel
theorem d_J_init_30 : decode (xMc m_J_init) 30 = .ok (.aload_n 0, 1) := by decide +kernel
theorem d_J_init_31 : decode (xMc m_J_init) 31 = .ok (.ldc 27, 2) := by decide +kernel
theorem d_J_init_33 : decode (xMc m_J_init) 33 = .ok (.putfield 28, 3) := by decide +kernel
theorem d_J_init_36 : decode (xMc m_J_init) 36 = .ok (.iconst 0, 1) := by decide +kernel
theorem d_J_init_37 : decode (xMc m_J_init) 37 = .ok (.istore_n 1, 1) := by decide +kernel
theorem d_J_init_38 : decode (xMc m_J_init) 38 = .ok (.iload_n 1, 1) := by decide +kernel
theorem d_J_init_39 : decode (xMc m_J_init) 39 = .ok (.iconst 3, 1) := by decide +kernel
theorem d_J_init_40 : decode (xMc m_J_init) 40 = .ok (.if_icmp .ge 40, 3) := by decide +kernel
theorem d_J_init_43 : decode (xMc m_J_init) 43 = .ok (.aload_n 0, 1) := by decide +kernel
theorem d_J_init_44 : decode (xMc m_J_init) 44 = .ok (.getfield 11, 3) := by decide +kernel
theorem d_J_init_47 : decode (xMc m_J_init) 47 = .ok (.iload_n 1, 1) := by decide +kernel
theorem d_J_init_48 : decode (xMc m_J_init) 48 = .ok (.new 9, 3) := by decide +kernel
theorem d_J_init_51 : decode (xMc m_J_init) 51 = .ok (.dup, 1) := by decide +kernel
theorem d_J_init_52 : decode (xMc m_J_init) 52 = .ok (.sipush 216, 3) := by decide +kernel
theorem d_J_init_55 : decode (xMc m_J_init) 55 = .ok (.invokespecial 31, 3) := by decide +kernel
theorem d_J_init_58 : decode (xMc m_J_init) 58 = .ok (.aastore, 1) := by decide +kernel
theorem d_J_init_59 : decode (xMc m_J_init) 59 = .ok (.aload_n 0, 1) := by decide +kernel
theorem d_J_init_60 : decode (xMc m_J_init) 60 = .ok (.getfield 17, 3) := by decide +kernel
theorem d_J_init_63 : decode (xMc m_J_init) 63 = .ok (.iload_n 1, 1) := by decide +kernel
theorem d_J_init_64 : decode (xMc m_J_init) 64 = .ok (.new 9, 3) := by decide +kernel
theorem d_J_init_67 : decode (xMc m_J_init) 67 = .ok (.dup, 1) := by decide +kernel
theorem d_J_init_68 : decode (xMc m_J_init) 68 = .ok (.bipush 36, 2) := by decide +kernel
theorem d_J_init_70 : decode (xMc m_J_init) 70 = .ok (.invokespecial 31, 3) := by decide +kernel
theorem d_J_init_73 : decode (xMc m_J_init) 73 = .ok (.aastore, 1) := by decide +kernel
theorem d_J_init_74 : decode (xMc m_J_init) 74 = .ok (.iinc 1 1, 3) := by decide +kernel
theorem d_J_init_77 : decode (xMc m_J_init) 77 = .ok (.goto (-39), 3) := by decide +kernel
theorem d_J_init_80 : decode (xMc m_J_init) 80 = .ok (.return_, 1) := by decide +kernel
theorem d_K_init_0 : decode (xMc m_K_init) 0 = .ok (.aload_n 0, 1) := by decide +kernel
theorem d_K_init_1 : decode (xMc m_K_init) 1 = .ok (.invokespecial 3, 3) := by decide +kernel
theorem d_K_init_4 : decode (xMc m_K_init) 4 = .ok (.aload_n 0, 1) := by decide +kernel
theorem d_K_init_5 : decode (xMc m_K_init) 5 = .ok (.iconst 1, 1) := by decide +kernel
theorem d_K_init_6 : decode (xMc m_K_init) 6 = .ok (.putfield 9, 3) := by decide +kernel
theorem d_K_init_9 : decode (xMc m_K_init) 9 = .ok (.aload_n 0, 1) := by decide +kernel
theorem d_K_init_10 : decode (xMc m_K_init) 10 = .ok (.iconst 1, 1) := by decide +kernel
theorem d_K_init_11 : decode (xMc m_K_init) 11 = .ok (.putfield 15, 3) := by decide +kernel
theorem d_K_init_14 : decode (xMc m_K_init) 14 = .ok (.aload_n 0, 1) := by decide +kernel
theorem d_K_init_15 : decode (xMc m_K_init) 15 = .ok (.aconst_null, 1) := by decide +kernel
theorem d_K_init_16 : decode (xMc m_K_init) 16 = .ok (.putfield 19, 3) := by decide +kernel
theorem d_K_init_19 : decode (xMc m_K_init) 19 = .ok (.aload_n 0, 1) := by decide +kernel
theorem d_K_init_20 : decode (xMc m_K_init) 20 = .ok (.iconst 0, 1) := by decide +kernel
theorem d_K_init_21 : decode (xMc m_K_init) 21 = .ok (.putfield 23, 3) := by decide +kernel
theorem d_K_init_24 : decode (xMc m_K_init) 24 = .ok (.aload_n 0, 1) := by decide +kernel
theorem d_K_init_25 : decode (xMc m_K_init) 25 = .ok (.iconst 0, 1) := by decide +kernel
theorem d_K_init_26 : decode (xMc m_K_init) 26 = .ok (.putfield 26, 3) := by decide +kernel
theorem d_K_init_29 : decode (xMc m_K_init) 29 = .ok (.return_, 1) := by decide +kernel
theorem d_C_init_0 : decode (xMc m_C_init) 0 = .ok (.aload_n 0, 1) := by decide +kernel
theorem d_C_init_1 : decode (xMc m_C_init) 1 = .ok (.invokespecial 3, 3) := by decide +kernel
theorem d_C_init_4 : decode (xMc m_C_init) 4 = .ok (.aload_n 0, 1) := by decide +kernel
theorem d_C_init_5 : decode (xMc m_C_init) 5 = .ok (.bipush 6, 2) := by decide +kernel
theorem d_C_init_7 : decode (xMc m_C_init) 7 = .ok (.newarray .int, 2) := by decide +kernel
theorem d_C_init_9 : decode (xMc m_C_init) 9 = .ok (.putfield 9, 3) := by decide +kernel
theorem d_C_init_12 : decode (xMc m_C_init) 12 = .ok (.aload_n 0, 1) := by decide +kernel
theorem d_C_init_13 : decode (xMc m_C_init) 13 = .ok (.iconst 0, 1) := by decide +kernel
theorem d_C_init_14 : decode (xMc m_C_init) 14 = .ok (.putfield 15, 3) := by decide +kernel
theorem d_C_init_17 : decode (xMc m_C_init) 17 = .ok (.return_, 1) := by decide +kernel
theorem d_T_init_0 : decode (xMc m_T_init) 0 = .ok (.aload_n 0, 1) := by decide +kernel
theorem d_T_init_1 : decode (xMc m_T_init) 1 = .ok (.invokespecial 3, 3) := by decide +kernel
theorem d_T_init_4 : decode (xMc m_T_init) 4 = .ok (.aload_n 0, 1) := by decide +kernel
theorem d_T_init_5 : decode (xMc m_T_init) 5 = .ok (.iconst 0, 1) := by decide +kernel
theorem d_T_init_6 : decode (xMc m_T_init) 6 = .ok (.putfield 9, 3) := by decide +kernel
theorem d_T_init_9 : decode (xMc m_T_init) 9 = .ok (.aload_n 0, 1) := by decide +kernel
theorem d_T_init_10 : decode (xMc m_T_init) 10 = .ok (.iconst 0, 1) := by decide +kernel
theorem d_T_init_11 : decode (xMc m_T_init) 11 = .ok (.putfield 15, 3) := by decide +kernel
theorem d_T_init_14 : decode (xMc m_T_init) 14 = .ok (.aload_n 0, 1) := by decide +kernel
theorem d_T_init_15 : decode (xMc m_T_init) 15 = .ok (.iconst (-1), 1) := by decide +kernel
theorem d_T_init_16 : decode (xMc m_T_init) 16 = .ok (.putfield 18, 3) := by decide +kernel
theorem d_T_init_19 : decode (xMc m_T_init) 19 = .ok (.aload_n 0, 1) := by decide +kernel
theorem d_T_init_20 : decode (xMc m_T_init) 20 = .ok (.iload_n 1, 1) := by decide +kernel
theorem d_T_init_21 : decode (xMc m_T_init) 21 = .ok (.putfield 21, 3) := by decide +kernel
theorem d_T_init_24 : decode (xMc m_T_init) 24 = .ok (.aload_n 0, 1) := by decide +kernel
theorem d_T_init_25 : decode (xMc m_T_init) 25 = .ok (.iload_n 2, 1) := by decide +kernel
theorem d_T_init_26 : decode (xMc m_T_init) 26 = .ok (.putfield 25, 3) := by decide +kernel
theorem d_T_init_29 : decode (xMc m_T_init) 29 = .ok (.return_, 1) := by decide +kernel
theorem d_Z_floorMod_0 : decode (xMc m_Z_floorMod) 0 = .ok (.iload_n 0, 1) := by decide +kernel
theorem d_Z_floorMod_1 : decode (xMc m_Z_floorMod) 1 = .ok (.iload_n 1, 1) := by decide +kernel
theorem d_Z_floorMod_2 : decode (xMc m_Z_floorMod) 2 = .ok (.irem, 1) := by decide +kernel
theorem d_Z_floorMod_3 : decode (xMc m_Z_floorMod) 3 = .ok (.istore_n 2, 1) := by decide +kernel
theorem d_Z_floorMod_4 : decode (xMc m_Z_floorMod) 4 = .ok (.iload_n 0, 1) := by decide +kernel
theorem d_Z_floorMod_5 : decode (xMc m_Z_floorMod) 5 = .ok (.iload_n 1, 1) := by decide +kernel
theorem d_Z_floorMod_6 : decode (xMc m_Z_floorMod) 6 = .ok (.ixor, 1) := by decide +kernel
theorem d_Z_floorMod_7 : decode (xMc m_Z_floorMod) 7 = .ok (.ifCond .ge 11, 3) := by decide +kernel
theorem d_Z_floorMod_10 : decode (xMc m_Z_floorMod) 10 = .ok (.iload_n 2, 1) := by decide +kernel
theorem d_Z_floorMod_11 : decode (xMc m_Z_floorMod) 11 = .ok (.ifCond .eq 7, 3) := by decide +kernel
theorem d_Z_floorMod_14 : decode (xMc m_Z_floorMod) 14 = .ok (.iload_n 2, 1) := by decide +kernel
theorem d_Z_floorMod_15 : decode (xMc m_Z_floorMod) 15 = .ok (.iload_n 1, 1) := by decide +kernel
theorem d_Z_floorMod_16 : decode (xMc m_Z_floorMod) 16 = .ok (.iadd, 1) := by decide +kernel
theorem d_Z_floorMod_17 : decode (xMc m_Z_floorMod) 17 = .ok (.ireturn, 1) := by decide +kernel
theorem d_Z_floorMod_18 : decode (xMc m_Z_floorMod) 18 = .ok (.iload_n 2, 1) := by decide +kernel
theorem d_Z_floorMod_19 : decode (xMc m_Z_floorMod) 19 = .ok (.ireturn, 1) := by decide +kernel
theorem d_P_append_0 : decode (xMc m_P_append) 0 = .ok (.aload_n 0, 1) := by decide +kernel
theorem d_P_append_1 : decode (xMc m_P_append) 1 = .ok (.getfield 9, 3) := by decide +kernel
theorem d_P_append_4 : decode (xMc m_P_append) 4 = .ok (.aload_n 0, 1) := by decide +kernel
theorem d_P_append_5 : decode (xMc m_P_append) 5 = .ok (.getfield 15, 3) := by decide +kernel
theorem d_P_append_8 : decode (xMc m_P_append) 8 = .ok (.arraylength, 1) := by decide +kernel
theorem d_P_append_9 : decode (xMc m_P_append) 9 = .ok (.if_icmp .ge 33, 3) := by decide +kernel
theorem d_P_append_12 : decode (xMc m_P_append) 12 = .ok (.aload_n 0, 1) := by decide +kernel
theorem d_P_append_13 : decode (xMc m_P_append) 13 = .ok (.getfield 15, 3) := by decide +kernel
theorem d_P_append_16 : decode (xMc m_P_append) 16 = .ok (.aload_n 0, 1) := by decide +kernel
theorem d_P_append_17 : decode (xMc m_P_append) 17 = .ok (.getfield 9, 3) := by decide +kernel
theorem d_P_append_20 : decode (xMc m_P_append) 20 = .ok (.iload_n 1, 1) := by decide +kernel
theorem d_P_append_21 : decode (xMc m_P_append) 21 = .ok (.iastore, 1) := by decide +kernel
theorem d_P_append_22 : decode (xMc m_P_append) 22 = .ok (.aload_n 0, 1) := by decide +kernel
theorem d_P_append_23 : decode (xMc m_P_append) 23 = .ok (.getfield 19, 3) := by decide +kernel
theorem d_P_append_26 : decode (xMc m_P_append) 26 = .ok (.aload_n 0, 1) := by decide +kernel
theorem d_P_append_27 : decode (xMc m_P_append) 27 = .ok (.getfield 9, 3) := by decide +kernel
theorem d_P_append_30 : decode (xMc m_P_append) 30 = .ok (.iload_n 2, 1) := by decide +kernel
theorem d_P_append_31 : decode (xMc m_P_append) 31 = .ok (.iastore, 1) := by decide +kernel
theorem d_P_append_32 : decode (xMc m_P_append) 32 = .ok (.aload_n 0, 1) := by decide +kernel
theorem d_P_append_33 : decode (xMc m_P_append) 33 = .ok (.dup, 1) := by decide +kernel
theorem d_P_append_34 : decode (xMc m_P_append) 34 = .ok (.getfield 9, 3) := by decide +kernel
theorem d_P_append_37 : decode (xMc m_P_append) 37 = .ok (.iconst 1, 1) := by decide +kernel
theorem d_P_append_38 : decode (xMc m_P_append) 38 = .ok (.iadd, 1) := by decide +kernel
theorem d_P_append_39 : decode (xMc m_P_append) 39 = .ok (.putfield 9, 3) := by decide +kernel
theorem d_P_append_42 : decode (xMc m_P_append) 42 = .ok (.return_, 1) := by decide +kernel
theorem d_Z_abs_0 : decode (xMc m_Z_abs) 0 = .ok (.lload_n 0, 1) := by decide +kernel
theorem d_Z_abs_1 : decode (xMc m_Z_abs) 1 = .ok (.lconst 0, 1) := by decide +kernel
theorem d_Z_abs_2 : decode (xMc m_Z_abs) 2 = .ok (.lcmp, 1) := by decide +kernel
theorem d_Z_abs_3 : decode (xMc m_Z_abs) 3 = .ok (.ifCond .ge 8, 3) := by decide +kernel
theorem d_Z_abs_6 : decode (xMc m_Z_abs) 6 = .ok (.lload_n 0, 1) := by decide +kernel
theorem d_Z_abs_7 : decode (xMc m_Z_abs) 7 = .ok (.lneg, 1) := by decide +kernel
theorem d_Z_abs_8 : decode (xMc m_Z_abs) 8 = .ok (.goto 4, 3) := by decide +kernel
theorem d_Z_abs_11 : decode (xMc m_Z_abs) 11 = .ok (.lload_n 0, 1) := by decide +kernel
theorem d_Z_abs_12 : decode (xMc m_Z_abs) 12 = .ok (.lreturn, 1) := by decide +kernel
theorem d_C_fill_0 : decode (xMc m_C_fill) 0 = .ok (.aload_n 0, 1) := by decide +kernel
theorem d_C_fill_1 : decode (xMc m_C_fill) 1 = .ok (.iload_n 3, 1) := by decide +kernel
theorem d_C_fill_2 : decode (xMc m_C_fill) 2 = .ok (.bipush 6, 2) := by decide +kernel
theorem d_C_fill_4 : decode (xMc m_C_fill) 4 = .ok (.invokestatic 19, 3) := by decide +kernel
theorem d_C_fill_7 : decode (xMc m_C_fill) 7 = .ok (.putfield 15, 3) := by decide +kernel
theorem d_C_fill_10 : decode (xMc m_C_fill) 10 = .ok (.iconst 0, 1) := by decide +kernel
theorem d_C_fill_11 : decode (xMc m_C_fill) 11 = .ok (.istore 5, 2) := by decide +kernel
theorem d_C_fill_13 : decode (xMc m_C_fill) 13 = .ok (.iload 5, 2) := by decide +kernel
theorem d_C_fill_15 : decode (xMc m_C_fill) 15 = .ok (.aload_n 0, 1) := by decide +kernel
theorem d_C_fill_16 : decode (xMc m_C_fill) 16 = .ok (.getfield 15, 3) := by decide +kernel
theorem d_C_fill_19 : decode (xMc m_C_fill) 19 = .ok (.if_icmp .ge 28, 3) := by decide +kernel
theorem d_C_fill_22 : decode (xMc m_C_fill) 22 = .ok (.aload_n 0, 1) := by decide +kernel
theorem d_C_fill_23 : decode (xMc m_C_fill) 23 = .ok (.getfield 9, 3) := by decide +kernel
theorem d_C_fill_26 : decode (xMc m_C_fill) 26 = .ok (.iload 5, 2) := by decide +kernel
theorem d_C_fill_28 : decode (xMc m_C_fill) 28 = .ok (.lload_n 1, 1) := by decide +kernel
theorem d_C_fill_29 : decode (xMc m_C_fill) 29 = .ok (.bipush 8, 2) := by decide +kernel
theorem d_C_fill_31 : decode (xMc m_C_fill) 31 = .ok (.iload 5, 2) := by decide +kernel
theorem d_C_fill_33 : decode (xMc m_C_fill) 33 = .ok (.imul, 1) := by decide +kernel
theorem d_C_fill_34 : decode (xMc m_C_fill) 34 = .ok (.lshr, 1) := by decide +kernel
theorem d_C_fill_35 : decode (xMc m_C_fill) 35 = .ok (.l2i, 1) := by decide +kernel
theorem d_C_fill_36 : decode (xMc m_C_fill) 36 = .ok (.i2b, 1) := by decide +kernel
theorem d_C_fill_37 : decode (xMc m_C_fill) 37 = .ok (.iload 4, 2) := by decide +kernel
theorem d_C_fill_39 : decode (xMc m_C_fill) 39 = .ok (.imul, 1) := by decide +kernel
theorem d_C_fill_40 : decode (xMc m_C_fill) 40 = .ok (.iastore, 1) := by decide +kernel
theorem d_C_fill_41 : decode (xMc m_C_fill) 41 = .ok (.iinc 5 1, 3) := by decide +kernel
theorem d_C_fill_44 : decode (xMc m_C_fill) 44 = .ok (.goto (-31), 3) := by decide +kernel
theorem d_C_fill_47 : decode (xMc m_C_fill) 47 = .ok (.return_, 1) := by decide +kernel
theorem d_Z_min_0 : decode (xMc m_Z_min) 0 = .ok (.iload_n 0, 1) := by decide +kernel
theorem d_Z_min_1 : decode (xMc m_Z_min) 1 = .ok (.iload_n 1, 1) := by decide +kernel
theorem d_Z_min_2 : decode (xMc m_Z_min) 2 = .ok (.if_icmp .gt 7, 3) := by decide +kernel
theorem d_Z_min_5 : decode (xMc m_Z_min) 5 = .ok (.iload_n 0, 1) := by decide +kernel
theorem d_Z_min_6 : decode (xMc m_Z_min) 6 = .ok (.goto 4, 3) := by decide +kernel
theorem d_Z_min_9 : decode (xMc m_Z_min) 9 = .ok (.iload_n 1, 1) := by decide +kernel
theorem d_Z_min_10 : decode (xMc m_Z_min) 10 = .ok (.ireturn, 1) := by decide +kernel
theorem d_K_drop_0 : decode (xMc m_K_drop) 0 = .ok (.aload_n 0, 1) := by decide +kernel
theorem d_K_drop_1 : decode (xMc m_K_drop) 1 = .ok (.aconst_null, 1) := by decide +kernel
theorem d_K_drop_2 : decode (xMc m_K_drop) 2 = .ok (.putfield 19, 3) := by decide +kernel
theorem d_K_drop_5 : decode (xMc m_K_drop) 5 = .ok (.aload_n 0, 1) := by decide +kernel
theorem d_K_drop_6 : decode (xMc m_K_drop) 6 = .ok (.iconst 0, 1) := by decide +kernel
theorem d_K_drop_7 : decode (xMc m_K_drop) 7 = .ok (.putfield 23, 3) := by decide +kernel
theorem d_K_drop_10 : decode (xMc m_K_drop) 10 = .ok (.return_, 1) := by decide +kernel
theorem d_J_prepare_0 : decode (xMc m_J_prepare) 0 = .ok (.aload_n 0, 1) := by decide +kernel
theorem d_J_prepare_1 : decode (xMc m_J_prepare) 1 = .ok (.iload_n 1, 1) := by decide +kernel
theorem d_J_prepare_2 : decode (xMc m_J_prepare) 2 = .ok (.putfield 20, 3) := by decide +kernel
theorem d_J_prepare_5 : decode (xMc m_J_prepare) 5 = .ok (.aload_n 0, 1) := by decide +kernel
theorem d_J_prepare_6 : decode (xMc m_J_prepare) 6 = .ok (.iload_n 2, 1) := by decide +kernel
theorem d_J_prepare_7 : decode (xMc m_J_prepare) 7 = .ok (.putfield 24, 3) := by decide +kernel
theorem d_J_prepare_10 : decode (xMc m_J_prepare) 10 = .ok (.aload_n 0, 1) := by decide +kernel
theorem d_J_prepare_11 : decode (xMc m_J_prepare) 11 = .ok (.iload_n 3, 1) := by decide +kernel
theorem d_J_prepare_12 : decode (xMc m_J_prepare) 12 = .ok (.putfield 28, 3) := by decide +kernel
theorem d_J_prepare_15 : decode (xMc m_J_prepare) 15 = .ok (.iconst 0, 1) := by decide +kernel
theorem d_J_prepare_16 : decode (xMc m_J_prepare) 16 = .ok (.istore 4, 2) := by decide +kernel
theorem d_J_prepare_18 : decode (xMc m_J_prepare) 18 = .ok (.iload 4, 2) := by decide +kernel
theorem d_J_prepare_20 : decode (xMc m_J_prepare) 20 = .ok (.iconst 3, 1) := by decide +kernel
theorem d_J_prepare_21 : decode (xMc m_J_prepare) 21 = .ok (.if_icmp .ge 20, 3) := by decide +kernel
theorem d_J_prepare_24 : decode (xMc m_J_prepare) 24 = .ok (.aload_n 0, 1) := by decide +kernel
theorem d_J_prepare_25 : decode (xMc m_J_prepare) 25 = .ok (.getfield 11, 3) := by decide +kernel
theorem d_J_prepare_28 : decode (xMc m_J_prepare) 28 = .ok (.iload 4, 2) := by decide +kernel
theorem d_J_prepare_30 : decode (xMc m_J_prepare) 30 = .ok (.aaload, 1) := by decide +kernel
theorem d_J_prepare_31 : decode (xMc m_J_prepare) 31 = .ok (.iconst 0, 1) := by decide +kernel
theorem d_J_prepare_32 : decode (xMc m_J_prepare) 32 = .ok (.putfield 34, 3) := by decide +kernel
theorem d_J_prepare_35 : decode (xMc m_J_prepare) 35 = .ok (.iinc 4 1, 3) := by decide +kernel
theorem d_J_prepare_38 : decode (xMc m_J_prepare) 38 = .ok (.goto (-20), 3) := by decide +kernel
theorem d_J_prepare_41 : decode (xMc m_J_prepare) 41 = .ok (.return_, 1) := by decide +kernel
theorem d_J_take_0 : decode (xMc m_J_take) 0 = .ok (.iconst 0, 1) := by decide +kernel
theorem d_J_take_1 : decode (xMc m_J_take) 1 = .ok (.istore_n 2, 1) := by decide +kernel
theorem d_J_take_2 : decode (xMc m_J_take) 2 = .ok (.iload_n 2, 1) := by decide +kernel
theorem d_J_take_3 : decode (xMc m_J_take) 3 = .ok (.aload_n 1, 1) := by decide +kernel
theorem d_J_take_4 : decode (xMc m_J_take) 4 = .ok (.getfield 34, 3) := by decide +kernel
theorem d_J_take_7 : decode (xMc m_J_take) 7 = .ok (.if_icmp .ge 39, 3) := by decide +kernel
theorem d_J_take_10 : decode (xMc m_J_take) 10 = .ok (.aload_n 0, 1) := by decide +kernel
theorem d_J_take_11 : decode (xMc m_J_take) 11 = .ok (.getfield 11, 3) := by decide +kernel
theorem d_J_take_14 : decode (xMc m_J_take) 14 = .ok (.aload_n 0, 1) := by decide +kernel
theorem d_J_take_15 : decode (xMc m_J_take) 15 = .ok (.aload_n 1, 1) := by decide +kernel
theorem d_J_take_16 : decode (xMc m_J_take) 16 = .ok (.getfield 46, 3) := by decide +kernel
theorem d_J_take_19 : decode (xMc m_J_take) 19 = .ok (.iload_n 2, 1) := by decide +kernel
theorem d_J_take_20 : decode (xMc m_J_take) 20 = .ok (.iaload, 1) := by decide +kernel
theorem d_J_take_21 : decode (xMc m_J_take) 21 = .ok (.invokevirtual 50, 3) := by decide +kernel
theorem d_J_take_24 : decode (xMc m_J_take) 24 = .ok (.aaload, 1) := by decide +kernel
theorem d_J_take_25 : decode (xMc m_J_take) 25 = .ok (.aload_n 1, 1) := by decide +kernel
theorem d_J_take_26 : decode (xMc m_J_take) 26 = .ok (.getfield 46, 3) := by decide +kernel
theorem d_J_take_29 : decode (xMc m_J_take) 29 = .ok (.iload_n 2, 1) := by decide +kernel
theorem d_J_take_30 : decode (xMc m_J_take) 30 = .ok (.iaload, 1) := by decide +kernel
theorem d_J_take_31 : decode (xMc m_J_take) 31 = .ok (.aload_n 1, 1) := by decide +kernel
theorem d_J_take_32 : decode (xMc m_J_take) 32 = .ok (.getfield 54, 3) := by decide +kernel
theorem d_J_take_35 : decode (xMc m_J_take) 35 = .ok (.iload_n 2, 1) := by decide +kernel
theorem d_J_take_36 : decode (xMc m_J_take) 36 = .ok (.iaload, 1) := by decide +kernel
theorem d_J_take_37 : decode (xMc m_J_take) 37 = .ok (.invokevirtual 57, 3) := by decide +kernel
theorem d_J_take_40 : decode (xMc m_J_take) 40 = .ok (.iinc 2 1, 3) := by decide +kernel
theorem d_J_take_43 : decode (xMc m_J_take) 43 = .ok (.goto (-41), 3) := by decide +kernel
theorem d_J_take_46 : decode (xMc m_J_take) 46 = .ok (.return_, 1) := by decide +kernel
theorem d_J_partitionOf_0 : decode (xMc m_J_partitionOf) 0 = .ok (.iload_n 1, 1) := by decide +kernel
theorem d_J_partitionOf_1 : decode (xMc m_J_partitionOf) 1 = .ok (.aload_n 0, 1) := by decide +kernel
theorem d_J_partitionOf_2 : decode (xMc m_J_partitionOf) 2 = .ok (.getfield 24, 3) := by decide +kernel
theorem d_J_partitionOf_5 : decode (xMc m_J_partitionOf) 5 = .ok (.iconst 1, 1) := by decide +kernel
theorem d_J_partitionOf_6 : decode (xMc m_J_partitionOf) 6 = .ok (.invokestatic 37, 3) := by decide +kernel
theorem d_J_partitionOf_9 : decode (xMc m_J_partitionOf) 9 = .ok (.invokestatic 43, 3) := by decide +kernel
theorem d_J_partitionOf_12 : decode (xMc m_J_partitionOf) 12 = .ok (.ireturn, 1) := by decide +kernel
theorem d_Z_max_0 : decode (xMc m_Z_max) 0 = .ok (.iload_n 0, 1) := by decide +kernel
theorem d_Z_max_1 : decode (xMc m_Z_max) 1 = .ok (.iload_n 1, 1) := by decide +kernel
theorem d_Z_max_2 : decode (xMc m_Z_max) 2 = .ok (.if_icmp .lt 7, 3) := by decide +kernel
theorem d_Z_max_5 : decode (xMc m_Z_max) 5 = .ok (.iload_n 0, 1) := by decide +kernel
theorem d_Z_max_6 : decode (xMc m_Z_max) 6 = .ok (.goto 4, 3) := by decide +kernel
theorem d_Z_max_9 : decode (xMc m_Z_max) 9 = .ok (.iload_n 1, 1) := by decide +kernel
theorem d_Z_max_10 : decode (xMc m_Z_max) 10 = .ok (.ireturn, 1) := by decide +kernel
theorem d_P_insertByKey_0 : decode (xMc m_P_insertByKey) 0 = .ok (.aload_n 0, 1) := by decide +kernel
theorem d_P_insertByKey_1 : decode (xMc m_P_insertByKey) 1 = .ok (.getfield 9, 3) := by decide +kernel
theorem d_P_insertByKey_4 : decode (xMc m_P_insertByKey) 4 = .ok (.aload_n 0, 1) := by decide +kernel
theorem d_P_insertByKey_5 : decode (xMc m_P_insertByKey) 5 = .ok (.getfield 15, 3) := by decide +kernel
theorem d_P_insertByKey_8 : decode (xMc m_P_insertByKey) 8 = .ok (.arraylength, 1) := by decide +kernel
theorem d_P_insertByKey_9 : decode (xMc m_P_insertByKey) 9 = .ok (.if_icmp .lt 4, 3) := by decide +kernel
theorem d_P_insertByKey_12 : decode (xMc m_P_insertByKey) 12 = .ok (.return_, 1) := by decide +kernel
theorem d_P_insertByKey_13 : decode (xMc m_P_insertByKey) 13 = .ok (.aload_n 0, 1) := by decide +kernel
theorem d_P_insertByKey_14 : decode (xMc m_P_insertByKey) 14 = .ok (.getfield 9, 3) := by decide +kernel
theorem d_P_insertByKey_17 : decode (xMc m_P_insertByKey) 17 = .ok (.istore_n 3, 1) := by decide +kernel
theorem d_P_insertByKey_18 : decode (xMc m_P_insertByKey) 18 = .ok (.iload_n 3, 1) := by decide +kernel
theorem d_P_insertByKey_19 : decode (xMc m_P_insertByKey) 19 = .ok (.ifCond .le 49, 3) := by decide +kernel
theorem d_P_insertByKey_22 : decode (xMc m_P_insertByKey) 22 = .ok (.aload_n 0, 1) := by decide +kernel
theorem d_P_insertByKey_23 : decode (xMc m_P_insertByKey) 23 = .ok (.getfield 15, 3) := by decide +kernel
theorem d_P_insertByKey_26 : decode (xMc m_P_insertByKey) 26 = .ok (.iload_n 3, 1) := by decide +kernel
theorem d_P_insertByKey_27 : decode (xMc m_P_insertByKey) 27 = .ok (.iconst 1, 1) := by decide +kernel
theorem d_P_insertByKey_28 : decode (xMc m_P_insertByKey) 28 = .ok (.isub, 1) := by decide +kernel
theorem d_P_insertByKey_29 : decode (xMc m_P_insertByKey) 29 = .ok (.iaload, 1) := by decide +kernel
theorem d_P_insertByKey_30 : decode (xMc m_P_insertByKey) 30 = .ok (.iload_n 1, 1) := by decide +kernel
theorem d_P_insertByKey_31 : decode (xMc m_P_insertByKey) 31 = .ok (.if_icmp .le 37, 3) := by decide +kernel
theorem d_P_insertByKey_34 : decode (xMc m_P_insertByKey) 34 = .ok (.aload_n 0, 1) := by decide +kernel
theorem d_P_insertByKey_35 : decode (xMc m_P_insertByKey) 35 = .ok (.getfield 15, 3) := by decide +kernel
theorem d_P_insertByKey_38 : decode (xMc m_P_insertByKey) 38 = .ok (.iload_n 3, 1) := by decide +kernel
theorem d_P_insertByKey_39 : decode (xMc m_P_insertByKey) 39 = .ok (.aload_n 0, 1) := by decide +kernel
theorem d_P_insertByKey_40 : decode (xMc m_P_insertByKey) 40 = .ok (.getfield 15, 3) := by decide +kernel
theorem d_P_insertByKey_43 : decode (xMc m_P_insertByKey) 43 = .ok (.iload_n 3, 1) := by decide +kernel
theorem d_P_insertByKey_44 : decode (xMc m_P_insertByKey) 44 = .ok (.iconst 1, 1) := by decide +kernel
theorem d_P_insertByKey_45 : decode (xMc m_P_insertByKey) 45 = .ok (.isub, 1) := by decide +kernel
theorem d_P_insertByKey_46 : decode (xMc m_P_insertByKey) 46 = .ok (.iaload, 1) := by decide +kernel
theorem d_P_insertByKey_47 : decode (xMc m_P_insertByKey) 47 = .ok (.iastore, 1) := by decide +kernel
theorem d_P_insertByKey_48 : decode (xMc m_P_insertByKey) 48 = .ok (.aload_n 0, 1) := by decide +kernel
theorem d_P_insertByKey_49 : decode (xMc m_P_insertByKey) 49 = .ok (.getfield 19, 3) := by decide +kernel
theorem d_P_insertByKey_52 : decode (xMc m_P_insertByKey) 52 = .ok (.iload_n 3, 1) := by decide +kernel
theorem d_P_insertByKey_53 : decode (xMc m_P_insertByKey) 53 = .ok (.aload_n 0, 1) := by decide +kernel
theorem d_P_insertByKey_54 : decode (xMc m_P_insertByKey) 54 = .ok (.getfield 19, 3) := by decide +kernel
theorem d_P_insertByKey_57 : decode (xMc m_P_insertByKey) 57 = .ok (.iload_n 3, 1) := by decide +kernel
theorem d_P_insertByKey_58 : decode (xMc m_P_insertByKey) 58 = .ok (.iconst 1, 1) := by decide +kernel
theorem d_P_insertByKey_59 : decode (xMc m_P_insertByKey) 59 = .ok (.isub, 1) := by decide +kernel
theorem d_P_insertByKey_60 : decode (xMc m_P_insertByKey) 60 = .ok (.iaload, 1) := by decide +kernel
theorem d_P_insertByKey_61 : decode (xMc m_P_insertByKey) 61 = .ok (.iastore, 1) := by decide +kernel
theorem d_P_insertByKey_62 : decode (xMc m_P_insertByKey) 62 = .ok (.iinc 3 (-1), 3) := by decide +kernel
theorem d_P_insertByKey_65 : decode (xMc m_P_insertByKey) 65 = .ok (.goto (-47), 3) := by decide +kernel
theorem d_P_insertByKey_68 : decode (xMc m_P_insertByKey) 68 = .ok (.aload_n 0, 1) := by decide +kernel
theorem d_P_insertByKey_69 : decode (xMc m_P_insertByKey) 69 = .ok (.getfield 15, 3) := by decide +kernel
theorem d_P_insertByKey_72 : decode (xMc m_P_insertByKey) 72 = .ok (.iload_n 3, 1) := by decide +kernel
theorem d_P_insertByKey_73 : decode (xMc m_P_insertByKey) 73 = .ok (.iload_n 1, 1) := by decide +kernel
theorem d_P_insertByKey_74 : decode (xMc m_P_insertByKey) 74 = .ok (.iastore, 1) := by decide +kernel
theorem d_P_insertByKey_75 : decode (xMc m_P_insertByKey) 75 = .ok (.aload_n 0, 1) := by decide +kernel
theorem d_P_insertByKey_76 : decode (xMc m_P_insertByKey) 76 = .ok (.getfield 19, 3) := by decide +kernel
theorem d_P_insertByKey_79 : decode (xMc m_P_insertByKey) 79 = .ok (.iload_n 3, 1) := by decide +kernel
theorem d_P_insertByKey_80 : decode (xMc m_P_insertByKey) 80 = .ok (.iload_n 2, 1) := by decide +kernel
theorem d_P_insertByKey_81 : decode (xMc m_P_insertByKey) 81 = .ok (.iastore, 1) := by decide +kernel
theorem d_P_insertByKey_82 : decode (xMc m_P_insertByKey) 82 = .ok (.aload_n 0, 1) := by decide +kernel
theorem d_P_insertByKey_83 : decode (xMc m_P_insertByKey) 83 = .ok (.dup, 1) := by decide +kernel
theorem d_P_insertByKey_84 : decode (xMc m_P_insertByKey) 84 = .ok (.getfield 9, 3) := by decide +kernel
theorem d_P_insertByKey_87 : decode (xMc m_P_insertByKey) 87 = .ok (.iconst 1, 1) := by decide +kernel
theorem d_P_insertByKey_88 : decode (xMc m_P_insertByKey) 88 = .ok (.iadd, 1) := by decide +kernel
theorem d_P_insertByKey_89 : decode (xMc m_P_insertByKey) 89 = .ok (.putfield 9, 3) := by decide +kernel
theorem d_P_insertByKey_92 : decode (xMc m_P_insertByKey) 92 = .ok (.return_, 1) := by decide +kernel
theorem d_T_renew_0 : decode (xMc m_T_renew) 0 = .ok (.aload_n 0, 1) := by decide +kernel
theorem d_T_renew_1 : decode (xMc m_T_renew) 1 = .ok (.iload_n 1, 1) := by decide +kernel
theorem d_T_renew_2 : decode (xMc m_T_renew) 2 = .ok (.iload_n 2, 1) := by decide +kernel
theorem d_T_renew_3 : decode (xMc m_T_renew) 3 = .ok (.iadd, 1) := by decide +kernel
theorem d_T_renew_4 : decode (xMc m_T_renew) 4 = .ok (.putfield 9, 3) := by decide +kernel
theorem d_T_renew_7 : decode (xMc m_T_renew) 7 = .ok (.aload_n 0, 1) := by decide +kernel
theorem d_T_renew_8 : decode (xMc m_T_renew) 8 = .ok (.iload_n 2, 1) := by decide +kernel
theorem d_T_renew_9 : decode (xMc m_T_renew) 9 = .ok (.putfield 15, 3) := by decide +kernel
theorem d_T_renew_12 : decode (xMc m_T_renew) 12 = .ok (.aload_n 0, 1) := by decide +kernel
theorem d_T_renew_13 : decode (xMc m_T_renew) 13 = .ok (.iconst (-1), 1) := by decide +kernel
theorem d_T_renew_14 : decode (xMc m_T_renew) 14 = .ok (.putfield 18, 3) := by decide +kernel
theorem d_T_renew_17 : decode (xMc m_T_renew) 17 = .ok (.return_, 1) := by decide +kernel
theorem d_T_isDone_0 : decode (xMc m_T_isDone) 0 = .ok (.aload_n 0, 1) := by decide +kernel
theorem d_T_isDone_1 : decode (xMc m_T_isDone) 1 = .ok (.getfield 18, 3) := by decide +kernel
theorem d_T_isDone_4 : decode (xMc m_T_isDone) 4 = .ok (.iconst (-1), 1) := by decide +kernel
theorem d_T_isDone_5 : decode (xMc m_T_isDone) 5 = .ok (.if_icmp .eq 7, 3) := by decide +kernel
theorem d_T_isDone_8 : decode (xMc m_T_isDone) 8 = .ok (.iconst 1, 1) := by decide +kernel
theorem d_T_isDone_9 : decode (xMc m_T_isDone) 9 = .ok (.goto 4, 3) := by decide +kernel
theorem d_T_isDone_12 : decode (xMc m_T_isDone) 12 = .ok (.iconst 0, 1) := by decide +kernel
theorem d_T_isDone_13 : decode (xMc m_T_isDone) 13 = .ok (.ireturn, 1) := by decide +kernel
theorem d_K_take_0 : decode (xMc m_K_take) 0 = .ok (.aload_n 0, 1) := by decide +kernel
theorem d_K_take_1 : decode (xMc m_K_take) 1 = .ok (.aload_n 1, 1) := by decide +kernel
theorem d_K_take_2 : decode (xMc m_K_take) 2 = .ok (.putfield 19, 3) := by decide +kernel
theorem d_K_take_5 : decode (xMc m_K_take) 5 = .ok (.aload_n 0, 1) := by decide +kernel
theorem d_K_take_6 : decode (xMc m_K_take) 6 = .ok (.aload_n 1, 1) := by decide +kernel
theorem d_K_take_7 : decode (xMc m_K_take) 7 = .ok (.getfield 29, 3) := by decide +kernel
theorem d_K_take_10 : decode (xMc m_K_take) 10 = .ok (.putfield 23, 3) := by decide +kernel
theorem d_K_take_13 : decode (xMc m_K_take) 13 = .ok (.return_, 1) := by decide +kernel
theorem d_K_doUnits_0 : decode (xMc m_K_doUnits) 0 = .ok (.aload_n 0, 1) := by decide +kernel
theorem d_K_doUnits_1 : decode (xMc m_K_doUnits) 1 = .ok (.getfield 19, 3) := by decide +kernel
theorem d_K_doUnits_4 : decode (xMc m_K_doUnits) 4 = .ok (.ifnonnull 5, 3) := by decide +kernel
theorem d_K_doUnits_7 : decode (xMc m_K_doUnits) 7 = .ok (.iconst 0, 1) := by decide +kernel
theorem d_K_doUnits_8 : decode (xMc m_K_doUnits) 8 = .ok (.ireturn, 1) := by decide +kernel
theorem d_K_doUnits_9 : decode (xMc m_K_doUnits) 9 = .ok (.aload_n 0, 1) := by decide +kernel
theorem d_K_doUnits_10 : decode (xMc m_K_doUnits) 10 = .ok (.getfield 15, 3) := by decide +kernel
theorem d_K_doUnits_13 : decode (xMc m_K_doUnits) 13 = .ok (.aload_n 0, 1) := by decide +kernel
theorem d_K_doUnits_14 : decode (xMc m_K_doUnits) 14 = .ok (.getfield 23, 3) := by decide +kernel
theorem d_K_doUnits_17 : decode (xMc m_K_doUnits) 17 = .ok (.invokestatic 34, 3) := by decide +kernel
theorem d_K_doUnits_20 : decode (xMc m_K_doUnits) 20 = .ok (.istore_n 1, 1) := by decide +kernel
theorem d_K_doUnits_21 : decode (xMc m_K_doUnits) 21 = .ok (.aload_n 0, 1) := by decide +kernel
theorem d_K_doUnits_22 : decode (xMc m_K_doUnits) 22 = .ok (.dup, 1) := by decide +kernel
theorem d_K_doUnits_23 : decode (xMc m_K_doUnits) 23 = .ok (.getfield 26, 3) := by decide +kernel
theorem d_K_doUnits_26 : decode (xMc m_K_doUnits) 26 = .ok (.iload_n 1, 1) := by decide +kernel
theorem d_K_doUnits_27 : decode (xMc m_K_doUnits) 27 = .ok (.iadd, 1) := by decide +kernel
theorem d_K_doUnits_28 : decode (xMc m_K_doUnits) 28 = .ok (.putfield 26, 3) := by decide +kernel
theorem d_K_doUnits_31 : decode (xMc m_K_doUnits) 31 = .ok (.aload_n 0, 1) := by decide +kernel
theorem d_K_doUnits_32 : decode (xMc m_K_doUnits) 32 = .ok (.dup, 1) := by decide +kernel
theorem d_K_doUnits_33 : decode (xMc m_K_doUnits) 33 = .ok (.getfield 23, 3) := by decide +kernel
theorem d_K_doUnits_36 : decode (xMc m_K_doUnits) 36 = .ok (.iload_n 1, 1) := by decide +kernel
theorem d_K_doUnits_37 : decode (xMc m_K_doUnits) 37 = .ok (.isub, 1) := by decide +kernel
theorem d_K_doUnits_38 : decode (xMc m_K_doUnits) 38 = .ok (.putfield 23, 3) := by decide +kernel
theorem d_K_doUnits_41 : decode (xMc m_K_doUnits) 41 = .ok (.aload_n 0, 1) := by decide +kernel
theorem d_K_doUnits_42 : decode (xMc m_K_doUnits) 42 = .ok (.getfield 23, 3) := by decide +kernel
theorem d_K_doUnits_45 : decode (xMc m_K_doUnits) 45 = .ok (.ifCond .ne 7, 3) := by decide +kernel
theorem d_K_doUnits_48 : decode (xMc m_K_doUnits) 48 = .ok (.iconst 1, 1) := by decide +kernel
theorem d_K_doUnits_49 : decode (xMc m_K_doUnits) 49 = .ok (.goto 4, 3) := by decide +kernel
theorem d_K_doUnits_52 : decode (xMc m_K_doUnits) 52 = .ok (.iconst 0, 1) := by decide +kernel
theorem d_K_doUnits_53 : decode (xMc m_K_doUnits) 53 = .ok (.ireturn, 1) := by decide +kernel
theorem d_J_reduce_0 : decode (xMc m_J_reduce) 0 = .ok (.aload_n 0, 1) := by decide +kernel
theorem d_J_reduce_1 : decode (xMc m_J_reduce) 1 = .ok (.getfield 11, 3) := by decide +kernel
theorem d_J_reduce_4 : decode (xMc m_J_reduce) 4 = .ok (.iload_n 1, 1) := by decide +kernel
theorem d_J_reduce_5 : decode (xMc m_J_reduce) 5 = .ok (.aaload, 1) := by decide +kernel
theorem d_J_reduce_6 : decode (xMc m_J_reduce) 6 = .ok (.astore_n 2, 1) := by decide +kernel
theorem d_J_reduce_7 : decode (xMc m_J_reduce) 7 = .ok (.aload_n 0, 1) := by decide +kernel
theorem d_J_reduce_8 : decode (xMc m_J_reduce) 8 = .ok (.getfield 17, 3) := by decide +kernel
theorem d_J_reduce_11 : decode (xMc m_J_reduce) 11 = .ok (.iload_n 1, 1) := by decide +kernel
theorem d_J_reduce_12 : decode (xMc m_J_reduce) 12 = .ok (.aaload, 1) := by decide +kernel
theorem d_J_reduce_13 : decode (xMc m_J_reduce) 13 = .ok (.astore_n 3, 1) := by decide +kernel
theorem d_J_reduce_14 : decode (xMc m_J_reduce) 14 = .ok (.aload_n 3, 1) := by decide +kernel
theorem d_J_reduce_15 : decode (xMc m_J_reduce) 15 = .ok (.iconst 0, 1) := by decide +kernel
theorem d_J_reduce_16 : decode (xMc m_J_reduce) 16 = .ok (.putfield 34, 3) := by decide +kernel
theorem d_J_reduce_19 : decode (xMc m_J_reduce) 19 = .ok (.iconst 0, 1) := by decide +kernel
theorem d_J_reduce_20 : decode (xMc m_J_reduce) 20 = .ok (.istore 4, 2) := by decide +kernel
theorem d_J_reduce_22 : decode (xMc m_J_reduce) 22 = .ok (.iload 4, 2) := by decide +kernel
theorem d_J_reduce_24 : decode (xMc m_J_reduce) 24 = .ok (.aload_n 2, 1) := by decide +kernel
theorem d_J_reduce_25 : decode (xMc m_J_reduce) 25 = .ok (.getfield 34, 3) := by decide +kernel
theorem d_J_reduce_28 : decode (xMc m_J_reduce) 28 = .ok (.if_icmp .ge 126, 3) := by decide +kernel
theorem d_J_reduce_31 : decode (xMc m_J_reduce) 31 = .ok (.aload_n 2, 1) := by decide +kernel
theorem d_J_reduce_32 : decode (xMc m_J_reduce) 32 = .ok (.getfield 54, 3) := by decide +kernel
theorem d_J_reduce_35 : decode (xMc m_J_reduce) 35 = .ok (.iload 4, 2) := by decide +kernel
theorem d_J_reduce_37 : decode (xMc m_J_reduce) 37 = .ok (.iaload, 1) := by decide +kernel
theorem d_J_reduce_38 : decode (xMc m_J_reduce) 38 = .ok (.istore 5, 2) := by decide +kernel
theorem d_J_reduce_40 : decode (xMc m_J_reduce) 40 = .ok (.iload 5, 2) := by decide +kernel
theorem d_J_reduce_42 : decode (xMc m_J_reduce) 42 = .ok (.aload_n 0, 1) := by decide +kernel
theorem d_J_reduce_43 : decode (xMc m_J_reduce) 43 = .ok (.getfield 28, 3) := by decide +kernel
theorem d_J_reduce_46 : decode (xMc m_J_reduce) 46 = .ok (.if_icmp .ge 6, 3) := by decide +kernel
theorem d_J_reduce_49 : decode (xMc m_J_reduce) 49 = .ok (.goto 99, 3) := by decide +kernel
theorem d_J_reduce_52 : decode (xMc m_J_reduce) 52 = .ok (.aload_n 3, 1) := by decide +kernel
theorem d_J_reduce_53 : decode (xMc m_J_reduce) 53 = .ok (.getfield 34, 3) := by decide +kernel
theorem d_J_reduce_56 : decode (xMc m_J_reduce) 56 = .ok (.iconst 1, 1) := by decide +kernel
theorem d_J_reduce_57 : decode (xMc m_J_reduce) 57 = .ok (.isub, 1) := by decide +kernel
theorem d_J_reduce_58 : decode (xMc m_J_reduce) 58 = .ok (.istore 6, 2) := by decide +kernel
theorem d_J_reduce_60 : decode (xMc m_J_reduce) 60 = .ok (.iload 6, 2) := by decide +kernel
theorem d_J_reduce_62 : decode (xMc m_J_reduce) 62 = .ok (.ifCond .lt 20, 3) := by decide +kernel
theorem d_J_reduce_65 : decode (xMc m_J_reduce) 65 = .ok (.aload_n 3, 1) := by decide +kernel
theorem d_J_reduce_66 : decode (xMc m_J_reduce) 66 = .ok (.getfield 46, 3) := by decide +kernel
theorem d_J_reduce_69 : decode (xMc m_J_reduce) 69 = .ok (.iload 6, 2) := by decide +kernel
theorem d_J_reduce_71 : decode (xMc m_J_reduce) 71 = .ok (.iaload, 1) := by decide +kernel
theorem d_J_reduce_72 : decode (xMc m_J_reduce) 72 = .ok (.aload_n 2, 1) := by decide +kernel
theorem d_J_reduce_73 : decode (xMc m_J_reduce) 73 = .ok (.getfield 46, 3) := by decide +kernel
theorem d_J_reduce_76 : decode (xMc m_J_reduce) 76 = .ok (.iload 4, 2) := by decide +kernel
theorem d_J_reduce_78 : decode (xMc m_J_reduce) 78 = .ok (.iaload, 1) := by decide +kernel
theorem d_J_reduce_79 : decode (xMc m_J_reduce) 79 = .ok (.if_icmp .eq 31, 3) := by decide +kernel
theorem d_J_reduce_82 : decode (xMc m_J_reduce) 82 = .ok (.aload_n 3, 1) := by decide +kernel
theorem d_J_reduce_83 : decode (xMc m_J_reduce) 83 = .ok (.aload_n 2, 1) := by decide +kernel
theorem d_J_reduce_84 : decode (xMc m_J_reduce) 84 = .ok (.getfield 46, 3) := by decide +kernel
theorem d_J_reduce_87 : decode (xMc m_J_reduce) 87 = .ok (.iload 4, 2) := by decide +kernel
theorem d_J_reduce_89 : decode (xMc m_J_reduce) 89 = .ok (.iaload, 1) := by decide +kernel
theorem d_J_reduce_90 : decode (xMc m_J_reduce) 90 = .ok (.aload_n 0, 1) := by decide +kernel
theorem d_J_reduce_91 : decode (xMc m_J_reduce) 91 = .ok (.getfield 20, 3) := by decide +kernel
theorem d_J_reduce_94 : decode (xMc m_J_reduce) 94 = .ok (.iconst 1, 1) := by decide +kernel
theorem d_J_reduce_95 : decode (xMc m_J_reduce) 95 = .ok (.if_icmp .ne 7, 3) := by decide +kernel
theorem d_J_reduce_98 : decode (xMc m_J_reduce) 98 = .ok (.iconst 1, 1) := by decide +kernel
theorem d_J_reduce_99 : decode (xMc m_J_reduce) 99 = .ok (.goto 5, 3) := by decide +kernel
theorem d_J_reduce_102 : decode (xMc m_J_reduce) 102 = .ok (.iload 5, 2) := by decide +kernel
theorem d_J_reduce_104 : decode (xMc m_J_reduce) 104 = .ok (.invokevirtual 61, 3) := by decide +kernel
theorem d_J_reduce_107 : decode (xMc m_J_reduce) 107 = .ok (.goto 41, 3) := by decide +kernel
theorem d_J_reduce_110 : decode (xMc m_J_reduce) 110 = .ok (.aload_n 0, 1) := by decide +kernel
theorem d_J_reduce_111 : decode (xMc m_J_reduce) 111 = .ok (.getfield 20, 3) := by decide +kernel
theorem d_J_reduce_114 : decode (xMc m_J_reduce) 114 = .ok (.iconst 4, 1) := by decide +kernel
theorem d_J_reduce_115 : decode (xMc m_J_reduce) 115 = .ok (.if_icmp .ne 10, 3) := by decide +kernel
theorem d_J_reduce_118 : decode (xMc m_J_reduce) 118 = .ok (.iload 5, 2) := by decide +kernel
theorem d_J_reduce_120 : decode (xMc m_J_reduce) 120 = .ok (.ifCond .ne 5, 3) := by decide +kernel
theorem d_J_reduce_123 : decode (xMc m_J_reduce) 123 = .ok (.iconst 0, 1) := by decide +kernel
theorem d_J_reduce_124 : decode (xMc m_J_reduce) 124 = .ok (.ireturn, 1) := by decide +kernel
theorem d_J_reduce_125 : decode (xMc m_J_reduce) 125 = .ok (.aload_n 3, 1) := by decide +kernel
theorem d_J_reduce_126 : decode (xMc m_J_reduce) 126 = .ok (.getfield 54, 3) := by decide +kernel
theorem d_J_reduce_129 : decode (xMc m_J_reduce) 129 = .ok (.iload 6, 2) := by decide +kernel
theorem d_J_reduce_131 : decode (xMc m_J_reduce) 131 = .ok (.aload_n 0, 1) := by decide +kernel
theorem d_J_reduce_132 : decode (xMc m_J_reduce) 132 = .ok (.getfield 20, 3) := by decide +kernel
theorem d_J_reduce_135 : decode (xMc m_J_reduce) 135 = .ok (.aload_n 3, 1) := by decide +kernel
theorem d_J_reduce_136 : decode (xMc m_J_reduce) 136 = .ok (.getfield 54, 3) := by decide +kernel
theorem d_J_reduce_139 : decode (xMc m_J_reduce) 139 = .ok (.iload 6, 2) := by decide +kernel
theorem d_J_reduce_141 : decode (xMc m_J_reduce) 141 = .ok (.iaload, 1) := by decide +kernel
theorem d_J_reduce_142 : decode (xMc m_J_reduce) 142 = .ok (.iload 5, 2) := by decide +kernel
theorem d_J_reduce_144 : decode (xMc m_J_reduce) 144 = .ok (.invokestatic 64, 3) := by decide +kernel
theorem d_J_reduce_147 : decode (xMc m_J_reduce) 147 = .ok (.iastore, 1) := by decide +kernel
theorem d_J_reduce_148 : decode (xMc m_J_reduce) 148 = .ok (.iinc 4 1, 3) := by decide +kernel
theorem d_J_reduce_151 : decode (xMc m_J_reduce) 151 = .ok (.goto (-129), 3) := by decide +kernel
theorem d_J_reduce_154 : decode (xMc m_J_reduce) 154 = .ok (.iconst 1, 1) := by decide +kernel
theorem d_J_reduce_155 : decode (xMc m_J_reduce) 155 = .ok (.ireturn, 1) := by decide +kernel
theorem d_J_combine_0 : decode (xMc m_J_combine) 0 = .ok (.iload_n 0, 1) := by decide +kernel
theorem d_J_combine_1 : decode (xMc m_J_combine) 1 = .ok (.tableswitch 68 0 4 #[35, 39, 43, 49, 56], 35) := by decide +kernel
theorem d_J_combine_36 : decode (xMc m_J_combine) 36 = .ok (.iload_n 1, 1) := by decide +kernel
theorem d_J_combine_37 : decode (xMc m_J_combine) 37 = .ok (.iload_n 2, 1) := by decide +kernel
theorem d_J_combine_38 : decode (xMc m_J_combine) 38 = .ok (.iadd, 1) := by decide +kernel
theorem d_J_combine_39 : decode (xMc m_J_combine) 39 = .ok (.ireturn, 1) := by decide +kernel
theorem d_J_combine_40 : decode (xMc m_J_combine) 40 = .ok (.iload_n 1, 1) := by decide +kernel
theorem d_J_combine_41 : decode (xMc m_J_combine) 41 = .ok (.iconst 1, 1) := by decide +kernel
theorem d_J_combine_42 : decode (xMc m_J_combine) 42 = .ok (.iadd, 1) := by decide +kernel
theorem d_J_combine_43 : decode (xMc m_J_combine) 43 = .ok (.ireturn, 1) := by decide +kernel
theorem d_J_combine_44 : decode (xMc m_J_combine) 44 = .ok (.iload_n 1, 1) := by decide +kernel
theorem d_J_combine_45 : decode (xMc m_J_combine) 45 = .ok (.iload_n 2, 1) := by decide +kernel
theorem d_J_combine_46 : decode (xMc m_J_combine) 46 = .ok (.invokestatic 37, 3) := by decide +kernel
theorem d_J_combine_49 : decode (xMc m_J_combine) 49 = .ok (.ireturn, 1) := by decide +kernel
theorem d_J_combine_50 : decode (xMc m_J_combine) 50 = .ok (.iload_n 1, 1) := by decide +kernel
theorem d_J_combine_51 : decode (xMc m_J_combine) 51 = .ok (.bipush 31, 2) := by decide +kernel
theorem d_J_combine_53 : decode (xMc m_J_combine) 53 = .ok (.imul, 1) := by decide +kernel
theorem d_J_combine_54 : decode (xMc m_J_combine) 54 = .ok (.iload_n 2, 1) := by decide +kernel
theorem d_J_combine_55 : decode (xMc m_J_combine) 55 = .ok (.iadd, 1) := by decide +kernel
theorem d_J_combine_56 : decode (xMc m_J_combine) 56 = .ok (.ireturn, 1) := by decide +kernel
theorem d_J_combine_57 : decode (xMc m_J_combine) 57 = .ok (.iload_n 2, 1) := by decide +kernel
theorem d_J_combine_58 : decode (xMc m_J_combine) 58 = .ok (.ifCond .ne 7, 3) := by decide +kernel
theorem d_J_combine_61 : decode (xMc m_J_combine) 61 = .ok (.iconst 0, 1) := by decide +kernel
theorem d_J_combine_62 : decode (xMc m_J_combine) 62 = .ok (.goto 6, 3) := by decide +kernel
theorem d_J_combine_65 : decode (xMc m_J_combine) 65 = .ok (.iload_n 1, 1) := by decide +kernel
theorem d_J_combine_66 : decode (xMc m_J_combine) 66 = .ok (.iload_n 2, 1) := by decide +kernel
theorem d_J_combine_67 : decode (xMc m_J_combine) 67 = .ok (.idiv, 1) := by decide +kernel
theorem d_J_combine_68 : decode (xMc m_J_combine) 68 = .ok (.ireturn, 1) := by decide +kernel
theorem d_J_combine_69 : decode (xMc m_J_combine) 69 = .ok (.iload_n 1, 1) := by decide +kernel
theorem d_J_combine_70 : decode (xMc m_J_combine) 70 = .ok (.ireturn, 1) := by decide +kernel
theorem d_P_indexOf_0 : decode (xMc m_P_indexOf) 0 = .ok (.iconst 0, 1) := by decide +kernel
theorem d_P_indexOf_1 : decode (xMc m_P_indexOf) 1 = .ok (.istore_n 2, 1) := by decide +kernel
theorem d_P_indexOf_2 : decode (xMc m_P_indexOf) 2 = .ok (.iload_n 2, 1) := by decide +kernel
theorem d_P_indexOf_3 : decode (xMc m_P_indexOf) 3 = .ok (.aload_n 0, 1) := by decide +kernel
theorem d_P_indexOf_4 : decode (xMc m_P_indexOf) 4 = .ok (.getfield 9, 3) := by decide +kernel
theorem d_P_indexOf_7 : decode (xMc m_P_indexOf) 7 = .ok (.if_icmp .ge 21, 3) := by decide +kernel
theorem d_P_indexOf_10 : decode (xMc m_P_indexOf) 10 = .ok (.aload_n 0, 1) := by decide +kernel
theorem d_P_indexOf_11 : decode (xMc m_P_indexOf) 11 = .ok (.getfield 15, 3) := by decide +kernel
theorem d_P_indexOf_14 : decode (xMc m_P_indexOf) 14 = .ok (.iload_n 2, 1) := by decide +kernel
theorem d_P_indexOf_15 : decode (xMc m_P_indexOf) 15 = .ok (.iaload, 1) := by decide +kernel
theorem d_P_indexOf_16 : decode (xMc m_P_indexOf) 16 = .ok (.iload_n 1, 1) := by decide +kernel
theorem d_P_indexOf_17 : decode (xMc m_P_indexOf) 17 = .ok (.if_icmp .ne 5, 3) := by decide +kernel
theorem d_P_indexOf_20 : decode (xMc m_P_indexOf) 20 = .ok (.iload_n 2, 1) := by decide +kernel
theorem d_P_indexOf_21 : decode (xMc m_P_indexOf) 21 = .ok (.ireturn, 1) := by decide +kernel
theorem d_P_indexOf_22 : decode (xMc m_P_indexOf) 22 = .ok (.iinc 2 1, 3) := by decide +kernel
theorem d_P_indexOf_25 : decode (xMc m_P_indexOf) 25 = .ok (.goto (-23), 3) := by decide +kernel
theorem d_P_indexOf_28 : decode (xMc m_P_indexOf) 28 = .ok (.iconst (-1), 1) := by decide +kernel
theorem d_P_indexOf_29 : decode (xMc m_P_indexOf) 29 = .ok (.ireturn, 1) := by decide +kernel
theorem d_K_taskNumber_0 : decode (xMc m_K_taskNumber) 0 = .ok (.aload_n 0, 1) := by decide +kernel
theorem d_K_taskNumber_1 : decode (xMc m_K_taskNumber) 1 = .ok (.getfield 19, 3) := by decide +kernel
theorem d_K_taskNumber_4 : decode (xMc m_K_taskNumber) 4 = .ok (.ifnonnull 5, 3) := by decide +kernel
theorem d_K_taskNumber_7 : decode (xMc m_K_taskNumber) 7 = .ok (.iconst (-1), 1) := by decide +kernel
theorem d_K_taskNumber_8 : decode (xMc m_K_taskNumber) 8 = .ok (.ireturn, 1) := by decide +kernel
theorem d_K_taskNumber_9 : decode (xMc m_K_taskNumber) 9 = .ok (.aload_n 0, 1) := by decide +kernel
theorem d_K_taskNumber_10 : decode (xMc m_K_taskNumber) 10 = .ok (.getfield 19, 3) := by decide +kernel
theorem d_K_taskNumber_13 : decode (xMc m_K_taskNumber) 13 = .ok (.getfield 40, 3) := by decide +kernel
theorem d_K_taskNumber_16 : decode (xMc m_K_taskNumber) 16 = .ok (.ifCond .eq 13, 3) := by decide +kernel
theorem d_K_taskNumber_19 : decode (xMc m_K_taskNumber) 19 = .ok (.aload_n 0, 1) := by decide +kernel
theorem d_K_taskNumber_20 : decode (xMc m_K_taskNumber) 20 = .ok (.getfield 19, 3) := by decide +kernel
theorem d_K_taskNumber_23 : decode (xMc m_K_taskNumber) 23 = .ok (.getfield 43, 3) := by decide +kernel
theorem d_K_taskNumber_26 : decode (xMc m_K_taskNumber) 26 = .ok (.goto 13, 3) := by decide +kernel
theorem d_K_taskNumber_29 : decode (xMc m_K_taskNumber) 29 = .ok (.bipush 8, 2) := by decide +kernel
theorem d_K_taskNumber_31 : decode (xMc m_K_taskNumber) 31 = .ok (.aload_n 0, 1) := by decide +kernel
theorem d_K_taskNumber_32 : decode (xMc m_K_taskNumber) 32 = .ok (.getfield 19, 3) := by decide +kernel
theorem d_K_taskNumber_35 : decode (xMc m_K_taskNumber) 35 = .ok (.getfield 43, 3) := by decide +kernel
theorem d_K_taskNumber_38 : decode (xMc m_K_taskNumber) 38 = .ok (.iadd, 1) := by decide +kernel
theorem d_K_taskNumber_39 : decode (xMc m_K_taskNumber) 39 = .ok (.ireturn, 1) := by decide +kernel
