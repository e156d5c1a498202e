theorem d_DK_init_0 : decode b_DK_init 0 = .ok (.aload_n 0, 1) := by decide +kernel
theorem d_DK_init_1 : decode b_DK_init 1 = .ok (.invokespecial 1, 3) := by decide +kernel
theorem d_DK_init_4 : decode b_DK_init 4 = .ok (.aload_n 0, 1) := by decide +kernel
theorem d_DK_init_5 : decode b_DK_init 5 = .ok (.bipush 24, 2) := by decide +kernel
theorem d_DK_init_7 : decode b_DK_init 7 = .ok (.anewarray 9, 3) := by decide +kernel
theorem d_DK_init_10 : decode b_DK_init 10 = .ok (.putfield 11, 3) := by decide +kernel
theorem d_DK_init_13 : decode b_DK_init 13 = .ok (.aload_n 0, 1) := by decide +kernel
theorem d_DK_init_14 : decode b_DK_init 14 = .ok (.bipush 16, 2) := by decide +kernel
theorem d_DK_init_16 : decode b_DK_init 16 = .ok (.anewarray 9, 3) := by decide +kernel
theorem d_DK_init_19 : decode b_DK_init 19 = .ok (.putfield 15, 3) := by decide +kernel
theorem d_DK_init_22 : decode b_DK_init 22 = .ok (.aload_n 0, 1) := by decide +kernel
theorem d_DK_init_23 : decode b_DK_init 23 = .ok (.new 18, 3) := by decide +kernel
theorem d_DK_init_26 : decode b_DK_init 26 = .ok (.dup, 1) := by decide +kernel
theorem d_DK_init_27 : decode b_DK_init 27 = .ok (.sipush 200, 3) := by decide +kernel
theorem d_DK_init_30 : decode b_DK_init 30 = .ok (.invokespecial 20, 3) := by decide +kernel
theorem d_DK_init_33 : decode b_DK_init 33 = .ok (.putfield 23, 3) := by decide +kernel
theorem d_DK_init_36 : decode b_DK_init 36 = .ok (.aload_n 0, 1) := by decide +kernel
theorem d_DK_init_37 : decode b_DK_init 37 = .ok (.new 27, 3) := by decide +kernel
theorem d_DK_init_40 : decode b_DK_init 40 = .ok (.dup, 1) := by decide +kernel
theorem d_DK_init_41 : decode b_DK_init 41 = .ok (.invokespecial 29, 3) := by decide +kernel
theorem d_DK_init_44 : decode b_DK_init 44 = .ok (.putfield 30, 3) := by decide +kernel
theorem d_DK_init_47 : decode b_DK_init 47 = .ok (.aload_n 0, 1) := by decide +kernel
theorem d_DK_init_48 : decode b_DK_init 48 = .ok (.new 18, 3) := by decide +kernel
theorem d_DK_init_51 : decode b_DK_init 51 = .ok (.dup, 1) := by decide +kernel
theorem d_DK_init_52 : decode b_DK_init 52 = .ok (.bipush 60, 2) := by decide +kernel
theorem d_DK_init_54 : decode b_DK_init 54 = .ok (.invokespecial 20, 3) := by decide +kernel
theorem d_DK_init_57 : decode b_DK_init 57 = .ok (.putfield 34, 3) := by decide +kernel
theorem d_DK_init_60 : decode b_DK_init 60 = .ok (.aload_n 0, 1) := by decide +kernel
theorem d_DK_init_61 : decode b_DK_init 61 = .ok (.new 18, 3) := by decide +kernel
theorem d_DK_init_64 : decode b_DK_init 64 = .ok (.dup, 1) := by decide +kernel
theorem d_DK_init_65 : decode b_DK_init 65 = .ok (.bipush 60, 2) := by decide +kernel
theorem d_DK_init_67 : decode b_DK_init 67 = .ok (.invokespecial 20, 3) := by decide +kernel
theorem d_DK_init_70 : decode b_DK_init 70 = .ok (.putfield 37, 3) := by decide +kernel
theorem d_DK_init_73 : decode b_DK_init 73 = .ok (.return_, 1) := by decide +kernel
theorem d_DK_reverse_0 : decode b_DK_reverse 0 = .ok (.aload_n 0, 1) := by decide +kernel
theorem d_DK_reverse_1 : decode b_DK_reverse 1 = .ok (.getfield 37, 3) := by decide +kernel
theorem d_DK_reverse_4 : decode b_DK_reverse 4 = .ok (.invokevirtual 70, 3) := by decide +kernel
theorem d_DK_reverse_7 : decode b_DK_reverse 7 = .ok (.aload_n 0, 1) := by decide +kernel
theorem d_DK_reverse_8 : decode b_DK_reverse 8 = .ok (.getfield 34, 3) := by decide +kernel
theorem d_DK_reverse_11 : decode b_DK_reverse 11 = .ok (.invokevirtual 60, 3) := by decide +kernel
theorem d_DK_reverse_14 : decode b_DK_reverse 14 = .ok (.iconst 1, 1) := by decide +kernel
theorem d_DK_reverse_15 : decode b_DK_reverse 15 = .ok (.isub, 1) := by decide +kernel
theorem d_DK_reverse_16 : decode b_DK_reverse 16 = .ok (.istore_n 1, 1) := by decide +kernel
theorem d_DK_reverse_17 : decode b_DK_reverse 17 = .ok (.iload_n 1, 1) := by decide +kernel
theorem d_DK_reverse_18 : decode b_DK_reverse 18 = .ok (.ifCond .lt 56, 3) := by decide +kernel
theorem d_DK_reverse_21 : decode b_DK_reverse 21 = .ok (.aload_n 0, 1) := by decide +kernel
theorem d_DK_reverse_22 : decode b_DK_reverse 22 = .ok (.getfield 34, 3) := by decide +kernel
theorem d_DK_reverse_25 : decode b_DK_reverse 25 = .ok (.iload_n 1, 1) := by decide +kernel
theorem d_DK_reverse_26 : decode b_DK_reverse 26 = .ok (.invokevirtual 88, 3) := by decide +kernel
theorem d_DK_reverse_29 : decode b_DK_reverse 29 = .ok (.istore_n 2, 1) := by decide +kernel
theorem d_DK_reverse_30 : decode b_DK_reverse 30 = .ok (.aload_n 0, 1) := by decide +kernel
theorem d_DK_reverse_31 : decode b_DK_reverse 31 = .ok (.getfield 34, 3) := by decide +kernel
theorem d_DK_reverse_34 : decode b_DK_reverse 34 = .ok (.iload_n 1, 1) := by decide +kernel
theorem d_DK_reverse_35 : decode b_DK_reverse 35 = .ok (.iconst 1, 1) := by decide +kernel
theorem d_DK_reverse_36 : decode b_DK_reverse 36 = .ok (.isub, 1) := by decide +kernel
theorem d_DK_reverse_37 : decode b_DK_reverse 37 = .ok (.invokevirtual 88, 3) := by decide +kernel
theorem d_DK_reverse_40 : decode b_DK_reverse 40 = .ok (.istore_n 3, 1) := by decide +kernel
theorem d_DK_reverse_41 : decode b_DK_reverse 41 = .ok (.iload_n 3, 1) := by decide +kernel
theorem d_DK_reverse_42 : decode b_DK_reverse 42 = .ok (.iload_n 2, 1) := by decide +kernel
theorem d_DK_reverse_43 : decode b_DK_reverse 43 = .ok (.invokestatic 92, 3) := by decide +kernel
theorem d_DK_reverse_46 : decode b_DK_reverse 46 = .ok (.ifCond .eq 14, 3) := by decide +kernel
theorem d_DK_reverse_49 : decode b_DK_reverse 49 = .ok (.aload_n 0, 1) := by decide +kernel
theorem d_DK_reverse_50 : decode b_DK_reverse 50 = .ok (.getfield 37, 3) := by decide +kernel
theorem d_DK_reverse_53 : decode b_DK_reverse 53 = .ok (.iload_n 3, 1) := by decide +kernel
theorem d_DK_reverse_54 : decode b_DK_reverse 54 = .ok (.invokevirtual 57, 3) := by decide +kernel
theorem d_DK_reverse_57 : decode b_DK_reverse 57 = .ok (.iinc 1 (-1), 3) := by decide +kernel
theorem d_DK_reverse_60 : decode b_DK_reverse 60 = .ok (.aload_n 0, 1) := by decide +kernel
theorem d_DK_reverse_61 : decode b_DK_reverse 61 = .ok (.getfield 37, 3) := by decide +kernel
theorem d_DK_reverse_64 : decode b_DK_reverse 64 = .ok (.iload_n 2, 1) := by decide +kernel
theorem d_DK_reverse_65 : decode b_DK_reverse 65 = .ok (.invokevirtual 57, 3) := by decide +kernel
theorem d_DK_reverse_68 : decode b_DK_reverse 68 = .ok (.iinc 1 (-1), 3) := by decide +kernel
theorem d_DK_reverse_71 : decode b_DK_reverse 71 = .ok (.goto (-54), 3) := by decide +kernel
theorem d_DK_reverse_74 : decode b_DK_reverse 74 = .ok (.aload_n 0, 1) := by decide +kernel
theorem d_DK_reverse_75 : decode b_DK_reverse 75 = .ok (.invokevirtual 81, 3) := by decide +kernel
theorem d_DK_reverse_78 : decode b_DK_reverse 78 = .ok (.return_, 1) := by decide +kernel
theorem d_DK_isPair_0 : decode b_DK_isPair 0 = .ok (.iload_n 0, 1) := by decide +kernel
theorem d_DK_isPair_1 : decode b_DK_isPair 1 = .ok (.invokestatic 204, 3) := by decide +kernel
theorem d_DK_isPair_4 : decode b_DK_isPair 4 = .ok (.ifCond .eq 14, 3) := by decide +kernel
theorem d_DK_isPair_7 : decode b_DK_isPair 7 = .ok (.iload_n 1, 1) := by decide +kernel
theorem d_DK_isPair_8 : decode b_DK_isPair 8 = .ok (.invokestatic 208, 3) := by decide +kernel
theorem d_DK_isPair_11 : decode b_DK_isPair 11 = .ok (.ifCond .eq 7, 3) := by decide +kernel
theorem d_DK_isPair_14 : decode b_DK_isPair 14 = .ok (.iconst 1, 1) := by decide +kernel
theorem d_DK_isPair_15 : decode b_DK_isPair 15 = .ok (.goto 4, 3) := by decide +kernel
theorem d_DK_isPair_18 : decode b_DK_isPair 18 = .ok (.iconst 0, 1) := by decide +kernel
theorem d_DK_isPair_19 : decode b_DK_isPair 19 = .ok (.ireturn, 1) := by decide +kernel
theorem d_DK_isHigh_0 : decode b_DK_isHigh 0 = .ok (.iload_n 0, 1) := by decide +kernel
theorem d_DK_isHigh_1 : decode b_DK_isHigh 1 = .ok (.ldc 201, 2) := by decide +kernel
theorem d_DK_isHigh_3 : decode b_DK_isHigh 3 = .ok (.if_icmp .lt 13, 3) := by decide +kernel
theorem d_DK_isHigh_6 : decode b_DK_isHigh 6 = .ok (.iload_n 0, 1) := by decide +kernel
theorem d_DK_isHigh_7 : decode b_DK_isHigh 7 = .ok (.ldc 202, 2) := by decide +kernel
theorem d_DK_isHigh_9 : decode b_DK_isHigh 9 = .ok (.if_icmp .ge 7, 3) := by decide +kernel
theorem d_DK_isHigh_12 : decode b_DK_isHigh 12 = .ok (.iconst 1, 1) := by decide +kernel
theorem d_DK_isHigh_13 : decode b_DK_isHigh 13 = .ok (.goto 4, 3) := by decide +kernel
theorem d_DK_isHigh_16 : decode b_DK_isHigh 16 = .ok (.iconst 0, 1) := by decide +kernel
theorem d_DK_isHigh_17 : decode b_DK_isHigh 17 = .ok (.ireturn, 1) := by decide +kernel
theorem d_DK_isLow_0 : decode b_DK_isLow 0 = .ok (.iload_n 0, 1) := by decide +kernel
theorem d_DK_isLow_1 : decode b_DK_isLow 1 = .ok (.ldc 202, 2) := by decide +kernel
theorem d_DK_isLow_3 : decode b_DK_isLow 3 = .ok (.if_icmp .lt 13, 3) := by decide +kernel
theorem d_DK_isLow_6 : decode b_DK_isLow 6 = .ok (.iload_n 0, 1) := by decide +kernel
theorem d_DK_isLow_7 : decode b_DK_isLow 7 = .ok (.ldc 203, 2) := by decide +kernel
theorem d_DK_isLow_9 : decode b_DK_isLow 9 = .ok (.if_icmp .ge 7, 3) := by decide +kernel
theorem d_DK_isLow_12 : decode b_DK_isLow 12 = .ok (.iconst 1, 1) := by decide +kernel
theorem d_DK_isLow_13 : decode b_DK_isLow 13 = .ok (.goto 4, 3) := by decide +kernel
theorem d_DK_isLow_16 : decode b_DK_isLow 16 = .ok (.iconst 0, 1) := by decide +kernel
theorem d_DK_isLow_17 : decode b_DK_isLow 17 = .ok (.ireturn, 1) := by decide +kernel
theorem d_DK_makeDraftTheBuilder_0 : decode b_DK_makeDraftTheBuilder 0 = .ok (.aload_n 0, 1) := by decide +kernel
theorem d_DK_makeDraftTheBuilder_1 : decode b_DK_makeDraftTheBuilder 1 = .ok (.getfield 34, 3) := by decide +kernel
theorem d_DK_makeDraftTheBuilder_4 : decode b_DK_makeDraftTheBuilder 4 = .ok (.astore_n 1, 1) := by decide +kernel
theorem d_DK_makeDraftTheBuilder_5 : decode b_DK_makeDraftTheBuilder 5 = .ok (.aload_n 0, 1) := by decide +kernel
theorem d_DK_makeDraftTheBuilder_6 : decode b_DK_makeDraftTheBuilder 6 = .ok (.aload_n 0, 1) := by decide +kernel
theorem d_DK_makeDraftTheBuilder_7 : decode b_DK_makeDraftTheBuilder 7 = .ok (.getfield 37, 3) := by decide +kernel
theorem d_DK_makeDraftTheBuilder_10 : decode b_DK_makeDraftTheBuilder 10 = .ok (.putfield 34, 3) := by decide +kernel
theorem d_DK_makeDraftTheBuilder_13 : decode b_DK_makeDraftTheBuilder 13 = .ok (.aload_n 0, 1) := by decide +kernel
theorem d_DK_makeDraftTheBuilder_14 : decode b_DK_makeDraftTheBuilder 14 = .ok (.aload_n 1, 1) := by decide +kernel
theorem d_DK_makeDraftTheBuilder_15 : decode b_DK_makeDraftTheBuilder 15 = .ok (.putfield 37, 3) := by decide +kernel
theorem d_DK_makeDraftTheBuilder_18 : decode b_DK_makeDraftTheBuilder 18 = .ok (.return_, 1) := by decide +kernel
theorem d_DK_clear_0 : decode b_DK_clear 0 = .ok (.iconst 0, 1) := by decide +kernel
theorem d_DK_clear_1 : decode b_DK_clear 1 = .ok (.istore_n 1, 1) := by decide +kernel
theorem d_DK_clear_2 : decode b_DK_clear 2 = .ok (.iload_n 1, 1) := by decide +kernel
theorem d_DK_clear_3 : decode b_DK_clear 3 = .ok (.aload_n 0, 1) := by decide +kernel
theorem d_DK_clear_4 : decode b_DK_clear 4 = .ok (.getfield 11, 3) := by decide +kernel
theorem d_DK_clear_7 : decode b_DK_clear 7 = .ok (.arraylength, 1) := by decide +kernel
theorem d_DK_clear_8 : decode b_DK_clear 8 = .ok (.if_icmp .ge 16, 3) := by decide +kernel
theorem d_DK_clear_11 : decode b_DK_clear 11 = .ok (.aload_n 0, 1) := by decide +kernel
theorem d_DK_clear_12 : decode b_DK_clear 12 = .ok (.getfield 11, 3) := by decide +kernel
theorem d_DK_clear_15 : decode b_DK_clear 15 = .ok (.iload_n 1, 1) := by decide +kernel
theorem d_DK_clear_16 : decode b_DK_clear 16 = .ok (.aconst_null, 1) := by decide +kernel
theorem d_DK_clear_17 : decode b_DK_clear 17 = .ok (.aastore, 1) := by decide +kernel
theorem d_DK_clear_18 : decode b_DK_clear 18 = .ok (.iinc 1 1, 3) := by decide +kernel
theorem d_DK_clear_21 : decode b_DK_clear 21 = .ok (.goto (-19), 3) := by decide +kernel
theorem d_DK_clear_24 : decode b_DK_clear 24 = .ok (.iconst 0, 1) := by decide +kernel
theorem d_DK_clear_25 : decode b_DK_clear 25 = .ok (.istore_n 1, 1) := by decide +kernel
theorem d_DK_clear_26 : decode b_DK_clear 26 = .ok (.iload_n 1, 1) := by decide +kernel
theorem d_DK_clear_27 : decode b_DK_clear 27 = .ok (.aload_n 0, 1) := by decide +kernel
theorem d_DK_clear_28 : decode b_DK_clear 28 = .ok (.getfield 15, 3) := by decide +kernel
theorem d_DK_clear_31 : decode b_DK_clear 31 = .ok (.arraylength, 1) := by decide +kernel
theorem d_DK_clear_32 : decode b_DK_clear 32 = .ok (.if_icmp .ge 16, 3) := by decide +kernel
theorem d_DK_clear_35 : decode b_DK_clear 35 = .ok (.aload_n 0, 1) := by decide +kernel
theorem d_DK_clear_36 : decode b_DK_clear 36 = .ok (.getfield 15, 3) := by decide +kernel
theorem d_DK_clear_39 : decode b_DK_clear 39 = .ok (.iload_n 1, 1) := by decide +kernel
theorem d_DK_clear_40 : decode b_DK_clear 40 = .ok (.aconst_null, 1) := by decide +kernel
theorem d_DK_clear_41 : decode b_DK_clear 41 = .ok (.aastore, 1) := by decide +kernel
theorem d_DK_clear_42 : decode b_DK_clear 42 = .ok (.iinc 1 1, 3) := by decide +kernel
theorem d_DK_clear_45 : decode b_DK_clear 45 = .ok (.goto (-19), 3) := by decide +kernel
theorem d_DK_clear_48 : decode b_DK_clear 48 = .ok (.return_, 1) := by decide +kernel
theorem d_DK_unit_0 : decode b_DK_unit 0 = .ok (.iload_n 1, 1) := by decide +kernel
theorem d_DK_unit_1 : decode b_DK_unit 1 = .ok (.ifCond .lt 9, 3) := by decide +kernel
theorem d_DK_unit_4 : decode b_DK_unit 4 = .ok (.iload_n 1, 1) := by decide +kernel
theorem d_DK_unit_5 : decode b_DK_unit 5 = .ok (.ldc 40, 2) := by decide +kernel
theorem d_DK_unit_7 : decode b_DK_unit 7 = .ok (.if_icmp .lt 13, 3) := by decide +kernel
theorem d_DK_unit_10 : decode b_DK_unit 10 = .ok (.new 41, 3) := by decide +kernel
theorem d_DK_unit_13 : decode b_DK_unit 13 = .ok (.dup, 1) := by decide +kernel
theorem d_DK_unit_14 : decode b_DK_unit 14 = .ok (.ldc 43, 2) := by decide +kernel
theorem d_DK_unit_16 : decode b_DK_unit 16 = .ok (.invokespecial 45, 3) := by decide +kernel
theorem d_DK_unit_19 : decode b_DK_unit 19 = .ok (.athrow, 1) := by decide +kernel
theorem d_DK_unit_20 : decode b_DK_unit 20 = .ok (.aload_n 0, 1) := by decide +kernel
theorem d_DK_unit_21 : decode b_DK_unit 21 = .ok (.getfield 34, 3) := by decide +kernel
theorem d_DK_unit_24 : decode b_DK_unit 24 = .ok (.invokevirtual 48, 3) := by decide +kernel
theorem d_DK_unit_27 : decode b_DK_unit 27 = .ok (.ifCond .eq 13, 3) := by decide +kernel
theorem d_DK_unit_30 : decode b_DK_unit 30 = .ok (.new 52, 3) := by decide +kernel
theorem d_DK_unit_33 : decode b_DK_unit 33 = .ok (.dup, 1) := by decide +kernel
theorem d_DK_unit_34 : decode b_DK_unit 34 = .ok (.ldc 54, 2) := by decide +kernel
theorem d_DK_unit_36 : decode b_DK_unit 36 = .ok (.invokespecial 56, 3) := by decide +kernel
theorem d_DK_unit_39 : decode b_DK_unit 39 = .ok (.athrow, 1) := by decide +kernel
theorem d_DK_unit_40 : decode b_DK_unit 40 = .ok (.aload_n 0, 1) := by decide +kernel
theorem d_DK_unit_41 : decode b_DK_unit 41 = .ok (.getfield 34, 3) := by decide +kernel
theorem d_DK_unit_44 : decode b_DK_unit 44 = .ok (.iload_n 1, 1) := by decide +kernel
theorem d_DK_unit_45 : decode b_DK_unit 45 = .ok (.invokevirtual 57, 3) := by decide +kernel
theorem d_DK_unit_48 : decode b_DK_unit 48 = .ok (.aload_n 0, 1) := by decide +kernel
theorem d_DK_unit_49 : decode b_DK_unit 49 = .ok (.getfield 34, 3) := by decide +kernel
theorem d_DK_unit_52 : decode b_DK_unit 52 = .ok (.invokevirtual 60, 3) := by decide +kernel
theorem d_DK_unit_55 : decode b_DK_unit 55 = .ok (.ireturn, 1) := by decide +kernel
theorem d_DK_insert_0 : decode b_DK_insert 0 = .ok (.aload_n 0, 1) := by decide +kernel
theorem d_DK_insert_1 : decode b_DK_insert 1 = .ok (.iload_n 2, 1) := by decide +kernel
theorem d_DK_insert_2 : decode b_DK_insert 2 = .ok (.invokevirtual 64, 3) := by decide +kernel
theorem d_DK_insert_5 : decode b_DK_insert 5 = .ok (.astore_n 3, 1) := by decide +kernel
theorem d_DK_insert_6 : decode b_DK_insert 6 = .ok (.iload_n 1, 1) := by decide +kernel
theorem d_DK_insert_7 : decode b_DK_insert 7 = .ok (.ifCond .lt 14, 3) := by decide +kernel
theorem d_DK_insert_10 : decode b_DK_insert 10 = .ok (.iload_n 1, 1) := by decide +kernel
theorem d_DK_insert_11 : decode b_DK_insert 11 = .ok (.aload_n 0, 1) := by decide +kernel
theorem d_DK_insert_12 : decode b_DK_insert 12 = .ok (.getfield 34, 3) := by decide +kernel
theorem d_DK_insert_15 : decode b_DK_insert 15 = .ok (.invokevirtual 60, 3) := by decide +kernel
theorem d_DK_insert_18 : decode b_DK_insert 18 = .ok (.if_icmp .le 13, 3) := by decide +kernel
theorem d_DK_insert_21 : decode b_DK_insert 21 = .ok (.new 41, 3) := by decide +kernel
theorem d_DK_insert_24 : decode b_DK_insert 24 = .ok (.dup, 1) := by decide +kernel
theorem d_DK_insert_25 : decode b_DK_insert 25 = .ok (.ldc 68, 2) := by decide +kernel
theorem d_DK_insert_27 : decode b_DK_insert 27 = .ok (.invokespecial 45, 3) := by decide +kernel
theorem d_DK_insert_30 : decode b_DK_insert 30 = .ok (.athrow, 1) := by decide +kernel
theorem d_DK_insert_31 : decode b_DK_insert 31 = .ok (.aload_n 0, 1) := by decide +kernel
theorem d_DK_insert_32 : decode b_DK_insert 32 = .ok (.getfield 37, 3) := by decide +kernel
theorem d_DK_insert_35 : decode b_DK_insert 35 = .ok (.invokevirtual 70, 3) := by decide +kernel
theorem d_DK_insert_38 : decode b_DK_insert 38 = .ok (.aload_n 0, 1) := by decide +kernel
theorem d_DK_insert_39 : decode b_DK_insert 39 = .ok (.getfield 37, 3) := by decide +kernel
theorem d_DK_insert_42 : decode b_DK_insert 42 = .ok (.aload_n 0, 1) := by decide +kernel
theorem d_DK_insert_43 : decode b_DK_insert 43 = .ok (.getfield 34, 3) := by decide +kernel
theorem d_DK_insert_46 : decode b_DK_insert 46 = .ok (.iconst 0, 1) := by decide +kernel
theorem d_DK_insert_47 : decode b_DK_insert 47 = .ok (.iload_n 1, 1) := by decide +kernel
theorem d_DK_insert_48 : decode b_DK_insert 48 = .ok (.invokevirtual 73, 3) := by decide +kernel
theorem d_DK_insert_51 : decode b_DK_insert 51 = .ok (.aload_n 0, 1) := by decide +kernel
theorem d_DK_insert_52 : decode b_DK_insert 52 = .ok (.getfield 37, 3) := by decide +kernel
theorem d_DK_insert_55 : decode b_DK_insert 55 = .ok (.aload_n 3, 1) := by decide +kernel
theorem d_DK_insert_56 : decode b_DK_insert 56 = .ok (.iconst 0, 1) := by decide +kernel
theorem d_DK_insert_57 : decode b_DK_insert 57 = .ok (.aload_n 3, 1) := by decide +kernel
theorem d_DK_insert_58 : decode b_DK_insert 58 = .ok (.invokevirtual 77, 3) := by decide +kernel
theorem d_DK_insert_61 : decode b_DK_insert 61 = .ok (.invokevirtual 73, 3) := by decide +kernel
theorem d_DK_insert_64 : decode b_DK_insert 64 = .ok (.aload_n 0, 1) := by decide +kernel
theorem d_DK_insert_65 : decode b_DK_insert 65 = .ok (.getfield 37, 3) := by decide +kernel
theorem d_DK_insert_68 : decode b_DK_insert 68 = .ok (.aload_n 0, 1) := by decide +kernel
theorem d_DK_insert_69 : decode b_DK_insert 69 = .ok (.getfield 34, 3) := by decide +kernel
theorem d_DK_insert_72 : decode b_DK_insert 72 = .ok (.iload_n 1, 1) := by decide +kernel
theorem d_DK_insert_73 : decode b_DK_insert 73 = .ok (.aload_n 0, 1) := by decide +kernel
theorem d_DK_insert_74 : decode b_DK_insert 74 = .ok (.getfield 34, 3) := by decide +kernel
theorem d_DK_insert_77 : decode b_DK_insert 77 = .ok (.invokevirtual 60, 3) := by decide +kernel
theorem d_DK_insert_80 : decode b_DK_insert 80 = .ok (.invokevirtual 73, 3) := by decide +kernel
theorem d_DK_insert_83 : decode b_DK_insert 83 = .ok (.aload_n 0, 1) := by decide +kernel
theorem d_DK_insert_84 : decode b_DK_insert 84 = .ok (.invokevirtual 78, 3) := by decide +kernel
theorem d_DK_insert_87 : decode b_DK_insert 87 = .ok (.aload_n 0, 1) := by decide +kernel
theorem d_DK_insert_88 : decode b_DK_insert 88 = .ok (.invokevirtual 81, 3) := by decide +kernel
theorem d_DK_insert_91 : decode b_DK_insert 91 = .ok (.aload_n 0, 1) := by decide +kernel
theorem d_DK_insert_92 : decode b_DK_insert 92 = .ok (.getfield 34, 3) := by decide +kernel
theorem d_DK_insert_95 : decode b_DK_insert 95 = .ok (.invokevirtual 60, 3) := by decide +kernel
theorem d_DK_insert_98 : decode b_DK_insert 98 = .ok (.ireturn, 1) := by decide +kernel
theorem d_DK_textNumbered_0 : decode b_DK_textNumbered 0 = .ok (.iload_n 1, 1) := by decide +kernel
theorem d_DK_textNumbered_1 : decode b_DK_textNumbered 1 = .ok (.ifCond .lt 21, 3) := by decide +kernel
theorem d_DK_textNumbered_4 : decode b_DK_textNumbered 4 = .ok (.iload_n 1, 1) := by decide +kernel
theorem d_DK_textNumbered_5 : decode b_DK_textNumbered 5 = .ok (.aload_n 0, 1) := by decide +kernel
theorem d_DK_textNumbered_6 : decode b_DK_textNumbered 6 = .ok (.getfield 11, 3) := by decide +kernel
theorem d_DK_textNumbered_9 : decode b_DK_textNumbered 9 = .ok (.arraylength, 1) := by decide +kernel
theorem d_DK_textNumbered_10 : decode b_DK_textNumbered 10 = .ok (.if_icmp .ge 12, 3) := by decide +kernel
theorem d_DK_textNumbered_13 : decode b_DK_textNumbered 13 = .ok (.aload_n 0, 1) := by decide +kernel
theorem d_DK_textNumbered_14 : decode b_DK_textNumbered 14 = .ok (.getfield 11, 3) := by decide +kernel
theorem d_DK_textNumbered_17 : decode b_DK_textNumbered 17 = .ok (.iload_n 1, 1) := by decide +kernel
theorem d_DK_textNumbered_18 : decode b_DK_textNumbered 18 = .ok (.aaload, 1) := by decide +kernel
theorem d_DK_textNumbered_19 : decode b_DK_textNumbered 19 = .ok (.ifnonnull 13, 3) := by decide +kernel
theorem d_DK_textNumbered_22 : decode b_DK_textNumbered 22 = .ok (.new 41, 3) := by decide +kernel
theorem d_DK_textNumbered_25 : decode b_DK_textNumbered 25 = .ok (.dup, 1) := by decide +kernel
theorem d_DK_textNumbered_26 : decode b_DK_textNumbered 26 = .ok (.ldc 169, 2) := by decide +kernel
theorem d_DK_textNumbered_28 : decode b_DK_textNumbered 28 = .ok (.invokespecial 45, 3) := by decide +kernel
theorem d_DK_textNumbered_31 : decode b_DK_textNumbered 31 = .ok (.athrow, 1) := by decide +kernel
theorem d_DK_textNumbered_32 : decode b_DK_textNumbered 32 = .ok (.aload_n 0, 1) := by decide +kernel
theorem d_DK_textNumbered_33 : decode b_DK_textNumbered 33 = .ok (.getfield 11, 3) := by decide +kernel
theorem d_DK_textNumbered_36 : decode b_DK_textNumbered 36 = .ok (.iload_n 1, 1) := by decide +kernel
theorem d_DK_textNumbered_37 : decode b_DK_textNumbered 37 = .ok (.aaload, 1) := by decide +kernel
theorem d_DK_textNumbered_38 : decode b_DK_textNumbered 38 = .ok (.areturn, 1) := by decide +kernel
theorem d_DK_textOf_0 : decode b_DK_textOf 0 = .ok (.iconst 0, 1) := by decide +kernel
theorem d_DK_textOf_1 : decode b_DK_textOf 1 = .ok (.istore_n 1, 1) := by decide +kernel
theorem d_DK_textOf_2 : decode b_DK_textOf 2 = .ok (.iload_n 1, 1) := by decide +kernel
theorem d_DK_textOf_3 : decode b_DK_textOf 3 = .ok (.aload_n 0, 1) := by decide +kernel
theorem d_DK_textOf_4 : decode b_DK_textOf 4 = .ok (.invokevirtual 60, 3) := by decide +kernel
theorem d_DK_textOf_7 : decode b_DK_textOf 7 = .ok (.if_icmp .ge 29, 3) := by decide +kernel
theorem d_DK_textOf_10 : decode b_DK_textOf 10 = .ok (.aload_n 0, 1) := by decide +kernel
theorem d_DK_textOf_11 : decode b_DK_textOf 11 = .ok (.iload_n 1, 1) := by decide +kernel
theorem d_DK_textOf_12 : decode b_DK_textOf 12 = .ok (.invokevirtual 88, 3) := by decide +kernel
theorem d_DK_textOf_15 : decode b_DK_textOf 15 = .ok (.sipush 256, 3) := by decide +kernel
theorem d_DK_textOf_18 : decode b_DK_textOf 18 = .ok (.if_icmp .lt 12, 3) := by decide +kernel
theorem d_DK_textOf_21 : decode b_DK_textOf 21 = .ok (.new 188, 3) := by decide +kernel
theorem d_DK_textOf_24 : decode b_DK_textOf 24 = .ok (.dup, 1) := by decide +kernel
theorem d_DK_textOf_25 : decode b_DK_textOf 25 = .ok (.aload_n 0, 1) := by decide +kernel
theorem d_DK_textOf_26 : decode b_DK_textOf 26 = .ok (.invokespecial 190, 3) := by decide +kernel
theorem d_DK_textOf_29 : decode b_DK_textOf 29 = .ok (.areturn, 1) := by decide +kernel
theorem d_DK_textOf_30 : decode b_DK_textOf 30 = .ok (.iinc 1 1, 3) := by decide +kernel
theorem d_DK_textOf_33 : decode b_DK_textOf 33 = .ok (.goto (-31), 3) := by decide +kernel
theorem d_DK_textOf_36 : decode b_DK_textOf 36 = .ok (.new 193, 3) := by decide +kernel
theorem d_DK_textOf_39 : decode b_DK_textOf 39 = .ok (.dup, 1) := by decide +kernel
theorem d_DK_textOf_40 : decode b_DK_textOf 40 = .ok (.aload_n 0, 1) := by decide +kernel
theorem d_DK_textOf_41 : decode b_DK_textOf 41 = .ok (.invokespecial 195, 3) := by decide +kernel
theorem d_DK_textOf_44 : decode b_DK_textOf 44 = .ok (.areturn, 1) := by decide +kernel
theorem d_DK_refuseSpilledDraft_0 : decode b_DK_refuseSpilledDraft 0 = .ok (.aload_n 0, 1) := by decide +kernel
theorem d_DK_refuseSpilledDraft_1 : decode b_DK_refuseSpilledDraft 1 = .ok (.getfield 37, 3) := by decide +kernel
theorem d_DK_refuseSpilledDraft_4 : decode b_DK_refuseSpilledDraft 4 = .ok (.invokevirtual 173, 3) := by decide +kernel
theorem d_DK_refuseSpilledDraft_7 : decode b_DK_refuseSpilledDraft 7 = .ok (.ifCond .eq 13, 3) := by decide +kernel
theorem d_DK_refuseSpilledDraft_10 : decode b_DK_refuseSpilledDraft 10 = .ok (.new 52, 3) := by decide +kernel
theorem d_DK_refuseSpilledDraft_13 : decode b_DK_refuseSpilledDraft 13 = .ok (.dup, 1) := by decide +kernel
theorem d_DK_refuseSpilledDraft_14 : decode b_DK_refuseSpilledDraft 14 = .ok (.ldc 176, 2) := by decide +kernel
theorem d_DK_refuseSpilledDraft_16 : decode b_DK_refuseSpilledDraft 16 = .ok (.invokespecial 56, 3) := by decide +kernel
theorem d_DK_refuseSpilledDraft_19 : decode b_DK_refuseSpilledDraft 19 = .ok (.athrow, 1) := by decide +kernel
theorem d_DK_refuseSpilledDraft_20 : decode b_DK_refuseSpilledDraft 20 = .ok (.return_, 1) := by decide +kernel
theorem d_DK_delete_0 : decode b_DK_delete 0 = .ok (.iload_n 1, 1) := by decide +kernel
theorem d_DK_delete_1 : decode b_DK_delete 1 = .ok (.iload_n 2, 1) := by decide +kernel
theorem d_DK_delete_2 : decode b_DK_delete 2 = .ok (.aload_n 0, 1) := by decide +kernel
theorem d_DK_delete_3 : decode b_DK_delete 3 = .ok (.getfield 34, 3) := by decide +kernel
theorem d_DK_delete_6 : decode b_DK_delete 6 = .ok (.invokevirtual 60, 3) := by decide +kernel
theorem d_DK_delete_9 : decode b_DK_delete 9 = .ok (.invokestatic 84, 3) := by decide +kernel
theorem d_DK_delete_12 : decode b_DK_delete 12 = .ok (.aload_n 0, 1) := by decide +kernel
theorem d_DK_delete_13 : decode b_DK_delete 13 = .ok (.getfield 37, 3) := by decide +kernel
theorem d_DK_delete_16 : decode b_DK_delete 16 = .ok (.invokevirtual 70, 3) := by decide +kernel
theorem d_DK_delete_19 : decode b_DK_delete 19 = .ok (.aload_n 0, 1) := by decide +kernel
theorem d_DK_delete_20 : decode b_DK_delete 20 = .ok (.getfield 37, 3) := by decide +kernel
theorem d_DK_delete_23 : decode b_DK_delete 23 = .ok (.aload_n 0, 1) := by decide +kernel
theorem d_DK_delete_24 : decode b_DK_delete 24 = .ok (.getfield 34, 3) := by decide +kernel
theorem d_DK_delete_27 : decode b_DK_delete 27 = .ok (.iconst 0, 1) := by decide +kernel
theorem d_DK_delete_28 : decode b_DK_delete 28 = .ok (.iload_n 1, 1) := by decide +kernel
theorem d_DK_delete_29 : decode b_DK_delete 29 = .ok (.invokevirtual 73, 3) := by decide +kernel
theorem d_DK_delete_32 : decode b_DK_delete 32 = .ok (.aload_n 0, 1) := by decide +kernel
theorem d_DK_delete_33 : decode b_DK_delete 33 = .ok (.getfield 37, 3) := by decide +kernel
theorem d_DK_delete_36 : decode b_DK_delete 36 = .ok (.aload_n 0, 1) := by decide +kernel
theorem d_DK_delete_37 : decode b_DK_delete 37 = .ok (.getfield 34, 3) := by decide +kernel
theorem d_DK_delete_40 : decode b_DK_delete 40 = .ok (.iload_n 2, 1) := by decide +kernel
theorem d_DK_delete_41 : decode b_DK_delete 41 = .ok (.aload_n 0, 1) := by decide +kernel
theorem d_DK_delete_42 : decode b_DK_delete 42 = .ok (.getfield 34, 3) := by decide +kernel
theorem d_DK_delete_45 : decode b_DK_delete 45 = .ok (.invokevirtual 60, 3) := by decide +kernel
theorem d_DK_delete_48 : decode b_DK_delete 48 = .ok (.invokevirtual 73, 3) := by decide +kernel
theorem d_DK_delete_51 : decode b_DK_delete 51 = .ok (.aload_n 0, 1) := by decide +kernel
theorem d_DK_delete_52 : decode b_DK_delete 52 = .ok (.invokevirtual 81, 3) := by decide +kernel
theorem d_DK_delete_55 : decode b_DK_delete 55 = .ok (.return_, 1) := by decide +kernel
theorem d_DK_refuseBadRange_0 : decode b_DK_refuseBadRange 0 = .ok (.iload_n 0, 1) := by decide +kernel
theorem d_DK_refuseBadRange_1 : decode b_DK_refuseBadRange 1 = .ok (.ifCond .lt 13, 3) := by decide +kernel
theorem d_DK_refuseBadRange_4 : decode b_DK_refuseBadRange 4 = .ok (.iload_n 0, 1) := by decide +kernel
theorem d_DK_refuseBadRange_5 : decode b_DK_refuseBadRange 5 = .ok (.iload_n 1, 1) := by decide +kernel
theorem d_DK_refuseBadRange_6 : decode b_DK_refuseBadRange 6 = .ok (.if_icmp .gt 8, 3) := by decide +kernel
theorem d_DK_refuseBadRange_9 : decode b_DK_refuseBadRange 9 = .ok (.iload_n 1, 1) := by decide +kernel
theorem d_DK_refuseBadRange_10 : decode b_DK_refuseBadRange 10 = .ok (.iload_n 2, 1) := by decide +kernel
theorem d_DK_refuseBadRange_11 : decode b_DK_refuseBadRange 11 = .ok (.if_icmp .le 13, 3) := by decide +kernel
theorem d_DK_refuseBadRange_14 : decode b_DK_refuseBadRange 14 = .ok (.new 126, 3) := by decide +kernel
theorem d_DK_refuseBadRange_17 : decode b_DK_refuseBadRange 17 = .ok (.dup, 1) := by decide +kernel
theorem d_DK_refuseBadRange_18 : decode b_DK_refuseBadRange 18 = .ok (.ldc 178, 2) := by decide +kernel
theorem d_DK_refuseBadRange_20 : decode b_DK_refuseBadRange 20 = .ok (.invokespecial 130, 3) := by decide +kernel
theorem d_DK_refuseBadRange_23 : decode b_DK_refuseBadRange 23 = .ok (.athrow, 1) := by decide +kernel
theorem d_DK_refuseBadRange_24 : decode b_DK_refuseBadRange 24 = .ok (.return_, 1) := by decide +kernel
theorem d_DK_built_0 : decode b_DK_built 0 = .ok (.aload_n 0, 1) := by decide +kernel
theorem d_DK_built_1 : decode b_DK_built 1 = .ok (.getfield 34, 3) := by decide +kernel
theorem d_DK_built_4 : decode b_DK_built 4 = .ok (.iload_n 1, 1) := by decide +kernel
theorem d_DK_built_5 : decode b_DK_built 5 = .ok (.invokestatic 96, 3) := by decide +kernel
theorem d_DK_built_8 : decode b_DK_built 8 = .ok (.ireturn, 1) := by decide +kernel
theorem d_DK_sizeOrItem_0 : decode b_DK_sizeOrItem 0 = .ok (.iload_n 1, 1) := by decide +kernel
theorem d_DK_sizeOrItem_1 : decode b_DK_sizeOrItem 1 = .ok (.iconst (-1), 1) := by decide +kernel
theorem d_DK_sizeOrItem_2 : decode b_DK_sizeOrItem 2 = .ok (.if_icmp .ne 8, 3) := by decide +kernel
theorem d_DK_sizeOrItem_5 : decode b_DK_sizeOrItem 5 = .ok (.aload_n 0, 1) := by decide +kernel
theorem d_DK_sizeOrItem_6 : decode b_DK_sizeOrItem 6 = .ok (.invokevirtual 182, 3) := by decide +kernel
theorem d_DK_sizeOrItem_9 : decode b_DK_sizeOrItem 9 = .ok (.ireturn, 1) := by decide +kernel
theorem d_DK_sizeOrItem_10 : decode b_DK_sizeOrItem 10 = .ok (.aload_n 0, 1) := by decide +kernel
theorem d_DK_sizeOrItem_11 : decode b_DK_sizeOrItem 11 = .ok (.iload_n 1, 1) := by decide +kernel
theorem d_DK_sizeOrItem_12 : decode b_DK_sizeOrItem 12 = .ok (.invokevirtual 185, 3) := by decide +kernel
theorem d_DK_sizeOrItem_15 : decode b_DK_sizeOrItem 15 = .ok (.istore_n 2, 1) := by decide +kernel
theorem d_DK_sizeOrItem_16 : decode b_DK_sizeOrItem 16 = .ok (.iload_n 2, 1) := by decide +kernel
theorem d_DK_sizeOrItem_17 : decode b_DK_sizeOrItem 17 = .ok (.iconst (-1), 1) := by decide +kernel
theorem d_DK_sizeOrItem_18 : decode b_DK_sizeOrItem 18 = .ok (.if_icmp .ne 13, 3) := by decide +kernel
theorem d_DK_sizeOrItem_21 : decode b_DK_sizeOrItem 21 = .ok (.new 126, 3) := by decide +kernel
theorem d_DK_sizeOrItem_24 : decode b_DK_sizeOrItem 24 = .ok (.dup, 1) := by decide +kernel
theorem d_DK_sizeOrItem_25 : decode b_DK_sizeOrItem 25 = .ok (.ldc 186, 2) := by decide +kernel
theorem d_DK_sizeOrItem_27 : decode b_DK_sizeOrItem 27 = .ok (.invokespecial 130, 3) := by decide +kernel
theorem d_DK_sizeOrItem_30 : decode b_DK_sizeOrItem 30 = .ok (.athrow, 1) := by decide +kernel
theorem d_DK_sizeOrItem_31 : decode b_DK_sizeOrItem 31 = .ok (.iload_n 2, 1) := by decide +kernel
theorem d_DK_sizeOrItem_32 : decode b_DK_sizeOrItem 32 = .ok (.ireturn, 1) := by decide +kernel
theorem d_DK_take_0 : decode b_DK_take 0 = .ok (.aload_n 0, 1) := by decide +kernel
theorem d_DK_take_1 : decode b_DK_take 1 = .ok (.aload_n 0, 1) := by decide +kernel
theorem d_DK_take_2 : decode b_DK_take 2 = .ok (.getfield 34, 3) := by decide +kernel
theorem d_DK_take_5 : decode b_DK_take 5 = .ok (.invokestatic 100, 3) := by decide +kernel
theorem d_DK_take_8 : decode b_DK_take 8 = .ok (.invokevirtual 104, 3) := by decide +kernel
theorem d_DK_take_11 : decode b_DK_take 11 = .ok (.istore_n 1, 1) := by decide +kernel
theorem d_DK_take_12 : decode b_DK_take 12 = .ok (.aload_n 0, 1) := by decide +kernel
theorem d_DK_take_13 : decode b_DK_take 13 = .ok (.getfield 34, 3) := by decide +kernel
theorem d_DK_take_16 : decode b_DK_take 16 = .ok (.invokevirtual 70, 3) := by decide +kernel
theorem d_DK_take_19 : decode b_DK_take 19 = .ok (.iload_n 1, 1) := by decide +kernel
theorem d_DK_take_20 : decode b_DK_take 20 = .ok (.ireturn, 1) := by decide +kernel
theorem d_DK_keepText_0 : decode b_DK_keepText 0 = .ok (.iconst 0, 1) := by decide +kernel
theorem d_DK_keepText_1 : decode b_DK_keepText 1 = .ok (.istore_n 2, 1) := by decide +kernel
theorem d_DK_keepText_2 : decode b_DK_keepText 2 = .ok (.iload_n 2, 1) := by decide +kernel
theorem d_DK_keepText_3 : decode b_DK_keepText 3 = .ok (.aload_n 0, 1) := by decide +kernel
theorem d_DK_keepText_4 : decode b_DK_keepText 4 = .ok (.getfield 11, 3) := by decide +kernel
theorem d_DK_keepText_7 : decode b_DK_keepText 7 = .ok (.arraylength, 1) := by decide +kernel
theorem d_DK_keepText_8 : decode b_DK_keepText 8 = .ok (.if_icmp .ge 27, 3) := by decide +kernel
theorem d_DK_keepText_11 : decode b_DK_keepText 11 = .ok (.aload_n 0, 1) := by decide +kernel
theorem d_DK_keepText_12 : decode b_DK_keepText 12 = .ok (.getfield 11, 3) := by decide +kernel
theorem d_DK_keepText_15 : decode b_DK_keepText 15 = .ok (.iload_n 2, 1) := by decide +kernel
theorem d_DK_keepText_16 : decode b_DK_keepText 16 = .ok (.aaload, 1) := by decide +kernel
theorem d_DK_keepText_17 : decode b_DK_keepText 17 = .ok (.ifnonnull 12, 3) := by decide +kernel
theorem d_DK_keepText_20 : decode b_DK_keepText 20 = .ok (.aload_n 0, 1) := by decide +kernel
theorem d_DK_keepText_21 : decode b_DK_keepText 21 = .ok (.getfield 11, 3) := by decide +kernel
theorem d_DK_keepText_24 : decode b_DK_keepText 24 = .ok (.iload_n 2, 1) := by decide +kernel
theorem d_DK_keepText_25 : decode b_DK_keepText 25 = .ok (.aload_n 1, 1) := by decide +kernel
theorem d_DK_keepText_26 : decode b_DK_keepText 26 = .ok (.aastore, 1) := by decide +kernel
theorem d_DK_keepText_27 : decode b_DK_keepText 27 = .ok (.iload_n 2, 1) := by decide +kernel
theorem d_DK_keepText_28 : decode b_DK_keepText 28 = .ok (.ireturn, 1) := by decide +kernel
theorem d_DK_keepText_29 : decode b_DK_keepText 29 = .ok (.iinc 2 1, 3) := by decide +kernel
theorem d_DK_keepText_32 : decode b_DK_keepText 32 = .ok (.goto (-30), 3) := by decide +kernel
theorem d_DK_keepText_35 : decode b_DK_keepText 35 = .ok (.new 52, 3) := by decide +kernel
theorem d_DK_keepText_38 : decode b_DK_keepText 38 = .ok (.dup, 1) := by decide +kernel
theorem d_DK_keepText_39 : decode b_DK_keepText 39 = .ok (.ldc 171, 2) := by decide +kernel
theorem d_DK_keepText_41 : decode b_DK_keepText 41 = .ok (.invokespecial 56, 3) := by decide +kernel
theorem d_DK_keepText_44 : decode b_DK_keepText 44 = .ok (.athrow, 1) := by decide +kernel
theorem d_DK_join_0 : decode b_DK_join 0 = .ok (.aload_n 0, 1) := by decide +kernel
theorem d_DK_join_1 : decode b_DK_join 1 = .ok (.iload_n 1, 1) := by decide +kernel
theorem d_DK_join_2 : decode b_DK_join 2 = .ok (.invokevirtual 64, 3) := by decide +kernel
theorem d_DK_join_5 : decode b_DK_join 5 = .ok (.astore_n 3, 1) := by decide +kernel
theorem d_DK_join_6 : decode b_DK_join 6 = .ok (.aload_n 0, 1) := by decide +kernel
theorem d_DK_join_7 : decode b_DK_join 7 = .ok (.iload_n 2, 1) := by decide +kernel
theorem d_DK_join_8 : decode b_DK_join 8 = .ok (.invokevirtual 64, 3) := by decide +kernel
theorem d_DK_join_11 : decode b_DK_join 11 = .ok (.astore 4, 2) := by decide +kernel
theorem d_DK_join_13 : decode b_DK_join 13 = .ok (.aload_n 3, 1) := by decide +kernel
theorem d_DK_join_14 : decode b_DK_join 14 = .ok (.invokevirtual 77, 3) := by decide +kernel
theorem d_DK_join_17 : decode b_DK_join 17 = .ok (.aload 4, 2) := by decide +kernel
theorem d_DK_join_19 : decode b_DK_join 19 = .ok (.invokevirtual 77, 3) := by decide +kernel
theorem d_DK_join_22 : decode b_DK_join 22 = .ok (.iadd, 1) := by decide +kernel
theorem d_DK_join_23 : decode b_DK_join 23 = .ok (.bipush 60, 2) := by decide +kernel
theorem d_DK_join_25 : decode b_DK_join 25 = .ok (.if_icmp .le 13, 3) := by decide +kernel
theorem d_DK_join_28 : decode b_DK_join 28 = .ok (.new 52, 3) := by decide +kernel
theorem d_DK_join_31 : decode b_DK_join 31 = .ok (.dup, 1) := by decide +kernel
theorem d_DK_join_32 : decode b_DK_join 32 = .ok (.ldc 108, 2) := by decide +kernel
theorem d_DK_join_34 : decode b_DK_join 34 = .ok (.invokespecial 56, 3) := by decide +kernel
theorem d_DK_join_37 : decode b_DK_join 37 = .ok (.athrow, 1) := by decide +kernel
theorem d_DK_join_38 : decode b_DK_join 38 = .ok (.aload_n 0, 1) := by decide +kernel
theorem d_DK_join_39 : decode b_DK_join 39 = .ok (.aload_n 3, 1) := by decide +kernel
theorem d_DK_join_40 : decode b_DK_join 40 = .ok (.aload 4, 2) := by decide +kernel
theorem d_DK_join_42 : decode b_DK_join 42 = .ok (.invokestatic 110, 3) := by decide +kernel
theorem d_DK_join_45 : decode b_DK_join 45 = .ok (.invokevirtual 104, 3) := by decide +kernel
theorem d_DK_join_48 : decode b_DK_join 48 = .ok (.ireturn, 1) := by decide +kernel
theorem d_DK_joined_0 : decode b_DK_joined 0 = .ok (.aload_n 0, 1) := by decide +kernel
theorem d_DK_joined_1 : decode b_DK_joined 1 = .ok (.invokevirtual 77, 3) := by decide +kernel
theorem d_DK_joined_4 : decode b_DK_joined 4 = .ok (.ifCond .ne 5, 3) := by decide +kernel
theorem d_DK_joined_7 : decode b_DK_joined 7 = .ok (.aload_n 1, 1) := by decide +kernel
theorem d_DK_joined_8 : decode b_DK_joined 8 = .ok (.areturn, 1) := by decide +kernel
theorem d_DK_joined_9 : decode b_DK_joined 9 = .ok (.aload_n 1, 1) := by decide +kernel
theorem d_DK_joined_10 : decode b_DK_joined 10 = .ok (.invokevirtual 77, 3) := by decide +kernel
theorem d_DK_joined_13 : decode b_DK_joined 13 = .ok (.ifCond .ne 5, 3) := by decide +kernel
theorem d_DK_joined_16 : decode b_DK_joined 16 = .ok (.aload_n 0, 1) := by decide +kernel
theorem d_DK_joined_17 : decode b_DK_joined 17 = .ok (.areturn, 1) := by decide +kernel
theorem d_DK_joined_18 : decode b_DK_joined 18 = .ok (.new 196, 3) := by decide +kernel
theorem d_DK_joined_21 : decode b_DK_joined 21 = .ok (.dup, 1) := by decide +kernel
theorem d_DK_joined_22 : decode b_DK_joined 22 = .ok (.aload_n 0, 1) := by decide +kernel
theorem d_DK_joined_23 : decode b_DK_joined 23 = .ok (.aload_n 1, 1) := by decide +kernel
theorem d_DK_joined_24 : decode b_DK_joined 24 = .ok (.invokespecial 198, 3) := by decide +kernel
theorem d_DK_joined_27 : decode b_DK_joined 27 = .ok (.areturn, 1) := by decide +kernel
theorem d_DK_part_0 : decode b_DK_part 0 = .ok (.aload_n 0, 1) := by decide +kernel
theorem d_DK_part_1 : decode b_DK_part 1 = .ok (.iload_n 1, 1) := by decide +kernel
theorem d_DK_part_2 : decode b_DK_part 2 = .ok (.invokevirtual 64, 3) := by decide +kernel
theorem d_DK_part_5 : decode b_DK_part 5 = .ok (.astore 4, 2) := by decide +kernel
theorem d_DK_part_7 : decode b_DK_part 7 = .ok (.iload_n 2, 1) := by decide +kernel
theorem d_DK_part_8 : decode b_DK_part 8 = .ok (.iload_n 3, 1) := by decide +kernel
theorem d_DK_part_9 : decode b_DK_part 9 = .ok (.aload 4, 2) := by decide +kernel
theorem d_DK_part_11 : decode b_DK_part 11 = .ok (.invokevirtual 77, 3) := by decide +kernel
theorem d_DK_part_14 : decode b_DK_part 14 = .ok (.invokestatic 84, 3) := by decide +kernel
theorem d_DK_part_17 : decode b_DK_part 17 = .ok (.aload_n 0, 1) := by decide +kernel
theorem d_DK_part_18 : decode b_DK_part 18 = .ok (.aload 4, 2) := by decide +kernel
theorem d_DK_part_20 : decode b_DK_part 20 = .ok (.iload_n 2, 1) := by decide +kernel
theorem d_DK_part_21 : decode b_DK_part 21 = .ok (.iload_n 3, 1) := by decide +kernel
theorem d_DK_part_22 : decode b_DK_part 22 = .ok (.invokevirtual 114, 3) := by decide +kernel
theorem d_DK_part_25 : decode b_DK_part 25 = .ok (.ireturn, 1) := by decide +kernel
theorem d_DK_keepRange_0 : decode b_DK_keepRange 0 = .ok (.aload_n 0, 1) := by decide +kernel
theorem d_DK_keepRange_1 : decode b_DK_keepRange 1 = .ok (.getfield 37, 3) := by decide +kernel
theorem d_DK_keepRange_4 : decode b_DK_keepRange 4 = .ok (.invokevirtual 70, 3) := by decide +kernel
theorem d_DK_keepRange_7 : decode b_DK_keepRange 7 = .ok (.aload_n 0, 1) := by decide +kernel
theorem d_DK_keepRange_8 : decode b_DK_keepRange 8 = .ok (.getfield 37, 3) := by decide +kernel
theorem d_DK_keepRange_11 : decode b_DK_keepRange 11 = .ok (.aload_n 1, 1) := by decide +kernel
theorem d_DK_keepRange_12 : decode b_DK_keepRange 12 = .ok (.iload_n 2, 1) := by decide +kernel
theorem d_DK_keepRange_13 : decode b_DK_keepRange 13 = .ok (.iload_n 3, 1) := by decide +kernel
theorem d_DK_keepRange_14 : decode b_DK_keepRange 14 = .ok (.invokevirtual 73, 3) := by decide +kernel
theorem d_DK_keepRange_17 : decode b_DK_keepRange 17 = .ok (.aload_n 0, 1) := by decide +kernel
theorem d_DK_keepRange_18 : decode b_DK_keepRange 18 = .ok (.aload_n 0, 1) := by decide +kernel
theorem d_DK_keepRange_19 : decode b_DK_keepRange 19 = .ok (.getfield 37, 3) := by decide +kernel
theorem d_DK_keepRange_22 : decode b_DK_keepRange 22 = .ok (.invokestatic 100, 3) := by decide +kernel
theorem d_DK_keepRange_25 : decode b_DK_keepRange 25 = .ok (.invokevirtual 104, 3) := by decide +kernel
theorem d_DK_keepRange_28 : decode b_DK_keepRange 28 = .ok (.ireturn, 1) := by decide +kernel
theorem d_DK_replace_0 : decode b_DK_replace 0 = .ok (.aload_n 0, 1) := by decide +kernel
theorem d_DK_replace_1 : decode b_DK_replace 1 = .ok (.iload_n 1, 1) := by decide +kernel
theorem d_DK_replace_2 : decode b_DK_replace 2 = .ok (.invokevirtual 64, 3) := by decide +kernel
theorem d_DK_replace_5 : decode b_DK_replace 5 = .ok (.astore 4, 2) := by decide +kernel
theorem d_DK_replace_7 : decode b_DK_replace 7 = .ok (.aload_n 0, 1) := by decide +kernel
theorem d_DK_replace_8 : decode b_DK_replace 8 = .ok (.iload_n 2, 1) := by decide +kernel
theorem d_DK_replace_9 : decode b_DK_replace 9 = .ok (.invokevirtual 64, 3) := by decide +kernel
theorem d_DK_replace_12 : decode b_DK_replace 12 = .ok (.astore 5, 2) := by decide +kernel
theorem d_DK_replace_14 : decode b_DK_replace 14 = .ok (.aload_n 0, 1) := by decide +kernel
theorem d_DK_replace_15 : decode b_DK_replace 15 = .ok (.iload_n 3, 1) := by decide +kernel
theorem d_DK_replace_16 : decode b_DK_replace 16 = .ok (.invokevirtual 64, 3) := by decide +kernel
theorem d_DK_replace_19 : decode b_DK_replace 19 = .ok (.astore 6, 2) := by decide +kernel
theorem d_DK_replace_21 : decode b_DK_replace 21 = .ok (.aload_n 0, 1) := by decide +kernel
theorem d_DK_replace_22 : decode b_DK_replace 22 = .ok (.getfield 37, 3) := by decide +kernel
theorem d_DK_replace_25 : decode b_DK_replace 25 = .ok (.invokevirtual 70, 3) := by decide +kernel
theorem d_DK_replace_28 : decode b_DK_replace 28 = .ok (.iconst 0, 1) := by decide +kernel
theorem d_DK_replace_29 : decode b_DK_replace 29 = .ok (.istore 7, 2) := by decide +kernel
theorem d_DK_replace_31 : decode b_DK_replace 31 = .ok (.iload 7, 2) := by decide +kernel
theorem d_DK_replace_33 : decode b_DK_replace 33 = .ok (.aload 4, 2) := by decide +kernel
theorem d_DK_replace_35 : decode b_DK_replace 35 = .ok (.invokevirtual 77, 3) := by decide +kernel
theorem d_DK_replace_38 : decode b_DK_replace 38 = .ok (.if_icmp .gt 83, 3) := by decide +kernel
theorem d_DK_replace_41 : decode b_DK_replace 41 = .ok (.aload 4, 2) := by decide +kernel
theorem d_DK_replace_43 : decode b_DK_replace 43 = .ok (.aload 5, 2) := by decide +kernel
theorem d_DK_replace_45 : decode b_DK_replace 45 = .ok (.iload 7, 2) := by decide +kernel
theorem d_DK_replace_47 : decode b_DK_replace 47 = .ok (.invokestatic 118, 3) := by decide +kernel
theorem d_DK_replace_50 : decode b_DK_replace 50 = .ok (.istore 8, 2) := by decide +kernel
theorem d_DK_replace_52 : decode b_DK_replace 52 = .ok (.iload 8, 2) := by decide +kernel
theorem d_DK_replace_54 : decode b_DK_replace 54 = .ok (.ifCond .eq 18, 3) := by decide +kernel
theorem d_DK_replace_57 : decode b_DK_replace 57 = .ok (.aload_n 0, 1) := by decide +kernel
theorem d_DK_replace_58 : decode b_DK_replace 58 = .ok (.getfield 37, 3) := by decide +kernel
theorem d_DK_replace_61 : decode b_DK_replace 61 = .ok (.aload 6, 2) := by decide +kernel
theorem d_DK_replace_63 : decode b_DK_replace 63 = .ok (.iconst 0, 1) := by decide +kernel
theorem d_DK_replace_64 : decode b_DK_replace 64 = .ok (.aload 6, 2) := by decide +kernel
theorem d_DK_replace_66 : decode b_DK_replace 66 = .ok (.invokevirtual 77, 3) := by decide +kernel
theorem d_DK_replace_69 : decode b_DK_replace 69 = .ok (.invokevirtual 73, 3) := by decide +kernel
theorem d_DK_replace_72 : decode b_DK_replace 72 = .ok (.iload 8, 2) := by decide +kernel
theorem d_DK_replace_74 : decode b_DK_replace 74 = .ok (.ifCond .eq 26, 3) := by decide +kernel
theorem d_DK_replace_77 : decode b_DK_replace 77 = .ok (.aload 5, 2) := by decide +kernel
theorem d_DK_replace_79 : decode b_DK_replace 79 = .ok (.invokevirtual 77, 3) := by decide +kernel
theorem d_DK_replace_82 : decode b_DK_replace 82 = .ok (.ifCond .le 18, 3) := by decide +kernel
theorem d_DK_replace_85 : decode b_DK_replace 85 = .ok (.iload 7, 2) := by decide +kernel
theorem d_DK_replace_87 : decode b_DK_replace 87 = .ok (.aload 5, 2) := by decide +kernel
theorem d_DK_replace_89 : decode b_DK_replace 89 = .ok (.invokevirtual 77, 3) := by decide +kernel
theorem d_DK_replace_92 : decode b_DK_replace 92 = .ok (.iconst 1, 1) := by decide +kernel
theorem d_DK_replace_93 : decode b_DK_replace 93 = .ok (.isub, 1) := by decide +kernel
theorem d_DK_replace_94 : decode b_DK_replace 94 = .ok (.iadd, 1) := by decide +kernel
theorem d_DK_replace_95 : decode b_DK_replace 95 = .ok (.istore 7, 2) := by decide +kernel
theorem d_DK_replace_97 : decode b_DK_replace 97 = .ok (.goto 18, 3) := by decide +kernel
theorem d_DK_replace_100 : decode b_DK_replace 100 = .ok (.aload_n 0, 1) := by decide +kernel
theorem d_DK_replace_101 : decode b_DK_replace 101 = .ok (.getfield 37, 3) := by decide +kernel
theorem d_DK_replace_104 : decode b_DK_replace 104 = .ok (.aload 4, 2) := by decide +kernel
theorem d_DK_replace_106 : decode b_DK_replace 106 = .ok (.iload 7, 2) := by decide +kernel
theorem d_DK_replace_108 : decode b_DK_replace 108 = .ok (.iload 7, 2) := by decide +kernel
theorem d_DK_replace_110 : decode b_DK_replace 110 = .ok (.iconst 1, 1) := by decide +kernel
theorem d_DK_replace_111 : decode b_DK_replace 111 = .ok (.iadd, 1) := by decide +kernel
theorem d_DK_replace_112 : decode b_DK_replace 112 = .ok (.invokevirtual 73, 3) := by decide +kernel
theorem d_DK_replace_115 : decode b_DK_replace 115 = .ok (.iinc 7 1, 3) := by decide +kernel
theorem d_DK_replace_118 : decode b_DK_replace 118 = .ok (.goto (-87), 3) := by decide +kernel
theorem d_DK_replace_121 : decode b_DK_replace 121 = .ok (.aload_n 0, 1) := by decide +kernel
theorem d_DK_replace_122 : decode b_DK_replace 122 = .ok (.invokevirtual 78, 3) := by decide +kernel
theorem d_DK_replace_125 : decode b_DK_replace 125 = .ok (.aload_n 0, 1) := by decide +kernel
theorem d_DK_replace_126 : decode b_DK_replace 126 = .ok (.aload_n 0, 1) := by decide +kernel
theorem d_DK_replace_127 : decode b_DK_replace 127 = .ok (.getfield 37, 3) := by decide +kernel
theorem d_DK_replace_130 : decode b_DK_replace 130 = .ok (.invokestatic 100, 3) := by decide +kernel
theorem d_DK_replace_133 : decode b_DK_replace 133 = .ok (.invokevirtual 104, 3) := by decide +kernel
theorem d_DK_replace_136 : decode b_DK_replace 136 = .ok (.ireturn, 1) := by decide +kernel
theorem d_DK_standsAt_0 : decode b_DK_standsAt 0 = .ok (.iload_n 2, 1) := by decide +kernel
theorem d_DK_standsAt_1 : decode b_DK_standsAt 1 = .ok (.aload_n 0, 1) := by decide +kernel
theorem d_DK_standsAt_2 : decode b_DK_standsAt 2 = .ok (.invokevirtual 77, 3) := by decide +kernel
theorem d_DK_standsAt_5 : decode b_DK_standsAt 5 = .ok (.aload_n 1, 1) := by decide +kernel
theorem d_DK_standsAt_6 : decode b_DK_standsAt 6 = .ok (.invokevirtual 77, 3) := by decide +kernel
theorem d_DK_standsAt_9 : decode b_DK_standsAt 9 = .ok (.isub, 1) := by decide +kernel
theorem d_DK_standsAt_10 : decode b_DK_standsAt 10 = .ok (.if_icmp .le 5, 3) := by decide +kernel
theorem d_DK_standsAt_13 : decode b_DK_standsAt 13 = .ok (.iconst 0, 1) := by decide +kernel
theorem d_DK_standsAt_14 : decode b_DK_standsAt 14 = .ok (.ireturn, 1) := by decide +kernel
theorem d_DK_standsAt_15 : decode b_DK_standsAt 15 = .ok (.iconst 0, 1) := by decide +kernel
theorem d_DK_standsAt_16 : decode b_DK_standsAt 16 = .ok (.istore_n 3, 1) := by decide +kernel
theorem d_DK_standsAt_17 : decode b_DK_standsAt 17 = .ok (.iload_n 3, 1) := by decide +kernel
theorem d_DK_standsAt_18 : decode b_DK_standsAt 18 = .ok (.aload_n 1, 1) := by decide +kernel
theorem d_DK_standsAt_19 : decode b_DK_standsAt 19 = .ok (.invokevirtual 77, 3) := by decide +kernel
theorem d_DK_standsAt_22 : decode b_DK_standsAt 22 = .ok (.if_icmp .ge 26, 3) := by decide +kernel
theorem d_DK_standsAt_25 : decode b_DK_standsAt 25 = .ok (.aload_n 0, 1) := by decide +kernel
theorem d_DK_standsAt_26 : decode b_DK_standsAt 26 = .ok (.iload_n 2, 1) := by decide +kernel
theorem d_DK_standsAt_27 : decode b_DK_standsAt 27 = .ok (.iload_n 3, 1) := by decide +kernel
theorem d_DK_standsAt_28 : decode b_DK_standsAt 28 = .ok (.iadd, 1) := by decide +kernel
theorem d_DK_standsAt_29 : decode b_DK_standsAt 29 = .ok (.invokevirtual 122, 3) := by decide +kernel
theorem d_DK_standsAt_32 : decode b_DK_standsAt 32 = .ok (.aload_n 1, 1) := by decide +kernel
theorem d_DK_standsAt_33 : decode b_DK_standsAt 33 = .ok (.iload_n 3, 1) := by decide +kernel
theorem d_DK_standsAt_34 : decode b_DK_standsAt 34 = .ok (.invokevirtual 122, 3) := by decide +kernel
theorem d_DK_standsAt_37 : decode b_DK_standsAt 37 = .ok (.if_icmp .eq 5, 3) := by decide +kernel
theorem d_DK_standsAt_40 : decode b_DK_standsAt 40 = .ok (.iconst 0, 1) := by decide +kernel
theorem d_DK_standsAt_41 : decode b_DK_standsAt 41 = .ok (.ireturn, 1) := by decide +kernel
theorem d_DK_standsAt_42 : decode b_DK_standsAt 42 = .ok (.iinc 3 1, 3) := by decide +kernel
theorem d_DK_standsAt_45 : decode b_DK_standsAt 45 = .ok (.goto (-28), 3) := by decide +kernel
theorem d_DK_standsAt_48 : decode b_DK_standsAt 48 = .ok (.iconst 1, 1) := by decide +kernel
theorem d_DK_standsAt_49 : decode b_DK_standsAt 49 = .ok (.ireturn, 1) := by decide +kernel
theorem d_DK_strip_0 : decode b_DK_strip 0 = .ok (.aload_n 0, 1) := by decide +kernel
theorem d_DK_strip_1 : decode b_DK_strip 1 = .ok (.iload_n 1, 1) := by decide +kernel
theorem d_DK_strip_2 : decode b_DK_strip 2 = .ok (.invokevirtual 64, 3) := by decide +kernel
theorem d_DK_strip_5 : decode b_DK_strip 5 = .ok (.astore_n 2, 1) := by decide +kernel
theorem d_DK_strip_6 : decode b_DK_strip 6 = .ok (.iconst 0, 1) := by decide +kernel
theorem d_DK_strip_7 : decode b_DK_strip 7 = .ok (.istore_n 3, 1) := by decide +kernel
theorem d_DK_strip_8 : decode b_DK_strip 8 = .ok (.iload_n 3, 1) := by decide +kernel
theorem d_DK_strip_9 : decode b_DK_strip 9 = .ok (.aload_n 2, 1) := by decide +kernel
theorem d_DK_strip_10 : decode b_DK_strip 10 = .ok (.invokevirtual 77, 3) := by decide +kernel
theorem d_DK_strip_13 : decode b_DK_strip 13 = .ok (.if_icmp .ge 19, 3) := by decide +kernel
theorem d_DK_strip_16 : decode b_DK_strip 16 = .ok (.aload_n 2, 1) := by decide +kernel
theorem d_DK_strip_17 : decode b_DK_strip 17 = .ok (.iload_n 3, 1) := by decide +kernel
theorem d_DK_strip_18 : decode b_DK_strip 18 = .ok (.invokevirtual 122, 3) := by decide +kernel
theorem d_DK_strip_21 : decode b_DK_strip 21 = .ok (.bipush 32, 2) := by decide +kernel
theorem d_DK_strip_23 : decode b_DK_strip 23 = .ok (.if_icmp .gt 9, 3) := by decide +kernel
theorem d_DK_strip_26 : decode b_DK_strip 26 = .ok (.iinc 3 1, 3) := by decide +kernel
theorem d_DK_strip_29 : decode b_DK_strip 29 = .ok (.goto (-21), 3) := by decide +kernel
theorem d_DK_strip_32 : decode b_DK_strip 32 = .ok (.aload_n 2, 1) := by decide +kernel
theorem d_DK_strip_33 : decode b_DK_strip 33 = .ok (.invokevirtual 77, 3) := by decide +kernel
theorem d_DK_strip_36 : decode b_DK_strip 36 = .ok (.istore 4, 2) := by decide +kernel
theorem d_DK_strip_38 : decode b_DK_strip 38 = .ok (.iload 4, 2) := by decide +kernel
theorem d_DK_strip_40 : decode b_DK_strip 40 = .ok (.iload_n 3, 1) := by decide +kernel
theorem d_DK_strip_41 : decode b_DK_strip 41 = .ok (.if_icmp .le 22, 3) := by decide +kernel
theorem d_DK_strip_44 : decode b_DK_strip 44 = .ok (.aload_n 2, 1) := by decide +kernel
theorem d_DK_strip_45 : decode b_DK_strip 45 = .ok (.iload 4, 2) := by decide +kernel
theorem d_DK_strip_47 : decode b_DK_strip 47 = .ok (.iconst 1, 1) := by decide +kernel
theorem d_DK_strip_48 : decode b_DK_strip 48 = .ok (.isub, 1) := by decide +kernel
theorem d_DK_strip_49 : decode b_DK_strip 49 = .ok (.invokevirtual 122, 3) := by decide +kernel
theorem d_DK_strip_52 : decode b_DK_strip 52 = .ok (.bipush 32, 2) := by decide +kernel
theorem d_DK_strip_54 : decode b_DK_strip 54 = .ok (.if_icmp .gt 9, 3) := by decide +kernel
theorem d_DK_strip_57 : decode b_DK_strip 57 = .ok (.iinc 4 (-1), 3) := by decide +kernel
theorem d_DK_strip_60 : decode b_DK_strip 60 = .ok (.goto (-22), 3) := by decide +kernel
theorem d_DK_strip_63 : decode b_DK_strip 63 = .ok (.aload_n 0, 1) := by decide +kernel
theorem d_DK_strip_64 : decode b_DK_strip 64 = .ok (.aload_n 2, 1) := by decide +kernel
theorem d_DK_strip_65 : decode b_DK_strip 65 = .ok (.iload_n 3, 1) := by decide +kernel
theorem d_DK_strip_66 : decode b_DK_strip 66 = .ok (.iload 4, 2) := by decide +kernel
theorem d_DK_strip_68 : decode b_DK_strip 68 = .ok (.invokevirtual 114, 3) := by decide +kernel
theorem d_DK_strip_71 : decode b_DK_strip 71 = .ok (.ireturn, 1) := by decide +kernel
theorem d_DK_at_0 : decode b_DK_at 0 = .ok (.aload_n 0, 1) := by decide +kernel
theorem d_DK_at_1 : decode b_DK_at 1 = .ok (.iload_n 1, 1) := by decide +kernel
theorem d_DK_at_2 : decode b_DK_at 2 = .ok (.invokevirtual 64, 3) := by decide +kernel
theorem d_DK_at_5 : decode b_DK_at 5 = .ok (.iload_n 2, 1) := by decide +kernel
theorem d_DK_at_6 : decode b_DK_at 6 = .ok (.invokestatic 96, 3) := by decide +kernel
theorem d_DK_at_9 : decode b_DK_at 9 = .ok (.ireturn, 1) := by decide +kernel
theorem d_DK_character_0 : decode b_DK_character 0 = .ok (.aload_n 0, 1) := by decide +kernel
theorem d_DK_character_1 : decode b_DK_character 1 = .ok (.iload_n 1, 1) := by decide +kernel
theorem d_DK_character_2 : decode b_DK_character 2 = .ok (.invokevirtual 64, 3) := by decide +kernel
theorem d_DK_character_5 : decode b_DK_character 5 = .ok (.astore_n 3, 1) := by decide +kernel
theorem d_DK_character_6 : decode b_DK_character 6 = .ok (.iconst 0, 1) := by decide +kernel
theorem d_DK_character_7 : decode b_DK_character 7 = .ok (.istore 4, 2) := by decide +kernel
theorem d_DK_character_9 : decode b_DK_character 9 = .ok (.iconst 0, 1) := by decide +kernel
theorem d_DK_character_10 : decode b_DK_character 10 = .ok (.istore 5, 2) := by decide +kernel
theorem d_DK_character_12 : decode b_DK_character 12 = .ok (.iload 5, 2) := by decide +kernel
theorem d_DK_character_14 : decode b_DK_character 14 = .ok (.aload_n 3, 1) := by decide +kernel
theorem d_DK_character_15 : decode b_DK_character 15 = .ok (.invokevirtual 77, 3) := by decide +kernel
theorem d_DK_character_18 : decode b_DK_character 18 = .ok (.if_icmp .ge 39, 3) := by decide +kernel
theorem d_DK_character_21 : decode b_DK_character 21 = .ok (.aload_n 3, 1) := by decide +kernel
theorem d_DK_character_22 : decode b_DK_character 22 = .ok (.iload 5, 2) := by decide +kernel
theorem d_DK_character_24 : decode b_DK_character 24 = .ok (.invokestatic 123, 3) := by decide +kernel
theorem d_DK_character_27 : decode b_DK_character 27 = .ok (.istore 6, 2) := by decide +kernel
theorem d_DK_character_29 : decode b_DK_character 29 = .ok (.iload 4, 2) := by decide +kernel
theorem d_DK_character_31 : decode b_DK_character 31 = .ok (.iload_n 2, 1) := by decide +kernel
theorem d_DK_character_32 : decode b_DK_character 32 = .ok (.if_icmp .ne 6, 3) := by decide +kernel
theorem d_DK_character_35 : decode b_DK_character 35 = .ok (.iload 6, 2) := by decide +kernel
theorem d_DK_character_37 : decode b_DK_character 37 = .ok (.ireturn, 1) := by decide +kernel
theorem d_DK_character_38 : decode b_DK_character 38 = .ok (.iinc 4 1, 3) := by decide +kernel
theorem d_DK_character_41 : decode b_DK_character 41 = .ok (.iload 6, 2) := by decide +kernel
theorem d_DK_character_43 : decode b_DK_character 43 = .ok (.ldc 40, 2) := by decide +kernel
theorem d_DK_character_45 : decode b_DK_character 45 = .ok (.if_icmp .lt 6, 3) := by decide +kernel
theorem d_DK_character_48 : decode b_DK_character 48 = .ok (.iinc 5 1, 3) := by decide +kernel
theorem d_DK_character_51 : decode b_DK_character 51 = .ok (.iinc 5 1, 3) := by decide +kernel
theorem d_DK_character_54 : decode b_DK_character 54 = .ok (.goto (-42), 3) := by decide +kernel
theorem d_DK_character_57 : decode b_DK_character 57 = .ok (.iload_n 2, 1) := by decide +kernel
theorem d_DK_character_58 : decode b_DK_character 58 = .ok (.iconst (-1), 1) := by decide +kernel
theorem d_DK_character_59 : decode b_DK_character 59 = .ok (.if_icmp .eq 13, 3) := by decide +kernel
theorem d_DK_character_62 : decode b_DK_character 62 = .ok (.new 126, 3) := by decide +kernel
theorem d_DK_character_65 : decode b_DK_character 65 = .ok (.dup, 1) := by decide +kernel
theorem d_DK_character_66 : decode b_DK_character 66 = .ok (.ldc 128, 2) := by decide +kernel
theorem d_DK_character_68 : decode b_DK_character 68 = .ok (.invokespecial 130, 3) := by decide +kernel
theorem d_DK_character_71 : decode b_DK_character 71 = .ok (.athrow, 1) := by decide +kernel
theorem d_DK_character_72 : decode b_DK_character 72 = .ok (.iload 4, 2) := by decide +kernel
theorem d_DK_character_74 : decode b_DK_character 74 = .ok (.ireturn, 1) := by decide +kernel
theorem d_DK_characterAt_0 : decode b_DK_characterAt 0 = .ok (.aload_n 0, 1) := by decide +kernel
theorem d_DK_characterAt_1 : decode b_DK_characterAt 1 = .ok (.iload_n 1, 1) := by decide +kernel
theorem d_DK_characterAt_2 : decode b_DK_characterAt 2 = .ok (.invokevirtual 185, 3) := by decide +kernel
theorem d_DK_characterAt_5 : decode b_DK_characterAt 5 = .ok (.istore_n 2, 1) := by decide +kernel
theorem d_DK_characterAt_6 : decode b_DK_characterAt 6 = .ok (.aload_n 0, 1) := by decide +kernel
theorem d_DK_characterAt_7 : decode b_DK_characterAt 7 = .ok (.iload_n 1, 1) := by decide +kernel
theorem d_DK_characterAt_8 : decode b_DK_characterAt 8 = .ok (.iconst 1, 1) := by decide +kernel
theorem d_DK_characterAt_9 : decode b_DK_characterAt 9 = .ok (.iadd, 1) := by decide +kernel
theorem d_DK_characterAt_10 : decode b_DK_characterAt 10 = .ok (.invokevirtual 185, 3) := by decide +kernel
theorem d_DK_characterAt_13 : decode b_DK_characterAt 13 = .ok (.istore_n 3, 1) := by decide +kernel
theorem d_DK_characterAt_14 : decode b_DK_characterAt 14 = .ok (.iload_n 2, 1) := by decide +kernel
theorem d_DK_characterAt_15 : decode b_DK_characterAt 15 = .ok (.iload_n 3, 1) := by decide +kernel
theorem d_DK_characterAt_16 : decode b_DK_characterAt 16 = .ok (.invokestatic 92, 3) := by decide +kernel
theorem d_DK_characterAt_19 : decode b_DK_characterAt 19 = .ok (.ifCond .ne 5, 3) := by decide +kernel
theorem d_DK_characterAt_22 : decode b_DK_characterAt 22 = .ok (.iload_n 2, 1) := by decide +kernel
theorem d_DK_characterAt_23 : decode b_DK_characterAt 23 = .ok (.ireturn, 1) := by decide +kernel
theorem d_DK_characterAt_24 : decode b_DK_characterAt 24 = .ok (.ldc 40, 2) := by decide +kernel
theorem d_DK_characterAt_26 : decode b_DK_characterAt 26 = .ok (.iload_n 2, 1) := by decide +kernel
theorem d_DK_characterAt_27 : decode b_DK_characterAt 27 = .ok (.ldc 201, 2) := by decide +kernel
theorem d_DK_characterAt_29 : decode b_DK_characterAt 29 = .ok (.isub, 1) := by decide +kernel
theorem d_DK_characterAt_30 : decode b_DK_characterAt 30 = .ok (.sipush 1024, 3) := by decide +kernel
theorem d_DK_characterAt_33 : decode b_DK_characterAt 33 = .ok (.imul, 1) := by decide +kernel
theorem d_DK_characterAt_34 : decode b_DK_characterAt 34 = .ok (.iadd, 1) := by decide +kernel
theorem d_DK_characterAt_35 : decode b_DK_characterAt 35 = .ok (.iload_n 3, 1) := by decide +kernel
theorem d_DK_characterAt_36 : decode b_DK_characterAt 36 = .ok (.iadd, 1) := by decide +kernel
theorem d_DK_characterAt_37 : decode b_DK_characterAt 37 = .ok (.ldc 202, 2) := by decide +kernel
theorem d_DK_characterAt_39 : decode b_DK_characterAt 39 = .ok (.isub, 1) := by decide +kernel
theorem d_DK_characterAt_40 : decode b_DK_characterAt 40 = .ok (.ireturn, 1) := by decide +kernel
theorem d_DK_narrow_0 : decode b_DK_narrow 0 = .ok (.aload_n 0, 1) := by decide +kernel
theorem d_DK_narrow_1 : decode b_DK_narrow 1 = .ok (.iload_n 1, 1) := by decide +kernel
theorem d_DK_narrow_2 : decode b_DK_narrow 2 = .ok (.invokevirtual 64, 3) := by decide +kernel
theorem d_DK_narrow_5 : decode b_DK_narrow 5 = .ok (.invokevirtual 131, 3) := by decide +kernel
theorem d_DK_narrow_8 : decode b_DK_narrow 8 = .ok (.ireturn, 1) := by decide +kernel
theorem d_DK_hash_0 : decode b_DK_hash 0 = .ok (.aload_n 0, 1) := by decide +kernel
theorem d_DK_hash_1 : decode b_DK_hash 1 = .ok (.iload_n 1, 1) := by decide +kernel
theorem d_DK_hash_2 : decode b_DK_hash 2 = .ok (.invokevirtual 64, 3) := by decide +kernel
theorem d_DK_hash_5 : decode b_DK_hash 5 = .ok (.astore_n 2, 1) := by decide +kernel
theorem d_DK_hash_6 : decode b_DK_hash 6 = .ok (.iconst 0, 1) := by decide +kernel
theorem d_DK_hash_7 : decode b_DK_hash 7 = .ok (.istore_n 3, 1) := by decide +kernel
theorem d_DK_hash_8 : decode b_DK_hash 8 = .ok (.iconst 0, 1) := by decide +kernel
theorem d_DK_hash_9 : decode b_DK_hash 9 = .ok (.istore 4, 2) := by decide +kernel
theorem d_DK_hash_11 : decode b_DK_hash 11 = .ok (.iload 4, 2) := by decide +kernel
theorem d_DK_hash_13 : decode b_DK_hash 13 = .ok (.aload_n 2, 1) := by decide +kernel
theorem d_DK_hash_14 : decode b_DK_hash 14 = .ok (.invokevirtual 77, 3) := by decide +kernel
theorem d_DK_hash_17 : decode b_DK_hash 17 = .ok (.if_icmp .ge 21, 3) := by decide +kernel
theorem d_DK_hash_20 : decode b_DK_hash 20 = .ok (.bipush 31, 2) := by decide +kernel
theorem d_DK_hash_22 : decode b_DK_hash 22 = .ok (.iload_n 3, 1) := by decide +kernel
theorem d_DK_hash_23 : decode b_DK_hash 23 = .ok (.imul, 1) := by decide +kernel
theorem d_DK_hash_24 : decode b_DK_hash 24 = .ok (.aload_n 2, 1) := by decide +kernel
theorem d_DK_hash_25 : decode b_DK_hash 25 = .ok (.iload 4, 2) := by decide +kernel
theorem d_DK_hash_27 : decode b_DK_hash 27 = .ok (.invokevirtual 122, 3) := by decide +kernel
theorem d_DK_hash_30 : decode b_DK_hash 30 = .ok (.iadd, 1) := by decide +kernel
theorem d_DK_hash_31 : decode b_DK_hash 31 = .ok (.istore_n 3, 1) := by decide +kernel
theorem d_DK_hash_32 : decode b_DK_hash 32 = .ok (.iinc 4 1, 3) := by decide +kernel
theorem d_DK_hash_35 : decode b_DK_hash 35 = .ok (.goto (-24), 3) := by decide +kernel
theorem d_DK_hash_38 : decode b_DK_hash 38 = .ok (.iload_n 3, 1) := by decide +kernel
theorem d_DK_hash_39 : decode b_DK_hash 39 = .ok (.ireturn, 1) := by decide +kernel
theorem d_DK_compare_0 : decode b_DK_compare 0 = .ok (.aload_n 0, 1) := by decide +kernel
theorem d_DK_compare_1 : decode b_DK_compare 1 = .ok (.iload_n 1, 1) := by decide +kernel
theorem d_DK_compare_2 : decode b_DK_compare 2 = .ok (.invokevirtual 64, 3) := by decide +kernel
theorem d_DK_compare_5 : decode b_DK_compare 5 = .ok (.aload_n 0, 1) := by decide +kernel
theorem d_DK_compare_6 : decode b_DK_compare 6 = .ok (.iload_n 2, 1) := by decide +kernel
theorem d_DK_compare_7 : decode b_DK_compare 7 = .ok (.invokevirtual 64, 3) := by decide +kernel
theorem d_DK_compare_10 : decode b_DK_compare 10 = .ok (.invokestatic 134, 3) := by decide +kernel
theorem d_DK_compare_13 : decode b_DK_compare 13 = .ok (.ireturn, 1) := by decide +kernel
theorem d_DK_difference_0 : decode b_DK_difference 0 = .ok (.aload_n 0, 1) := by decide +kernel
theorem d_DK_difference_1 : decode b_DK_difference 1 = .ok (.invokevirtual 77, 3) := by decide +kernel
theorem d_DK_difference_4 : decode b_DK_difference 4 = .ok (.aload_n 1, 1) := by decide +kernel
theorem d_DK_difference_5 : decode b_DK_difference 5 = .ok (.invokevirtual 77, 3) := by decide +kernel
theorem d_DK_difference_8 : decode b_DK_difference 8 = .ok (.invokestatic 211, 3) := by decide +kernel
theorem d_DK_difference_11 : decode b_DK_difference 11 = .ok (.istore_n 2, 1) := by decide +kernel
theorem d_DK_difference_12 : decode b_DK_difference 12 = .ok (.iconst 0, 1) := by decide +kernel
theorem d_DK_difference_13 : decode b_DK_difference 13 = .ok (.istore_n 3, 1) := by decide +kernel
theorem d_DK_difference_14 : decode b_DK_difference 14 = .ok (.iload_n 3, 1) := by decide +kernel
theorem d_DK_difference_15 : decode b_DK_difference 15 = .ok (.iload_n 2, 1) := by decide +kernel
theorem d_DK_difference_16 : decode b_DK_difference 16 = .ok (.if_icmp .ge 34, 3) := by decide +kernel
theorem d_DK_difference_19 : decode b_DK_difference 19 = .ok (.aload_n 0, 1) := by decide +kernel
theorem d_DK_difference_20 : decode b_DK_difference 20 = .ok (.iload_n 3, 1) := by decide +kernel
theorem d_DK_difference_21 : decode b_DK_difference 21 = .ok (.invokevirtual 122, 3) := by decide +kernel
theorem d_DK_difference_24 : decode b_DK_difference 24 = .ok (.aload_n 1, 1) := by decide +kernel
theorem d_DK_difference_25 : decode b_DK_difference 25 = .ok (.iload_n 3, 1) := by decide +kernel
theorem d_DK_difference_26 : decode b_DK_difference 26 = .ok (.invokevirtual 122, 3) := by decide +kernel
theorem d_DK_difference_29 : decode b_DK_difference 29 = .ok (.if_icmp .eq 15, 3) := by decide +kernel
theorem d_DK_difference_32 : decode b_DK_difference 32 = .ok (.aload_n 0, 1) := by decide +kernel
theorem d_DK_difference_33 : decode b_DK_difference 33 = .ok (.iload_n 3, 1) := by decide +kernel
theorem d_DK_difference_34 : decode b_DK_difference 34 = .ok (.invokevirtual 122, 3) := by decide +kernel
theorem d_DK_difference_37 : decode b_DK_difference 37 = .ok (.aload_n 1, 1) := by decide +kernel
theorem d_DK_difference_38 : decode b_DK_difference 38 = .ok (.iload_n 3, 1) := by decide +kernel
theorem d_DK_difference_39 : decode b_DK_difference 39 = .ok (.invokevirtual 122, 3) := by decide +kernel
theorem d_DK_difference_42 : decode b_DK_difference 42 = .ok (.isub, 1) := by decide +kernel
theorem d_DK_difference_43 : decode b_DK_difference 43 = .ok (.ireturn, 1) := by decide +kernel
theorem d_DK_difference_44 : decode b_DK_difference 44 = .ok (.iinc 3 1, 3) := by decide +kernel
theorem d_DK_difference_47 : decode b_DK_difference 47 = .ok (.goto (-33), 3) := by decide +kernel
theorem d_DK_difference_50 : decode b_DK_difference 50 = .ok (.aload_n 0, 1) := by decide +kernel
theorem d_DK_difference_51 : decode b_DK_difference 51 = .ok (.invokevirtual 77, 3) := by decide +kernel
theorem d_DK_difference_54 : decode b_DK_difference 54 = .ok (.aload_n 1, 1) := by decide +kernel
theorem d_DK_difference_55 : decode b_DK_difference 55 = .ok (.invokevirtual 77, 3) := by decide +kernel
theorem d_DK_difference_58 : decode b_DK_difference 58 = .ok (.isub, 1) := by decide +kernel
theorem d_DK_difference_59 : decode b_DK_difference 59 = .ok (.ireturn, 1) := by decide +kernel
theorem d_DK_find_0 : decode b_DK_find 0 = .ok (.aload_n 0, 1) := by decide +kernel
theorem d_DK_find_1 : decode b_DK_find 1 = .ok (.iload_n 1, 1) := by decide +kernel
theorem d_DK_find_2 : decode b_DK_find 2 = .ok (.invokevirtual 64, 3) := by decide +kernel
theorem d_DK_find_5 : decode b_DK_find 5 = .ok (.astore 5, 2) := by decide +kernel
theorem d_DK_find_7 : decode b_DK_find 7 = .ok (.aload_n 0, 1) := by decide +kernel
theorem d_DK_find_8 : decode b_DK_find 8 = .ok (.iload_n 2, 1) := by decide +kernel
theorem d_DK_find_9 : decode b_DK_find 9 = .ok (.invokevirtual 64, 3) := by decide +kernel
theorem d_DK_find_12 : decode b_DK_find 12 = .ok (.astore 6, 2) := by decide +kernel
theorem d_DK_find_14 : decode b_DK_find 14 = .ok (.iload 4, 2) := by decide +kernel
theorem d_DK_find_16 : decode b_DK_find 16 = .ok (.ifCond .eq 14, 3) := by decide +kernel
theorem d_DK_find_19 : decode b_DK_find 19 = .ok (.aload 5, 2) := by decide +kernel
theorem d_DK_find_21 : decode b_DK_find 21 = .ok (.aload 6, 2) := by decide +kernel
theorem d_DK_find_23 : decode b_DK_find 23 = .ok (.iload_n 3, 1) := by decide +kernel
theorem d_DK_find_24 : decode b_DK_find 24 = .ok (.invokestatic 138, 3) := by decide +kernel
theorem d_DK_find_27 : decode b_DK_find 27 = .ok (.goto 11, 3) := by decide +kernel
theorem d_DK_find_30 : decode b_DK_find 30 = .ok (.aload 5, 2) := by decide +kernel
theorem d_DK_find_32 : decode b_DK_find 32 = .ok (.aload 6, 2) := by decide +kernel
theorem d_DK_find_34 : decode b_DK_find 34 = .ok (.iload_n 3, 1) := by decide +kernel
theorem d_DK_find_35 : decode b_DK_find 35 = .ok (.invokestatic 142, 3) := by decide +kernel
theorem d_DK_find_38 : decode b_DK_find 38 = .ok (.ireturn, 1) := by decide +kernel
theorem d_DK_lastPlace_0 : decode b_DK_lastPlace 0 = .ok (.aload_n 0, 1) := by decide +kernel
theorem d_DK_lastPlace_1 : decode b_DK_lastPlace 1 = .ok (.invokevirtual 77, 3) := by decide +kernel
theorem d_DK_lastPlace_4 : decode b_DK_lastPlace 4 = .ok (.aload_n 1, 1) := by decide +kernel
theorem d_DK_lastPlace_5 : decode b_DK_lastPlace 5 = .ok (.invokevirtual 77, 3) := by decide +kernel
theorem d_DK_lastPlace_8 : decode b_DK_lastPlace 8 = .ok (.isub, 1) := by decide +kernel
theorem d_DK_lastPlace_9 : decode b_DK_lastPlace 9 = .ok (.istore_n 3, 1) := by decide +kernel
theorem d_DK_lastPlace_10 : decode b_DK_lastPlace 10 = .ok (.iload_n 2, 1) := by decide +kernel
theorem d_DK_lastPlace_11 : decode b_DK_lastPlace 11 = .ok (.iload_n 3, 1) := by decide +kernel
theorem d_DK_lastPlace_12 : decode b_DK_lastPlace 12 = .ok (.invokestatic 211, 3) := by decide +kernel
theorem d_DK_lastPlace_15 : decode b_DK_lastPlace 15 = .ok (.istore 4, 2) := by decide +kernel
theorem d_DK_lastPlace_17 : decode b_DK_lastPlace 17 = .ok (.iload 4, 2) := by decide +kernel
theorem d_DK_lastPlace_19 : decode b_DK_lastPlace 19 = .ok (.ifCond .lt 22, 3) := by decide +kernel
theorem d_DK_lastPlace_22 : decode b_DK_lastPlace 22 = .ok (.aload_n 0, 1) := by decide +kernel
theorem d_DK_lastPlace_23 : decode b_DK_lastPlace 23 = .ok (.aload_n 1, 1) := by decide +kernel
theorem d_DK_lastPlace_24 : decode b_DK_lastPlace 24 = .ok (.iload 4, 2) := by decide +kernel
theorem d_DK_lastPlace_26 : decode b_DK_lastPlace 26 = .ok (.invokestatic 118, 3) := by decide +kernel
theorem d_DK_lastPlace_29 : decode b_DK_lastPlace 29 = .ok (.ifCond .eq 6, 3) := by decide +kernel
theorem d_DK_lastPlace_32 : decode b_DK_lastPlace 32 = .ok (.iload 4, 2) := by decide +kernel
theorem d_DK_lastPlace_34 : decode b_DK_lastPlace 34 = .ok (.ireturn, 1) := by decide +kernel
theorem d_DK_lastPlace_35 : decode b_DK_lastPlace 35 = .ok (.iinc 4 (-1), 3) := by decide +kernel
theorem d_DK_lastPlace_38 : decode b_DK_lastPlace 38 = .ok (.goto (-21), 3) := by decide +kernel
theorem d_DK_lastPlace_41 : decode b_DK_lastPlace 41 = .ok (.iconst (-1), 1) := by decide +kernel
theorem d_DK_lastPlace_42 : decode b_DK_lastPlace 42 = .ok (.ireturn, 1) := by decide +kernel
theorem d_DK_firstPlace_0 : decode b_DK_firstPlace 0 = .ok (.aload_n 0, 1) := by decide +kernel
theorem d_DK_firstPlace_1 : decode b_DK_firstPlace 1 = .ok (.invokevirtual 77, 3) := by decide +kernel
theorem d_DK_firstPlace_4 : decode b_DK_firstPlace 4 = .ok (.aload_n 1, 1) := by decide +kernel
theorem d_DK_firstPlace_5 : decode b_DK_firstPlace 5 = .ok (.invokevirtual 77, 3) := by decide +kernel
theorem d_DK_firstPlace_8 : decode b_DK_firstPlace 8 = .ok (.isub, 1) := by decide +kernel
theorem d_DK_firstPlace_9 : decode b_DK_firstPlace 9 = .ok (.istore_n 3, 1) := by decide +kernel
theorem d_DK_firstPlace_10 : decode b_DK_firstPlace 10 = .ok (.iload_n 2, 1) := by decide +kernel
theorem d_DK_firstPlace_11 : decode b_DK_firstPlace 11 = .ok (.iconst 0, 1) := by decide +kernel
theorem d_DK_firstPlace_12 : decode b_DK_firstPlace 12 = .ok (.invokestatic 217, 3) := by decide +kernel
theorem d_DK_firstPlace_15 : decode b_DK_firstPlace 15 = .ok (.istore 4, 2) := by decide +kernel
theorem d_DK_firstPlace_17 : decode b_DK_firstPlace 17 = .ok (.iload 4, 2) := by decide +kernel
theorem d_DK_firstPlace_19 : decode b_DK_firstPlace 19 = .ok (.iload_n 3, 1) := by decide +kernel
theorem d_DK_firstPlace_20 : decode b_DK_firstPlace 20 = .ok (.if_icmp .gt 22, 3) := by decide +kernel
theorem d_DK_firstPlace_23 : decode b_DK_firstPlace 23 = .ok (.aload_n 0, 1) := by decide +kernel
theorem d_DK_firstPlace_24 : decode b_DK_firstPlace 24 = .ok (.aload_n 1, 1) := by decide +kernel
theorem d_DK_firstPlace_25 : decode b_DK_firstPlace 25 = .ok (.iload 4, 2) := by decide +kernel
theorem d_DK_firstPlace_27 : decode b_DK_firstPlace 27 = .ok (.invokestatic 118, 3) := by decide +kernel
theorem d_DK_firstPlace_30 : decode b_DK_firstPlace 30 = .ok (.ifCond .eq 6, 3) := by decide +kernel
theorem d_DK_firstPlace_33 : decode b_DK_firstPlace 33 = .ok (.iload 4, 2) := by decide +kernel
theorem d_DK_firstPlace_35 : decode b_DK_firstPlace 35 = .ok (.ireturn, 1) := by decide +kernel
theorem d_DK_firstPlace_36 : decode b_DK_firstPlace 36 = .ok (.iinc 4 1, 3) := by decide +kernel
theorem d_DK_firstPlace_39 : decode b_DK_firstPlace 39 = .ok (.goto (-22), 3) := by decide +kernel
theorem d_DK_firstPlace_42 : decode b_DK_firstPlace 42 = .ok (.iconst (-1), 1) := by decide +kernel
theorem d_DK_firstPlace_43 : decode b_DK_firstPlace 43 = .ok (.ireturn, 1) := by decide +kernel
theorem d_DK_symbol_0 : decode b_DK_symbol 0 = .ok (.aload_n 0, 1) := by decide +kernel
theorem d_DK_symbol_1 : decode b_DK_symbol 1 = .ok (.iload_n 1, 1) := by decide +kernel
theorem d_DK_symbol_2 : decode b_DK_symbol 2 = .ok (.invokevirtual 64, 3) := by decide +kernel
theorem d_DK_symbol_5 : decode b_DK_symbol 5 = .ok (.astore_n 2, 1) := by decide +kernel
theorem d_DK_symbol_6 : decode b_DK_symbol 6 = .ok (.iconst 0, 1) := by decide +kernel
theorem d_DK_symbol_7 : decode b_DK_symbol 7 = .ok (.istore_n 3, 1) := by decide +kernel
theorem d_DK_symbol_8 : decode b_DK_symbol 8 = .ok (.iload_n 3, 1) := by decide +kernel
theorem d_DK_symbol_9 : decode b_DK_symbol 9 = .ok (.aload_n 0, 1) := by decide +kernel
theorem d_DK_symbol_10 : decode b_DK_symbol 10 = .ok (.getfield 15, 3) := by decide +kernel
theorem d_DK_symbol_13 : decode b_DK_symbol 13 = .ok (.arraylength, 1) := by decide +kernel
theorem d_DK_symbol_14 : decode b_DK_symbol 14 = .ok (.if_icmp .ge 42, 3) := by decide +kernel
theorem d_DK_symbol_17 : decode b_DK_symbol 17 = .ok (.aload_n 0, 1) := by decide +kernel
theorem d_DK_symbol_18 : decode b_DK_symbol 18 = .ok (.getfield 15, 3) := by decide +kernel
theorem d_DK_symbol_21 : decode b_DK_symbol 21 = .ok (.iload_n 3, 1) := by decide +kernel
theorem d_DK_symbol_22 : decode b_DK_symbol 22 = .ok (.aaload, 1) := by decide +kernel
theorem d_DK_symbol_23 : decode b_DK_symbol 23 = .ok (.ifnonnull 12, 3) := by decide +kernel
theorem d_DK_symbol_26 : decode b_DK_symbol 26 = .ok (.aload_n 0, 1) := by decide +kernel
theorem d_DK_symbol_27 : decode b_DK_symbol 27 = .ok (.getfield 15, 3) := by decide +kernel
theorem d_DK_symbol_30 : decode b_DK_symbol 30 = .ok (.iload_n 3, 1) := by decide +kernel
theorem d_DK_symbol_31 : decode b_DK_symbol 31 = .ok (.aload_n 2, 1) := by decide +kernel
theorem d_DK_symbol_32 : decode b_DK_symbol 32 = .ok (.aastore, 1) := by decide +kernel
theorem d_DK_symbol_33 : decode b_DK_symbol 33 = .ok (.iload_n 3, 1) := by decide +kernel
theorem d_DK_symbol_34 : decode b_DK_symbol 34 = .ok (.ireturn, 1) := by decide +kernel
theorem d_DK_symbol_35 : decode b_DK_symbol 35 = .ok (.aload_n 0, 1) := by decide +kernel
theorem d_DK_symbol_36 : decode b_DK_symbol 36 = .ok (.getfield 15, 3) := by decide +kernel
theorem d_DK_symbol_39 : decode b_DK_symbol 39 = .ok (.iload_n 3, 1) := by decide +kernel
theorem d_DK_symbol_40 : decode b_DK_symbol 40 = .ok (.aaload, 1) := by decide +kernel
theorem d_DK_symbol_41 : decode b_DK_symbol 41 = .ok (.aload_n 2, 1) := by decide +kernel
theorem d_DK_symbol_42 : decode b_DK_symbol 42 = .ok (.invokestatic 134, 3) := by decide +kernel
theorem d_DK_symbol_45 : decode b_DK_symbol 45 = .ok (.ifCond .ne 5, 3) := by decide +kernel
theorem d_DK_symbol_48 : decode b_DK_symbol 48 = .ok (.iload_n 3, 1) := by decide +kernel
theorem d_DK_symbol_49 : decode b_DK_symbol 49 = .ok (.ireturn, 1) := by decide +kernel
theorem d_DK_symbol_50 : decode b_DK_symbol 50 = .ok (.iinc 3 1, 3) := by decide +kernel
theorem d_DK_symbol_53 : decode b_DK_symbol 53 = .ok (.goto (-45), 3) := by decide +kernel
theorem d_DK_symbol_56 : decode b_DK_symbol 56 = .ok (.new 52, 3) := by decide +kernel
theorem d_DK_symbol_59 : decode b_DK_symbol 59 = .ok (.dup, 1) := by decide +kernel
theorem d_DK_symbol_60 : decode b_DK_symbol 60 = .ok (.ldc 145, 2) := by decide +kernel
theorem d_DK_symbol_62 : decode b_DK_symbol 62 = .ok (.invokespecial 56, 3) := by decide +kernel
theorem d_DK_symbol_65 : decode b_DK_symbol 65 = .ok (.athrow, 1) := by decide +kernel
theorem d_DK_encode_0 : decode b_DK_encode 0 = .ok (.aload_n 0, 1) := by decide +kernel
theorem d_DK_encode_1 : decode b_DK_encode 1 = .ok (.iload_n 1, 1) := by decide +kernel
theorem d_DK_encode_2 : decode b_DK_encode 2 = .ok (.invokevirtual 64, 3) := by decide +kernel
theorem d_DK_encode_5 : decode b_DK_encode 5 = .ok (.astore_n 3, 1) := by decide +kernel
theorem d_DK_encode_6 : decode b_DK_encode 6 = .ok (.iload_n 2, 1) := by decide +kernel
theorem d_DK_encode_7 : decode b_DK_encode 7 = .ok (.invokestatic 147, 3) := by decide +kernel
theorem d_DK_encode_10 : decode b_DK_encode 10 = .ok (.aload_n 0, 1) := by decide +kernel
theorem d_DK_encode_11 : decode b_DK_encode 11 = .ok (.getfield 23, 3) := by decide +kernel
theorem d_DK_encode_14 : decode b_DK_encode 14 = .ok (.invokevirtual 70, 3) := by decide +kernel
theorem d_DK_encode_17 : decode b_DK_encode 17 = .ok (.aload_n 3, 1) := by decide +kernel
theorem d_DK_encode_18 : decode b_DK_encode 18 = .ok (.iload_n 2, 1) := by decide +kernel
theorem d_DK_encode_19 : decode b_DK_encode 19 = .ok (.aload_n 0, 1) := by decide +kernel
theorem d_DK_encode_20 : decode b_DK_encode 20 = .ok (.getfield 23, 3) := by decide +kernel
theorem d_DK_encode_23 : decode b_DK_encode 23 = .ok (.invokestatic 150, 3) := by decide +kernel
theorem d_DK_encode_26 : decode b_DK_encode 26 = .ok (.aload_n 0, 1) := by decide +kernel
theorem d_DK_encode_27 : decode b_DK_encode 27 = .ok (.getfield 23, 3) := by decide +kernel
theorem d_DK_encode_30 : decode b_DK_encode 30 = .ok (.invokevirtual 60, 3) := by decide +kernel
theorem d_DK_encode_33 : decode b_DK_encode 33 = .ok (.ireturn, 1) := by decide +kernel
theorem d_DK_refuseUnknownEncoding_0 : decode b_DK_refuseUnknownEncoding 0 = .ok (.iload_n 0, 1) := by decide +kernel
theorem d_DK_refuseUnknownEncoding_1 : decode b_DK_refuseUnknownEncoding 1 = .ok (.ifCond .lt 8, 3) := by decide +kernel
theorem d_DK_refuseUnknownEncoding_4 : decode b_DK_refuseUnknownEncoding 4 = .ok (.iload_n 0, 1) := by decide +kernel
theorem d_DK_refuseUnknownEncoding_5 : decode b_DK_refuseUnknownEncoding 5 = .ok (.iconst 4, 1) := by decide +kernel
theorem d_DK_refuseUnknownEncoding_6 : decode b_DK_refuseUnknownEncoding 6 = .ok (.if_icmp .le 13, 3) := by decide +kernel
theorem d_DK_refuseUnknownEncoding_9 : decode b_DK_refuseUnknownEncoding 9 = .ok (.new 41, 3) := by decide +kernel
theorem d_DK_refuseUnknownEncoding_12 : decode b_DK_refuseUnknownEncoding 12 = .ok (.dup, 1) := by decide +kernel
theorem d_DK_refuseUnknownEncoding_13 : decode b_DK_refuseUnknownEncoding 13 = .ok (.ldc 180, 2) := by decide +kernel
theorem d_DK_refuseUnknownEncoding_15 : decode b_DK_refuseUnknownEncoding 15 = .ok (.invokespecial 45, 3) := by decide +kernel
theorem d_DK_refuseUnknownEncoding_18 : decode b_DK_refuseUnknownEncoding 18 = .ok (.athrow, 1) := by decide +kernel
theorem d_DK_refuseUnknownEncoding_19 : decode b_DK_refuseUnknownEncoding 19 = .ok (.return_, 1) := by decide +kernel
theorem d_DK_type_0 : decode b_DK_type 0 = .ok (.iload_n 1, 1) := by decide +kernel
theorem d_DK_type_1 : decode b_DK_type 1 = .ok (.ifCond .lt 10, 3) := by decide +kernel
theorem d_DK_type_4 : decode b_DK_type 4 = .ok (.iload_n 1, 1) := by decide +kernel
theorem d_DK_type_5 : decode b_DK_type 5 = .ok (.sipush 256, 3) := by decide +kernel
theorem d_DK_type_8 : decode b_DK_type 8 = .ok (.if_icmp .lt 13, 3) := by decide +kernel
theorem d_DK_type_11 : decode b_DK_type 11 = .ok (.new 41, 3) := by decide +kernel
theorem d_DK_type_14 : decode b_DK_type 14 = .ok (.dup, 1) := by decide +kernel
theorem d_DK_type_15 : decode b_DK_type 15 = .ok (.ldc 156, 2) := by decide +kernel
theorem d_DK_type_17 : decode b_DK_type 17 = .ok (.invokespecial 45, 3) := by decide +kernel
theorem d_DK_type_20 : decode b_DK_type 20 = .ok (.athrow, 1) := by decide +kernel
theorem d_DK_type_21 : decode b_DK_type 21 = .ok (.aload_n 0, 1) := by decide +kernel
theorem d_DK_type_22 : decode b_DK_type 22 = .ok (.getfield 23, 3) := by decide +kernel
theorem d_DK_type_25 : decode b_DK_type 25 = .ok (.invokevirtual 48, 3) := by decide +kernel
theorem d_DK_type_28 : decode b_DK_type 28 = .ok (.ifCond .eq 13, 3) := by decide +kernel
theorem d_DK_type_31 : decode b_DK_type 31 = .ok (.new 52, 3) := by decide +kernel
theorem d_DK_type_34 : decode b_DK_type 34 = .ok (.dup, 1) := by decide +kernel
theorem d_DK_type_35 : decode b_DK_type 35 = .ok (.ldc 158, 2) := by decide +kernel
theorem d_DK_type_37 : decode b_DK_type 37 = .ok (.invokespecial 56, 3) := by decide +kernel
theorem d_DK_type_40 : decode b_DK_type 40 = .ok (.athrow, 1) := by decide +kernel
theorem d_DK_type_41 : decode b_DK_type 41 = .ok (.aload_n 0, 1) := by decide +kernel
theorem d_DK_type_42 : decode b_DK_type 42 = .ok (.getfield 23, 3) := by decide +kernel
theorem d_DK_type_45 : decode b_DK_type 45 = .ok (.iload_n 1, 1) := by decide +kernel
theorem d_DK_type_46 : decode b_DK_type 46 = .ok (.invokevirtual 57, 3) := by decide +kernel
theorem d_DK_type_49 : decode b_DK_type 49 = .ok (.aload_n 0, 1) := by decide +kernel
theorem d_DK_type_50 : decode b_DK_type 50 = .ok (.getfield 23, 3) := by decide +kernel
theorem d_DK_type_53 : decode b_DK_type 53 = .ok (.invokevirtual 60, 3) := by decide +kernel
theorem d_DK_type_56 : decode b_DK_type 56 = .ok (.ireturn, 1) := by decide +kernel
theorem d_DK_decode_0 : decode b_DK_decode 0 = .ok (.iload_n 1, 1) := by decide +kernel
theorem d_DK_decode_1 : decode b_DK_decode 1 = .ok (.invokestatic 147, 3) := by decide +kernel
theorem d_DK_decode_4 : decode b_DK_decode 4 = .ok (.aload_n 0, 1) := by decide +kernel
theorem d_DK_decode_5 : decode b_DK_decode 5 = .ok (.getfield 37, 3) := by decide +kernel
theorem d_DK_decode_8 : decode b_DK_decode 8 = .ok (.invokevirtual 70, 3) := by decide +kernel
theorem d_DK_decode_11 : decode b_DK_decode 11 = .ok (.aload_n 0, 1) := by decide +kernel
theorem d_DK_decode_12 : decode b_DK_decode 12 = .ok (.getfield 30, 3) := by decide +kernel
theorem d_DK_decode_15 : decode b_DK_decode 15 = .ok (.aload_n 0, 1) := by decide +kernel
theorem d_DK_decode_16 : decode b_DK_decode 16 = .ok (.getfield 23, 3) := by decide +kernel
theorem d_DK_decode_19 : decode b_DK_decode 19 = .ok (.iload_n 1, 1) := by decide +kernel
theorem d_DK_decode_20 : decode b_DK_decode 20 = .ok (.aload_n 0, 1) := by decide +kernel
theorem d_DK_decode_21 : decode b_DK_decode 21 = .ok (.getfield 37, 3) := by decide +kernel
theorem d_DK_decode_24 : decode b_DK_decode 24 = .ok (.invokevirtual 160, 3) := by decide +kernel
theorem d_DK_decode_27 : decode b_DK_decode 27 = .ok (.istore_n 3, 1) := by decide +kernel
theorem d_DK_decode_28 : decode b_DK_decode 28 = .ok (.iload_n 2, 1) := by decide +kernel
theorem d_DK_decode_29 : decode b_DK_decode 29 = .ok (.ifCond .eq 17, 3) := by decide +kernel
theorem d_DK_decode_32 : decode b_DK_decode 32 = .ok (.iload_n 3, 1) := by decide +kernel
theorem d_DK_decode_33 : decode b_DK_decode 33 = .ok (.ifCond .ne 13, 3) := by decide +kernel
theorem d_DK_decode_36 : decode b_DK_decode 36 = .ok (.new 164, 3) := by decide +kernel
theorem d_DK_decode_39 : decode b_DK_decode 39 = .ok (.dup, 1) := by decide +kernel
theorem d_DK_decode_40 : decode b_DK_decode 40 = .ok (.ldc 166, 2) := by decide +kernel
theorem d_DK_decode_42 : decode b_DK_decode 42 = .ok (.invokespecial 168, 3) := by decide +kernel
theorem d_DK_decode_45 : decode b_DK_decode 45 = .ok (.athrow, 1) := by decide +kernel
theorem d_DK_decode_46 : decode b_DK_decode 46 = .ok (.aload_n 0, 1) := by decide +kernel
theorem d_DK_decode_47 : decode b_DK_decode 47 = .ok (.invokevirtual 78, 3) := by decide +kernel
theorem d_DK_decode_50 : decode b_DK_decode 50 = .ok (.aload_n 0, 1) := by decide +kernel
theorem d_DK_decode_51 : decode b_DK_decode 51 = .ok (.aload_n 0, 1) := by decide +kernel
theorem d_DK_decode_52 : decode b_DK_decode 52 = .ok (.getfield 37, 3) := by decide +kernel
theorem d_DK_decode_55 : decode b_DK_decode 55 = .ok (.invokestatic 100, 3) := by decide +kernel
theorem d_DK_decode_58 : decode b_DK_decode 58 = .ok (.invokevirtual 104, 3) := by decide +kernel
theorem d_DK_decode_61 : decode b_DK_decode 61 = .ok (.istore 4, 2) := by decide +kernel
theorem d_DK_decode_63 : decode b_DK_decode 63 = .ok (.aload_n 0, 1) := by decide +kernel
theorem d_DK_decode_64 : decode b_DK_decode 64 = .ok (.getfield 23, 3) := by decide +kernel
theorem d_DK_decode_67 : decode b_DK_decode 67 = .ok (.invokevirtual 70, 3) := by decide +kernel
theorem d_DK_decode_70 : decode b_DK_decode 70 = .ok (.iload 4, 2) := by decide +kernel
theorem d_DK_decode_72 : decode b_DK_decode 72 = .ok (.ireturn, 1) := by decide +kernel
theorem d_DK_octet_0 : decode b_DK_octet 0 = .ok (.aload_n 0, 1) := by decide +kernel
theorem d_DK_octet_1 : decode b_DK_octet 1 = .ok (.getfield 23, 3) := by decide +kernel
theorem d_DK_octet_4 : decode b_DK_octet 4 = .ok (.iload_n 1, 1) := by decide +kernel
theorem d_DK_octet_5 : decode b_DK_octet 5 = .ok (.invokestatic 96, 3) := by decide +kernel
theorem d_DK_octet_8 : decode b_DK_octet 8 = .ok (.ireturn, 1) := by decide +kernel
