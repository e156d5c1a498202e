theorem d_RW_init_0 : decode b_RW_init 0 = .ok (.aload_n 0, 1) := by decide +kernel
theorem d_RW_init_1 : decode b_RW_init 1 = .ok (.invokespecial 3, 3) := by decide +kernel
theorem d_RW_init_4 : decode b_RW_init 4 = .ok (.aload_n 0, 1) := by decide +kernel
theorem d_RW_init_5 : decode b_RW_init 5 = .ok (.iload_n 1, 1) := by decide +kernel
theorem d_RW_init_6 : decode b_RW_init 6 = .ok (.iconst 0, 1) := by decide +kernel
theorem d_RW_init_7 : decode b_RW_init 7 = .ok (.invokestatic 9, 3) := by decide +kernel
theorem d_RW_init_10 : decode b_RW_init 10 = .ok (.newarray .int, 2) := by decide +kernel
theorem d_RW_init_12 : decode b_RW_init 12 = .ok (.putfield 15, 3) := by decide +kernel
theorem d_RW_init_15 : decode b_RW_init 15 = .ok (.return_, 1) := by decide +kernel
theorem d_SQ_init_0 : decode b_SQ_init 0 = .ok (.aload_n 0, 1) := by decide +kernel
theorem d_SQ_init_1 : decode b_SQ_init 1 = .ok (.invokespecial 1, 3) := by decide +kernel
theorem d_SQ_init_4 : decode b_SQ_init 4 = .ok (.return_, 1) := by decide +kernel
theorem d_DC_init_0 : decode b_DC_init 0 = .ok (.aload_n 0, 1) := by decide +kernel
theorem d_DC_init_1 : decode b_DC_init 1 = .ok (.invokespecial 3, 3) := by decide +kernel
theorem d_DC_init_4 : decode b_DC_init 4 = .ok (.return_, 1) := by decide +kernel
theorem d_RW_drop_0 : decode b_RW_drop 0 = .ok (.aload_n 0, 1) := by decide +kernel
theorem d_RW_drop_1 : decode b_RW_drop 1 = .ok (.iconst 0, 1) := by decide +kernel
theorem d_RW_drop_2 : decode b_RW_drop 2 = .ok (.putfield 21, 3) := by decide +kernel
theorem d_RW_drop_5 : decode b_RW_drop 5 = .ok (.aload_n 0, 1) := by decide +kernel
theorem d_RW_drop_6 : decode b_RW_drop 6 = .ok (.iconst 0, 1) := by decide +kernel
theorem d_RW_drop_7 : decode b_RW_drop 7 = .ok (.putfield 25, 3) := by decide +kernel
theorem d_RW_drop_10 : decode b_RW_drop 10 = .ok (.return_, 1) := by decide +kernel
theorem d_RW_size_0 : decode b_RW_size 0 = .ok (.aload_n 0, 1) := by decide +kernel
theorem d_RW_size_1 : decode b_RW_size 1 = .ok (.getfield 21, 3) := by decide +kernel
theorem d_RW_size_4 : decode b_RW_size 4 = .ok (.ireturn, 1) := by decide +kernel
theorem d_RW_get_0 : decode b_RW_get 0 = .ok (.iload_n 1, 1) := by decide +kernel
theorem d_RW_get_1 : decode b_RW_get 1 = .ok (.ifCond .lt 29, 3) := by decide +kernel
theorem d_RW_get_4 : decode b_RW_get 4 = .ok (.iload_n 1, 1) := by decide +kernel
theorem d_RW_get_5 : decode b_RW_get 5 = .ok (.aload_n 0, 1) := by decide +kernel
theorem d_RW_get_6 : decode b_RW_get 6 = .ok (.getfield 21, 3) := by decide +kernel
theorem d_RW_get_9 : decode b_RW_get 9 = .ok (.if_icmp .ge 21, 3) := by decide +kernel
theorem d_RW_get_12 : decode b_RW_get 12 = .ok (.iload_n 1, 1) := by decide +kernel
theorem d_RW_get_13 : decode b_RW_get 13 = .ok (.aload_n 0, 1) := by decide +kernel
theorem d_RW_get_14 : decode b_RW_get 14 = .ok (.getfield 15, 3) := by decide +kernel
theorem d_RW_get_17 : decode b_RW_get 17 = .ok (.arraylength, 1) := by decide +kernel
theorem d_RW_get_18 : decode b_RW_get 18 = .ok (.if_icmp .ge 12, 3) := by decide +kernel
theorem d_RW_get_21 : decode b_RW_get 21 = .ok (.aload_n 0, 1) := by decide +kernel
theorem d_RW_get_22 : decode b_RW_get 22 = .ok (.getfield 15, 3) := by decide +kernel
theorem d_RW_get_25 : decode b_RW_get 25 = .ok (.iload_n 1, 1) := by decide +kernel
theorem d_RW_get_26 : decode b_RW_get 26 = .ok (.iaload, 1) := by decide +kernel
theorem d_RW_get_27 : decode b_RW_get 27 = .ok (.goto 4, 3) := by decide +kernel
theorem d_RW_get_30 : decode b_RW_get 30 = .ok (.iconst (-1), 1) := by decide +kernel
theorem d_RW_get_31 : decode b_RW_get 31 = .ok (.ireturn, 1) := by decide +kernel
theorem d_RW_append_0 : decode b_RW_append 0 = .ok (.aload_n 0, 1) := by decide +kernel
theorem d_RW_append_1 : decode b_RW_append 1 = .ok (.getfield 21, 3) := by decide +kernel
theorem d_RW_append_4 : decode b_RW_append 4 = .ok (.aload_n 0, 1) := by decide +kernel
theorem d_RW_append_5 : decode b_RW_append 5 = .ok (.getfield 15, 3) := by decide +kernel
theorem d_RW_append_8 : decode b_RW_append 8 = .ok (.arraylength, 1) := by decide +kernel
theorem d_RW_append_9 : decode b_RW_append 9 = .ok (.if_icmp .lt 9, 3) := by decide +kernel
theorem d_RW_append_12 : decode b_RW_append 12 = .ok (.aload_n 0, 1) := by decide +kernel
theorem d_RW_append_13 : decode b_RW_append 13 = .ok (.iconst 1, 1) := by decide +kernel
theorem d_RW_append_14 : decode b_RW_append 14 = .ok (.putfield 25, 3) := by decide +kernel
theorem d_RW_append_17 : decode b_RW_append 17 = .ok (.return_, 1) := by decide +kernel
theorem d_RW_append_18 : decode b_RW_append 18 = .ok (.aload_n 0, 1) := by decide +kernel
theorem d_RW_append_19 : decode b_RW_append 19 = .ok (.getfield 15, 3) := by decide +kernel
theorem d_RW_append_22 : decode b_RW_append 22 = .ok (.aload_n 0, 1) := by decide +kernel
theorem d_RW_append_23 : decode b_RW_append 23 = .ok (.getfield 21, 3) := by decide +kernel
theorem d_RW_append_26 : decode b_RW_append 26 = .ok (.iload_n 1, 1) := by decide +kernel
theorem d_RW_append_27 : decode b_RW_append 27 = .ok (.iastore, 1) := by decide +kernel
theorem d_RW_append_28 : decode b_RW_append 28 = .ok (.aload_n 0, 1) := by decide +kernel
theorem d_RW_append_29 : decode b_RW_append 29 = .ok (.dup, 1) := by decide +kernel
theorem d_RW_append_30 : decode b_RW_append 30 = .ok (.getfield 21, 3) := by decide +kernel
theorem d_RW_append_33 : decode b_RW_append 33 = .ok (.iconst 1, 1) := by decide +kernel
theorem d_RW_append_34 : decode b_RW_append 34 = .ok (.iadd, 1) := by decide +kernel
theorem d_RW_append_35 : decode b_RW_append 35 = .ok (.putfield 21, 3) := by decide +kernel
theorem d_RW_append_38 : decode b_RW_append 38 = .ok (.return_, 1) := by decide +kernel
theorem d_RW_isFull_0 : decode b_RW_isFull 0 = .ok (.aload_n 0, 1) := by decide +kernel
theorem d_RW_isFull_1 : decode b_RW_isFull 1 = .ok (.getfield 21, 3) := by decide +kernel
theorem d_RW_isFull_4 : decode b_RW_isFull 4 = .ok (.aload_n 0, 1) := by decide +kernel
theorem d_RW_isFull_5 : decode b_RW_isFull 5 = .ok (.getfield 15, 3) := by decide +kernel
theorem d_RW_isFull_8 : decode b_RW_isFull 8 = .ok (.arraylength, 1) := by decide +kernel
theorem d_RW_isFull_9 : decode b_RW_isFull 9 = .ok (.if_icmp .lt 7, 3) := by decide +kernel
theorem d_RW_isFull_12 : decode b_RW_isFull 12 = .ok (.iconst 1, 1) := by decide +kernel
theorem d_RW_isFull_13 : decode b_RW_isFull 13 = .ok (.goto 4, 3) := by decide +kernel
theorem d_RW_isFull_16 : decode b_RW_isFull 16 = .ok (.iconst 0, 1) := by decide +kernel
theorem d_RW_isFull_17 : decode b_RW_isFull 17 = .ok (.ireturn, 1) := by decide +kernel
theorem d_RW_appendRange_0 : decode b_RW_appendRange 0 = .ok (.iload_n 3, 1) := by decide +kernel
theorem d_RW_appendRange_1 : decode b_RW_appendRange 1 = .ok (.aload_n 1, 1) := by decide +kernel
theorem d_RW_appendRange_2 : decode b_RW_appendRange 2 = .ok (.invokevirtual 29, 3) := by decide +kernel
theorem d_RW_appendRange_5 : decode b_RW_appendRange 5 = .ok (.invokestatic 32, 3) := by decide +kernel
theorem d_RW_appendRange_8 : decode b_RW_appendRange 8 = .ok (.istore 4, 2) := by decide +kernel
theorem d_RW_appendRange_10 : decode b_RW_appendRange 10 = .ok (.iload_n 2, 1) := by decide +kernel
theorem d_RW_appendRange_11 : decode b_RW_appendRange 11 = .ok (.iconst 0, 1) := by decide +kernel
theorem d_RW_appendRange_12 : decode b_RW_appendRange 12 = .ok (.invokestatic 9, 3) := by decide +kernel
theorem d_RW_appendRange_15 : decode b_RW_appendRange 15 = .ok (.istore 5, 2) := by decide +kernel
theorem d_RW_appendRange_17 : decode b_RW_appendRange 17 = .ok (.iload 5, 2) := by decide +kernel
theorem d_RW_appendRange_19 : decode b_RW_appendRange 19 = .ok (.iload 4, 2) := by decide +kernel
theorem d_RW_appendRange_21 : decode b_RW_appendRange 21 = .ok (.if_icmp .ge 19, 3) := by decide +kernel
theorem d_RW_appendRange_24 : decode b_RW_appendRange 24 = .ok (.aload_n 0, 1) := by decide +kernel
theorem d_RW_appendRange_25 : decode b_RW_appendRange 25 = .ok (.aload_n 1, 1) := by decide +kernel
theorem d_RW_appendRange_26 : decode b_RW_appendRange 26 = .ok (.iload 5, 2) := by decide +kernel
theorem d_RW_appendRange_28 : decode b_RW_appendRange 28 = .ok (.invokevirtual 35, 3) := by decide +kernel
theorem d_RW_appendRange_31 : decode b_RW_appendRange 31 = .ok (.invokevirtual 39, 3) := by decide +kernel
theorem d_RW_appendRange_34 : decode b_RW_appendRange 34 = .ok (.iinc 5 1, 3) := by decide +kernel
theorem d_RW_appendRange_37 : decode b_RW_appendRange 37 = .ok (.goto (-20), 3) := by decide +kernel
theorem d_RW_appendRange_40 : decode b_RW_appendRange 40 = .ok (.return_, 1) := by decide +kernel
theorem d_TX_size_0 : decode b_TX_size 0 = .ok (.aload_n 0, 1) := by decide +kernel
theorem d_TX_size_1 : decode b_TX_size 1 = .ok (.getfield 7, 3) := by decide +kernel
theorem d_TX_size_4 : decode b_TX_size 4 = .ok (.ireturn, 1) := by decide +kernel
theorem d_JT_get_0 : decode b_JT_get 0 = .ok (.aload_n 0, 1) := by decide +kernel
theorem d_JT_get_1 : decode b_JT_get 1 = .ok (.getfield 24, 3) := by decide +kernel
theorem d_JT_get_4 : decode b_JT_get 4 = .ok (.ifnonnull 28, 3) := by decide +kernel
theorem d_JT_get_7 : decode b_JT_get 7 = .ok (.new 27, 3) := by decide +kernel
theorem d_JT_get_10 : decode b_JT_get 10 = .ok (.dup, 1) := by decide +kernel
theorem d_JT_get_11 : decode b_JT_get 11 = .ok (.aload_n 0, 1) := by decide +kernel
theorem d_JT_get_12 : decode b_JT_get 12 = .ok (.invokevirtual 29, 3) := by decide +kernel
theorem d_JT_get_15 : decode b_JT_get 15 = .ok (.invokespecial 30, 3) := by decide +kernel
theorem d_JT_get_18 : decode b_JT_get 18 = .ok (.astore_n 2, 1) := by decide +kernel
theorem d_JT_get_19 : decode b_JT_get 19 = .ok (.aload_n 0, 1) := by decide +kernel
theorem d_JT_get_20 : decode b_JT_get 20 = .ok (.aload_n 2, 1) := by decide +kernel
theorem d_JT_get_21 : decode b_JT_get 21 = .ok (.invokevirtual 33, 3) := by decide +kernel
theorem d_JT_get_24 : decode b_JT_get 24 = .ok (.aload_n 0, 1) := by decide +kernel
theorem d_JT_get_25 : decode b_JT_get 25 = .ok (.aload_n 2, 1) := by decide +kernel
theorem d_JT_get_26 : decode b_JT_get 26 = .ok (.invokestatic 37, 3) := by decide +kernel
theorem d_JT_get_29 : decode b_JT_get 29 = .ok (.putfield 24, 3) := by decide +kernel
theorem d_JT_get_32 : decode b_JT_get 32 = .ok (.aload_n 0, 1) := by decide +kernel
theorem d_JT_get_33 : decode b_JT_get 33 = .ok (.getfield 24, 3) := by decide +kernel
theorem d_JT_get_36 : decode b_JT_get 36 = .ok (.iload_n 1, 1) := by decide +kernel
theorem d_JT_get_37 : decode b_JT_get 37 = .ok (.invokevirtual 43, 3) := by decide +kernel
theorem d_JT_get_40 : decode b_JT_get 40 = .ok (.ireturn, 1) := by decide +kernel
theorem d_JT_pourInto_0 : decode b_JT_pourInto 0 = .ok (.aload_n 0, 1) := by decide +kernel
theorem d_JT_pourInto_1 : decode b_JT_pourInto 1 = .ok (.getfield 24, 3) := by decide +kernel
theorem d_JT_pourInto_4 : decode b_JT_pourInto 4 = .ok (.ifnull 14, 3) := by decide +kernel
theorem d_JT_pourInto_7 : decode b_JT_pourInto 7 = .ok (.aload_n 0, 1) := by decide +kernel
theorem d_JT_pourInto_8 : decode b_JT_pourInto 8 = .ok (.getfield 24, 3) := by decide +kernel
theorem d_JT_pourInto_11 : decode b_JT_pourInto 11 = .ok (.aload_n 1, 1) := by decide +kernel
theorem d_JT_pourInto_12 : decode b_JT_pourInto 12 = .ok (.invokevirtual 47, 3) := by decide +kernel
theorem d_JT_pourInto_15 : decode b_JT_pourInto 15 = .ok (.goto 19, 3) := by decide +kernel
theorem d_JT_pourInto_18 : decode b_JT_pourInto 18 = .ok (.aload_n 0, 1) := by decide +kernel
theorem d_JT_pourInto_19 : decode b_JT_pourInto 19 = .ok (.getfield 15, 3) := by decide +kernel
theorem d_JT_pourInto_22 : decode b_JT_pourInto 22 = .ok (.aload_n 1, 1) := by decide +kernel
theorem d_JT_pourInto_23 : decode b_JT_pourInto 23 = .ok (.invokevirtual 47, 3) := by decide +kernel
theorem d_JT_pourInto_26 : decode b_JT_pourInto 26 = .ok (.aload_n 0, 1) := by decide +kernel
theorem d_JT_pourInto_27 : decode b_JT_pourInto 27 = .ok (.getfield 21, 3) := by decide +kernel
theorem d_JT_pourInto_30 : decode b_JT_pourInto 30 = .ok (.aload_n 1, 1) := by decide +kernel
theorem d_JT_pourInto_31 : decode b_JT_pourInto 31 = .ok (.invokevirtual 47, 3) := by decide +kernel
theorem d_JT_pourInto_34 : decode b_JT_pourInto 34 = .ok (.return_, 1) := by decide +kernel
theorem d_TX_pourInto_0 : decode b_TX_pourInto 0 = .ok (.aload_n 1, 1) := by decide +kernel
theorem d_TX_pourInto_1 : decode b_TX_pourInto 1 = .ok (.aload_n 0, 1) := by decide +kernel
theorem d_TX_pourInto_2 : decode b_TX_pourInto 2 = .ok (.iconst 0, 1) := by decide +kernel
theorem d_TX_pourInto_3 : decode b_TX_pourInto 3 = .ok (.aload_n 0, 1) := by decide +kernel
theorem d_TX_pourInto_4 : decode b_TX_pourInto 4 = .ok (.getfield 7, 3) := by decide +kernel
theorem d_TX_pourInto_7 : decode b_TX_pourInto 7 = .ok (.invokevirtual 17, 3) := by decide +kernel
theorem d_TX_pourInto_10 : decode b_TX_pourInto 10 = .ok (.return_, 1) := by decide +kernel
theorem d_WT_init_0 : decode b_WT_init 0 = .ok (.aload_n 0, 1) := by decide +kernel
theorem d_WT_init_1 : decode b_WT_init 1 = .ok (.aload_n 1, 1) := by decide +kernel
theorem d_WT_init_2 : decode b_WT_init 2 = .ok (.invokevirtual 3, 3) := by decide +kernel
theorem d_WT_init_5 : decode b_WT_init 5 = .ok (.iconst 0, 1) := by decide +kernel
theorem d_WT_init_6 : decode b_WT_init 6 = .ok (.invokespecial 9, 3) := by decide +kernel
theorem d_WT_init_9 : decode b_WT_init 9 = .ok (.aload_n 0, 1) := by decide +kernel
theorem d_WT_init_10 : decode b_WT_init 10 = .ok (.aload_n 1, 1) := by decide +kernel
theorem d_WT_init_11 : decode b_WT_init 11 = .ok (.invokevirtual 3, 3) := by decide +kernel
theorem d_WT_init_14 : decode b_WT_init 14 = .ok (.newarray .char, 2) := by decide +kernel
theorem d_WT_init_16 : decode b_WT_init 16 = .ok (.putfield 15, 3) := by decide +kernel
theorem d_WT_init_19 : decode b_WT_init 19 = .ok (.iconst 0, 1) := by decide +kernel
theorem d_WT_init_20 : decode b_WT_init 20 = .ok (.istore_n 2, 1) := by decide +kernel
theorem d_WT_init_21 : decode b_WT_init 21 = .ok (.iload_n 2, 1) := by decide +kernel
theorem d_WT_init_22 : decode b_WT_init 22 = .ok (.aload_n 0, 1) := by decide +kernel
theorem d_WT_init_23 : decode b_WT_init 23 = .ok (.getfield 15, 3) := by decide +kernel
theorem d_WT_init_26 : decode b_WT_init 26 = .ok (.arraylength, 1) := by decide +kernel
theorem d_WT_init_27 : decode b_WT_init 27 = .ok (.if_icmp .ge 21, 3) := by decide +kernel
theorem d_WT_init_30 : decode b_WT_init 30 = .ok (.aload_n 0, 1) := by decide +kernel
theorem d_WT_init_31 : decode b_WT_init 31 = .ok (.getfield 15, 3) := by decide +kernel
theorem d_WT_init_34 : decode b_WT_init 34 = .ok (.iload_n 2, 1) := by decide +kernel
theorem d_WT_init_35 : decode b_WT_init 35 = .ok (.aload_n 1, 1) := by decide +kernel
theorem d_WT_init_36 : decode b_WT_init 36 = .ok (.iload_n 2, 1) := by decide +kernel
theorem d_WT_init_37 : decode b_WT_init 37 = .ok (.invokevirtual 21, 3) := by decide +kernel
theorem d_WT_init_40 : decode b_WT_init 40 = .ok (.i2c, 1) := by decide +kernel
theorem d_WT_init_41 : decode b_WT_init 41 = .ok (.castore, 1) := by decide +kernel
theorem d_WT_init_42 : decode b_WT_init 42 = .ok (.iinc 2 1, 3) := by decide +kernel
theorem d_WT_init_45 : decode b_WT_init 45 = .ok (.goto (-24), 3) := by decide +kernel
theorem d_WT_init_48 : decode b_WT_init 48 = .ok (.return_, 1) := by decide +kernel
theorem d_TX_init_0 : decode b_TX_init 0 = .ok (.aload_n 0, 1) := by decide +kernel
theorem d_TX_init_1 : decode b_TX_init 1 = .ok (.invokespecial 1, 3) := by decide +kernel
theorem d_TX_init_4 : decode b_TX_init 4 = .ok (.aload_n 0, 1) := by decide +kernel
theorem d_TX_init_5 : decode b_TX_init 5 = .ok (.iload_n 1, 1) := by decide +kernel
theorem d_TX_init_6 : decode b_TX_init 6 = .ok (.putfield 7, 3) := by decide +kernel
theorem d_TX_init_9 : decode b_TX_init 9 = .ok (.aload_n 0, 1) := by decide +kernel
theorem d_TX_init_10 : decode b_TX_init 10 = .ok (.iload_n 2, 1) := by decide +kernel
theorem d_TX_init_11 : decode b_TX_init 11 = .ok (.putfield 13, 3) := by decide +kernel
theorem d_TX_init_14 : decode b_TX_init 14 = .ok (.return_, 1) := by decide +kernel
theorem d_NT_init_0 : decode b_NT_init 0 = .ok (.aload_n 0, 1) := by decide +kernel
theorem d_NT_init_1 : decode b_NT_init 1 = .ok (.aload_n 1, 1) := by decide +kernel
theorem d_NT_init_2 : decode b_NT_init 2 = .ok (.invokevirtual 3, 3) := by decide +kernel
theorem d_NT_init_5 : decode b_NT_init 5 = .ok (.iconst 1, 1) := by decide +kernel
theorem d_NT_init_6 : decode b_NT_init 6 = .ok (.invokespecial 9, 3) := by decide +kernel
theorem d_NT_init_9 : decode b_NT_init 9 = .ok (.aload_n 0, 1) := by decide +kernel
theorem d_NT_init_10 : decode b_NT_init 10 = .ok (.aload_n 1, 1) := by decide +kernel
theorem d_NT_init_11 : decode b_NT_init 11 = .ok (.invokevirtual 3, 3) := by decide +kernel
theorem d_NT_init_14 : decode b_NT_init 14 = .ok (.newarray .byte, 2) := by decide +kernel
theorem d_NT_init_16 : decode b_NT_init 16 = .ok (.putfield 15, 3) := by decide +kernel
theorem d_NT_init_19 : decode b_NT_init 19 = .ok (.iconst 0, 1) := by decide +kernel
theorem d_NT_init_20 : decode b_NT_init 20 = .ok (.istore_n 2, 1) := by decide +kernel
theorem d_NT_init_21 : decode b_NT_init 21 = .ok (.iload_n 2, 1) := by decide +kernel
theorem d_NT_init_22 : decode b_NT_init 22 = .ok (.aload_n 0, 1) := by decide +kernel
theorem d_NT_init_23 : decode b_NT_init 23 = .ok (.getfield 15, 3) := by decide +kernel
theorem d_NT_init_26 : decode b_NT_init 26 = .ok (.arraylength, 1) := by decide +kernel
theorem d_NT_init_27 : decode b_NT_init 27 = .ok (.if_icmp .ge 21, 3) := by decide +kernel
theorem d_NT_init_30 : decode b_NT_init 30 = .ok (.aload_n 0, 1) := by decide +kernel
theorem d_NT_init_31 : decode b_NT_init 31 = .ok (.getfield 15, 3) := by decide +kernel
theorem d_NT_init_34 : decode b_NT_init 34 = .ok (.iload_n 2, 1) := by decide +kernel
theorem d_NT_init_35 : decode b_NT_init 35 = .ok (.aload_n 1, 1) := by decide +kernel
theorem d_NT_init_36 : decode b_NT_init 36 = .ok (.iload_n 2, 1) := by decide +kernel
theorem d_NT_init_37 : decode b_NT_init 37 = .ok (.invokevirtual 21, 3) := by decide +kernel
theorem d_NT_init_40 : decode b_NT_init 40 = .ok (.i2b, 1) := by decide +kernel
theorem d_NT_init_41 : decode b_NT_init 41 = .ok (.bastore, 1) := by decide +kernel
theorem d_NT_init_42 : decode b_NT_init 42 = .ok (.iinc 2 1, 3) := by decide +kernel
theorem d_NT_init_45 : decode b_NT_init 45 = .ok (.goto (-24), 3) := by decide +kernel
theorem d_NT_init_48 : decode b_NT_init 48 = .ok (.return_, 1) := by decide +kernel
theorem d_NT_get_0 : decode b_NT_get 0 = .ok (.iload_n 1, 1) := by decide +kernel
theorem d_NT_get_1 : decode b_NT_get 1 = .ok (.ifCond .lt 25, 3) := by decide +kernel
theorem d_NT_get_4 : decode b_NT_get 4 = .ok (.iload_n 1, 1) := by decide +kernel
theorem d_NT_get_5 : decode b_NT_get 5 = .ok (.aload_n 0, 1) := by decide +kernel
theorem d_NT_get_6 : decode b_NT_get 6 = .ok (.getfield 15, 3) := by decide +kernel
theorem d_NT_get_9 : decode b_NT_get 9 = .ok (.arraylength, 1) := by decide +kernel
theorem d_NT_get_10 : decode b_NT_get 10 = .ok (.if_icmp .ge 16, 3) := by decide +kernel
theorem d_NT_get_13 : decode b_NT_get 13 = .ok (.aload_n 0, 1) := by decide +kernel
theorem d_NT_get_14 : decode b_NT_get 14 = .ok (.getfield 15, 3) := by decide +kernel
theorem d_NT_get_17 : decode b_NT_get 17 = .ok (.iload_n 1, 1) := by decide +kernel
theorem d_NT_get_18 : decode b_NT_get 18 = .ok (.baload, 1) := by decide +kernel
theorem d_NT_get_19 : decode b_NT_get 19 = .ok (.sipush 255, 3) := by decide +kernel
theorem d_NT_get_22 : decode b_NT_get 22 = .ok (.iand, 1) := by decide +kernel
theorem d_NT_get_23 : decode b_NT_get 23 = .ok (.goto 4, 3) := by decide +kernel
theorem d_NT_get_26 : decode b_NT_get 26 = .ok (.iconst (-1), 1) := by decide +kernel
theorem d_NT_get_27 : decode b_NT_get 27 = .ok (.ireturn, 1) := by decide +kernel
theorem d_WT_get_0 : decode b_WT_get 0 = .ok (.iload_n 1, 1) := by decide +kernel
theorem d_WT_get_1 : decode b_WT_get 1 = .ok (.ifCond .lt 21, 3) := by decide +kernel
theorem d_WT_get_4 : decode b_WT_get 4 = .ok (.iload_n 1, 1) := by decide +kernel
theorem d_WT_get_5 : decode b_WT_get 5 = .ok (.aload_n 0, 1) := by decide +kernel
theorem d_WT_get_6 : decode b_WT_get 6 = .ok (.getfield 15, 3) := by decide +kernel
theorem d_WT_get_9 : decode b_WT_get 9 = .ok (.arraylength, 1) := by decide +kernel
theorem d_WT_get_10 : decode b_WT_get 10 = .ok (.if_icmp .ge 12, 3) := by decide +kernel
theorem d_WT_get_13 : decode b_WT_get 13 = .ok (.aload_n 0, 1) := by decide +kernel
theorem d_WT_get_14 : decode b_WT_get 14 = .ok (.getfield 15, 3) := by decide +kernel
theorem d_WT_get_17 : decode b_WT_get 17 = .ok (.iload_n 1, 1) := by decide +kernel
theorem d_WT_get_18 : decode b_WT_get 18 = .ok (.caload, 1) := by decide +kernel
theorem d_WT_get_19 : decode b_WT_get 19 = .ok (.goto 4, 3) := by decide +kernel
theorem d_WT_get_22 : decode b_WT_get 22 = .ok (.iconst (-1), 1) := by decide +kernel
theorem d_WT_get_23 : decode b_WT_get 23 = .ok (.ireturn, 1) := by decide +kernel
theorem d_RW_hasSpilled_0 : decode b_RW_hasSpilled 0 = .ok (.aload_n 0, 1) := by decide +kernel
theorem d_RW_hasSpilled_1 : decode b_RW_hasSpilled 1 = .ok (.getfield 25, 3) := by decide +kernel
theorem d_RW_hasSpilled_4 : decode b_RW_hasSpilled 4 = .ok (.ireturn, 1) := by decide +kernel
theorem d_JT_init_0 : decode b_JT_init 0 = .ok (.aload_n 0, 1) := by decide +kernel
theorem d_JT_init_1 : decode b_JT_init 1 = .ok (.aload_n 1, 1) := by decide +kernel
theorem d_JT_init_2 : decode b_JT_init 2 = .ok (.invokevirtual 1, 3) := by decide +kernel
theorem d_JT_init_5 : decode b_JT_init 5 = .ok (.aload_n 2, 1) := by decide +kernel
theorem d_JT_init_6 : decode b_JT_init 6 = .ok (.invokevirtual 1, 3) := by decide +kernel
theorem d_JT_init_9 : decode b_JT_init 9 = .ok (.iadd, 1) := by decide +kernel
theorem d_JT_init_10 : decode b_JT_init 10 = .ok (.aload_n 1, 1) := by decide +kernel
theorem d_JT_init_11 : decode b_JT_init 11 = .ok (.invokevirtual 7, 3) := by decide +kernel
theorem d_JT_init_14 : decode b_JT_init 14 = .ok (.ifCond .eq 14, 3) := by decide +kernel
theorem d_JT_init_17 : decode b_JT_init 17 = .ok (.aload_n 2, 1) := by decide +kernel
theorem d_JT_init_18 : decode b_JT_init 18 = .ok (.invokevirtual 7, 3) := by decide +kernel
theorem d_JT_init_21 : decode b_JT_init 21 = .ok (.ifCond .eq 7, 3) := by decide +kernel
theorem d_JT_init_24 : decode b_JT_init 24 = .ok (.iconst 1, 1) := by decide +kernel
theorem d_JT_init_25 : decode b_JT_init 25 = .ok (.goto 4, 3) := by decide +kernel
theorem d_JT_init_28 : decode b_JT_init 28 = .ok (.iconst 0, 1) := by decide +kernel
theorem d_JT_init_29 : decode b_JT_init 29 = .ok (.invokespecial 11, 3) := by decide +kernel
theorem d_JT_init_32 : decode b_JT_init 32 = .ok (.aload_n 0, 1) := by decide +kernel
theorem d_JT_init_33 : decode b_JT_init 33 = .ok (.aload_n 1, 1) := by decide +kernel
theorem d_JT_init_34 : decode b_JT_init 34 = .ok (.putfield 15, 3) := by decide +kernel
theorem d_JT_init_37 : decode b_JT_init 37 = .ok (.aload_n 0, 1) := by decide +kernel
theorem d_JT_init_38 : decode b_JT_init 38 = .ok (.aload_n 2, 1) := by decide +kernel
theorem d_JT_init_39 : decode b_JT_init 39 = .ok (.putfield 21, 3) := by decide +kernel
theorem d_JT_init_42 : decode b_JT_init 42 = .ok (.return_, 1) := by decide +kernel
theorem d_TX_isNarrow_0 : decode b_TX_isNarrow 0 = .ok (.aload_n 0, 1) := by decide +kernel
theorem d_TX_isNarrow_1 : decode b_TX_isNarrow 1 = .ok (.getfield 13, 3) := by decide +kernel
theorem d_TX_isNarrow_4 : decode b_TX_isNarrow 4 = .ok (.ireturn, 1) := by decide +kernel
theorem d_EN_writeText_0 : decode b_EN_writeText 0 = .ok (.iload_n 1, 1) := by decide +kernel
theorem d_EN_writeText_1 : decode b_EN_writeText 1 = .ok (.ifCond .eq 8, 3) := by decide +kernel
theorem d_EN_writeText_4 : decode b_EN_writeText 4 = .ok (.iload_n 1, 1) := by decide +kernel
theorem d_EN_writeText_5 : decode b_EN_writeText 5 = .ok (.iconst 4, 1) := by decide +kernel
theorem d_EN_writeText_6 : decode b_EN_writeText 6 = .ok (.if_icmp .ne 7, 3) := by decide +kernel
theorem d_EN_writeText_9 : decode b_EN_writeText 9 = .ok (.iconst 1, 1) := by decide +kernel
theorem d_EN_writeText_10 : decode b_EN_writeText 10 = .ok (.goto 4, 3) := by decide +kernel
theorem d_EN_writeText_13 : decode b_EN_writeText 13 = .ok (.iconst 0, 1) := by decide +kernel
theorem d_EN_writeText_14 : decode b_EN_writeText 14 = .ok (.istore_n 3, 1) := by decide +kernel
theorem d_EN_writeText_15 : decode b_EN_writeText 15 = .ok (.iconst 0, 1) := by decide +kernel
theorem d_EN_writeText_16 : decode b_EN_writeText 16 = .ok (.istore 4, 2) := by decide +kernel
theorem d_EN_writeText_18 : decode b_EN_writeText 18 = .ok (.iload 4, 2) := by decide +kernel
theorem d_EN_writeText_20 : decode b_EN_writeText 20 = .ok (.aload_n 0, 1) := by decide +kernel
theorem d_EN_writeText_21 : decode b_EN_writeText 21 = .ok (.invokevirtual 9, 3) := by decide +kernel
theorem d_EN_writeText_24 : decode b_EN_writeText 24 = .ok (.if_icmp .ge 47, 3) := by decide +kernel
theorem d_EN_writeText_27 : decode b_EN_writeText 27 = .ok (.iload_n 3, 1) := by decide +kernel
theorem d_EN_writeText_28 : decode b_EN_writeText 28 = .ok (.ifCond .eq 12, 3) := by decide +kernel
theorem d_EN_writeText_31 : decode b_EN_writeText 31 = .ok (.aload_n 0, 1) := by decide +kernel
theorem d_EN_writeText_32 : decode b_EN_writeText 32 = .ok (.iload 4, 2) := by decide +kernel
theorem d_EN_writeText_34 : decode b_EN_writeText 34 = .ok (.invokestatic 15, 3) := by decide +kernel
theorem d_EN_writeText_37 : decode b_EN_writeText 37 = .ok (.goto 9, 3) := by decide +kernel
theorem d_EN_writeText_40 : decode b_EN_writeText 40 = .ok (.aload_n 0, 1) := by decide +kernel
theorem d_EN_writeText_41 : decode b_EN_writeText 41 = .ok (.iload 4, 2) := by decide +kernel
theorem d_EN_writeText_43 : decode b_EN_writeText 43 = .ok (.invokevirtual 19, 3) := by decide +kernel
theorem d_EN_writeText_46 : decode b_EN_writeText 46 = .ok (.istore 5, 2) := by decide +kernel
theorem d_EN_writeText_48 : decode b_EN_writeText 48 = .ok (.iload 5, 2) := by decide +kernel
theorem d_EN_writeText_50 : decode b_EN_writeText 50 = .ok (.iload_n 1, 1) := by decide +kernel
theorem d_EN_writeText_51 : decode b_EN_writeText 51 = .ok (.aload_n 2, 1) := by decide +kernel
theorem d_EN_writeText_52 : decode b_EN_writeText 52 = .ok (.invokestatic 23, 3) := by decide +kernel
theorem d_EN_writeText_55 : decode b_EN_writeText 55 = .ok (.iload 5, 2) := by decide +kernel
theorem d_EN_writeText_57 : decode b_EN_writeText 57 = .ok (.ldc 29, 2) := by decide +kernel
theorem d_EN_writeText_59 : decode b_EN_writeText 59 = .ok (.if_icmp .lt 6, 3) := by decide +kernel
theorem d_EN_writeText_62 : decode b_EN_writeText 62 = .ok (.iinc 4 1, 3) := by decide +kernel
theorem d_EN_writeText_65 : decode b_EN_writeText 65 = .ok (.iinc 4 1, 3) := by decide +kernel
theorem d_EN_writeText_68 : decode b_EN_writeText 68 = .ok (.goto (-50), 3) := by decide +kernel
theorem d_EN_writeText_71 : decode b_EN_writeText 71 = .ok (.return_, 1) := by decide +kernel
theorem d_EN_writeCode_0 : decode b_EN_writeCode 0 = .ok (.iload_n 1, 1) := by decide +kernel
theorem d_EN_writeCode_1 : decode b_EN_writeCode 1 = .ok (.tableswitch 108 0 3 #[31, 58, 66, 87], 31) := by decide +kernel
theorem d_EN_writeCode_32 : decode b_EN_writeCode 32 = .ok (.iload_n 0, 1) := by decide +kernel
theorem d_EN_writeCode_33 : decode b_EN_writeCode 33 = .ok (.invokestatic 30, 3) := by decide +kernel
theorem d_EN_writeCode_36 : decode b_EN_writeCode 36 = .ok (.ifCond .ne 10, 3) := by decide +kernel
theorem d_EN_writeCode_39 : decode b_EN_writeCode 39 = .ok (.iload_n 0, 1) := by decide +kernel
theorem d_EN_writeCode_40 : decode b_EN_writeCode 40 = .ok (.invokestatic 34, 3) := by decide +kernel
theorem d_EN_writeCode_43 : decode b_EN_writeCode 43 = .ok (.ifCond .eq 8, 3) := by decide +kernel
theorem d_EN_writeCode_46 : decode b_EN_writeCode 46 = .ok (.bipush 63, 2) := by decide +kernel
theorem d_EN_writeCode_48 : decode b_EN_writeCode 48 = .ok (.goto 4, 3) := by decide +kernel
theorem d_EN_writeCode_51 : decode b_EN_writeCode 51 = .ok (.iload_n 0, 1) := by decide +kernel
theorem d_EN_writeCode_52 : decode b_EN_writeCode 52 = .ok (.aload_n 2, 1) := by decide +kernel
theorem d_EN_writeCode_53 : decode b_EN_writeCode 53 = .ok (.invokestatic 37, 3) := by decide +kernel
theorem d_EN_writeCode_56 : decode b_EN_writeCode 56 = .ok (.goto 70, 3) := by decide +kernel
theorem d_EN_writeCode_59 : decode b_EN_writeCode 59 = .ok (.iload_n 0, 1) := by decide +kernel
theorem d_EN_writeCode_60 : decode b_EN_writeCode 60 = .ok (.aload_n 2, 1) := by decide +kernel
theorem d_EN_writeCode_61 : decode b_EN_writeCode 61 = .ok (.invokestatic 41, 3) := by decide +kernel
theorem d_EN_writeCode_64 : decode b_EN_writeCode 64 = .ok (.goto 62, 3) := by decide +kernel
theorem d_EN_writeCode_67 : decode b_EN_writeCode 67 = .ok (.aload_n 2, 1) := by decide +kernel
theorem d_EN_writeCode_68 : decode b_EN_writeCode 68 = .ok (.iload_n 0, 1) := by decide +kernel
theorem d_EN_writeCode_69 : decode b_EN_writeCode 69 = .ok (.sipush 256, 3) := by decide +kernel
theorem d_EN_writeCode_72 : decode b_EN_writeCode 72 = .ok (.idiv, 1) := by decide +kernel
theorem d_EN_writeCode_73 : decode b_EN_writeCode 73 = .ok (.invokevirtual 44, 3) := by decide +kernel
theorem d_EN_writeCode_76 : decode b_EN_writeCode 76 = .ok (.aload_n 2, 1) := by decide +kernel
theorem d_EN_writeCode_77 : decode b_EN_writeCode 77 = .ok (.iload_n 0, 1) := by decide +kernel
theorem d_EN_writeCode_78 : decode b_EN_writeCode 78 = .ok (.sipush 256, 3) := by decide +kernel
theorem d_EN_writeCode_81 : decode b_EN_writeCode 81 = .ok (.irem, 1) := by decide +kernel
theorem d_EN_writeCode_82 : decode b_EN_writeCode 82 = .ok (.invokevirtual 44, 3) := by decide +kernel
theorem d_EN_writeCode_85 : decode b_EN_writeCode 85 = .ok (.goto 41, 3) := by decide +kernel
theorem d_EN_writeCode_88 : decode b_EN_writeCode 88 = .ok (.aload_n 2, 1) := by decide +kernel
theorem d_EN_writeCode_89 : decode b_EN_writeCode 89 = .ok (.iload_n 0, 1) := by decide +kernel
theorem d_EN_writeCode_90 : decode b_EN_writeCode 90 = .ok (.sipush 256, 3) := by decide +kernel
theorem d_EN_writeCode_93 : decode b_EN_writeCode 93 = .ok (.irem, 1) := by decide +kernel
theorem d_EN_writeCode_94 : decode b_EN_writeCode 94 = .ok (.invokevirtual 44, 3) := by decide +kernel
theorem d_EN_writeCode_97 : decode b_EN_writeCode 97 = .ok (.aload_n 2, 1) := by decide +kernel
theorem d_EN_writeCode_98 : decode b_EN_writeCode 98 = .ok (.iload_n 0, 1) := by decide +kernel
theorem d_EN_writeCode_99 : decode b_EN_writeCode 99 = .ok (.sipush 256, 3) := by decide +kernel
theorem d_EN_writeCode_102 : decode b_EN_writeCode 102 = .ok (.idiv, 1) := by decide +kernel
theorem d_EN_writeCode_103 : decode b_EN_writeCode 103 = .ok (.invokevirtual 44, 3) := by decide +kernel
theorem d_EN_writeCode_106 : decode b_EN_writeCode 106 = .ok (.goto 20, 3) := by decide +kernel
theorem d_EN_writeCode_109 : decode b_EN_writeCode 109 = .ok (.aload_n 2, 1) := by decide +kernel
theorem d_EN_writeCode_110 : decode b_EN_writeCode 110 = .ok (.iload_n 0, 1) := by decide +kernel
theorem d_EN_writeCode_111 : decode b_EN_writeCode 111 = .ok (.sipush 256, 3) := by decide +kernel
theorem d_EN_writeCode_114 : decode b_EN_writeCode 114 = .ok (.if_icmp .ge 7, 3) := by decide +kernel
theorem d_EN_writeCode_117 : decode b_EN_writeCode 117 = .ok (.iload_n 0, 1) := by decide +kernel
theorem d_EN_writeCode_118 : decode b_EN_writeCode 118 = .ok (.goto 5, 3) := by decide +kernel
theorem d_EN_writeCode_121 : decode b_EN_writeCode 121 = .ok (.bipush 63, 2) := by decide +kernel
theorem d_EN_writeCode_123 : decode b_EN_writeCode 123 = .ok (.invokevirtual 44, 3) := by decide +kernel
theorem d_EN_writeCode_126 : decode b_EN_writeCode 126 = .ok (.return_, 1) := by decide +kernel
theorem d_EN_writeUtf8_0 : decode b_EN_writeUtf8 0 = .ok (.iload_n 0, 1) := by decide +kernel
theorem d_EN_writeUtf8_1 : decode b_EN_writeUtf8 1 = .ok (.sipush 128, 3) := by decide +kernel
theorem d_EN_writeUtf8_4 : decode b_EN_writeUtf8 4 = .ok (.if_icmp .ge 11, 3) := by decide +kernel
theorem d_EN_writeUtf8_7 : decode b_EN_writeUtf8 7 = .ok (.aload_n 1, 1) := by decide +kernel
theorem d_EN_writeUtf8_8 : decode b_EN_writeUtf8 8 = .ok (.iload_n 0, 1) := by decide +kernel
theorem d_EN_writeUtf8_9 : decode b_EN_writeUtf8 9 = .ok (.invokevirtual 44, 3) := by decide +kernel
theorem d_EN_writeUtf8_12 : decode b_EN_writeUtf8 12 = .ok (.goto 141, 3) := by decide +kernel
theorem d_EN_writeUtf8_15 : decode b_EN_writeUtf8 15 = .ok (.iload_n 0, 1) := by decide +kernel
theorem d_EN_writeUtf8_16 : decode b_EN_writeUtf8 16 = .ok (.sipush 2048, 3) := by decide +kernel
theorem d_EN_writeUtf8_19 : decode b_EN_writeUtf8 19 = .ok (.if_icmp .ge 30, 3) := by decide +kernel
theorem d_EN_writeUtf8_22 : decode b_EN_writeUtf8 22 = .ok (.aload_n 1, 1) := by decide +kernel
theorem d_EN_writeUtf8_23 : decode b_EN_writeUtf8 23 = .ok (.sipush 192, 3) := by decide +kernel
theorem d_EN_writeUtf8_26 : decode b_EN_writeUtf8 26 = .ok (.iload_n 0, 1) := by decide +kernel
theorem d_EN_writeUtf8_27 : decode b_EN_writeUtf8 27 = .ok (.bipush 64, 2) := by decide +kernel
theorem d_EN_writeUtf8_29 : decode b_EN_writeUtf8 29 = .ok (.idiv, 1) := by decide +kernel
theorem d_EN_writeUtf8_30 : decode b_EN_writeUtf8 30 = .ok (.iadd, 1) := by decide +kernel
theorem d_EN_writeUtf8_31 : decode b_EN_writeUtf8 31 = .ok (.invokevirtual 44, 3) := by decide +kernel
theorem d_EN_writeUtf8_34 : decode b_EN_writeUtf8 34 = .ok (.aload_n 1, 1) := by decide +kernel
theorem d_EN_writeUtf8_35 : decode b_EN_writeUtf8 35 = .ok (.sipush 128, 3) := by decide +kernel
theorem d_EN_writeUtf8_38 : decode b_EN_writeUtf8 38 = .ok (.iload_n 0, 1) := by decide +kernel
theorem d_EN_writeUtf8_39 : decode b_EN_writeUtf8 39 = .ok (.bipush 64, 2) := by decide +kernel
theorem d_EN_writeUtf8_41 : decode b_EN_writeUtf8 41 = .ok (.irem, 1) := by decide +kernel
theorem d_EN_writeUtf8_42 : decode b_EN_writeUtf8 42 = .ok (.iadd, 1) := by decide +kernel
theorem d_EN_writeUtf8_43 : decode b_EN_writeUtf8 43 = .ok (.invokevirtual 44, 3) := by decide +kernel
theorem d_EN_writeUtf8_46 : decode b_EN_writeUtf8 46 = .ok (.goto 107, 3) := by decide +kernel
theorem d_EN_writeUtf8_49 : decode b_EN_writeUtf8 49 = .ok (.iload_n 0, 1) := by decide +kernel
theorem d_EN_writeUtf8_50 : decode b_EN_writeUtf8 50 = .ok (.ldc 29, 2) := by decide +kernel
theorem d_EN_writeUtf8_52 : decode b_EN_writeUtf8 52 = .ok (.if_icmp .ge 46, 3) := by decide +kernel
theorem d_EN_writeUtf8_55 : decode b_EN_writeUtf8 55 = .ok (.aload_n 1, 1) := by decide +kernel
theorem d_EN_writeUtf8_56 : decode b_EN_writeUtf8 56 = .ok (.sipush 224, 3) := by decide +kernel
theorem d_EN_writeUtf8_59 : decode b_EN_writeUtf8 59 = .ok (.iload_n 0, 1) := by decide +kernel
theorem d_EN_writeUtf8_60 : decode b_EN_writeUtf8 60 = .ok (.sipush 4096, 3) := by decide +kernel
theorem d_EN_writeUtf8_63 : decode b_EN_writeUtf8 63 = .ok (.idiv, 1) := by decide +kernel
theorem d_EN_writeUtf8_64 : decode b_EN_writeUtf8 64 = .ok (.iadd, 1) := by decide +kernel
theorem d_EN_writeUtf8_65 : decode b_EN_writeUtf8 65 = .ok (.invokevirtual 44, 3) := by decide +kernel
theorem d_EN_writeUtf8_68 : decode b_EN_writeUtf8 68 = .ok (.aload_n 1, 1) := by decide +kernel
theorem d_EN_writeUtf8_69 : decode b_EN_writeUtf8 69 = .ok (.sipush 128, 3) := by decide +kernel
theorem d_EN_writeUtf8_72 : decode b_EN_writeUtf8 72 = .ok (.iload_n 0, 1) := by decide +kernel
theorem d_EN_writeUtf8_73 : decode b_EN_writeUtf8 73 = .ok (.bipush 64, 2) := by decide +kernel
theorem d_EN_writeUtf8_75 : decode b_EN_writeUtf8 75 = .ok (.idiv, 1) := by decide +kernel
theorem d_EN_writeUtf8_76 : decode b_EN_writeUtf8 76 = .ok (.bipush 64, 2) := by decide +kernel
theorem d_EN_writeUtf8_78 : decode b_EN_writeUtf8 78 = .ok (.irem, 1) := by decide +kernel
theorem d_EN_writeUtf8_79 : decode b_EN_writeUtf8 79 = .ok (.iadd, 1) := by decide +kernel
theorem d_EN_writeUtf8_80 : decode b_EN_writeUtf8 80 = .ok (.invokevirtual 44, 3) := by decide +kernel
theorem d_EN_writeUtf8_83 : decode b_EN_writeUtf8 83 = .ok (.aload_n 1, 1) := by decide +kernel
theorem d_EN_writeUtf8_84 : decode b_EN_writeUtf8 84 = .ok (.sipush 128, 3) := by decide +kernel
theorem d_EN_writeUtf8_87 : decode b_EN_writeUtf8 87 = .ok (.iload_n 0, 1) := by decide +kernel
theorem d_EN_writeUtf8_88 : decode b_EN_writeUtf8 88 = .ok (.bipush 64, 2) := by decide +kernel
theorem d_EN_writeUtf8_90 : decode b_EN_writeUtf8 90 = .ok (.irem, 1) := by decide +kernel
theorem d_EN_writeUtf8_91 : decode b_EN_writeUtf8 91 = .ok (.iadd, 1) := by decide +kernel
theorem d_EN_writeUtf8_92 : decode b_EN_writeUtf8 92 = .ok (.invokevirtual 44, 3) := by decide +kernel
theorem d_EN_writeUtf8_95 : decode b_EN_writeUtf8 95 = .ok (.goto 58, 3) := by decide +kernel
theorem d_EN_writeUtf8_98 : decode b_EN_writeUtf8 98 = .ok (.aload_n 1, 1) := by decide +kernel
theorem d_EN_writeUtf8_99 : decode b_EN_writeUtf8 99 = .ok (.sipush 240, 3) := by decide +kernel
theorem d_EN_writeUtf8_102 : decode b_EN_writeUtf8 102 = .ok (.iload_n 0, 1) := by decide +kernel
theorem d_EN_writeUtf8_103 : decode b_EN_writeUtf8 103 = .ok (.ldc 50, 2) := by decide +kernel
theorem d_EN_writeUtf8_105 : decode b_EN_writeUtf8 105 = .ok (.idiv, 1) := by decide +kernel
theorem d_EN_writeUtf8_106 : decode b_EN_writeUtf8 106 = .ok (.iadd, 1) := by decide +kernel
theorem d_EN_writeUtf8_107 : decode b_EN_writeUtf8 107 = .ok (.invokevirtual 44, 3) := by decide +kernel
theorem d_EN_writeUtf8_110 : decode b_EN_writeUtf8 110 = .ok (.aload_n 1, 1) := by decide +kernel
theorem d_EN_writeUtf8_111 : decode b_EN_writeUtf8 111 = .ok (.sipush 128, 3) := by decide +kernel
theorem d_EN_writeUtf8_114 : decode b_EN_writeUtf8 114 = .ok (.iload_n 0, 1) := by decide +kernel
theorem d_EN_writeUtf8_115 : decode b_EN_writeUtf8 115 = .ok (.sipush 4096, 3) := by decide +kernel
theorem d_EN_writeUtf8_118 : decode b_EN_writeUtf8 118 = .ok (.idiv, 1) := by decide +kernel
theorem d_EN_writeUtf8_119 : decode b_EN_writeUtf8 119 = .ok (.bipush 64, 2) := by decide +kernel
theorem d_EN_writeUtf8_121 : decode b_EN_writeUtf8 121 = .ok (.irem, 1) := by decide +kernel
theorem d_EN_writeUtf8_122 : decode b_EN_writeUtf8 122 = .ok (.iadd, 1) := by decide +kernel
theorem d_EN_writeUtf8_123 : decode b_EN_writeUtf8 123 = .ok (.invokevirtual 44, 3) := by decide +kernel
theorem d_EN_writeUtf8_126 : decode b_EN_writeUtf8 126 = .ok (.aload_n 1, 1) := by decide +kernel
theorem d_EN_writeUtf8_127 : decode b_EN_writeUtf8 127 = .ok (.sipush 128, 3) := by decide +kernel
theorem d_EN_writeUtf8_130 : decode b_EN_writeUtf8 130 = .ok (.iload_n 0, 1) := by decide +kernel
theorem d_EN_writeUtf8_131 : decode b_EN_writeUtf8 131 = .ok (.bipush 64, 2) := by decide +kernel
theorem d_EN_writeUtf8_133 : decode b_EN_writeUtf8 133 = .ok (.idiv, 1) := by decide +kernel
theorem d_EN_writeUtf8_134 : decode b_EN_writeUtf8 134 = .ok (.bipush 64, 2) := by decide +kernel
theorem d_EN_writeUtf8_136 : decode b_EN_writeUtf8 136 = .ok (.irem, 1) := by decide +kernel
theorem d_EN_writeUtf8_137 : decode b_EN_writeUtf8 137 = .ok (.iadd, 1) := by decide +kernel
theorem d_EN_writeUtf8_138 : decode b_EN_writeUtf8 138 = .ok (.invokevirtual 44, 3) := by decide +kernel
theorem d_EN_writeUtf8_141 : decode b_EN_writeUtf8 141 = .ok (.aload_n 1, 1) := by decide +kernel
theorem d_EN_writeUtf8_142 : decode b_EN_writeUtf8 142 = .ok (.sipush 128, 3) := by decide +kernel
theorem d_EN_writeUtf8_145 : decode b_EN_writeUtf8 145 = .ok (.iload_n 0, 1) := by decide +kernel
theorem d_EN_writeUtf8_146 : decode b_EN_writeUtf8 146 = .ok (.bipush 64, 2) := by decide +kernel
theorem d_EN_writeUtf8_148 : decode b_EN_writeUtf8 148 = .ok (.irem, 1) := by decide +kernel
theorem d_EN_writeUtf8_149 : decode b_EN_writeUtf8 149 = .ok (.iadd, 1) := by decide +kernel
theorem d_EN_writeUtf8_150 : decode b_EN_writeUtf8 150 = .ok (.invokevirtual 44, 3) := by decide +kernel
theorem d_EN_writeUtf8_153 : decode b_EN_writeUtf8 153 = .ok (.return_, 1) := by decide +kernel
theorem d_EN_writeModified_0 : decode b_EN_writeModified 0 = .ok (.iload_n 0, 1) := by decide +kernel
theorem d_EN_writeModified_1 : decode b_EN_writeModified 1 = .ok (.ifCond .ne 20, 3) := by decide +kernel
theorem d_EN_writeModified_4 : decode b_EN_writeModified 4 = .ok (.aload_n 1, 1) := by decide +kernel
theorem d_EN_writeModified_5 : decode b_EN_writeModified 5 = .ok (.sipush 192, 3) := by decide +kernel
theorem d_EN_writeModified_8 : decode b_EN_writeModified 8 = .ok (.invokevirtual 44, 3) := by decide +kernel
theorem d_EN_writeModified_11 : decode b_EN_writeModified 11 = .ok (.aload_n 1, 1) := by decide +kernel
theorem d_EN_writeModified_12 : decode b_EN_writeModified 12 = .ok (.sipush 128, 3) := by decide +kernel
theorem d_EN_writeModified_15 : decode b_EN_writeModified 15 = .ok (.invokevirtual 44, 3) := by decide +kernel
theorem d_EN_writeModified_18 : decode b_EN_writeModified 18 = .ok (.goto 8, 3) := by decide +kernel
theorem d_EN_writeModified_21 : decode b_EN_writeModified 21 = .ok (.iload_n 0, 1) := by decide +kernel
theorem d_EN_writeModified_22 : decode b_EN_writeModified 22 = .ok (.aload_n 1, 1) := by decide +kernel
theorem d_EN_writeModified_23 : decode b_EN_writeModified 23 = .ok (.invokestatic 37, 3) := by decide +kernel
theorem d_EN_writeModified_26 : decode b_EN_writeModified 26 = .ok (.return_, 1) := by decide +kernel
theorem d_DC_readAll_0 : decode b_DC_readAll 0 = .ok (.iconst 1, 1) := by decide +kernel
theorem d_DC_readAll_1 : decode b_DC_readAll 1 = .ok (.istore 4, 2) := by decide +kernel
theorem d_DC_readAll_3 : decode b_DC_readAll 3 = .ok (.iconst 0, 1) := by decide +kernel
theorem d_DC_readAll_4 : decode b_DC_readAll 4 = .ok (.istore 5, 2) := by decide +kernel
theorem d_DC_readAll_6 : decode b_DC_readAll 6 = .ok (.iload 5, 2) := by decide +kernel
theorem d_DC_readAll_8 : decode b_DC_readAll 8 = .ok (.aload_n 1, 1) := by decide +kernel
theorem d_DC_readAll_9 : decode b_DC_readAll 9 = .ok (.invokevirtual 9, 3) := by decide +kernel
theorem d_DC_readAll_12 : decode b_DC_readAll 12 = .ok (.if_icmp .ge 68, 3) := by decide +kernel
theorem d_DC_readAll_15 : decode b_DC_readAll 15 = .ok (.aload_n 0, 1) := by decide +kernel
theorem d_DC_readAll_16 : decode b_DC_readAll 16 = .ok (.aload_n 1, 1) := by decide +kernel
theorem d_DC_readAll_17 : decode b_DC_readAll 17 = .ok (.iload 5, 2) := by decide +kernel
theorem d_DC_readAll_19 : decode b_DC_readAll 19 = .ok (.iload_n 2, 1) := by decide +kernel
theorem d_DC_readAll_20 : decode b_DC_readAll 20 = .ok (.invokevirtual 15, 3) := by decide +kernel
theorem d_DC_readAll_23 : decode b_DC_readAll 23 = .ok (.iload 4, 2) := by decide +kernel
theorem d_DC_readAll_25 : decode b_DC_readAll 25 = .ok (.ifCond .eq 15, 3) := by decide +kernel
theorem d_DC_readAll_28 : decode b_DC_readAll 28 = .ok (.aload_n 0, 1) := by decide +kernel
theorem d_DC_readAll_29 : decode b_DC_readAll 29 = .ok (.getfield 21, 3) := by decide +kernel
theorem d_DC_readAll_32 : decode b_DC_readAll 32 = .ok (.iconst (-1), 1) := by decide +kernel
theorem d_DC_readAll_33 : decode b_DC_readAll 33 = .ok (.if_icmp .eq 7, 3) := by decide +kernel
theorem d_DC_readAll_36 : decode b_DC_readAll 36 = .ok (.iconst 1, 1) := by decide +kernel
theorem d_DC_readAll_37 : decode b_DC_readAll 37 = .ok (.goto 4, 3) := by decide +kernel
theorem d_DC_readAll_40 : decode b_DC_readAll 40 = .ok (.iconst 0, 1) := by decide +kernel
theorem d_DC_readAll_41 : decode b_DC_readAll 41 = .ok (.istore 4, 2) := by decide +kernel
theorem d_DC_readAll_43 : decode b_DC_readAll 43 = .ok (.aload_n 0, 1) := by decide +kernel
theorem d_DC_readAll_44 : decode b_DC_readAll 44 = .ok (.getfield 21, 3) := by decide +kernel
theorem d_DC_readAll_47 : decode b_DC_readAll 47 = .ok (.iconst (-1), 1) := by decide +kernel
theorem d_DC_readAll_48 : decode b_DC_readAll 48 = .ok (.if_icmp .ne 8, 3) := by decide +kernel
theorem d_DC_readAll_51 : decode b_DC_readAll 51 = .ok (.ldc 25, 2) := by decide +kernel
theorem d_DC_readAll_53 : decode b_DC_readAll 53 = .ok (.goto 7, 3) := by decide +kernel
theorem d_DC_readAll_56 : decode b_DC_readAll 56 = .ok (.aload_n 0, 1) := by decide +kernel
theorem d_DC_readAll_57 : decode b_DC_readAll 57 = .ok (.getfield 21, 3) := by decide +kernel
theorem d_DC_readAll_60 : decode b_DC_readAll 60 = .ok (.aload_n 3, 1) := by decide +kernel
theorem d_DC_readAll_61 : decode b_DC_readAll 61 = .ok (.invokestatic 26, 3) := by decide +kernel
theorem d_DC_readAll_64 : decode b_DC_readAll 64 = .ok (.iload 5, 2) := by decide +kernel
theorem d_DC_readAll_66 : decode b_DC_readAll 66 = .ok (.aload_n 0, 1) := by decide +kernel
theorem d_DC_readAll_67 : decode b_DC_readAll 67 = .ok (.getfield 30, 3) := by decide +kernel
theorem d_DC_readAll_70 : decode b_DC_readAll 70 = .ok (.iconst 1, 1) := by decide +kernel
theorem d_DC_readAll_71 : decode b_DC_readAll 71 = .ok (.invokestatic 33, 3) := by decide +kernel
theorem d_DC_readAll_74 : decode b_DC_readAll 74 = .ok (.iadd, 1) := by decide +kernel
theorem d_DC_readAll_75 : decode b_DC_readAll 75 = .ok (.istore 5, 2) := by decide +kernel
theorem d_DC_readAll_77 : decode b_DC_readAll 77 = .ok (.goto (-71), 3) := by decide +kernel
theorem d_DC_readAll_80 : decode b_DC_readAll 80 = .ok (.iload 4, 2) := by decide +kernel
theorem d_DC_readAll_82 : decode b_DC_readAll 82 = .ok (.ireturn, 1) := by decide +kernel
theorem d_DC_readRow_0 : decode b_DC_readRow 0 = .ok (.iload_n 3, 1) := by decide +kernel
theorem d_DC_readRow_1 : decode b_DC_readRow 1 = .ok (.tableswitch 105 0 3 #[31, 49, 67, 86], 31) := by decide +kernel
theorem d_DC_readRow_32 : decode b_DC_readRow 32 = .ok (.aload_n 0, 1) := by decide +kernel
theorem d_DC_readRow_33 : decode b_DC_readRow 33 = .ok (.aload_n 1, 1) := by decide +kernel
theorem d_DC_readRow_34 : decode b_DC_readRow 34 = .ok (.iload_n 2, 1) := by decide +kernel
theorem d_DC_readRow_35 : decode b_DC_readRow 35 = .ok (.aload_n 1, 1) := by decide +kernel
theorem d_DC_readRow_36 : decode b_DC_readRow 36 = .ok (.iload_n 2, 1) := by decide +kernel
theorem d_DC_readRow_37 : decode b_DC_readRow 37 = .ok (.invokevirtual 46, 3) := by decide +kernel
theorem d_DC_readRow_40 : decode b_DC_readRow 40 = .ok (.invokestatic 50, 3) := by decide +kernel
theorem d_DC_readRow_43 : decode b_DC_readRow 43 = .ok (.iconst 0, 1) := by decide +kernel
theorem d_DC_readRow_44 : decode b_DC_readRow 44 = .ok (.invokevirtual 53, 3) := by decide +kernel
theorem d_DC_readRow_47 : decode b_DC_readRow 47 = .ok (.goto 69, 3) := by decide +kernel
theorem d_DC_readRow_50 : decode b_DC_readRow 50 = .ok (.aload_n 0, 1) := by decide +kernel
theorem d_DC_readRow_51 : decode b_DC_readRow 51 = .ok (.aload_n 1, 1) := by decide +kernel
theorem d_DC_readRow_52 : decode b_DC_readRow 52 = .ok (.iload_n 2, 1) := by decide +kernel
theorem d_DC_readRow_53 : decode b_DC_readRow 53 = .ok (.aload_n 1, 1) := by decide +kernel
theorem d_DC_readRow_54 : decode b_DC_readRow 54 = .ok (.iload_n 2, 1) := by decide +kernel
theorem d_DC_readRow_55 : decode b_DC_readRow 55 = .ok (.invokevirtual 46, 3) := by decide +kernel
theorem d_DC_readRow_58 : decode b_DC_readRow 58 = .ok (.invokestatic 57, 3) := by decide +kernel
theorem d_DC_readRow_61 : decode b_DC_readRow 61 = .ok (.iconst 1, 1) := by decide +kernel
theorem d_DC_readRow_62 : decode b_DC_readRow 62 = .ok (.invokevirtual 53, 3) := by decide +kernel
theorem d_DC_readRow_65 : decode b_DC_readRow 65 = .ok (.goto 51, 3) := by decide +kernel
theorem d_DC_readRow_68 : decode b_DC_readRow 68 = .ok (.aload_n 0, 1) := by decide +kernel
theorem d_DC_readRow_69 : decode b_DC_readRow 69 = .ok (.aload_n 1, 1) := by decide +kernel
theorem d_DC_readRow_70 : decode b_DC_readRow 70 = .ok (.iload_n 2, 1) := by decide +kernel
theorem d_DC_readRow_71 : decode b_DC_readRow 71 = .ok (.invokevirtual 46, 3) := by decide +kernel
theorem d_DC_readRow_74 : decode b_DC_readRow 74 = .ok (.aload_n 1, 1) := by decide +kernel
theorem d_DC_readRow_75 : decode b_DC_readRow 75 = .ok (.iload_n 2, 1) := by decide +kernel
theorem d_DC_readRow_76 : decode b_DC_readRow 76 = .ok (.iconst 1, 1) := by decide +kernel
theorem d_DC_readRow_77 : decode b_DC_readRow 77 = .ok (.iadd, 1) := by decide +kernel
theorem d_DC_readRow_78 : decode b_DC_readRow 78 = .ok (.invokevirtual 46, 3) := by decide +kernel
theorem d_DC_readRow_81 : decode b_DC_readRow 81 = .ok (.invokevirtual 60, 3) := by decide +kernel
theorem d_DC_readRow_84 : decode b_DC_readRow 84 = .ok (.goto 32, 3) := by decide +kernel
theorem d_DC_readRow_87 : decode b_DC_readRow 87 = .ok (.aload_n 0, 1) := by decide +kernel
theorem d_DC_readRow_88 : decode b_DC_readRow 88 = .ok (.aload_n 1, 1) := by decide +kernel
theorem d_DC_readRow_89 : decode b_DC_readRow 89 = .ok (.iload_n 2, 1) := by decide +kernel
theorem d_DC_readRow_90 : decode b_DC_readRow 90 = .ok (.iconst 1, 1) := by decide +kernel
theorem d_DC_readRow_91 : decode b_DC_readRow 91 = .ok (.iadd, 1) := by decide +kernel
theorem d_DC_readRow_92 : decode b_DC_readRow 92 = .ok (.invokevirtual 46, 3) := by decide +kernel
theorem d_DC_readRow_95 : decode b_DC_readRow 95 = .ok (.aload_n 1, 1) := by decide +kernel
theorem d_DC_readRow_96 : decode b_DC_readRow 96 = .ok (.iload_n 2, 1) := by decide +kernel
theorem d_DC_readRow_97 : decode b_DC_readRow 97 = .ok (.invokevirtual 46, 3) := by decide +kernel
theorem d_DC_readRow_100 : decode b_DC_readRow 100 = .ok (.invokevirtual 60, 3) := by decide +kernel
theorem d_DC_readRow_103 : decode b_DC_readRow 103 = .ok (.goto 13, 3) := by decide +kernel
theorem d_DC_readRow_106 : decode b_DC_readRow 106 = .ok (.aload_n 0, 1) := by decide +kernel
theorem d_DC_readRow_107 : decode b_DC_readRow 107 = .ok (.aload_n 1, 1) := by decide +kernel
theorem d_DC_readRow_108 : decode b_DC_readRow 108 = .ok (.iload_n 2, 1) := by decide +kernel
theorem d_DC_readRow_109 : decode b_DC_readRow 109 = .ok (.invokevirtual 46, 3) := by decide +kernel
theorem d_DC_readRow_112 : decode b_DC_readRow 112 = .ok (.iconst 1, 1) := by decide +kernel
theorem d_DC_readRow_113 : decode b_DC_readRow 113 = .ok (.invokevirtual 64, 3) := by decide +kernel
theorem d_DC_readRow_116 : decode b_DC_readRow 116 = .ok (.return_, 1) := by decide +kernel
theorem d_DC_goodWidthUtf8_0 : decode b_DC_goodWidthUtf8 0 = .ok (.iload_n 0, 1) := by decide +kernel
theorem d_DC_goodWidthUtf8_1 : decode b_DC_goodWidthUtf8 1 = .ok (.sipush 128, 3) := by decide +kernel
theorem d_DC_goodWidthUtf8_4 : decode b_DC_goodWidthUtf8 4 = .ok (.if_icmp .ge 5, 3) := by decide +kernel
theorem d_DC_goodWidthUtf8_7 : decode b_DC_goodWidthUtf8 7 = .ok (.iconst 1, 1) := by decide +kernel
theorem d_DC_goodWidthUtf8_8 : decode b_DC_goodWidthUtf8 8 = .ok (.ireturn, 1) := by decide +kernel
theorem d_DC_goodWidthUtf8_9 : decode b_DC_goodWidthUtf8 9 = .ok (.iload_n 0, 1) := by decide +kernel
theorem d_DC_goodWidthUtf8_10 : decode b_DC_goodWidthUtf8 10 = .ok (.sipush 194, 3) := by decide +kernel
theorem d_DC_goodWidthUtf8_13 : decode b_DC_goodWidthUtf8 13 = .ok (.if_icmp .lt 10, 3) := by decide +kernel
theorem d_DC_goodWidthUtf8_16 : decode b_DC_goodWidthUtf8 16 = .ok (.iload_n 0, 1) := by decide +kernel
theorem d_DC_goodWidthUtf8_17 : decode b_DC_goodWidthUtf8 17 = .ok (.sipush 244, 3) := by decide +kernel
theorem d_DC_goodWidthUtf8_20 : decode b_DC_goodWidthUtf8 20 = .ok (.if_icmp .le 5, 3) := by decide +kernel
theorem d_DC_goodWidthUtf8_23 : decode b_DC_goodWidthUtf8 23 = .ok (.iconst 0, 1) := by decide +kernel
theorem d_DC_goodWidthUtf8_24 : decode b_DC_goodWidthUtf8 24 = .ok (.ireturn, 1) := by decide +kernel
theorem d_DC_goodWidthUtf8_25 : decode b_DC_goodWidthUtf8 25 = .ok (.iload_n 0, 1) := by decide +kernel
theorem d_DC_goodWidthUtf8_26 : decode b_DC_goodWidthUtf8 26 = .ok (.sipush 224, 3) := by decide +kernel
theorem d_DC_goodWidthUtf8_29 : decode b_DC_goodWidthUtf8 29 = .ok (.if_icmp .ge 7, 3) := by decide +kernel
theorem d_DC_goodWidthUtf8_32 : decode b_DC_goodWidthUtf8 32 = .ok (.iconst 2, 1) := by decide +kernel
theorem d_DC_goodWidthUtf8_33 : decode b_DC_goodWidthUtf8 33 = .ok (.goto 15, 3) := by decide +kernel
theorem d_DC_goodWidthUtf8_36 : decode b_DC_goodWidthUtf8 36 = .ok (.iload_n 0, 1) := by decide +kernel
theorem d_DC_goodWidthUtf8_37 : decode b_DC_goodWidthUtf8 37 = .ok (.sipush 240, 3) := by decide +kernel
theorem d_DC_goodWidthUtf8_40 : decode b_DC_goodWidthUtf8 40 = .ok (.if_icmp .ge 7, 3) := by decide +kernel
theorem d_DC_goodWidthUtf8_43 : decode b_DC_goodWidthUtf8 43 = .ok (.iconst 3, 1) := by decide +kernel
theorem d_DC_goodWidthUtf8_44 : decode b_DC_goodWidthUtf8 44 = .ok (.goto 4, 3) := by decide +kernel
theorem d_DC_goodWidthUtf8_47 : decode b_DC_goodWidthUtf8 47 = .ok (.iconst 4, 1) := by decide +kernel
theorem d_DC_goodWidthUtf8_48 : decode b_DC_goodWidthUtf8 48 = .ok (.ireturn, 1) := by decide +kernel
theorem d_DC_readPrefixed_0 : decode b_DC_readPrefixed 0 = .ok (.iload_n 3, 1) := by decide +kernel
theorem d_DC_readPrefixed_1 : decode b_DC_readPrefixed 1 = .ok (.ifCond .ne 10, 3) := by decide +kernel
theorem d_DC_readPrefixed_4 : decode b_DC_readPrefixed 4 = .ok (.aload_n 0, 1) := by decide +kernel
theorem d_DC_readPrefixed_5 : decode b_DC_readPrefixed 5 = .ok (.iconst (-1), 1) := by decide +kernel
theorem d_DC_readPrefixed_6 : decode b_DC_readPrefixed 6 = .ok (.iconst 1, 1) := by decide +kernel
theorem d_DC_readPrefixed_7 : decode b_DC_readPrefixed 7 = .ok (.invokevirtual 64, 3) := by decide +kernel
theorem d_DC_readPrefixed_10 : decode b_DC_readPrefixed 10 = .ok (.return_, 1) := by decide +kernel
theorem d_DC_readPrefixed_11 : decode b_DC_readPrefixed 11 = .ok (.aload_n 1, 1) := by decide +kernel
theorem d_DC_readPrefixed_12 : decode b_DC_readPrefixed 12 = .ok (.iload_n 2, 1) := by decide +kernel
theorem d_DC_readPrefixed_13 : decode b_DC_readPrefixed 13 = .ok (.invokevirtual 46, 3) := by decide +kernel
theorem d_DC_readPrefixed_16 : decode b_DC_readPrefixed 16 = .ok (.istore 5, 2) := by decide +kernel
theorem d_DC_readPrefixed_18 : decode b_DC_readPrefixed 18 = .ok (.iload 5, 2) := by decide +kernel
theorem d_DC_readPrefixed_20 : decode b_DC_readPrefixed 20 = .ok (.iload_n 3, 1) := by decide +kernel
theorem d_DC_readPrefixed_21 : decode b_DC_readPrefixed 21 = .ok (.invokestatic 67, 3) := by decide +kernel
theorem d_DC_readPrefixed_24 : decode b_DC_readPrefixed 24 = .ok (.isub, 1) := by decide +kernel
theorem d_DC_readPrefixed_25 : decode b_DC_readPrefixed 25 = .ok (.istore 6, 2) := by decide +kernel
theorem d_DC_readPrefixed_27 : decode b_DC_readPrefixed 27 = .ok (.iconst 1, 1) := by decide +kernel
theorem d_DC_readPrefixed_28 : decode b_DC_readPrefixed 28 = .ok (.istore 7, 2) := by decide +kernel
theorem d_DC_readPrefixed_30 : decode b_DC_readPrefixed 30 = .ok (.iload 7, 2) := by decide +kernel
theorem d_DC_readPrefixed_32 : decode b_DC_readPrefixed 32 = .ok (.iload_n 3, 1) := by decide +kernel
theorem d_DC_readPrefixed_33 : decode b_DC_readPrefixed 33 = .ok (.if_icmp .ge 95, 3) := by decide +kernel
theorem d_DC_readPrefixed_36 : decode b_DC_readPrefixed 36 = .ok (.aload_n 1, 1) := by decide +kernel
theorem d_DC_readPrefixed_37 : decode b_DC_readPrefixed 37 = .ok (.iload_n 2, 1) := by decide +kernel
theorem d_DC_readPrefixed_38 : decode b_DC_readPrefixed 38 = .ok (.iload 7, 2) := by decide +kernel
theorem d_DC_readPrefixed_40 : decode b_DC_readPrefixed 40 = .ok (.iadd, 1) := by decide +kernel
theorem d_DC_readPrefixed_41 : decode b_DC_readPrefixed 41 = .ok (.invokevirtual 46, 3) := by decide +kernel
theorem d_DC_readPrefixed_44 : decode b_DC_readPrefixed 44 = .ok (.istore 8, 2) := by decide +kernel
theorem d_DC_readPrefixed_46 : decode b_DC_readPrefixed 46 = .ok (.iload 7, 2) := by decide +kernel
theorem d_DC_readPrefixed_48 : decode b_DC_readPrefixed 48 = .ok (.iconst 1, 1) := by decide +kernel
theorem d_DC_readPrefixed_49 : decode b_DC_readPrefixed 49 = .ok (.if_icmp .ne 11, 3) := by decide +kernel
theorem d_DC_readPrefixed_52 : decode b_DC_readPrefixed 52 = .ok (.iload 5, 2) := by decide +kernel
theorem d_DC_readPrefixed_54 : decode b_DC_readPrefixed 54 = .ok (.invokestatic 70, 3) := by decide +kernel
theorem d_DC_readPrefixed_57 : decode b_DC_readPrefixed 57 = .ok (.goto 6, 3) := by decide +kernel
theorem d_DC_readPrefixed_60 : decode b_DC_readPrefixed 60 = .ok (.sipush 128, 3) := by decide +kernel
theorem d_DC_readPrefixed_63 : decode b_DC_readPrefixed 63 = .ok (.istore 9, 2) := by decide +kernel
theorem d_DC_readPrefixed_65 : decode b_DC_readPrefixed 65 = .ok (.iload 7, 2) := by decide +kernel
theorem d_DC_readPrefixed_67 : decode b_DC_readPrefixed 67 = .ok (.iconst 1, 1) := by decide +kernel
theorem d_DC_readPrefixed_68 : decode b_DC_readPrefixed 68 = .ok (.if_icmp .ne 13, 3) := by decide +kernel
theorem d_DC_readPrefixed_71 : decode b_DC_readPrefixed 71 = .ok (.iload 5, 2) := by decide +kernel
theorem d_DC_readPrefixed_73 : decode b_DC_readPrefixed 73 = .ok (.iload 4, 2) := by decide +kernel
theorem d_DC_readPrefixed_75 : decode b_DC_readPrefixed 75 = .ok (.invokestatic 73, 3) := by decide +kernel
theorem d_DC_readPrefixed_78 : decode b_DC_readPrefixed 78 = .ok (.goto 6, 3) := by decide +kernel
theorem d_DC_readPrefixed_81 : decode b_DC_readPrefixed 81 = .ok (.sipush 191, 3) := by decide +kernel
theorem d_DC_readPrefixed_84 : decode b_DC_readPrefixed 84 = .ok (.istore 10, 2) := by decide +kernel
theorem d_DC_readPrefixed_86 : decode b_DC_readPrefixed 86 = .ok (.iload 8, 2) := by decide +kernel
theorem d_DC_readPrefixed_88 : decode b_DC_readPrefixed 88 = .ok (.iload 9, 2) := by decide +kernel
theorem d_DC_readPrefixed_90 : decode b_DC_readPrefixed 90 = .ok (.if_icmp .lt 10, 3) := by decide +kernel
theorem d_DC_readPrefixed_93 : decode b_DC_readPrefixed 93 = .ok (.iload 8, 2) := by decide +kernel
theorem d_DC_readPrefixed_95 : decode b_DC_readPrefixed 95 = .ok (.iload 10, 2) := by decide +kernel
theorem d_DC_readPrefixed_97 : decode b_DC_readPrefixed 97 = .ok (.if_icmp .le 11, 3) := by decide +kernel
theorem d_DC_readPrefixed_100 : decode b_DC_readPrefixed 100 = .ok (.aload_n 0, 1) := by decide +kernel
theorem d_DC_readPrefixed_101 : decode b_DC_readPrefixed 101 = .ok (.iconst (-1), 1) := by decide +kernel
theorem d_DC_readPrefixed_102 : decode b_DC_readPrefixed 102 = .ok (.iload 7, 2) := by decide +kernel
theorem d_DC_readPrefixed_104 : decode b_DC_readPrefixed 104 = .ok (.invokevirtual 64, 3) := by decide +kernel
theorem d_DC_readPrefixed_107 : decode b_DC_readPrefixed 107 = .ok (.return_, 1) := by decide +kernel
theorem d_DC_readPrefixed_108 : decode b_DC_readPrefixed 108 = .ok (.iload 6, 2) := by decide +kernel
theorem d_DC_readPrefixed_110 : decode b_DC_readPrefixed 110 = .ok (.bipush 64, 2) := by decide +kernel
theorem d_DC_readPrefixed_112 : decode b_DC_readPrefixed 112 = .ok (.imul, 1) := by decide +kernel
theorem d_DC_readPrefixed_113 : decode b_DC_readPrefixed 113 = .ok (.iload 8, 2) := by decide +kernel
theorem d_DC_readPrefixed_115 : decode b_DC_readPrefixed 115 = .ok (.iadd, 1) := by decide +kernel
theorem d_DC_readPrefixed_116 : decode b_DC_readPrefixed 116 = .ok (.sipush 128, 3) := by decide +kernel
theorem d_DC_readPrefixed_119 : decode b_DC_readPrefixed 119 = .ok (.isub, 1) := by decide +kernel
theorem d_DC_readPrefixed_120 : decode b_DC_readPrefixed 120 = .ok (.istore 6, 2) := by decide +kernel
theorem d_DC_readPrefixed_122 : decode b_DC_readPrefixed 122 = .ok (.iinc 7 1, 3) := by decide +kernel
theorem d_DC_readPrefixed_125 : decode b_DC_readPrefixed 125 = .ok (.goto (-95), 3) := by decide +kernel
theorem d_DC_readPrefixed_128 : decode b_DC_readPrefixed 128 = .ok (.aload_n 0, 1) := by decide +kernel
theorem d_DC_readPrefixed_129 : decode b_DC_readPrefixed 129 = .ok (.iload 6, 2) := by decide +kernel
theorem d_DC_readPrefixed_131 : decode b_DC_readPrefixed 131 = .ok (.iload_n 3, 1) := by decide +kernel
theorem d_DC_readPrefixed_132 : decode b_DC_readPrefixed 132 = .ok (.invokevirtual 64, 3) := by decide +kernel
theorem d_DC_readPrefixed_135 : decode b_DC_readPrefixed 135 = .ok (.return_, 1) := by decide +kernel
theorem d_DC_setRow_0 : decode b_DC_setRow 0 = .ok (.aload_n 0, 1) := by decide +kernel
theorem d_DC_setRow_1 : decode b_DC_setRow 1 = .ok (.iload_n 1, 1) := by decide +kernel
theorem d_DC_setRow_2 : decode b_DC_setRow 2 = .ok (.putfield 21, 3) := by decide +kernel
theorem d_DC_setRow_5 : decode b_DC_setRow 5 = .ok (.aload_n 0, 1) := by decide +kernel
theorem d_DC_setRow_6 : decode b_DC_setRow 6 = .ok (.iload_n 2, 1) := by decide +kernel
theorem d_DC_setRow_7 : decode b_DC_setRow 7 = .ok (.putfield 30, 3) := by decide +kernel
theorem d_DC_setRow_10 : decode b_DC_setRow 10 = .ok (.return_, 1) := by decide +kernel
theorem d_DC_firstByteBase_0 : decode b_DC_firstByteBase 0 = .ok (.iload_n 0, 1) := by decide +kernel
theorem d_DC_firstByteBase_1 : decode b_DC_firstByteBase 1 = .ok (.tableswitch 39 2 4 #[27, 31, 35], 27) := by decide +kernel
theorem d_DC_firstByteBase_28 : decode b_DC_firstByteBase 28 = .ok (.sipush 192, 3) := by decide +kernel
theorem d_DC_firstByteBase_31 : decode b_DC_firstByteBase 31 = .ok (.ireturn, 1) := by decide +kernel
theorem d_DC_firstByteBase_32 : decode b_DC_firstByteBase 32 = .ok (.sipush 224, 3) := by decide +kernel
theorem d_DC_firstByteBase_35 : decode b_DC_firstByteBase 35 = .ok (.ireturn, 1) := by decide +kernel
theorem d_DC_firstByteBase_36 : decode b_DC_firstByteBase 36 = .ok (.sipush 240, 3) := by decide +kernel
theorem d_DC_firstByteBase_39 : decode b_DC_firstByteBase 39 = .ok (.ireturn, 1) := by decide +kernel
theorem d_DC_firstByteBase_40 : decode b_DC_firstByteBase 40 = .ok (.iconst 0, 1) := by decide +kernel
theorem d_DC_firstByteBase_41 : decode b_DC_firstByteBase 41 = .ok (.ireturn, 1) := by decide +kernel
theorem d_DC_lowestSecond_0 : decode b_DC_lowestSecond 0 = .ok (.iload_n 0, 1) := by decide +kernel
theorem d_DC_lowestSecond_1 : decode b_DC_lowestSecond 1 = .ok (.sipush 224, 3) := by decide +kernel
theorem d_DC_lowestSecond_4 : decode b_DC_lowestSecond 4 = .ok (.if_icmp .ne 9, 3) := by decide +kernel
theorem d_DC_lowestSecond_7 : decode b_DC_lowestSecond 7 = .ok (.sipush 160, 3) := by decide +kernel
theorem d_DC_lowestSecond_10 : decode b_DC_lowestSecond 10 = .ok (.goto 19, 3) := by decide +kernel
theorem d_DC_lowestSecond_13 : decode b_DC_lowestSecond 13 = .ok (.iload_n 0, 1) := by decide +kernel
theorem d_DC_lowestSecond_14 : decode b_DC_lowestSecond 14 = .ok (.sipush 240, 3) := by decide +kernel
theorem d_DC_lowestSecond_17 : decode b_DC_lowestSecond 17 = .ok (.if_icmp .ne 9, 3) := by decide +kernel
theorem d_DC_lowestSecond_20 : decode b_DC_lowestSecond 20 = .ok (.sipush 144, 3) := by decide +kernel
theorem d_DC_lowestSecond_23 : decode b_DC_lowestSecond 23 = .ok (.goto 6, 3) := by decide +kernel
theorem d_DC_lowestSecond_26 : decode b_DC_lowestSecond 26 = .ok (.sipush 128, 3) := by decide +kernel
theorem d_DC_lowestSecond_29 : decode b_DC_lowestSecond 29 = .ok (.ireturn, 1) := by decide +kernel
theorem d_DC_highestSecond_0 : decode b_DC_highestSecond 0 = .ok (.iload_n 1, 1) := by decide +kernel
theorem d_DC_highestSecond_1 : decode b_DC_highestSecond 1 = .ok (.ifCond .eq 20, 3) := by decide +kernel
theorem d_DC_highestSecond_4 : decode b_DC_highestSecond 4 = .ok (.iload_n 0, 1) := by decide +kernel
theorem d_DC_highestSecond_5 : decode b_DC_highestSecond 5 = .ok (.sipush 192, 3) := by decide +kernel
theorem d_DC_highestSecond_8 : decode b_DC_highestSecond 8 = .ok (.if_icmp .ne 9, 3) := by decide +kernel
theorem d_DC_highestSecond_11 : decode b_DC_highestSecond 11 = .ok (.sipush 128, 3) := by decide +kernel
theorem d_DC_highestSecond_14 : decode b_DC_highestSecond 14 = .ok (.goto 6, 3) := by decide +kernel
theorem d_DC_highestSecond_17 : decode b_DC_highestSecond 17 = .ok (.sipush 191, 3) := by decide +kernel
theorem d_DC_highestSecond_20 : decode b_DC_highestSecond 20 = .ok (.ireturn, 1) := by decide +kernel
theorem d_DC_highestSecond_21 : decode b_DC_highestSecond 21 = .ok (.iload_n 0, 1) := by decide +kernel
theorem d_DC_highestSecond_22 : decode b_DC_highestSecond 22 = .ok (.sipush 237, 3) := by decide +kernel
theorem d_DC_highestSecond_25 : decode b_DC_highestSecond 25 = .ok (.if_icmp .ne 9, 3) := by decide +kernel
theorem d_DC_highestSecond_28 : decode b_DC_highestSecond 28 = .ok (.sipush 159, 3) := by decide +kernel
theorem d_DC_highestSecond_31 : decode b_DC_highestSecond 31 = .ok (.goto 19, 3) := by decide +kernel
theorem d_DC_highestSecond_34 : decode b_DC_highestSecond 34 = .ok (.iload_n 0, 1) := by decide +kernel
theorem d_DC_highestSecond_35 : decode b_DC_highestSecond 35 = .ok (.sipush 244, 3) := by decide +kernel
theorem d_DC_highestSecond_38 : decode b_DC_highestSecond 38 = .ok (.if_icmp .ne 9, 3) := by decide +kernel
theorem d_DC_highestSecond_41 : decode b_DC_highestSecond 41 = .ok (.sipush 143, 3) := by decide +kernel
theorem d_DC_highestSecond_44 : decode b_DC_highestSecond 44 = .ok (.goto 6, 3) := by decide +kernel
theorem d_DC_highestSecond_47 : decode b_DC_highestSecond 47 = .ok (.sipush 191, 3) := by decide +kernel
theorem d_DC_highestSecond_50 : decode b_DC_highestSecond 50 = .ok (.ireturn, 1) := by decide +kernel
theorem d_DC_goodWidthModified_0 : decode b_DC_goodWidthModified 0 = .ok (.iload_n 0, 1) := by decide +kernel
theorem d_DC_goodWidthModified_1 : decode b_DC_goodWidthModified 1 = .ok (.ifCond .eq 10, 3) := by decide +kernel
theorem d_DC_goodWidthModified_4 : decode b_DC_goodWidthModified 4 = .ok (.iload_n 0, 1) := by decide +kernel
theorem d_DC_goodWidthModified_5 : decode b_DC_goodWidthModified 5 = .ok (.sipush 240, 3) := by decide +kernel
theorem d_DC_goodWidthModified_8 : decode b_DC_goodWidthModified 8 = .ok (.if_icmp .lt 5, 3) := by decide +kernel
theorem d_DC_goodWidthModified_11 : decode b_DC_goodWidthModified 11 = .ok (.iconst 0, 1) := by decide +kernel
theorem d_DC_goodWidthModified_12 : decode b_DC_goodWidthModified 12 = .ok (.ireturn, 1) := by decide +kernel
theorem d_DC_goodWidthModified_13 : decode b_DC_goodWidthModified 13 = .ok (.iload_n 0, 1) := by decide +kernel
theorem d_DC_goodWidthModified_14 : decode b_DC_goodWidthModified 14 = .ok (.sipush 192, 3) := by decide +kernel
theorem d_DC_goodWidthModified_17 : decode b_DC_goodWidthModified 17 = .ok (.if_icmp .ne 7, 3) := by decide +kernel
theorem d_DC_goodWidthModified_20 : decode b_DC_goodWidthModified 20 = .ok (.iconst 2, 1) := by decide +kernel
theorem d_DC_goodWidthModified_21 : decode b_DC_goodWidthModified 21 = .ok (.goto 7, 3) := by decide +kernel
theorem d_DC_goodWidthModified_24 : decode b_DC_goodWidthModified 24 = .ok (.iload_n 0, 1) := by decide +kernel
theorem d_DC_goodWidthModified_25 : decode b_DC_goodWidthModified 25 = .ok (.invokestatic 50, 3) := by decide +kernel
theorem d_DC_goodWidthModified_28 : decode b_DC_goodWidthModified 28 = .ok (.ireturn, 1) := by decide +kernel
theorem d_DC_readTwo_0 : decode b_DC_readTwo 0 = .ok (.iload_n 1, 1) := by decide +kernel
theorem d_DC_readTwo_1 : decode b_DC_readTwo 1 = .ok (.iconst (-1), 1) := by decide +kernel
theorem d_DC_readTwo_2 : decode b_DC_readTwo 2 = .ok (.if_icmp .eq 8, 3) := by decide +kernel
theorem d_DC_readTwo_5 : decode b_DC_readTwo 5 = .ok (.iload_n 2, 1) := by decide +kernel
theorem d_DC_readTwo_6 : decode b_DC_readTwo 6 = .ok (.iconst (-1), 1) := by decide +kernel
theorem d_DC_readTwo_7 : decode b_DC_readTwo 7 = .ok (.if_icmp .ne 12, 3) := by decide +kernel
theorem d_DC_readTwo_10 : decode b_DC_readTwo 10 = .ok (.aload_n 0, 1) := by decide +kernel
theorem d_DC_readTwo_11 : decode b_DC_readTwo 11 = .ok (.iconst (-1), 1) := by decide +kernel
theorem d_DC_readTwo_12 : decode b_DC_readTwo 12 = .ok (.iconst 1, 1) := by decide +kernel
theorem d_DC_readTwo_13 : decode b_DC_readTwo 13 = .ok (.invokevirtual 64, 3) := by decide +kernel
theorem d_DC_readTwo_16 : decode b_DC_readTwo 16 = .ok (.goto 15, 3) := by decide +kernel
theorem d_DC_readTwo_19 : decode b_DC_readTwo 19 = .ok (.aload_n 0, 1) := by decide +kernel
theorem d_DC_readTwo_20 : decode b_DC_readTwo 20 = .ok (.iload_n 1, 1) := by decide +kernel
theorem d_DC_readTwo_21 : decode b_DC_readTwo 21 = .ok (.sipush 256, 3) := by decide +kernel
theorem d_DC_readTwo_24 : decode b_DC_readTwo 24 = .ok (.imul, 1) := by decide +kernel
theorem d_DC_readTwo_25 : decode b_DC_readTwo 25 = .ok (.iload_n 2, 1) := by decide +kernel
theorem d_DC_readTwo_26 : decode b_DC_readTwo 26 = .ok (.iadd, 1) := by decide +kernel
theorem d_DC_readTwo_27 : decode b_DC_readTwo 27 = .ok (.iconst 2, 1) := by decide +kernel
theorem d_DC_readTwo_28 : decode b_DC_readTwo 28 = .ok (.invokevirtual 64, 3) := by decide +kernel
theorem d_DC_readTwo_31 : decode b_DC_readTwo 31 = .ok (.return_, 1) := by decide +kernel
theorem d_DC_appendCharacter_0 : decode b_DC_appendCharacter 0 = .ok (.iload_n 0, 1) := by decide +kernel
theorem d_DC_appendCharacter_1 : decode b_DC_appendCharacter 1 = .ok (.ldc 39, 2) := by decide +kernel
theorem d_DC_appendCharacter_3 : decode b_DC_appendCharacter 3 = .ok (.if_icmp .ge 11, 3) := by decide +kernel
theorem d_DC_appendCharacter_6 : decode b_DC_appendCharacter 6 = .ok (.aload_n 1, 1) := by decide +kernel
theorem d_DC_appendCharacter_7 : decode b_DC_appendCharacter 7 = .ok (.iload_n 0, 1) := by decide +kernel
theorem d_DC_appendCharacter_8 : decode b_DC_appendCharacter 8 = .ok (.invokevirtual 40, 3) := by decide +kernel
theorem d_DC_appendCharacter_11 : decode b_DC_appendCharacter 11 = .ok (.goto 33, 3) := by decide +kernel
theorem d_DC_appendCharacter_14 : decode b_DC_appendCharacter 14 = .ok (.aload_n 1, 1) := by decide +kernel
theorem d_DC_appendCharacter_15 : decode b_DC_appendCharacter 15 = .ok (.ldc 44, 2) := by decide +kernel
theorem d_DC_appendCharacter_17 : decode b_DC_appendCharacter 17 = .ok (.iload_n 0, 1) := by decide +kernel
theorem d_DC_appendCharacter_18 : decode b_DC_appendCharacter 18 = .ok (.ldc 39, 2) := by decide +kernel
theorem d_DC_appendCharacter_20 : decode b_DC_appendCharacter 20 = .ok (.isub, 1) := by decide +kernel
theorem d_DC_appendCharacter_21 : decode b_DC_appendCharacter 21 = .ok (.sipush 1024, 3) := by decide +kernel
theorem d_DC_appendCharacter_24 : decode b_DC_appendCharacter 24 = .ok (.idiv, 1) := by decide +kernel
theorem d_DC_appendCharacter_25 : decode b_DC_appendCharacter 25 = .ok (.iadd, 1) := by decide +kernel
theorem d_DC_appendCharacter_26 : decode b_DC_appendCharacter 26 = .ok (.invokevirtual 40, 3) := by decide +kernel
theorem d_DC_appendCharacter_29 : decode b_DC_appendCharacter 29 = .ok (.aload_n 1, 1) := by decide +kernel
theorem d_DC_appendCharacter_30 : decode b_DC_appendCharacter 30 = .ok (.ldc 45, 2) := by decide +kernel
theorem d_DC_appendCharacter_32 : decode b_DC_appendCharacter 32 = .ok (.iload_n 0, 1) := by decide +kernel
theorem d_DC_appendCharacter_33 : decode b_DC_appendCharacter 33 = .ok (.ldc 39, 2) := by decide +kernel
theorem d_DC_appendCharacter_35 : decode b_DC_appendCharacter 35 = .ok (.isub, 1) := by decide +kernel
theorem d_DC_appendCharacter_36 : decode b_DC_appendCharacter 36 = .ok (.sipush 1024, 3) := by decide +kernel
theorem d_DC_appendCharacter_39 : decode b_DC_appendCharacter 39 = .ok (.irem, 1) := by decide +kernel
theorem d_DC_appendCharacter_40 : decode b_DC_appendCharacter 40 = .ok (.iadd, 1) := by decide +kernel
theorem d_DC_appendCharacter_41 : decode b_DC_appendCharacter 41 = .ok (.invokevirtual 40, 3) := by decide +kernel
theorem d_DC_appendCharacter_44 : decode b_DC_appendCharacter 44 = .ok (.return_, 1) := by decide +kernel
