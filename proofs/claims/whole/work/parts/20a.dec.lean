theorem d_MD_init_0 : decode b_MD_init 0 = .ok (.aload_n 0, 1) := by decide +kernel
theorem d_MD_init_1 : decode b_MD_init 1 = .ok (.invokespecial 1, 3) := by decide +kernel
theorem d_MD_init_4 : decode b_MD_init 4 = .ok (.aload_n 0, 1) := by decide +kernel
theorem d_MD_init_5 : decode b_MD_init 5 = .ok (.bipush 24, 2) := by decide +kernel
theorem d_MD_init_7 : decode b_MD_init 7 = .ok (.newarray .int, 2) := by decide +kernel
theorem d_MD_init_9 : decode b_MD_init 9 = .ok (.putfield 7, 3) := by decide +kernel
theorem d_MD_init_12 : decode b_MD_init 12 = .ok (.aload_n 0, 1) := by decide +kernel
theorem d_MD_init_13 : decode b_MD_init 13 = .ok (.sipush 1440, 3) := by decide +kernel
theorem d_MD_init_16 : decode b_MD_init 16 = .ok (.newarray .int, 2) := by decide +kernel
theorem d_MD_init_18 : decode b_MD_init 18 = .ok (.putfield 13, 3) := by decide +kernel
theorem d_MD_init_21 : decode b_MD_init 21 = .ok (.aload_n 0, 1) := by decide +kernel
theorem d_MD_init_22 : decode b_MD_init 22 = .ok (.bipush 60, 2) := by decide +kernel
theorem d_MD_init_24 : decode b_MD_init 24 = .ok (.newarray .int, 2) := by decide +kernel
theorem d_MD_init_26 : decode b_MD_init 26 = .ok (.putfield 16, 3) := by decide +kernel
theorem d_MD_init_29 : decode b_MD_init 29 = .ok (.aload_n 0, 1) := by decide +kernel
theorem d_MD_init_30 : decode b_MD_init 30 = .ok (.sipush 200, 3) := by decide +kernel
theorem d_MD_init_33 : decode b_MD_init 33 = .ok (.newarray .int, 2) := by decide +kernel
theorem d_MD_init_35 : decode b_MD_init 35 = .ok (.putfield 19, 3) := by decide +kernel
theorem d_MD_init_38 : decode b_MD_init 38 = .ok (.aload_n 0, 1) := by decide +kernel
theorem d_MD_init_39 : decode b_MD_init 39 = .ok (.sipush 200, 3) := by decide +kernel
theorem d_MD_init_42 : decode b_MD_init 42 = .ok (.newarray .int, 2) := by decide +kernel
theorem d_MD_init_44 : decode b_MD_init 44 = .ok (.putfield 22, 3) := by decide +kernel
theorem d_MD_init_47 : decode b_MD_init 47 = .ok (.aload_n 0, 1) := by decide +kernel
theorem d_MD_init_48 : decode b_MD_init 48 = .ok (.bipush 16, 2) := by decide +kernel
theorem d_MD_init_50 : decode b_MD_init 50 = .ok (.newarray .int, 2) := by decide +kernel
theorem d_MD_init_52 : decode b_MD_init 52 = .ok (.putfield 25, 3) := by decide +kernel
theorem d_MD_init_55 : decode b_MD_init 55 = .ok (.aload_n 0, 1) := by decide +kernel
theorem d_MD_init_56 : decode b_MD_init 56 = .ok (.iconst 4, 1) := by decide +kernel
theorem d_MD_init_57 : decode b_MD_init 57 = .ok (.newarray .int, 2) := by decide +kernel
theorem d_MD_init_59 : decode b_MD_init 59 = .ok (.putfield 28, 3) := by decide +kernel
theorem d_MD_init_62 : decode b_MD_init 62 = .ok (.return_, 1) := by decide +kernel
theorem d_MD_thrown_0 : decode b_MD_thrown 0 = .ok (.aload_n 0, 1) := by decide +kernel
theorem d_MD_thrown_1 : decode b_MD_thrown 1 = .ok (.getfield 31, 3) := by decide +kernel
theorem d_MD_thrown_4 : decode b_MD_thrown 4 = .ok (.ireturn, 1) := by decide +kernel
theorem d_MD_unit_0 : decode b_MD_unit 0 = .ok (.aload_n 0, 1) := by decide +kernel
theorem d_MD_unit_1 : decode b_MD_unit 1 = .ok (.iload_n 1, 1) := by decide +kernel
theorem d_MD_unit_2 : decode b_MD_unit 2 = .ok (.ldc 54, 2) := by decide +kernel
theorem d_MD_unit_4 : decode b_MD_unit 4 = .ok (.invokestatic 61, 3) := by decide +kernel
theorem d_MD_unit_7 : decode b_MD_unit 7 = .ok (.ifCond .eq 7, 3) := by decide +kernel
theorem d_MD_unit_10 : decode b_MD_unit 10 = .ok (.iconst 1, 1) := by decide +kernel
theorem d_MD_unit_11 : decode b_MD_unit 11 = .ok (.goto 17, 3) := by decide +kernel
theorem d_MD_unit_14 : decode b_MD_unit 14 = .ok (.aload_n 0, 1) := by decide +kernel
theorem d_MD_unit_15 : decode b_MD_unit 15 = .ok (.getfield 68, 3) := by decide +kernel
theorem d_MD_unit_18 : decode b_MD_unit 18 = .ok (.bipush 60, 2) := by decide +kernel
theorem d_MD_unit_20 : decode b_MD_unit 20 = .ok (.if_icmp .ne 7, 3) := by decide +kernel
theorem d_MD_unit_23 : decode b_MD_unit 23 = .ok (.iconst 2, 1) := by decide +kernel
theorem d_MD_unit_24 : decode b_MD_unit 24 = .ok (.goto 4, 3) := by decide +kernel
theorem d_MD_unit_27 : decode b_MD_unit 27 = .ok (.iconst 0, 1) := by decide +kernel
theorem d_MD_unit_28 : decode b_MD_unit 28 = .ok (.putfield 31, 3) := by decide +kernel
theorem d_MD_unit_31 : decode b_MD_unit 31 = .ok (.aload_n 0, 1) := by decide +kernel
theorem d_MD_unit_32 : decode b_MD_unit 32 = .ok (.getfield 31, 3) := by decide +kernel
theorem d_MD_unit_35 : decode b_MD_unit 35 = .ok (.ifCond .le 5, 3) := by decide +kernel
theorem d_MD_unit_38 : decode b_MD_unit 38 = .ok (.iconst 0, 1) := by decide +kernel
theorem d_MD_unit_39 : decode b_MD_unit 39 = .ok (.ireturn, 1) := by decide +kernel
theorem d_MD_unit_40 : decode b_MD_unit 40 = .ok (.aload_n 0, 1) := by decide +kernel
theorem d_MD_unit_41 : decode b_MD_unit 41 = .ok (.getfield 16, 3) := by decide +kernel
theorem d_MD_unit_44 : decode b_MD_unit 44 = .ok (.aload_n 0, 1) := by decide +kernel
theorem d_MD_unit_45 : decode b_MD_unit 45 = .ok (.getfield 68, 3) := by decide +kernel
theorem d_MD_unit_48 : decode b_MD_unit 48 = .ok (.iload_n 1, 1) := by decide +kernel
theorem d_MD_unit_49 : decode b_MD_unit 49 = .ok (.iastore, 1) := by decide +kernel
theorem d_MD_unit_50 : decode b_MD_unit 50 = .ok (.aload_n 0, 1) := by decide +kernel
theorem d_MD_unit_51 : decode b_MD_unit 51 = .ok (.dup, 1) := by decide +kernel
theorem d_MD_unit_52 : decode b_MD_unit 52 = .ok (.getfield 68, 3) := by decide +kernel
theorem d_MD_unit_55 : decode b_MD_unit 55 = .ok (.iconst 1, 1) := by decide +kernel
theorem d_MD_unit_56 : decode b_MD_unit 56 = .ok (.iadd, 1) := by decide +kernel
theorem d_MD_unit_57 : decode b_MD_unit 57 = .ok (.putfield 68, 3) := by decide +kernel
theorem d_MD_unit_60 : decode b_MD_unit 60 = .ok (.aload_n 0, 1) := by decide +kernel
theorem d_MD_unit_61 : decode b_MD_unit 61 = .ok (.getfield 68, 3) := by decide +kernel
theorem d_MD_unit_64 : decode b_MD_unit 64 = .ok (.ireturn, 1) := by decide +kernel
theorem d_MD_out_0 : decode b_MD_out 0 = .ok (.iload_n 0, 1) := by decide +kernel
theorem d_MD_out_1 : decode b_MD_out 1 = .ok (.ifCond .lt 8, 3) := by decide +kernel
theorem d_MD_out_4 : decode b_MD_out 4 = .ok (.iload_n 0, 1) := by decide +kernel
theorem d_MD_out_5 : decode b_MD_out 5 = .ok (.iload_n 1, 1) := by decide +kernel
theorem d_MD_out_6 : decode b_MD_out 6 = .ok (.if_icmp .lt 7, 3) := by decide +kernel
theorem d_MD_out_9 : decode b_MD_out 9 = .ok (.iconst 1, 1) := by decide +kernel
theorem d_MD_out_10 : decode b_MD_out 10 = .ok (.goto 4, 3) := by decide +kernel
theorem d_MD_out_13 : decode b_MD_out 13 = .ok (.iconst 0, 1) := by decide +kernel
theorem d_MD_out_14 : decode b_MD_out 14 = .ok (.ireturn, 1) := by decide +kernel
theorem d_MD_insert_0 : decode b_MD_insert 0 = .ok (.aload_n 0, 1) := by decide +kernel
theorem d_MD_insert_1 : decode b_MD_insert 1 = .ok (.aload_n 0, 1) := by decide +kernel
theorem d_MD_insert_2 : decode b_MD_insert 2 = .ok (.iload_n 2, 1) := by decide +kernel
theorem d_MD_insert_3 : decode b_MD_insert 3 = .ok (.invokevirtual 71, 3) := by decide +kernel
theorem d_MD_insert_6 : decode b_MD_insert 6 = .ok (.ifCond .eq 15, 3) := by decide +kernel
theorem d_MD_insert_9 : decode b_MD_insert 9 = .ok (.iload_n 1, 1) := by decide +kernel
theorem d_MD_insert_10 : decode b_MD_insert 10 = .ok (.ifCond .lt 11, 3) := by decide +kernel
theorem d_MD_insert_13 : decode b_MD_insert 13 = .ok (.iload_n 1, 1) := by decide +kernel
theorem d_MD_insert_14 : decode b_MD_insert 14 = .ok (.aload_n 0, 1) := by decide +kernel
theorem d_MD_insert_15 : decode b_MD_insert 15 = .ok (.getfield 68, 3) := by decide +kernel
theorem d_MD_insert_18 : decode b_MD_insert 18 = .ok (.if_icmp .le 7, 3) := by decide +kernel
theorem d_MD_insert_21 : decode b_MD_insert 21 = .ok (.iconst 1, 1) := by decide +kernel
theorem d_MD_insert_22 : decode b_MD_insert 22 = .ok (.goto 24, 3) := by decide +kernel
theorem d_MD_insert_25 : decode b_MD_insert 25 = .ok (.aload_n 0, 1) := by decide +kernel
theorem d_MD_insert_26 : decode b_MD_insert 26 = .ok (.getfield 68, 3) := by decide +kernel
theorem d_MD_insert_29 : decode b_MD_insert 29 = .ok (.aload_n 0, 1) := by decide +kernel
theorem d_MD_insert_30 : decode b_MD_insert 30 = .ok (.getfield 7, 3) := by decide +kernel
theorem d_MD_insert_33 : decode b_MD_insert 33 = .ok (.iload_n 2, 1) := by decide +kernel
theorem d_MD_insert_34 : decode b_MD_insert 34 = .ok (.iaload, 1) := by decide +kernel
theorem d_MD_insert_35 : decode b_MD_insert 35 = .ok (.iadd, 1) := by decide +kernel
theorem d_MD_insert_36 : decode b_MD_insert 36 = .ok (.bipush 60, 2) := by decide +kernel
theorem d_MD_insert_38 : decode b_MD_insert 38 = .ok (.if_icmp .le 7, 3) := by decide +kernel
theorem d_MD_insert_41 : decode b_MD_insert 41 = .ok (.iconst 2, 1) := by decide +kernel
theorem d_MD_insert_42 : decode b_MD_insert 42 = .ok (.goto 4, 3) := by decide +kernel
theorem d_MD_insert_45 : decode b_MD_insert 45 = .ok (.iconst 0, 1) := by decide +kernel
theorem d_MD_insert_46 : decode b_MD_insert 46 = .ok (.putfield 31, 3) := by decide +kernel
theorem d_MD_insert_49 : decode b_MD_insert 49 = .ok (.aload_n 0, 1) := by decide +kernel
theorem d_MD_insert_50 : decode b_MD_insert 50 = .ok (.getfield 31, 3) := by decide +kernel
theorem d_MD_insert_53 : decode b_MD_insert 53 = .ok (.ifCond .le 5, 3) := by decide +kernel
theorem d_MD_insert_56 : decode b_MD_insert 56 = .ok (.iconst 0, 1) := by decide +kernel
theorem d_MD_insert_57 : decode b_MD_insert 57 = .ok (.ireturn, 1) := by decide +kernel
theorem d_MD_insert_58 : decode b_MD_insert 58 = .ok (.aload_n 0, 1) := by decide +kernel
theorem d_MD_insert_59 : decode b_MD_insert 59 = .ok (.iconst 0, 1) := by decide +kernel
theorem d_MD_insert_60 : decode b_MD_insert 60 = .ok (.putfield 55, 3) := by decide +kernel
theorem d_MD_insert_63 : decode b_MD_insert 63 = .ok (.iconst 0, 1) := by decide +kernel
theorem d_MD_insert_64 : decode b_MD_insert 64 = .ok (.istore_n 3, 1) := by decide +kernel
theorem d_MD_insert_65 : decode b_MD_insert 65 = .ok (.iload_n 3, 1) := by decide +kernel
theorem d_MD_insert_66 : decode b_MD_insert 66 = .ok (.iload_n 1, 1) := by decide +kernel
theorem d_MD_insert_67 : decode b_MD_insert 67 = .ok (.if_icmp .ge 19, 3) := by decide +kernel
theorem d_MD_insert_70 : decode b_MD_insert 70 = .ok (.aload_n 0, 1) := by decide +kernel
theorem d_MD_insert_71 : decode b_MD_insert 71 = .ok (.aload_n 0, 1) := by decide +kernel
theorem d_MD_insert_72 : decode b_MD_insert 72 = .ok (.getfield 16, 3) := by decide +kernel
theorem d_MD_insert_75 : decode b_MD_insert 75 = .ok (.iload_n 3, 1) := by decide +kernel
theorem d_MD_insert_76 : decode b_MD_insert 76 = .ok (.iaload, 1) := by decide +kernel
theorem d_MD_insert_77 : decode b_MD_insert 77 = .ok (.invokevirtual 64, 3) := by decide +kernel
theorem d_MD_insert_80 : decode b_MD_insert 80 = .ok (.iinc 3 1, 3) := by decide +kernel
theorem d_MD_insert_83 : decode b_MD_insert 83 = .ok (.goto (-18), 3) := by decide +kernel
theorem d_MD_insert_86 : decode b_MD_insert 86 = .ok (.aload_n 0, 1) := by decide +kernel
theorem d_MD_insert_87 : decode b_MD_insert 87 = .ok (.iload_n 2, 1) := by decide +kernel
theorem d_MD_insert_88 : decode b_MD_insert 88 = .ok (.iconst 0, 1) := by decide +kernel
theorem d_MD_insert_89 : decode b_MD_insert 89 = .ok (.aload_n 0, 1) := by decide +kernel
theorem d_MD_insert_90 : decode b_MD_insert 90 = .ok (.getfield 7, 3) := by decide +kernel
theorem d_MD_insert_93 : decode b_MD_insert 93 = .ok (.iload_n 2, 1) := by decide +kernel
theorem d_MD_insert_94 : decode b_MD_insert 94 = .ok (.iaload, 1) := by decide +kernel
theorem d_MD_insert_95 : decode b_MD_insert 95 = .ok (.invokevirtual 74, 3) := by decide +kernel
theorem d_MD_insert_98 : decode b_MD_insert 98 = .ok (.iload_n 1, 1) := by decide +kernel
theorem d_MD_insert_99 : decode b_MD_insert 99 = .ok (.istore_n 3, 1) := by decide +kernel
theorem d_MD_insert_100 : decode b_MD_insert 100 = .ok (.iload_n 3, 1) := by decide +kernel
theorem d_MD_insert_101 : decode b_MD_insert 101 = .ok (.aload_n 0, 1) := by decide +kernel
theorem d_MD_insert_102 : decode b_MD_insert 102 = .ok (.getfield 68, 3) := by decide +kernel
theorem d_MD_insert_105 : decode b_MD_insert 105 = .ok (.if_icmp .ge 19, 3) := by decide +kernel
theorem d_MD_insert_108 : decode b_MD_insert 108 = .ok (.aload_n 0, 1) := by decide +kernel
theorem d_MD_insert_109 : decode b_MD_insert 109 = .ok (.aload_n 0, 1) := by decide +kernel
theorem d_MD_insert_110 : decode b_MD_insert 110 = .ok (.getfield 16, 3) := by decide +kernel
theorem d_MD_insert_113 : decode b_MD_insert 113 = .ok (.iload_n 3, 1) := by decide +kernel
theorem d_MD_insert_114 : decode b_MD_insert 114 = .ok (.iaload, 1) := by decide +kernel
theorem d_MD_insert_115 : decode b_MD_insert 115 = .ok (.invokevirtual 64, 3) := by decide +kernel
theorem d_MD_insert_118 : decode b_MD_insert 118 = .ok (.iinc 3 1, 3) := by decide +kernel
theorem d_MD_insert_121 : decode b_MD_insert 121 = .ok (.goto (-21), 3) := by decide +kernel
theorem d_MD_insert_124 : decode b_MD_insert 124 = .ok (.aload_n 0, 1) := by decide +kernel
theorem d_MD_insert_125 : decode b_MD_insert 125 = .ok (.aload_n 0, 1) := by decide +kernel
theorem d_MD_insert_126 : decode b_MD_insert 126 = .ok (.getfield 55, 3) := by decide +kernel
theorem d_MD_insert_129 : decode b_MD_insert 129 = .ok (.putfield 68, 3) := by decide +kernel
theorem d_MD_insert_132 : decode b_MD_insert 132 = .ok (.iconst 0, 1) := by decide +kernel
theorem d_MD_insert_133 : decode b_MD_insert 133 = .ok (.istore_n 3, 1) := by decide +kernel
theorem d_MD_insert_134 : decode b_MD_insert 134 = .ok (.iload_n 3, 1) := by decide +kernel
theorem d_MD_insert_135 : decode b_MD_insert 135 = .ok (.aload_n 0, 1) := by decide +kernel
theorem d_MD_insert_136 : decode b_MD_insert 136 = .ok (.getfield 55, 3) := by decide +kernel
theorem d_MD_insert_139 : decode b_MD_insert 139 = .ok (.if_icmp .ge 21, 3) := by decide +kernel
theorem d_MD_insert_142 : decode b_MD_insert 142 = .ok (.aload_n 0, 1) := by decide +kernel
theorem d_MD_insert_143 : decode b_MD_insert 143 = .ok (.getfield 16, 3) := by decide +kernel
theorem d_MD_insert_146 : decode b_MD_insert 146 = .ok (.iload_n 3, 1) := by decide +kernel
theorem d_MD_insert_147 : decode b_MD_insert 147 = .ok (.aload_n 0, 1) := by decide +kernel
theorem d_MD_insert_148 : decode b_MD_insert 148 = .ok (.getfield 19, 3) := by decide +kernel
theorem d_MD_insert_151 : decode b_MD_insert 151 = .ok (.iload_n 3, 1) := by decide +kernel
theorem d_MD_insert_152 : decode b_MD_insert 152 = .ok (.iaload, 1) := by decide +kernel
theorem d_MD_insert_153 : decode b_MD_insert 153 = .ok (.iastore, 1) := by decide +kernel
theorem d_MD_insert_154 : decode b_MD_insert 154 = .ok (.iinc 3 1, 3) := by decide +kernel
theorem d_MD_insert_157 : decode b_MD_insert 157 = .ok (.goto (-23), 3) := by decide +kernel
theorem d_MD_insert_160 : decode b_MD_insert 160 = .ok (.aload_n 0, 1) := by decide +kernel
theorem d_MD_insert_161 : decode b_MD_insert 161 = .ok (.getfield 68, 3) := by decide +kernel
theorem d_MD_insert_164 : decode b_MD_insert 164 = .ok (.ireturn, 1) := by decide +kernel
theorem d_MD_isText_0 : decode b_MD_isText 0 = .ok (.iload_n 1, 1) := by decide +kernel
theorem d_MD_isText_1 : decode b_MD_isText 1 = .ok (.aload_n 0, 1) := by decide +kernel
theorem d_MD_isText_2 : decode b_MD_isText 2 = .ok (.getfield 58, 3) := by decide +kernel
theorem d_MD_isText_5 : decode b_MD_isText 5 = .ok (.invokestatic 61, 3) := by decide +kernel
theorem d_MD_isText_8 : decode b_MD_isText 8 = .ok (.ifCond .ne 7, 3) := by decide +kernel
theorem d_MD_isText_11 : decode b_MD_isText 11 = .ok (.iconst 1, 1) := by decide +kernel
theorem d_MD_isText_12 : decode b_MD_isText 12 = .ok (.goto 4, 3) := by decide +kernel
theorem d_MD_isText_15 : decode b_MD_isText 15 = .ok (.iconst 0, 1) := by decide +kernel
theorem d_MD_isText_16 : decode b_MD_isText 16 = .ok (.ireturn, 1) := by decide +kernel
theorem d_MD_make_0 : decode b_MD_make 0 = .ok (.aload_n 0, 1) := by decide +kernel
theorem d_MD_make_1 : decode b_MD_make 1 = .ok (.getfield 55, 3) := by decide +kernel
theorem d_MD_make_4 : decode b_MD_make 4 = .ok (.sipush 200, 3) := by decide +kernel
theorem d_MD_make_7 : decode b_MD_make 7 = .ok (.if_icmp .ge 13, 3) := by decide +kernel
theorem d_MD_make_10 : decode b_MD_make 10 = .ok (.aload_n 0, 1) := by decide +kernel
theorem d_MD_make_11 : decode b_MD_make 11 = .ok (.getfield 19, 3) := by decide +kernel
theorem d_MD_make_14 : decode b_MD_make 14 = .ok (.aload_n 0, 1) := by decide +kernel
theorem d_MD_make_15 : decode b_MD_make 15 = .ok (.getfield 55, 3) := by decide +kernel
theorem d_MD_make_18 : decode b_MD_make 18 = .ok (.iload_n 1, 1) := by decide +kernel
theorem d_MD_make_19 : decode b_MD_make 19 = .ok (.iastore, 1) := by decide +kernel
theorem d_MD_make_20 : decode b_MD_make 20 = .ok (.aload_n 0, 1) := by decide +kernel
theorem d_MD_make_21 : decode b_MD_make 21 = .ok (.dup, 1) := by decide +kernel
theorem d_MD_make_22 : decode b_MD_make 22 = .ok (.getfield 55, 3) := by decide +kernel
theorem d_MD_make_25 : decode b_MD_make 25 = .ok (.iconst 1, 1) := by decide +kernel
theorem d_MD_make_26 : decode b_MD_make 26 = .ok (.iadd, 1) := by decide +kernel
theorem d_MD_make_27 : decode b_MD_make 27 = .ok (.putfield 55, 3) := by decide +kernel
theorem d_MD_make_30 : decode b_MD_make 30 = .ok (.return_, 1) := by decide +kernel
theorem d_MD_makePart_0 : decode b_MD_makePart 0 = .ok (.iload_n 2, 1) := by decide +kernel
theorem d_MD_makePart_1 : decode b_MD_makePart 1 = .ok (.istore 4, 2) := by decide +kernel
theorem d_MD_makePart_3 : decode b_MD_makePart 3 = .ok (.iload 4, 2) := by decide +kernel
theorem d_MD_makePart_5 : decode b_MD_makePart 5 = .ok (.iload_n 3, 1) := by decide +kernel
theorem d_MD_makePart_6 : decode b_MD_makePart 6 = .ok (.if_icmp .ge 20, 3) := by decide +kernel
theorem d_MD_makePart_9 : decode b_MD_makePart 9 = .ok (.aload_n 0, 1) := by decide +kernel
theorem d_MD_makePart_10 : decode b_MD_makePart 10 = .ok (.aload_n 0, 1) := by decide +kernel
theorem d_MD_makePart_11 : decode b_MD_makePart 11 = .ok (.iload_n 1, 1) := by decide +kernel
theorem d_MD_makePart_12 : decode b_MD_makePart 12 = .ok (.iload 4, 2) := by decide +kernel
theorem d_MD_makePart_14 : decode b_MD_makePart 14 = .ok (.invokevirtual 39, 3) := by decide +kernel
theorem d_MD_makePart_17 : decode b_MD_makePart 17 = .ok (.invokevirtual 64, 3) := by decide +kernel
theorem d_MD_makePart_20 : decode b_MD_makePart 20 = .ok (.iinc 4 1, 3) := by decide +kernel
theorem d_MD_makePart_23 : decode b_MD_makePart 23 = .ok (.goto (-20), 3) := by decide +kernel
theorem d_MD_makePart_26 : decode b_MD_makePart 26 = .ok (.return_, 1) := by decide +kernel
theorem d_MD_unitOf_0 : decode b_MD_unitOf 0 = .ok (.aload_n 0, 1) := by decide +kernel
theorem d_MD_unitOf_1 : decode b_MD_unitOf 1 = .ok (.getfield 13, 3) := by decide +kernel
theorem d_MD_unitOf_4 : decode b_MD_unitOf 4 = .ok (.bipush 60, 2) := by decide +kernel
theorem d_MD_unitOf_6 : decode b_MD_unitOf 6 = .ok (.iload_n 1, 1) := by decide +kernel
theorem d_MD_unitOf_7 : decode b_MD_unitOf 7 = .ok (.imul, 1) := by decide +kernel
theorem d_MD_unitOf_8 : decode b_MD_unitOf 8 = .ok (.iload_n 2, 1) := by decide +kernel
theorem d_MD_unitOf_9 : decode b_MD_unitOf 9 = .ok (.iadd, 1) := by decide +kernel
theorem d_MD_unitOf_10 : decode b_MD_unitOf 10 = .ok (.iaload, 1) := by decide +kernel
theorem d_MD_unitOf_11 : decode b_MD_unitOf 11 = .ok (.ireturn, 1) := by decide +kernel
theorem d_MD_delete_0 : decode b_MD_delete 0 = .ok (.aload_n 0, 1) := by decide +kernel
theorem d_MD_delete_1 : decode b_MD_delete 1 = .ok (.iload_n 1, 1) := by decide +kernel
theorem d_MD_delete_2 : decode b_MD_delete 2 = .ok (.ifCond .lt 16, 3) := by decide +kernel
theorem d_MD_delete_5 : decode b_MD_delete 5 = .ok (.iload_n 1, 1) := by decide +kernel
theorem d_MD_delete_6 : decode b_MD_delete 6 = .ok (.iload_n 2, 1) := by decide +kernel
theorem d_MD_delete_7 : decode b_MD_delete 7 = .ok (.if_icmp .gt 11, 3) := by decide +kernel
theorem d_MD_delete_10 : decode b_MD_delete 10 = .ok (.iload_n 2, 1) := by decide +kernel
theorem d_MD_delete_11 : decode b_MD_delete 11 = .ok (.aload_n 0, 1) := by decide +kernel
theorem d_MD_delete_12 : decode b_MD_delete 12 = .ok (.getfield 68, 3) := by decide +kernel
theorem d_MD_delete_15 : decode b_MD_delete 15 = .ok (.if_icmp .le 7, 3) := by decide +kernel
theorem d_MD_delete_18 : decode b_MD_delete 18 = .ok (.iconst 1, 1) := by decide +kernel
theorem d_MD_delete_19 : decode b_MD_delete 19 = .ok (.goto 4, 3) := by decide +kernel
theorem d_MD_delete_22 : decode b_MD_delete 22 = .ok (.iconst 0, 1) := by decide +kernel
theorem d_MD_delete_23 : decode b_MD_delete 23 = .ok (.putfield 31, 3) := by decide +kernel
theorem d_MD_delete_26 : decode b_MD_delete 26 = .ok (.aload_n 0, 1) := by decide +kernel
theorem d_MD_delete_27 : decode b_MD_delete 27 = .ok (.getfield 31, 3) := by decide +kernel
theorem d_MD_delete_30 : decode b_MD_delete 30 = .ok (.ifCond .le 4, 3) := by decide +kernel
theorem d_MD_delete_33 : decode b_MD_delete 33 = .ok (.return_, 1) := by decide +kernel
theorem d_MD_delete_34 : decode b_MD_delete 34 = .ok (.iconst 0, 1) := by decide +kernel
theorem d_MD_delete_35 : decode b_MD_delete 35 = .ok (.istore_n 3, 1) := by decide +kernel
theorem d_MD_delete_36 : decode b_MD_delete 36 = .ok (.iconst 0, 1) := by decide +kernel
theorem d_MD_delete_37 : decode b_MD_delete 37 = .ok (.istore 4, 2) := by decide +kernel
theorem d_MD_delete_39 : decode b_MD_delete 39 = .ok (.iload 4, 2) := by decide +kernel
theorem d_MD_delete_41 : decode b_MD_delete 41 = .ok (.aload_n 0, 1) := by decide +kernel
theorem d_MD_delete_42 : decode b_MD_delete 42 = .ok (.getfield 68, 3) := by decide +kernel
theorem d_MD_delete_45 : decode b_MD_delete 45 = .ok (.if_icmp .ge 37, 3) := by decide +kernel
theorem d_MD_delete_48 : decode b_MD_delete 48 = .ok (.iload 4, 2) := by decide +kernel
theorem d_MD_delete_50 : decode b_MD_delete 50 = .ok (.iload_n 1, 1) := by decide +kernel
theorem d_MD_delete_51 : decode b_MD_delete 51 = .ok (.if_icmp .lt 9, 3) := by decide +kernel
theorem d_MD_delete_54 : decode b_MD_delete 54 = .ok (.iload 4, 2) := by decide +kernel
theorem d_MD_delete_56 : decode b_MD_delete 56 = .ok (.iload_n 2, 1) := by decide +kernel
theorem d_MD_delete_57 : decode b_MD_delete 57 = .ok (.if_icmp .lt 19, 3) := by decide +kernel
theorem d_MD_delete_60 : decode b_MD_delete 60 = .ok (.aload_n 0, 1) := by decide +kernel
theorem d_MD_delete_61 : decode b_MD_delete 61 = .ok (.getfield 16, 3) := by decide +kernel
theorem d_MD_delete_64 : decode b_MD_delete 64 = .ok (.iload_n 3, 1) := by decide +kernel
theorem d_MD_delete_65 : decode b_MD_delete 65 = .ok (.aload_n 0, 1) := by decide +kernel
theorem d_MD_delete_66 : decode b_MD_delete 66 = .ok (.getfield 16, 3) := by decide +kernel
theorem d_MD_delete_69 : decode b_MD_delete 69 = .ok (.iload 4, 2) := by decide +kernel
theorem d_MD_delete_71 : decode b_MD_delete 71 = .ok (.iaload, 1) := by decide +kernel
theorem d_MD_delete_72 : decode b_MD_delete 72 = .ok (.iastore, 1) := by decide +kernel
theorem d_MD_delete_73 : decode b_MD_delete 73 = .ok (.iinc 3 1, 3) := by decide +kernel
theorem d_MD_delete_76 : decode b_MD_delete 76 = .ok (.iinc 4 1, 3) := by decide +kernel
theorem d_MD_delete_79 : decode b_MD_delete 79 = .ok (.goto (-40), 3) := by decide +kernel
theorem d_MD_delete_82 : decode b_MD_delete 82 = .ok (.aload_n 0, 1) := by decide +kernel
theorem d_MD_delete_83 : decode b_MD_delete 83 = .ok (.iload_n 3, 1) := by decide +kernel
theorem d_MD_delete_84 : decode b_MD_delete 84 = .ok (.putfield 68, 3) := by decide +kernel
theorem d_MD_delete_87 : decode b_MD_delete 87 = .ok (.return_, 1) := by decide +kernel
theorem d_MD_reverse_0 : decode b_MD_reverse 0 = .ok (.aload_n 0, 1) := by decide +kernel
theorem d_MD_reverse_1 : decode b_MD_reverse 1 = .ok (.iconst 0, 1) := by decide +kernel
theorem d_MD_reverse_2 : decode b_MD_reverse 2 = .ok (.putfield 31, 3) := by decide +kernel
theorem d_MD_reverse_5 : decode b_MD_reverse 5 = .ok (.aload_n 0, 1) := by decide +kernel
theorem d_MD_reverse_6 : decode b_MD_reverse 6 = .ok (.iconst 0, 1) := by decide +kernel
theorem d_MD_reverse_7 : decode b_MD_reverse 7 = .ok (.putfield 55, 3) := by decide +kernel
theorem d_MD_reverse_10 : decode b_MD_reverse 10 = .ok (.aload_n 0, 1) := by decide +kernel
theorem d_MD_reverse_11 : decode b_MD_reverse 11 = .ok (.getfield 68, 3) := by decide +kernel
theorem d_MD_reverse_14 : decode b_MD_reverse 14 = .ok (.iconst 1, 1) := by decide +kernel
theorem d_MD_reverse_15 : decode b_MD_reverse 15 = .ok (.isub, 1) := by decide +kernel
theorem d_MD_reverse_16 : decode b_MD_reverse 16 = .ok (.istore_n 1, 1) := by decide +kernel
theorem d_MD_reverse_17 : decode b_MD_reverse 17 = .ok (.iload_n 1, 1) := by decide +kernel
theorem d_MD_reverse_18 : decode b_MD_reverse 18 = .ok (.ifCond .lt 82, 3) := by decide +kernel
theorem d_MD_reverse_21 : decode b_MD_reverse 21 = .ok (.iload_n 1, 1) := by decide +kernel
theorem d_MD_reverse_22 : decode b_MD_reverse 22 = .ok (.ifCond .le 33, 3) := by decide +kernel
theorem d_MD_reverse_25 : decode b_MD_reverse 25 = .ok (.aload_n 0, 1) := by decide +kernel
theorem d_MD_reverse_26 : decode b_MD_reverse 26 = .ok (.getfield 16, 3) := by decide +kernel
theorem d_MD_reverse_29 : decode b_MD_reverse 29 = .ok (.iload_n 1, 1) := by decide +kernel
theorem d_MD_reverse_30 : decode b_MD_reverse 30 = .ok (.iconst 1, 1) := by decide +kernel
theorem d_MD_reverse_31 : decode b_MD_reverse 31 = .ok (.isub, 1) := by decide +kernel
theorem d_MD_reverse_32 : decode b_MD_reverse 32 = .ok (.iaload, 1) := by decide +kernel
theorem d_MD_reverse_33 : decode b_MD_reverse 33 = .ok (.invokestatic 43, 3) := by decide +kernel
theorem d_MD_reverse_36 : decode b_MD_reverse 36 = .ok (.ifCond .eq 19, 3) := by decide +kernel
theorem d_MD_reverse_39 : decode b_MD_reverse 39 = .ok (.aload_n 0, 1) := by decide +kernel
theorem d_MD_reverse_40 : decode b_MD_reverse 40 = .ok (.getfield 16, 3) := by decide +kernel
theorem d_MD_reverse_43 : decode b_MD_reverse 43 = .ok (.iload_n 1, 1) := by decide +kernel
theorem d_MD_reverse_44 : decode b_MD_reverse 44 = .ok (.iaload, 1) := by decide +kernel
theorem d_MD_reverse_45 : decode b_MD_reverse 45 = .ok (.invokestatic 47, 3) := by decide +kernel
theorem d_MD_reverse_48 : decode b_MD_reverse 48 = .ok (.ifCond .eq 7, 3) := by decide +kernel
theorem d_MD_reverse_51 : decode b_MD_reverse 51 = .ok (.iconst 1, 1) := by decide +kernel
theorem d_MD_reverse_52 : decode b_MD_reverse 52 = .ok (.goto 4, 3) := by decide +kernel
theorem d_MD_reverse_55 : decode b_MD_reverse 55 = .ok (.iconst 0, 1) := by decide +kernel
theorem d_MD_reverse_56 : decode b_MD_reverse 56 = .ok (.istore_n 2, 1) := by decide +kernel
theorem d_MD_reverse_57 : decode b_MD_reverse 57 = .ok (.iload_n 2, 1) := by decide +kernel
theorem d_MD_reverse_58 : decode b_MD_reverse 58 = .ok (.ifCond .eq 15, 3) := by decide +kernel
theorem d_MD_reverse_61 : decode b_MD_reverse 61 = .ok (.aload_n 0, 1) := by decide +kernel
theorem d_MD_reverse_62 : decode b_MD_reverse 62 = .ok (.aload_n 0, 1) := by decide +kernel
theorem d_MD_reverse_63 : decode b_MD_reverse 63 = .ok (.getfield 16, 3) := by decide +kernel
theorem d_MD_reverse_66 : decode b_MD_reverse 66 = .ok (.iload_n 1, 1) := by decide +kernel
theorem d_MD_reverse_67 : decode b_MD_reverse 67 = .ok (.iconst 1, 1) := by decide +kernel
theorem d_MD_reverse_68 : decode b_MD_reverse 68 = .ok (.isub, 1) := by decide +kernel
theorem d_MD_reverse_69 : decode b_MD_reverse 69 = .ok (.iaload, 1) := by decide +kernel
theorem d_MD_reverse_70 : decode b_MD_reverse 70 = .ok (.invokevirtual 64, 3) := by decide +kernel
theorem d_MD_reverse_73 : decode b_MD_reverse 73 = .ok (.aload_n 0, 1) := by decide +kernel
theorem d_MD_reverse_74 : decode b_MD_reverse 74 = .ok (.aload_n 0, 1) := by decide +kernel
theorem d_MD_reverse_75 : decode b_MD_reverse 75 = .ok (.getfield 16, 3) := by decide +kernel
theorem d_MD_reverse_78 : decode b_MD_reverse 78 = .ok (.iload_n 1, 1) := by decide +kernel
theorem d_MD_reverse_79 : decode b_MD_reverse 79 = .ok (.iaload, 1) := by decide +kernel
theorem d_MD_reverse_80 : decode b_MD_reverse 80 = .ok (.invokevirtual 64, 3) := by decide +kernel
theorem d_MD_reverse_83 : decode b_MD_reverse 83 = .ok (.iload_n 2, 1) := by decide +kernel
theorem d_MD_reverse_84 : decode b_MD_reverse 84 = .ok (.ifCond .eq 9, 3) := by decide +kernel
theorem d_MD_reverse_87 : decode b_MD_reverse 87 = .ok (.iload_n 1, 1) := by decide +kernel
theorem d_MD_reverse_88 : decode b_MD_reverse 88 = .ok (.iconst 2, 1) := by decide +kernel
theorem d_MD_reverse_89 : decode b_MD_reverse 89 = .ok (.isub, 1) := by decide +kernel
theorem d_MD_reverse_90 : decode b_MD_reverse 90 = .ok (.goto 6, 3) := by decide +kernel
theorem d_MD_reverse_93 : decode b_MD_reverse 93 = .ok (.iload_n 1, 1) := by decide +kernel
theorem d_MD_reverse_94 : decode b_MD_reverse 94 = .ok (.iconst 1, 1) := by decide +kernel
theorem d_MD_reverse_95 : decode b_MD_reverse 95 = .ok (.isub, 1) := by decide +kernel
theorem d_MD_reverse_96 : decode b_MD_reverse 96 = .ok (.istore_n 1, 1) := by decide +kernel
theorem d_MD_reverse_97 : decode b_MD_reverse 97 = .ok (.goto (-80), 3) := by decide +kernel
theorem d_MD_reverse_100 : decode b_MD_reverse 100 = .ok (.iconst 0, 1) := by decide +kernel
theorem d_MD_reverse_101 : decode b_MD_reverse 101 = .ok (.istore_n 2, 1) := by decide +kernel
theorem d_MD_reverse_102 : decode b_MD_reverse 102 = .ok (.iload_n 2, 1) := by decide +kernel
theorem d_MD_reverse_103 : decode b_MD_reverse 103 = .ok (.aload_n 0, 1) := by decide +kernel
theorem d_MD_reverse_104 : decode b_MD_reverse 104 = .ok (.getfield 68, 3) := by decide +kernel
theorem d_MD_reverse_107 : decode b_MD_reverse 107 = .ok (.if_icmp .ge 21, 3) := by decide +kernel
theorem d_MD_reverse_110 : decode b_MD_reverse 110 = .ok (.aload_n 0, 1) := by decide +kernel
theorem d_MD_reverse_111 : decode b_MD_reverse 111 = .ok (.getfield 16, 3) := by decide +kernel
theorem d_MD_reverse_114 : decode b_MD_reverse 114 = .ok (.iload_n 2, 1) := by decide +kernel
theorem d_MD_reverse_115 : decode b_MD_reverse 115 = .ok (.aload_n 0, 1) := by decide +kernel
theorem d_MD_reverse_116 : decode b_MD_reverse 116 = .ok (.getfield 19, 3) := by decide +kernel
theorem d_MD_reverse_119 : decode b_MD_reverse 119 = .ok (.iload_n 2, 1) := by decide +kernel
theorem d_MD_reverse_120 : decode b_MD_reverse 120 = .ok (.iaload, 1) := by decide +kernel
theorem d_MD_reverse_121 : decode b_MD_reverse 121 = .ok (.iastore, 1) := by decide +kernel
theorem d_MD_reverse_122 : decode b_MD_reverse 122 = .ok (.iinc 2 1, 3) := by decide +kernel
theorem d_MD_reverse_125 : decode b_MD_reverse 125 = .ok (.goto (-23), 3) := by decide +kernel
theorem d_MD_reverse_128 : decode b_MD_reverse 128 = .ok (.return_, 1) := by decide +kernel
theorem d_MD_high_0 : decode b_MD_high 0 = .ok (.iload_n 0, 1) := by decide +kernel
theorem d_MD_high_1 : decode b_MD_high 1 = .ok (.ldc 35, 2) := by decide +kernel
theorem d_MD_high_3 : decode b_MD_high 3 = .ok (.if_icmp .lt 13, 3) := by decide +kernel
theorem d_MD_high_6 : decode b_MD_high 6 = .ok (.iload_n 0, 1) := by decide +kernel
theorem d_MD_high_7 : decode b_MD_high 7 = .ok (.ldc 36, 2) := by decide +kernel
theorem d_MD_high_9 : decode b_MD_high 9 = .ok (.if_icmp .gt 7, 3) := by decide +kernel
theorem d_MD_high_12 : decode b_MD_high 12 = .ok (.iconst 1, 1) := by decide +kernel
theorem d_MD_high_13 : decode b_MD_high 13 = .ok (.goto 4, 3) := by decide +kernel
theorem d_MD_high_16 : decode b_MD_high 16 = .ok (.iconst 0, 1) := by decide +kernel
theorem d_MD_high_17 : decode b_MD_high 17 = .ok (.ireturn, 1) := by decide +kernel
theorem d_MD_low_0 : decode b_MD_low 0 = .ok (.iload_n 0, 1) := by decide +kernel
theorem d_MD_low_1 : decode b_MD_low 1 = .ok (.ldc 37, 2) := by decide +kernel
theorem d_MD_low_3 : decode b_MD_low 3 = .ok (.if_icmp .lt 13, 3) := by decide +kernel
theorem d_MD_low_6 : decode b_MD_low 6 = .ok (.iload_n 0, 1) := by decide +kernel
theorem d_MD_low_7 : decode b_MD_low 7 = .ok (.ldc 38, 2) := by decide +kernel
theorem d_MD_low_9 : decode b_MD_low 9 = .ok (.if_icmp .gt 7, 3) := by decide +kernel
theorem d_MD_low_12 : decode b_MD_low 12 = .ok (.iconst 1, 1) := by decide +kernel
theorem d_MD_low_13 : decode b_MD_low 13 = .ok (.goto 4, 3) := by decide +kernel
theorem d_MD_low_16 : decode b_MD_low 16 = .ok (.iconst 0, 1) := by decide +kernel
theorem d_MD_low_17 : decode b_MD_low 17 = .ok (.ireturn, 1) := by decide +kernel
theorem d_MD_built_0 : decode b_MD_built 0 = .ok (.aload_n 0, 1) := by decide +kernel
theorem d_MD_built_1 : decode b_MD_built 1 = .ok (.iload_n 1, 1) := by decide +kernel
theorem d_MD_built_2 : decode b_MD_built 2 = .ok (.iconst (-1), 1) := by decide +kernel
theorem d_MD_built_3 : decode b_MD_built 3 = .ok (.if_icmp .lt 11, 3) := by decide +kernel
theorem d_MD_built_6 : decode b_MD_built 6 = .ok (.iload_n 1, 1) := by decide +kernel
theorem d_MD_built_7 : decode b_MD_built 7 = .ok (.aload_n 0, 1) := by decide +kernel
theorem d_MD_built_8 : decode b_MD_built 8 = .ok (.getfield 68, 3) := by decide +kernel
theorem d_MD_built_11 : decode b_MD_built 11 = .ok (.if_icmp .lt 7, 3) := by decide +kernel
theorem d_MD_built_14 : decode b_MD_built 14 = .ok (.iconst 1, 1) := by decide +kernel
theorem d_MD_built_15 : decode b_MD_built 15 = .ok (.goto 4, 3) := by decide +kernel
theorem d_MD_built_18 : decode b_MD_built 18 = .ok (.iconst 0, 1) := by decide +kernel
theorem d_MD_built_19 : decode b_MD_built 19 = .ok (.putfield 31, 3) := by decide +kernel
theorem d_MD_built_22 : decode b_MD_built 22 = .ok (.aload_n 0, 1) := by decide +kernel
theorem d_MD_built_23 : decode b_MD_built 23 = .ok (.getfield 31, 3) := by decide +kernel
theorem d_MD_built_26 : decode b_MD_built 26 = .ok (.ifCond .le 5, 3) := by decide +kernel
theorem d_MD_built_29 : decode b_MD_built 29 = .ok (.iconst 0, 1) := by decide +kernel
theorem d_MD_built_30 : decode b_MD_built 30 = .ok (.ireturn, 1) := by decide +kernel
theorem d_MD_built_31 : decode b_MD_built 31 = .ok (.iload_n 1, 1) := by decide +kernel
theorem d_MD_built_32 : decode b_MD_built 32 = .ok (.ifCond .ge 10, 3) := by decide +kernel
theorem d_MD_built_35 : decode b_MD_built 35 = .ok (.aload_n 0, 1) := by decide +kernel
theorem d_MD_built_36 : decode b_MD_built 36 = .ok (.getfield 68, 3) := by decide +kernel
theorem d_MD_built_39 : decode b_MD_built 39 = .ok (.goto 9, 3) := by decide +kernel
theorem d_MD_built_42 : decode b_MD_built 42 = .ok (.aload_n 0, 1) := by decide +kernel
theorem d_MD_built_43 : decode b_MD_built 43 = .ok (.getfield 16, 3) := by decide +kernel
theorem d_MD_built_46 : decode b_MD_built 46 = .ok (.iload_n 1, 1) := by decide +kernel
theorem d_MD_built_47 : decode b_MD_built 47 = .ok (.iaload, 1) := by decide +kernel
theorem d_MD_built_48 : decode b_MD_built 48 = .ok (.ireturn, 1) := by decide +kernel
theorem d_MD_take_0 : decode b_MD_take 0 = .ok (.aload_n 0, 1) := by decide +kernel
theorem d_MD_take_1 : decode b_MD_take 1 = .ok (.aload_n 0, 1) := by decide +kernel
theorem d_MD_take_2 : decode b_MD_take 2 = .ok (.getfield 58, 3) := by decide +kernel
theorem d_MD_take_5 : decode b_MD_take 5 = .ok (.bipush 24, 2) := by decide +kernel
theorem d_MD_take_7 : decode b_MD_take 7 = .ok (.if_icmp .ne 7, 3) := by decide +kernel
theorem d_MD_take_10 : decode b_MD_take 10 = .ok (.iconst 1, 1) := by decide +kernel
theorem d_MD_take_11 : decode b_MD_take 11 = .ok (.goto 4, 3) := by decide +kernel
theorem d_MD_take_14 : decode b_MD_take 14 = .ok (.iconst 0, 1) := by decide +kernel
theorem d_MD_take_15 : decode b_MD_take 15 = .ok (.putfield 31, 3) := by decide +kernel
theorem d_MD_take_18 : decode b_MD_take 18 = .ok (.aload_n 0, 1) := by decide +kernel
theorem d_MD_take_19 : decode b_MD_take 19 = .ok (.getfield 31, 3) := by decide +kernel
theorem d_MD_take_22 : decode b_MD_take 22 = .ok (.ifCond .le 5, 3) := by decide +kernel
theorem d_MD_take_25 : decode b_MD_take 25 = .ok (.iconst 0, 1) := by decide +kernel
theorem d_MD_take_26 : decode b_MD_take 26 = .ok (.ireturn, 1) := by decide +kernel
theorem d_MD_take_27 : decode b_MD_take 27 = .ok (.aload_n 0, 1) := by decide +kernel
theorem d_MD_take_28 : decode b_MD_take 28 = .ok (.iconst 0, 1) := by decide +kernel
theorem d_MD_take_29 : decode b_MD_take 29 = .ok (.putfield 55, 3) := by decide +kernel
theorem d_MD_take_32 : decode b_MD_take 32 = .ok (.iconst 0, 1) := by decide +kernel
theorem d_MD_take_33 : decode b_MD_take 33 = .ok (.istore_n 1, 1) := by decide +kernel
theorem d_MD_take_34 : decode b_MD_take 34 = .ok (.iload_n 1, 1) := by decide +kernel
theorem d_MD_take_35 : decode b_MD_take 35 = .ok (.aload_n 0, 1) := by decide +kernel
theorem d_MD_take_36 : decode b_MD_take 36 = .ok (.getfield 68, 3) := by decide +kernel
theorem d_MD_take_39 : decode b_MD_take 39 = .ok (.if_icmp .ge 19, 3) := by decide +kernel
theorem d_MD_take_42 : decode b_MD_take 42 = .ok (.aload_n 0, 1) := by decide +kernel
theorem d_MD_take_43 : decode b_MD_take 43 = .ok (.aload_n 0, 1) := by decide +kernel
theorem d_MD_take_44 : decode b_MD_take 44 = .ok (.getfield 16, 3) := by decide +kernel
theorem d_MD_take_47 : decode b_MD_take 47 = .ok (.iload_n 1, 1) := by decide +kernel
theorem d_MD_take_48 : decode b_MD_take 48 = .ok (.iaload, 1) := by decide +kernel
theorem d_MD_take_49 : decode b_MD_take 49 = .ok (.invokevirtual 64, 3) := by decide +kernel
theorem d_MD_take_52 : decode b_MD_take 52 = .ok (.iinc 1 1, 3) := by decide +kernel
theorem d_MD_take_55 : decode b_MD_take 55 = .ok (.goto (-21), 3) := by decide +kernel
theorem d_MD_take_58 : decode b_MD_take 58 = .ok (.aload_n 0, 1) := by decide +kernel
theorem d_MD_take_59 : decode b_MD_take 59 = .ok (.iconst 0, 1) := by decide +kernel
theorem d_MD_take_60 : decode b_MD_take 60 = .ok (.putfield 68, 3) := by decide +kernel
theorem d_MD_take_63 : decode b_MD_take 63 = .ok (.aload_n 0, 1) := by decide +kernel
theorem d_MD_take_64 : decode b_MD_take 64 = .ok (.invokevirtual 78, 3) := by decide +kernel
theorem d_MD_take_67 : decode b_MD_take 67 = .ok (.ireturn, 1) := by decide +kernel
theorem d_MD_addMade_0 : decode b_MD_addMade 0 = .ok (.iconst 0, 1) := by decide +kernel
theorem d_MD_addMade_1 : decode b_MD_addMade 1 = .ok (.istore_n 1, 1) := by decide +kernel
theorem d_MD_addMade_2 : decode b_MD_addMade 2 = .ok (.iload_n 1, 1) := by decide +kernel
theorem d_MD_addMade_3 : decode b_MD_addMade 3 = .ok (.aload_n 0, 1) := by decide +kernel
theorem d_MD_addMade_4 : decode b_MD_addMade 4 = .ok (.getfield 55, 3) := by decide +kernel
theorem d_MD_addMade_7 : decode b_MD_addMade 7 = .ok (.if_icmp .ge 29, 3) := by decide +kernel
theorem d_MD_addMade_10 : decode b_MD_addMade 10 = .ok (.aload_n 0, 1) := by decide +kernel
theorem d_MD_addMade_11 : decode b_MD_addMade 11 = .ok (.getfield 13, 3) := by decide +kernel
theorem d_MD_addMade_14 : decode b_MD_addMade 14 = .ok (.bipush 60, 2) := by decide +kernel
theorem d_MD_addMade_16 : decode b_MD_addMade 16 = .ok (.aload_n 0, 1) := by decide +kernel
theorem d_MD_addMade_17 : decode b_MD_addMade 17 = .ok (.getfield 58, 3) := by decide +kernel
theorem d_MD_addMade_20 : decode b_MD_addMade 20 = .ok (.imul, 1) := by decide +kernel
theorem d_MD_addMade_21 : decode b_MD_addMade 21 = .ok (.iload_n 1, 1) := by decide +kernel
theorem d_MD_addMade_22 : decode b_MD_addMade 22 = .ok (.iadd, 1) := by decide +kernel
theorem d_MD_addMade_23 : decode b_MD_addMade 23 = .ok (.aload_n 0, 1) := by decide +kernel
theorem d_MD_addMade_24 : decode b_MD_addMade 24 = .ok (.getfield 19, 3) := by decide +kernel
theorem d_MD_addMade_27 : decode b_MD_addMade 27 = .ok (.iload_n 1, 1) := by decide +kernel
theorem d_MD_addMade_28 : decode b_MD_addMade 28 = .ok (.iaload, 1) := by decide +kernel
theorem d_MD_addMade_29 : decode b_MD_addMade 29 = .ok (.iastore, 1) := by decide +kernel
theorem d_MD_addMade_30 : decode b_MD_addMade 30 = .ok (.iinc 1 1, 3) := by decide +kernel
theorem d_MD_addMade_33 : decode b_MD_addMade 33 = .ok (.goto (-31), 3) := by decide +kernel
theorem d_MD_addMade_36 : decode b_MD_addMade 36 = .ok (.aload_n 0, 1) := by decide +kernel
theorem d_MD_addMade_37 : decode b_MD_addMade 37 = .ok (.getfield 7, 3) := by decide +kernel
theorem d_MD_addMade_40 : decode b_MD_addMade 40 = .ok (.aload_n 0, 1) := by decide +kernel
theorem d_MD_addMade_41 : decode b_MD_addMade 41 = .ok (.getfield 58, 3) := by decide +kernel
theorem d_MD_addMade_44 : decode b_MD_addMade 44 = .ok (.aload_n 0, 1) := by decide +kernel
theorem d_MD_addMade_45 : decode b_MD_addMade 45 = .ok (.getfield 55, 3) := by decide +kernel
theorem d_MD_addMade_48 : decode b_MD_addMade 48 = .ok (.iastore, 1) := by decide +kernel
theorem d_MD_addMade_49 : decode b_MD_addMade 49 = .ok (.aload_n 0, 1) := by decide +kernel
theorem d_MD_addMade_50 : decode b_MD_addMade 50 = .ok (.dup, 1) := by decide +kernel
theorem d_MD_addMade_51 : decode b_MD_addMade 51 = .ok (.getfield 58, 3) := by decide +kernel
theorem d_MD_addMade_54 : decode b_MD_addMade 54 = .ok (.iconst 1, 1) := by decide +kernel
theorem d_MD_addMade_55 : decode b_MD_addMade 55 = .ok (.iadd, 1) := by decide +kernel
theorem d_MD_addMade_56 : decode b_MD_addMade 56 = .ok (.putfield 58, 3) := by decide +kernel
theorem d_MD_addMade_59 : decode b_MD_addMade 59 = .ok (.aload_n 0, 1) := by decide +kernel
theorem d_MD_addMade_60 : decode b_MD_addMade 60 = .ok (.getfield 58, 3) := by decide +kernel
theorem d_MD_addMade_63 : decode b_MD_addMade 63 = .ok (.iconst 1, 1) := by decide +kernel
theorem d_MD_addMade_64 : decode b_MD_addMade 64 = .ok (.isub, 1) := by decide +kernel
theorem d_MD_addMade_65 : decode b_MD_addMade 65 = .ok (.ireturn, 1) := by decide +kernel
theorem d_MD_join_0 : decode b_MD_join 0 = .ok (.aload_n 0, 1) := by decide +kernel
theorem d_MD_join_1 : decode b_MD_join 1 = .ok (.aload_n 0, 1) := by decide +kernel
theorem d_MD_join_2 : decode b_MD_join 2 = .ok (.iload_n 1, 1) := by decide +kernel
theorem d_MD_join_3 : decode b_MD_join 3 = .ok (.invokevirtual 71, 3) := by decide +kernel
theorem d_MD_join_6 : decode b_MD_join 6 = .ok (.ifCond .eq 11, 3) := by decide +kernel
theorem d_MD_join_9 : decode b_MD_join 9 = .ok (.aload_n 0, 1) := by decide +kernel
theorem d_MD_join_10 : decode b_MD_join 10 = .ok (.iload_n 2, 1) := by decide +kernel
theorem d_MD_join_11 : decode b_MD_join 11 = .ok (.invokevirtual 71, 3) := by decide +kernel
theorem d_MD_join_14 : decode b_MD_join 14 = .ok (.ifCond .ne 7, 3) := by decide +kernel
theorem d_MD_join_17 : decode b_MD_join 17 = .ok (.iconst 1, 1) := by decide +kernel
theorem d_MD_join_18 : decode b_MD_join 18 = .ok (.goto 35, 3) := by decide +kernel
theorem d_MD_join_21 : decode b_MD_join 21 = .ok (.aload_n 0, 1) := by decide +kernel
theorem d_MD_join_22 : decode b_MD_join 22 = .ok (.getfield 58, 3) := by decide +kernel
theorem d_MD_join_25 : decode b_MD_join 25 = .ok (.bipush 24, 2) := by decide +kernel
theorem d_MD_join_27 : decode b_MD_join 27 = .ok (.if_icmp .eq 21, 3) := by decide +kernel
theorem d_MD_join_30 : decode b_MD_join 30 = .ok (.aload_n 0, 1) := by decide +kernel
theorem d_MD_join_31 : decode b_MD_join 31 = .ok (.getfield 7, 3) := by decide +kernel
theorem d_MD_join_34 : decode b_MD_join 34 = .ok (.iload_n 1, 1) := by decide +kernel
theorem d_MD_join_35 : decode b_MD_join 35 = .ok (.iaload, 1) := by decide +kernel
theorem d_MD_join_36 : decode b_MD_join 36 = .ok (.aload_n 0, 1) := by decide +kernel
theorem d_MD_join_37 : decode b_MD_join 37 = .ok (.getfield 7, 3) := by decide +kernel
theorem d_MD_join_40 : decode b_MD_join 40 = .ok (.iload_n 2, 1) := by decide +kernel
theorem d_MD_join_41 : decode b_MD_join 41 = .ok (.iaload, 1) := by decide +kernel
theorem d_MD_join_42 : decode b_MD_join 42 = .ok (.iadd, 1) := by decide +kernel
theorem d_MD_join_43 : decode b_MD_join 43 = .ok (.bipush 60, 2) := by decide +kernel
theorem d_MD_join_45 : decode b_MD_join 45 = .ok (.if_icmp .le 7, 3) := by decide +kernel
theorem d_MD_join_48 : decode b_MD_join 48 = .ok (.iconst 2, 1) := by decide +kernel
theorem d_MD_join_49 : decode b_MD_join 49 = .ok (.goto 4, 3) := by decide +kernel
theorem d_MD_join_52 : decode b_MD_join 52 = .ok (.iconst 0, 1) := by decide +kernel
theorem d_MD_join_53 : decode b_MD_join 53 = .ok (.putfield 31, 3) := by decide +kernel
theorem d_MD_join_56 : decode b_MD_join 56 = .ok (.aload_n 0, 1) := by decide +kernel
theorem d_MD_join_57 : decode b_MD_join 57 = .ok (.getfield 31, 3) := by decide +kernel
theorem d_MD_join_60 : decode b_MD_join 60 = .ok (.ifCond .le 5, 3) := by decide +kernel
theorem d_MD_join_63 : decode b_MD_join 63 = .ok (.iconst 0, 1) := by decide +kernel
theorem d_MD_join_64 : decode b_MD_join 64 = .ok (.ireturn, 1) := by decide +kernel
theorem d_MD_join_65 : decode b_MD_join 65 = .ok (.aload_n 0, 1) := by decide +kernel
theorem d_MD_join_66 : decode b_MD_join 66 = .ok (.iconst 0, 1) := by decide +kernel
theorem d_MD_join_67 : decode b_MD_join 67 = .ok (.putfield 55, 3) := by decide +kernel
theorem d_MD_join_70 : decode b_MD_join 70 = .ok (.aload_n 0, 1) := by decide +kernel
theorem d_MD_join_71 : decode b_MD_join 71 = .ok (.iload_n 1, 1) := by decide +kernel
theorem d_MD_join_72 : decode b_MD_join 72 = .ok (.iconst 0, 1) := by decide +kernel
theorem d_MD_join_73 : decode b_MD_join 73 = .ok (.aload_n 0, 1) := by decide +kernel
theorem d_MD_join_74 : decode b_MD_join 74 = .ok (.getfield 7, 3) := by decide +kernel
theorem d_MD_join_77 : decode b_MD_join 77 = .ok (.iload_n 1, 1) := by decide +kernel
theorem d_MD_join_78 : decode b_MD_join 78 = .ok (.iaload, 1) := by decide +kernel
theorem d_MD_join_79 : decode b_MD_join 79 = .ok (.invokevirtual 74, 3) := by decide +kernel
theorem d_MD_join_82 : decode b_MD_join 82 = .ok (.aload_n 0, 1) := by decide +kernel
theorem d_MD_join_83 : decode b_MD_join 83 = .ok (.iload_n 2, 1) := by decide +kernel
theorem d_MD_join_84 : decode b_MD_join 84 = .ok (.iconst 0, 1) := by decide +kernel
theorem d_MD_join_85 : decode b_MD_join 85 = .ok (.aload_n 0, 1) := by decide +kernel
theorem d_MD_join_86 : decode b_MD_join 86 = .ok (.getfield 7, 3) := by decide +kernel
theorem d_MD_join_89 : decode b_MD_join 89 = .ok (.iload_n 2, 1) := by decide +kernel
theorem d_MD_join_90 : decode b_MD_join 90 = .ok (.iaload, 1) := by decide +kernel
theorem d_MD_join_91 : decode b_MD_join 91 = .ok (.invokevirtual 74, 3) := by decide +kernel
theorem d_MD_join_94 : decode b_MD_join 94 = .ok (.aload_n 0, 1) := by decide +kernel
theorem d_MD_join_95 : decode b_MD_join 95 = .ok (.invokevirtual 78, 3) := by decide +kernel
theorem d_MD_join_98 : decode b_MD_join 98 = .ok (.ireturn, 1) := by decide +kernel
theorem d_MD_part_0 : decode b_MD_part 0 = .ok (.aload_n 0, 1) := by decide +kernel
theorem d_MD_part_1 : decode b_MD_part 1 = .ok (.aload_n 0, 1) := by decide +kernel
theorem d_MD_part_2 : decode b_MD_part 2 = .ok (.iload_n 1, 1) := by decide +kernel
theorem d_MD_part_3 : decode b_MD_part 3 = .ok (.invokevirtual 71, 3) := by decide +kernel
theorem d_MD_part_6 : decode b_MD_part 6 = .ok (.ifCond .ne 7, 3) := by decide +kernel
theorem d_MD_part_9 : decode b_MD_part 9 = .ok (.iconst 1, 1) := by decide +kernel
theorem d_MD_part_10 : decode b_MD_part 10 = .ok (.goto 40, 3) := by decide +kernel
theorem d_MD_part_13 : decode b_MD_part 13 = .ok (.iload_n 2, 1) := by decide +kernel
theorem d_MD_part_14 : decode b_MD_part 14 = .ok (.ifCond .lt 18, 3) := by decide +kernel
theorem d_MD_part_17 : decode b_MD_part 17 = .ok (.iload_n 2, 1) := by decide +kernel
theorem d_MD_part_18 : decode b_MD_part 18 = .ok (.iload_n 3, 1) := by decide +kernel
theorem d_MD_part_19 : decode b_MD_part 19 = .ok (.if_icmp .gt 13, 3) := by decide +kernel
theorem d_MD_part_22 : decode b_MD_part 22 = .ok (.iload_n 3, 1) := by decide +kernel
theorem d_MD_part_23 : decode b_MD_part 23 = .ok (.aload_n 0, 1) := by decide +kernel
theorem d_MD_part_24 : decode b_MD_part 24 = .ok (.getfield 7, 3) := by decide +kernel
theorem d_MD_part_27 : decode b_MD_part 27 = .ok (.iload_n 1, 1) := by decide +kernel
theorem d_MD_part_28 : decode b_MD_part 28 = .ok (.iaload, 1) := by decide +kernel
theorem d_MD_part_29 : decode b_MD_part 29 = .ok (.if_icmp .le 7, 3) := by decide +kernel
theorem d_MD_part_32 : decode b_MD_part 32 = .ok (.iconst 2, 1) := by decide +kernel
theorem d_MD_part_33 : decode b_MD_part 33 = .ok (.goto 17, 3) := by decide +kernel
theorem d_MD_part_36 : decode b_MD_part 36 = .ok (.aload_n 0, 1) := by decide +kernel
theorem d_MD_part_37 : decode b_MD_part 37 = .ok (.getfield 58, 3) := by decide +kernel
theorem d_MD_part_40 : decode b_MD_part 40 = .ok (.bipush 24, 2) := by decide +kernel
theorem d_MD_part_42 : decode b_MD_part 42 = .ok (.if_icmp .ne 7, 3) := by decide +kernel
theorem d_MD_part_45 : decode b_MD_part 45 = .ok (.iconst 3, 1) := by decide +kernel
theorem d_MD_part_46 : decode b_MD_part 46 = .ok (.goto 4, 3) := by decide +kernel
theorem d_MD_part_49 : decode b_MD_part 49 = .ok (.iconst 0, 1) := by decide +kernel
theorem d_MD_part_50 : decode b_MD_part 50 = .ok (.putfield 31, 3) := by decide +kernel
theorem d_MD_part_53 : decode b_MD_part 53 = .ok (.aload_n 0, 1) := by decide +kernel
theorem d_MD_part_54 : decode b_MD_part 54 = .ok (.getfield 31, 3) := by decide +kernel
theorem d_MD_part_57 : decode b_MD_part 57 = .ok (.ifCond .le 5, 3) := by decide +kernel
theorem d_MD_part_60 : decode b_MD_part 60 = .ok (.iconst 0, 1) := by decide +kernel
theorem d_MD_part_61 : decode b_MD_part 61 = .ok (.ireturn, 1) := by decide +kernel
theorem d_MD_part_62 : decode b_MD_part 62 = .ok (.aload_n 0, 1) := by decide +kernel
theorem d_MD_part_63 : decode b_MD_part 63 = .ok (.iconst 0, 1) := by decide +kernel
theorem d_MD_part_64 : decode b_MD_part 64 = .ok (.putfield 55, 3) := by decide +kernel
theorem d_MD_part_67 : decode b_MD_part 67 = .ok (.aload_n 0, 1) := by decide +kernel
theorem d_MD_part_68 : decode b_MD_part 68 = .ok (.iload_n 1, 1) := by decide +kernel
theorem d_MD_part_69 : decode b_MD_part 69 = .ok (.iload_n 2, 1) := by decide +kernel
theorem d_MD_part_70 : decode b_MD_part 70 = .ok (.iload_n 3, 1) := by decide +kernel
theorem d_MD_part_71 : decode b_MD_part 71 = .ok (.invokevirtual 74, 3) := by decide +kernel
theorem d_MD_part_74 : decode b_MD_part 74 = .ok (.aload_n 0, 1) := by decide +kernel
theorem d_MD_part_75 : decode b_MD_part 75 = .ok (.invokevirtual 78, 3) := by decide +kernel
theorem d_MD_part_78 : decode b_MD_part 78 = .ok (.ireturn, 1) := by decide +kernel
theorem d_MD_replace_0 : decode b_MD_replace 0 = .ok (.aload_n 0, 1) := by decide +kernel
theorem d_MD_replace_1 : decode b_MD_replace 1 = .ok (.aload_n 0, 1) := by decide +kernel
theorem d_MD_replace_2 : decode b_MD_replace 2 = .ok (.iload_n 1, 1) := by decide +kernel
theorem d_MD_replace_3 : decode b_MD_replace 3 = .ok (.invokevirtual 71, 3) := by decide +kernel
theorem d_MD_replace_6 : decode b_MD_replace 6 = .ok (.ifCond .eq 19, 3) := by decide +kernel
theorem d_MD_replace_9 : decode b_MD_replace 9 = .ok (.aload_n 0, 1) := by decide +kernel
theorem d_MD_replace_10 : decode b_MD_replace 10 = .ok (.iload_n 2, 1) := by decide +kernel
theorem d_MD_replace_11 : decode b_MD_replace 11 = .ok (.invokevirtual 71, 3) := by decide +kernel
theorem d_MD_replace_14 : decode b_MD_replace 14 = .ok (.ifCond .eq 11, 3) := by decide +kernel
theorem d_MD_replace_17 : decode b_MD_replace 17 = .ok (.aload_n 0, 1) := by decide +kernel
theorem d_MD_replace_18 : decode b_MD_replace 18 = .ok (.iload_n 3, 1) := by decide +kernel
theorem d_MD_replace_19 : decode b_MD_replace 19 = .ok (.invokevirtual 71, 3) := by decide +kernel
theorem d_MD_replace_22 : decode b_MD_replace 22 = .ok (.ifCond .ne 7, 3) := by decide +kernel
theorem d_MD_replace_25 : decode b_MD_replace 25 = .ok (.iconst 1, 1) := by decide +kernel
theorem d_MD_replace_26 : decode b_MD_replace 26 = .ok (.goto 17, 3) := by decide +kernel
theorem d_MD_replace_29 : decode b_MD_replace 29 = .ok (.aload_n 0, 1) := by decide +kernel
theorem d_MD_replace_30 : decode b_MD_replace 30 = .ok (.getfield 58, 3) := by decide +kernel
theorem d_MD_replace_33 : decode b_MD_replace 33 = .ok (.bipush 24, 2) := by decide +kernel
theorem d_MD_replace_35 : decode b_MD_replace 35 = .ok (.if_icmp .ne 7, 3) := by decide +kernel
theorem d_MD_replace_38 : decode b_MD_replace 38 = .ok (.iconst 2, 1) := by decide +kernel
theorem d_MD_replace_39 : decode b_MD_replace 39 = .ok (.goto 4, 3) := by decide +kernel
theorem d_MD_replace_42 : decode b_MD_replace 42 = .ok (.iconst 0, 1) := by decide +kernel
theorem d_MD_replace_43 : decode b_MD_replace 43 = .ok (.putfield 31, 3) := by decide +kernel
theorem d_MD_replace_46 : decode b_MD_replace 46 = .ok (.aload_n 0, 1) := by decide +kernel
theorem d_MD_replace_47 : decode b_MD_replace 47 = .ok (.getfield 31, 3) := by decide +kernel
theorem d_MD_replace_50 : decode b_MD_replace 50 = .ok (.ifCond .le 5, 3) := by decide +kernel
theorem d_MD_replace_53 : decode b_MD_replace 53 = .ok (.iconst 0, 1) := by decide +kernel
theorem d_MD_replace_54 : decode b_MD_replace 54 = .ok (.ireturn, 1) := by decide +kernel
theorem d_MD_replace_55 : decode b_MD_replace 55 = .ok (.aload_n 0, 1) := by decide +kernel
theorem d_MD_replace_56 : decode b_MD_replace 56 = .ok (.iconst 0, 1) := by decide +kernel
theorem d_MD_replace_57 : decode b_MD_replace 57 = .ok (.putfield 55, 3) := by decide +kernel
theorem d_MD_replace_60 : decode b_MD_replace 60 = .ok (.iconst 0, 1) := by decide +kernel
theorem d_MD_replace_61 : decode b_MD_replace 61 = .ok (.istore 4, 2) := by decide +kernel
theorem d_MD_replace_63 : decode b_MD_replace 63 = .ok (.iload 4, 2) := by decide +kernel
theorem d_MD_replace_65 : decode b_MD_replace 65 = .ok (.aload_n 0, 1) := by decide +kernel
theorem d_MD_replace_66 : decode b_MD_replace 66 = .ok (.getfield 7, 3) := by decide +kernel
theorem d_MD_replace_69 : decode b_MD_replace 69 = .ok (.iload_n 1, 1) := by decide +kernel
theorem d_MD_replace_70 : decode b_MD_replace 70 = .ok (.iaload, 1) := by decide +kernel
theorem d_MD_replace_71 : decode b_MD_replace 71 = .ok (.if_icmp .gt 95, 3) := by decide +kernel
theorem d_MD_replace_74 : decode b_MD_replace 74 = .ok (.aload_n 0, 1) := by decide +kernel
theorem d_MD_replace_75 : decode b_MD_replace 75 = .ok (.getfield 55, 3) := by decide +kernel
theorem d_MD_replace_78 : decode b_MD_replace 78 = .ok (.bipush 60, 2) := by decide +kernel
theorem d_MD_replace_80 : decode b_MD_replace 80 = .ok (.if_icmp .gt 86, 3) := by decide +kernel
theorem d_MD_replace_83 : decode b_MD_replace 83 = .ok (.aload_n 0, 1) := by decide +kernel
theorem d_MD_replace_84 : decode b_MD_replace 84 = .ok (.iload_n 1, 1) := by decide +kernel
theorem d_MD_replace_85 : decode b_MD_replace 85 = .ok (.iload_n 2, 1) := by decide +kernel
theorem d_MD_replace_86 : decode b_MD_replace 86 = .ok (.iload 4, 2) := by decide +kernel
theorem d_MD_replace_88 : decode b_MD_replace 88 = .ok (.invokevirtual 82, 3) := by decide +kernel
theorem d_MD_replace_91 : decode b_MD_replace 91 = .ok (.istore 5, 2) := by decide +kernel
theorem d_MD_replace_93 : decode b_MD_replace 93 = .ok (.iload 5, 2) := by decide +kernel
theorem d_MD_replace_95 : decode b_MD_replace 95 = .ok (.ifCond .eq 15, 3) := by decide +kernel
theorem d_MD_replace_98 : decode b_MD_replace 98 = .ok (.aload_n 0, 1) := by decide +kernel
theorem d_MD_replace_99 : decode b_MD_replace 99 = .ok (.iload_n 3, 1) := by decide +kernel
theorem d_MD_replace_100 : decode b_MD_replace 100 = .ok (.iconst 0, 1) := by decide +kernel
theorem d_MD_replace_101 : decode b_MD_replace 101 = .ok (.aload_n 0, 1) := by decide +kernel
theorem d_MD_replace_102 : decode b_MD_replace 102 = .ok (.getfield 7, 3) := by decide +kernel
theorem d_MD_replace_105 : decode b_MD_replace 105 = .ok (.iload_n 3, 1) := by decide +kernel
theorem d_MD_replace_106 : decode b_MD_replace 106 = .ok (.iaload, 1) := by decide +kernel
theorem d_MD_replace_107 : decode b_MD_replace 107 = .ok (.invokevirtual 74, 3) := by decide +kernel
theorem d_MD_replace_110 : decode b_MD_replace 110 = .ok (.iload 5, 2) := by decide +kernel
theorem d_MD_replace_112 : decode b_MD_replace 112 = .ok (.ifCond .eq 26, 3) := by decide +kernel
theorem d_MD_replace_115 : decode b_MD_replace 115 = .ok (.aload_n 0, 1) := by decide +kernel
theorem d_MD_replace_116 : decode b_MD_replace 116 = .ok (.getfield 7, 3) := by decide +kernel
theorem d_MD_replace_119 : decode b_MD_replace 119 = .ok (.iload_n 2, 1) := by decide +kernel
theorem d_MD_replace_120 : decode b_MD_replace 120 = .ok (.iaload, 1) := by decide +kernel
theorem d_MD_replace_121 : decode b_MD_replace 121 = .ok (.ifCond .le 17, 3) := by decide +kernel
theorem d_MD_replace_124 : decode b_MD_replace 124 = .ok (.iload 4, 2) := by decide +kernel
theorem d_MD_replace_126 : decode b_MD_replace 126 = .ok (.aload_n 0, 1) := by decide +kernel
theorem d_MD_replace_127 : decode b_MD_replace 127 = .ok (.getfield 7, 3) := by decide +kernel
theorem d_MD_replace_130 : decode b_MD_replace 130 = .ok (.iload_n 2, 1) := by decide +kernel
theorem d_MD_replace_131 : decode b_MD_replace 131 = .ok (.iaload, 1) := by decide +kernel
theorem d_MD_replace_132 : decode b_MD_replace 132 = .ok (.iadd, 1) := by decide +kernel
theorem d_MD_replace_133 : decode b_MD_replace 133 = .ok (.istore 4, 2) := by decide +kernel
theorem d_MD_replace_135 : decode b_MD_replace 135 = .ok (.goto 28, 3) := by decide +kernel
theorem d_MD_replace_138 : decode b_MD_replace 138 = .ok (.iload 4, 2) := by decide +kernel
theorem d_MD_replace_140 : decode b_MD_replace 140 = .ok (.aload_n 0, 1) := by decide +kernel
theorem d_MD_replace_141 : decode b_MD_replace 141 = .ok (.getfield 7, 3) := by decide +kernel
theorem d_MD_replace_144 : decode b_MD_replace 144 = .ok (.iload_n 1, 1) := by decide +kernel
theorem d_MD_replace_145 : decode b_MD_replace 145 = .ok (.iaload, 1) := by decide +kernel
theorem d_MD_replace_146 : decode b_MD_replace 146 = .ok (.if_icmp .ge 14, 3) := by decide +kernel
theorem d_MD_replace_149 : decode b_MD_replace 149 = .ok (.aload_n 0, 1) := by decide +kernel
theorem d_MD_replace_150 : decode b_MD_replace 150 = .ok (.aload_n 0, 1) := by decide +kernel
theorem d_MD_replace_151 : decode b_MD_replace 151 = .ok (.iload_n 1, 1) := by decide +kernel
theorem d_MD_replace_152 : decode b_MD_replace 152 = .ok (.iload 4, 2) := by decide +kernel
theorem d_MD_replace_154 : decode b_MD_replace 154 = .ok (.invokevirtual 39, 3) := by decide +kernel
theorem d_MD_replace_157 : decode b_MD_replace 157 = .ok (.invokevirtual 64, 3) := by decide +kernel
theorem d_MD_replace_160 : decode b_MD_replace 160 = .ok (.iinc 4 1, 3) := by decide +kernel
theorem d_MD_replace_163 : decode b_MD_replace 163 = .ok (.goto (-100), 3) := by decide +kernel
theorem d_MD_replace_166 : decode b_MD_replace 166 = .ok (.aload_n 0, 1) := by decide +kernel
theorem d_MD_replace_167 : decode b_MD_replace 167 = .ok (.getfield 55, 3) := by decide +kernel
theorem d_MD_replace_170 : decode b_MD_replace 170 = .ok (.bipush 60, 2) := by decide +kernel
theorem d_MD_replace_172 : decode b_MD_replace 172 = .ok (.if_icmp .le 9, 3) := by decide +kernel
theorem d_MD_replace_175 : decode b_MD_replace 175 = .ok (.aload_n 0, 1) := by decide +kernel
theorem d_MD_replace_176 : decode b_MD_replace 176 = .ok (.iconst 2, 1) := by decide +kernel
theorem d_MD_replace_177 : decode b_MD_replace 177 = .ok (.invokevirtual 86, 3) := by decide +kernel
theorem d_MD_replace_180 : decode b_MD_replace 180 = .ok (.ireturn, 1) := by decide +kernel
theorem d_MD_replace_181 : decode b_MD_replace 181 = .ok (.aload_n 0, 1) := by decide +kernel
theorem d_MD_replace_182 : decode b_MD_replace 182 = .ok (.invokevirtual 78, 3) := by decide +kernel
theorem d_MD_replace_185 : decode b_MD_replace 185 = .ok (.ireturn, 1) := by decide +kernel
theorem d_MD_stands_0 : decode b_MD_stands 0 = .ok (.iload_n 3, 1) := by decide +kernel
theorem d_MD_stands_1 : decode b_MD_stands 1 = .ok (.ifCond .lt 20, 3) := by decide +kernel
theorem d_MD_stands_4 : decode b_MD_stands 4 = .ok (.iload_n 3, 1) := by decide +kernel
theorem d_MD_stands_5 : decode b_MD_stands 5 = .ok (.aload_n 0, 1) := by decide +kernel
theorem d_MD_stands_6 : decode b_MD_stands 6 = .ok (.getfield 7, 3) := by decide +kernel
theorem d_MD_stands_9 : decode b_MD_stands 9 = .ok (.iload_n 2, 1) := by decide +kernel
theorem d_MD_stands_10 : decode b_MD_stands 10 = .ok (.iaload, 1) := by decide +kernel
theorem d_MD_stands_11 : decode b_MD_stands 11 = .ok (.iadd, 1) := by decide +kernel
theorem d_MD_stands_12 : decode b_MD_stands 12 = .ok (.aload_n 0, 1) := by decide +kernel
theorem d_MD_stands_13 : decode b_MD_stands 13 = .ok (.getfield 7, 3) := by decide +kernel
theorem d_MD_stands_16 : decode b_MD_stands 16 = .ok (.iload_n 1, 1) := by decide +kernel
theorem d_MD_stands_17 : decode b_MD_stands 17 = .ok (.iaload, 1) := by decide +kernel
theorem d_MD_stands_18 : decode b_MD_stands 18 = .ok (.if_icmp .le 5, 3) := by decide +kernel
theorem d_MD_stands_21 : decode b_MD_stands 21 = .ok (.iconst 0, 1) := by decide +kernel
theorem d_MD_stands_22 : decode b_MD_stands 22 = .ok (.ireturn, 1) := by decide +kernel
theorem d_MD_stands_23 : decode b_MD_stands 23 = .ok (.iconst 1, 1) := by decide +kernel
theorem d_MD_stands_24 : decode b_MD_stands 24 = .ok (.istore 4, 2) := by decide +kernel
theorem d_MD_stands_26 : decode b_MD_stands 26 = .ok (.iconst 0, 1) := by decide +kernel
theorem d_MD_stands_27 : decode b_MD_stands 27 = .ok (.istore 5, 2) := by decide +kernel
theorem d_MD_stands_29 : decode b_MD_stands 29 = .ok (.iload 5, 2) := by decide +kernel
theorem d_MD_stands_31 : decode b_MD_stands 31 = .ok (.aload_n 0, 1) := by decide +kernel
theorem d_MD_stands_32 : decode b_MD_stands 32 = .ok (.getfield 7, 3) := by decide +kernel
theorem d_MD_stands_35 : decode b_MD_stands 35 = .ok (.iload_n 2, 1) := by decide +kernel
theorem d_MD_stands_36 : decode b_MD_stands 36 = .ok (.iaload, 1) := by decide +kernel
theorem d_MD_stands_37 : decode b_MD_stands 37 = .ok (.if_icmp .ge 40, 3) := by decide +kernel
theorem d_MD_stands_40 : decode b_MD_stands 40 = .ok (.iload 4, 2) := by decide +kernel
theorem d_MD_stands_42 : decode b_MD_stands 42 = .ok (.ifCond .eq 26, 3) := by decide +kernel
theorem d_MD_stands_45 : decode b_MD_stands 45 = .ok (.aload_n 0, 1) := by decide +kernel
theorem d_MD_stands_46 : decode b_MD_stands 46 = .ok (.iload_n 1, 1) := by decide +kernel
theorem d_MD_stands_47 : decode b_MD_stands 47 = .ok (.iload_n 3, 1) := by decide +kernel
theorem d_MD_stands_48 : decode b_MD_stands 48 = .ok (.iload 5, 2) := by decide +kernel
theorem d_MD_stands_50 : decode b_MD_stands 50 = .ok (.iadd, 1) := by decide +kernel
theorem d_MD_stands_51 : decode b_MD_stands 51 = .ok (.invokevirtual 39, 3) := by decide +kernel
theorem d_MD_stands_54 : decode b_MD_stands 54 = .ok (.aload_n 0, 1) := by decide +kernel
theorem d_MD_stands_55 : decode b_MD_stands 55 = .ok (.iload_n 2, 1) := by decide +kernel
theorem d_MD_stands_56 : decode b_MD_stands 56 = .ok (.iload 5, 2) := by decide +kernel
theorem d_MD_stands_58 : decode b_MD_stands 58 = .ok (.invokevirtual 39, 3) := by decide +kernel
theorem d_MD_stands_61 : decode b_MD_stands 61 = .ok (.if_icmp .ne 7, 3) := by decide +kernel
theorem d_MD_stands_64 : decode b_MD_stands 64 = .ok (.iconst 1, 1) := by decide +kernel
theorem d_MD_stands_65 : decode b_MD_stands 65 = .ok (.goto 4, 3) := by decide +kernel
theorem d_MD_stands_68 : decode b_MD_stands 68 = .ok (.iconst 0, 1) := by decide +kernel
theorem d_MD_stands_69 : decode b_MD_stands 69 = .ok (.istore 4, 2) := by decide +kernel
theorem d_MD_stands_71 : decode b_MD_stands 71 = .ok (.iinc 5 1, 3) := by decide +kernel
theorem d_MD_stands_74 : decode b_MD_stands 74 = .ok (.goto (-45), 3) := by decide +kernel
theorem d_MD_stands_77 : decode b_MD_stands 77 = .ok (.iload 4, 2) := by decide +kernel
theorem d_MD_stands_79 : decode b_MD_stands 79 = .ok (.ireturn, 1) := by decide +kernel
theorem d_MD_fail_0 : decode b_MD_fail 0 = .ok (.aload_n 0, 1) := by decide +kernel
theorem d_MD_fail_1 : decode b_MD_fail 1 = .ok (.iload_n 1, 1) := by decide +kernel
theorem d_MD_fail_2 : decode b_MD_fail 2 = .ok (.putfield 31, 3) := by decide +kernel
theorem d_MD_fail_5 : decode b_MD_fail 5 = .ok (.iconst 0, 1) := by decide +kernel
theorem d_MD_fail_6 : decode b_MD_fail 6 = .ok (.ireturn, 1) := by decide +kernel
theorem d_MD_strip_0 : decode b_MD_strip 0 = .ok (.aload_n 0, 1) := by decide +kernel
theorem d_MD_strip_1 : decode b_MD_strip 1 = .ok (.aload_n 0, 1) := by decide +kernel
theorem d_MD_strip_2 : decode b_MD_strip 2 = .ok (.iload_n 1, 1) := by decide +kernel
theorem d_MD_strip_3 : decode b_MD_strip 3 = .ok (.invokevirtual 71, 3) := by decide +kernel
theorem d_MD_strip_6 : decode b_MD_strip 6 = .ok (.ifCond .ne 7, 3) := by decide +kernel
theorem d_MD_strip_9 : decode b_MD_strip 9 = .ok (.iconst 1, 1) := by decide +kernel
theorem d_MD_strip_10 : decode b_MD_strip 10 = .ok (.goto 17, 3) := by decide +kernel
theorem d_MD_strip_13 : decode b_MD_strip 13 = .ok (.aload_n 0, 1) := by decide +kernel
theorem d_MD_strip_14 : decode b_MD_strip 14 = .ok (.getfield 58, 3) := by decide +kernel
theorem d_MD_strip_17 : decode b_MD_strip 17 = .ok (.bipush 24, 2) := by decide +kernel
theorem d_MD_strip_19 : decode b_MD_strip 19 = .ok (.if_icmp .ne 7, 3) := by decide +kernel
theorem d_MD_strip_22 : decode b_MD_strip 22 = .ok (.iconst 2, 1) := by decide +kernel
theorem d_MD_strip_23 : decode b_MD_strip 23 = .ok (.goto 4, 3) := by decide +kernel
theorem d_MD_strip_26 : decode b_MD_strip 26 = .ok (.iconst 0, 1) := by decide +kernel
theorem d_MD_strip_27 : decode b_MD_strip 27 = .ok (.putfield 31, 3) := by decide +kernel
theorem d_MD_strip_30 : decode b_MD_strip 30 = .ok (.aload_n 0, 1) := by decide +kernel
theorem d_MD_strip_31 : decode b_MD_strip 31 = .ok (.getfield 31, 3) := by decide +kernel
theorem d_MD_strip_34 : decode b_MD_strip 34 = .ok (.ifCond .le 5, 3) := by decide +kernel
theorem d_MD_strip_37 : decode b_MD_strip 37 = .ok (.iconst 0, 1) := by decide +kernel
theorem d_MD_strip_38 : decode b_MD_strip 38 = .ok (.ireturn, 1) := by decide +kernel
theorem d_MD_strip_39 : decode b_MD_strip 39 = .ok (.aload_n 0, 1) := by decide +kernel
theorem d_MD_strip_40 : decode b_MD_strip 40 = .ok (.getfield 7, 3) := by decide +kernel
theorem d_MD_strip_43 : decode b_MD_strip 43 = .ok (.iload_n 1, 1) := by decide +kernel
theorem d_MD_strip_44 : decode b_MD_strip 44 = .ok (.iaload, 1) := by decide +kernel
theorem d_MD_strip_45 : decode b_MD_strip 45 = .ok (.istore_n 2, 1) := by decide +kernel
theorem d_MD_strip_46 : decode b_MD_strip 46 = .ok (.iconst 0, 1) := by decide +kernel
theorem d_MD_strip_47 : decode b_MD_strip 47 = .ok (.istore_n 3, 1) := by decide +kernel
theorem d_MD_strip_48 : decode b_MD_strip 48 = .ok (.iconst 0, 1) := by decide +kernel
theorem d_MD_strip_49 : decode b_MD_strip 49 = .ok (.istore 4, 2) := by decide +kernel
theorem d_MD_strip_51 : decode b_MD_strip 51 = .ok (.iload 4, 2) := by decide +kernel
theorem d_MD_strip_53 : decode b_MD_strip 53 = .ok (.aload_n 0, 1) := by decide +kernel
theorem d_MD_strip_54 : decode b_MD_strip 54 = .ok (.getfield 7, 3) := by decide +kernel
theorem d_MD_strip_57 : decode b_MD_strip 57 = .ok (.iload_n 1, 1) := by decide +kernel
theorem d_MD_strip_58 : decode b_MD_strip 58 = .ok (.iaload, 1) := by decide +kernel
theorem d_MD_strip_59 : decode b_MD_strip 59 = .ok (.if_icmp .ge 39, 3) := by decide +kernel
theorem d_MD_strip_62 : decode b_MD_strip 62 = .ok (.aload_n 0, 1) := by decide +kernel
theorem d_MD_strip_63 : decode b_MD_strip 63 = .ok (.iload_n 1, 1) := by decide +kernel
theorem d_MD_strip_64 : decode b_MD_strip 64 = .ok (.iload 4, 2) := by decide +kernel
theorem d_MD_strip_66 : decode b_MD_strip 66 = .ok (.invokevirtual 39, 3) := by decide +kernel
theorem d_MD_strip_69 : decode b_MD_strip 69 = .ok (.bipush 32, 2) := by decide +kernel
theorem d_MD_strip_71 : decode b_MD_strip 71 = .ok (.if_icmp .le 21, 3) := by decide +kernel
theorem d_MD_strip_74 : decode b_MD_strip 74 = .ok (.iload 4, 2) := by decide +kernel
theorem d_MD_strip_76 : decode b_MD_strip 76 = .ok (.iload_n 2, 1) := by decide +kernel
theorem d_MD_strip_77 : decode b_MD_strip 77 = .ok (.if_icmp .ge 8, 3) := by decide +kernel
theorem d_MD_strip_80 : decode b_MD_strip 80 = .ok (.iload 4, 2) := by decide +kernel
theorem d_MD_strip_82 : decode b_MD_strip 82 = .ok (.goto 4, 3) := by decide +kernel
theorem d_MD_strip_85 : decode b_MD_strip 85 = .ok (.iload_n 2, 1) := by decide +kernel
theorem d_MD_strip_86 : decode b_MD_strip 86 = .ok (.istore_n 2, 1) := by decide +kernel
theorem d_MD_strip_87 : decode b_MD_strip 87 = .ok (.iload 4, 2) := by decide +kernel
theorem d_MD_strip_89 : decode b_MD_strip 89 = .ok (.iconst 1, 1) := by decide +kernel
theorem d_MD_strip_90 : decode b_MD_strip 90 = .ok (.iadd, 1) := by decide +kernel
theorem d_MD_strip_91 : decode b_MD_strip 91 = .ok (.istore_n 3, 1) := by decide +kernel
theorem d_MD_strip_92 : decode b_MD_strip 92 = .ok (.iinc 4 1, 3) := by decide +kernel
theorem d_MD_strip_95 : decode b_MD_strip 95 = .ok (.goto (-44), 3) := by decide +kernel
theorem d_MD_strip_98 : decode b_MD_strip 98 = .ok (.aload_n 0, 1) := by decide +kernel
theorem d_MD_strip_99 : decode b_MD_strip 99 = .ok (.iconst 0, 1) := by decide +kernel
theorem d_MD_strip_100 : decode b_MD_strip 100 = .ok (.putfield 55, 3) := by decide +kernel
theorem d_MD_strip_103 : decode b_MD_strip 103 = .ok (.aload_n 0, 1) := by decide +kernel
theorem d_MD_strip_104 : decode b_MD_strip 104 = .ok (.iload_n 1, 1) := by decide +kernel
theorem d_MD_strip_105 : decode b_MD_strip 105 = .ok (.iload_n 2, 1) := by decide +kernel
theorem d_MD_strip_106 : decode b_MD_strip 106 = .ok (.iload_n 3, 1) := by decide +kernel
theorem d_MD_strip_107 : decode b_MD_strip 107 = .ok (.invokevirtual 74, 3) := by decide +kernel
theorem d_MD_strip_110 : decode b_MD_strip 110 = .ok (.aload_n 0, 1) := by decide +kernel
theorem d_MD_strip_111 : decode b_MD_strip 111 = .ok (.invokevirtual 78, 3) := by decide +kernel
theorem d_MD_strip_114 : decode b_MD_strip 114 = .ok (.ireturn, 1) := by decide +kernel
theorem d_MD_at_0 : decode b_MD_at 0 = .ok (.aload_n 0, 1) := by decide +kernel
theorem d_MD_at_1 : decode b_MD_at 1 = .ok (.aload_n 0, 1) := by decide +kernel
theorem d_MD_at_2 : decode b_MD_at 2 = .ok (.iload_n 1, 1) := by decide +kernel
theorem d_MD_at_3 : decode b_MD_at 3 = .ok (.invokevirtual 71, 3) := by decide +kernel
theorem d_MD_at_6 : decode b_MD_at 6 = .ok (.ifCond .ne 7, 3) := by decide +kernel
theorem d_MD_at_9 : decode b_MD_at 9 = .ok (.iconst 1, 1) := by decide +kernel
theorem d_MD_at_10 : decode b_MD_at 10 = .ok (.goto 23, 3) := by decide +kernel
theorem d_MD_at_13 : decode b_MD_at 13 = .ok (.iload_n 2, 1) := by decide +kernel
theorem d_MD_at_14 : decode b_MD_at 14 = .ok (.iconst (-1), 1) := by decide +kernel
theorem d_MD_at_15 : decode b_MD_at 15 = .ok (.if_icmp .lt 13, 3) := by decide +kernel
theorem d_MD_at_18 : decode b_MD_at 18 = .ok (.iload_n 2, 1) := by decide +kernel
theorem d_MD_at_19 : decode b_MD_at 19 = .ok (.aload_n 0, 1) := by decide +kernel
theorem d_MD_at_20 : decode b_MD_at 20 = .ok (.getfield 7, 3) := by decide +kernel
theorem d_MD_at_23 : decode b_MD_at 23 = .ok (.iload_n 1, 1) := by decide +kernel
theorem d_MD_at_24 : decode b_MD_at 24 = .ok (.iaload, 1) := by decide +kernel
theorem d_MD_at_25 : decode b_MD_at 25 = .ok (.if_icmp .lt 7, 3) := by decide +kernel
theorem d_MD_at_28 : decode b_MD_at 28 = .ok (.iconst 2, 1) := by decide +kernel
theorem d_MD_at_29 : decode b_MD_at 29 = .ok (.goto 4, 3) := by decide +kernel
theorem d_MD_at_32 : decode b_MD_at 32 = .ok (.iconst 0, 1) := by decide +kernel
theorem d_MD_at_33 : decode b_MD_at 33 = .ok (.putfield 31, 3) := by decide +kernel
theorem d_MD_at_36 : decode b_MD_at 36 = .ok (.aload_n 0, 1) := by decide +kernel
theorem d_MD_at_37 : decode b_MD_at 37 = .ok (.getfield 31, 3) := by decide +kernel
theorem d_MD_at_40 : decode b_MD_at 40 = .ok (.ifCond .le 5, 3) := by decide +kernel
theorem d_MD_at_43 : decode b_MD_at 43 = .ok (.iconst 0, 1) := by decide +kernel
theorem d_MD_at_44 : decode b_MD_at 44 = .ok (.ireturn, 1) := by decide +kernel
theorem d_MD_at_45 : decode b_MD_at 45 = .ok (.iload_n 2, 1) := by decide +kernel
theorem d_MD_at_46 : decode b_MD_at 46 = .ok (.ifCond .ge 12, 3) := by decide +kernel
theorem d_MD_at_49 : decode b_MD_at 49 = .ok (.aload_n 0, 1) := by decide +kernel
theorem d_MD_at_50 : decode b_MD_at 50 = .ok (.getfield 7, 3) := by decide +kernel
theorem d_MD_at_53 : decode b_MD_at 53 = .ok (.iload_n 1, 1) := by decide +kernel
theorem d_MD_at_54 : decode b_MD_at 54 = .ok (.iaload, 1) := by decide +kernel
theorem d_MD_at_55 : decode b_MD_at 55 = .ok (.goto 9, 3) := by decide +kernel
theorem d_MD_at_58 : decode b_MD_at 58 = .ok (.aload_n 0, 1) := by decide +kernel
theorem d_MD_at_59 : decode b_MD_at 59 = .ok (.iload_n 1, 1) := by decide +kernel
theorem d_MD_at_60 : decode b_MD_at 60 = .ok (.iload_n 2, 1) := by decide +kernel
theorem d_MD_at_61 : decode b_MD_at 61 = .ok (.invokevirtual 39, 3) := by decide +kernel
theorem d_MD_at_64 : decode b_MD_at 64 = .ok (.ireturn, 1) := by decide +kernel
theorem d_MD_character_0 : decode b_MD_character 0 = .ok (.aload_n 0, 1) := by decide +kernel
theorem d_MD_character_1 : decode b_MD_character 1 = .ok (.aload_n 0, 1) := by decide +kernel
theorem d_MD_character_2 : decode b_MD_character 2 = .ok (.iload_n 1, 1) := by decide +kernel
theorem d_MD_character_3 : decode b_MD_character 3 = .ok (.invokevirtual 71, 3) := by decide +kernel
theorem d_MD_character_6 : decode b_MD_character 6 = .ok (.ifCond .ne 7, 3) := by decide +kernel
theorem d_MD_character_9 : decode b_MD_character 9 = .ok (.iconst 1, 1) := by decide +kernel
theorem d_MD_character_10 : decode b_MD_character 10 = .ok (.goto 4, 3) := by decide +kernel
theorem d_MD_character_13 : decode b_MD_character 13 = .ok (.iconst 0, 1) := by decide +kernel
theorem d_MD_character_14 : decode b_MD_character 14 = .ok (.putfield 31, 3) := by decide +kernel
theorem d_MD_character_17 : decode b_MD_character 17 = .ok (.aload_n 0, 1) := by decide +kernel
theorem d_MD_character_18 : decode b_MD_character 18 = .ok (.getfield 31, 3) := by decide +kernel
theorem d_MD_character_21 : decode b_MD_character 21 = .ok (.ifCond .le 5, 3) := by decide +kernel
theorem d_MD_character_24 : decode b_MD_character 24 = .ok (.iconst 0, 1) := by decide +kernel
theorem d_MD_character_25 : decode b_MD_character 25 = .ok (.ireturn, 1) := by decide +kernel
theorem d_MD_character_26 : decode b_MD_character 26 = .ok (.iconst 0, 1) := by decide +kernel
theorem d_MD_character_27 : decode b_MD_character 27 = .ok (.istore_n 3, 1) := by decide +kernel
theorem d_MD_character_28 : decode b_MD_character 28 = .ok (.iconst (-1), 1) := by decide +kernel
theorem d_MD_character_29 : decode b_MD_character 29 = .ok (.istore 4, 2) := by decide +kernel
theorem d_MD_character_31 : decode b_MD_character 31 = .ok (.iconst 0, 1) := by decide +kernel
theorem d_MD_character_32 : decode b_MD_character 32 = .ok (.istore 5, 2) := by decide +kernel
theorem d_MD_character_34 : decode b_MD_character 34 = .ok (.iload 5, 2) := by decide +kernel
theorem d_MD_character_36 : decode b_MD_character 36 = .ok (.aload_n 0, 1) := by decide +kernel
theorem d_MD_character_37 : decode b_MD_character 37 = .ok (.getfield 7, 3) := by decide +kernel
theorem d_MD_character_40 : decode b_MD_character 40 = .ok (.iload_n 1, 1) := by decide +kernel
theorem d_MD_character_41 : decode b_MD_character 41 = .ok (.iaload, 1) := by decide +kernel
theorem d_MD_character_42 : decode b_MD_character 42 = .ok (.if_icmp .ge 60, 3) := by decide +kernel
theorem d_MD_character_45 : decode b_MD_character 45 = .ok (.iload 5, 2) := by decide +kernel
theorem d_MD_character_47 : decode b_MD_character 47 = .ok (.ifCond .eq 15, 3) := by decide +kernel
theorem d_MD_character_50 : decode b_MD_character 50 = .ok (.aload_n 0, 1) := by decide +kernel
theorem d_MD_character_51 : decode b_MD_character 51 = .ok (.iload_n 1, 1) := by decide +kernel
theorem d_MD_character_52 : decode b_MD_character 52 = .ok (.iload 5, 2) := by decide +kernel
theorem d_MD_character_54 : decode b_MD_character 54 = .ok (.iconst 1, 1) := by decide +kernel
theorem d_MD_character_55 : decode b_MD_character 55 = .ok (.isub, 1) := by decide +kernel
theorem d_MD_character_56 : decode b_MD_character 56 = .ok (.invokevirtual 50, 3) := by decide +kernel
theorem d_MD_character_59 : decode b_MD_character 59 = .ok (.ifCond .ne 7, 3) := by decide +kernel
theorem d_MD_character_62 : decode b_MD_character 62 = .ok (.iconst 1, 1) := by decide +kernel
theorem d_MD_character_63 : decode b_MD_character 63 = .ok (.goto 4, 3) := by decide +kernel
theorem d_MD_character_66 : decode b_MD_character 66 = .ok (.iconst 0, 1) := by decide +kernel
theorem d_MD_character_67 : decode b_MD_character 67 = .ok (.istore 6, 2) := by decide +kernel
theorem d_MD_character_69 : decode b_MD_character 69 = .ok (.iload 6, 2) := by decide +kernel
theorem d_MD_character_71 : decode b_MD_character 71 = .ok (.ifCond .eq 12, 3) := by decide +kernel
theorem d_MD_character_74 : decode b_MD_character 74 = .ok (.iload_n 3, 1) := by decide +kernel
theorem d_MD_character_75 : decode b_MD_character 75 = .ok (.iload_n 2, 1) := by decide +kernel
theorem d_MD_character_76 : decode b_MD_character 76 = .ok (.if_icmp .ne 7, 3) := by decide +kernel
theorem d_MD_character_79 : decode b_MD_character 79 = .ok (.iload 5, 2) := by decide +kernel
theorem d_MD_character_81 : decode b_MD_character 81 = .ok (.istore 4, 2) := by decide +kernel
theorem d_MD_character_83 : decode b_MD_character 83 = .ok (.iload 6, 2) := by decide +kernel
theorem d_MD_character_85 : decode b_MD_character 85 = .ok (.ifCond .eq 9, 3) := by decide +kernel
theorem d_MD_character_88 : decode b_MD_character 88 = .ok (.iload_n 3, 1) := by decide +kernel
theorem d_MD_character_89 : decode b_MD_character 89 = .ok (.iconst 1, 1) := by decide +kernel
theorem d_MD_character_90 : decode b_MD_character 90 = .ok (.iadd, 1) := by decide +kernel
theorem d_MD_character_91 : decode b_MD_character 91 = .ok (.goto 4, 3) := by decide +kernel
theorem d_MD_character_94 : decode b_MD_character 94 = .ok (.iload_n 3, 1) := by decide +kernel
theorem d_MD_character_95 : decode b_MD_character 95 = .ok (.istore_n 3, 1) := by decide +kernel
theorem d_MD_character_96 : decode b_MD_character 96 = .ok (.iinc 5 1, 3) := by decide +kernel
theorem d_MD_character_99 : decode b_MD_character 99 = .ok (.goto (-65), 3) := by decide +kernel
theorem d_MD_character_102 : decode b_MD_character 102 = .ok (.iload_n 2, 1) := by decide +kernel
theorem d_MD_character_103 : decode b_MD_character 103 = .ok (.iconst (-1), 1) := by decide +kernel
theorem d_MD_character_104 : decode b_MD_character 104 = .ok (.if_icmp .ne 5, 3) := by decide +kernel
theorem d_MD_character_107 : decode b_MD_character 107 = .ok (.iload_n 3, 1) := by decide +kernel
theorem d_MD_character_108 : decode b_MD_character 108 = .ok (.ireturn, 1) := by decide +kernel
theorem d_MD_character_109 : decode b_MD_character 109 = .ok (.iload 4, 2) := by decide +kernel
theorem d_MD_character_111 : decode b_MD_character 111 = .ok (.ifCond .ge 9, 3) := by decide +kernel
theorem d_MD_character_114 : decode b_MD_character 114 = .ok (.aload_n 0, 1) := by decide +kernel
theorem d_MD_character_115 : decode b_MD_character 115 = .ok (.iconst 2, 1) := by decide +kernel
theorem d_MD_character_116 : decode b_MD_character 116 = .ok (.invokevirtual 86, 3) := by decide +kernel
theorem d_MD_character_119 : decode b_MD_character 119 = .ok (.ireturn, 1) := by decide +kernel
theorem d_MD_character_120 : decode b_MD_character 120 = .ok (.aload_n 0, 1) := by decide +kernel
theorem d_MD_character_121 : decode b_MD_character 121 = .ok (.iload_n 1, 1) := by decide +kernel
theorem d_MD_character_122 : decode b_MD_character 122 = .ok (.iload 4, 2) := by decide +kernel
theorem d_MD_character_124 : decode b_MD_character 124 = .ok (.invokevirtual 90, 3) := by decide +kernel
theorem d_MD_character_127 : decode b_MD_character 127 = .ok (.ireturn, 1) := by decide +kernel
theorem d_MD_pair_0 : decode b_MD_pair 0 = .ok (.iload_n 2, 1) := by decide +kernel
theorem d_MD_pair_1 : decode b_MD_pair 1 = .ok (.iconst 1, 1) := by decide +kernel
theorem d_MD_pair_2 : decode b_MD_pair 2 = .ok (.iadd, 1) := by decide +kernel
theorem d_MD_pair_3 : decode b_MD_pair 3 = .ok (.aload_n 0, 1) := by decide +kernel
theorem d_MD_pair_4 : decode b_MD_pair 4 = .ok (.getfield 7, 3) := by decide +kernel
theorem d_MD_pair_7 : decode b_MD_pair 7 = .ok (.iload_n 1, 1) := by decide +kernel
theorem d_MD_pair_8 : decode b_MD_pair 8 = .ok (.iaload, 1) := by decide +kernel
theorem d_MD_pair_9 : decode b_MD_pair 9 = .ok (.if_icmp .ge 33, 3) := by decide +kernel
theorem d_MD_pair_12 : decode b_MD_pair 12 = .ok (.aload_n 0, 1) := by decide +kernel
theorem d_MD_pair_13 : decode b_MD_pair 13 = .ok (.iload_n 1, 1) := by decide +kernel
theorem d_MD_pair_14 : decode b_MD_pair 14 = .ok (.iload_n 2, 1) := by decide +kernel
theorem d_MD_pair_15 : decode b_MD_pair 15 = .ok (.invokevirtual 39, 3) := by decide +kernel
theorem d_MD_pair_18 : decode b_MD_pair 18 = .ok (.invokestatic 43, 3) := by decide +kernel
theorem d_MD_pair_21 : decode b_MD_pair 21 = .ok (.ifCond .eq 21, 3) := by decide +kernel
theorem d_MD_pair_24 : decode b_MD_pair 24 = .ok (.aload_n 0, 1) := by decide +kernel
theorem d_MD_pair_25 : decode b_MD_pair 25 = .ok (.iload_n 1, 1) := by decide +kernel
theorem d_MD_pair_26 : decode b_MD_pair 26 = .ok (.iload_n 2, 1) := by decide +kernel
theorem d_MD_pair_27 : decode b_MD_pair 27 = .ok (.iconst 1, 1) := by decide +kernel
theorem d_MD_pair_28 : decode b_MD_pair 28 = .ok (.iadd, 1) := by decide +kernel
theorem d_MD_pair_29 : decode b_MD_pair 29 = .ok (.invokevirtual 39, 3) := by decide +kernel
theorem d_MD_pair_32 : decode b_MD_pair 32 = .ok (.invokestatic 47, 3) := by decide +kernel
theorem d_MD_pair_35 : decode b_MD_pair 35 = .ok (.ifCond .eq 7, 3) := by decide +kernel
theorem d_MD_pair_38 : decode b_MD_pair 38 = .ok (.iconst 1, 1) := by decide +kernel
theorem d_MD_pair_39 : decode b_MD_pair 39 = .ok (.goto 4, 3) := by decide +kernel
theorem d_MD_pair_42 : decode b_MD_pair 42 = .ok (.iconst 0, 1) := by decide +kernel
theorem d_MD_pair_43 : decode b_MD_pair 43 = .ok (.ireturn, 1) := by decide +kernel
theorem d_MD_characterAt_0 : decode b_MD_characterAt 0 = .ok (.aload_n 0, 1) := by decide +kernel
theorem d_MD_characterAt_1 : decode b_MD_characterAt 1 = .ok (.iload_n 1, 1) := by decide +kernel
theorem d_MD_characterAt_2 : decode b_MD_characterAt 2 = .ok (.iload_n 2, 1) := by decide +kernel
theorem d_MD_characterAt_3 : decode b_MD_characterAt 3 = .ok (.invokevirtual 39, 3) := by decide +kernel
theorem d_MD_characterAt_6 : decode b_MD_characterAt 6 = .ok (.istore_n 3, 1) := by decide +kernel
theorem d_MD_characterAt_7 : decode b_MD_characterAt 7 = .ok (.aload_n 0, 1) := by decide +kernel
theorem d_MD_characterAt_8 : decode b_MD_characterAt 8 = .ok (.iload_n 1, 1) := by decide +kernel
theorem d_MD_characterAt_9 : decode b_MD_characterAt 9 = .ok (.iload_n 2, 1) := by decide +kernel
theorem d_MD_characterAt_10 : decode b_MD_characterAt 10 = .ok (.invokevirtual 50, 3) := by decide +kernel
theorem d_MD_characterAt_13 : decode b_MD_characterAt 13 = .ok (.ifCond .eq 29, 3) := by decide +kernel
theorem d_MD_characterAt_16 : decode b_MD_characterAt 16 = .ok (.ldc 54, 2) := by decide +kernel
theorem d_MD_characterAt_18 : decode b_MD_characterAt 18 = .ok (.iload_n 3, 1) := by decide +kernel
theorem d_MD_characterAt_19 : decode b_MD_characterAt 19 = .ok (.ldc 35, 2) := by decide +kernel
theorem d_MD_characterAt_21 : decode b_MD_characterAt 21 = .ok (.isub, 1) := by decide +kernel
theorem d_MD_characterAt_22 : decode b_MD_characterAt 22 = .ok (.sipush 1024, 3) := by decide +kernel
theorem d_MD_characterAt_25 : decode b_MD_characterAt 25 = .ok (.imul, 1) := by decide +kernel
theorem d_MD_characterAt_26 : decode b_MD_characterAt 26 = .ok (.iadd, 1) := by decide +kernel
theorem d_MD_characterAt_27 : decode b_MD_characterAt 27 = .ok (.aload_n 0, 1) := by decide +kernel
theorem d_MD_characterAt_28 : decode b_MD_characterAt 28 = .ok (.iload_n 1, 1) := by decide +kernel
theorem d_MD_characterAt_29 : decode b_MD_characterAt 29 = .ok (.iload_n 2, 1) := by decide +kernel
theorem d_MD_characterAt_30 : decode b_MD_characterAt 30 = .ok (.iconst 1, 1) := by decide +kernel
theorem d_MD_characterAt_31 : decode b_MD_characterAt 31 = .ok (.iadd, 1) := by decide +kernel
theorem d_MD_characterAt_32 : decode b_MD_characterAt 32 = .ok (.invokevirtual 39, 3) := by decide +kernel
theorem d_MD_characterAt_35 : decode b_MD_characterAt 35 = .ok (.iadd, 1) := by decide +kernel
theorem d_MD_characterAt_36 : decode b_MD_characterAt 36 = .ok (.ldc 37, 2) := by decide +kernel
theorem d_MD_characterAt_38 : decode b_MD_characterAt 38 = .ok (.isub, 1) := by decide +kernel
theorem d_MD_characterAt_39 : decode b_MD_characterAt 39 = .ok (.goto 4, 3) := by decide +kernel
theorem d_MD_characterAt_42 : decode b_MD_characterAt 42 = .ok (.iload_n 3, 1) := by decide +kernel
theorem d_MD_characterAt_43 : decode b_MD_characterAt 43 = .ok (.ireturn, 1) := by decide +kernel
theorem d_MD_narrow_0 : decode b_MD_narrow 0 = .ok (.aload_n 0, 1) := by decide +kernel
theorem d_MD_narrow_1 : decode b_MD_narrow 1 = .ok (.aload_n 0, 1) := by decide +kernel
theorem d_MD_narrow_2 : decode b_MD_narrow 2 = .ok (.iload_n 1, 1) := by decide +kernel
theorem d_MD_narrow_3 : decode b_MD_narrow 3 = .ok (.invokevirtual 71, 3) := by decide +kernel
theorem d_MD_narrow_6 : decode b_MD_narrow 6 = .ok (.ifCond .eq 7, 3) := by decide +kernel
theorem d_MD_narrow_9 : decode b_MD_narrow 9 = .ok (.iconst 0, 1) := by decide +kernel
theorem d_MD_narrow_10 : decode b_MD_narrow 10 = .ok (.goto 4, 3) := by decide +kernel
theorem d_MD_narrow_13 : decode b_MD_narrow 13 = .ok (.iconst 1, 1) := by decide +kernel
theorem d_MD_narrow_14 : decode b_MD_narrow 14 = .ok (.putfield 31, 3) := by decide +kernel
theorem d_MD_narrow_17 : decode b_MD_narrow 17 = .ok (.aload_n 0, 1) := by decide +kernel
theorem d_MD_narrow_18 : decode b_MD_narrow 18 = .ok (.getfield 31, 3) := by decide +kernel
theorem d_MD_narrow_21 : decode b_MD_narrow 21 = .ok (.ifCond .le 5, 3) := by decide +kernel
theorem d_MD_narrow_24 : decode b_MD_narrow 24 = .ok (.iconst 0, 1) := by decide +kernel
theorem d_MD_narrow_25 : decode b_MD_narrow 25 = .ok (.ireturn, 1) := by decide +kernel
theorem d_MD_narrow_26 : decode b_MD_narrow 26 = .ok (.iconst 0, 1) := by decide +kernel
theorem d_MD_narrow_27 : decode b_MD_narrow 27 = .ok (.istore_n 2, 1) := by decide +kernel
theorem d_MD_narrow_28 : decode b_MD_narrow 28 = .ok (.iconst 0, 1) := by decide +kernel
theorem d_MD_narrow_29 : decode b_MD_narrow 29 = .ok (.istore_n 3, 1) := by decide +kernel
theorem d_MD_narrow_30 : decode b_MD_narrow 30 = .ok (.iload_n 3, 1) := by decide +kernel
theorem d_MD_narrow_31 : decode b_MD_narrow 31 = .ok (.aload_n 0, 1) := by decide +kernel
theorem d_MD_narrow_32 : decode b_MD_narrow 32 = .ok (.getfield 7, 3) := by decide +kernel
theorem d_MD_narrow_35 : decode b_MD_narrow 35 = .ok (.iload_n 1, 1) := by decide +kernel
theorem d_MD_narrow_36 : decode b_MD_narrow 36 = .ok (.iaload, 1) := by decide +kernel
theorem d_MD_narrow_37 : decode b_MD_narrow 37 = .ok (.if_icmp .ge 30, 3) := by decide +kernel
theorem d_MD_narrow_40 : decode b_MD_narrow 40 = .ok (.aload_n 0, 1) := by decide +kernel
theorem d_MD_narrow_41 : decode b_MD_narrow 41 = .ok (.iload_n 1, 1) := by decide +kernel
theorem d_MD_narrow_42 : decode b_MD_narrow 42 = .ok (.iload_n 3, 1) := by decide +kernel
theorem d_MD_narrow_43 : decode b_MD_narrow 43 = .ok (.invokevirtual 39, 3) := by decide +kernel
theorem d_MD_narrow_46 : decode b_MD_narrow 46 = .ok (.iload_n 2, 1) := by decide +kernel
theorem d_MD_narrow_47 : decode b_MD_narrow 47 = .ok (.if_icmp .le 12, 3) := by decide +kernel
theorem d_MD_narrow_50 : decode b_MD_narrow 50 = .ok (.aload_n 0, 1) := by decide +kernel
theorem d_MD_narrow_51 : decode b_MD_narrow 51 = .ok (.iload_n 1, 1) := by decide +kernel
theorem d_MD_narrow_52 : decode b_MD_narrow 52 = .ok (.iload_n 3, 1) := by decide +kernel
theorem d_MD_narrow_53 : decode b_MD_narrow 53 = .ok (.invokevirtual 39, 3) := by decide +kernel
theorem d_MD_narrow_56 : decode b_MD_narrow 56 = .ok (.goto 4, 3) := by decide +kernel
theorem d_MD_narrow_59 : decode b_MD_narrow 59 = .ok (.iload_n 2, 1) := by decide +kernel
theorem d_MD_narrow_60 : decode b_MD_narrow 60 = .ok (.istore_n 2, 1) := by decide +kernel
theorem d_MD_narrow_61 : decode b_MD_narrow 61 = .ok (.iinc 3 1, 3) := by decide +kernel
theorem d_MD_narrow_64 : decode b_MD_narrow 64 = .ok (.goto (-34), 3) := by decide +kernel
theorem d_MD_narrow_67 : decode b_MD_narrow 67 = .ok (.iload_n 2, 1) := by decide +kernel
theorem d_MD_narrow_68 : decode b_MD_narrow 68 = .ok (.sipush 256, 3) := by decide +kernel
theorem d_MD_narrow_71 : decode b_MD_narrow 71 = .ok (.if_icmp .ge 7, 3) := by decide +kernel
theorem d_MD_narrow_74 : decode b_MD_narrow 74 = .ok (.iconst 1, 1) := by decide +kernel
theorem d_MD_narrow_75 : decode b_MD_narrow 75 = .ok (.goto 4, 3) := by decide +kernel
theorem d_MD_narrow_78 : decode b_MD_narrow 78 = .ok (.iconst 0, 1) := by decide +kernel
theorem d_MD_narrow_79 : decode b_MD_narrow 79 = .ok (.ireturn, 1) := by decide +kernel
theorem d_MD_hash_0 : decode b_MD_hash 0 = .ok (.aload_n 0, 1) := by decide +kernel
theorem d_MD_hash_1 : decode b_MD_hash 1 = .ok (.aload_n 0, 1) := by decide +kernel
theorem d_MD_hash_2 : decode b_MD_hash 2 = .ok (.iload_n 1, 1) := by decide +kernel
theorem d_MD_hash_3 : decode b_MD_hash 3 = .ok (.invokevirtual 71, 3) := by decide +kernel
theorem d_MD_hash_6 : decode b_MD_hash 6 = .ok (.ifCond .eq 7, 3) := by decide +kernel
theorem d_MD_hash_9 : decode b_MD_hash 9 = .ok (.iconst 0, 1) := by decide +kernel
theorem d_MD_hash_10 : decode b_MD_hash 10 = .ok (.goto 4, 3) := by decide +kernel
theorem d_MD_hash_13 : decode b_MD_hash 13 = .ok (.iconst 1, 1) := by decide +kernel
theorem d_MD_hash_14 : decode b_MD_hash 14 = .ok (.putfield 31, 3) := by decide +kernel
theorem d_MD_hash_17 : decode b_MD_hash 17 = .ok (.iconst 0, 1) := by decide +kernel
theorem d_MD_hash_18 : decode b_MD_hash 18 = .ok (.istore_n 2, 1) := by decide +kernel
theorem d_MD_hash_19 : decode b_MD_hash 19 = .ok (.iconst 1, 1) := by decide +kernel
theorem d_MD_hash_20 : decode b_MD_hash 20 = .ok (.istore_n 3, 1) := by decide +kernel
theorem d_MD_hash_21 : decode b_MD_hash 21 = .ok (.aload_n 0, 1) := by decide +kernel
theorem d_MD_hash_22 : decode b_MD_hash 22 = .ok (.getfield 31, 3) := by decide +kernel
theorem d_MD_hash_25 : decode b_MD_hash 25 = .ok (.ifCond .le 7, 3) := by decide +kernel
theorem d_MD_hash_28 : decode b_MD_hash 28 = .ok (.iconst (-1), 1) := by decide +kernel
theorem d_MD_hash_29 : decode b_MD_hash 29 = .ok (.goto 11, 3) := by decide +kernel
theorem d_MD_hash_32 : decode b_MD_hash 32 = .ok (.aload_n 0, 1) := by decide +kernel
theorem d_MD_hash_33 : decode b_MD_hash 33 = .ok (.getfield 7, 3) := by decide +kernel
theorem d_MD_hash_36 : decode b_MD_hash 36 = .ok (.iload_n 1, 1) := by decide +kernel
theorem d_MD_hash_37 : decode b_MD_hash 37 = .ok (.iaload, 1) := by decide +kernel
theorem d_MD_hash_38 : decode b_MD_hash 38 = .ok (.iconst 1, 1) := by decide +kernel
theorem d_MD_hash_39 : decode b_MD_hash 39 = .ok (.isub, 1) := by decide +kernel
theorem d_MD_hash_40 : decode b_MD_hash 40 = .ok (.istore 4, 2) := by decide +kernel
theorem d_MD_hash_42 : decode b_MD_hash 42 = .ok (.iload 4, 2) := by decide +kernel
theorem d_MD_hash_44 : decode b_MD_hash 44 = .ok (.ifCond .lt 26, 3) := by decide +kernel
theorem d_MD_hash_47 : decode b_MD_hash 47 = .ok (.iload_n 2, 1) := by decide +kernel
theorem d_MD_hash_48 : decode b_MD_hash 48 = .ok (.iload_n 3, 1) := by decide +kernel
theorem d_MD_hash_49 : decode b_MD_hash 49 = .ok (.aload_n 0, 1) := by decide +kernel
theorem d_MD_hash_50 : decode b_MD_hash 50 = .ok (.iload_n 1, 1) := by decide +kernel
theorem d_MD_hash_51 : decode b_MD_hash 51 = .ok (.iload 4, 2) := by decide +kernel
theorem d_MD_hash_53 : decode b_MD_hash 53 = .ok (.invokevirtual 39, 3) := by decide +kernel
theorem d_MD_hash_56 : decode b_MD_hash 56 = .ok (.imul, 1) := by decide +kernel
theorem d_MD_hash_57 : decode b_MD_hash 57 = .ok (.iadd, 1) := by decide +kernel
theorem d_MD_hash_58 : decode b_MD_hash 58 = .ok (.istore_n 2, 1) := by decide +kernel
theorem d_MD_hash_59 : decode b_MD_hash 59 = .ok (.bipush 31, 2) := by decide +kernel
theorem d_MD_hash_61 : decode b_MD_hash 61 = .ok (.iload_n 3, 1) := by decide +kernel
theorem d_MD_hash_62 : decode b_MD_hash 62 = .ok (.imul, 1) := by decide +kernel
theorem d_MD_hash_63 : decode b_MD_hash 63 = .ok (.istore_n 3, 1) := by decide +kernel
theorem d_MD_hash_64 : decode b_MD_hash 64 = .ok (.iinc 4 (-1), 3) := by decide +kernel
theorem d_MD_hash_67 : decode b_MD_hash 67 = .ok (.goto (-25), 3) := by decide +kernel
theorem d_MD_hash_70 : decode b_MD_hash 70 = .ok (.iload_n 2, 1) := by decide +kernel
theorem d_MD_hash_71 : decode b_MD_hash 71 = .ok (.ireturn, 1) := by decide +kernel
theorem d_MD_compare_0 : decode b_MD_compare 0 = .ok (.aload_n 0, 1) := by decide +kernel
theorem d_MD_compare_1 : decode b_MD_compare 1 = .ok (.aload_n 0, 1) := by decide +kernel
theorem d_MD_compare_2 : decode b_MD_compare 2 = .ok (.iload_n 1, 1) := by decide +kernel
theorem d_MD_compare_3 : decode b_MD_compare 3 = .ok (.invokevirtual 71, 3) := by decide +kernel
theorem d_MD_compare_6 : decode b_MD_compare 6 = .ok (.ifCond .eq 15, 3) := by decide +kernel
theorem d_MD_compare_9 : decode b_MD_compare 9 = .ok (.aload_n 0, 1) := by decide +kernel
theorem d_MD_compare_10 : decode b_MD_compare 10 = .ok (.iload_n 2, 1) := by decide +kernel
theorem d_MD_compare_11 : decode b_MD_compare 11 = .ok (.invokevirtual 71, 3) := by decide +kernel
theorem d_MD_compare_14 : decode b_MD_compare 14 = .ok (.ifCond .eq 7, 3) := by decide +kernel
theorem d_MD_compare_17 : decode b_MD_compare 17 = .ok (.iconst 0, 1) := by decide +kernel
theorem d_MD_compare_18 : decode b_MD_compare 18 = .ok (.goto 4, 3) := by decide +kernel
theorem d_MD_compare_21 : decode b_MD_compare 21 = .ok (.iconst 1, 1) := by decide +kernel
theorem d_MD_compare_22 : decode b_MD_compare 22 = .ok (.putfield 31, 3) := by decide +kernel
theorem d_MD_compare_25 : decode b_MD_compare 25 = .ok (.aload_n 0, 1) := by decide +kernel
theorem d_MD_compare_26 : decode b_MD_compare 26 = .ok (.getfield 31, 3) := by decide +kernel
theorem d_MD_compare_29 : decode b_MD_compare 29 = .ok (.ifCond .le 7, 3) := by decide +kernel
theorem d_MD_compare_32 : decode b_MD_compare 32 = .ok (.iconst 0, 1) := by decide +kernel
theorem d_MD_compare_33 : decode b_MD_compare 33 = .ok (.goto 9, 3) := by decide +kernel
theorem d_MD_compare_36 : decode b_MD_compare 36 = .ok (.aload_n 0, 1) := by decide +kernel
theorem d_MD_compare_37 : decode b_MD_compare 37 = .ok (.iload_n 1, 1) := by decide +kernel
theorem d_MD_compare_38 : decode b_MD_compare 38 = .ok (.iload_n 2, 1) := by decide +kernel
theorem d_MD_compare_39 : decode b_MD_compare 39 = .ok (.invokevirtual 93, 3) := by decide +kernel
theorem d_MD_compare_42 : decode b_MD_compare 42 = .ok (.ireturn, 1) := by decide +kernel
theorem d_MD_difference_0 : decode b_MD_difference 0 = .ok (.iconst 0, 1) := by decide +kernel
theorem d_MD_difference_1 : decode b_MD_difference 1 = .ok (.istore_n 3, 1) := by decide +kernel
theorem d_MD_difference_2 : decode b_MD_difference 2 = .ok (.iload_n 3, 1) := by decide +kernel
theorem d_MD_difference_3 : decode b_MD_difference 3 = .ok (.aload_n 0, 1) := by decide +kernel
theorem d_MD_difference_4 : decode b_MD_difference 4 = .ok (.getfield 7, 3) := by decide +kernel
theorem d_MD_difference_7 : decode b_MD_difference 7 = .ok (.iload_n 1, 1) := by decide +kernel
theorem d_MD_difference_8 : decode b_MD_difference 8 = .ok (.iaload, 1) := by decide +kernel
theorem d_MD_difference_9 : decode b_MD_difference 9 = .ok (.if_icmp .ge 48, 3) := by decide +kernel
theorem d_MD_difference_12 : decode b_MD_difference 12 = .ok (.iload_n 3, 1) := by decide +kernel
theorem d_MD_difference_13 : decode b_MD_difference 13 = .ok (.aload_n 0, 1) := by decide +kernel
theorem d_MD_difference_14 : decode b_MD_difference 14 = .ok (.getfield 7, 3) := by decide +kernel
theorem d_MD_difference_17 : decode b_MD_difference 17 = .ok (.iload_n 2, 1) := by decide +kernel
theorem d_MD_difference_18 : decode b_MD_difference 18 = .ok (.iaload, 1) := by decide +kernel
theorem d_MD_difference_19 : decode b_MD_difference 19 = .ok (.if_icmp .ge 38, 3) := by decide +kernel
theorem d_MD_difference_22 : decode b_MD_difference 22 = .ok (.aload_n 0, 1) := by decide +kernel
theorem d_MD_difference_23 : decode b_MD_difference 23 = .ok (.iload_n 1, 1) := by decide +kernel
theorem d_MD_difference_24 : decode b_MD_difference 24 = .ok (.iload_n 3, 1) := by decide +kernel
theorem d_MD_difference_25 : decode b_MD_difference 25 = .ok (.invokevirtual 39, 3) := by decide +kernel
theorem d_MD_difference_28 : decode b_MD_difference 28 = .ok (.aload_n 0, 1) := by decide +kernel
theorem d_MD_difference_29 : decode b_MD_difference 29 = .ok (.iload_n 2, 1) := by decide +kernel
theorem d_MD_difference_30 : decode b_MD_difference 30 = .ok (.iload_n 3, 1) := by decide +kernel
theorem d_MD_difference_31 : decode b_MD_difference 31 = .ok (.invokevirtual 39, 3) := by decide +kernel
theorem d_MD_difference_34 : decode b_MD_difference 34 = .ok (.if_icmp .eq 17, 3) := by decide +kernel
theorem d_MD_difference_37 : decode b_MD_difference 37 = .ok (.aload_n 0, 1) := by decide +kernel
theorem d_MD_difference_38 : decode b_MD_difference 38 = .ok (.iload_n 1, 1) := by decide +kernel
theorem d_MD_difference_39 : decode b_MD_difference 39 = .ok (.iload_n 3, 1) := by decide +kernel
theorem d_MD_difference_40 : decode b_MD_difference 40 = .ok (.invokevirtual 39, 3) := by decide +kernel
theorem d_MD_difference_43 : decode b_MD_difference 43 = .ok (.aload_n 0, 1) := by decide +kernel
theorem d_MD_difference_44 : decode b_MD_difference 44 = .ok (.iload_n 2, 1) := by decide +kernel
theorem d_MD_difference_45 : decode b_MD_difference 45 = .ok (.iload_n 3, 1) := by decide +kernel
theorem d_MD_difference_46 : decode b_MD_difference 46 = .ok (.invokevirtual 39, 3) := by decide +kernel
theorem d_MD_difference_49 : decode b_MD_difference 49 = .ok (.isub, 1) := by decide +kernel
theorem d_MD_difference_50 : decode b_MD_difference 50 = .ok (.ireturn, 1) := by decide +kernel
theorem d_MD_difference_51 : decode b_MD_difference 51 = .ok (.iinc 3 1, 3) := by decide +kernel
theorem d_MD_difference_54 : decode b_MD_difference 54 = .ok (.goto (-52), 3) := by decide +kernel
theorem d_MD_difference_57 : decode b_MD_difference 57 = .ok (.aload_n 0, 1) := by decide +kernel
theorem d_MD_difference_58 : decode b_MD_difference 58 = .ok (.getfield 7, 3) := by decide +kernel
theorem d_MD_difference_61 : decode b_MD_difference 61 = .ok (.iload_n 1, 1) := by decide +kernel
theorem d_MD_difference_62 : decode b_MD_difference 62 = .ok (.iaload, 1) := by decide +kernel
theorem d_MD_difference_63 : decode b_MD_difference 63 = .ok (.aload_n 0, 1) := by decide +kernel
theorem d_MD_difference_64 : decode b_MD_difference 64 = .ok (.getfield 7, 3) := by decide +kernel
theorem d_MD_difference_67 : decode b_MD_difference 67 = .ok (.iload_n 2, 1) := by decide +kernel
theorem d_MD_difference_68 : decode b_MD_difference 68 = .ok (.iaload, 1) := by decide +kernel
theorem d_MD_difference_69 : decode b_MD_difference 69 = .ok (.isub, 1) := by decide +kernel
theorem d_MD_difference_70 : decode b_MD_difference 70 = .ok (.ireturn, 1) := by decide +kernel
theorem d_MD_find_0 : decode b_MD_find 0 = .ok (.aload_n 0, 1) := by decide +kernel
theorem d_MD_find_1 : decode b_MD_find 1 = .ok (.aload_n 0, 1) := by decide +kernel
theorem d_MD_find_2 : decode b_MD_find 2 = .ok (.iload_n 1, 1) := by decide +kernel
theorem d_MD_find_3 : decode b_MD_find 3 = .ok (.invokevirtual 71, 3) := by decide +kernel
theorem d_MD_find_6 : decode b_MD_find 6 = .ok (.ifCond .eq 15, 3) := by decide +kernel
theorem d_MD_find_9 : decode b_MD_find 9 = .ok (.aload_n 0, 1) := by decide +kernel
theorem d_MD_find_10 : decode b_MD_find 10 = .ok (.iload_n 2, 1) := by decide +kernel
theorem d_MD_find_11 : decode b_MD_find 11 = .ok (.invokevirtual 71, 3) := by decide +kernel
theorem d_MD_find_14 : decode b_MD_find 14 = .ok (.ifCond .eq 7, 3) := by decide +kernel
theorem d_MD_find_17 : decode b_MD_find 17 = .ok (.iconst 0, 1) := by decide +kernel
theorem d_MD_find_18 : decode b_MD_find 18 = .ok (.goto 4, 3) := by decide +kernel
theorem d_MD_find_21 : decode b_MD_find 21 = .ok (.iconst 1, 1) := by decide +kernel
theorem d_MD_find_22 : decode b_MD_find 22 = .ok (.putfield 31, 3) := by decide +kernel
theorem d_MD_find_25 : decode b_MD_find 25 = .ok (.aload_n 0, 1) := by decide +kernel
theorem d_MD_find_26 : decode b_MD_find 26 = .ok (.getfield 31, 3) := by decide +kernel
theorem d_MD_find_29 : decode b_MD_find 29 = .ok (.ifCond .le 5, 3) := by decide +kernel
theorem d_MD_find_32 : decode b_MD_find 32 = .ok (.iconst 0, 1) := by decide +kernel
theorem d_MD_find_33 : decode b_MD_find 33 = .ok (.ireturn, 1) := by decide +kernel
theorem d_MD_find_34 : decode b_MD_find 34 = .ok (.iconst (-1), 1) := by decide +kernel
theorem d_MD_find_35 : decode b_MD_find 35 = .ok (.istore 5, 2) := by decide +kernel
theorem d_MD_find_37 : decode b_MD_find 37 = .ok (.iconst 0, 1) := by decide +kernel
theorem d_MD_find_38 : decode b_MD_find 38 = .ok (.istore 6, 2) := by decide +kernel
theorem d_MD_find_40 : decode b_MD_find 40 = .ok (.iload 6, 2) := by decide +kernel
theorem d_MD_find_42 : decode b_MD_find 42 = .ok (.aload_n 0, 1) := by decide +kernel
theorem d_MD_find_43 : decode b_MD_find 43 = .ok (.getfield 7, 3) := by decide +kernel
theorem d_MD_find_46 : decode b_MD_find 46 = .ok (.iload_n 1, 1) := by decide +kernel
theorem d_MD_find_47 : decode b_MD_find 47 = .ok (.iaload, 1) := by decide +kernel
theorem d_MD_find_48 : decode b_MD_find 48 = .ok (.if_icmp .gt 66, 3) := by decide +kernel
theorem d_MD_find_51 : decode b_MD_find 51 = .ok (.iload 4, 2) := by decide +kernel
theorem d_MD_find_53 : decode b_MD_find 53 = .ok (.ifCond .eq 17, 3) := by decide +kernel
theorem d_MD_find_56 : decode b_MD_find 56 = .ok (.iload 6, 2) := by decide +kernel
theorem d_MD_find_58 : decode b_MD_find 58 = .ok (.iload_n 3, 1) := by decide +kernel
theorem d_MD_find_59 : decode b_MD_find 59 = .ok (.if_icmp .gt 7, 3) := by decide +kernel
theorem d_MD_find_62 : decode b_MD_find 62 = .ok (.iconst 1, 1) := by decide +kernel
theorem d_MD_find_63 : decode b_MD_find 63 = .ok (.goto 23, 3) := by decide +kernel
theorem d_MD_find_66 : decode b_MD_find 66 = .ok (.iconst 0, 1) := by decide +kernel
theorem d_MD_find_67 : decode b_MD_find 67 = .ok (.goto 19, 3) := by decide +kernel
theorem d_MD_find_70 : decode b_MD_find 70 = .ok (.iload 6, 2) := by decide +kernel
theorem d_MD_find_72 : decode b_MD_find 72 = .ok (.iload_n 3, 1) := by decide +kernel
theorem d_MD_find_73 : decode b_MD_find 73 = .ok (.if_icmp .lt 12, 3) := by decide +kernel
theorem d_MD_find_76 : decode b_MD_find 76 = .ok (.iload 5, 2) := by decide +kernel
theorem d_MD_find_78 : decode b_MD_find 78 = .ok (.ifCond .ge 7, 3) := by decide +kernel
theorem d_MD_find_81 : decode b_MD_find 81 = .ok (.iconst 1, 1) := by decide +kernel
theorem d_MD_find_82 : decode b_MD_find 82 = .ok (.goto 4, 3) := by decide +kernel
theorem d_MD_find_85 : decode b_MD_find 85 = .ok (.iconst 0, 1) := by decide +kernel
theorem d_MD_find_86 : decode b_MD_find 86 = .ok (.istore 7, 2) := by decide +kernel
theorem d_MD_find_88 : decode b_MD_find 88 = .ok (.iload 7, 2) := by decide +kernel
theorem d_MD_find_90 : decode b_MD_find 90 = .ok (.ifCond .eq 18, 3) := by decide +kernel
theorem d_MD_find_93 : decode b_MD_find 93 = .ok (.aload_n 0, 1) := by decide +kernel
theorem d_MD_find_94 : decode b_MD_find 94 = .ok (.iload_n 1, 1) := by decide +kernel
theorem d_MD_find_95 : decode b_MD_find 95 = .ok (.iload_n 2, 1) := by decide +kernel
theorem d_MD_find_96 : decode b_MD_find 96 = .ok (.iload 6, 2) := by decide +kernel
theorem d_MD_find_98 : decode b_MD_find 98 = .ok (.invokevirtual 82, 3) := by decide +kernel
theorem d_MD_find_101 : decode b_MD_find 101 = .ok (.ifCond .eq 7, 3) := by decide +kernel
theorem d_MD_find_104 : decode b_MD_find 104 = .ok (.iload 6, 2) := by decide +kernel
theorem d_MD_find_106 : decode b_MD_find 106 = .ok (.istore 5, 2) := by decide +kernel
theorem d_MD_find_108 : decode b_MD_find 108 = .ok (.iinc 6 1, 3) := by decide +kernel
theorem d_MD_find_111 : decode b_MD_find 111 = .ok (.goto (-71), 3) := by decide +kernel
theorem d_MD_find_114 : decode b_MD_find 114 = .ok (.iload 5, 2) := by decide +kernel
theorem d_MD_find_116 : decode b_MD_find 116 = .ok (.ireturn, 1) := by decide +kernel
theorem d_MD_symbol_0 : decode b_MD_symbol 0 = .ok (.aload_n 0, 1) := by decide +kernel
theorem d_MD_symbol_1 : decode b_MD_symbol 1 = .ok (.aload_n 0, 1) := by decide +kernel
theorem d_MD_symbol_2 : decode b_MD_symbol 2 = .ok (.iload_n 1, 1) := by decide +kernel
theorem d_MD_symbol_3 : decode b_MD_symbol 3 = .ok (.invokevirtual 71, 3) := by decide +kernel
theorem d_MD_symbol_6 : decode b_MD_symbol 6 = .ok (.ifCond .eq 7, 3) := by decide +kernel
theorem d_MD_symbol_9 : decode b_MD_symbol 9 = .ok (.iconst 0, 1) := by decide +kernel
theorem d_MD_symbol_10 : decode b_MD_symbol 10 = .ok (.goto 4, 3) := by decide +kernel
theorem d_MD_symbol_13 : decode b_MD_symbol 13 = .ok (.iconst 1, 1) := by decide +kernel
theorem d_MD_symbol_14 : decode b_MD_symbol 14 = .ok (.putfield 31, 3) := by decide +kernel
theorem d_MD_symbol_17 : decode b_MD_symbol 17 = .ok (.aload_n 0, 1) := by decide +kernel
theorem d_MD_symbol_18 : decode b_MD_symbol 18 = .ok (.getfield 31, 3) := by decide +kernel
theorem d_MD_symbol_21 : decode b_MD_symbol 21 = .ok (.ifCond .le 5, 3) := by decide +kernel
theorem d_MD_symbol_24 : decode b_MD_symbol 24 = .ok (.iconst 0, 1) := by decide +kernel
theorem d_MD_symbol_25 : decode b_MD_symbol 25 = .ok (.ireturn, 1) := by decide +kernel
theorem d_MD_symbol_26 : decode b_MD_symbol 26 = .ok (.iconst 0, 1) := by decide +kernel
theorem d_MD_symbol_27 : decode b_MD_symbol 27 = .ok (.istore_n 2, 1) := by decide +kernel
theorem d_MD_symbol_28 : decode b_MD_symbol 28 = .ok (.iload_n 2, 1) := by decide +kernel
theorem d_MD_symbol_29 : decode b_MD_symbol 29 = .ok (.aload_n 0, 1) := by decide +kernel
theorem d_MD_symbol_30 : decode b_MD_symbol 30 = .ok (.getfield 96, 3) := by decide +kernel
theorem d_MD_symbol_33 : decode b_MD_symbol 33 = .ok (.if_icmp .ge 42, 3) := by decide +kernel
theorem d_MD_symbol_36 : decode b_MD_symbol 36 = .ok (.aload_n 0, 1) := by decide +kernel
theorem d_MD_symbol_37 : decode b_MD_symbol 37 = .ok (.getfield 25, 3) := by decide +kernel
theorem d_MD_symbol_40 : decode b_MD_symbol 40 = .ok (.iload_n 2, 1) := by decide +kernel
theorem d_MD_symbol_41 : decode b_MD_symbol 41 = .ok (.iaload, 1) := by decide +kernel
theorem d_MD_symbol_42 : decode b_MD_symbol 42 = .ok (.istore_n 3, 1) := by decide +kernel
theorem d_MD_symbol_43 : decode b_MD_symbol 43 = .ok (.aload_n 0, 1) := by decide +kernel
theorem d_MD_symbol_44 : decode b_MD_symbol 44 = .ok (.getfield 7, 3) := by decide +kernel
theorem d_MD_symbol_47 : decode b_MD_symbol 47 = .ok (.iload_n 3, 1) := by decide +kernel
theorem d_MD_symbol_48 : decode b_MD_symbol 48 = .ok (.iaload, 1) := by decide +kernel
theorem d_MD_symbol_49 : decode b_MD_symbol 49 = .ok (.aload_n 0, 1) := by decide +kernel
theorem d_MD_symbol_50 : decode b_MD_symbol 50 = .ok (.getfield 7, 3) := by decide +kernel
theorem d_MD_symbol_53 : decode b_MD_symbol 53 = .ok (.iload_n 1, 1) := by decide +kernel
theorem d_MD_symbol_54 : decode b_MD_symbol 54 = .ok (.iaload, 1) := by decide +kernel
theorem d_MD_symbol_55 : decode b_MD_symbol 55 = .ok (.if_icmp .ne 14, 3) := by decide +kernel
theorem d_MD_symbol_58 : decode b_MD_symbol 58 = .ok (.aload_n 0, 1) := by decide +kernel
theorem d_MD_symbol_59 : decode b_MD_symbol 59 = .ok (.iload_n 3, 1) := by decide +kernel
theorem d_MD_symbol_60 : decode b_MD_symbol 60 = .ok (.iload_n 1, 1) := by decide +kernel
theorem d_MD_symbol_61 : decode b_MD_symbol 61 = .ok (.invokevirtual 93, 3) := by decide +kernel
theorem d_MD_symbol_64 : decode b_MD_symbol 64 = .ok (.ifCond .ne 5, 3) := by decide +kernel
theorem d_MD_symbol_67 : decode b_MD_symbol 67 = .ok (.iload_n 2, 1) := by decide +kernel
theorem d_MD_symbol_68 : decode b_MD_symbol 68 = .ok (.ireturn, 1) := by decide +kernel
theorem d_MD_symbol_69 : decode b_MD_symbol 69 = .ok (.iinc 2 1, 3) := by decide +kernel
theorem d_MD_symbol_72 : decode b_MD_symbol 72 = .ok (.goto (-44), 3) := by decide +kernel
theorem d_MD_symbol_75 : decode b_MD_symbol 75 = .ok (.aload_n 0, 1) := by decide +kernel
theorem d_MD_symbol_76 : decode b_MD_symbol 76 = .ok (.getfield 96, 3) := by decide +kernel
theorem d_MD_symbol_79 : decode b_MD_symbol 79 = .ok (.bipush 16, 2) := by decide +kernel
theorem d_MD_symbol_81 : decode b_MD_symbol 81 = .ok (.if_icmp .ne 9, 3) := by decide +kernel
theorem d_MD_symbol_84 : decode b_MD_symbol 84 = .ok (.aload_n 0, 1) := by decide +kernel
theorem d_MD_symbol_85 : decode b_MD_symbol 85 = .ok (.iconst 2, 1) := by decide +kernel
theorem d_MD_symbol_86 : decode b_MD_symbol 86 = .ok (.invokevirtual 86, 3) := by decide +kernel
theorem d_MD_symbol_89 : decode b_MD_symbol 89 = .ok (.ireturn, 1) := by decide +kernel
theorem d_MD_symbol_90 : decode b_MD_symbol 90 = .ok (.aload_n 0, 1) := by decide +kernel
theorem d_MD_symbol_91 : decode b_MD_symbol 91 = .ok (.getfield 25, 3) := by decide +kernel
theorem d_MD_symbol_94 : decode b_MD_symbol 94 = .ok (.aload_n 0, 1) := by decide +kernel
theorem d_MD_symbol_95 : decode b_MD_symbol 95 = .ok (.getfield 96, 3) := by decide +kernel
theorem d_MD_symbol_98 : decode b_MD_symbol 98 = .ok (.iload_n 1, 1) := by decide +kernel
theorem d_MD_symbol_99 : decode b_MD_symbol 99 = .ok (.iastore, 1) := by decide +kernel
theorem d_MD_symbol_100 : decode b_MD_symbol 100 = .ok (.aload_n 0, 1) := by decide +kernel
theorem d_MD_symbol_101 : decode b_MD_symbol 101 = .ok (.dup, 1) := by decide +kernel
theorem d_MD_symbol_102 : decode b_MD_symbol 102 = .ok (.getfield 96, 3) := by decide +kernel
theorem d_MD_symbol_105 : decode b_MD_symbol 105 = .ok (.iconst 1, 1) := by decide +kernel
theorem d_MD_symbol_106 : decode b_MD_symbol 106 = .ok (.iadd, 1) := by decide +kernel
theorem d_MD_symbol_107 : decode b_MD_symbol 107 = .ok (.putfield 96, 3) := by decide +kernel
theorem d_MD_symbol_110 : decode b_MD_symbol 110 = .ok (.aload_n 0, 1) := by decide +kernel
theorem d_MD_symbol_111 : decode b_MD_symbol 111 = .ok (.getfield 96, 3) := by decide +kernel
theorem d_MD_symbol_114 : decode b_MD_symbol 114 = .ok (.iconst 1, 1) := by decide +kernel
theorem d_MD_symbol_115 : decode b_MD_symbol 115 = .ok (.isub, 1) := by decide +kernel
theorem d_MD_symbol_116 : decode b_MD_symbol 116 = .ok (.ireturn, 1) := by decide +kernel
theorem d_MD_encode_0 : decode b_MD_encode 0 = .ok (.aload_n 0, 1) := by decide +kernel
theorem d_MD_encode_1 : decode b_MD_encode 1 = .ok (.aload_n 0, 1) := by decide +kernel
theorem d_MD_encode_2 : decode b_MD_encode 2 = .ok (.iload_n 1, 1) := by decide +kernel
theorem d_MD_encode_3 : decode b_MD_encode 3 = .ok (.invokevirtual 71, 3) := by decide +kernel
theorem d_MD_encode_6 : decode b_MD_encode 6 = .ok (.ifCond .eq 11, 3) := by decide +kernel
theorem d_MD_encode_9 : decode b_MD_encode 9 = .ok (.iload_n 2, 1) := by decide +kernel
theorem d_MD_encode_10 : decode b_MD_encode 10 = .ok (.iconst 5, 1) := by decide +kernel
theorem d_MD_encode_11 : decode b_MD_encode 11 = .ok (.invokestatic 61, 3) := by decide +kernel
theorem d_MD_encode_14 : decode b_MD_encode 14 = .ok (.ifCond .eq 7, 3) := by decide +kernel
theorem d_MD_encode_17 : decode b_MD_encode 17 = .ok (.iconst 1, 1) := by decide +kernel
theorem d_MD_encode_18 : decode b_MD_encode 18 = .ok (.goto 4, 3) := by decide +kernel
theorem d_MD_encode_21 : decode b_MD_encode 21 = .ok (.iconst 0, 1) := by decide +kernel
theorem d_MD_encode_22 : decode b_MD_encode 22 = .ok (.putfield 31, 3) := by decide +kernel
theorem d_MD_encode_25 : decode b_MD_encode 25 = .ok (.aload_n 0, 1) := by decide +kernel
theorem d_MD_encode_26 : decode b_MD_encode 26 = .ok (.getfield 31, 3) := by decide +kernel
theorem d_MD_encode_29 : decode b_MD_encode 29 = .ok (.ifCond .le 5, 3) := by decide +kernel
theorem d_MD_encode_32 : decode b_MD_encode 32 = .ok (.iconst 0, 1) := by decide +kernel
theorem d_MD_encode_33 : decode b_MD_encode 33 = .ok (.ireturn, 1) := by decide +kernel
theorem d_MD_encode_34 : decode b_MD_encode 34 = .ok (.aload_n 0, 1) := by decide +kernel
theorem d_MD_encode_35 : decode b_MD_encode 35 = .ok (.iconst 0, 1) := by decide +kernel
theorem d_MD_encode_36 : decode b_MD_encode 36 = .ok (.putfield 112, 3) := by decide +kernel
theorem d_MD_encode_39 : decode b_MD_encode 39 = .ok (.iconst 0, 1) := by decide +kernel
theorem d_MD_encode_40 : decode b_MD_encode 40 = .ok (.istore_n 3, 1) := by decide +kernel
theorem d_MD_encode_41 : decode b_MD_encode 41 = .ok (.iload_n 3, 1) := by decide +kernel
theorem d_MD_encode_42 : decode b_MD_encode 42 = .ok (.aload_n 0, 1) := by decide +kernel
theorem d_MD_encode_43 : decode b_MD_encode 43 = .ok (.getfield 7, 3) := by decide +kernel
theorem d_MD_encode_46 : decode b_MD_encode 46 = .ok (.iload_n 1, 1) := by decide +kernel
theorem d_MD_encode_47 : decode b_MD_encode 47 = .ok (.iaload, 1) := by decide +kernel
theorem d_MD_encode_48 : decode b_MD_encode 48 = .ok (.if_icmp .ge 60, 3) := by decide +kernel
theorem d_MD_encode_51 : decode b_MD_encode 51 = .ok (.iload_n 3, 1) := by decide +kernel
theorem d_MD_encode_52 : decode b_MD_encode 52 = .ok (.aload_n 0, 1) := by decide +kernel
theorem d_MD_encode_53 : decode b_MD_encode 53 = .ok (.iload_n 1, 1) := by decide +kernel
theorem d_MD_encode_54 : decode b_MD_encode 54 = .ok (.iload_n 3, 1) := by decide +kernel
theorem d_MD_encode_55 : decode b_MD_encode 55 = .ok (.iload_n 2, 1) := by decide +kernel
theorem d_MD_encode_56 : decode b_MD_encode 56 = .ok (.invokevirtual 115, 3) := by decide +kernel
theorem d_MD_encode_59 : decode b_MD_encode 59 = .ok (.iadd, 1) := by decide +kernel
theorem d_MD_encode_60 : decode b_MD_encode 60 = .ok (.istore_n 3, 1) := by decide +kernel
theorem d_MD_encode_61 : decode b_MD_encode 61 = .ok (.iconst 0, 1) := by decide +kernel
theorem d_MD_encode_62 : decode b_MD_encode 62 = .ok (.istore 4, 2) := by decide +kernel
theorem d_MD_encode_64 : decode b_MD_encode 64 = .ok (.iload 4, 2) := by decide +kernel
theorem d_MD_encode_66 : decode b_MD_encode 66 = .ok (.aload_n 0, 1) := by decide +kernel
theorem d_MD_encode_67 : decode b_MD_encode 67 = .ok (.getfield 99, 3) := by decide +kernel
theorem d_MD_encode_70 : decode b_MD_encode 70 = .ok (.if_icmp .ge 35, 3) := by decide +kernel
theorem d_MD_encode_73 : decode b_MD_encode 73 = .ok (.aload_n 0, 1) := by decide +kernel
theorem d_MD_encode_74 : decode b_MD_encode 74 = .ok (.getfield 22, 3) := by decide +kernel
theorem d_MD_encode_77 : decode b_MD_encode 77 = .ok (.aload_n 0, 1) := by decide +kernel
theorem d_MD_encode_78 : decode b_MD_encode 78 = .ok (.getfield 112, 3) := by decide +kernel
theorem d_MD_encode_81 : decode b_MD_encode 81 = .ok (.aload_n 0, 1) := by decide +kernel
theorem d_MD_encode_82 : decode b_MD_encode 82 = .ok (.getfield 28, 3) := by decide +kernel
theorem d_MD_encode_85 : decode b_MD_encode 85 = .ok (.iload 4, 2) := by decide +kernel
theorem d_MD_encode_87 : decode b_MD_encode 87 = .ok (.iaload, 1) := by decide +kernel
theorem d_MD_encode_88 : decode b_MD_encode 88 = .ok (.iastore, 1) := by decide +kernel
theorem d_MD_encode_89 : decode b_MD_encode 89 = .ok (.aload_n 0, 1) := by decide +kernel
theorem d_MD_encode_90 : decode b_MD_encode 90 = .ok (.dup, 1) := by decide +kernel
theorem d_MD_encode_91 : decode b_MD_encode 91 = .ok (.getfield 112, 3) := by decide +kernel
theorem d_MD_encode_94 : decode b_MD_encode 94 = .ok (.iconst 1, 1) := by decide +kernel
theorem d_MD_encode_95 : decode b_MD_encode 95 = .ok (.iadd, 1) := by decide +kernel
theorem d_MD_encode_96 : decode b_MD_encode 96 = .ok (.putfield 112, 3) := by decide +kernel
theorem d_MD_encode_99 : decode b_MD_encode 99 = .ok (.iinc 4 1, 3) := by decide +kernel
theorem d_MD_encode_102 : decode b_MD_encode 102 = .ok (.goto (-38), 3) := by decide +kernel
theorem d_MD_encode_105 : decode b_MD_encode 105 = .ok (.goto (-64), 3) := by decide +kernel
theorem d_MD_encode_108 : decode b_MD_encode 108 = .ok (.aload_n 0, 1) := by decide +kernel
theorem d_MD_encode_109 : decode b_MD_encode 109 = .ok (.getfield 112, 3) := by decide +kernel
theorem d_MD_encode_112 : decode b_MD_encode 112 = .ok (.ireturn, 1) := by decide +kernel
theorem d_MD_encodeAt_0 : decode b_MD_encodeAt 0 = .ok (.aload_n 0, 1) := by decide +kernel
theorem d_MD_encodeAt_1 : decode b_MD_encodeAt 1 = .ok (.iload_n 1, 1) := by decide +kernel
theorem d_MD_encodeAt_2 : decode b_MD_encodeAt 2 = .ok (.iload_n 2, 1) := by decide +kernel
theorem d_MD_encodeAt_3 : decode b_MD_encodeAt 3 = .ok (.invokevirtual 39, 3) := by decide +kernel
theorem d_MD_encodeAt_6 : decode b_MD_encodeAt 6 = .ok (.istore 4, 2) := by decide +kernel
theorem d_MD_encodeAt_8 : decode b_MD_encodeAt 8 = .ok (.aload_n 0, 1) := by decide +kernel
theorem d_MD_encodeAt_9 : decode b_MD_encodeAt 9 = .ok (.iload_n 1, 1) := by decide +kernel
theorem d_MD_encodeAt_10 : decode b_MD_encodeAt 10 = .ok (.iload_n 2, 1) := by decide +kernel
theorem d_MD_encodeAt_11 : decode b_MD_encodeAt 11 = .ok (.invokevirtual 50, 3) := by decide +kernel
theorem d_MD_encodeAt_14 : decode b_MD_encodeAt 14 = .ok (.istore 5, 2) := by decide +kernel
theorem d_MD_encodeAt_16 : decode b_MD_encodeAt 16 = .ok (.aload_n 0, 1) := by decide +kernel
theorem d_MD_encodeAt_17 : decode b_MD_encodeAt 17 = .ok (.iconst 0, 1) := by decide +kernel
theorem d_MD_encodeAt_18 : decode b_MD_encodeAt 18 = .ok (.putfield 99, 3) := by decide +kernel
theorem d_MD_encodeAt_21 : decode b_MD_encodeAt 21 = .ok (.iload_n 3, 1) := by decide +kernel
theorem d_MD_encodeAt_22 : decode b_MD_encodeAt 22 = .ok (.ifCond .ne 47, 3) := by decide +kernel
theorem d_MD_encodeAt_25 : decode b_MD_encodeAt 25 = .ok (.aload_n 0, 1) := by decide +kernel
theorem d_MD_encodeAt_26 : decode b_MD_encodeAt 26 = .ok (.iload 5, 2) := by decide +kernel
theorem d_MD_encodeAt_28 : decode b_MD_encodeAt 28 = .ok (.ifCond .eq 12, 3) := by decide +kernel
theorem d_MD_encodeAt_31 : decode b_MD_encodeAt 31 = .ok (.aload_n 0, 1) := by decide +kernel
theorem d_MD_encodeAt_32 : decode b_MD_encodeAt 32 = .ok (.iload_n 1, 1) := by decide +kernel
theorem d_MD_encodeAt_33 : decode b_MD_encodeAt 33 = .ok (.iload_n 2, 1) := by decide +kernel
theorem d_MD_encodeAt_34 : decode b_MD_encodeAt 34 = .ok (.invokevirtual 90, 3) := by decide +kernel
theorem d_MD_encodeAt_37 : decode b_MD_encodeAt 37 = .ok (.goto 26, 3) := by decide +kernel
theorem d_MD_encodeAt_40 : decode b_MD_encodeAt 40 = .ok (.iload 4, 2) := by decide +kernel
theorem d_MD_encodeAt_42 : decode b_MD_encodeAt 42 = .ok (.invokestatic 43, 3) := by decide +kernel
theorem d_MD_encodeAt_45 : decode b_MD_encodeAt 45 = .ok (.ifCond .ne 11, 3) := by decide +kernel
theorem d_MD_encodeAt_48 : decode b_MD_encodeAt 48 = .ok (.iload 4, 2) := by decide +kernel
theorem d_MD_encodeAt_50 : decode b_MD_encodeAt 50 = .ok (.invokestatic 47, 3) := by decide +kernel
theorem d_MD_encodeAt_53 : decode b_MD_encodeAt 53 = .ok (.ifCond .eq 8, 3) := by decide +kernel
theorem d_MD_encodeAt_56 : decode b_MD_encodeAt 56 = .ok (.bipush 63, 2) := by decide +kernel
theorem d_MD_encodeAt_58 : decode b_MD_encodeAt 58 = .ok (.goto 5, 3) := by decide +kernel
theorem d_MD_encodeAt_61 : decode b_MD_encodeAt 61 = .ok (.iload 4, 2) := by decide +kernel
theorem d_MD_encodeAt_63 : decode b_MD_encodeAt 63 = .ok (.invokevirtual 106, 3) := by decide +kernel
theorem d_MD_encodeAt_66 : decode b_MD_encodeAt 66 = .ok (.goto 92, 3) := by decide +kernel
theorem d_MD_encodeAt_69 : decode b_MD_encodeAt 69 = .ok (.iload_n 3, 1) := by decide +kernel
theorem d_MD_encodeAt_70 : decode b_MD_encodeAt 70 = .ok (.iconst 1, 1) := by decide +kernel
theorem d_MD_encodeAt_71 : decode b_MD_encodeAt 71 = .ok (.if_icmp .ne 12, 3) := by decide +kernel
theorem d_MD_encodeAt_74 : decode b_MD_encodeAt 74 = .ok (.aload_n 0, 1) := by decide +kernel
theorem d_MD_encodeAt_75 : decode b_MD_encodeAt 75 = .ok (.iload 4, 2) := by decide +kernel
theorem d_MD_encodeAt_77 : decode b_MD_encodeAt 77 = .ok (.invokevirtual 109, 3) := by decide +kernel
theorem d_MD_encodeAt_80 : decode b_MD_encodeAt 80 = .ok (.goto 78, 3) := by decide +kernel
theorem d_MD_encodeAt_83 : decode b_MD_encodeAt 83 = .ok (.iload_n 3, 1) := by decide +kernel
theorem d_MD_encodeAt_84 : decode b_MD_encodeAt 84 = .ok (.iconst 4, 1) := by decide +kernel
theorem d_MD_encodeAt_85 : decode b_MD_encodeAt 85 = .ok (.if_icmp .ne 25, 3) := by decide +kernel
theorem d_MD_encodeAt_88 : decode b_MD_encodeAt 88 = .ok (.aload_n 0, 1) := by decide +kernel
theorem d_MD_encodeAt_89 : decode b_MD_encodeAt 89 = .ok (.iload 4, 2) := by decide +kernel
theorem d_MD_encodeAt_91 : decode b_MD_encodeAt 91 = .ok (.sipush 256, 3) := by decide +kernel
theorem d_MD_encodeAt_94 : decode b_MD_encodeAt 94 = .ok (.if_icmp .ge 8, 3) := by decide +kernel
theorem d_MD_encodeAt_97 : decode b_MD_encodeAt 97 = .ok (.iload 4, 2) := by decide +kernel
theorem d_MD_encodeAt_99 : decode b_MD_encodeAt 99 = .ok (.goto 5, 3) := by decide +kernel
theorem d_MD_encodeAt_102 : decode b_MD_encodeAt 102 = .ok (.bipush 63, 2) := by decide +kernel
theorem d_MD_encodeAt_104 : decode b_MD_encodeAt 104 = .ok (.invokevirtual 102, 3) := by decide +kernel
theorem d_MD_encodeAt_107 : decode b_MD_encodeAt 107 = .ok (.goto 51, 3) := by decide +kernel
theorem d_MD_encodeAt_110 : decode b_MD_encodeAt 110 = .ok (.aload_n 0, 1) := by decide +kernel
theorem d_MD_encodeAt_111 : decode b_MD_encodeAt 111 = .ok (.iload_n 3, 1) := by decide +kernel
theorem d_MD_encodeAt_112 : decode b_MD_encodeAt 112 = .ok (.iconst 2, 1) := by decide +kernel
theorem d_MD_encodeAt_113 : decode b_MD_encodeAt 113 = .ok (.if_icmp .ne 12, 3) := by decide +kernel
theorem d_MD_encodeAt_116 : decode b_MD_encodeAt 116 = .ok (.iload 4, 2) := by decide +kernel
theorem d_MD_encodeAt_118 : decode b_MD_encodeAt 118 = .ok (.sipush 256, 3) := by decide +kernel
theorem d_MD_encodeAt_121 : decode b_MD_encodeAt 121 = .ok (.idiv, 1) := by decide +kernel
theorem d_MD_encodeAt_122 : decode b_MD_encodeAt 122 = .ok (.goto 9, 3) := by decide +kernel
theorem d_MD_encodeAt_125 : decode b_MD_encodeAt 125 = .ok (.iload 4, 2) := by decide +kernel
theorem d_MD_encodeAt_127 : decode b_MD_encodeAt 127 = .ok (.sipush 256, 3) := by decide +kernel
theorem d_MD_encodeAt_130 : decode b_MD_encodeAt 130 = .ok (.irem, 1) := by decide +kernel
theorem d_MD_encodeAt_131 : decode b_MD_encodeAt 131 = .ok (.invokevirtual 102, 3) := by decide +kernel
theorem d_MD_encodeAt_134 : decode b_MD_encodeAt 134 = .ok (.aload_n 0, 1) := by decide +kernel
theorem d_MD_encodeAt_135 : decode b_MD_encodeAt 135 = .ok (.iload_n 3, 1) := by decide +kernel
theorem d_MD_encodeAt_136 : decode b_MD_encodeAt 136 = .ok (.iconst 2, 1) := by decide +kernel
theorem d_MD_encodeAt_137 : decode b_MD_encodeAt 137 = .ok (.if_icmp .ne 12, 3) := by decide +kernel
theorem d_MD_encodeAt_140 : decode b_MD_encodeAt 140 = .ok (.iload 4, 2) := by decide +kernel
theorem d_MD_encodeAt_142 : decode b_MD_encodeAt 142 = .ok (.sipush 256, 3) := by decide +kernel
theorem d_MD_encodeAt_145 : decode b_MD_encodeAt 145 = .ok (.irem, 1) := by decide +kernel
theorem d_MD_encodeAt_146 : decode b_MD_encodeAt 146 = .ok (.goto 9, 3) := by decide +kernel
theorem d_MD_encodeAt_149 : decode b_MD_encodeAt 149 = .ok (.iload 4, 2) := by decide +kernel
theorem d_MD_encodeAt_151 : decode b_MD_encodeAt 151 = .ok (.sipush 256, 3) := by decide +kernel
theorem d_MD_encodeAt_154 : decode b_MD_encodeAt 154 = .ok (.idiv, 1) := by decide +kernel
theorem d_MD_encodeAt_155 : decode b_MD_encodeAt 155 = .ok (.invokevirtual 102, 3) := by decide +kernel
theorem d_MD_encodeAt_158 : decode b_MD_encodeAt 158 = .ok (.iload 5, 2) := by decide +kernel
theorem d_MD_encodeAt_160 : decode b_MD_encodeAt 160 = .ok (.ifCond .eq 16, 3) := by decide +kernel
theorem d_MD_encodeAt_163 : decode b_MD_encodeAt 163 = .ok (.iload_n 3, 1) := by decide +kernel
theorem d_MD_encodeAt_164 : decode b_MD_encodeAt 164 = .ok (.ifCond .eq 8, 3) := by decide +kernel
theorem d_MD_encodeAt_167 : decode b_MD_encodeAt 167 = .ok (.iload_n 3, 1) := by decide +kernel
theorem d_MD_encodeAt_168 : decode b_MD_encodeAt 168 = .ok (.iconst 4, 1) := by decide +kernel
theorem d_MD_encodeAt_169 : decode b_MD_encodeAt 169 = .ok (.if_icmp .ne 7, 3) := by decide +kernel
theorem d_MD_encodeAt_172 : decode b_MD_encodeAt 172 = .ok (.iconst 2, 1) := by decide +kernel
theorem d_MD_encodeAt_173 : decode b_MD_encodeAt 173 = .ok (.goto 4, 3) := by decide +kernel
theorem d_MD_encodeAt_176 : decode b_MD_encodeAt 176 = .ok (.iconst 1, 1) := by decide +kernel
theorem d_MD_encodeAt_177 : decode b_MD_encodeAt 177 = .ok (.ireturn, 1) := by decide +kernel
theorem d_MD_utf_0 : decode b_MD_utf 0 = .ok (.aload_n 0, 1) := by decide +kernel
theorem d_MD_utf_1 : decode b_MD_utf 1 = .ok (.iconst 0, 1) := by decide +kernel
theorem d_MD_utf_2 : decode b_MD_utf 2 = .ok (.putfield 99, 3) := by decide +kernel
theorem d_MD_utf_5 : decode b_MD_utf 5 = .ok (.iload_n 1, 1) := by decide +kernel
theorem d_MD_utf_6 : decode b_MD_utf 6 = .ok (.sipush 128, 3) := by decide +kernel
theorem d_MD_utf_9 : decode b_MD_utf 9 = .ok (.if_icmp .ge 9, 3) := by decide +kernel
theorem d_MD_utf_12 : decode b_MD_utf 12 = .ok (.aload_n 0, 1) := by decide +kernel
theorem d_MD_utf_13 : decode b_MD_utf 13 = .ok (.iload_n 1, 1) := by decide +kernel
theorem d_MD_utf_14 : decode b_MD_utf 14 = .ok (.invokevirtual 102, 3) := by decide +kernel
theorem d_MD_utf_17 : decode b_MD_utf 17 = .ok (.return_, 1) := by decide +kernel
theorem d_MD_utf_18 : decode b_MD_utf 18 = .ok (.iload_n 1, 1) := by decide +kernel
theorem d_MD_utf_19 : decode b_MD_utf 19 = .ok (.sipush 2048, 3) := by decide +kernel
theorem d_MD_utf_22 : decode b_MD_utf 22 = .ok (.if_icmp .ge 15, 3) := by decide +kernel
theorem d_MD_utf_25 : decode b_MD_utf 25 = .ok (.aload_n 0, 1) := by decide +kernel
theorem d_MD_utf_26 : decode b_MD_utf 26 = .ok (.sipush 192, 3) := by decide +kernel
theorem d_MD_utf_29 : decode b_MD_utf 29 = .ok (.iload_n 1, 1) := by decide +kernel
theorem d_MD_utf_30 : decode b_MD_utf 30 = .ok (.bipush 64, 2) := by decide +kernel
theorem d_MD_utf_32 : decode b_MD_utf 32 = .ok (.idiv, 1) := by decide +kernel
theorem d_MD_utf_33 : decode b_MD_utf 33 = .ok (.iadd, 1) := by decide +kernel
theorem d_MD_utf_34 : decode b_MD_utf 34 = .ok (.invokevirtual 102, 3) := by decide +kernel
theorem d_MD_utf_37 : decode b_MD_utf 37 = .ok (.iload_n 1, 1) := by decide +kernel
theorem d_MD_utf_38 : decode b_MD_utf 38 = .ok (.sipush 2048, 3) := by decide +kernel
theorem d_MD_utf_41 : decode b_MD_utf 41 = .ok (.if_icmp .lt 22, 3) := by decide +kernel
theorem d_MD_utf_44 : decode b_MD_utf 44 = .ok (.iload_n 1, 1) := by decide +kernel
theorem d_MD_utf_45 : decode b_MD_utf 45 = .ok (.ldc 54, 2) := by decide +kernel
theorem d_MD_utf_47 : decode b_MD_utf 47 = .ok (.if_icmp .ge 16, 3) := by decide +kernel
theorem d_MD_utf_50 : decode b_MD_utf 50 = .ok (.aload_n 0, 1) := by decide +kernel
theorem d_MD_utf_51 : decode b_MD_utf 51 = .ok (.sipush 224, 3) := by decide +kernel
theorem d_MD_utf_54 : decode b_MD_utf 54 = .ok (.iload_n 1, 1) := by decide +kernel
theorem d_MD_utf_55 : decode b_MD_utf 55 = .ok (.sipush 4096, 3) := by decide +kernel
theorem d_MD_utf_58 : decode b_MD_utf 58 = .ok (.idiv, 1) := by decide +kernel
theorem d_MD_utf_59 : decode b_MD_utf 59 = .ok (.iadd, 1) := by decide +kernel
theorem d_MD_utf_60 : decode b_MD_utf 60 = .ok (.invokevirtual 102, 3) := by decide +kernel
theorem d_MD_utf_63 : decode b_MD_utf 63 = .ok (.iload_n 1, 1) := by decide +kernel
theorem d_MD_utf_64 : decode b_MD_utf 64 = .ok (.ldc 54, 2) := by decide +kernel
theorem d_MD_utf_66 : decode b_MD_utf 66 = .ok (.if_icmp .lt 15, 3) := by decide +kernel
theorem d_MD_utf_69 : decode b_MD_utf 69 = .ok (.aload_n 0, 1) := by decide +kernel
theorem d_MD_utf_70 : decode b_MD_utf 70 = .ok (.sipush 240, 3) := by decide +kernel
theorem d_MD_utf_73 : decode b_MD_utf 73 = .ok (.iload_n 1, 1) := by decide +kernel
theorem d_MD_utf_74 : decode b_MD_utf 74 = .ok (.ldc 105, 2) := by decide +kernel
theorem d_MD_utf_76 : decode b_MD_utf 76 = .ok (.idiv, 1) := by decide +kernel
theorem d_MD_utf_77 : decode b_MD_utf 77 = .ok (.iadd, 1) := by decide +kernel
theorem d_MD_utf_78 : decode b_MD_utf 78 = .ok (.invokevirtual 102, 3) := by decide +kernel
theorem d_MD_utf_81 : decode b_MD_utf 81 = .ok (.iload_n 1, 1) := by decide +kernel
theorem d_MD_utf_82 : decode b_MD_utf 82 = .ok (.ldc 54, 2) := by decide +kernel
theorem d_MD_utf_84 : decode b_MD_utf 84 = .ok (.if_icmp .lt 19, 3) := by decide +kernel
theorem d_MD_utf_87 : decode b_MD_utf 87 = .ok (.aload_n 0, 1) := by decide +kernel
theorem d_MD_utf_88 : decode b_MD_utf 88 = .ok (.sipush 128, 3) := by decide +kernel
theorem d_MD_utf_91 : decode b_MD_utf 91 = .ok (.iload_n 1, 1) := by decide +kernel
theorem d_MD_utf_92 : decode b_MD_utf 92 = .ok (.sipush 4096, 3) := by decide +kernel
theorem d_MD_utf_95 : decode b_MD_utf 95 = .ok (.idiv, 1) := by decide +kernel
theorem d_MD_utf_96 : decode b_MD_utf 96 = .ok (.bipush 64, 2) := by decide +kernel
theorem d_MD_utf_98 : decode b_MD_utf 98 = .ok (.irem, 1) := by decide +kernel
theorem d_MD_utf_99 : decode b_MD_utf 99 = .ok (.iadd, 1) := by decide +kernel
theorem d_MD_utf_100 : decode b_MD_utf 100 = .ok (.invokevirtual 102, 3) := by decide +kernel
theorem d_MD_utf_103 : decode b_MD_utf 103 = .ok (.iload_n 1, 1) := by decide +kernel
theorem d_MD_utf_104 : decode b_MD_utf 104 = .ok (.sipush 2048, 3) := by decide +kernel
theorem d_MD_utf_107 : decode b_MD_utf 107 = .ok (.if_icmp .lt 18, 3) := by decide +kernel
theorem d_MD_utf_110 : decode b_MD_utf 110 = .ok (.aload_n 0, 1) := by decide +kernel
theorem d_MD_utf_111 : decode b_MD_utf 111 = .ok (.sipush 128, 3) := by decide +kernel
theorem d_MD_utf_114 : decode b_MD_utf 114 = .ok (.iload_n 1, 1) := by decide +kernel
theorem d_MD_utf_115 : decode b_MD_utf 115 = .ok (.bipush 64, 2) := by decide +kernel
theorem d_MD_utf_117 : decode b_MD_utf 117 = .ok (.idiv, 1) := by decide +kernel
theorem d_MD_utf_118 : decode b_MD_utf 118 = .ok (.bipush 64, 2) := by decide +kernel
theorem d_MD_utf_120 : decode b_MD_utf 120 = .ok (.irem, 1) := by decide +kernel
theorem d_MD_utf_121 : decode b_MD_utf 121 = .ok (.iadd, 1) := by decide +kernel
theorem d_MD_utf_122 : decode b_MD_utf 122 = .ok (.invokevirtual 102, 3) := by decide +kernel
theorem d_MD_utf_125 : decode b_MD_utf 125 = .ok (.aload_n 0, 1) := by decide +kernel
theorem d_MD_utf_126 : decode b_MD_utf 126 = .ok (.sipush 128, 3) := by decide +kernel
theorem d_MD_utf_129 : decode b_MD_utf 129 = .ok (.iload_n 1, 1) := by decide +kernel
theorem d_MD_utf_130 : decode b_MD_utf 130 = .ok (.bipush 64, 2) := by decide +kernel
theorem d_MD_utf_132 : decode b_MD_utf 132 = .ok (.irem, 1) := by decide +kernel
theorem d_MD_utf_133 : decode b_MD_utf 133 = .ok (.iadd, 1) := by decide +kernel
theorem d_MD_utf_134 : decode b_MD_utf 134 = .ok (.invokevirtual 102, 3) := by decide +kernel
theorem d_MD_utf_137 : decode b_MD_utf 137 = .ok (.return_, 1) := by decide +kernel
theorem d_MD_put_0 : decode b_MD_put 0 = .ok (.aload_n 0, 1) := by decide +kernel
theorem d_MD_put_1 : decode b_MD_put 1 = .ok (.getfield 28, 3) := by decide +kernel
theorem d_MD_put_4 : decode b_MD_put 4 = .ok (.aload_n 0, 1) := by decide +kernel
theorem d_MD_put_5 : decode b_MD_put 5 = .ok (.getfield 99, 3) := by decide +kernel
theorem d_MD_put_8 : decode b_MD_put 8 = .ok (.iload_n 1, 1) := by decide +kernel
theorem d_MD_put_9 : decode b_MD_put 9 = .ok (.iastore, 1) := by decide +kernel
theorem d_MD_put_10 : decode b_MD_put 10 = .ok (.aload_n 0, 1) := by decide +kernel
theorem d_MD_put_11 : decode b_MD_put 11 = .ok (.dup, 1) := by decide +kernel
theorem d_MD_put_12 : decode b_MD_put 12 = .ok (.getfield 99, 3) := by decide +kernel
theorem d_MD_put_15 : decode b_MD_put 15 = .ok (.iconst 1, 1) := by decide +kernel
theorem d_MD_put_16 : decode b_MD_put 16 = .ok (.iadd, 1) := by decide +kernel
theorem d_MD_put_17 : decode b_MD_put 17 = .ok (.putfield 99, 3) := by decide +kernel
theorem d_MD_put_20 : decode b_MD_put 20 = .ok (.return_, 1) := by decide +kernel
theorem d_MD_modified_0 : decode b_MD_modified 0 = .ok (.aload_n 0, 1) := by decide +kernel
theorem d_MD_modified_1 : decode b_MD_modified 1 = .ok (.iload_n 1, 1) := by decide +kernel
theorem d_MD_modified_2 : decode b_MD_modified 2 = .ok (.invokevirtual 106, 3) := by decide +kernel
theorem d_MD_modified_5 : decode b_MD_modified 5 = .ok (.iload_n 1, 1) := by decide +kernel
theorem d_MD_modified_6 : decode b_MD_modified 6 = .ok (.ifCond .le 4, 3) := by decide +kernel
theorem d_MD_modified_9 : decode b_MD_modified 9 = .ok (.return_, 1) := by decide +kernel
theorem d_MD_modified_10 : decode b_MD_modified 10 = .ok (.aload_n 0, 1) := by decide +kernel
theorem d_MD_modified_11 : decode b_MD_modified 11 = .ok (.iconst 0, 1) := by decide +kernel
theorem d_MD_modified_12 : decode b_MD_modified 12 = .ok (.putfield 99, 3) := by decide +kernel
theorem d_MD_modified_15 : decode b_MD_modified 15 = .ok (.aload_n 0, 1) := by decide +kernel
theorem d_MD_modified_16 : decode b_MD_modified 16 = .ok (.sipush 192, 3) := by decide +kernel
theorem d_MD_modified_19 : decode b_MD_modified 19 = .ok (.invokevirtual 102, 3) := by decide +kernel
theorem d_MD_modified_22 : decode b_MD_modified 22 = .ok (.aload_n 0, 1) := by decide +kernel
theorem d_MD_modified_23 : decode b_MD_modified 23 = .ok (.sipush 128, 3) := by decide +kernel
theorem d_MD_modified_26 : decode b_MD_modified 26 = .ok (.invokevirtual 102, 3) := by decide +kernel
theorem d_MD_modified_29 : decode b_MD_modified 29 = .ok (.return_, 1) := by decide +kernel
theorem d_MD_type_0 : decode b_MD_type 0 = .ok (.aload_n 0, 1) := by decide +kernel
theorem d_MD_type_1 : decode b_MD_type 1 = .ok (.iload_n 1, 1) := by decide +kernel
theorem d_MD_type_2 : decode b_MD_type 2 = .ok (.sipush 256, 3) := by decide +kernel
theorem d_MD_type_5 : decode b_MD_type 5 = .ok (.invokestatic 61, 3) := by decide +kernel
theorem d_MD_type_8 : decode b_MD_type 8 = .ok (.ifCond .eq 7, 3) := by decide +kernel
theorem d_MD_type_11 : decode b_MD_type 11 = .ok (.iconst 1, 1) := by decide +kernel
theorem d_MD_type_12 : decode b_MD_type 12 = .ok (.goto 18, 3) := by decide +kernel
theorem d_MD_type_15 : decode b_MD_type 15 = .ok (.aload_n 0, 1) := by decide +kernel
theorem d_MD_type_16 : decode b_MD_type 16 = .ok (.getfield 112, 3) := by decide +kernel
theorem d_MD_type_19 : decode b_MD_type 19 = .ok (.sipush 200, 3) := by decide +kernel
theorem d_MD_type_22 : decode b_MD_type 22 = .ok (.if_icmp .ne 7, 3) := by decide +kernel
theorem d_MD_type_25 : decode b_MD_type 25 = .ok (.iconst 2, 1) := by decide +kernel
theorem d_MD_type_26 : decode b_MD_type 26 = .ok (.goto 4, 3) := by decide +kernel
theorem d_MD_type_29 : decode b_MD_type 29 = .ok (.iconst 0, 1) := by decide +kernel
theorem d_MD_type_30 : decode b_MD_type 30 = .ok (.putfield 31, 3) := by decide +kernel
theorem d_MD_type_33 : decode b_MD_type 33 = .ok (.aload_n 0, 1) := by decide +kernel
theorem d_MD_type_34 : decode b_MD_type 34 = .ok (.getfield 31, 3) := by decide +kernel
theorem d_MD_type_37 : decode b_MD_type 37 = .ok (.ifCond .le 5, 3) := by decide +kernel
theorem d_MD_type_40 : decode b_MD_type 40 = .ok (.iconst 0, 1) := by decide +kernel
theorem d_MD_type_41 : decode b_MD_type 41 = .ok (.ireturn, 1) := by decide +kernel
theorem d_MD_type_42 : decode b_MD_type 42 = .ok (.aload_n 0, 1) := by decide +kernel
theorem d_MD_type_43 : decode b_MD_type 43 = .ok (.getfield 22, 3) := by decide +kernel
theorem d_MD_type_46 : decode b_MD_type 46 = .ok (.aload_n 0, 1) := by decide +kernel
theorem d_MD_type_47 : decode b_MD_type 47 = .ok (.getfield 112, 3) := by decide +kernel
theorem d_MD_type_50 : decode b_MD_type 50 = .ok (.iload_n 1, 1) := by decide +kernel
theorem d_MD_type_51 : decode b_MD_type 51 = .ok (.iastore, 1) := by decide +kernel
theorem d_MD_type_52 : decode b_MD_type 52 = .ok (.aload_n 0, 1) := by decide +kernel
theorem d_MD_type_53 : decode b_MD_type 53 = .ok (.dup, 1) := by decide +kernel
theorem d_MD_type_54 : decode b_MD_type 54 = .ok (.getfield 112, 3) := by decide +kernel
theorem d_MD_type_57 : decode b_MD_type 57 = .ok (.iconst 1, 1) := by decide +kernel
theorem d_MD_type_58 : decode b_MD_type 58 = .ok (.iadd, 1) := by decide +kernel
theorem d_MD_type_59 : decode b_MD_type 59 = .ok (.putfield 112, 3) := by decide +kernel
theorem d_MD_type_62 : decode b_MD_type 62 = .ok (.aload_n 0, 1) := by decide +kernel
theorem d_MD_type_63 : decode b_MD_type 63 = .ok (.getfield 112, 3) := by decide +kernel
theorem d_MD_type_66 : decode b_MD_type 66 = .ok (.ireturn, 1) := by decide +kernel
theorem d_MD_decode_0 : decode b_MD_decode 0 = .ok (.aload_n 0, 1) := by decide +kernel
theorem d_MD_decode_1 : decode b_MD_decode 1 = .ok (.iload_n 1, 1) := by decide +kernel
theorem d_MD_decode_2 : decode b_MD_decode 2 = .ok (.iconst 5, 1) := by decide +kernel
theorem d_MD_decode_3 : decode b_MD_decode 3 = .ok (.invokestatic 61, 3) := by decide +kernel
theorem d_MD_decode_6 : decode b_MD_decode 6 = .ok (.ifCond .eq 7, 3) := by decide +kernel
theorem d_MD_decode_9 : decode b_MD_decode 9 = .ok (.iconst 1, 1) := by decide +kernel
theorem d_MD_decode_10 : decode b_MD_decode 10 = .ok (.goto 4, 3) := by decide +kernel
theorem d_MD_decode_13 : decode b_MD_decode 13 = .ok (.iconst 0, 1) := by decide +kernel
theorem d_MD_decode_14 : decode b_MD_decode 14 = .ok (.putfield 31, 3) := by decide +kernel
theorem d_MD_decode_17 : decode b_MD_decode 17 = .ok (.aload_n 0, 1) := by decide +kernel
theorem d_MD_decode_18 : decode b_MD_decode 18 = .ok (.getfield 31, 3) := by decide +kernel
theorem d_MD_decode_21 : decode b_MD_decode 21 = .ok (.ifCond .le 5, 3) := by decide +kernel
theorem d_MD_decode_24 : decode b_MD_decode 24 = .ok (.iconst 0, 1) := by decide +kernel
theorem d_MD_decode_25 : decode b_MD_decode 25 = .ok (.ireturn, 1) := by decide +kernel
theorem d_MD_decode_26 : decode b_MD_decode 26 = .ok (.aload_n 0, 1) := by decide +kernel
theorem d_MD_decode_27 : decode b_MD_decode 27 = .ok (.iconst 0, 1) := by decide +kernel
theorem d_MD_decode_28 : decode b_MD_decode 28 = .ok (.putfield 55, 3) := by decide +kernel
theorem d_MD_decode_31 : decode b_MD_decode 31 = .ok (.iconst 1, 1) := by decide +kernel
theorem d_MD_decode_32 : decode b_MD_decode 32 = .ok (.istore_n 3, 1) := by decide +kernel
theorem d_MD_decode_33 : decode b_MD_decode 33 = .ok (.iconst 0, 1) := by decide +kernel
theorem d_MD_decode_34 : decode b_MD_decode 34 = .ok (.istore 4, 2) := by decide +kernel
theorem d_MD_decode_36 : decode b_MD_decode 36 = .ok (.iload 4, 2) := by decide +kernel
theorem d_MD_decode_38 : decode b_MD_decode 38 = .ok (.aload_n 0, 1) := by decide +kernel
theorem d_MD_decode_39 : decode b_MD_decode 39 = .ok (.getfield 112, 3) := by decide +kernel
theorem d_MD_decode_42 : decode b_MD_decode 42 = .ok (.if_icmp .ge 40, 3) := by decide +kernel
theorem d_MD_decode_45 : decode b_MD_decode 45 = .ok (.aload_n 0, 1) := by decide +kernel
theorem d_MD_decode_46 : decode b_MD_decode 46 = .ok (.iload 4, 2) := by decide +kernel
theorem d_MD_decode_48 : decode b_MD_decode 48 = .ok (.iload_n 1, 1) := by decide +kernel
theorem d_MD_decode_49 : decode b_MD_decode 49 = .ok (.invokevirtual 135, 3) := by decide +kernel
theorem d_MD_decode_52 : decode b_MD_decode 52 = .ok (.istore 5, 2) := by decide +kernel
theorem d_MD_decode_54 : decode b_MD_decode 54 = .ok (.iload 5, 2) := by decide +kernel
theorem d_MD_decode_56 : decode b_MD_decode 56 = .ok (.ifCond .ge 16, 3) := by decide +kernel
theorem d_MD_decode_59 : decode b_MD_decode 59 = .ok (.iconst 0, 1) := by decide +kernel
theorem d_MD_decode_60 : decode b_MD_decode 60 = .ok (.istore_n 3, 1) := by decide +kernel
theorem d_MD_decode_61 : decode b_MD_decode 61 = .ok (.aload_n 0, 1) := by decide +kernel
theorem d_MD_decode_62 : decode b_MD_decode 62 = .ok (.ldc 138, 2) := by decide +kernel
theorem d_MD_decode_64 : decode b_MD_decode 64 = .ok (.invokevirtual 64, 3) := by decide +kernel
theorem d_MD_decode_67 : decode b_MD_decode 67 = .ok (.iload 5, 2) := by decide +kernel
theorem d_MD_decode_69 : decode b_MD_decode 69 = .ok (.ineg, 1) := by decide +kernel
theorem d_MD_decode_70 : decode b_MD_decode 70 = .ok (.istore 5, 2) := by decide +kernel
theorem d_MD_decode_72 : decode b_MD_decode 72 = .ok (.iload 4, 2) := by decide +kernel
theorem d_MD_decode_74 : decode b_MD_decode 74 = .ok (.iload 5, 2) := by decide +kernel
theorem d_MD_decode_76 : decode b_MD_decode 76 = .ok (.iadd, 1) := by decide +kernel
theorem d_MD_decode_77 : decode b_MD_decode 77 = .ok (.istore 4, 2) := by decide +kernel
theorem d_MD_decode_79 : decode b_MD_decode 79 = .ok (.goto (-43), 3) := by decide +kernel
theorem d_MD_decode_82 : decode b_MD_decode 82 = .ok (.aload_n 0, 1) := by decide +kernel
theorem d_MD_decode_83 : decode b_MD_decode 83 = .ok (.iload_n 2, 1) := by decide +kernel
theorem d_MD_decode_84 : decode b_MD_decode 84 = .ok (.ifCond .eq 11, 3) := by decide +kernel
theorem d_MD_decode_87 : decode b_MD_decode 87 = .ok (.iload_n 3, 1) := by decide +kernel
theorem d_MD_decode_88 : decode b_MD_decode 88 = .ok (.ifCond .ne 7, 3) := by decide +kernel
theorem d_MD_decode_91 : decode b_MD_decode 91 = .ok (.iconst 2, 1) := by decide +kernel
theorem d_MD_decode_92 : decode b_MD_decode 92 = .ok (.goto 26, 3) := by decide +kernel
theorem d_MD_decode_95 : decode b_MD_decode 95 = .ok (.aload_n 0, 1) := by decide +kernel
theorem d_MD_decode_96 : decode b_MD_decode 96 = .ok (.getfield 55, 3) := by decide +kernel
theorem d_MD_decode_99 : decode b_MD_decode 99 = .ok (.bipush 60, 2) := by decide +kernel
theorem d_MD_decode_101 : decode b_MD_decode 101 = .ok (.if_icmp .gt 12, 3) := by decide +kernel
theorem d_MD_decode_104 : decode b_MD_decode 104 = .ok (.aload_n 0, 1) := by decide +kernel
theorem d_MD_decode_105 : decode b_MD_decode 105 = .ok (.getfield 58, 3) := by decide +kernel
theorem d_MD_decode_108 : decode b_MD_decode 108 = .ok (.bipush 24, 2) := by decide +kernel
theorem d_MD_decode_110 : decode b_MD_decode 110 = .ok (.if_icmp .ne 7, 3) := by decide +kernel
theorem d_MD_decode_113 : decode b_MD_decode 113 = .ok (.iconst 3, 1) := by decide +kernel
theorem d_MD_decode_114 : decode b_MD_decode 114 = .ok (.goto 4, 3) := by decide +kernel
theorem d_MD_decode_117 : decode b_MD_decode 117 = .ok (.iconst 0, 1) := by decide +kernel
theorem d_MD_decode_118 : decode b_MD_decode 118 = .ok (.putfield 31, 3) := by decide +kernel
theorem d_MD_decode_121 : decode b_MD_decode 121 = .ok (.aload_n 0, 1) := by decide +kernel
theorem d_MD_decode_122 : decode b_MD_decode 122 = .ok (.getfield 31, 3) := by decide +kernel
theorem d_MD_decode_125 : decode b_MD_decode 125 = .ok (.ifCond .le 5, 3) := by decide +kernel
theorem d_MD_decode_128 : decode b_MD_decode 128 = .ok (.iconst 0, 1) := by decide +kernel
theorem d_MD_decode_129 : decode b_MD_decode 129 = .ok (.ireturn, 1) := by decide +kernel
theorem d_MD_decode_130 : decode b_MD_decode 130 = .ok (.aload_n 0, 1) := by decide +kernel
theorem d_MD_decode_131 : decode b_MD_decode 131 = .ok (.iconst 0, 1) := by decide +kernel
theorem d_MD_decode_132 : decode b_MD_decode 132 = .ok (.putfield 112, 3) := by decide +kernel
theorem d_MD_decode_135 : decode b_MD_decode 135 = .ok (.aload_n 0, 1) := by decide +kernel
theorem d_MD_decode_136 : decode b_MD_decode 136 = .ok (.invokevirtual 78, 3) := by decide +kernel
theorem d_MD_decode_139 : decode b_MD_decode 139 = .ok (.ireturn, 1) := by decide +kernel
theorem d_MD_readAt_0 : decode b_MD_readAt 0 = .ok (.aload_n 0, 1) := by decide +kernel
theorem d_MD_readAt_1 : decode b_MD_readAt 1 = .ok (.getfield 22, 3) := by decide +kernel
theorem d_MD_readAt_4 : decode b_MD_readAt 4 = .ok (.iload_n 1, 1) := by decide +kernel
theorem d_MD_readAt_5 : decode b_MD_readAt 5 = .ok (.iaload, 1) := by decide +kernel
theorem d_MD_readAt_6 : decode b_MD_readAt 6 = .ok (.istore_n 3, 1) := by decide +kernel
theorem d_MD_readAt_7 : decode b_MD_readAt 7 = .ok (.iload_n 2, 1) := by decide +kernel
theorem d_MD_readAt_8 : decode b_MD_readAt 8 = .ok (.iconst 4, 1) := by decide +kernel
theorem d_MD_readAt_9 : decode b_MD_readAt 9 = .ok (.if_icmp .eq 23, 3) := by decide +kernel
theorem d_MD_readAt_12 : decode b_MD_readAt 12 = .ok (.iload_n 2, 1) := by decide +kernel
theorem d_MD_readAt_13 : decode b_MD_readAt 13 = .ok (.iconst 2, 1) := by decide +kernel
theorem d_MD_readAt_14 : decode b_MD_readAt 14 = .ok (.if_icmp .ge 25, 3) := by decide +kernel
theorem d_MD_readAt_17 : decode b_MD_readAt 17 = .ok (.iload_n 3, 1) := by decide +kernel
theorem d_MD_readAt_18 : decode b_MD_readAt 18 = .ok (.sipush 128, 3) := by decide +kernel
theorem d_MD_readAt_21 : decode b_MD_readAt 21 = .ok (.if_icmp .ge 18, 3) := by decide +kernel
theorem d_MD_readAt_24 : decode b_MD_readAt 24 = .ok (.iload_n 3, 1) := by decide +kernel
theorem d_MD_readAt_25 : decode b_MD_readAt 25 = .ok (.ifCond .gt 7, 3) := by decide +kernel
theorem d_MD_readAt_28 : decode b_MD_readAt 28 = .ok (.iload_n 2, 1) := by decide +kernel
theorem d_MD_readAt_29 : decode b_MD_readAt 29 = .ok (.ifCond .ne 10, 3) := by decide +kernel
theorem d_MD_readAt_32 : decode b_MD_readAt 32 = .ok (.aload_n 0, 1) := by decide +kernel
theorem d_MD_readAt_33 : decode b_MD_readAt 33 = .ok (.iload_n 3, 1) := by decide +kernel
theorem d_MD_readAt_34 : decode b_MD_readAt 34 = .ok (.invokevirtual 64, 3) := by decide +kernel
theorem d_MD_readAt_37 : decode b_MD_readAt 37 = .ok (.iconst 1, 1) := by decide +kernel
theorem d_MD_readAt_38 : decode b_MD_readAt 38 = .ok (.ireturn, 1) := by decide +kernel
theorem d_MD_readAt_39 : decode b_MD_readAt 39 = .ok (.iload_n 2, 1) := by decide +kernel
theorem d_MD_readAt_40 : decode b_MD_readAt 40 = .ok (.iconst 1, 1) := by decide +kernel
theorem d_MD_readAt_41 : decode b_MD_readAt 41 = .ok (.if_icmp .le 57, 3) := by decide +kernel
theorem d_MD_readAt_44 : decode b_MD_readAt 44 = .ok (.iload_n 1, 1) := by decide +kernel
theorem d_MD_readAt_45 : decode b_MD_readAt 45 = .ok (.iconst 1, 1) := by decide +kernel
theorem d_MD_readAt_46 : decode b_MD_readAt 46 = .ok (.iadd, 1) := by decide +kernel
theorem d_MD_readAt_47 : decode b_MD_readAt 47 = .ok (.aload_n 0, 1) := by decide +kernel
theorem d_MD_readAt_48 : decode b_MD_readAt 48 = .ok (.getfield 112, 3) := by decide +kernel
theorem d_MD_readAt_51 : decode b_MD_readAt 51 = .ok (.if_icmp .ne 5, 3) := by decide +kernel
theorem d_MD_readAt_54 : decode b_MD_readAt 54 = .ok (.iconst (-1), 1) := by decide +kernel
theorem d_MD_readAt_55 : decode b_MD_readAt 55 = .ok (.ireturn, 1) := by decide +kernel
theorem d_MD_readAt_56 : decode b_MD_readAt 56 = .ok (.aload_n 0, 1) := by decide +kernel
theorem d_MD_readAt_57 : decode b_MD_readAt 57 = .ok (.iload_n 2, 1) := by decide +kernel
theorem d_MD_readAt_58 : decode b_MD_readAt 58 = .ok (.iconst 2, 1) := by decide +kernel
theorem d_MD_readAt_59 : decode b_MD_readAt 59 = .ok (.if_icmp .ne 20, 3) := by decide +kernel
theorem d_MD_readAt_62 : decode b_MD_readAt 62 = .ok (.sipush 256, 3) := by decide +kernel
theorem d_MD_readAt_65 : decode b_MD_readAt 65 = .ok (.iload_n 3, 1) := by decide +kernel
theorem d_MD_readAt_66 : decode b_MD_readAt 66 = .ok (.imul, 1) := by decide +kernel
theorem d_MD_readAt_67 : decode b_MD_readAt 67 = .ok (.aload_n 0, 1) := by decide +kernel
theorem d_MD_readAt_68 : decode b_MD_readAt 68 = .ok (.getfield 22, 3) := by decide +kernel
theorem d_MD_readAt_71 : decode b_MD_readAt 71 = .ok (.iload_n 1, 1) := by decide +kernel
theorem d_MD_readAt_72 : decode b_MD_readAt 72 = .ok (.iconst 1, 1) := by decide +kernel
theorem d_MD_readAt_73 : decode b_MD_readAt 73 = .ok (.iadd, 1) := by decide +kernel
theorem d_MD_readAt_74 : decode b_MD_readAt 74 = .ok (.iaload, 1) := by decide +kernel
theorem d_MD_readAt_75 : decode b_MD_readAt 75 = .ok (.iadd, 1) := by decide +kernel
theorem d_MD_readAt_76 : decode b_MD_readAt 76 = .ok (.goto 17, 3) := by decide +kernel
theorem d_MD_readAt_79 : decode b_MD_readAt 79 = .ok (.sipush 256, 3) := by decide +kernel
theorem d_MD_readAt_82 : decode b_MD_readAt 82 = .ok (.aload_n 0, 1) := by decide +kernel
theorem d_MD_readAt_83 : decode b_MD_readAt 83 = .ok (.getfield 22, 3) := by decide +kernel
theorem d_MD_readAt_86 : decode b_MD_readAt 86 = .ok (.iload_n 1, 1) := by decide +kernel
theorem d_MD_readAt_87 : decode b_MD_readAt 87 = .ok (.iconst 1, 1) := by decide +kernel
theorem d_MD_readAt_88 : decode b_MD_readAt 88 = .ok (.iadd, 1) := by decide +kernel
theorem d_MD_readAt_89 : decode b_MD_readAt 89 = .ok (.iaload, 1) := by decide +kernel
theorem d_MD_readAt_90 : decode b_MD_readAt 90 = .ok (.imul, 1) := by decide +kernel
theorem d_MD_readAt_91 : decode b_MD_readAt 91 = .ok (.iload_n 3, 1) := by decide +kernel
theorem d_MD_readAt_92 : decode b_MD_readAt 92 = .ok (.iadd, 1) := by decide +kernel
theorem d_MD_readAt_93 : decode b_MD_readAt 93 = .ok (.invokevirtual 64, 3) := by decide +kernel
theorem d_MD_readAt_96 : decode b_MD_readAt 96 = .ok (.iconst 2, 1) := by decide +kernel
theorem d_MD_readAt_97 : decode b_MD_readAt 97 = .ok (.ireturn, 1) := by decide +kernel
theorem d_MD_readAt_98 : decode b_MD_readAt 98 = .ok (.iload_n 2, 1) := by decide +kernel
theorem d_MD_readAt_99 : decode b_MD_readAt 99 = .ok (.iconst 1, 1) := by decide +kernel
theorem d_MD_readAt_100 : decode b_MD_readAt 100 = .ok (.if_icmp .ne 7, 3) := by decide +kernel
theorem d_MD_readAt_103 : decode b_MD_readAt 103 = .ok (.iconst 1, 1) := by decide +kernel
theorem d_MD_readAt_104 : decode b_MD_readAt 104 = .ok (.goto 4, 3) := by decide +kernel
theorem d_MD_readAt_107 : decode b_MD_readAt 107 = .ok (.iconst 0, 1) := by decide +kernel
theorem d_MD_readAt_108 : decode b_MD_readAt 108 = .ok (.istore 4, 2) := by decide +kernel
theorem d_MD_readAt_110 : decode b_MD_readAt 110 = .ok (.iload 4, 2) := by decide +kernel
theorem d_MD_readAt_112 : decode b_MD_readAt 112 = .ok (.ifCond .eq 41, 3) := by decide +kernel
theorem d_MD_readAt_115 : decode b_MD_readAt 115 = .ok (.iload_n 3, 1) := by decide +kernel
theorem d_MD_readAt_116 : decode b_MD_readAt 116 = .ok (.sipush 192, 3) := by decide +kernel
theorem d_MD_readAt_119 : decode b_MD_readAt 119 = .ok (.if_icmp .ne 34, 3) := by decide +kernel
theorem d_MD_readAt_122 : decode b_MD_readAt 122 = .ok (.iload_n 1, 1) := by decide +kernel
theorem d_MD_readAt_123 : decode b_MD_readAt 123 = .ok (.iconst 1, 1) := by decide +kernel
theorem d_MD_readAt_124 : decode b_MD_readAt 124 = .ok (.iadd, 1) := by decide +kernel
theorem d_MD_readAt_125 : decode b_MD_readAt 125 = .ok (.aload_n 0, 1) := by decide +kernel
theorem d_MD_readAt_126 : decode b_MD_readAt 126 = .ok (.getfield 112, 3) := by decide +kernel
theorem d_MD_readAt_129 : decode b_MD_readAt 129 = .ok (.if_icmp .ge 24, 3) := by decide +kernel
theorem d_MD_readAt_132 : decode b_MD_readAt 132 = .ok (.aload_n 0, 1) := by decide +kernel
theorem d_MD_readAt_133 : decode b_MD_readAt 133 = .ok (.getfield 22, 3) := by decide +kernel
theorem d_MD_readAt_136 : decode b_MD_readAt 136 = .ok (.iload_n 1, 1) := by decide +kernel
theorem d_MD_readAt_137 : decode b_MD_readAt 137 = .ok (.iconst 1, 1) := by decide +kernel
theorem d_MD_readAt_138 : decode b_MD_readAt 138 = .ok (.iadd, 1) := by decide +kernel
theorem d_MD_readAt_139 : decode b_MD_readAt 139 = .ok (.iaload, 1) := by decide +kernel
theorem d_MD_readAt_140 : decode b_MD_readAt 140 = .ok (.sipush 128, 3) := by decide +kernel
theorem d_MD_readAt_143 : decode b_MD_readAt 143 = .ok (.if_icmp .ne 10, 3) := by decide +kernel
theorem d_MD_readAt_146 : decode b_MD_readAt 146 = .ok (.aload_n 0, 1) := by decide +kernel
theorem d_MD_readAt_147 : decode b_MD_readAt 147 = .ok (.iconst 0, 1) := by decide +kernel
theorem d_MD_readAt_148 : decode b_MD_readAt 148 = .ok (.invokevirtual 64, 3) := by decide +kernel
theorem d_MD_readAt_151 : decode b_MD_readAt 151 = .ok (.iconst 2, 1) := by decide +kernel
theorem d_MD_readAt_152 : decode b_MD_readAt 152 = .ok (.ireturn, 1) := by decide +kernel
theorem d_MD_readAt_153 : decode b_MD_readAt 153 = .ok (.iload_n 3, 1) := by decide +kernel
theorem d_MD_readAt_154 : decode b_MD_readAt 154 = .ok (.sipush 192, 3) := by decide +kernel
theorem d_MD_readAt_157 : decode b_MD_readAt 157 = .ok (.if_icmp .ge 7, 3) := by decide +kernel
theorem d_MD_readAt_160 : decode b_MD_readAt 160 = .ok (.iconst 0, 1) := by decide +kernel
theorem d_MD_readAt_161 : decode b_MD_readAt 161 = .ok (.goto 42, 3) := by decide +kernel
theorem d_MD_readAt_164 : decode b_MD_readAt 164 = .ok (.iload_n 3, 1) := by decide +kernel
theorem d_MD_readAt_165 : decode b_MD_readAt 165 = .ok (.sipush 224, 3) := by decide +kernel
theorem d_MD_readAt_168 : decode b_MD_readAt 168 = .ok (.if_icmp .ge 7, 3) := by decide +kernel
theorem d_MD_readAt_171 : decode b_MD_readAt 171 = .ok (.iconst 1, 1) := by decide +kernel
theorem d_MD_readAt_172 : decode b_MD_readAt 172 = .ok (.goto 31, 3) := by decide +kernel
theorem d_MD_readAt_175 : decode b_MD_readAt 175 = .ok (.iload_n 3, 1) := by decide +kernel
theorem d_MD_readAt_176 : decode b_MD_readAt 176 = .ok (.sipush 240, 3) := by decide +kernel
theorem d_MD_readAt_179 : decode b_MD_readAt 179 = .ok (.if_icmp .ge 7, 3) := by decide +kernel
theorem d_MD_readAt_182 : decode b_MD_readAt 182 = .ok (.iconst 2, 1) := by decide +kernel
theorem d_MD_readAt_183 : decode b_MD_readAt 183 = .ok (.goto 20, 3) := by decide +kernel
theorem d_MD_readAt_186 : decode b_MD_readAt 186 = .ok (.iload_n 3, 1) := by decide +kernel
theorem d_MD_readAt_187 : decode b_MD_readAt 187 = .ok (.sipush 248, 3) := by decide +kernel
theorem d_MD_readAt_190 : decode b_MD_readAt 190 = .ok (.if_icmp .ge 12, 3) := by decide +kernel
theorem d_MD_readAt_193 : decode b_MD_readAt 193 = .ok (.iload 4, 2) := by decide +kernel
theorem d_MD_readAt_195 : decode b_MD_readAt 195 = .ok (.ifCond .ne 7, 3) := by decide +kernel
theorem d_MD_readAt_198 : decode b_MD_readAt 198 = .ok (.iconst 3, 1) := by decide +kernel
theorem d_MD_readAt_199 : decode b_MD_readAt 199 = .ok (.goto 4, 3) := by decide +kernel
theorem d_MD_readAt_202 : decode b_MD_readAt 202 = .ok (.iconst 0, 1) := by decide +kernel
theorem d_MD_readAt_203 : decode b_MD_readAt 203 = .ok (.istore 5, 2) := by decide +kernel
theorem d_MD_readAt_205 : decode b_MD_readAt 205 = .ok (.iload 5, 2) := by decide +kernel
theorem d_MD_readAt_207 : decode b_MD_readAt 207 = .ok (.ifCond .ne 5, 3) := by decide +kernel
theorem d_MD_readAt_210 : decode b_MD_readAt 210 = .ok (.iconst (-1), 1) := by decide +kernel
theorem d_MD_readAt_211 : decode b_MD_readAt 211 = .ok (.ireturn, 1) := by decide +kernel
theorem d_MD_readAt_212 : decode b_MD_readAt 212 = .ok (.aload_n 0, 1) := by decide +kernel
theorem d_MD_readAt_213 : decode b_MD_readAt 213 = .ok (.iload_n 1, 1) := by decide +kernel
theorem d_MD_readAt_214 : decode b_MD_readAt 214 = .ok (.iload 5, 2) := by decide +kernel
theorem d_MD_readAt_216 : decode b_MD_readAt 216 = .ok (.iload 4, 2) := by decide +kernel
theorem d_MD_readAt_218 : decode b_MD_readAt 218 = .ok (.invokevirtual 131, 3) := by decide +kernel
theorem d_MD_readAt_221 : decode b_MD_readAt 221 = .ok (.istore 6, 2) := by decide +kernel
theorem d_MD_readAt_223 : decode b_MD_readAt 223 = .ok (.iload 6, 2) := by decide +kernel
theorem d_MD_readAt_225 : decode b_MD_readAt 225 = .ok (.iload 5, 2) := by decide +kernel
theorem d_MD_readAt_227 : decode b_MD_readAt 227 = .ok (.if_icmp .gt 7, 3) := by decide +kernel
theorem d_MD_readAt_230 : decode b_MD_readAt 230 = .ok (.iload 6, 2) := by decide +kernel
theorem d_MD_readAt_232 : decode b_MD_readAt 232 = .ok (.ineg, 1) := by decide +kernel
theorem d_MD_readAt_233 : decode b_MD_readAt 233 = .ok (.ireturn, 1) := by decide +kernel
theorem d_MD_readAt_234 : decode b_MD_readAt 234 = .ok (.aload_n 0, 1) := by decide +kernel
theorem d_MD_readAt_235 : decode b_MD_readAt 235 = .ok (.iload_n 1, 1) := by decide +kernel
theorem d_MD_readAt_236 : decode b_MD_readAt 236 = .ok (.iload 5, 2) := by decide +kernel
theorem d_MD_readAt_238 : decode b_MD_readAt 238 = .ok (.iconst 0, 1) := by decide +kernel
theorem d_MD_readAt_239 : decode b_MD_readAt 239 = .ok (.invokevirtual 121, 3) := by decide +kernel
theorem d_MD_readAt_242 : decode b_MD_readAt 242 = .ok (.istore 7, 2) := by decide +kernel
theorem d_MD_readAt_244 : decode b_MD_readAt 244 = .ok (.iload 7, 2) := by decide +kernel
theorem d_MD_readAt_246 : decode b_MD_readAt 246 = .ok (.ldc 119, 2) := by decide +kernel
theorem d_MD_readAt_248 : decode b_MD_readAt 248 = .ok (.if_icmp .le 19, 3) := by decide +kernel
theorem d_MD_readAt_251 : decode b_MD_readAt 251 = .ok (.aload_n 0, 1) := by decide +kernel
theorem d_MD_readAt_252 : decode b_MD_readAt 252 = .ok (.ldc 35, 2) := by decide +kernel
theorem d_MD_readAt_254 : decode b_MD_readAt 254 = .ok (.iload 7, 2) := by decide +kernel
theorem d_MD_readAt_256 : decode b_MD_readAt 256 = .ok (.ldc 54, 2) := by decide +kernel
theorem d_MD_readAt_258 : decode b_MD_readAt 258 = .ok (.isub, 1) := by decide +kernel
theorem d_MD_readAt_259 : decode b_MD_readAt 259 = .ok (.sipush 1024, 3) := by decide +kernel
theorem d_MD_readAt_262 : decode b_MD_readAt 262 = .ok (.idiv, 1) := by decide +kernel
theorem d_MD_readAt_263 : decode b_MD_readAt 263 = .ok (.iadd, 1) := by decide +kernel
theorem d_MD_readAt_264 : decode b_MD_readAt 264 = .ok (.invokevirtual 64, 3) := by decide +kernel
theorem d_MD_readAt_267 : decode b_MD_readAt 267 = .ok (.aload_n 0, 1) := by decide +kernel
theorem d_MD_readAt_268 : decode b_MD_readAt 268 = .ok (.iload 7, 2) := by decide +kernel
theorem d_MD_readAt_270 : decode b_MD_readAt 270 = .ok (.ldc 119, 2) := by decide +kernel
theorem d_MD_readAt_272 : decode b_MD_readAt 272 = .ok (.if_icmp .le 18, 3) := by decide +kernel
theorem d_MD_readAt_275 : decode b_MD_readAt 275 = .ok (.ldc 37, 2) := by decide +kernel
theorem d_MD_readAt_277 : decode b_MD_readAt 277 = .ok (.iload 7, 2) := by decide +kernel
theorem d_MD_readAt_279 : decode b_MD_readAt 279 = .ok (.ldc 54, 2) := by decide +kernel
theorem d_MD_readAt_281 : decode b_MD_readAt 281 = .ok (.isub, 1) := by decide +kernel
theorem d_MD_readAt_282 : decode b_MD_readAt 282 = .ok (.sipush 1024, 3) := by decide +kernel
theorem d_MD_readAt_285 : decode b_MD_readAt 285 = .ok (.irem, 1) := by decide +kernel
theorem d_MD_readAt_286 : decode b_MD_readAt 286 = .ok (.iadd, 1) := by decide +kernel
theorem d_MD_readAt_287 : decode b_MD_readAt 287 = .ok (.goto 5, 3) := by decide +kernel
theorem d_MD_readAt_290 : decode b_MD_readAt 290 = .ok (.iload 7, 2) := by decide +kernel
theorem d_MD_readAt_292 : decode b_MD_readAt 292 = .ok (.invokevirtual 64, 3) := by decide +kernel
theorem d_MD_readAt_295 : decode b_MD_readAt 295 = .ok (.iload 5, 2) := by decide +kernel
theorem d_MD_readAt_297 : decode b_MD_readAt 297 = .ok (.iconst 1, 1) := by decide +kernel
theorem d_MD_readAt_298 : decode b_MD_readAt 298 = .ok (.iadd, 1) := by decide +kernel
theorem d_MD_readAt_299 : decode b_MD_readAt 299 = .ok (.ireturn, 1) := by decide +kernel
theorem d_MD_begun_0 : decode b_MD_begun 0 = .ok (.iconst 1, 1) := by decide +kernel
theorem d_MD_begun_1 : decode b_MD_begun 1 = .ok (.istore 4, 2) := by decide +kernel
theorem d_MD_begun_3 : decode b_MD_begun 3 = .ok (.iconst 0, 1) := by decide +kernel
theorem d_MD_begun_4 : decode b_MD_begun 4 = .ok (.istore 5, 2) := by decide +kernel
theorem d_MD_begun_6 : decode b_MD_begun 6 = .ok (.iload 5, 2) := by decide +kernel
theorem d_MD_begun_8 : decode b_MD_begun 8 = .ok (.bipush 64, 2) := by decide +kernel
theorem d_MD_begun_10 : decode b_MD_begun 10 = .ok (.if_icmp .ge 58, 3) := by decide +kernel
theorem d_MD_begun_13 : decode b_MD_begun 13 = .ok (.aload_n 0, 1) := by decide +kernel
theorem d_MD_begun_14 : decode b_MD_begun 14 = .ok (.iload_n 1, 1) := by decide +kernel
theorem d_MD_begun_15 : decode b_MD_begun 15 = .ok (.iload_n 2, 1) := by decide +kernel
theorem d_MD_begun_16 : decode b_MD_begun 16 = .ok (.iload 5, 2) := by decide +kernel
theorem d_MD_begun_18 : decode b_MD_begun 18 = .ok (.invokevirtual 121, 3) := by decide +kernel
theorem d_MD_begun_21 : decode b_MD_begun 21 = .ok (.istore 6, 2) := by decide +kernel
theorem d_MD_begun_23 : decode b_MD_begun 23 = .ok (.iload 6, 2) := by decide +kernel
theorem d_MD_begun_25 : decode b_MD_begun 25 = .ok (.iload_n 2, 1) := by decide +kernel
theorem d_MD_begun_26 : decode b_MD_begun 26 = .ok (.iload_n 3, 1) := by decide +kernel
theorem d_MD_begun_27 : decode b_MD_begun 27 = .ok (.invokestatic 124, 3) := by decide +kernel
theorem d_MD_begun_30 : decode b_MD_begun 30 = .ok (.ifCond .eq 32, 3) := by decide +kernel
theorem d_MD_begun_33 : decode b_MD_begun 33 = .ok (.aload_n 0, 1) := by decide +kernel
theorem d_MD_begun_34 : decode b_MD_begun 34 = .ok (.iload 6, 2) := by decide +kernel
theorem d_MD_begun_36 : decode b_MD_begun 36 = .ok (.invokevirtual 106, 3) := by decide +kernel
theorem d_MD_begun_39 : decode b_MD_begun 39 = .ok (.aload_n 0, 1) := by decide +kernel
theorem d_MD_begun_40 : decode b_MD_begun 40 = .ok (.iload_n 1, 1) := by decide +kernel
theorem d_MD_begun_41 : decode b_MD_begun 41 = .ok (.invokevirtual 128, 3) := by decide +kernel
theorem d_MD_begun_44 : decode b_MD_begun 44 = .ok (.istore 7, 2) := by decide +kernel
theorem d_MD_begun_46 : decode b_MD_begun 46 = .ok (.iload 7, 2) := by decide +kernel
theorem d_MD_begun_48 : decode b_MD_begun 48 = .ok (.iload 4, 2) := by decide +kernel
theorem d_MD_begun_50 : decode b_MD_begun 50 = .ok (.if_icmp .le 8, 3) := by decide +kernel
theorem d_MD_begun_53 : decode b_MD_begun 53 = .ok (.iload 7, 2) := by decide +kernel
theorem d_MD_begun_55 : decode b_MD_begun 55 = .ok (.goto 5, 3) := by decide +kernel
theorem d_MD_begun_58 : decode b_MD_begun 58 = .ok (.iload 4, 2) := by decide +kernel
theorem d_MD_begun_60 : decode b_MD_begun 60 = .ok (.istore 4, 2) := by decide +kernel
theorem d_MD_begun_62 : decode b_MD_begun 62 = .ok (.iinc 5 1, 3) := by decide +kernel
theorem d_MD_begun_65 : decode b_MD_begun 65 = .ok (.goto (-59), 3) := by decide +kernel
theorem d_MD_begun_68 : decode b_MD_begun 68 = .ok (.iload 4, 2) := by decide +kernel
theorem d_MD_begun_70 : decode b_MD_begun 70 = .ok (.ireturn, 1) := by decide +kernel
theorem d_MD_guess_0 : decode b_MD_guess 0 = .ok (.aload_n 0, 1) := by decide +kernel
theorem d_MD_guess_1 : decode b_MD_guess 1 = .ok (.getfield 22, 3) := by decide +kernel
theorem d_MD_guess_4 : decode b_MD_guess 4 = .ok (.iload_n 1, 1) := by decide +kernel
theorem d_MD_guess_5 : decode b_MD_guess 5 = .ok (.iaload, 1) := by decide +kernel
theorem d_MD_guess_6 : decode b_MD_guess 6 = .ok (.istore 4, 2) := by decide +kernel
theorem d_MD_guess_8 : decode b_MD_guess 8 = .ok (.iload_n 2, 1) := by decide +kernel
theorem d_MD_guess_9 : decode b_MD_guess 9 = .ok (.iconst 1, 1) := by decide +kernel
theorem d_MD_guess_10 : decode b_MD_guess 10 = .ok (.if_icmp .ne 11, 3) := by decide +kernel
theorem d_MD_guess_13 : decode b_MD_guess 13 = .ok (.iload 4, 2) := by decide +kernel
theorem d_MD_guess_15 : decode b_MD_guess 15 = .ok (.bipush 32, 2) := by decide +kernel
theorem d_MD_guess_17 : decode b_MD_guess 17 = .ok (.irem, 1) := by decide +kernel
theorem d_MD_guess_18 : decode b_MD_guess 18 = .ok (.goto 21, 3) := by decide +kernel
theorem d_MD_guess_21 : decode b_MD_guess 21 = .ok (.iload_n 2, 1) := by decide +kernel
theorem d_MD_guess_22 : decode b_MD_guess 22 = .ok (.iconst 2, 1) := by decide +kernel
theorem d_MD_guess_23 : decode b_MD_guess 23 = .ok (.if_icmp .ne 11, 3) := by decide +kernel
theorem d_MD_guess_26 : decode b_MD_guess 26 = .ok (.iload 4, 2) := by decide +kernel
theorem d_MD_guess_28 : decode b_MD_guess 28 = .ok (.bipush 16, 2) := by decide +kernel
theorem d_MD_guess_30 : decode b_MD_guess 30 = .ok (.irem, 1) := by decide +kernel
theorem d_MD_guess_31 : decode b_MD_guess 31 = .ok (.goto 8, 3) := by decide +kernel
theorem d_MD_guess_34 : decode b_MD_guess 34 = .ok (.iload 4, 2) := by decide +kernel
theorem d_MD_guess_36 : decode b_MD_guess 36 = .ok (.bipush 8, 2) := by decide +kernel
theorem d_MD_guess_38 : decode b_MD_guess 38 = .ok (.irem, 1) := by decide +kernel
theorem d_MD_guess_39 : decode b_MD_guess 39 = .ok (.istore 5, 2) := by decide +kernel
theorem d_MD_guess_41 : decode b_MD_guess 41 = .ok (.iconst 1, 1) := by decide +kernel
theorem d_MD_guess_42 : decode b_MD_guess 42 = .ok (.istore 6, 2) := by decide +kernel
theorem d_MD_guess_44 : decode b_MD_guess 44 = .ok (.iconst 1, 1) := by decide +kernel
theorem d_MD_guess_45 : decode b_MD_guess 45 = .ok (.istore 7, 2) := by decide +kernel
theorem d_MD_guess_47 : decode b_MD_guess 47 = .ok (.iload 7, 2) := by decide +kernel
theorem d_MD_guess_49 : decode b_MD_guess 49 = .ok (.iload_n 2, 1) := by decide +kernel
theorem d_MD_guess_50 : decode b_MD_guess 50 = .ok (.if_icmp .gt 92, 3) := by decide +kernel
theorem d_MD_guess_53 : decode b_MD_guess 53 = .ok (.iload 6, 2) := by decide +kernel
theorem d_MD_guess_55 : decode b_MD_guess 55 = .ok (.ifCond .eq 48, 3) := by decide +kernel
theorem d_MD_guess_58 : decode b_MD_guess 58 = .ok (.iload_n 1, 1) := by decide +kernel
theorem d_MD_guess_59 : decode b_MD_guess 59 = .ok (.iload 7, 2) := by decide +kernel
theorem d_MD_guess_61 : decode b_MD_guess 61 = .ok (.iadd, 1) := by decide +kernel
theorem d_MD_guess_62 : decode b_MD_guess 62 = .ok (.aload_n 0, 1) := by decide +kernel
theorem d_MD_guess_63 : decode b_MD_guess 63 = .ok (.getfield 112, 3) := by decide +kernel
theorem d_MD_guess_66 : decode b_MD_guess 66 = .ok (.if_icmp .ge 37, 3) := by decide +kernel
theorem d_MD_guess_69 : decode b_MD_guess 69 = .ok (.aload_n 0, 1) := by decide +kernel
theorem d_MD_guess_70 : decode b_MD_guess 70 = .ok (.getfield 22, 3) := by decide +kernel
theorem d_MD_guess_73 : decode b_MD_guess 73 = .ok (.iload_n 1, 1) := by decide +kernel
theorem d_MD_guess_74 : decode b_MD_guess 74 = .ok (.iload 7, 2) := by decide +kernel
theorem d_MD_guess_76 : decode b_MD_guess 76 = .ok (.iadd, 1) := by decide +kernel
theorem d_MD_guess_77 : decode b_MD_guess 77 = .ok (.iaload, 1) := by decide +kernel
theorem d_MD_guess_78 : decode b_MD_guess 78 = .ok (.sipush 128, 3) := by decide +kernel
theorem d_MD_guess_81 : decode b_MD_guess 81 = .ok (.if_icmp .lt 22, 3) := by decide +kernel
theorem d_MD_guess_84 : decode b_MD_guess 84 = .ok (.aload_n 0, 1) := by decide +kernel
theorem d_MD_guess_85 : decode b_MD_guess 85 = .ok (.getfield 22, 3) := by decide +kernel
theorem d_MD_guess_88 : decode b_MD_guess 88 = .ok (.iload_n 1, 1) := by decide +kernel
theorem d_MD_guess_89 : decode b_MD_guess 89 = .ok (.iload 7, 2) := by decide +kernel
theorem d_MD_guess_91 : decode b_MD_guess 91 = .ok (.iadd, 1) := by decide +kernel
theorem d_MD_guess_92 : decode b_MD_guess 92 = .ok (.iaload, 1) := by decide +kernel
theorem d_MD_guess_93 : decode b_MD_guess 93 = .ok (.sipush 192, 3) := by decide +kernel
theorem d_MD_guess_96 : decode b_MD_guess 96 = .ok (.if_icmp .ge 7, 3) := by decide +kernel
theorem d_MD_guess_99 : decode b_MD_guess 99 = .ok (.iconst 1, 1) := by decide +kernel
theorem d_MD_guess_100 : decode b_MD_guess 100 = .ok (.goto 4, 3) := by decide +kernel
theorem d_MD_guess_103 : decode b_MD_guess 103 = .ok (.iconst 0, 1) := by decide +kernel
theorem d_MD_guess_104 : decode b_MD_guess 104 = .ok (.istore 6, 2) := by decide +kernel
theorem d_MD_guess_106 : decode b_MD_guess 106 = .ok (.bipush 64, 2) := by decide +kernel
theorem d_MD_guess_108 : decode b_MD_guess 108 = .ok (.iload 5, 2) := by decide +kernel
theorem d_MD_guess_110 : decode b_MD_guess 110 = .ok (.imul, 1) := by decide +kernel
theorem d_MD_guess_111 : decode b_MD_guess 111 = .ok (.iload 6, 2) := by decide +kernel
theorem d_MD_guess_113 : decode b_MD_guess 113 = .ok (.ifCond .eq 19, 3) := by decide +kernel
theorem d_MD_guess_116 : decode b_MD_guess 116 = .ok (.aload_n 0, 1) := by decide +kernel
theorem d_MD_guess_117 : decode b_MD_guess 117 = .ok (.getfield 22, 3) := by decide +kernel
theorem d_MD_guess_120 : decode b_MD_guess 120 = .ok (.iload_n 1, 1) := by decide +kernel
theorem d_MD_guess_121 : decode b_MD_guess 121 = .ok (.iload 7, 2) := by decide +kernel
theorem d_MD_guess_123 : decode b_MD_guess 123 = .ok (.iadd, 1) := by decide +kernel
theorem d_MD_guess_124 : decode b_MD_guess 124 = .ok (.iaload, 1) := by decide +kernel
theorem d_MD_guess_125 : decode b_MD_guess 125 = .ok (.sipush 128, 3) := by decide +kernel
theorem d_MD_guess_128 : decode b_MD_guess 128 = .ok (.isub, 1) := by decide +kernel
theorem d_MD_guess_129 : decode b_MD_guess 129 = .ok (.goto 4, 3) := by decide +kernel
theorem d_MD_guess_132 : decode b_MD_guess 132 = .ok (.iload_n 3, 1) := by decide +kernel
theorem d_MD_guess_133 : decode b_MD_guess 133 = .ok (.iadd, 1) := by decide +kernel
theorem d_MD_guess_134 : decode b_MD_guess 134 = .ok (.istore 5, 2) := by decide +kernel
theorem d_MD_guess_136 : decode b_MD_guess 136 = .ok (.iinc 7 1, 3) := by decide +kernel
theorem d_MD_guess_139 : decode b_MD_guess 139 = .ok (.goto (-92), 3) := by decide +kernel
theorem d_MD_guess_142 : decode b_MD_guess 142 = .ok (.iload 5, 2) := by decide +kernel
theorem d_MD_guess_144 : decode b_MD_guess 144 = .ok (.ireturn, 1) := by decide +kernel
theorem d_MD_may_0 : decode b_MD_may 0 = .ok (.iload_n 1, 1) := by decide +kernel
theorem d_MD_may_1 : decode b_MD_may 1 = .ok (.iconst 1, 1) := by decide +kernel
theorem d_MD_may_2 : decode b_MD_may 2 = .ok (.if_icmp .ne 9, 3) := by decide +kernel
theorem d_MD_may_5 : decode b_MD_may 5 = .ok (.sipush 128, 3) := by decide +kernel
theorem d_MD_may_8 : decode b_MD_may 8 = .ok (.goto 16, 3) := by decide +kernel
theorem d_MD_may_11 : decode b_MD_may 11 = .ok (.iload_n 1, 1) := by decide +kernel
theorem d_MD_may_12 : decode b_MD_may 12 = .ok (.iconst 2, 1) := by decide +kernel
theorem d_MD_may_13 : decode b_MD_may 13 = .ok (.if_icmp .ne 9, 3) := by decide +kernel
theorem d_MD_may_16 : decode b_MD_may 16 = .ok (.sipush 2048, 3) := by decide +kernel
theorem d_MD_may_19 : decode b_MD_may 19 = .ok (.goto 5, 3) := by decide +kernel
theorem d_MD_may_22 : decode b_MD_may 22 = .ok (.ldc 54, 2) := by decide +kernel
theorem d_MD_may_24 : decode b_MD_may 24 = .ok (.istore_n 3, 1) := by decide +kernel
theorem d_MD_may_25 : decode b_MD_may 25 = .ok (.iload_n 1, 1) := by decide +kernel
theorem d_MD_may_26 : decode b_MD_may 26 = .ok (.iconst 1, 1) := by decide +kernel
theorem d_MD_may_27 : decode b_MD_may 27 = .ok (.if_icmp .ne 9, 3) := by decide +kernel
theorem d_MD_may_30 : decode b_MD_may 30 = .ok (.sipush 2047, 3) := by decide +kernel
theorem d_MD_may_33 : decode b_MD_may 33 = .ok (.goto 15, 3) := by decide +kernel
theorem d_MD_may_36 : decode b_MD_may 36 = .ok (.iload_n 1, 1) := by decide +kernel
theorem d_MD_may_37 : decode b_MD_may 37 = .ok (.iconst 2, 1) := by decide +kernel
theorem d_MD_may_38 : decode b_MD_may 38 = .ok (.if_icmp .ne 8, 3) := by decide +kernel
theorem d_MD_may_41 : decode b_MD_may 41 = .ok (.ldc 119, 2) := by decide +kernel
theorem d_MD_may_43 : decode b_MD_may 43 = .ok (.goto 5, 3) := by decide +kernel
theorem d_MD_may_46 : decode b_MD_may 46 = .ok (.ldc 120, 2) := by decide +kernel
theorem d_MD_may_48 : decode b_MD_may 48 = .ok (.istore 4, 2) := by decide +kernel
theorem d_MD_may_50 : decode b_MD_may 50 = .ok (.iload_n 0, 1) := by decide +kernel
theorem d_MD_may_51 : decode b_MD_may 51 = .ok (.iload_n 3, 1) := by decide +kernel
theorem d_MD_may_52 : decode b_MD_may 52 = .ok (.if_icmp .lt 31, 3) := by decide +kernel
theorem d_MD_may_55 : decode b_MD_may 55 = .ok (.iload_n 0, 1) := by decide +kernel
theorem d_MD_may_56 : decode b_MD_may 56 = .ok (.iload 4, 2) := by decide +kernel
theorem d_MD_may_58 : decode b_MD_may 58 = .ok (.if_icmp .gt 25, 3) := by decide +kernel
theorem d_MD_may_61 : decode b_MD_may 61 = .ok (.iload_n 2, 1) := by decide +kernel
theorem d_MD_may_62 : decode b_MD_may 62 = .ok (.ifCond .ne 17, 3) := by decide +kernel
theorem d_MD_may_65 : decode b_MD_may 65 = .ok (.iload_n 0, 1) := by decide +kernel
theorem d_MD_may_66 : decode b_MD_may 66 = .ok (.invokestatic 43, 3) := by decide +kernel
theorem d_MD_may_69 : decode b_MD_may 69 = .ok (.ifCond .ne 14, 3) := by decide +kernel
theorem d_MD_may_72 : decode b_MD_may 72 = .ok (.iload_n 0, 1) := by decide +kernel
theorem d_MD_may_73 : decode b_MD_may 73 = .ok (.invokestatic 47, 3) := by decide +kernel
theorem d_MD_may_76 : decode b_MD_may 76 = .ok (.ifCond .ne 7, 3) := by decide +kernel
theorem d_MD_may_79 : decode b_MD_may 79 = .ok (.iconst 1, 1) := by decide +kernel
theorem d_MD_may_80 : decode b_MD_may 80 = .ok (.goto 4, 3) := by decide +kernel
theorem d_MD_may_83 : decode b_MD_may 83 = .ok (.iconst 0, 1) := by decide +kernel
theorem d_MD_may_84 : decode b_MD_may 84 = .ok (.ireturn, 1) := by decide +kernel
theorem d_MD_agree_0 : decode b_MD_agree 0 = .ok (.iconst 0, 1) := by decide +kernel
theorem d_MD_agree_1 : decode b_MD_agree 1 = .ok (.istore_n 2, 1) := by decide +kernel
theorem d_MD_agree_2 : decode b_MD_agree 2 = .ok (.iload_n 2, 1) := by decide +kernel
theorem d_MD_agree_3 : decode b_MD_agree 3 = .ok (.aload_n 0, 1) := by decide +kernel
theorem d_MD_agree_4 : decode b_MD_agree 4 = .ok (.getfield 99, 3) := by decide +kernel
theorem d_MD_agree_7 : decode b_MD_agree 7 = .ok (.if_icmp .ge 36, 3) := by decide +kernel
theorem d_MD_agree_10 : decode b_MD_agree 10 = .ok (.iload_n 1, 1) := by decide +kernel
theorem d_MD_agree_11 : decode b_MD_agree 11 = .ok (.iload_n 2, 1) := by decide +kernel
theorem d_MD_agree_12 : decode b_MD_agree 12 = .ok (.iadd, 1) := by decide +kernel
theorem d_MD_agree_13 : decode b_MD_agree 13 = .ok (.aload_n 0, 1) := by decide +kernel
theorem d_MD_agree_14 : decode b_MD_agree 14 = .ok (.getfield 112, 3) := by decide +kernel
theorem d_MD_agree_17 : decode b_MD_agree 17 = .ok (.if_icmp .ge 26, 3) := by decide +kernel
theorem d_MD_agree_20 : decode b_MD_agree 20 = .ok (.aload_n 0, 1) := by decide +kernel
theorem d_MD_agree_21 : decode b_MD_agree 21 = .ok (.getfield 22, 3) := by decide +kernel
theorem d_MD_agree_24 : decode b_MD_agree 24 = .ok (.iload_n 1, 1) := by decide +kernel
theorem d_MD_agree_25 : decode b_MD_agree 25 = .ok (.iload_n 2, 1) := by decide +kernel
theorem d_MD_agree_26 : decode b_MD_agree 26 = .ok (.iadd, 1) := by decide +kernel
theorem d_MD_agree_27 : decode b_MD_agree 27 = .ok (.iaload, 1) := by decide +kernel
theorem d_MD_agree_28 : decode b_MD_agree 28 = .ok (.aload_n 0, 1) := by decide +kernel
theorem d_MD_agree_29 : decode b_MD_agree 29 = .ok (.getfield 28, 3) := by decide +kernel
theorem d_MD_agree_32 : decode b_MD_agree 32 = .ok (.iload_n 2, 1) := by decide +kernel
theorem d_MD_agree_33 : decode b_MD_agree 33 = .ok (.iaload, 1) := by decide +kernel
theorem d_MD_agree_34 : decode b_MD_agree 34 = .ok (.if_icmp .ne 9, 3) := by decide +kernel
theorem d_MD_agree_37 : decode b_MD_agree 37 = .ok (.iinc 2 1, 3) := by decide +kernel
theorem d_MD_agree_40 : decode b_MD_agree 40 = .ok (.goto (-38), 3) := by decide +kernel
theorem d_MD_agree_43 : decode b_MD_agree 43 = .ok (.iload_n 2, 1) := by decide +kernel
theorem d_MD_agree_44 : decode b_MD_agree 44 = .ok (.ireturn, 1) := by decide +kernel
theorem d_MD_octet_0 : decode b_MD_octet 0 = .ok (.aload_n 0, 1) := by decide +kernel
theorem d_MD_octet_1 : decode b_MD_octet 1 = .ok (.iload_n 1, 1) := by decide +kernel
theorem d_MD_octet_2 : decode b_MD_octet 2 = .ok (.iconst (-1), 1) := by decide +kernel
theorem d_MD_octet_3 : decode b_MD_octet 3 = .ok (.if_icmp .lt 11, 3) := by decide +kernel
theorem d_MD_octet_6 : decode b_MD_octet 6 = .ok (.iload_n 1, 1) := by decide +kernel
theorem d_MD_octet_7 : decode b_MD_octet 7 = .ok (.aload_n 0, 1) := by decide +kernel
theorem d_MD_octet_8 : decode b_MD_octet 8 = .ok (.getfield 112, 3) := by decide +kernel
theorem d_MD_octet_11 : decode b_MD_octet 11 = .ok (.if_icmp .lt 7, 3) := by decide +kernel
theorem d_MD_octet_14 : decode b_MD_octet 14 = .ok (.iconst 1, 1) := by decide +kernel
theorem d_MD_octet_15 : decode b_MD_octet 15 = .ok (.goto 4, 3) := by decide +kernel
theorem d_MD_octet_18 : decode b_MD_octet 18 = .ok (.iconst 0, 1) := by decide +kernel
theorem d_MD_octet_19 : decode b_MD_octet 19 = .ok (.putfield 31, 3) := by decide +kernel
theorem d_MD_octet_22 : decode b_MD_octet 22 = .ok (.aload_n 0, 1) := by decide +kernel
theorem d_MD_octet_23 : decode b_MD_octet 23 = .ok (.getfield 31, 3) := by decide +kernel
theorem d_MD_octet_26 : decode b_MD_octet 26 = .ok (.ifCond .le 5, 3) := by decide +kernel
theorem d_MD_octet_29 : decode b_MD_octet 29 = .ok (.iconst 0, 1) := by decide +kernel
theorem d_MD_octet_30 : decode b_MD_octet 30 = .ok (.ireturn, 1) := by decide +kernel
theorem d_MD_octet_31 : decode b_MD_octet 31 = .ok (.iload_n 1, 1) := by decide +kernel
theorem d_MD_octet_32 : decode b_MD_octet 32 = .ok (.ifCond .ge 10, 3) := by decide +kernel
theorem d_MD_octet_35 : decode b_MD_octet 35 = .ok (.aload_n 0, 1) := by decide +kernel
theorem d_MD_octet_36 : decode b_MD_octet 36 = .ok (.getfield 112, 3) := by decide +kernel
theorem d_MD_octet_39 : decode b_MD_octet 39 = .ok (.goto 9, 3) := by decide +kernel
theorem d_MD_octet_42 : decode b_MD_octet 42 = .ok (.aload_n 0, 1) := by decide +kernel
theorem d_MD_octet_43 : decode b_MD_octet 43 = .ok (.getfield 22, 3) := by decide +kernel
theorem d_MD_octet_46 : decode b_MD_octet 46 = .ok (.iload_n 1, 1) := by decide +kernel
theorem d_MD_octet_47 : decode b_MD_octet 47 = .ok (.iaload, 1) := by decide +kernel
theorem d_MD_octet_48 : decode b_MD_octet 48 = .ok (.ireturn, 1) := by decide +kernel
theorem d_MD_clear_0 : decode b_MD_clear 0 = .ok (.aload_n 0, 1) := by decide +kernel
theorem d_MD_clear_1 : decode b_MD_clear 1 = .ok (.iconst 0, 1) := by decide +kernel
theorem d_MD_clear_2 : decode b_MD_clear 2 = .ok (.putfield 31, 3) := by decide +kernel
theorem d_MD_clear_5 : decode b_MD_clear 5 = .ok (.aload_n 0, 1) := by decide +kernel
theorem d_MD_clear_6 : decode b_MD_clear 6 = .ok (.iconst 0, 1) := by decide +kernel
theorem d_MD_clear_7 : decode b_MD_clear 7 = .ok (.putfield 58, 3) := by decide +kernel
theorem d_MD_clear_10 : decode b_MD_clear 10 = .ok (.aload_n 0, 1) := by decide +kernel
theorem d_MD_clear_11 : decode b_MD_clear 11 = .ok (.iconst 0, 1) := by decide +kernel
theorem d_MD_clear_12 : decode b_MD_clear 12 = .ok (.putfield 96, 3) := by decide +kernel
theorem d_MD_clear_15 : decode b_MD_clear 15 = .ok (.return_, 1) := by decide +kernel
