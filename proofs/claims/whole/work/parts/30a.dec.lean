theorem d_LW_unit_0 : decode b_LW_unit 0 = .ok (.aload_n 2, 1) := by decide +kernel
theorem d_LW_unit_1 : decode b_LW_unit 1 = .ok (.iconst 0, 1) := by decide +kernel
theorem d_LW_unit_2 : decode b_LW_unit 2 = .ok (.aload_n 0, 1) := by decide +kernel
theorem d_LW_unit_3 : decode b_LW_unit 3 = .ok (.iload_n 1, 1) := by decide +kernel
theorem d_LW_unit_4 : decode b_LW_unit 4 = .ok (.invokevirtual 7, 3) := by decide +kernel
theorem d_LW_unit_7 : decode b_LW_unit 7 = .ok (.i2l, 1) := by decide +kernel
theorem d_LW_unit_8 : decode b_LW_unit 8 = .ok (.lastore, 1) := by decide +kernel
theorem d_LW_unit_9 : decode b_LW_unit 9 = .ok (.goto 9, 3) := by decide +kernel
theorem d_LW_unit_12 : decode b_LW_unit 12 = .ok (.astore_n 3, 1) := by decide +kernel
theorem d_LW_unit_13 : decode b_LW_unit 13 = .ok (.iconst 1, 1) := by decide +kernel
theorem d_LW_unit_14 : decode b_LW_unit 14 = .ok (.ireturn, 1) := by decide +kernel
theorem d_LW_unit_15 : decode b_LW_unit 15 = .ok (.astore_n 3, 1) := by decide +kernel
theorem d_LW_unit_16 : decode b_LW_unit 16 = .ok (.iconst 2, 1) := by decide +kernel
theorem d_LW_unit_17 : decode b_LW_unit 17 = .ok (.ireturn, 1) := by decide +kernel
theorem d_LW_unit_18 : decode b_LW_unit 18 = .ok (.iconst 0, 1) := by decide +kernel
theorem d_LW_unit_19 : decode b_LW_unit 19 = .ok (.ireturn, 1) := by decide +kernel
theorem d_LW_insert_0 : decode b_LW_insert 0 = .ok (.aload_n 3, 1) := by decide +kernel
theorem d_LW_insert_1 : decode b_LW_insert 1 = .ok (.iconst 0, 1) := by decide +kernel
theorem d_LW_insert_2 : decode b_LW_insert 2 = .ok (.aload_n 0, 1) := by decide +kernel
theorem d_LW_insert_3 : decode b_LW_insert 3 = .ok (.iload_n 1, 1) := by decide +kernel
theorem d_LW_insert_4 : decode b_LW_insert 4 = .ok (.iload_n 2, 1) := by decide +kernel
theorem d_LW_insert_5 : decode b_LW_insert 5 = .ok (.invokevirtual 17, 3) := by decide +kernel
theorem d_LW_insert_8 : decode b_LW_insert 8 = .ok (.i2l, 1) := by decide +kernel
theorem d_LW_insert_9 : decode b_LW_insert 9 = .ok (.lastore, 1) := by decide +kernel
theorem d_LW_insert_10 : decode b_LW_insert 10 = .ok (.goto 11, 3) := by decide +kernel
theorem d_LW_insert_13 : decode b_LW_insert 13 = .ok (.astore 4, 2) := by decide +kernel
theorem d_LW_insert_15 : decode b_LW_insert 15 = .ok (.iconst 1, 1) := by decide +kernel
theorem d_LW_insert_16 : decode b_LW_insert 16 = .ok (.ireturn, 1) := by decide +kernel
theorem d_LW_insert_17 : decode b_LW_insert 17 = .ok (.astore 4, 2) := by decide +kernel
theorem d_LW_insert_19 : decode b_LW_insert 19 = .ok (.iconst 2, 1) := by decide +kernel
theorem d_LW_insert_20 : decode b_LW_insert 20 = .ok (.ireturn, 1) := by decide +kernel
theorem d_LW_insert_21 : decode b_LW_insert 21 = .ok (.iconst 0, 1) := by decide +kernel
theorem d_LW_insert_22 : decode b_LW_insert 22 = .ok (.ireturn, 1) := by decide +kernel
theorem d_LW_delete_0 : decode b_LW_delete 0 = .ok (.aload_n 0, 1) := by decide +kernel
theorem d_LW_delete_1 : decode b_LW_delete 1 = .ok (.iload_n 1, 1) := by decide +kernel
theorem d_LW_delete_2 : decode b_LW_delete 2 = .ok (.iload_n 2, 1) := by decide +kernel
theorem d_LW_delete_3 : decode b_LW_delete 3 = .ok (.invokevirtual 21, 3) := by decide +kernel
theorem d_LW_delete_6 : decode b_LW_delete 6 = .ok (.goto 6, 3) := by decide +kernel
theorem d_LW_delete_9 : decode b_LW_delete 9 = .ok (.astore_n 3, 1) := by decide +kernel
theorem d_LW_delete_10 : decode b_LW_delete 10 = .ok (.iconst 1, 1) := by decide +kernel
theorem d_LW_delete_11 : decode b_LW_delete 11 = .ok (.ireturn, 1) := by decide +kernel
theorem d_LW_delete_12 : decode b_LW_delete 12 = .ok (.iconst 0, 1) := by decide +kernel
theorem d_LW_delete_13 : decode b_LW_delete 13 = .ok (.ireturn, 1) := by decide +kernel
theorem d_LW_built_0 : decode b_LW_built 0 = .ok (.aload_n 2, 1) := by decide +kernel
theorem d_LW_built_1 : decode b_LW_built 1 = .ok (.iconst 0, 1) := by decide +kernel
theorem d_LW_built_2 : decode b_LW_built 2 = .ok (.aload_n 0, 1) := by decide +kernel
theorem d_LW_built_3 : decode b_LW_built 3 = .ok (.iload_n 1, 1) := by decide +kernel
theorem d_LW_built_4 : decode b_LW_built 4 = .ok (.invokevirtual 27, 3) := by decide +kernel
theorem d_LW_built_7 : decode b_LW_built 7 = .ok (.i2l, 1) := by decide +kernel
theorem d_LW_built_8 : decode b_LW_built 8 = .ok (.lastore, 1) := by decide +kernel
theorem d_LW_built_9 : decode b_LW_built 9 = .ok (.goto 6, 3) := by decide +kernel
theorem d_LW_built_12 : decode b_LW_built 12 = .ok (.astore_n 3, 1) := by decide +kernel
theorem d_LW_built_13 : decode b_LW_built 13 = .ok (.iconst 1, 1) := by decide +kernel
theorem d_LW_built_14 : decode b_LW_built 14 = .ok (.ireturn, 1) := by decide +kernel
theorem d_LW_built_15 : decode b_LW_built 15 = .ok (.iconst 0, 1) := by decide +kernel
theorem d_LW_built_16 : decode b_LW_built 16 = .ok (.ireturn, 1) := by decide +kernel
theorem d_LW_take_0 : decode b_LW_take 0 = .ok (.aload_n 1, 1) := by decide +kernel
theorem d_LW_take_1 : decode b_LW_take 1 = .ok (.iconst 0, 1) := by decide +kernel
theorem d_LW_take_2 : decode b_LW_take 2 = .ok (.aload_n 0, 1) := by decide +kernel
theorem d_LW_take_3 : decode b_LW_take 3 = .ok (.invokevirtual 30, 3) := by decide +kernel
theorem d_LW_take_6 : decode b_LW_take 6 = .ok (.i2l, 1) := by decide +kernel
theorem d_LW_take_7 : decode b_LW_take 7 = .ok (.lastore, 1) := by decide +kernel
theorem d_LW_take_8 : decode b_LW_take 8 = .ok (.goto 6, 3) := by decide +kernel
theorem d_LW_take_11 : decode b_LW_take 11 = .ok (.astore_n 2, 1) := by decide +kernel
theorem d_LW_take_12 : decode b_LW_take 12 = .ok (.iconst 1, 1) := by decide +kernel
theorem d_LW_take_13 : decode b_LW_take 13 = .ok (.ireturn, 1) := by decide +kernel
theorem d_LW_take_14 : decode b_LW_take 14 = .ok (.iconst 0, 1) := by decide +kernel
theorem d_LW_take_15 : decode b_LW_take 15 = .ok (.ireturn, 1) := by decide +kernel
theorem d_LW_join_0 : decode b_LW_join 0 = .ok (.aload_n 3, 1) := by decide +kernel
theorem d_LW_join_1 : decode b_LW_join 1 = .ok (.iconst 0, 1) := by decide +kernel
theorem d_LW_join_2 : decode b_LW_join 2 = .ok (.aload_n 0, 1) := by decide +kernel
theorem d_LW_join_3 : decode b_LW_join 3 = .ok (.iload_n 1, 1) := by decide +kernel
theorem d_LW_join_4 : decode b_LW_join 4 = .ok (.iload_n 2, 1) := by decide +kernel
theorem d_LW_join_5 : decode b_LW_join 5 = .ok (.invokevirtual 34, 3) := by decide +kernel
theorem d_LW_join_8 : decode b_LW_join 8 = .ok (.i2l, 1) := by decide +kernel
theorem d_LW_join_9 : decode b_LW_join 9 = .ok (.lastore, 1) := by decide +kernel
theorem d_LW_join_10 : decode b_LW_join 10 = .ok (.goto 11, 3) := by decide +kernel
theorem d_LW_join_13 : decode b_LW_join 13 = .ok (.astore 4, 2) := by decide +kernel
theorem d_LW_join_15 : decode b_LW_join 15 = .ok (.iconst 1, 1) := by decide +kernel
theorem d_LW_join_16 : decode b_LW_join 16 = .ok (.ireturn, 1) := by decide +kernel
theorem d_LW_join_17 : decode b_LW_join 17 = .ok (.astore 4, 2) := by decide +kernel
theorem d_LW_join_19 : decode b_LW_join 19 = .ok (.iconst 2, 1) := by decide +kernel
theorem d_LW_join_20 : decode b_LW_join 20 = .ok (.ireturn, 1) := by decide +kernel
theorem d_LW_join_21 : decode b_LW_join 21 = .ok (.iconst 0, 1) := by decide +kernel
theorem d_LW_join_22 : decode b_LW_join 22 = .ok (.ireturn, 1) := by decide +kernel
theorem d_LW_part_0 : decode b_LW_part 0 = .ok (.aload 4, 2) := by decide +kernel
theorem d_LW_part_2 : decode b_LW_part 2 = .ok (.iconst 0, 1) := by decide +kernel
theorem d_LW_part_3 : decode b_LW_part 3 = .ok (.aload_n 0, 1) := by decide +kernel
theorem d_LW_part_4 : decode b_LW_part 4 = .ok (.iload_n 1, 1) := by decide +kernel
theorem d_LW_part_5 : decode b_LW_part 5 = .ok (.iload_n 2, 1) := by decide +kernel
theorem d_LW_part_6 : decode b_LW_part 6 = .ok (.iload_n 3, 1) := by decide +kernel
theorem d_LW_part_7 : decode b_LW_part 7 = .ok (.invokevirtual 37, 3) := by decide +kernel
theorem d_LW_part_10 : decode b_LW_part 10 = .ok (.i2l, 1) := by decide +kernel
theorem d_LW_part_11 : decode b_LW_part 11 = .ok (.lastore, 1) := by decide +kernel
theorem d_LW_part_12 : decode b_LW_part 12 = .ok (.goto 15, 3) := by decide +kernel
theorem d_LW_part_15 : decode b_LW_part 15 = .ok (.astore 5, 2) := by decide +kernel
theorem d_LW_part_17 : decode b_LW_part 17 = .ok (.iconst 1, 1) := by decide +kernel
theorem d_LW_part_18 : decode b_LW_part 18 = .ok (.ireturn, 1) := by decide +kernel
theorem d_LW_part_19 : decode b_LW_part 19 = .ok (.astore 5, 2) := by decide +kernel
theorem d_LW_part_21 : decode b_LW_part 21 = .ok (.iconst 2, 1) := by decide +kernel
theorem d_LW_part_22 : decode b_LW_part 22 = .ok (.ireturn, 1) := by decide +kernel
theorem d_LW_part_23 : decode b_LW_part 23 = .ok (.astore 5, 2) := by decide +kernel
theorem d_LW_part_25 : decode b_LW_part 25 = .ok (.iconst 3, 1) := by decide +kernel
theorem d_LW_part_26 : decode b_LW_part 26 = .ok (.ireturn, 1) := by decide +kernel
theorem d_LW_part_27 : decode b_LW_part 27 = .ok (.iconst 0, 1) := by decide +kernel
theorem d_LW_part_28 : decode b_LW_part 28 = .ok (.ireturn, 1) := by decide +kernel
theorem d_LW_replace_0 : decode b_LW_replace 0 = .ok (.aload 4, 2) := by decide +kernel
theorem d_LW_replace_2 : decode b_LW_replace 2 = .ok (.iconst 0, 1) := by decide +kernel
theorem d_LW_replace_3 : decode b_LW_replace 3 = .ok (.aload_n 0, 1) := by decide +kernel
theorem d_LW_replace_4 : decode b_LW_replace 4 = .ok (.iload_n 1, 1) := by decide +kernel
theorem d_LW_replace_5 : decode b_LW_replace 5 = .ok (.iload_n 2, 1) := by decide +kernel
theorem d_LW_replace_6 : decode b_LW_replace 6 = .ok (.iload_n 3, 1) := by decide +kernel
theorem d_LW_replace_7 : decode b_LW_replace 7 = .ok (.invokevirtual 41, 3) := by decide +kernel
theorem d_LW_replace_10 : decode b_LW_replace 10 = .ok (.i2l, 1) := by decide +kernel
theorem d_LW_replace_11 : decode b_LW_replace 11 = .ok (.lastore, 1) := by decide +kernel
theorem d_LW_replace_12 : decode b_LW_replace 12 = .ok (.goto 11, 3) := by decide +kernel
theorem d_LW_replace_15 : decode b_LW_replace 15 = .ok (.astore 5, 2) := by decide +kernel
theorem d_LW_replace_17 : decode b_LW_replace 17 = .ok (.iconst 1, 1) := by decide +kernel
theorem d_LW_replace_18 : decode b_LW_replace 18 = .ok (.ireturn, 1) := by decide +kernel
theorem d_LW_replace_19 : decode b_LW_replace 19 = .ok (.astore 5, 2) := by decide +kernel
theorem d_LW_replace_21 : decode b_LW_replace 21 = .ok (.iconst 2, 1) := by decide +kernel
theorem d_LW_replace_22 : decode b_LW_replace 22 = .ok (.ireturn, 1) := by decide +kernel
theorem d_LW_replace_23 : decode b_LW_replace 23 = .ok (.iconst 0, 1) := by decide +kernel
theorem d_LW_replace_24 : decode b_LW_replace 24 = .ok (.ireturn, 1) := by decide +kernel
theorem d_LW_strip_0 : decode b_LW_strip 0 = .ok (.aload_n 2, 1) := by decide +kernel
theorem d_LW_strip_1 : decode b_LW_strip 1 = .ok (.iconst 0, 1) := by decide +kernel
theorem d_LW_strip_2 : decode b_LW_strip 2 = .ok (.aload_n 0, 1) := by decide +kernel
theorem d_LW_strip_3 : decode b_LW_strip 3 = .ok (.iload_n 1, 1) := by decide +kernel
theorem d_LW_strip_4 : decode b_LW_strip 4 = .ok (.invokevirtual 44, 3) := by decide +kernel
theorem d_LW_strip_7 : decode b_LW_strip 7 = .ok (.i2l, 1) := by decide +kernel
theorem d_LW_strip_8 : decode b_LW_strip 8 = .ok (.lastore, 1) := by decide +kernel
theorem d_LW_strip_9 : decode b_LW_strip 9 = .ok (.goto 9, 3) := by decide +kernel
theorem d_LW_strip_12 : decode b_LW_strip 12 = .ok (.astore_n 3, 1) := by decide +kernel
theorem d_LW_strip_13 : decode b_LW_strip 13 = .ok (.iconst 1, 1) := by decide +kernel
theorem d_LW_strip_14 : decode b_LW_strip 14 = .ok (.ireturn, 1) := by decide +kernel
theorem d_LW_strip_15 : decode b_LW_strip 15 = .ok (.astore_n 3, 1) := by decide +kernel
theorem d_LW_strip_16 : decode b_LW_strip 16 = .ok (.iconst 2, 1) := by decide +kernel
theorem d_LW_strip_17 : decode b_LW_strip 17 = .ok (.ireturn, 1) := by decide +kernel
theorem d_LW_strip_18 : decode b_LW_strip 18 = .ok (.iconst 0, 1) := by decide +kernel
theorem d_LW_strip_19 : decode b_LW_strip 19 = .ok (.ireturn, 1) := by decide +kernel
theorem d_LW_at_0 : decode b_LW_at 0 = .ok (.aload_n 3, 1) := by decide +kernel
theorem d_LW_at_1 : decode b_LW_at 1 = .ok (.iconst 0, 1) := by decide +kernel
theorem d_LW_at_2 : decode b_LW_at 2 = .ok (.aload_n 0, 1) := by decide +kernel
theorem d_LW_at_3 : decode b_LW_at 3 = .ok (.iload_n 1, 1) := by decide +kernel
theorem d_LW_at_4 : decode b_LW_at 4 = .ok (.iload_n 2, 1) := by decide +kernel
theorem d_LW_at_5 : decode b_LW_at 5 = .ok (.invokevirtual 47, 3) := by decide +kernel
theorem d_LW_at_8 : decode b_LW_at 8 = .ok (.i2l, 1) := by decide +kernel
theorem d_LW_at_9 : decode b_LW_at 9 = .ok (.lastore, 1) := by decide +kernel
theorem d_LW_at_10 : decode b_LW_at 10 = .ok (.goto 11, 3) := by decide +kernel
theorem d_LW_at_13 : decode b_LW_at 13 = .ok (.astore 4, 2) := by decide +kernel
theorem d_LW_at_15 : decode b_LW_at 15 = .ok (.iconst 1, 1) := by decide +kernel
theorem d_LW_at_16 : decode b_LW_at 16 = .ok (.ireturn, 1) := by decide +kernel
theorem d_LW_at_17 : decode b_LW_at 17 = .ok (.astore 4, 2) := by decide +kernel
theorem d_LW_at_19 : decode b_LW_at 19 = .ok (.iconst 2, 1) := by decide +kernel
theorem d_LW_at_20 : decode b_LW_at 20 = .ok (.ireturn, 1) := by decide +kernel
theorem d_LW_at_21 : decode b_LW_at 21 = .ok (.iconst 0, 1) := by decide +kernel
theorem d_LW_at_22 : decode b_LW_at 22 = .ok (.ireturn, 1) := by decide +kernel
theorem d_LW_character_0 : decode b_LW_character 0 = .ok (.aload_n 3, 1) := by decide +kernel
theorem d_LW_character_1 : decode b_LW_character 1 = .ok (.iconst 0, 1) := by decide +kernel
theorem d_LW_character_2 : decode b_LW_character 2 = .ok (.aload_n 0, 1) := by decide +kernel
theorem d_LW_character_3 : decode b_LW_character 3 = .ok (.iload_n 1, 1) := by decide +kernel
theorem d_LW_character_4 : decode b_LW_character 4 = .ok (.iload_n 2, 1) := by decide +kernel
theorem d_LW_character_5 : decode b_LW_character 5 = .ok (.invokevirtual 50, 3) := by decide +kernel
theorem d_LW_character_8 : decode b_LW_character 8 = .ok (.i2l, 1) := by decide +kernel
theorem d_LW_character_9 : decode b_LW_character 9 = .ok (.lastore, 1) := by decide +kernel
theorem d_LW_character_10 : decode b_LW_character 10 = .ok (.goto 11, 3) := by decide +kernel
theorem d_LW_character_13 : decode b_LW_character 13 = .ok (.astore 4, 2) := by decide +kernel
theorem d_LW_character_15 : decode b_LW_character 15 = .ok (.iconst 1, 1) := by decide +kernel
theorem d_LW_character_16 : decode b_LW_character 16 = .ok (.ireturn, 1) := by decide +kernel
theorem d_LW_character_17 : decode b_LW_character 17 = .ok (.astore 4, 2) := by decide +kernel
theorem d_LW_character_19 : decode b_LW_character 19 = .ok (.iconst 2, 1) := by decide +kernel
theorem d_LW_character_20 : decode b_LW_character 20 = .ok (.ireturn, 1) := by decide +kernel
theorem d_LW_character_21 : decode b_LW_character 21 = .ok (.iconst 0, 1) := by decide +kernel
theorem d_LW_character_22 : decode b_LW_character 22 = .ok (.ireturn, 1) := by decide +kernel
theorem d_LW_narrow_0 : decode b_LW_narrow 0 = .ok (.aload_n 2, 1) := by decide +kernel
theorem d_LW_narrow_1 : decode b_LW_narrow 1 = .ok (.iconst 0, 1) := by decide +kernel
theorem d_LW_narrow_2 : decode b_LW_narrow 2 = .ok (.aload_n 0, 1) := by decide +kernel
theorem d_LW_narrow_3 : decode b_LW_narrow 3 = .ok (.iload_n 1, 1) := by decide +kernel
theorem d_LW_narrow_4 : decode b_LW_narrow 4 = .ok (.invokevirtual 53, 3) := by decide +kernel
theorem d_LW_narrow_7 : decode b_LW_narrow 7 = .ok (.ifCond .eq 7, 3) := by decide +kernel
theorem d_LW_narrow_10 : decode b_LW_narrow 10 = .ok (.lconst 1, 1) := by decide +kernel
theorem d_LW_narrow_11 : decode b_LW_narrow 11 = .ok (.goto 4, 3) := by decide +kernel
theorem d_LW_narrow_14 : decode b_LW_narrow 14 = .ok (.lconst 0, 1) := by decide +kernel
theorem d_LW_narrow_15 : decode b_LW_narrow 15 = .ok (.lastore, 1) := by decide +kernel
theorem d_LW_narrow_16 : decode b_LW_narrow 16 = .ok (.goto 6, 3) := by decide +kernel
theorem d_LW_narrow_19 : decode b_LW_narrow 19 = .ok (.astore_n 3, 1) := by decide +kernel
theorem d_LW_narrow_20 : decode b_LW_narrow 20 = .ok (.iconst 1, 1) := by decide +kernel
theorem d_LW_narrow_21 : decode b_LW_narrow 21 = .ok (.ireturn, 1) := by decide +kernel
theorem d_LW_narrow_22 : decode b_LW_narrow 22 = .ok (.iconst 0, 1) := by decide +kernel
theorem d_LW_narrow_23 : decode b_LW_narrow 23 = .ok (.ireturn, 1) := by decide +kernel
theorem d_LW_hash_0 : decode b_LW_hash 0 = .ok (.aload_n 2, 1) := by decide +kernel
theorem d_LW_hash_1 : decode b_LW_hash 1 = .ok (.iconst 0, 1) := by decide +kernel
theorem d_LW_hash_2 : decode b_LW_hash 2 = .ok (.aload_n 0, 1) := by decide +kernel
theorem d_LW_hash_3 : decode b_LW_hash 3 = .ok (.iload_n 1, 1) := by decide +kernel
theorem d_LW_hash_4 : decode b_LW_hash 4 = .ok (.invokevirtual 57, 3) := by decide +kernel
theorem d_LW_hash_7 : decode b_LW_hash 7 = .ok (.i2l, 1) := by decide +kernel
theorem d_LW_hash_8 : decode b_LW_hash 8 = .ok (.lastore, 1) := by decide +kernel
theorem d_LW_hash_9 : decode b_LW_hash 9 = .ok (.goto 6, 3) := by decide +kernel
theorem d_LW_hash_12 : decode b_LW_hash 12 = .ok (.astore_n 3, 1) := by decide +kernel
theorem d_LW_hash_13 : decode b_LW_hash 13 = .ok (.iconst 1, 1) := by decide +kernel
theorem d_LW_hash_14 : decode b_LW_hash 14 = .ok (.ireturn, 1) := by decide +kernel
theorem d_LW_hash_15 : decode b_LW_hash 15 = .ok (.iconst 0, 1) := by decide +kernel
theorem d_LW_hash_16 : decode b_LW_hash 16 = .ok (.ireturn, 1) := by decide +kernel
theorem d_LW_compare_0 : decode b_LW_compare 0 = .ok (.aload_n 3, 1) := by decide +kernel
theorem d_LW_compare_1 : decode b_LW_compare 1 = .ok (.iconst 0, 1) := by decide +kernel
theorem d_LW_compare_2 : decode b_LW_compare 2 = .ok (.aload_n 0, 1) := by decide +kernel
theorem d_LW_compare_3 : decode b_LW_compare 3 = .ok (.iload_n 1, 1) := by decide +kernel
theorem d_LW_compare_4 : decode b_LW_compare 4 = .ok (.iload_n 2, 1) := by decide +kernel
theorem d_LW_compare_5 : decode b_LW_compare 5 = .ok (.invokevirtual 60, 3) := by decide +kernel
theorem d_LW_compare_8 : decode b_LW_compare 8 = .ok (.i2l, 1) := by decide +kernel
theorem d_LW_compare_9 : decode b_LW_compare 9 = .ok (.lastore, 1) := by decide +kernel
theorem d_LW_compare_10 : decode b_LW_compare 10 = .ok (.goto 7, 3) := by decide +kernel
theorem d_LW_compare_13 : decode b_LW_compare 13 = .ok (.astore 4, 2) := by decide +kernel
theorem d_LW_compare_15 : decode b_LW_compare 15 = .ok (.iconst 1, 1) := by decide +kernel
theorem d_LW_compare_16 : decode b_LW_compare 16 = .ok (.ireturn, 1) := by decide +kernel
theorem d_LW_compare_17 : decode b_LW_compare 17 = .ok (.iconst 0, 1) := by decide +kernel
theorem d_LW_compare_18 : decode b_LW_compare 18 = .ok (.ireturn, 1) := by decide +kernel
theorem d_LW_find_0 : decode b_LW_find 0 = .ok (.aload 5, 2) := by decide +kernel
theorem d_LW_find_2 : decode b_LW_find 2 = .ok (.iconst 0, 1) := by decide +kernel
theorem d_LW_find_3 : decode b_LW_find 3 = .ok (.aload_n 0, 1) := by decide +kernel
theorem d_LW_find_4 : decode b_LW_find 4 = .ok (.iload_n 1, 1) := by decide +kernel
theorem d_LW_find_5 : decode b_LW_find 5 = .ok (.iload_n 2, 1) := by decide +kernel
theorem d_LW_find_6 : decode b_LW_find 6 = .ok (.iload_n 3, 1) := by decide +kernel
theorem d_LW_find_7 : decode b_LW_find 7 = .ok (.iload 4, 2) := by decide +kernel
theorem d_LW_find_9 : decode b_LW_find 9 = .ok (.invokevirtual 63, 3) := by decide +kernel
theorem d_LW_find_12 : decode b_LW_find 12 = .ok (.i2l, 1) := by decide +kernel
theorem d_LW_find_13 : decode b_LW_find 13 = .ok (.lastore, 1) := by decide +kernel
theorem d_LW_find_14 : decode b_LW_find 14 = .ok (.goto 7, 3) := by decide +kernel
theorem d_LW_find_17 : decode b_LW_find 17 = .ok (.astore 6, 2) := by decide +kernel
theorem d_LW_find_19 : decode b_LW_find 19 = .ok (.iconst 1, 1) := by decide +kernel
theorem d_LW_find_20 : decode b_LW_find 20 = .ok (.ireturn, 1) := by decide +kernel
theorem d_LW_find_21 : decode b_LW_find 21 = .ok (.iconst 0, 1) := by decide +kernel
theorem d_LW_find_22 : decode b_LW_find 22 = .ok (.ireturn, 1) := by decide +kernel
theorem d_LW_symbol_0 : decode b_LW_symbol 0 = .ok (.aload_n 2, 1) := by decide +kernel
theorem d_LW_symbol_1 : decode b_LW_symbol 1 = .ok (.iconst 0, 1) := by decide +kernel
theorem d_LW_symbol_2 : decode b_LW_symbol 2 = .ok (.aload_n 0, 1) := by decide +kernel
theorem d_LW_symbol_3 : decode b_LW_symbol 3 = .ok (.iload_n 1, 1) := by decide +kernel
theorem d_LW_symbol_4 : decode b_LW_symbol 4 = .ok (.invokevirtual 67, 3) := by decide +kernel
theorem d_LW_symbol_7 : decode b_LW_symbol 7 = .ok (.i2l, 1) := by decide +kernel
theorem d_LW_symbol_8 : decode b_LW_symbol 8 = .ok (.lastore, 1) := by decide +kernel
theorem d_LW_symbol_9 : decode b_LW_symbol 9 = .ok (.goto 9, 3) := by decide +kernel
theorem d_LW_symbol_12 : decode b_LW_symbol 12 = .ok (.astore_n 3, 1) := by decide +kernel
theorem d_LW_symbol_13 : decode b_LW_symbol 13 = .ok (.iconst 1, 1) := by decide +kernel
theorem d_LW_symbol_14 : decode b_LW_symbol 14 = .ok (.ireturn, 1) := by decide +kernel
theorem d_LW_symbol_15 : decode b_LW_symbol 15 = .ok (.astore_n 3, 1) := by decide +kernel
theorem d_LW_symbol_16 : decode b_LW_symbol 16 = .ok (.iconst 2, 1) := by decide +kernel
theorem d_LW_symbol_17 : decode b_LW_symbol 17 = .ok (.ireturn, 1) := by decide +kernel
theorem d_LW_symbol_18 : decode b_LW_symbol 18 = .ok (.iconst 0, 1) := by decide +kernel
theorem d_LW_symbol_19 : decode b_LW_symbol 19 = .ok (.ireturn, 1) := by decide +kernel
theorem d_LW_encode_0 : decode b_LW_encode 0 = .ok (.aload_n 3, 1) := by decide +kernel
theorem d_LW_encode_1 : decode b_LW_encode 1 = .ok (.iconst 0, 1) := by decide +kernel
theorem d_LW_encode_2 : decode b_LW_encode 2 = .ok (.aload_n 0, 1) := by decide +kernel
theorem d_LW_encode_3 : decode b_LW_encode 3 = .ok (.iload_n 1, 1) := by decide +kernel
theorem d_LW_encode_4 : decode b_LW_encode 4 = .ok (.iload_n 2, 1) := by decide +kernel
theorem d_LW_encode_5 : decode b_LW_encode 5 = .ok (.invokevirtual 70, 3) := by decide +kernel
theorem d_LW_encode_8 : decode b_LW_encode 8 = .ok (.i2l, 1) := by decide +kernel
theorem d_LW_encode_9 : decode b_LW_encode 9 = .ok (.lastore, 1) := by decide +kernel
theorem d_LW_encode_10 : decode b_LW_encode 10 = .ok (.goto 7, 3) := by decide +kernel
theorem d_LW_encode_13 : decode b_LW_encode 13 = .ok (.astore 4, 2) := by decide +kernel
theorem d_LW_encode_15 : decode b_LW_encode 15 = .ok (.iconst 1, 1) := by decide +kernel
theorem d_LW_encode_16 : decode b_LW_encode 16 = .ok (.ireturn, 1) := by decide +kernel
theorem d_LW_encode_17 : decode b_LW_encode 17 = .ok (.iconst 0, 1) := by decide +kernel
theorem d_LW_encode_18 : decode b_LW_encode 18 = .ok (.ireturn, 1) := by decide +kernel
theorem d_LW_type_0 : decode b_LW_type 0 = .ok (.aload_n 2, 1) := by decide +kernel
theorem d_LW_type_1 : decode b_LW_type 1 = .ok (.iconst 0, 1) := by decide +kernel
theorem d_LW_type_2 : decode b_LW_type 2 = .ok (.aload_n 0, 1) := by decide +kernel
theorem d_LW_type_3 : decode b_LW_type 3 = .ok (.iload_n 1, 1) := by decide +kernel
theorem d_LW_type_4 : decode b_LW_type 4 = .ok (.invokevirtual 73, 3) := by decide +kernel
theorem d_LW_type_7 : decode b_LW_type 7 = .ok (.i2l, 1) := by decide +kernel
theorem d_LW_type_8 : decode b_LW_type 8 = .ok (.lastore, 1) := by decide +kernel
theorem d_LW_type_9 : decode b_LW_type 9 = .ok (.goto 9, 3) := by decide +kernel
theorem d_LW_type_12 : decode b_LW_type 12 = .ok (.astore_n 3, 1) := by decide +kernel
theorem d_LW_type_13 : decode b_LW_type 13 = .ok (.iconst 1, 1) := by decide +kernel
theorem d_LW_type_14 : decode b_LW_type 14 = .ok (.ireturn, 1) := by decide +kernel
theorem d_LW_type_15 : decode b_LW_type 15 = .ok (.astore_n 3, 1) := by decide +kernel
theorem d_LW_type_16 : decode b_LW_type 16 = .ok (.iconst 2, 1) := by decide +kernel
theorem d_LW_type_17 : decode b_LW_type 17 = .ok (.ireturn, 1) := by decide +kernel
theorem d_LW_type_18 : decode b_LW_type 18 = .ok (.iconst 0, 1) := by decide +kernel
theorem d_LW_type_19 : decode b_LW_type 19 = .ok (.ireturn, 1) := by decide +kernel
theorem d_LW_decode_0 : decode b_LW_decode 0 = .ok (.aload_n 3, 1) := by decide +kernel
theorem d_LW_decode_1 : decode b_LW_decode 1 = .ok (.iconst 0, 1) := by decide +kernel
theorem d_LW_decode_2 : decode b_LW_decode 2 = .ok (.aload_n 0, 1) := by decide +kernel
theorem d_LW_decode_3 : decode b_LW_decode 3 = .ok (.iload_n 1, 1) := by decide +kernel
theorem d_LW_decode_4 : decode b_LW_decode 4 = .ok (.iload_n 2, 1) := by decide +kernel
theorem d_LW_decode_5 : decode b_LW_decode 5 = .ok (.invokevirtual 76, 3) := by decide +kernel
theorem d_LW_decode_8 : decode b_LW_decode 8 = .ok (.i2l, 1) := by decide +kernel
theorem d_LW_decode_9 : decode b_LW_decode 9 = .ok (.lastore, 1) := by decide +kernel
theorem d_LW_decode_10 : decode b_LW_decode 10 = .ok (.goto 15, 3) := by decide +kernel
theorem d_LW_decode_13 : decode b_LW_decode 13 = .ok (.astore 4, 2) := by decide +kernel
theorem d_LW_decode_15 : decode b_LW_decode 15 = .ok (.iconst 1, 1) := by decide +kernel
theorem d_LW_decode_16 : decode b_LW_decode 16 = .ok (.ireturn, 1) := by decide +kernel
theorem d_LW_decode_17 : decode b_LW_decode 17 = .ok (.astore 4, 2) := by decide +kernel
theorem d_LW_decode_19 : decode b_LW_decode 19 = .ok (.iconst 2, 1) := by decide +kernel
theorem d_LW_decode_20 : decode b_LW_decode 20 = .ok (.ireturn, 1) := by decide +kernel
theorem d_LW_decode_21 : decode b_LW_decode 21 = .ok (.astore 4, 2) := by decide +kernel
theorem d_LW_decode_23 : decode b_LW_decode 23 = .ok (.iconst 3, 1) := by decide +kernel
theorem d_LW_decode_24 : decode b_LW_decode 24 = .ok (.ireturn, 1) := by decide +kernel
theorem d_LW_decode_25 : decode b_LW_decode 25 = .ok (.iconst 0, 1) := by decide +kernel
theorem d_LW_decode_26 : decode b_LW_decode 26 = .ok (.ireturn, 1) := by decide +kernel
theorem d_LW_octet_0 : decode b_LW_octet 0 = .ok (.aload_n 2, 1) := by decide +kernel
theorem d_LW_octet_1 : decode b_LW_octet 1 = .ok (.iconst 0, 1) := by decide +kernel
theorem d_LW_octet_2 : decode b_LW_octet 2 = .ok (.aload_n 0, 1) := by decide +kernel
theorem d_LW_octet_3 : decode b_LW_octet 3 = .ok (.iload_n 1, 1) := by decide +kernel
theorem d_LW_octet_4 : decode b_LW_octet 4 = .ok (.invokevirtual 82, 3) := by decide +kernel
theorem d_LW_octet_7 : decode b_LW_octet 7 = .ok (.i2l, 1) := by decide +kernel
theorem d_LW_octet_8 : decode b_LW_octet 8 = .ok (.lastore, 1) := by decide +kernel
theorem d_LW_octet_9 : decode b_LW_octet 9 = .ok (.goto 6, 3) := by decide +kernel
theorem d_LW_octet_12 : decode b_LW_octet 12 = .ok (.astore_n 3, 1) := by decide +kernel
theorem d_LW_octet_13 : decode b_LW_octet 13 = .ok (.iconst 1, 1) := by decide +kernel
theorem d_LW_octet_14 : decode b_LW_octet 14 = .ok (.ireturn, 1) := by decide +kernel
theorem d_LW_octet_15 : decode b_LW_octet 15 = .ok (.iconst 0, 1) := by decide +kernel
theorem d_LW_octet_16 : decode b_LW_octet 16 = .ok (.ireturn, 1) := by decide +kernel
theorem d_LW_law_0 : decode b_LW_law 0 = .ok (.new 8, 3) := by decide +kernel
theorem d_LW_law_3 : decode b_LW_law 3 = .ok (.dup, 1) := by decide +kernel
theorem d_LW_law_4 : decode b_LW_law 4 = .ok (.invokespecial 85, 3) := by decide +kernel
theorem d_LW_law_7 : decode b_LW_law 7 = .ok (.astore_n 1, 1) := by decide +kernel
theorem d_LW_law_8 : decode b_LW_law 8 = .ok (.new 86, 3) := by decide +kernel
theorem d_LW_law_11 : decode b_LW_law 11 = .ok (.dup, 1) := by decide +kernel
theorem d_LW_law_12 : decode b_LW_law 12 = .ok (.invokespecial 88, 3) := by decide +kernel
theorem d_LW_law_15 : decode b_LW_law 15 = .ok (.astore_n 2, 1) := by decide +kernel
theorem d_LW_law_16 : decode b_LW_law 16 = .ok (.iconst 1, 1) := by decide +kernel
theorem d_LW_law_17 : decode b_LW_law 17 = .ok (.newarray .long, 2) := by decide +kernel
theorem d_LW_law_19 : decode b_LW_law 19 = .ok (.astore_n 3, 1) := by decide +kernel
theorem d_LW_law_20 : decode b_LW_law 20 = .ok (.iconst 0, 1) := by decide +kernel
theorem d_LW_law_21 : decode b_LW_law 21 = .ok (.istore 4, 2) := by decide +kernel
theorem d_LW_law_23 : decode b_LW_law 23 = .ok (.iload 4, 2) := by decide +kernel
theorem d_LW_law_25 : decode b_LW_law 25 = .ok (.aload_n 0, 1) := by decide +kernel
theorem d_LW_law_26 : decode b_LW_law 26 = .ok (.arraylength, 1) := by decide +kernel
theorem d_LW_law_27 : decode b_LW_law 27 = .ok (.iconst 5, 1) := by decide +kernel
theorem d_LW_law_28 : decode b_LW_law 28 = .ok (.isub, 1) := by decide +kernel
theorem d_LW_law_29 : decode b_LW_law 29 = .ok (.if_icmp .gt 1446, 3) := by decide +kernel
theorem d_LW_law_32 : decode b_LW_law 32 = .ok (.aload_n 0, 1) := by decide +kernel
theorem d_LW_law_33 : decode b_LW_law 33 = .ok (.iload 4, 2) := by decide +kernel
theorem d_LW_law_35 : decode b_LW_law 35 = .ok (.iaload, 1) := by decide +kernel
theorem d_LW_law_36 : decode b_LW_law 36 = .ok (.bipush 31, 2) := by decide +kernel
theorem d_LW_law_38 : decode b_LW_law 38 = .ok (.iand, 1) := by decide +kernel
theorem d_LW_law_39 : decode b_LW_law 39 = .ok (.tableswitch 1430 0 21 #[101, 157, 225, 273, 284, 340, 384, 452, 532, 612, 668, 736, 804, 867, 923, 991, 1099, 1155, 1223, 1279, 1363, 1419], 101) := by decide +kernel
theorem d_LW_law_140 : decode b_LW_law 140 = .ok (.aload_n 1, 1) := by decide +kernel
theorem d_LW_law_141 : decode b_LW_law 141 = .ok (.aload_n 0, 1) := by decide +kernel
theorem d_LW_law_142 : decode b_LW_law 142 = .ok (.iload 4, 2) := by decide +kernel
theorem d_LW_law_144 : decode b_LW_law 144 = .ok (.iconst 1, 1) := by decide +kernel
theorem d_LW_law_145 : decode b_LW_law 145 = .ok (.iadd, 1) := by decide +kernel
theorem d_LW_law_146 : decode b_LW_law 146 = .ok (.iaload, 1) := by decide +kernel
theorem d_LW_law_147 : decode b_LW_law 147 = .ok (.aload_n 3, 1) := by decide +kernel
theorem d_LW_law_148 : decode b_LW_law 148 = .ok (.invokestatic 89, 3) := by decide +kernel
theorem d_LW_law_151 : decode b_LW_law 151 = .ok (.istore 5, 2) := by decide +kernel
theorem d_LW_law_153 : decode b_LW_law 153 = .ok (.aload_n 2, 1) := by decide +kernel
theorem d_LW_law_154 : decode b_LW_law 154 = .ok (.aload_n 0, 1) := by decide +kernel
theorem d_LW_law_155 : decode b_LW_law 155 = .ok (.iload 4, 2) := by decide +kernel
theorem d_LW_law_157 : decode b_LW_law 157 = .ok (.iconst 1, 1) := by decide +kernel
theorem d_LW_law_158 : decode b_LW_law 158 = .ok (.iadd, 1) := by decide +kernel
theorem d_LW_law_159 : decode b_LW_law 159 = .ok (.iaload, 1) := by decide +kernel
theorem d_LW_law_160 : decode b_LW_law 160 = .ok (.invokevirtual 94, 3) := by decide +kernel
theorem d_LW_law_163 : decode b_LW_law 163 = .ok (.istore 6, 2) := by decide +kernel
theorem d_LW_law_165 : decode b_LW_law 165 = .ok (.aload_n 2, 1) := by decide +kernel
theorem d_LW_law_166 : decode b_LW_law 166 = .ok (.invokevirtual 95, 3) := by decide +kernel
theorem d_LW_law_169 : decode b_LW_law 169 = .ok (.iload 5, 2) := by decide +kernel
theorem d_LW_law_171 : decode b_LW_law 171 = .ok (.if_icmp .eq 5, 3) := by decide +kernel
theorem d_LW_law_174 : decode b_LW_law 174 = .ok (.iconst 0, 1) := by decide +kernel
theorem d_LW_law_175 : decode b_LW_law 175 = .ok (.ireturn, 1) := by decide +kernel
theorem d_LW_law_176 : decode b_LW_law 176 = .ok (.iload 5, 2) := by decide +kernel
theorem d_LW_law_178 : decode b_LW_law 178 = .ok (.ifCond .ne 15, 3) := by decide +kernel
theorem d_LW_law_181 : decode b_LW_law 181 = .ok (.aload_n 3, 1) := by decide +kernel
theorem d_LW_law_182 : decode b_LW_law 182 = .ok (.iconst 0, 1) := by decide +kernel
theorem d_LW_law_183 : decode b_LW_law 183 = .ok (.laload, 1) := by decide +kernel
theorem d_LW_law_184 : decode b_LW_law 184 = .ok (.iload 6, 2) := by decide +kernel
theorem d_LW_law_186 : decode b_LW_law 186 = .ok (.i2l, 1) := by decide +kernel
theorem d_LW_law_187 : decode b_LW_law 187 = .ok (.lcmp, 1) := by decide +kernel
theorem d_LW_law_188 : decode b_LW_law 188 = .ok (.ifCond .eq 5, 3) := by decide +kernel
theorem d_LW_law_191 : decode b_LW_law 191 = .ok (.iconst 0, 1) := by decide +kernel
theorem d_LW_law_192 : decode b_LW_law 192 = .ok (.ireturn, 1) := by decide +kernel
theorem d_LW_law_193 : decode b_LW_law 193 = .ok (.goto 1276, 3) := by decide +kernel
theorem d_LW_law_196 : decode b_LW_law 196 = .ok (.aload_n 1, 1) := by decide +kernel
theorem d_LW_law_197 : decode b_LW_law 197 = .ok (.aload_n 0, 1) := by decide +kernel
theorem d_LW_law_198 : decode b_LW_law 198 = .ok (.iload 4, 2) := by decide +kernel
theorem d_LW_law_200 : decode b_LW_law 200 = .ok (.iconst 1, 1) := by decide +kernel
theorem d_LW_law_201 : decode b_LW_law 201 = .ok (.iadd, 1) := by decide +kernel
theorem d_LW_law_202 : decode b_LW_law 202 = .ok (.iaload, 1) := by decide +kernel
theorem d_LW_law_203 : decode b_LW_law 203 = .ok (.aload_n 0, 1) := by decide +kernel
theorem d_LW_law_204 : decode b_LW_law 204 = .ok (.iload 4, 2) := by decide +kernel
theorem d_LW_law_206 : decode b_LW_law 206 = .ok (.iconst 2, 1) := by decide +kernel
theorem d_LW_law_207 : decode b_LW_law 207 = .ok (.iadd, 1) := by decide +kernel
theorem d_LW_law_208 : decode b_LW_law 208 = .ok (.iaload, 1) := by decide +kernel
theorem d_LW_law_209 : decode b_LW_law 209 = .ok (.aload_n 3, 1) := by decide +kernel
theorem d_LW_law_210 : decode b_LW_law 210 = .ok (.invokestatic 98, 3) := by decide +kernel
theorem d_LW_law_213 : decode b_LW_law 213 = .ok (.istore 5, 2) := by decide +kernel
theorem d_LW_law_215 : decode b_LW_law 215 = .ok (.aload_n 2, 1) := by decide +kernel
theorem d_LW_law_216 : decode b_LW_law 216 = .ok (.aload_n 0, 1) := by decide +kernel
theorem d_LW_law_217 : decode b_LW_law 217 = .ok (.iload 4, 2) := by decide +kernel
theorem d_LW_law_219 : decode b_LW_law 219 = .ok (.iconst 1, 1) := by decide +kernel
theorem d_LW_law_220 : decode b_LW_law 220 = .ok (.iadd, 1) := by decide +kernel
theorem d_LW_law_221 : decode b_LW_law 221 = .ok (.iaload, 1) := by decide +kernel
theorem d_LW_law_222 : decode b_LW_law 222 = .ok (.aload_n 0, 1) := by decide +kernel
theorem d_LW_law_223 : decode b_LW_law 223 = .ok (.iload 4, 2) := by decide +kernel
theorem d_LW_law_225 : decode b_LW_law 225 = .ok (.iconst 2, 1) := by decide +kernel
theorem d_LW_law_226 : decode b_LW_law 226 = .ok (.iadd, 1) := by decide +kernel
theorem d_LW_law_227 : decode b_LW_law 227 = .ok (.iaload, 1) := by decide +kernel
theorem d_LW_law_228 : decode b_LW_law 228 = .ok (.invokevirtual 101, 3) := by decide +kernel
theorem d_LW_law_231 : decode b_LW_law 231 = .ok (.istore 6, 2) := by decide +kernel
theorem d_LW_law_233 : decode b_LW_law 233 = .ok (.aload_n 2, 1) := by decide +kernel
theorem d_LW_law_234 : decode b_LW_law 234 = .ok (.invokevirtual 95, 3) := by decide +kernel
theorem d_LW_law_237 : decode b_LW_law 237 = .ok (.iload 5, 2) := by decide +kernel
theorem d_LW_law_239 : decode b_LW_law 239 = .ok (.if_icmp .eq 5, 3) := by decide +kernel
theorem d_LW_law_242 : decode b_LW_law 242 = .ok (.iconst 0, 1) := by decide +kernel
theorem d_LW_law_243 : decode b_LW_law 243 = .ok (.ireturn, 1) := by decide +kernel
theorem d_LW_law_244 : decode b_LW_law 244 = .ok (.iload 5, 2) := by decide +kernel
theorem d_LW_law_246 : decode b_LW_law 246 = .ok (.ifCond .ne 15, 3) := by decide +kernel
theorem d_LW_law_249 : decode b_LW_law 249 = .ok (.aload_n 3, 1) := by decide +kernel
theorem d_LW_law_250 : decode b_LW_law 250 = .ok (.iconst 0, 1) := by decide +kernel
theorem d_LW_law_251 : decode b_LW_law 251 = .ok (.laload, 1) := by decide +kernel
theorem d_LW_law_252 : decode b_LW_law 252 = .ok (.iload 6, 2) := by decide +kernel
theorem d_LW_law_254 : decode b_LW_law 254 = .ok (.i2l, 1) := by decide +kernel
theorem d_LW_law_255 : decode b_LW_law 255 = .ok (.lcmp, 1) := by decide +kernel
theorem d_LW_law_256 : decode b_LW_law 256 = .ok (.ifCond .eq 5, 3) := by decide +kernel
theorem d_LW_law_259 : decode b_LW_law 259 = .ok (.iconst 0, 1) := by decide +kernel
theorem d_LW_law_260 : decode b_LW_law 260 = .ok (.ireturn, 1) := by decide +kernel
theorem d_LW_law_261 : decode b_LW_law 261 = .ok (.goto 1208, 3) := by decide +kernel
theorem d_LW_law_264 : decode b_LW_law 264 = .ok (.aload_n 1, 1) := by decide +kernel
theorem d_LW_law_265 : decode b_LW_law 265 = .ok (.aload_n 0, 1) := by decide +kernel
theorem d_LW_law_266 : decode b_LW_law 266 = .ok (.iload 4, 2) := by decide +kernel
theorem d_LW_law_268 : decode b_LW_law 268 = .ok (.iconst 1, 1) := by decide +kernel
theorem d_LW_law_269 : decode b_LW_law 269 = .ok (.iadd, 1) := by decide +kernel
theorem d_LW_law_270 : decode b_LW_law 270 = .ok (.iaload, 1) := by decide +kernel
theorem d_LW_law_271 : decode b_LW_law 271 = .ok (.aload_n 0, 1) := by decide +kernel
theorem d_LW_law_272 : decode b_LW_law 272 = .ok (.iload 4, 2) := by decide +kernel
theorem d_LW_law_274 : decode b_LW_law 274 = .ok (.iconst 2, 1) := by decide +kernel
theorem d_LW_law_275 : decode b_LW_law 275 = .ok (.iadd, 1) := by decide +kernel
theorem d_LW_law_276 : decode b_LW_law 276 = .ok (.iaload, 1) := by decide +kernel
theorem d_LW_law_277 : decode b_LW_law 277 = .ok (.invokestatic 102, 3) := by decide +kernel
theorem d_LW_law_280 : decode b_LW_law 280 = .ok (.istore 5, 2) := by decide +kernel
theorem d_LW_law_282 : decode b_LW_law 282 = .ok (.aload_n 2, 1) := by decide +kernel
theorem d_LW_law_283 : decode b_LW_law 283 = .ok (.aload_n 0, 1) := by decide +kernel
theorem d_LW_law_284 : decode b_LW_law 284 = .ok (.iload 4, 2) := by decide +kernel
theorem d_LW_law_286 : decode b_LW_law 286 = .ok (.iconst 1, 1) := by decide +kernel
theorem d_LW_law_287 : decode b_LW_law 287 = .ok (.iadd, 1) := by decide +kernel
theorem d_LW_law_288 : decode b_LW_law 288 = .ok (.iaload, 1) := by decide +kernel
theorem d_LW_law_289 : decode b_LW_law 289 = .ok (.aload_n 0, 1) := by decide +kernel
theorem d_LW_law_290 : decode b_LW_law 290 = .ok (.iload 4, 2) := by decide +kernel
theorem d_LW_law_292 : decode b_LW_law 292 = .ok (.iconst 2, 1) := by decide +kernel
theorem d_LW_law_293 : decode b_LW_law 293 = .ok (.iadd, 1) := by decide +kernel
theorem d_LW_law_294 : decode b_LW_law 294 = .ok (.iaload, 1) := by decide +kernel
theorem d_LW_law_295 : decode b_LW_law 295 = .ok (.invokevirtual 105, 3) := by decide +kernel
theorem d_LW_law_298 : decode b_LW_law 298 = .ok (.aload_n 2, 1) := by decide +kernel
theorem d_LW_law_299 : decode b_LW_law 299 = .ok (.invokevirtual 95, 3) := by decide +kernel
theorem d_LW_law_302 : decode b_LW_law 302 = .ok (.iload 5, 2) := by decide +kernel
theorem d_LW_law_304 : decode b_LW_law 304 = .ok (.if_icmp .eq 5, 3) := by decide +kernel
theorem d_LW_law_307 : decode b_LW_law 307 = .ok (.iconst 0, 1) := by decide +kernel
theorem d_LW_law_308 : decode b_LW_law 308 = .ok (.ireturn, 1) := by decide +kernel
theorem d_LW_law_309 : decode b_LW_law 309 = .ok (.goto 1160, 3) := by decide +kernel
theorem d_LW_law_312 : decode b_LW_law 312 = .ok (.aload_n 1, 1) := by decide +kernel
theorem d_LW_law_313 : decode b_LW_law 313 = .ok (.invokevirtual 106, 3) := by decide +kernel
theorem d_LW_law_316 : decode b_LW_law 316 = .ok (.aload_n 2, 1) := by decide +kernel
theorem d_LW_law_317 : decode b_LW_law 317 = .ok (.invokevirtual 109, 3) := by decide +kernel
theorem d_LW_law_320 : decode b_LW_law 320 = .ok (.goto 1149, 3) := by decide +kernel
theorem d_LW_law_323 : decode b_LW_law 323 = .ok (.aload_n 1, 1) := by decide +kernel
theorem d_LW_law_324 : decode b_LW_law 324 = .ok (.aload_n 0, 1) := by decide +kernel
theorem d_LW_law_325 : decode b_LW_law 325 = .ok (.iload 4, 2) := by decide +kernel
theorem d_LW_law_327 : decode b_LW_law 327 = .ok (.iconst 1, 1) := by decide +kernel
theorem d_LW_law_328 : decode b_LW_law 328 = .ok (.iadd, 1) := by decide +kernel
theorem d_LW_law_329 : decode b_LW_law 329 = .ok (.iaload, 1) := by decide +kernel
theorem d_LW_law_330 : decode b_LW_law 330 = .ok (.aload_n 3, 1) := by decide +kernel
theorem d_LW_law_331 : decode b_LW_law 331 = .ok (.invokestatic 110, 3) := by decide +kernel
theorem d_LW_law_334 : decode b_LW_law 334 = .ok (.istore 5, 2) := by decide +kernel
theorem d_LW_law_336 : decode b_LW_law 336 = .ok (.aload_n 2, 1) := by decide +kernel
theorem d_LW_law_337 : decode b_LW_law 337 = .ok (.aload_n 0, 1) := by decide +kernel
theorem d_LW_law_338 : decode b_LW_law 338 = .ok (.iload 4, 2) := by decide +kernel
theorem d_LW_law_340 : decode b_LW_law 340 = .ok (.iconst 1, 1) := by decide +kernel
theorem d_LW_law_341 : decode b_LW_law 341 = .ok (.iadd, 1) := by decide +kernel
theorem d_LW_law_342 : decode b_LW_law 342 = .ok (.iaload, 1) := by decide +kernel
theorem d_LW_law_343 : decode b_LW_law 343 = .ok (.invokevirtual 112, 3) := by decide +kernel
theorem d_LW_law_346 : decode b_LW_law 346 = .ok (.istore 6, 2) := by decide +kernel
theorem d_LW_law_348 : decode b_LW_law 348 = .ok (.aload_n 2, 1) := by decide +kernel
theorem d_LW_law_349 : decode b_LW_law 349 = .ok (.invokevirtual 95, 3) := by decide +kernel
theorem d_LW_law_352 : decode b_LW_law 352 = .ok (.iload 5, 2) := by decide +kernel
theorem d_LW_law_354 : decode b_LW_law 354 = .ok (.if_icmp .eq 5, 3) := by decide +kernel
theorem d_LW_law_357 : decode b_LW_law 357 = .ok (.iconst 0, 1) := by decide +kernel
theorem d_LW_law_358 : decode b_LW_law 358 = .ok (.ireturn, 1) := by decide +kernel
theorem d_LW_law_359 : decode b_LW_law 359 = .ok (.iload 5, 2) := by decide +kernel
theorem d_LW_law_361 : decode b_LW_law 361 = .ok (.ifCond .ne 15, 3) := by decide +kernel
theorem d_LW_law_364 : decode b_LW_law 364 = .ok (.aload_n 3, 1) := by decide +kernel
theorem d_LW_law_365 : decode b_LW_law 365 = .ok (.iconst 0, 1) := by decide +kernel
theorem d_LW_law_366 : decode b_LW_law 366 = .ok (.laload, 1) := by decide +kernel
theorem d_LW_law_367 : decode b_LW_law 367 = .ok (.iload 6, 2) := by decide +kernel
theorem d_LW_law_369 : decode b_LW_law 369 = .ok (.i2l, 1) := by decide +kernel
theorem d_LW_law_370 : decode b_LW_law 370 = .ok (.lcmp, 1) := by decide +kernel
theorem d_LW_law_371 : decode b_LW_law 371 = .ok (.ifCond .eq 5, 3) := by decide +kernel
theorem d_LW_law_374 : decode b_LW_law 374 = .ok (.iconst 0, 1) := by decide +kernel
theorem d_LW_law_375 : decode b_LW_law 375 = .ok (.ireturn, 1) := by decide +kernel
theorem d_LW_law_376 : decode b_LW_law 376 = .ok (.goto 1093, 3) := by decide +kernel
theorem d_LW_law_379 : decode b_LW_law 379 = .ok (.aload_n 1, 1) := by decide +kernel
theorem d_LW_law_380 : decode b_LW_law 380 = .ok (.aload_n 3, 1) := by decide +kernel
theorem d_LW_law_381 : decode b_LW_law 381 = .ok (.invokestatic 113, 3) := by decide +kernel
theorem d_LW_law_384 : decode b_LW_law 384 = .ok (.istore 5, 2) := by decide +kernel
theorem d_LW_law_386 : decode b_LW_law 386 = .ok (.aload_n 2, 1) := by decide +kernel
theorem d_LW_law_387 : decode b_LW_law 387 = .ok (.invokevirtual 116, 3) := by decide +kernel
theorem d_LW_law_390 : decode b_LW_law 390 = .ok (.istore 6, 2) := by decide +kernel
theorem d_LW_law_392 : decode b_LW_law 392 = .ok (.aload_n 2, 1) := by decide +kernel
theorem d_LW_law_393 : decode b_LW_law 393 = .ok (.invokevirtual 95, 3) := by decide +kernel
theorem d_LW_law_396 : decode b_LW_law 396 = .ok (.iload 5, 2) := by decide +kernel
theorem d_LW_law_398 : decode b_LW_law 398 = .ok (.if_icmp .eq 5, 3) := by decide +kernel
theorem d_LW_law_401 : decode b_LW_law 401 = .ok (.iconst 0, 1) := by decide +kernel
theorem d_LW_law_402 : decode b_LW_law 402 = .ok (.ireturn, 1) := by decide +kernel
theorem d_LW_law_403 : decode b_LW_law 403 = .ok (.iload 5, 2) := by decide +kernel
theorem d_LW_law_405 : decode b_LW_law 405 = .ok (.ifCond .ne 15, 3) := by decide +kernel
theorem d_LW_law_408 : decode b_LW_law 408 = .ok (.aload_n 3, 1) := by decide +kernel
theorem d_LW_law_409 : decode b_LW_law 409 = .ok (.iconst 0, 1) := by decide +kernel
theorem d_LW_law_410 : decode b_LW_law 410 = .ok (.laload, 1) := by decide +kernel
theorem d_LW_law_411 : decode b_LW_law 411 = .ok (.iload 6, 2) := by decide +kernel
theorem d_LW_law_413 : decode b_LW_law 413 = .ok (.i2l, 1) := by decide +kernel
theorem d_LW_law_414 : decode b_LW_law 414 = .ok (.lcmp, 1) := by decide +kernel
theorem d_LW_law_415 : decode b_LW_law 415 = .ok (.ifCond .eq 5, 3) := by decide +kernel
theorem d_LW_law_418 : decode b_LW_law 418 = .ok (.iconst 0, 1) := by decide +kernel
theorem d_LW_law_419 : decode b_LW_law 419 = .ok (.ireturn, 1) := by decide +kernel
theorem d_LW_law_420 : decode b_LW_law 420 = .ok (.goto 1049, 3) := by decide +kernel
theorem d_LW_law_423 : decode b_LW_law 423 = .ok (.aload_n 1, 1) := by decide +kernel
theorem d_LW_law_424 : decode b_LW_law 424 = .ok (.aload_n 0, 1) := by decide +kernel
theorem d_LW_law_425 : decode b_LW_law 425 = .ok (.iload 4, 2) := by decide +kernel
theorem d_LW_law_427 : decode b_LW_law 427 = .ok (.iconst 1, 1) := by decide +kernel
theorem d_LW_law_428 : decode b_LW_law 428 = .ok (.iadd, 1) := by decide +kernel
theorem d_LW_law_429 : decode b_LW_law 429 = .ok (.iaload, 1) := by decide +kernel
theorem d_LW_law_430 : decode b_LW_law 430 = .ok (.aload_n 0, 1) := by decide +kernel
theorem d_LW_law_431 : decode b_LW_law 431 = .ok (.iload 4, 2) := by decide +kernel
theorem d_LW_law_433 : decode b_LW_law 433 = .ok (.iconst 2, 1) := by decide +kernel
theorem d_LW_law_434 : decode b_LW_law 434 = .ok (.iadd, 1) := by decide +kernel
theorem d_LW_law_435 : decode b_LW_law 435 = .ok (.iaload, 1) := by decide +kernel
theorem d_LW_law_436 : decode b_LW_law 436 = .ok (.aload_n 3, 1) := by decide +kernel
theorem d_LW_law_437 : decode b_LW_law 437 = .ok (.invokestatic 117, 3) := by decide +kernel
theorem d_LW_law_440 : decode b_LW_law 440 = .ok (.istore 5, 2) := by decide +kernel
theorem d_LW_law_442 : decode b_LW_law 442 = .ok (.aload_n 2, 1) := by decide +kernel
theorem d_LW_law_443 : decode b_LW_law 443 = .ok (.aload_n 0, 1) := by decide +kernel
theorem d_LW_law_444 : decode b_LW_law 444 = .ok (.iload 4, 2) := by decide +kernel
theorem d_LW_law_446 : decode b_LW_law 446 = .ok (.iconst 1, 1) := by decide +kernel
theorem d_LW_law_447 : decode b_LW_law 447 = .ok (.iadd, 1) := by decide +kernel
theorem d_LW_law_448 : decode b_LW_law 448 = .ok (.iaload, 1) := by decide +kernel
theorem d_LW_law_449 : decode b_LW_law 449 = .ok (.aload_n 0, 1) := by decide +kernel
theorem d_LW_law_450 : decode b_LW_law 450 = .ok (.iload 4, 2) := by decide +kernel
theorem d_LW_law_452 : decode b_LW_law 452 = .ok (.iconst 2, 1) := by decide +kernel
theorem d_LW_law_453 : decode b_LW_law 453 = .ok (.iadd, 1) := by decide +kernel
theorem d_LW_law_454 : decode b_LW_law 454 = .ok (.iaload, 1) := by decide +kernel
theorem d_LW_law_455 : decode b_LW_law 455 = .ok (.invokevirtual 119, 3) := by decide +kernel
theorem d_LW_law_458 : decode b_LW_law 458 = .ok (.istore 6, 2) := by decide +kernel
theorem d_LW_law_460 : decode b_LW_law 460 = .ok (.aload_n 2, 1) := by decide +kernel
theorem d_LW_law_461 : decode b_LW_law 461 = .ok (.invokevirtual 95, 3) := by decide +kernel
theorem d_LW_law_464 : decode b_LW_law 464 = .ok (.iload 5, 2) := by decide +kernel
theorem d_LW_law_466 : decode b_LW_law 466 = .ok (.if_icmp .eq 5, 3) := by decide +kernel
theorem d_LW_law_469 : decode b_LW_law 469 = .ok (.iconst 0, 1) := by decide +kernel
theorem d_LW_law_470 : decode b_LW_law 470 = .ok (.ireturn, 1) := by decide +kernel
theorem d_LW_law_471 : decode b_LW_law 471 = .ok (.iload 5, 2) := by decide +kernel
theorem d_LW_law_473 : decode b_LW_law 473 = .ok (.ifCond .ne 15, 3) := by decide +kernel
theorem d_LW_law_476 : decode b_LW_law 476 = .ok (.aload_n 3, 1) := by decide +kernel
theorem d_LW_law_477 : decode b_LW_law 477 = .ok (.iconst 0, 1) := by decide +kernel
theorem d_LW_law_478 : decode b_LW_law 478 = .ok (.laload, 1) := by decide +kernel
theorem d_LW_law_479 : decode b_LW_law 479 = .ok (.iload 6, 2) := by decide +kernel
theorem d_LW_law_481 : decode b_LW_law 481 = .ok (.i2l, 1) := by decide +kernel
theorem d_LW_law_482 : decode b_LW_law 482 = .ok (.lcmp, 1) := by decide +kernel
theorem d_LW_law_483 : decode b_LW_law 483 = .ok (.ifCond .eq 5, 3) := by decide +kernel
theorem d_LW_law_486 : decode b_LW_law 486 = .ok (.iconst 0, 1) := by decide +kernel
theorem d_LW_law_487 : decode b_LW_law 487 = .ok (.ireturn, 1) := by decide +kernel
theorem d_LW_law_488 : decode b_LW_law 488 = .ok (.goto 981, 3) := by decide +kernel
theorem d_LW_law_491 : decode b_LW_law 491 = .ok (.aload_n 1, 1) := by decide +kernel
theorem d_LW_law_492 : decode b_LW_law 492 = .ok (.aload_n 0, 1) := by decide +kernel
theorem d_LW_law_493 : decode b_LW_law 493 = .ok (.iload 4, 2) := by decide +kernel
theorem d_LW_law_495 : decode b_LW_law 495 = .ok (.iconst 1, 1) := by decide +kernel
theorem d_LW_law_496 : decode b_LW_law 496 = .ok (.iadd, 1) := by decide +kernel
theorem d_LW_law_497 : decode b_LW_law 497 = .ok (.iaload, 1) := by decide +kernel
theorem d_LW_law_498 : decode b_LW_law 498 = .ok (.aload_n 0, 1) := by decide +kernel
theorem d_LW_law_499 : decode b_LW_law 499 = .ok (.iload 4, 2) := by decide +kernel
theorem d_LW_law_501 : decode b_LW_law 501 = .ok (.iconst 2, 1) := by decide +kernel
theorem d_LW_law_502 : decode b_LW_law 502 = .ok (.iadd, 1) := by decide +kernel
theorem d_LW_law_503 : decode b_LW_law 503 = .ok (.iaload, 1) := by decide +kernel
theorem d_LW_law_504 : decode b_LW_law 504 = .ok (.aload_n 0, 1) := by decide +kernel
theorem d_LW_law_505 : decode b_LW_law 505 = .ok (.iload 4, 2) := by decide +kernel
theorem d_LW_law_507 : decode b_LW_law 507 = .ok (.iconst 3, 1) := by decide +kernel
theorem d_LW_law_508 : decode b_LW_law 508 = .ok (.iadd, 1) := by decide +kernel
theorem d_LW_law_509 : decode b_LW_law 509 = .ok (.iaload, 1) := by decide +kernel
theorem d_LW_law_510 : decode b_LW_law 510 = .ok (.aload_n 3, 1) := by decide +kernel
theorem d_LW_law_511 : decode b_LW_law 511 = .ok (.invokestatic 120, 3) := by decide +kernel
theorem d_LW_law_514 : decode b_LW_law 514 = .ok (.istore 5, 2) := by decide +kernel
theorem d_LW_law_516 : decode b_LW_law 516 = .ok (.aload_n 2, 1) := by decide +kernel
theorem d_LW_law_517 : decode b_LW_law 517 = .ok (.aload_n 0, 1) := by decide +kernel
theorem d_LW_law_518 : decode b_LW_law 518 = .ok (.iload 4, 2) := by decide +kernel
theorem d_LW_law_520 : decode b_LW_law 520 = .ok (.iconst 1, 1) := by decide +kernel
theorem d_LW_law_521 : decode b_LW_law 521 = .ok (.iadd, 1) := by decide +kernel
theorem d_LW_law_522 : decode b_LW_law 522 = .ok (.iaload, 1) := by decide +kernel
theorem d_LW_law_523 : decode b_LW_law 523 = .ok (.aload_n 0, 1) := by decide +kernel
theorem d_LW_law_524 : decode b_LW_law 524 = .ok (.iload 4, 2) := by decide +kernel
theorem d_LW_law_526 : decode b_LW_law 526 = .ok (.iconst 2, 1) := by decide +kernel
theorem d_LW_law_527 : decode b_LW_law 527 = .ok (.iadd, 1) := by decide +kernel
theorem d_LW_law_528 : decode b_LW_law 528 = .ok (.iaload, 1) := by decide +kernel
theorem d_LW_law_529 : decode b_LW_law 529 = .ok (.aload_n 0, 1) := by decide +kernel
theorem d_LW_law_530 : decode b_LW_law 530 = .ok (.iload 4, 2) := by decide +kernel
theorem d_LW_law_532 : decode b_LW_law 532 = .ok (.iconst 3, 1) := by decide +kernel
theorem d_LW_law_533 : decode b_LW_law 533 = .ok (.iadd, 1) := by decide +kernel
theorem d_LW_law_534 : decode b_LW_law 534 = .ok (.iaload, 1) := by decide +kernel
theorem d_LW_law_535 : decode b_LW_law 535 = .ok (.invokevirtual 123, 3) := by decide +kernel
theorem d_LW_law_538 : decode b_LW_law 538 = .ok (.istore 6, 2) := by decide +kernel
theorem d_LW_law_540 : decode b_LW_law 540 = .ok (.aload_n 2, 1) := by decide +kernel
theorem d_LW_law_541 : decode b_LW_law 541 = .ok (.invokevirtual 95, 3) := by decide +kernel
theorem d_LW_law_544 : decode b_LW_law 544 = .ok (.iload 5, 2) := by decide +kernel
theorem d_LW_law_546 : decode b_LW_law 546 = .ok (.if_icmp .eq 5, 3) := by decide +kernel
theorem d_LW_law_549 : decode b_LW_law 549 = .ok (.iconst 0, 1) := by decide +kernel
theorem d_LW_law_550 : decode b_LW_law 550 = .ok (.ireturn, 1) := by decide +kernel
theorem d_LW_law_551 : decode b_LW_law 551 = .ok (.iload 5, 2) := by decide +kernel
theorem d_LW_law_553 : decode b_LW_law 553 = .ok (.ifCond .ne 15, 3) := by decide +kernel
theorem d_LW_law_556 : decode b_LW_law 556 = .ok (.aload_n 3, 1) := by decide +kernel
theorem d_LW_law_557 : decode b_LW_law 557 = .ok (.iconst 0, 1) := by decide +kernel
theorem d_LW_law_558 : decode b_LW_law 558 = .ok (.laload, 1) := by decide +kernel
theorem d_LW_law_559 : decode b_LW_law 559 = .ok (.iload 6, 2) := by decide +kernel
theorem d_LW_law_561 : decode b_LW_law 561 = .ok (.i2l, 1) := by decide +kernel
theorem d_LW_law_562 : decode b_LW_law 562 = .ok (.lcmp, 1) := by decide +kernel
theorem d_LW_law_563 : decode b_LW_law 563 = .ok (.ifCond .eq 5, 3) := by decide +kernel
theorem d_LW_law_566 : decode b_LW_law 566 = .ok (.iconst 0, 1) := by decide +kernel
theorem d_LW_law_567 : decode b_LW_law 567 = .ok (.ireturn, 1) := by decide +kernel
theorem d_LW_law_568 : decode b_LW_law 568 = .ok (.goto 901, 3) := by decide +kernel
theorem d_LW_law_571 : decode b_LW_law 571 = .ok (.aload_n 1, 1) := by decide +kernel
theorem d_LW_law_572 : decode b_LW_law 572 = .ok (.aload_n 0, 1) := by decide +kernel
theorem d_LW_law_573 : decode b_LW_law 573 = .ok (.iload 4, 2) := by decide +kernel
theorem d_LW_law_575 : decode b_LW_law 575 = .ok (.iconst 1, 1) := by decide +kernel
theorem d_LW_law_576 : decode b_LW_law 576 = .ok (.iadd, 1) := by decide +kernel
theorem d_LW_law_577 : decode b_LW_law 577 = .ok (.iaload, 1) := by decide +kernel
theorem d_LW_law_578 : decode b_LW_law 578 = .ok (.aload_n 0, 1) := by decide +kernel
theorem d_LW_law_579 : decode b_LW_law 579 = .ok (.iload 4, 2) := by decide +kernel
theorem d_LW_law_581 : decode b_LW_law 581 = .ok (.iconst 2, 1) := by decide +kernel
theorem d_LW_law_582 : decode b_LW_law 582 = .ok (.iadd, 1) := by decide +kernel
theorem d_LW_law_583 : decode b_LW_law 583 = .ok (.iaload, 1) := by decide +kernel
theorem d_LW_law_584 : decode b_LW_law 584 = .ok (.aload_n 0, 1) := by decide +kernel
theorem d_LW_law_585 : decode b_LW_law 585 = .ok (.iload 4, 2) := by decide +kernel
theorem d_LW_law_587 : decode b_LW_law 587 = .ok (.iconst 3, 1) := by decide +kernel
theorem d_LW_law_588 : decode b_LW_law 588 = .ok (.iadd, 1) := by decide +kernel
theorem d_LW_law_589 : decode b_LW_law 589 = .ok (.iaload, 1) := by decide +kernel
theorem d_LW_law_590 : decode b_LW_law 590 = .ok (.aload_n 3, 1) := by decide +kernel
theorem d_LW_law_591 : decode b_LW_law 591 = .ok (.invokestatic 124, 3) := by decide +kernel
theorem d_LW_law_594 : decode b_LW_law 594 = .ok (.istore 5, 2) := by decide +kernel
theorem d_LW_law_596 : decode b_LW_law 596 = .ok (.aload_n 2, 1) := by decide +kernel
theorem d_LW_law_597 : decode b_LW_law 597 = .ok (.aload_n 0, 1) := by decide +kernel
theorem d_LW_law_598 : decode b_LW_law 598 = .ok (.iload 4, 2) := by decide +kernel
theorem d_LW_law_600 : decode b_LW_law 600 = .ok (.iconst 1, 1) := by decide +kernel
theorem d_LW_law_601 : decode b_LW_law 601 = .ok (.iadd, 1) := by decide +kernel
theorem d_LW_law_602 : decode b_LW_law 602 = .ok (.iaload, 1) := by decide +kernel
theorem d_LW_law_603 : decode b_LW_law 603 = .ok (.aload_n 0, 1) := by decide +kernel
theorem d_LW_law_604 : decode b_LW_law 604 = .ok (.iload 4, 2) := by decide +kernel
theorem d_LW_law_606 : decode b_LW_law 606 = .ok (.iconst 2, 1) := by decide +kernel
theorem d_LW_law_607 : decode b_LW_law 607 = .ok (.iadd, 1) := by decide +kernel
theorem d_LW_law_608 : decode b_LW_law 608 = .ok (.iaload, 1) := by decide +kernel
theorem d_LW_law_609 : decode b_LW_law 609 = .ok (.aload_n 0, 1) := by decide +kernel
theorem d_LW_law_610 : decode b_LW_law 610 = .ok (.iload 4, 2) := by decide +kernel
theorem d_LW_law_612 : decode b_LW_law 612 = .ok (.iconst 3, 1) := by decide +kernel
theorem d_LW_law_613 : decode b_LW_law 613 = .ok (.iadd, 1) := by decide +kernel
theorem d_LW_law_614 : decode b_LW_law 614 = .ok (.iaload, 1) := by decide +kernel
theorem d_LW_law_615 : decode b_LW_law 615 = .ok (.invokevirtual 126, 3) := by decide +kernel
theorem d_LW_law_618 : decode b_LW_law 618 = .ok (.istore 6, 2) := by decide +kernel
theorem d_LW_law_620 : decode b_LW_law 620 = .ok (.aload_n 2, 1) := by decide +kernel
theorem d_LW_law_621 : decode b_LW_law 621 = .ok (.invokevirtual 95, 3) := by decide +kernel
theorem d_LW_law_624 : decode b_LW_law 624 = .ok (.iload 5, 2) := by decide +kernel
theorem d_LW_law_626 : decode b_LW_law 626 = .ok (.if_icmp .eq 5, 3) := by decide +kernel
theorem d_LW_law_629 : decode b_LW_law 629 = .ok (.iconst 0, 1) := by decide +kernel
theorem d_LW_law_630 : decode b_LW_law 630 = .ok (.ireturn, 1) := by decide +kernel
theorem d_LW_law_631 : decode b_LW_law 631 = .ok (.iload 5, 2) := by decide +kernel
theorem d_LW_law_633 : decode b_LW_law 633 = .ok (.ifCond .ne 15, 3) := by decide +kernel
theorem d_LW_law_636 : decode b_LW_law 636 = .ok (.aload_n 3, 1) := by decide +kernel
theorem d_LW_law_637 : decode b_LW_law 637 = .ok (.iconst 0, 1) := by decide +kernel
theorem d_LW_law_638 : decode b_LW_law 638 = .ok (.laload, 1) := by decide +kernel
theorem d_LW_law_639 : decode b_LW_law 639 = .ok (.iload 6, 2) := by decide +kernel
theorem d_LW_law_641 : decode b_LW_law 641 = .ok (.i2l, 1) := by decide +kernel
theorem d_LW_law_642 : decode b_LW_law 642 = .ok (.lcmp, 1) := by decide +kernel
theorem d_LW_law_643 : decode b_LW_law 643 = .ok (.ifCond .eq 5, 3) := by decide +kernel
theorem d_LW_law_646 : decode b_LW_law 646 = .ok (.iconst 0, 1) := by decide +kernel
theorem d_LW_law_647 : decode b_LW_law 647 = .ok (.ireturn, 1) := by decide +kernel
theorem d_LW_law_648 : decode b_LW_law 648 = .ok (.goto 821, 3) := by decide +kernel
theorem d_LW_law_651 : decode b_LW_law 651 = .ok (.aload_n 1, 1) := by decide +kernel
theorem d_LW_law_652 : decode b_LW_law 652 = .ok (.aload_n 0, 1) := by decide +kernel
theorem d_LW_law_653 : decode b_LW_law 653 = .ok (.iload 4, 2) := by decide +kernel
theorem d_LW_law_655 : decode b_LW_law 655 = .ok (.iconst 1, 1) := by decide +kernel
theorem d_LW_law_656 : decode b_LW_law 656 = .ok (.iadd, 1) := by decide +kernel
theorem d_LW_law_657 : decode b_LW_law 657 = .ok (.iaload, 1) := by decide +kernel
theorem d_LW_law_658 : decode b_LW_law 658 = .ok (.aload_n 3, 1) := by decide +kernel
theorem d_LW_law_659 : decode b_LW_law 659 = .ok (.invokestatic 127, 3) := by decide +kernel
theorem d_LW_law_662 : decode b_LW_law 662 = .ok (.istore 5, 2) := by decide +kernel
theorem d_LW_law_664 : decode b_LW_law 664 = .ok (.aload_n 2, 1) := by decide +kernel
theorem d_LW_law_665 : decode b_LW_law 665 = .ok (.aload_n 0, 1) := by decide +kernel
theorem d_LW_law_666 : decode b_LW_law 666 = .ok (.iload 4, 2) := by decide +kernel
theorem d_LW_law_668 : decode b_LW_law 668 = .ok (.iconst 1, 1) := by decide +kernel
theorem d_LW_law_669 : decode b_LW_law 669 = .ok (.iadd, 1) := by decide +kernel
theorem d_LW_law_670 : decode b_LW_law 670 = .ok (.iaload, 1) := by decide +kernel
theorem d_LW_law_671 : decode b_LW_law 671 = .ok (.invokevirtual 129, 3) := by decide +kernel
theorem d_LW_law_674 : decode b_LW_law 674 = .ok (.istore 6, 2) := by decide +kernel
theorem d_LW_law_676 : decode b_LW_law 676 = .ok (.aload_n 2, 1) := by decide +kernel
theorem d_LW_law_677 : decode b_LW_law 677 = .ok (.invokevirtual 95, 3) := by decide +kernel
theorem d_LW_law_680 : decode b_LW_law 680 = .ok (.iload 5, 2) := by decide +kernel
theorem d_LW_law_682 : decode b_LW_law 682 = .ok (.if_icmp .eq 5, 3) := by decide +kernel
theorem d_LW_law_685 : decode b_LW_law 685 = .ok (.iconst 0, 1) := by decide +kernel
theorem d_LW_law_686 : decode b_LW_law 686 = .ok (.ireturn, 1) := by decide +kernel
theorem d_LW_law_687 : decode b_LW_law 687 = .ok (.iload 5, 2) := by decide +kernel
theorem d_LW_law_689 : decode b_LW_law 689 = .ok (.ifCond .ne 15, 3) := by decide +kernel
theorem d_LW_law_692 : decode b_LW_law 692 = .ok (.aload_n 3, 1) := by decide +kernel
theorem d_LW_law_693 : decode b_LW_law 693 = .ok (.iconst 0, 1) := by decide +kernel
theorem d_LW_law_694 : decode b_LW_law 694 = .ok (.laload, 1) := by decide +kernel
theorem d_LW_law_695 : decode b_LW_law 695 = .ok (.iload 6, 2) := by decide +kernel
theorem d_LW_law_697 : decode b_LW_law 697 = .ok (.i2l, 1) := by decide +kernel
theorem d_LW_law_698 : decode b_LW_law 698 = .ok (.lcmp, 1) := by decide +kernel
theorem d_LW_law_699 : decode b_LW_law 699 = .ok (.ifCond .eq 5, 3) := by decide +kernel
theorem d_LW_law_702 : decode b_LW_law 702 = .ok (.iconst 0, 1) := by decide +kernel
theorem d_LW_law_703 : decode b_LW_law 703 = .ok (.ireturn, 1) := by decide +kernel
theorem d_LW_law_704 : decode b_LW_law 704 = .ok (.goto 765, 3) := by decide +kernel
theorem d_LW_law_707 : decode b_LW_law 707 = .ok (.aload_n 1, 1) := by decide +kernel
theorem d_LW_law_708 : decode b_LW_law 708 = .ok (.aload_n 0, 1) := by decide +kernel
theorem d_LW_law_709 : decode b_LW_law 709 = .ok (.iload 4, 2) := by decide +kernel
theorem d_LW_law_711 : decode b_LW_law 711 = .ok (.iconst 1, 1) := by decide +kernel
theorem d_LW_law_712 : decode b_LW_law 712 = .ok (.iadd, 1) := by decide +kernel
theorem d_LW_law_713 : decode b_LW_law 713 = .ok (.iaload, 1) := by decide +kernel
theorem d_LW_law_714 : decode b_LW_law 714 = .ok (.aload_n 0, 1) := by decide +kernel
theorem d_LW_law_715 : decode b_LW_law 715 = .ok (.iload 4, 2) := by decide +kernel
theorem d_LW_law_717 : decode b_LW_law 717 = .ok (.iconst 2, 1) := by decide +kernel
theorem d_LW_law_718 : decode b_LW_law 718 = .ok (.iadd, 1) := by decide +kernel
theorem d_LW_law_719 : decode b_LW_law 719 = .ok (.iaload, 1) := by decide +kernel
theorem d_LW_law_720 : decode b_LW_law 720 = .ok (.aload_n 3, 1) := by decide +kernel
theorem d_LW_law_721 : decode b_LW_law 721 = .ok (.invokestatic 130, 3) := by decide +kernel
theorem d_LW_law_724 : decode b_LW_law 724 = .ok (.istore 5, 2) := by decide +kernel
theorem d_LW_law_726 : decode b_LW_law 726 = .ok (.aload_n 2, 1) := by decide +kernel
theorem d_LW_law_727 : decode b_LW_law 727 = .ok (.aload_n 0, 1) := by decide +kernel
theorem d_LW_law_728 : decode b_LW_law 728 = .ok (.iload 4, 2) := by decide +kernel
theorem d_LW_law_730 : decode b_LW_law 730 = .ok (.iconst 1, 1) := by decide +kernel
theorem d_LW_law_731 : decode b_LW_law 731 = .ok (.iadd, 1) := by decide +kernel
theorem d_LW_law_732 : decode b_LW_law 732 = .ok (.iaload, 1) := by decide +kernel
theorem d_LW_law_733 : decode b_LW_law 733 = .ok (.aload_n 0, 1) := by decide +kernel
theorem d_LW_law_734 : decode b_LW_law 734 = .ok (.iload 4, 2) := by decide +kernel
theorem d_LW_law_736 : decode b_LW_law 736 = .ok (.iconst 2, 1) := by decide +kernel
theorem d_LW_law_737 : decode b_LW_law 737 = .ok (.iadd, 1) := by decide +kernel
theorem d_LW_law_738 : decode b_LW_law 738 = .ok (.iaload, 1) := by decide +kernel
theorem d_LW_law_739 : decode b_LW_law 739 = .ok (.invokevirtual 132, 3) := by decide +kernel
theorem d_LW_law_742 : decode b_LW_law 742 = .ok (.istore 6, 2) := by decide +kernel
theorem d_LW_law_744 : decode b_LW_law 744 = .ok (.aload_n 2, 1) := by decide +kernel
theorem d_LW_law_745 : decode b_LW_law 745 = .ok (.invokevirtual 95, 3) := by decide +kernel
theorem d_LW_law_748 : decode b_LW_law 748 = .ok (.iload 5, 2) := by decide +kernel
theorem d_LW_law_750 : decode b_LW_law 750 = .ok (.if_icmp .eq 5, 3) := by decide +kernel
theorem d_LW_law_753 : decode b_LW_law 753 = .ok (.iconst 0, 1) := by decide +kernel
theorem d_LW_law_754 : decode b_LW_law 754 = .ok (.ireturn, 1) := by decide +kernel
theorem d_LW_law_755 : decode b_LW_law 755 = .ok (.iload 5, 2) := by decide +kernel
theorem d_LW_law_757 : decode b_LW_law 757 = .ok (.ifCond .ne 15, 3) := by decide +kernel
theorem d_LW_law_760 : decode b_LW_law 760 = .ok (.aload_n 3, 1) := by decide +kernel
theorem d_LW_law_761 : decode b_LW_law 761 = .ok (.iconst 0, 1) := by decide +kernel
theorem d_LW_law_762 : decode b_LW_law 762 = .ok (.laload, 1) := by decide +kernel
theorem d_LW_law_763 : decode b_LW_law 763 = .ok (.iload 6, 2) := by decide +kernel
theorem d_LW_law_765 : decode b_LW_law 765 = .ok (.i2l, 1) := by decide +kernel
theorem d_LW_law_766 : decode b_LW_law 766 = .ok (.lcmp, 1) := by decide +kernel
theorem d_LW_law_767 : decode b_LW_law 767 = .ok (.ifCond .eq 5, 3) := by decide +kernel
theorem d_LW_law_770 : decode b_LW_law 770 = .ok (.iconst 0, 1) := by decide +kernel
theorem d_LW_law_771 : decode b_LW_law 771 = .ok (.ireturn, 1) := by decide +kernel
theorem d_LW_law_772 : decode b_LW_law 772 = .ok (.goto 697, 3) := by decide +kernel
theorem d_LW_law_775 : decode b_LW_law 775 = .ok (.aload_n 1, 1) := by decide +kernel
theorem d_LW_law_776 : decode b_LW_law 776 = .ok (.aload_n 0, 1) := by decide +kernel
theorem d_LW_law_777 : decode b_LW_law 777 = .ok (.iload 4, 2) := by decide +kernel
theorem d_LW_law_779 : decode b_LW_law 779 = .ok (.iconst 1, 1) := by decide +kernel
theorem d_LW_law_780 : decode b_LW_law 780 = .ok (.iadd, 1) := by decide +kernel
theorem d_LW_law_781 : decode b_LW_law 781 = .ok (.iaload, 1) := by decide +kernel
theorem d_LW_law_782 : decode b_LW_law 782 = .ok (.aload_n 0, 1) := by decide +kernel
theorem d_LW_law_783 : decode b_LW_law 783 = .ok (.iload 4, 2) := by decide +kernel
theorem d_LW_law_785 : decode b_LW_law 785 = .ok (.iconst 2, 1) := by decide +kernel
theorem d_LW_law_786 : decode b_LW_law 786 = .ok (.iadd, 1) := by decide +kernel
theorem d_LW_law_787 : decode b_LW_law 787 = .ok (.iaload, 1) := by decide +kernel
theorem d_LW_law_788 : decode b_LW_law 788 = .ok (.aload_n 3, 1) := by decide +kernel
theorem d_LW_law_789 : decode b_LW_law 789 = .ok (.invokestatic 133, 3) := by decide +kernel
theorem d_LW_law_792 : decode b_LW_law 792 = .ok (.istore 5, 2) := by decide +kernel
theorem d_LW_law_794 : decode b_LW_law 794 = .ok (.aload_n 2, 1) := by decide +kernel
theorem d_LW_law_795 : decode b_LW_law 795 = .ok (.aload_n 0, 1) := by decide +kernel
theorem d_LW_law_796 : decode b_LW_law 796 = .ok (.iload 4, 2) := by decide +kernel
theorem d_LW_law_798 : decode b_LW_law 798 = .ok (.iconst 1, 1) := by decide +kernel
theorem d_LW_law_799 : decode b_LW_law 799 = .ok (.iadd, 1) := by decide +kernel
theorem d_LW_law_800 : decode b_LW_law 800 = .ok (.iaload, 1) := by decide +kernel
theorem d_LW_law_801 : decode b_LW_law 801 = .ok (.aload_n 0, 1) := by decide +kernel
theorem d_LW_law_802 : decode b_LW_law 802 = .ok (.iload 4, 2) := by decide +kernel
theorem d_LW_law_804 : decode b_LW_law 804 = .ok (.iconst 2, 1) := by decide +kernel
theorem d_LW_law_805 : decode b_LW_law 805 = .ok (.iadd, 1) := by decide +kernel
theorem d_LW_law_806 : decode b_LW_law 806 = .ok (.iaload, 1) := by decide +kernel
theorem d_LW_law_807 : decode b_LW_law 807 = .ok (.invokevirtual 135, 3) := by decide +kernel
theorem d_LW_law_810 : decode b_LW_law 810 = .ok (.istore 6, 2) := by decide +kernel
theorem d_LW_law_812 : decode b_LW_law 812 = .ok (.aload_n 2, 1) := by decide +kernel
theorem d_LW_law_813 : decode b_LW_law 813 = .ok (.invokevirtual 95, 3) := by decide +kernel
theorem d_LW_law_816 : decode b_LW_law 816 = .ok (.iload 5, 2) := by decide +kernel
theorem d_LW_law_818 : decode b_LW_law 818 = .ok (.if_icmp .eq 5, 3) := by decide +kernel
theorem d_LW_law_821 : decode b_LW_law 821 = .ok (.iconst 0, 1) := by decide +kernel
theorem d_LW_law_822 : decode b_LW_law 822 = .ok (.ireturn, 1) := by decide +kernel
theorem d_LW_law_823 : decode b_LW_law 823 = .ok (.iload 5, 2) := by decide +kernel
theorem d_LW_law_825 : decode b_LW_law 825 = .ok (.ifCond .ne 15, 3) := by decide +kernel
theorem d_LW_law_828 : decode b_LW_law 828 = .ok (.aload_n 3, 1) := by decide +kernel
theorem d_LW_law_829 : decode b_LW_law 829 = .ok (.iconst 0, 1) := by decide +kernel
theorem d_LW_law_830 : decode b_LW_law 830 = .ok (.laload, 1) := by decide +kernel
theorem d_LW_law_831 : decode b_LW_law 831 = .ok (.iload 6, 2) := by decide +kernel
theorem d_LW_law_833 : decode b_LW_law 833 = .ok (.i2l, 1) := by decide +kernel
theorem d_LW_law_834 : decode b_LW_law 834 = .ok (.lcmp, 1) := by decide +kernel
theorem d_LW_law_835 : decode b_LW_law 835 = .ok (.ifCond .eq 5, 3) := by decide +kernel
theorem d_LW_law_838 : decode b_LW_law 838 = .ok (.iconst 0, 1) := by decide +kernel
theorem d_LW_law_839 : decode b_LW_law 839 = .ok (.ireturn, 1) := by decide +kernel
theorem d_LW_law_840 : decode b_LW_law 840 = .ok (.goto 629, 3) := by decide +kernel
theorem d_LW_law_843 : decode b_LW_law 843 = .ok (.aload_n 1, 1) := by decide +kernel
theorem d_LW_law_844 : decode b_LW_law 844 = .ok (.aload_n 0, 1) := by decide +kernel
theorem d_LW_law_845 : decode b_LW_law 845 = .ok (.iload 4, 2) := by decide +kernel
theorem d_LW_law_847 : decode b_LW_law 847 = .ok (.iconst 1, 1) := by decide +kernel
theorem d_LW_law_848 : decode b_LW_law 848 = .ok (.iadd, 1) := by decide +kernel
theorem d_LW_law_849 : decode b_LW_law 849 = .ok (.iaload, 1) := by decide +kernel
theorem d_LW_law_850 : decode b_LW_law 850 = .ok (.aload_n 3, 1) := by decide +kernel
theorem d_LW_law_851 : decode b_LW_law 851 = .ok (.invokestatic 136, 3) := by decide +kernel
theorem d_LW_law_854 : decode b_LW_law 854 = .ok (.istore 5, 2) := by decide +kernel
theorem d_LW_law_856 : decode b_LW_law 856 = .ok (.aload_n 2, 1) := by decide +kernel
theorem d_LW_law_857 : decode b_LW_law 857 = .ok (.aload_n 0, 1) := by decide +kernel
theorem d_LW_law_858 : decode b_LW_law 858 = .ok (.iload 4, 2) := by decide +kernel
theorem d_LW_law_860 : decode b_LW_law 860 = .ok (.iconst 1, 1) := by decide +kernel
theorem d_LW_law_861 : decode b_LW_law 861 = .ok (.iadd, 1) := by decide +kernel
theorem d_LW_law_862 : decode b_LW_law 862 = .ok (.iaload, 1) := by decide +kernel
theorem d_LW_law_863 : decode b_LW_law 863 = .ok (.invokevirtual 138, 3) := by decide +kernel
theorem d_LW_law_866 : decode b_LW_law 866 = .ok (.istore 6, 2) := by decide +kernel
theorem d_LW_law_868 : decode b_LW_law 868 = .ok (.aload_n 2, 1) := by decide +kernel
theorem d_LW_law_869 : decode b_LW_law 869 = .ok (.invokevirtual 95, 3) := by decide +kernel
theorem d_LW_law_872 : decode b_LW_law 872 = .ok (.iload 5, 2) := by decide +kernel
theorem d_LW_law_874 : decode b_LW_law 874 = .ok (.if_icmp .eq 5, 3) := by decide +kernel
theorem d_LW_law_877 : decode b_LW_law 877 = .ok (.iconst 0, 1) := by decide +kernel
theorem d_LW_law_878 : decode b_LW_law 878 = .ok (.ireturn, 1) := by decide +kernel
theorem d_LW_law_879 : decode b_LW_law 879 = .ok (.iload 5, 2) := by decide +kernel
theorem d_LW_law_881 : decode b_LW_law 881 = .ok (.ifCond .ne 22, 3) := by decide +kernel
theorem d_LW_law_884 : decode b_LW_law 884 = .ok (.aload_n 3, 1) := by decide +kernel
theorem d_LW_law_885 : decode b_LW_law 885 = .ok (.iconst 0, 1) := by decide +kernel
theorem d_LW_law_886 : decode b_LW_law 886 = .ok (.laload, 1) := by decide +kernel
theorem d_LW_law_887 : decode b_LW_law 887 = .ok (.iload 6, 2) := by decide +kernel
theorem d_LW_law_889 : decode b_LW_law 889 = .ok (.ifCond .eq 7, 3) := by decide +kernel
theorem d_LW_law_892 : decode b_LW_law 892 = .ok (.lconst 1, 1) := by decide +kernel
theorem d_LW_law_893 : decode b_LW_law 893 = .ok (.goto 4, 3) := by decide +kernel
theorem d_LW_law_896 : decode b_LW_law 896 = .ok (.lconst 0, 1) := by decide +kernel
theorem d_LW_law_897 : decode b_LW_law 897 = .ok (.lcmp, 1) := by decide +kernel
theorem d_LW_law_898 : decode b_LW_law 898 = .ok (.ifCond .eq 5, 3) := by decide +kernel
theorem d_LW_law_901 : decode b_LW_law 901 = .ok (.iconst 0, 1) := by decide +kernel
theorem d_LW_law_902 : decode b_LW_law 902 = .ok (.ireturn, 1) := by decide +kernel
theorem d_LW_law_903 : decode b_LW_law 903 = .ok (.goto 566, 3) := by decide +kernel
theorem d_LW_law_906 : decode b_LW_law 906 = .ok (.aload_n 1, 1) := by decide +kernel
theorem d_LW_law_907 : decode b_LW_law 907 = .ok (.aload_n 0, 1) := by decide +kernel
theorem d_LW_law_908 : decode b_LW_law 908 = .ok (.iload 4, 2) := by decide +kernel
theorem d_LW_law_910 : decode b_LW_law 910 = .ok (.iconst 1, 1) := by decide +kernel
theorem d_LW_law_911 : decode b_LW_law 911 = .ok (.iadd, 1) := by decide +kernel
theorem d_LW_law_912 : decode b_LW_law 912 = .ok (.iaload, 1) := by decide +kernel
theorem d_LW_law_913 : decode b_LW_law 913 = .ok (.aload_n 3, 1) := by decide +kernel
theorem d_LW_law_914 : decode b_LW_law 914 = .ok (.invokestatic 139, 3) := by decide +kernel
theorem d_LW_law_917 : decode b_LW_law 917 = .ok (.istore 5, 2) := by decide +kernel
theorem d_LW_law_919 : decode b_LW_law 919 = .ok (.aload_n 2, 1) := by decide +kernel
theorem d_LW_law_920 : decode b_LW_law 920 = .ok (.aload_n 0, 1) := by decide +kernel
theorem d_LW_law_921 : decode b_LW_law 921 = .ok (.iload 4, 2) := by decide +kernel
theorem d_LW_law_923 : decode b_LW_law 923 = .ok (.iconst 1, 1) := by decide +kernel
theorem d_LW_law_924 : decode b_LW_law 924 = .ok (.iadd, 1) := by decide +kernel
theorem d_LW_law_925 : decode b_LW_law 925 = .ok (.iaload, 1) := by decide +kernel
theorem d_LW_law_926 : decode b_LW_law 926 = .ok (.invokevirtual 141, 3) := by decide +kernel
theorem d_LW_law_929 : decode b_LW_law 929 = .ok (.istore 6, 2) := by decide +kernel
theorem d_LW_law_931 : decode b_LW_law 931 = .ok (.aload_n 2, 1) := by decide +kernel
theorem d_LW_law_932 : decode b_LW_law 932 = .ok (.invokevirtual 95, 3) := by decide +kernel
theorem d_LW_law_935 : decode b_LW_law 935 = .ok (.iload 5, 2) := by decide +kernel
theorem d_LW_law_937 : decode b_LW_law 937 = .ok (.if_icmp .eq 5, 3) := by decide +kernel
theorem d_LW_law_940 : decode b_LW_law 940 = .ok (.iconst 0, 1) := by decide +kernel
theorem d_LW_law_941 : decode b_LW_law 941 = .ok (.ireturn, 1) := by decide +kernel
theorem d_LW_law_942 : decode b_LW_law 942 = .ok (.iload 5, 2) := by decide +kernel
theorem d_LW_law_944 : decode b_LW_law 944 = .ok (.ifCond .ne 15, 3) := by decide +kernel
theorem d_LW_law_947 : decode b_LW_law 947 = .ok (.aload_n 3, 1) := by decide +kernel
theorem d_LW_law_948 : decode b_LW_law 948 = .ok (.iconst 0, 1) := by decide +kernel
theorem d_LW_law_949 : decode b_LW_law 949 = .ok (.laload, 1) := by decide +kernel
theorem d_LW_law_950 : decode b_LW_law 950 = .ok (.iload 6, 2) := by decide +kernel
theorem d_LW_law_952 : decode b_LW_law 952 = .ok (.i2l, 1) := by decide +kernel
theorem d_LW_law_953 : decode b_LW_law 953 = .ok (.lcmp, 1) := by decide +kernel
theorem d_LW_law_954 : decode b_LW_law 954 = .ok (.ifCond .eq 5, 3) := by decide +kernel
theorem d_LW_law_957 : decode b_LW_law 957 = .ok (.iconst 0, 1) := by decide +kernel
theorem d_LW_law_958 : decode b_LW_law 958 = .ok (.ireturn, 1) := by decide +kernel
theorem d_LW_law_959 : decode b_LW_law 959 = .ok (.goto 510, 3) := by decide +kernel
theorem d_LW_law_962 : decode b_LW_law 962 = .ok (.aload_n 1, 1) := by decide +kernel
theorem d_LW_law_963 : decode b_LW_law 963 = .ok (.aload_n 0, 1) := by decide +kernel
theorem d_LW_law_964 : decode b_LW_law 964 = .ok (.iload 4, 2) := by decide +kernel
theorem d_LW_law_966 : decode b_LW_law 966 = .ok (.iconst 1, 1) := by decide +kernel
theorem d_LW_law_967 : decode b_LW_law 967 = .ok (.iadd, 1) := by decide +kernel
theorem d_LW_law_968 : decode b_LW_law 968 = .ok (.iaload, 1) := by decide +kernel
theorem d_LW_law_969 : decode b_LW_law 969 = .ok (.aload_n 0, 1) := by decide +kernel
theorem d_LW_law_970 : decode b_LW_law 970 = .ok (.iload 4, 2) := by decide +kernel
theorem d_LW_law_972 : decode b_LW_law 972 = .ok (.iconst 2, 1) := by decide +kernel
theorem d_LW_law_973 : decode b_LW_law 973 = .ok (.iadd, 1) := by decide +kernel
theorem d_LW_law_974 : decode b_LW_law 974 = .ok (.iaload, 1) := by decide +kernel
theorem d_LW_law_975 : decode b_LW_law 975 = .ok (.aload_n 3, 1) := by decide +kernel
theorem d_LW_law_976 : decode b_LW_law 976 = .ok (.invokestatic 142, 3) := by decide +kernel
theorem d_LW_law_979 : decode b_LW_law 979 = .ok (.istore 5, 2) := by decide +kernel
theorem d_LW_law_981 : decode b_LW_law 981 = .ok (.aload_n 2, 1) := by decide +kernel
theorem d_LW_law_982 : decode b_LW_law 982 = .ok (.aload_n 0, 1) := by decide +kernel
theorem d_LW_law_983 : decode b_LW_law 983 = .ok (.iload 4, 2) := by decide +kernel
theorem d_LW_law_985 : decode b_LW_law 985 = .ok (.iconst 1, 1) := by decide +kernel
theorem d_LW_law_986 : decode b_LW_law 986 = .ok (.iadd, 1) := by decide +kernel
theorem d_LW_law_987 : decode b_LW_law 987 = .ok (.iaload, 1) := by decide +kernel
theorem d_LW_law_988 : decode b_LW_law 988 = .ok (.aload_n 0, 1) := by decide +kernel
theorem d_LW_law_989 : decode b_LW_law 989 = .ok (.iload 4, 2) := by decide +kernel
theorem d_LW_law_991 : decode b_LW_law 991 = .ok (.iconst 2, 1) := by decide +kernel
theorem d_LW_law_992 : decode b_LW_law 992 = .ok (.iadd, 1) := by decide +kernel
theorem d_LW_law_993 : decode b_LW_law 993 = .ok (.iaload, 1) := by decide +kernel
theorem d_LW_law_994 : decode b_LW_law 994 = .ok (.invokevirtual 144, 3) := by decide +kernel
theorem d_LW_law_997 : decode b_LW_law 997 = .ok (.istore 6, 2) := by decide +kernel
theorem d_LW_law_999 : decode b_LW_law 999 = .ok (.aload_n 2, 1) := by decide +kernel
theorem d_LW_law_1000 : decode b_LW_law 1000 = .ok (.invokevirtual 95, 3) := by decide +kernel
theorem d_LW_law_1003 : decode b_LW_law 1003 = .ok (.iload 5, 2) := by decide +kernel
theorem d_LW_law_1005 : decode b_LW_law 1005 = .ok (.if_icmp .eq 5, 3) := by decide +kernel
theorem d_LW_law_1008 : decode b_LW_law 1008 = .ok (.iconst 0, 1) := by decide +kernel
theorem d_LW_law_1009 : decode b_LW_law 1009 = .ok (.ireturn, 1) := by decide +kernel
theorem d_LW_law_1010 : decode b_LW_law 1010 = .ok (.iload 5, 2) := by decide +kernel
theorem d_LW_law_1012 : decode b_LW_law 1012 = .ok (.ifCond .ne 15, 3) := by decide +kernel
theorem d_LW_law_1015 : decode b_LW_law 1015 = .ok (.aload_n 3, 1) := by decide +kernel
theorem d_LW_law_1016 : decode b_LW_law 1016 = .ok (.iconst 0, 1) := by decide +kernel
theorem d_LW_law_1017 : decode b_LW_law 1017 = .ok (.laload, 1) := by decide +kernel
theorem d_LW_law_1018 : decode b_LW_law 1018 = .ok (.iload 6, 2) := by decide +kernel
theorem d_LW_law_1020 : decode b_LW_law 1020 = .ok (.i2l, 1) := by decide +kernel
theorem d_LW_law_1021 : decode b_LW_law 1021 = .ok (.lcmp, 1) := by decide +kernel
theorem d_LW_law_1022 : decode b_LW_law 1022 = .ok (.ifCond .eq 5, 3) := by decide +kernel
theorem d_LW_law_1025 : decode b_LW_law 1025 = .ok (.iconst 0, 1) := by decide +kernel
theorem d_LW_law_1026 : decode b_LW_law 1026 = .ok (.ireturn, 1) := by decide +kernel
theorem d_LW_law_1027 : decode b_LW_law 1027 = .ok (.goto 442, 3) := by decide +kernel
theorem d_LW_law_1030 : decode b_LW_law 1030 = .ok (.aload_n 1, 1) := by decide +kernel
theorem d_LW_law_1031 : decode b_LW_law 1031 = .ok (.aload_n 0, 1) := by decide +kernel
theorem d_LW_law_1032 : decode b_LW_law 1032 = .ok (.iload 4, 2) := by decide +kernel
theorem d_LW_law_1034 : decode b_LW_law 1034 = .ok (.iconst 1, 1) := by decide +kernel
theorem d_LW_law_1035 : decode b_LW_law 1035 = .ok (.iadd, 1) := by decide +kernel
theorem d_LW_law_1036 : decode b_LW_law 1036 = .ok (.iaload, 1) := by decide +kernel
theorem d_LW_law_1037 : decode b_LW_law 1037 = .ok (.aload_n 0, 1) := by decide +kernel
theorem d_LW_law_1038 : decode b_LW_law 1038 = .ok (.iload 4, 2) := by decide +kernel
theorem d_LW_law_1040 : decode b_LW_law 1040 = .ok (.iconst 2, 1) := by decide +kernel
theorem d_LW_law_1041 : decode b_LW_law 1041 = .ok (.iadd, 1) := by decide +kernel
theorem d_LW_law_1042 : decode b_LW_law 1042 = .ok (.iaload, 1) := by decide +kernel
theorem d_LW_law_1043 : decode b_LW_law 1043 = .ok (.aload_n 0, 1) := by decide +kernel
theorem d_LW_law_1044 : decode b_LW_law 1044 = .ok (.iload 4, 2) := by decide +kernel
theorem d_LW_law_1046 : decode b_LW_law 1046 = .ok (.iconst 3, 1) := by decide +kernel
theorem d_LW_law_1047 : decode b_LW_law 1047 = .ok (.iadd, 1) := by decide +kernel
theorem d_LW_law_1048 : decode b_LW_law 1048 = .ok (.iaload, 1) := by decide +kernel
theorem d_LW_law_1049 : decode b_LW_law 1049 = .ok (.aload_n 0, 1) := by decide +kernel
theorem d_LW_law_1050 : decode b_LW_law 1050 = .ok (.iload 4, 2) := by decide +kernel
theorem d_LW_law_1052 : decode b_LW_law 1052 = .ok (.iconst 4, 1) := by decide +kernel
theorem d_LW_law_1053 : decode b_LW_law 1053 = .ok (.iadd, 1) := by decide +kernel
theorem d_LW_law_1054 : decode b_LW_law 1054 = .ok (.iaload, 1) := by decide +kernel
theorem d_LW_law_1055 : decode b_LW_law 1055 = .ok (.ifCond .eq 7, 3) := by decide +kernel
theorem d_LW_law_1058 : decode b_LW_law 1058 = .ok (.iconst 1, 1) := by decide +kernel
theorem d_LW_law_1059 : decode b_LW_law 1059 = .ok (.goto 4, 3) := by decide +kernel
theorem d_LW_law_1062 : decode b_LW_law 1062 = .ok (.iconst 0, 1) := by decide +kernel
theorem d_LW_law_1063 : decode b_LW_law 1063 = .ok (.aload_n 3, 1) := by decide +kernel
theorem d_LW_law_1064 : decode b_LW_law 1064 = .ok (.invokestatic 145, 3) := by decide +kernel
theorem d_LW_law_1067 : decode b_LW_law 1067 = .ok (.istore 5, 2) := by decide +kernel
theorem d_LW_law_1069 : decode b_LW_law 1069 = .ok (.aload_n 2, 1) := by decide +kernel
theorem d_LW_law_1070 : decode b_LW_law 1070 = .ok (.aload_n 0, 1) := by decide +kernel
theorem d_LW_law_1071 : decode b_LW_law 1071 = .ok (.iload 4, 2) := by decide +kernel
theorem d_LW_law_1073 : decode b_LW_law 1073 = .ok (.iconst 1, 1) := by decide +kernel
theorem d_LW_law_1074 : decode b_LW_law 1074 = .ok (.iadd, 1) := by decide +kernel
theorem d_LW_law_1075 : decode b_LW_law 1075 = .ok (.iaload, 1) := by decide +kernel
theorem d_LW_law_1076 : decode b_LW_law 1076 = .ok (.aload_n 0, 1) := by decide +kernel
theorem d_LW_law_1077 : decode b_LW_law 1077 = .ok (.iload 4, 2) := by decide +kernel
theorem d_LW_law_1079 : decode b_LW_law 1079 = .ok (.iconst 2, 1) := by decide +kernel
theorem d_LW_law_1080 : decode b_LW_law 1080 = .ok (.iadd, 1) := by decide +kernel
theorem d_LW_law_1081 : decode b_LW_law 1081 = .ok (.iaload, 1) := by decide +kernel
theorem d_LW_law_1082 : decode b_LW_law 1082 = .ok (.aload_n 0, 1) := by decide +kernel
theorem d_LW_law_1083 : decode b_LW_law 1083 = .ok (.iload 4, 2) := by decide +kernel
theorem d_LW_law_1085 : decode b_LW_law 1085 = .ok (.iconst 3, 1) := by decide +kernel
theorem d_LW_law_1086 : decode b_LW_law 1086 = .ok (.iadd, 1) := by decide +kernel
theorem d_LW_law_1087 : decode b_LW_law 1087 = .ok (.iaload, 1) := by decide +kernel
theorem d_LW_law_1088 : decode b_LW_law 1088 = .ok (.aload_n 0, 1) := by decide +kernel
theorem d_LW_law_1089 : decode b_LW_law 1089 = .ok (.iload 4, 2) := by decide +kernel
theorem d_LW_law_1091 : decode b_LW_law 1091 = .ok (.iconst 4, 1) := by decide +kernel
theorem d_LW_law_1092 : decode b_LW_law 1092 = .ok (.iadd, 1) := by decide +kernel
theorem d_LW_law_1093 : decode b_LW_law 1093 = .ok (.iaload, 1) := by decide +kernel
theorem d_LW_law_1094 : decode b_LW_law 1094 = .ok (.ifCond .eq 7, 3) := by decide +kernel
theorem d_LW_law_1097 : decode b_LW_law 1097 = .ok (.iconst 1, 1) := by decide +kernel
theorem d_LW_law_1098 : decode b_LW_law 1098 = .ok (.goto 4, 3) := by decide +kernel
theorem d_LW_law_1101 : decode b_LW_law 1101 = .ok (.iconst 0, 1) := by decide +kernel
theorem d_LW_law_1102 : decode b_LW_law 1102 = .ok (.invokevirtual 148, 3) := by decide +kernel
theorem d_LW_law_1105 : decode b_LW_law 1105 = .ok (.istore 6, 2) := by decide +kernel
theorem d_LW_law_1107 : decode b_LW_law 1107 = .ok (.aload_n 2, 1) := by decide +kernel
theorem d_LW_law_1108 : decode b_LW_law 1108 = .ok (.invokevirtual 95, 3) := by decide +kernel
theorem d_LW_law_1111 : decode b_LW_law 1111 = .ok (.iload 5, 2) := by decide +kernel
theorem d_LW_law_1113 : decode b_LW_law 1113 = .ok (.if_icmp .eq 5, 3) := by decide +kernel
theorem d_LW_law_1116 : decode b_LW_law 1116 = .ok (.iconst 0, 1) := by decide +kernel
theorem d_LW_law_1117 : decode b_LW_law 1117 = .ok (.ireturn, 1) := by decide +kernel
theorem d_LW_law_1118 : decode b_LW_law 1118 = .ok (.iload 5, 2) := by decide +kernel
theorem d_LW_law_1120 : decode b_LW_law 1120 = .ok (.ifCond .ne 15, 3) := by decide +kernel
theorem d_LW_law_1123 : decode b_LW_law 1123 = .ok (.aload_n 3, 1) := by decide +kernel
theorem d_LW_law_1124 : decode b_LW_law 1124 = .ok (.iconst 0, 1) := by decide +kernel
theorem d_LW_law_1125 : decode b_LW_law 1125 = .ok (.laload, 1) := by decide +kernel
theorem d_LW_law_1126 : decode b_LW_law 1126 = .ok (.iload 6, 2) := by decide +kernel
theorem d_LW_law_1128 : decode b_LW_law 1128 = .ok (.i2l, 1) := by decide +kernel
theorem d_LW_law_1129 : decode b_LW_law 1129 = .ok (.lcmp, 1) := by decide +kernel
theorem d_LW_law_1130 : decode b_LW_law 1130 = .ok (.ifCond .eq 5, 3) := by decide +kernel
theorem d_LW_law_1133 : decode b_LW_law 1133 = .ok (.iconst 0, 1) := by decide +kernel
theorem d_LW_law_1134 : decode b_LW_law 1134 = .ok (.ireturn, 1) := by decide +kernel
theorem d_LW_law_1135 : decode b_LW_law 1135 = .ok (.goto 334, 3) := by decide +kernel
theorem d_LW_law_1138 : decode b_LW_law 1138 = .ok (.aload_n 1, 1) := by decide +kernel
theorem d_LW_law_1139 : decode b_LW_law 1139 = .ok (.aload_n 0, 1) := by decide +kernel
theorem d_LW_law_1140 : decode b_LW_law 1140 = .ok (.iload 4, 2) := by decide +kernel
theorem d_LW_law_1142 : decode b_LW_law 1142 = .ok (.iconst 1, 1) := by decide +kernel
theorem d_LW_law_1143 : decode b_LW_law 1143 = .ok (.iadd, 1) := by decide +kernel
theorem d_LW_law_1144 : decode b_LW_law 1144 = .ok (.iaload, 1) := by decide +kernel
theorem d_LW_law_1145 : decode b_LW_law 1145 = .ok (.aload_n 3, 1) := by decide +kernel
theorem d_LW_law_1146 : decode b_LW_law 1146 = .ok (.invokestatic 149, 3) := by decide +kernel
theorem d_LW_law_1149 : decode b_LW_law 1149 = .ok (.istore 5, 2) := by decide +kernel
theorem d_LW_law_1151 : decode b_LW_law 1151 = .ok (.aload_n 2, 1) := by decide +kernel
theorem d_LW_law_1152 : decode b_LW_law 1152 = .ok (.aload_n 0, 1) := by decide +kernel
theorem d_LW_law_1153 : decode b_LW_law 1153 = .ok (.iload 4, 2) := by decide +kernel
theorem d_LW_law_1155 : decode b_LW_law 1155 = .ok (.iconst 1, 1) := by decide +kernel
theorem d_LW_law_1156 : decode b_LW_law 1156 = .ok (.iadd, 1) := by decide +kernel
theorem d_LW_law_1157 : decode b_LW_law 1157 = .ok (.iaload, 1) := by decide +kernel
theorem d_LW_law_1158 : decode b_LW_law 1158 = .ok (.invokevirtual 151, 3) := by decide +kernel
theorem d_LW_law_1161 : decode b_LW_law 1161 = .ok (.istore 6, 2) := by decide +kernel
theorem d_LW_law_1163 : decode b_LW_law 1163 = .ok (.aload_n 2, 1) := by decide +kernel
theorem d_LW_law_1164 : decode b_LW_law 1164 = .ok (.invokevirtual 95, 3) := by decide +kernel
theorem d_LW_law_1167 : decode b_LW_law 1167 = .ok (.iload 5, 2) := by decide +kernel
theorem d_LW_law_1169 : decode b_LW_law 1169 = .ok (.if_icmp .eq 5, 3) := by decide +kernel
theorem d_LW_law_1172 : decode b_LW_law 1172 = .ok (.iconst 0, 1) := by decide +kernel
theorem d_LW_law_1173 : decode b_LW_law 1173 = .ok (.ireturn, 1) := by decide +kernel
theorem d_LW_law_1174 : decode b_LW_law 1174 = .ok (.iload 5, 2) := by decide +kernel
theorem d_LW_law_1176 : decode b_LW_law 1176 = .ok (.ifCond .ne 15, 3) := by decide +kernel
theorem d_LW_law_1179 : decode b_LW_law 1179 = .ok (.aload_n 3, 1) := by decide +kernel
theorem d_LW_law_1180 : decode b_LW_law 1180 = .ok (.iconst 0, 1) := by decide +kernel
theorem d_LW_law_1181 : decode b_LW_law 1181 = .ok (.laload, 1) := by decide +kernel
theorem d_LW_law_1182 : decode b_LW_law 1182 = .ok (.iload 6, 2) := by decide +kernel
theorem d_LW_law_1184 : decode b_LW_law 1184 = .ok (.i2l, 1) := by decide +kernel
theorem d_LW_law_1185 : decode b_LW_law 1185 = .ok (.lcmp, 1) := by decide +kernel
theorem d_LW_law_1186 : decode b_LW_law 1186 = .ok (.ifCond .eq 5, 3) := by decide +kernel
theorem d_LW_law_1189 : decode b_LW_law 1189 = .ok (.iconst 0, 1) := by decide +kernel
theorem d_LW_law_1190 : decode b_LW_law 1190 = .ok (.ireturn, 1) := by decide +kernel
theorem d_LW_law_1191 : decode b_LW_law 1191 = .ok (.goto 278, 3) := by decide +kernel
theorem d_LW_law_1194 : decode b_LW_law 1194 = .ok (.aload_n 1, 1) := by decide +kernel
theorem d_LW_law_1195 : decode b_LW_law 1195 = .ok (.aload_n 0, 1) := by decide +kernel
theorem d_LW_law_1196 : decode b_LW_law 1196 = .ok (.iload 4, 2) := by decide +kernel
theorem d_LW_law_1198 : decode b_LW_law 1198 = .ok (.iconst 1, 1) := by decide +kernel
theorem d_LW_law_1199 : decode b_LW_law 1199 = .ok (.iadd, 1) := by decide +kernel
theorem d_LW_law_1200 : decode b_LW_law 1200 = .ok (.iaload, 1) := by decide +kernel
theorem d_LW_law_1201 : decode b_LW_law 1201 = .ok (.aload_n 0, 1) := by decide +kernel
theorem d_LW_law_1202 : decode b_LW_law 1202 = .ok (.iload 4, 2) := by decide +kernel
theorem d_LW_law_1204 : decode b_LW_law 1204 = .ok (.iconst 2, 1) := by decide +kernel
theorem d_LW_law_1205 : decode b_LW_law 1205 = .ok (.iadd, 1) := by decide +kernel
theorem d_LW_law_1206 : decode b_LW_law 1206 = .ok (.iaload, 1) := by decide +kernel
theorem d_LW_law_1207 : decode b_LW_law 1207 = .ok (.aload_n 3, 1) := by decide +kernel
theorem d_LW_law_1208 : decode b_LW_law 1208 = .ok (.invokestatic 152, 3) := by decide +kernel
theorem d_LW_law_1211 : decode b_LW_law 1211 = .ok (.istore 5, 2) := by decide +kernel
theorem d_LW_law_1213 : decode b_LW_law 1213 = .ok (.aload_n 2, 1) := by decide +kernel
theorem d_LW_law_1214 : decode b_LW_law 1214 = .ok (.aload_n 0, 1) := by decide +kernel
theorem d_LW_law_1215 : decode b_LW_law 1215 = .ok (.iload 4, 2) := by decide +kernel
theorem d_LW_law_1217 : decode b_LW_law 1217 = .ok (.iconst 1, 1) := by decide +kernel
theorem d_LW_law_1218 : decode b_LW_law 1218 = .ok (.iadd, 1) := by decide +kernel
theorem d_LW_law_1219 : decode b_LW_law 1219 = .ok (.iaload, 1) := by decide +kernel
theorem d_LW_law_1220 : decode b_LW_law 1220 = .ok (.aload_n 0, 1) := by decide +kernel
theorem d_LW_law_1221 : decode b_LW_law 1221 = .ok (.iload 4, 2) := by decide +kernel
theorem d_LW_law_1223 : decode b_LW_law 1223 = .ok (.iconst 2, 1) := by decide +kernel
theorem d_LW_law_1224 : decode b_LW_law 1224 = .ok (.iadd, 1) := by decide +kernel
theorem d_LW_law_1225 : decode b_LW_law 1225 = .ok (.iaload, 1) := by decide +kernel
theorem d_LW_law_1226 : decode b_LW_law 1226 = .ok (.invokevirtual 154, 3) := by decide +kernel
theorem d_LW_law_1229 : decode b_LW_law 1229 = .ok (.istore 6, 2) := by decide +kernel
theorem d_LW_law_1231 : decode b_LW_law 1231 = .ok (.aload_n 2, 1) := by decide +kernel
theorem d_LW_law_1232 : decode b_LW_law 1232 = .ok (.invokevirtual 95, 3) := by decide +kernel
theorem d_LW_law_1235 : decode b_LW_law 1235 = .ok (.iload 5, 2) := by decide +kernel
theorem d_LW_law_1237 : decode b_LW_law 1237 = .ok (.if_icmp .eq 5, 3) := by decide +kernel
theorem d_LW_law_1240 : decode b_LW_law 1240 = .ok (.iconst 0, 1) := by decide +kernel
theorem d_LW_law_1241 : decode b_LW_law 1241 = .ok (.ireturn, 1) := by decide +kernel
theorem d_LW_law_1242 : decode b_LW_law 1242 = .ok (.iload 5, 2) := by decide +kernel
theorem d_LW_law_1244 : decode b_LW_law 1244 = .ok (.ifCond .ne 15, 3) := by decide +kernel
theorem d_LW_law_1247 : decode b_LW_law 1247 = .ok (.aload_n 3, 1) := by decide +kernel
theorem d_LW_law_1248 : decode b_LW_law 1248 = .ok (.iconst 0, 1) := by decide +kernel
theorem d_LW_law_1249 : decode b_LW_law 1249 = .ok (.laload, 1) := by decide +kernel
theorem d_LW_law_1250 : decode b_LW_law 1250 = .ok (.iload 6, 2) := by decide +kernel
theorem d_LW_law_1252 : decode b_LW_law 1252 = .ok (.i2l, 1) := by decide +kernel
theorem d_LW_law_1253 : decode b_LW_law 1253 = .ok (.lcmp, 1) := by decide +kernel
theorem d_LW_law_1254 : decode b_LW_law 1254 = .ok (.ifCond .eq 5, 3) := by decide +kernel
theorem d_LW_law_1257 : decode b_LW_law 1257 = .ok (.iconst 0, 1) := by decide +kernel
theorem d_LW_law_1258 : decode b_LW_law 1258 = .ok (.ireturn, 1) := by decide +kernel
theorem d_LW_law_1259 : decode b_LW_law 1259 = .ok (.goto 210, 3) := by decide +kernel
theorem d_LW_law_1262 : decode b_LW_law 1262 = .ok (.aload_n 1, 1) := by decide +kernel
theorem d_LW_law_1263 : decode b_LW_law 1263 = .ok (.aload_n 0, 1) := by decide +kernel
theorem d_LW_law_1264 : decode b_LW_law 1264 = .ok (.iload 4, 2) := by decide +kernel
theorem d_LW_law_1266 : decode b_LW_law 1266 = .ok (.iconst 1, 1) := by decide +kernel
theorem d_LW_law_1267 : decode b_LW_law 1267 = .ok (.iadd, 1) := by decide +kernel
theorem d_LW_law_1268 : decode b_LW_law 1268 = .ok (.iaload, 1) := by decide +kernel
theorem d_LW_law_1269 : decode b_LW_law 1269 = .ok (.aload_n 3, 1) := by decide +kernel
theorem d_LW_law_1270 : decode b_LW_law 1270 = .ok (.invokestatic 155, 3) := by decide +kernel
theorem d_LW_law_1273 : decode b_LW_law 1273 = .ok (.istore 5, 2) := by decide +kernel
theorem d_LW_law_1275 : decode b_LW_law 1275 = .ok (.aload_n 2, 1) := by decide +kernel
theorem d_LW_law_1276 : decode b_LW_law 1276 = .ok (.aload_n 0, 1) := by decide +kernel
theorem d_LW_law_1277 : decode b_LW_law 1277 = .ok (.iload 4, 2) := by decide +kernel
theorem d_LW_law_1279 : decode b_LW_law 1279 = .ok (.iconst 1, 1) := by decide +kernel
theorem d_LW_law_1280 : decode b_LW_law 1280 = .ok (.iadd, 1) := by decide +kernel
theorem d_LW_law_1281 : decode b_LW_law 1281 = .ok (.iaload, 1) := by decide +kernel
theorem d_LW_law_1282 : decode b_LW_law 1282 = .ok (.invokevirtual 157, 3) := by decide +kernel
theorem d_LW_law_1285 : decode b_LW_law 1285 = .ok (.istore 6, 2) := by decide +kernel
theorem d_LW_law_1287 : decode b_LW_law 1287 = .ok (.aload_n 2, 1) := by decide +kernel
theorem d_LW_law_1288 : decode b_LW_law 1288 = .ok (.invokevirtual 95, 3) := by decide +kernel
theorem d_LW_law_1291 : decode b_LW_law 1291 = .ok (.iload 5, 2) := by decide +kernel
theorem d_LW_law_1293 : decode b_LW_law 1293 = .ok (.if_icmp .eq 5, 3) := by decide +kernel
theorem d_LW_law_1296 : decode b_LW_law 1296 = .ok (.iconst 0, 1) := by decide +kernel
theorem d_LW_law_1297 : decode b_LW_law 1297 = .ok (.ireturn, 1) := by decide +kernel
theorem d_LW_law_1298 : decode b_LW_law 1298 = .ok (.iload 5, 2) := by decide +kernel
theorem d_LW_law_1300 : decode b_LW_law 1300 = .ok (.ifCond .ne 15, 3) := by decide +kernel
theorem d_LW_law_1303 : decode b_LW_law 1303 = .ok (.aload_n 3, 1) := by decide +kernel
theorem d_LW_law_1304 : decode b_LW_law 1304 = .ok (.iconst 0, 1) := by decide +kernel
theorem d_LW_law_1305 : decode b_LW_law 1305 = .ok (.laload, 1) := by decide +kernel
theorem d_LW_law_1306 : decode b_LW_law 1306 = .ok (.iload 6, 2) := by decide +kernel
theorem d_LW_law_1308 : decode b_LW_law 1308 = .ok (.i2l, 1) := by decide +kernel
theorem d_LW_law_1309 : decode b_LW_law 1309 = .ok (.lcmp, 1) := by decide +kernel
theorem d_LW_law_1310 : decode b_LW_law 1310 = .ok (.ifCond .eq 5, 3) := by decide +kernel
theorem d_LW_law_1313 : decode b_LW_law 1313 = .ok (.iconst 0, 1) := by decide +kernel
theorem d_LW_law_1314 : decode b_LW_law 1314 = .ok (.ireturn, 1) := by decide +kernel
theorem d_LW_law_1315 : decode b_LW_law 1315 = .ok (.goto 154, 3) := by decide +kernel
theorem d_LW_law_1318 : decode b_LW_law 1318 = .ok (.aload_n 1, 1) := by decide +kernel
theorem d_LW_law_1319 : decode b_LW_law 1319 = .ok (.aload_n 0, 1) := by decide +kernel
theorem d_LW_law_1320 : decode b_LW_law 1320 = .ok (.iload 4, 2) := by decide +kernel
theorem d_LW_law_1322 : decode b_LW_law 1322 = .ok (.iconst 1, 1) := by decide +kernel
theorem d_LW_law_1323 : decode b_LW_law 1323 = .ok (.iadd, 1) := by decide +kernel
theorem d_LW_law_1324 : decode b_LW_law 1324 = .ok (.iaload, 1) := by decide +kernel
theorem d_LW_law_1325 : decode b_LW_law 1325 = .ok (.aload_n 0, 1) := by decide +kernel
theorem d_LW_law_1326 : decode b_LW_law 1326 = .ok (.iload 4, 2) := by decide +kernel
theorem d_LW_law_1328 : decode b_LW_law 1328 = .ok (.iconst 2, 1) := by decide +kernel
theorem d_LW_law_1329 : decode b_LW_law 1329 = .ok (.iadd, 1) := by decide +kernel
theorem d_LW_law_1330 : decode b_LW_law 1330 = .ok (.iaload, 1) := by decide +kernel
theorem d_LW_law_1331 : decode b_LW_law 1331 = .ok (.ifCond .eq 7, 3) := by decide +kernel
theorem d_LW_law_1334 : decode b_LW_law 1334 = .ok (.iconst 1, 1) := by decide +kernel
theorem d_LW_law_1335 : decode b_LW_law 1335 = .ok (.goto 4, 3) := by decide +kernel
theorem d_LW_law_1338 : decode b_LW_law 1338 = .ok (.iconst 0, 1) := by decide +kernel
theorem d_LW_law_1339 : decode b_LW_law 1339 = .ok (.aload_n 3, 1) := by decide +kernel
theorem d_LW_law_1340 : decode b_LW_law 1340 = .ok (.invokestatic 158, 3) := by decide +kernel
theorem d_LW_law_1343 : decode b_LW_law 1343 = .ok (.istore 5, 2) := by decide +kernel
theorem d_LW_law_1345 : decode b_LW_law 1345 = .ok (.aload_n 2, 1) := by decide +kernel
theorem d_LW_law_1346 : decode b_LW_law 1346 = .ok (.aload_n 0, 1) := by decide +kernel
theorem d_LW_law_1347 : decode b_LW_law 1347 = .ok (.iload 4, 2) := by decide +kernel
theorem d_LW_law_1349 : decode b_LW_law 1349 = .ok (.iconst 1, 1) := by decide +kernel
theorem d_LW_law_1350 : decode b_LW_law 1350 = .ok (.iadd, 1) := by decide +kernel
theorem d_LW_law_1351 : decode b_LW_law 1351 = .ok (.iaload, 1) := by decide +kernel
theorem d_LW_law_1352 : decode b_LW_law 1352 = .ok (.aload_n 0, 1) := by decide +kernel
theorem d_LW_law_1353 : decode b_LW_law 1353 = .ok (.iload 4, 2) := by decide +kernel
theorem d_LW_law_1355 : decode b_LW_law 1355 = .ok (.iconst 2, 1) := by decide +kernel
theorem d_LW_law_1356 : decode b_LW_law 1356 = .ok (.iadd, 1) := by decide +kernel
theorem d_LW_law_1357 : decode b_LW_law 1357 = .ok (.iaload, 1) := by decide +kernel
theorem d_LW_law_1358 : decode b_LW_law 1358 = .ok (.ifCond .eq 7, 3) := by decide +kernel
theorem d_LW_law_1361 : decode b_LW_law 1361 = .ok (.iconst 1, 1) := by decide +kernel
theorem d_LW_law_1362 : decode b_LW_law 1362 = .ok (.goto 4, 3) := by decide +kernel
theorem d_LW_law_1365 : decode b_LW_law 1365 = .ok (.iconst 0, 1) := by decide +kernel
theorem d_LW_law_1366 : decode b_LW_law 1366 = .ok (.invokevirtual 161, 3) := by decide +kernel
theorem d_LW_law_1369 : decode b_LW_law 1369 = .ok (.istore 6, 2) := by decide +kernel
theorem d_LW_law_1371 : decode b_LW_law 1371 = .ok (.aload_n 2, 1) := by decide +kernel
theorem d_LW_law_1372 : decode b_LW_law 1372 = .ok (.invokevirtual 95, 3) := by decide +kernel
theorem d_LW_law_1375 : decode b_LW_law 1375 = .ok (.iload 5, 2) := by decide +kernel
theorem d_LW_law_1377 : decode b_LW_law 1377 = .ok (.if_icmp .eq 5, 3) := by decide +kernel
theorem d_LW_law_1380 : decode b_LW_law 1380 = .ok (.iconst 0, 1) := by decide +kernel
theorem d_LW_law_1381 : decode b_LW_law 1381 = .ok (.ireturn, 1) := by decide +kernel
theorem d_LW_law_1382 : decode b_LW_law 1382 = .ok (.iload 5, 2) := by decide +kernel
theorem d_LW_law_1384 : decode b_LW_law 1384 = .ok (.ifCond .ne 15, 3) := by decide +kernel
theorem d_LW_law_1387 : decode b_LW_law 1387 = .ok (.aload_n 3, 1) := by decide +kernel
theorem d_LW_law_1388 : decode b_LW_law 1388 = .ok (.iconst 0, 1) := by decide +kernel
theorem d_LW_law_1389 : decode b_LW_law 1389 = .ok (.laload, 1) := by decide +kernel
theorem d_LW_law_1390 : decode b_LW_law 1390 = .ok (.iload 6, 2) := by decide +kernel
theorem d_LW_law_1392 : decode b_LW_law 1392 = .ok (.i2l, 1) := by decide +kernel
theorem d_LW_law_1393 : decode b_LW_law 1393 = .ok (.lcmp, 1) := by decide +kernel
theorem d_LW_law_1394 : decode b_LW_law 1394 = .ok (.ifCond .eq 5, 3) := by decide +kernel
theorem d_LW_law_1397 : decode b_LW_law 1397 = .ok (.iconst 0, 1) := by decide +kernel
theorem d_LW_law_1398 : decode b_LW_law 1398 = .ok (.ireturn, 1) := by decide +kernel
theorem d_LW_law_1399 : decode b_LW_law 1399 = .ok (.goto 70, 3) := by decide +kernel
theorem d_LW_law_1402 : decode b_LW_law 1402 = .ok (.aload_n 1, 1) := by decide +kernel
theorem d_LW_law_1403 : decode b_LW_law 1403 = .ok (.aload_n 0, 1) := by decide +kernel
theorem d_LW_law_1404 : decode b_LW_law 1404 = .ok (.iload 4, 2) := by decide +kernel
theorem d_LW_law_1406 : decode b_LW_law 1406 = .ok (.iconst 1, 1) := by decide +kernel
theorem d_LW_law_1407 : decode b_LW_law 1407 = .ok (.iadd, 1) := by decide +kernel
theorem d_LW_law_1408 : decode b_LW_law 1408 = .ok (.iaload, 1) := by decide +kernel
theorem d_LW_law_1409 : decode b_LW_law 1409 = .ok (.aload_n 3, 1) := by decide +kernel
theorem d_LW_law_1410 : decode b_LW_law 1410 = .ok (.invokestatic 162, 3) := by decide +kernel
theorem d_LW_law_1413 : decode b_LW_law 1413 = .ok (.istore 5, 2) := by decide +kernel
theorem d_LW_law_1415 : decode b_LW_law 1415 = .ok (.aload_n 2, 1) := by decide +kernel
theorem d_LW_law_1416 : decode b_LW_law 1416 = .ok (.aload_n 0, 1) := by decide +kernel
theorem d_LW_law_1417 : decode b_LW_law 1417 = .ok (.iload 4, 2) := by decide +kernel
theorem d_LW_law_1419 : decode b_LW_law 1419 = .ok (.iconst 1, 1) := by decide +kernel
theorem d_LW_law_1420 : decode b_LW_law 1420 = .ok (.iadd, 1) := by decide +kernel
theorem d_LW_law_1421 : decode b_LW_law 1421 = .ok (.iaload, 1) := by decide +kernel
theorem d_LW_law_1422 : decode b_LW_law 1422 = .ok (.invokevirtual 164, 3) := by decide +kernel
theorem d_LW_law_1425 : decode b_LW_law 1425 = .ok (.istore 6, 2) := by decide +kernel
theorem d_LW_law_1427 : decode b_LW_law 1427 = .ok (.aload_n 2, 1) := by decide +kernel
theorem d_LW_law_1428 : decode b_LW_law 1428 = .ok (.invokevirtual 95, 3) := by decide +kernel
theorem d_LW_law_1431 : decode b_LW_law 1431 = .ok (.iload 5, 2) := by decide +kernel
theorem d_LW_law_1433 : decode b_LW_law 1433 = .ok (.if_icmp .eq 5, 3) := by decide +kernel
theorem d_LW_law_1436 : decode b_LW_law 1436 = .ok (.iconst 0, 1) := by decide +kernel
theorem d_LW_law_1437 : decode b_LW_law 1437 = .ok (.ireturn, 1) := by decide +kernel
theorem d_LW_law_1438 : decode b_LW_law 1438 = .ok (.iload 5, 2) := by decide +kernel
theorem d_LW_law_1440 : decode b_LW_law 1440 = .ok (.ifCond .ne 15, 3) := by decide +kernel
theorem d_LW_law_1443 : decode b_LW_law 1443 = .ok (.aload_n 3, 1) := by decide +kernel
theorem d_LW_law_1444 : decode b_LW_law 1444 = .ok (.iconst 0, 1) := by decide +kernel
theorem d_LW_law_1445 : decode b_LW_law 1445 = .ok (.laload, 1) := by decide +kernel
theorem d_LW_law_1446 : decode b_LW_law 1446 = .ok (.iload 6, 2) := by decide +kernel
theorem d_LW_law_1448 : decode b_LW_law 1448 = .ok (.i2l, 1) := by decide +kernel
theorem d_LW_law_1449 : decode b_LW_law 1449 = .ok (.lcmp, 1) := by decide +kernel
theorem d_LW_law_1450 : decode b_LW_law 1450 = .ok (.ifCond .eq 5, 3) := by decide +kernel
theorem d_LW_law_1453 : decode b_LW_law 1453 = .ok (.iconst 0, 1) := by decide +kernel
theorem d_LW_law_1454 : decode b_LW_law 1454 = .ok (.ireturn, 1) := by decide +kernel
theorem d_LW_law_1455 : decode b_LW_law 1455 = .ok (.goto 14, 3) := by decide +kernel
theorem d_LW_law_1458 : decode b_LW_law 1458 = .ok (.aload_n 1, 1) := by decide +kernel
theorem d_LW_law_1459 : decode b_LW_law 1459 = .ok (.invokevirtual 165, 3) := by decide +kernel
theorem d_LW_law_1462 : decode b_LW_law 1462 = .ok (.aload_n 2, 1) := by decide +kernel
theorem d_LW_law_1463 : decode b_LW_law 1463 = .ok (.invokevirtual 168, 3) := by decide +kernel
theorem d_LW_law_1466 : decode b_LW_law 1466 = .ok (.goto 3, 3) := by decide +kernel
theorem d_LW_law_1469 : decode b_LW_law 1469 = .ok (.iinc 4 5, 3) := by decide +kernel
theorem d_LW_law_1472 : decode b_LW_law 1472 = .ok (.goto (-1449), 3) := by decide +kernel
theorem d_LW_law_1475 : decode b_LW_law 1475 = .ok (.iconst 1, 1) := by decide +kernel
theorem d_LW_law_1476 : decode b_LW_law 1476 = .ok (.ireturn, 1) := by decide +kernel
