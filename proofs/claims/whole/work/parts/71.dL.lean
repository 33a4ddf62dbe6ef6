theorem dL_schema_0 : decode cL_schema 0 = .ok (.aload_n 2, 1) := by decide +kernel
theorem dL_schema_1 : decode cL_schema 1 = .ok (.iconst 0, 1) := by decide +kernel
theorem dL_schema_2 : decode cL_schema 2 = .ok (.aload_n 0, 1) := by decide +kernel
theorem dL_schema_3 : decode cL_schema 3 = .ok (.iload_n 1, 1) := by decide +kernel
theorem dL_schema_4 : decode cL_schema 4 = .ok (.invokevirtual 7, 3) := by decide +kernel
theorem dL_schema_7 : decode cL_schema 7 = .ok (.i2l, 1) := by decide +kernel
theorem dL_schema_8 : decode cL_schema 8 = .ok (.lastore, 1) := by decide +kernel
theorem dL_schema_9 : decode cL_schema 9 = .ok (.goto 6, 3) := by decide +kernel
theorem dL_schema_12 : decode cL_schema 12 = .ok (.astore_n 3, 1) := by decide +kernel
theorem dL_schema_13 : decode cL_schema 13 = .ok (.iconst 1, 1) := by decide +kernel
theorem dL_schema_14 : decode cL_schema 14 = .ok (.ireturn, 1) := by decide +kernel
theorem dL_schema_15 : decode cL_schema 15 = .ok (.iconst 0, 1) := by decide +kernel
theorem dL_schema_16 : decode cL_schema 16 = .ok (.ireturn, 1) := by decide +kernel
theorem dL_add_0 : decode cL_add 0 = .ok (.aload_n 2, 1) := by decide +kernel
theorem dL_add_1 : decode cL_add 1 = .ok (.iconst 0, 1) := by decide +kernel
theorem dL_add_2 : decode cL_add 2 = .ok (.aload_n 0, 1) := by decide +kernel
theorem dL_add_3 : decode cL_add 3 = .ok (.iload_n 1, 1) := by decide +kernel
theorem dL_add_4 : decode cL_add 4 = .ok (.invokevirtual 15, 3) := by decide +kernel
theorem dL_add_7 : decode cL_add 7 = .ok (.i2l, 1) := by decide +kernel
theorem dL_add_8 : decode cL_add 8 = .ok (.lastore, 1) := by decide +kernel
theorem dL_add_9 : decode cL_add 9 = .ok (.goto 6, 3) := by decide +kernel
theorem dL_add_12 : decode cL_add 12 = .ok (.astore_n 3, 1) := by decide +kernel
theorem dL_add_13 : decode cL_add 13 = .ok (.iconst 1, 1) := by decide +kernel
theorem dL_add_14 : decode cL_add 14 = .ok (.ireturn, 1) := by decide +kernel
theorem dL_add_15 : decode cL_add 15 = .ok (.iconst 0, 1) := by decide +kernel
theorem dL_add_16 : decode cL_add 16 = .ok (.ireturn, 1) := by decide +kernel
theorem dL_view_0 : decode cL_view 0 = .ok (.aload_n 2, 1) := by decide +kernel
theorem dL_view_1 : decode cL_view 1 = .ok (.iconst 0, 1) := by decide +kernel
theorem dL_view_2 : decode cL_view 2 = .ok (.aload_n 0, 1) := by decide +kernel
theorem dL_view_3 : decode cL_view 3 = .ok (.iload_n 1, 1) := by decide +kernel
theorem dL_view_4 : decode cL_view 4 = .ok (.invokevirtual 18, 3) := by decide +kernel
theorem dL_view_7 : decode cL_view 7 = .ok (.i2l, 1) := by decide +kernel
theorem dL_view_8 : decode cL_view 8 = .ok (.lastore, 1) := by decide +kernel
theorem dL_view_9 : decode cL_view 9 = .ok (.goto 6, 3) := by decide +kernel
theorem dL_view_12 : decode cL_view 12 = .ok (.astore_n 3, 1) := by decide +kernel
theorem dL_view_13 : decode cL_view 13 = .ok (.iconst 1, 1) := by decide +kernel
theorem dL_view_14 : decode cL_view 14 = .ok (.ireturn, 1) := by decide +kernel
theorem dL_view_15 : decode cL_view 15 = .ok (.iconst 0, 1) := by decide +kernel
theorem dL_view_16 : decode cL_view 16 = .ok (.ireturn, 1) := by decide +kernel
theorem dL_pipe_0 : decode cL_pipe 0 = .ok (.aload_n 2, 1) := by decide +kernel
theorem dL_pipe_1 : decode cL_pipe 1 = .ok (.iconst 0, 1) := by decide +kernel
theorem dL_pipe_2 : decode cL_pipe 2 = .ok (.aload_n 0, 1) := by decide +kernel
theorem dL_pipe_3 : decode cL_pipe 3 = .ok (.iload_n 1, 1) := by decide +kernel
theorem dL_pipe_4 : decode cL_pipe 4 = .ok (.invokevirtual 21, 3) := by decide +kernel
theorem dL_pipe_7 : decode cL_pipe 7 = .ok (.i2l, 1) := by decide +kernel
theorem dL_pipe_8 : decode cL_pipe 8 = .ok (.lastore, 1) := by decide +kernel
theorem dL_pipe_9 : decode cL_pipe 9 = .ok (.goto 6, 3) := by decide +kernel
theorem dL_pipe_12 : decode cL_pipe 12 = .ok (.astore_n 3, 1) := by decide +kernel
theorem dL_pipe_13 : decode cL_pipe 13 = .ok (.iconst 1, 1) := by decide +kernel
theorem dL_pipe_14 : decode cL_pipe 14 = .ok (.ireturn, 1) := by decide +kernel
theorem dL_pipe_15 : decode cL_pipe 15 = .ok (.iconst 0, 1) := by decide +kernel
theorem dL_pipe_16 : decode cL_pipe 16 = .ok (.ireturn, 1) := by decide +kernel
theorem dL_count_0 : decode cL_count 0 = .ok (.aload_n 2, 1) := by decide +kernel
theorem dL_count_1 : decode cL_count 1 = .ok (.iconst 0, 1) := by decide +kernel
theorem dL_count_2 : decode cL_count 2 = .ok (.aload_n 0, 1) := by decide +kernel
theorem dL_count_3 : decode cL_count 3 = .ok (.iload_n 1, 1) := by decide +kernel
theorem dL_count_4 : decode cL_count 4 = .ok (.invokevirtual 24, 3) := by decide +kernel
theorem dL_count_7 : decode cL_count 7 = .ok (.i2l, 1) := by decide +kernel
theorem dL_count_8 : decode cL_count 8 = .ok (.lastore, 1) := by decide +kernel
theorem dL_count_9 : decode cL_count 9 = .ok (.goto 6, 3) := by decide +kernel
theorem dL_count_12 : decode cL_count 12 = .ok (.astore_n 3, 1) := by decide +kernel
theorem dL_count_13 : decode cL_count 13 = .ok (.iconst 1, 1) := by decide +kernel
theorem dL_count_14 : decode cL_count 14 = .ok (.ireturn, 1) := by decide +kernel
theorem dL_count_15 : decode cL_count 15 = .ok (.iconst 0, 1) := by decide +kernel
theorem dL_count_16 : decode cL_count 16 = .ok (.ireturn, 1) := by decide +kernel
theorem dL_field_0 : decode cL_field 0 = .ok (.aload_n 3, 1) := by decide +kernel
theorem dL_field_1 : decode cL_field 1 = .ok (.iconst 0, 1) := by decide +kernel
theorem dL_field_2 : decode cL_field 2 = .ok (.aload_n 0, 1) := by decide +kernel
theorem dL_field_3 : decode cL_field 3 = .ok (.iload_n 1, 1) := by decide +kernel
theorem dL_field_4 : decode cL_field 4 = .ok (.iload_n 2, 1) := by decide +kernel
theorem dL_field_5 : decode cL_field 5 = .ok (.invokevirtual 29, 3) := by decide +kernel
theorem dL_field_8 : decode cL_field 8 = .ok (.i2l, 1) := by decide +kernel
theorem dL_field_9 : decode cL_field 9 = .ok (.lastore, 1) := by decide +kernel
theorem dL_field_10 : decode cL_field 10 = .ok (.goto 7, 3) := by decide +kernel
theorem dL_field_13 : decode cL_field 13 = .ok (.astore 4, 2) := by decide +kernel
theorem dL_field_15 : decode cL_field 15 = .ok (.iconst 1, 1) := by decide +kernel
theorem dL_field_16 : decode cL_field 16 = .ok (.ireturn, 1) := by decide +kernel
theorem dL_field_17 : decode cL_field 17 = .ok (.iconst 0, 1) := by decide +kernel
theorem dL_field_18 : decode cL_field 18 = .ok (.ireturn, 1) := by decide +kernel
theorem dL_name_0 : decode cL_name 0 = .ok (.aload_n 3, 1) := by decide +kernel
theorem dL_name_1 : decode cL_name 1 = .ok (.iconst 0, 1) := by decide +kernel
theorem dL_name_2 : decode cL_name 2 = .ok (.aload_n 0, 1) := by decide +kernel
theorem dL_name_3 : decode cL_name 3 = .ok (.iload_n 1, 1) := by decide +kernel
theorem dL_name_4 : decode cL_name 4 = .ok (.iload_n 2, 1) := by decide +kernel
theorem dL_name_5 : decode cL_name 5 = .ok (.invokevirtual 33, 3) := by decide +kernel
theorem dL_name_8 : decode cL_name 8 = .ok (.i2l, 1) := by decide +kernel
theorem dL_name_9 : decode cL_name 9 = .ok (.lastore, 1) := by decide +kernel
theorem dL_name_10 : decode cL_name 10 = .ok (.goto 7, 3) := by decide +kernel
theorem dL_name_13 : decode cL_name 13 = .ok (.astore 4, 2) := by decide +kernel
theorem dL_name_15 : decode cL_name 15 = .ok (.iconst 1, 1) := by decide +kernel
theorem dL_name_16 : decode cL_name 16 = .ok (.ireturn, 1) := by decide +kernel
theorem dL_name_17 : decode cL_name 17 = .ok (.iconst 0, 1) := by decide +kernel
theorem dL_name_18 : decode cL_name 18 = .ok (.ireturn, 1) := by decide +kernel
theorem dL_leaf_0 : decode cL_leaf 0 = .ok (.aload_n 3, 1) := by decide +kernel
theorem dL_leaf_1 : decode cL_leaf 1 = .ok (.iconst 0, 1) := by decide +kernel
theorem dL_leaf_2 : decode cL_leaf 2 = .ok (.aload_n 0, 1) := by decide +kernel
theorem dL_leaf_3 : decode cL_leaf 3 = .ok (.iload_n 1, 1) := by decide +kernel
theorem dL_leaf_4 : decode cL_leaf 4 = .ok (.iload_n 2, 1) := by decide +kernel
theorem dL_leaf_5 : decode cL_leaf 5 = .ok (.invokevirtual 36, 3) := by decide +kernel
theorem dL_leaf_8 : decode cL_leaf 8 = .ok (.i2l, 1) := by decide +kernel
theorem dL_leaf_9 : decode cL_leaf 9 = .ok (.lastore, 1) := by decide +kernel
theorem dL_leaf_10 : decode cL_leaf 10 = .ok (.goto 7, 3) := by decide +kernel
theorem dL_leaf_13 : decode cL_leaf 13 = .ok (.astore 4, 2) := by decide +kernel
theorem dL_leaf_15 : decode cL_leaf 15 = .ok (.iconst 1, 1) := by decide +kernel
theorem dL_leaf_16 : decode cL_leaf 16 = .ok (.ireturn, 1) := by decide +kernel
theorem dL_leaf_17 : decode cL_leaf 17 = .ok (.iconst 0, 1) := by decide +kernel
theorem dL_leaf_18 : decode cL_leaf 18 = .ok (.ireturn, 1) := by decide +kernel
theorem dL_entry_0 : decode cL_entry 0 = .ok (.aload 4, 2) := by decide +kernel
theorem dL_entry_2 : decode cL_entry 2 = .ok (.iconst 0, 1) := by decide +kernel
theorem dL_entry_3 : decode cL_entry 3 = .ok (.aload_n 0, 1) := by decide +kernel
theorem dL_entry_4 : decode cL_entry 4 = .ok (.iload_n 1, 1) := by decide +kernel
theorem dL_entry_5 : decode cL_entry 5 = .ok (.iload_n 2, 1) := by decide +kernel
theorem dL_entry_6 : decode cL_entry 6 = .ok (.iload_n 3, 1) := by decide +kernel
theorem dL_entry_7 : decode cL_entry 7 = .ok (.invokevirtual 39, 3) := by decide +kernel
theorem dL_entry_10 : decode cL_entry 10 = .ok (.i2l, 1) := by decide +kernel
theorem dL_entry_11 : decode cL_entry 11 = .ok (.lastore, 1) := by decide +kernel
theorem dL_entry_12 : decode cL_entry 12 = .ok (.goto 7, 3) := by decide +kernel
theorem dL_entry_15 : decode cL_entry 15 = .ok (.astore 5, 2) := by decide +kernel
theorem dL_entry_17 : decode cL_entry 17 = .ok (.iconst 1, 1) := by decide +kernel
theorem dL_entry_18 : decode cL_entry 18 = .ok (.ireturn, 1) := by decide +kernel
theorem dL_entry_19 : decode cL_entry 19 = .ok (.iconst 0, 1) := by decide +kernel
theorem dL_entry_20 : decode cL_entry 20 = .ok (.ireturn, 1) := by decide +kernel
theorem dL_skip_0 : decode cL_skip 0 = .ok (.aload 4, 2) := by decide +kernel
theorem dL_skip_2 : decode cL_skip 2 = .ok (.iconst 0, 1) := by decide +kernel
theorem dL_skip_3 : decode cL_skip 3 = .ok (.aload_n 0, 1) := by decide +kernel
theorem dL_skip_4 : decode cL_skip 4 = .ok (.iload_n 1, 1) := by decide +kernel
theorem dL_skip_5 : decode cL_skip 5 = .ok (.iload_n 2, 1) := by decide +kernel
theorem dL_skip_6 : decode cL_skip 6 = .ok (.iload_n 3, 1) := by decide +kernel
theorem dL_skip_7 : decode cL_skip 7 = .ok (.invokevirtual 43, 3) := by decide +kernel
theorem dL_skip_10 : decode cL_skip 10 = .ok (.i2l, 1) := by decide +kernel
theorem dL_skip_11 : decode cL_skip 11 = .ok (.lastore, 1) := by decide +kernel
theorem dL_skip_12 : decode cL_skip 12 = .ok (.goto 7, 3) := by decide +kernel
theorem dL_skip_15 : decode cL_skip 15 = .ok (.astore 5, 2) := by decide +kernel
theorem dL_skip_17 : decode cL_skip 17 = .ok (.iconst 1, 1) := by decide +kernel
theorem dL_skip_18 : decode cL_skip 18 = .ok (.ireturn, 1) := by decide +kernel
theorem dL_skip_19 : decode cL_skip 19 = .ok (.iconst 0, 1) := by decide +kernel
theorem dL_skip_20 : decode cL_skip 20 = .ok (.ireturn, 1) := by decide +kernel
theorem dL_next_0 : decode cL_next 0 = .ok (.aload 4, 2) := by decide +kernel
theorem dL_next_2 : decode cL_next 2 = .ok (.iconst 0, 1) := by decide +kernel
theorem dL_next_3 : decode cL_next 3 = .ok (.aload_n 0, 1) := by decide +kernel
theorem dL_next_4 : decode cL_next 4 = .ok (.iload_n 1, 1) := by decide +kernel
theorem dL_next_5 : decode cL_next 5 = .ok (.iload_n 2, 1) := by decide +kernel
theorem dL_next_6 : decode cL_next 6 = .ok (.iload_n 3, 1) := by decide +kernel
theorem dL_next_7 : decode cL_next 7 = .ok (.invokevirtual 46, 3) := by decide +kernel
theorem dL_next_10 : decode cL_next 10 = .ok (.i2l, 1) := by decide +kernel
theorem dL_next_11 : decode cL_next 11 = .ok (.lastore, 1) := by decide +kernel
theorem dL_next_12 : decode cL_next 12 = .ok (.goto 11, 3) := by decide +kernel
theorem dL_next_15 : decode cL_next 15 = .ok (.astore 5, 2) := by decide +kernel
theorem dL_next_17 : decode cL_next 17 = .ok (.iconst 1, 1) := by decide +kernel
theorem dL_next_18 : decode cL_next 18 = .ok (.ireturn, 1) := by decide +kernel
theorem dL_next_19 : decode cL_next 19 = .ok (.astore 5, 2) := by decide +kernel
theorem dL_next_21 : decode cL_next 21 = .ok (.iconst 2, 1) := by decide +kernel
theorem dL_next_22 : decode cL_next 22 = .ok (.ireturn, 1) := by decide +kernel
theorem dL_next_23 : decode cL_next 23 = .ok (.iconst 0, 1) := by decide +kernel
theorem dL_next_24 : decode cL_next 24 = .ok (.ireturn, 1) := by decide +kernel
theorem dL_length_0 : decode cL_length 0 = .ok (.aload_n 3, 1) := by decide +kernel
theorem dL_length_1 : decode cL_length 1 = .ok (.iconst 0, 1) := by decide +kernel
theorem dL_length_2 : decode cL_length 2 = .ok (.aload_n 0, 1) := by decide +kernel
theorem dL_length_3 : decode cL_length 3 = .ok (.iload_n 1, 1) := by decide +kernel
theorem dL_length_4 : decode cL_length 4 = .ok (.iload_n 2, 1) := by decide +kernel
theorem dL_length_5 : decode cL_length 5 = .ok (.invokevirtual 49, 3) := by decide +kernel
theorem dL_length_8 : decode cL_length 8 = .ok (.i2l, 1) := by decide +kernel
theorem dL_length_9 : decode cL_length 9 = .ok (.lastore, 1) := by decide +kernel
theorem dL_length_10 : decode cL_length 10 = .ok (.goto 11, 3) := by decide +kernel
theorem dL_length_13 : decode cL_length 13 = .ok (.astore 4, 2) := by decide +kernel
theorem dL_length_15 : decode cL_length 15 = .ok (.iconst 1, 1) := by decide +kernel
theorem dL_length_16 : decode cL_length 16 = .ok (.ireturn, 1) := by decide +kernel
theorem dL_length_17 : decode cL_length 17 = .ok (.astore 4, 2) := by decide +kernel
theorem dL_length_19 : decode cL_length 19 = .ok (.iconst 2, 1) := by decide +kernel
theorem dL_length_20 : decode cL_length 20 = .ok (.ireturn, 1) := by decide +kernel
theorem dL_length_21 : decode cL_length 21 = .ok (.iconst 0, 1) := by decide +kernel
theorem dL_length_22 : decode cL_length 22 = .ok (.ireturn, 1) := by decide +kernel
theorem dL_sign_0 : decode cL_sign 0 = .ok (.aload 4, 2) := by decide +kernel
theorem dL_sign_2 : decode cL_sign 2 = .ok (.iconst 0, 1) := by decide +kernel
theorem dL_sign_3 : decode cL_sign 3 = .ok (.aload_n 0, 1) := by decide +kernel
theorem dL_sign_4 : decode cL_sign 4 = .ok (.iload_n 1, 1) := by decide +kernel
theorem dL_sign_5 : decode cL_sign 5 = .ok (.iload_n 2, 1) := by decide +kernel
theorem dL_sign_6 : decode cL_sign 6 = .ok (.iload_n 3, 1) := by decide +kernel
theorem dL_sign_7 : decode cL_sign 7 = .ok (.invokevirtual 52, 3) := by decide +kernel
theorem dL_sign_10 : decode cL_sign 10 = .ok (.i2l, 1) := by decide +kernel
theorem dL_sign_11 : decode cL_sign 11 = .ok (.lastore, 1) := by decide +kernel
theorem dL_sign_12 : decode cL_sign 12 = .ok (.goto 11, 3) := by decide +kernel
theorem dL_sign_15 : decode cL_sign 15 = .ok (.astore 5, 2) := by decide +kernel
theorem dL_sign_17 : decode cL_sign 17 = .ok (.iconst 1, 1) := by decide +kernel
theorem dL_sign_18 : decode cL_sign 18 = .ok (.ireturn, 1) := by decide +kernel
theorem dL_sign_19 : decode cL_sign 19 = .ok (.astore 5, 2) := by decide +kernel
theorem dL_sign_21 : decode cL_sign 21 = .ok (.iconst 2, 1) := by decide +kernel
theorem dL_sign_22 : decode cL_sign 22 = .ok (.ireturn, 1) := by decide +kernel
theorem dL_sign_23 : decode cL_sign 23 = .ok (.iconst 0, 1) := by decide +kernel
theorem dL_sign_24 : decode cL_sign 24 = .ok (.ireturn, 1) := by decide +kernel
theorem dL_reads_0 : decode cL_reads 0 = .ok (.aload_n 3, 1) := by decide +kernel
theorem dL_reads_1 : decode cL_reads 1 = .ok (.iconst 0, 1) := by decide +kernel
theorem dL_reads_2 : decode cL_reads 2 = .ok (.aload_n 0, 1) := by decide +kernel
theorem dL_reads_3 : decode cL_reads 3 = .ok (.iload_n 1, 1) := by decide +kernel
theorem dL_reads_4 : decode cL_reads 4 = .ok (.iload_n 2, 1) := by decide +kernel
theorem dL_reads_5 : decode cL_reads 5 = .ok (.invokevirtual 55, 3) := by decide +kernel
theorem dL_reads_8 : decode cL_reads 8 = .ok (.i2l, 1) := by decide +kernel
theorem dL_reads_9 : decode cL_reads 9 = .ok (.lastore, 1) := by decide +kernel
theorem dL_reads_10 : decode cL_reads 10 = .ok (.goto 11, 3) := by decide +kernel
theorem dL_reads_13 : decode cL_reads 13 = .ok (.astore 4, 2) := by decide +kernel
theorem dL_reads_15 : decode cL_reads 15 = .ok (.iconst 1, 1) := by decide +kernel
theorem dL_reads_16 : decode cL_reads 16 = .ok (.ireturn, 1) := by decide +kernel
theorem dL_reads_17 : decode cL_reads 17 = .ok (.astore 4, 2) := by decide +kernel
theorem dL_reads_19 : decode cL_reads 19 = .ok (.iconst 2, 1) := by decide +kernel
theorem dL_reads_20 : decode cL_reads 20 = .ok (.ireturn, 1) := by decide +kernel
theorem dL_reads_21 : decode cL_reads 21 = .ok (.iconst 0, 1) := by decide +kernel
theorem dL_reads_22 : decode cL_reads 22 = .ok (.ireturn, 1) := by decide +kernel
theorem dL_seen_0 : decode cL_seen 0 = .ok (.aload_n 2, 1) := by decide +kernel
theorem dL_seen_1 : decode cL_seen 1 = .ok (.iconst 0, 1) := by decide +kernel
theorem dL_seen_2 : decode cL_seen 2 = .ok (.aload_n 0, 1) := by decide +kernel
theorem dL_seen_3 : decode cL_seen 3 = .ok (.iload_n 1, 1) := by decide +kernel
theorem dL_seen_4 : decode cL_seen 4 = .ok (.invokevirtual 58, 3) := by decide +kernel
theorem dL_seen_7 : decode cL_seen 7 = .ok (.i2l, 1) := by decide +kernel
theorem dL_seen_8 : decode cL_seen 8 = .ok (.lastore, 1) := by decide +kernel
theorem dL_seen_9 : decode cL_seen 9 = .ok (.goto 6, 3) := by decide +kernel
theorem dL_seen_12 : decode cL_seen 12 = .ok (.astore_n 3, 1) := by decide +kernel
theorem dL_seen_13 : decode cL_seen 13 = .ok (.iconst 1, 1) := by decide +kernel
theorem dL_seen_14 : decode cL_seen 14 = .ok (.ireturn, 1) := by decide +kernel
theorem dL_seen_15 : decode cL_seen 15 = .ok (.iconst 0, 1) := by decide +kernel
theorem dL_seen_16 : decode cL_seen 16 = .ok (.ireturn, 1) := by decide +kernel
theorem dL_seenSign_0 : decode cL_seenSign 0 = .ok (.aload_n 3, 1) := by decide +kernel
theorem dL_seenSign_1 : decode cL_seenSign 1 = .ok (.iconst 0, 1) := by decide +kernel
theorem dL_seenSign_2 : decode cL_seenSign 2 = .ok (.aload_n 0, 1) := by decide +kernel
theorem dL_seenSign_3 : decode cL_seenSign 3 = .ok (.iload_n 1, 1) := by decide +kernel
theorem dL_seenSign_4 : decode cL_seenSign 4 = .ok (.iload_n 2, 1) := by decide +kernel
theorem dL_seenSign_5 : decode cL_seenSign 5 = .ok (.invokevirtual 61, 3) := by decide +kernel
theorem dL_seenSign_8 : decode cL_seenSign 8 = .ok (.i2l, 1) := by decide +kernel
theorem dL_seenSign_9 : decode cL_seenSign 9 = .ok (.lastore, 1) := by decide +kernel
theorem dL_seenSign_10 : decode cL_seenSign 10 = .ok (.goto 7, 3) := by decide +kernel
theorem dL_seenSign_13 : decode cL_seenSign 13 = .ok (.astore 4, 2) := by decide +kernel
theorem dL_seenSign_15 : decode cL_seenSign 15 = .ok (.iconst 1, 1) := by decide +kernel
theorem dL_seenSign_16 : decode cL_seenSign 16 = .ok (.ireturn, 1) := by decide +kernel
theorem dL_seenSign_17 : decode cL_seenSign 17 = .ok (.iconst 0, 1) := by decide +kernel
theorem dL_seenSign_18 : decode cL_seenSign 18 = .ok (.ireturn, 1) := by decide +kernel
theorem dL_fold_0 : decode cL_fold 0 = .ok (.aload_n 3, 1) := by decide +kernel
theorem dL_fold_1 : decode cL_fold 1 = .ok (.iconst 0, 1) := by decide +kernel
theorem dL_fold_2 : decode cL_fold 2 = .ok (.aload_n 0, 1) := by decide +kernel
theorem dL_fold_3 : decode cL_fold 3 = .ok (.iload_n 1, 1) := by decide +kernel
theorem dL_fold_4 : decode cL_fold 4 = .ok (.iload_n 2, 1) := by decide +kernel
theorem dL_fold_5 : decode cL_fold 5 = .ok (.invokevirtual 64, 3) := by decide +kernel
theorem dL_fold_8 : decode cL_fold 8 = .ok (.i2l, 1) := by decide +kernel
theorem dL_fold_9 : decode cL_fold 9 = .ok (.lastore, 1) := by decide +kernel
theorem dL_fold_10 : decode cL_fold 10 = .ok (.goto 7, 3) := by decide +kernel
theorem dL_fold_13 : decode cL_fold 13 = .ok (.astore 4, 2) := by decide +kernel
theorem dL_fold_15 : decode cL_fold 15 = .ok (.iconst 1, 1) := by decide +kernel
theorem dL_fold_16 : decode cL_fold 16 = .ok (.ireturn, 1) := by decide +kernel
theorem dL_fold_17 : decode cL_fold 17 = .ok (.iconst 0, 1) := by decide +kernel
theorem dL_fold_18 : decode cL_fold 18 = .ok (.ireturn, 1) := by decide +kernel
theorem dL_picked_0 : decode cL_picked 0 = .ok (.aload 4, 2) := by decide +kernel
theorem dL_picked_2 : decode cL_picked 2 = .ok (.iconst 0, 1) := by decide +kernel
theorem dL_picked_3 : decode cL_picked 3 = .ok (.aload_n 0, 1) := by decide +kernel
theorem dL_picked_4 : decode cL_picked 4 = .ok (.iload_n 1, 1) := by decide +kernel
theorem dL_picked_5 : decode cL_picked 5 = .ok (.iload_n 2, 1) := by decide +kernel
theorem dL_picked_6 : decode cL_picked 6 = .ok (.iload_n 3, 1) := by decide +kernel
theorem dL_picked_7 : decode cL_picked 7 = .ok (.invokevirtual 67, 3) := by decide +kernel
theorem dL_picked_10 : decode cL_picked 10 = .ok (.i2l, 1) := by decide +kernel
theorem dL_picked_11 : decode cL_picked 11 = .ok (.lastore, 1) := by decide +kernel
theorem dL_picked_12 : decode cL_picked 12 = .ok (.goto 7, 3) := by decide +kernel
theorem dL_picked_15 : decode cL_picked 15 = .ok (.astore 5, 2) := by decide +kernel
theorem dL_picked_17 : decode cL_picked 17 = .ok (.iconst 1, 1) := by decide +kernel
theorem dL_picked_18 : decode cL_picked 18 = .ok (.ireturn, 1) := by decide +kernel
theorem dL_picked_19 : decode cL_picked 19 = .ok (.iconst 0, 1) := by decide +kernel
theorem dL_picked_20 : decode cL_picked 20 = .ok (.ireturn, 1) := by decide +kernel
theorem dL_pages_0 : decode cL_pages 0 = .ok (.aload_n 3, 1) := by decide +kernel
theorem dL_pages_1 : decode cL_pages 1 = .ok (.iconst 0, 1) := by decide +kernel
theorem dL_pages_2 : decode cL_pages 2 = .ok (.aload_n 0, 1) := by decide +kernel
theorem dL_pages_3 : decode cL_pages 3 = .ok (.iload_n 1, 1) := by decide +kernel
theorem dL_pages_4 : decode cL_pages 4 = .ok (.iload_n 2, 1) := by decide +kernel
theorem dL_pages_5 : decode cL_pages 5 = .ok (.invokevirtual 70, 3) := by decide +kernel
theorem dL_pages_8 : decode cL_pages 8 = .ok (.i2l, 1) := by decide +kernel
theorem dL_pages_9 : decode cL_pages 9 = .ok (.lastore, 1) := by decide +kernel
theorem dL_pages_10 : decode cL_pages 10 = .ok (.goto 11, 3) := by decide +kernel
theorem dL_pages_13 : decode cL_pages 13 = .ok (.astore 4, 2) := by decide +kernel
theorem dL_pages_15 : decode cL_pages 15 = .ok (.iconst 1, 1) := by decide +kernel
theorem dL_pages_16 : decode cL_pages 16 = .ok (.ireturn, 1) := by decide +kernel
theorem dL_pages_17 : decode cL_pages 17 = .ok (.astore 4, 2) := by decide +kernel
theorem dL_pages_19 : decode cL_pages 19 = .ok (.iconst 2, 1) := by decide +kernel
theorem dL_pages_20 : decode cL_pages 20 = .ok (.ireturn, 1) := by decide +kernel
theorem dL_pages_21 : decode cL_pages 21 = .ok (.iconst 0, 1) := by decide +kernel
theorem dL_pages_22 : decode cL_pages 22 = .ok (.ireturn, 1) := by decide +kernel
theorem dL_piped_0 : decode cL_piped 0 = .ok (.aload_n 3, 1) := by decide +kernel
theorem dL_piped_1 : decode cL_piped 1 = .ok (.iconst 0, 1) := by decide +kernel
theorem dL_piped_2 : decode cL_piped 2 = .ok (.aload_n 0, 1) := by decide +kernel
theorem dL_piped_3 : decode cL_piped 3 = .ok (.iload_n 1, 1) := by decide +kernel
theorem dL_piped_4 : decode cL_piped 4 = .ok (.iload_n 2, 1) := by decide +kernel
theorem dL_piped_5 : decode cL_piped 5 = .ok (.invokevirtual 73, 3) := by decide +kernel
theorem dL_piped_8 : decode cL_piped 8 = .ok (.i2l, 1) := by decide +kernel
theorem dL_piped_9 : decode cL_piped 9 = .ok (.lastore, 1) := by decide +kernel
theorem dL_piped_10 : decode cL_piped 10 = .ok (.goto 7, 3) := by decide +kernel
theorem dL_piped_13 : decode cL_piped 13 = .ok (.astore 4, 2) := by decide +kernel
theorem dL_piped_15 : decode cL_piped 15 = .ok (.iconst 1, 1) := by decide +kernel
theorem dL_piped_16 : decode cL_piped 16 = .ok (.ireturn, 1) := by decide +kernel
theorem dL_piped_17 : decode cL_piped 17 = .ok (.iconst 0, 1) := by decide +kernel
theorem dL_piped_18 : decode cL_piped 18 = .ok (.ireturn, 1) := by decide +kernel
theorem dL_set_0 : decode cL_set 0 = .ok (.aload 4, 2) := by decide +kernel
theorem dL_set_2 : decode cL_set 2 = .ok (.iconst 0, 1) := by decide +kernel
theorem dL_set_3 : decode cL_set 3 = .ok (.aload_n 0, 1) := by decide +kernel
theorem dL_set_4 : decode cL_set 4 = .ok (.iload_n 1, 1) := by decide +kernel
theorem dL_set_5 : decode cL_set 5 = .ok (.iload_n 2, 1) := by decide +kernel
theorem dL_set_6 : decode cL_set 6 = .ok (.iload_n 3, 1) := by decide +kernel
theorem dL_set_7 : decode cL_set 7 = .ok (.invokevirtual 76, 3) := by decide +kernel
theorem dL_set_10 : decode cL_set 10 = .ok (.i2l, 1) := by decide +kernel
theorem dL_set_11 : decode cL_set 11 = .ok (.lastore, 1) := by decide +kernel
theorem dL_set_12 : decode cL_set 12 = .ok (.goto 7, 3) := by decide +kernel
theorem dL_set_15 : decode cL_set 15 = .ok (.astore 5, 2) := by decide +kernel
theorem dL_set_17 : decode cL_set 17 = .ok (.iconst 1, 1) := by decide +kernel
theorem dL_set_18 : decode cL_set 18 = .ok (.ireturn, 1) := by decide +kernel
theorem dL_set_19 : decode cL_set 19 = .ok (.iconst 0, 1) := by decide +kernel
theorem dL_set_20 : decode cL_set 20 = .ok (.ireturn, 1) := by decide +kernel
theorem dL_damage_0 : decode cL_damage 0 = .ok (.aload 5, 2) := by decide +kernel
theorem dL_damage_2 : decode cL_damage 2 = .ok (.iconst 0, 1) := by decide +kernel
theorem dL_damage_3 : decode cL_damage 3 = .ok (.aload_n 0, 1) := by decide +kernel
theorem dL_damage_4 : decode cL_damage 4 = .ok (.iload_n 1, 1) := by decide +kernel
theorem dL_damage_5 : decode cL_damage 5 = .ok (.iload_n 2, 1) := by decide +kernel
theorem dL_damage_6 : decode cL_damage 6 = .ok (.iload_n 3, 1) := by decide +kernel
theorem dL_damage_7 : decode cL_damage 7 = .ok (.iload 4, 2) := by decide +kernel
theorem dL_damage_9 : decode cL_damage 9 = .ok (.invokevirtual 79, 3) := by decide +kernel
theorem dL_damage_12 : decode cL_damage 12 = .ok (.i2l, 1) := by decide +kernel
theorem dL_damage_13 : decode cL_damage 13 = .ok (.lastore, 1) := by decide +kernel
theorem dL_damage_14 : decode cL_damage 14 = .ok (.goto 7, 3) := by decide +kernel
theorem dL_damage_17 : decode cL_damage 17 = .ok (.astore 6, 2) := by decide +kernel
theorem dL_damage_19 : decode cL_damage 19 = .ok (.iconst 1, 1) := by decide +kernel
theorem dL_damage_20 : decode cL_damage 20 = .ok (.ireturn, 1) := by decide +kernel
theorem dL_damage_21 : decode cL_damage 21 = .ok (.iconst 0, 1) := by decide +kernel
theorem dL_damage_22 : decode cL_damage 22 = .ok (.ireturn, 1) := by decide +kernel
theorem dL_years_0 : decode cL_years 0 = .ok (.aload 4, 2) := by decide +kernel
theorem dL_years_2 : decode cL_years 2 = .ok (.iconst 0, 1) := by decide +kernel
theorem dL_years_3 : decode cL_years 3 = .ok (.aload_n 0, 1) := by decide +kernel
theorem dL_years_4 : decode cL_years 4 = .ok (.iload_n 1, 1) := by decide +kernel
theorem dL_years_5 : decode cL_years 5 = .ok (.iload_n 2, 1) := by decide +kernel
theorem dL_years_6 : decode cL_years 6 = .ok (.iload_n 3, 1) := by decide +kernel
theorem dL_years_7 : decode cL_years 7 = .ok (.invokevirtual 83, 3) := by decide +kernel
theorem dL_years_10 : decode cL_years 10 = .ok (.i2l, 1) := by decide +kernel
theorem dL_years_11 : decode cL_years 11 = .ok (.lastore, 1) := by decide +kernel
theorem dL_years_12 : decode cL_years 12 = .ok (.goto 11, 3) := by decide +kernel
theorem dL_years_15 : decode cL_years 15 = .ok (.astore 5, 2) := by decide +kernel
theorem dL_years_17 : decode cL_years 17 = .ok (.iconst 1, 1) := by decide +kernel
theorem dL_years_18 : decode cL_years 18 = .ok (.ireturn, 1) := by decide +kernel
theorem dL_years_19 : decode cL_years 19 = .ok (.astore 5, 2) := by decide +kernel
theorem dL_years_21 : decode cL_years 21 = .ok (.iconst 2, 1) := by decide +kernel
theorem dL_years_22 : decode cL_years 22 = .ok (.ireturn, 1) := by decide +kernel
theorem dL_years_23 : decode cL_years 23 = .ok (.iconst 0, 1) := by decide +kernel
theorem dL_years_24 : decode cL_years 24 = .ok (.ireturn, 1) := by decide +kernel
