theorem dX11_name_0 : decode cX11_name 0 = .ok (.aload_n 0, 1) := by decide +kernel
theorem dX11_name_1 : decode cX11_name 1 = .ok (.iload_n 1, 1) := by decide +kernel
theorem dX11_name_2 : decode cX11_name 2 = .ok (.invokevirtual 184, 3) := by decide +kernel
theorem dX11_name_5 : decode cX11_name 5 = .ok (.iload_n 2, 1) := by decide +kernel
theorem dX11_name_6 : decode cX11_name 6 = .ok (.ifCond .lt 16, 3) := by decide +kernel
theorem dX11_name_9 : decode cX11_name 9 = .ok (.iload_n 2, 1) := by decide +kernel
theorem dX11_name_10 : decode cX11_name 10 = .ok (.aload_n 0, 1) := by decide +kernel
theorem dX11_name_11 : decode cX11_name 11 = .ok (.getfield 64, 3) := by decide +kernel
theorem dX11_name_14 : decode cX11_name 14 = .ok (.getfield 196, 3) := by decide +kernel
theorem dX11_name_17 : decode cX11_name 17 = .ok (.iload_n 1, 1) := by decide +kernel
theorem dX11_name_18 : decode cX11_name 18 = .ok (.iaload, 1) := by decide +kernel
theorem dX11_name_19 : decode cX11_name 19 = .ok (.if_icmp .lt 13, 3) := by decide +kernel
theorem dX11_name_22 : decode cX11_name 22 = .ok (.new 202, 3) := by decide +kernel
theorem dX11_name_25 : decode cX11_name 25 = .ok (.dup, 1) := by decide +kernel
theorem dX11_name_26 : decode cX11_name 26 = .ok (.ldc 209, 2) := by decide +kernel
theorem dX11_name_28 : decode cX11_name 28 = .ok (.invokespecial 206, 3) := by decide +kernel
theorem dX11_name_31 : decode cX11_name 31 = .ok (.athrow, 1) := by decide +kernel
theorem dX11_name_32 : decode cX11_name 32 = .ok (.aload_n 0, 1) := by decide +kernel
theorem dX11_name_33 : decode cX11_name 33 = .ok (.getfield 64, 3) := by decide +kernel
theorem dX11_name_36 : decode cX11_name 36 = .ok (.getfield 211, 3) := by decide +kernel
theorem dX11_name_39 : decode cX11_name 39 = .ok (.iload_n 1, 1) := by decide +kernel
theorem dX11_name_40 : decode cX11_name 40 = .ok (.iconst 4, 1) := by decide +kernel
theorem dX11_name_41 : decode cX11_name 41 = .ok (.imul, 1) := by decide +kernel
theorem dX11_name_42 : decode cX11_name 42 = .ok (.iload_n 2, 1) := by decide +kernel
theorem dX11_name_43 : decode cX11_name 43 = .ok (.iadd, 1) := by decide +kernel
theorem dX11_name_44 : decode cX11_name 44 = .ok (.iaload, 1) := by decide +kernel
theorem dX11_name_45 : decode cX11_name 45 = .ok (.ireturn, 1) := by decide +kernel
theorem dX11_leaf_0 : decode cX11_leaf 0 = .ok (.aload_n 0, 1) := by decide +kernel
theorem dX11_leaf_1 : decode cX11_leaf 1 = .ok (.iload_n 1, 1) := by decide +kernel
theorem dX11_leaf_2 : decode cX11_leaf 2 = .ok (.invokevirtual 214, 3) := by decide +kernel
theorem dX11_leaf_5 : decode cX11_leaf 5 = .ok (.aload_n 0, 1) := by decide +kernel
theorem dX11_leaf_6 : decode cX11_leaf 6 = .ok (.getfield 64, 3) := by decide +kernel
theorem dX11_leaf_9 : decode cX11_leaf 9 = .ok (.getfield 217, 3) := by decide +kernel
theorem dX11_leaf_12 : decode cX11_leaf 12 = .ok (.iload_n 1, 1) := by decide +kernel
theorem dX11_leaf_13 : decode cX11_leaf 13 = .ok (.iaload, 1) := by decide +kernel
theorem dX11_leaf_14 : decode cX11_leaf 14 = .ok (.istore_n 3, 1) := by decide +kernel
theorem dX11_leaf_15 : decode cX11_leaf 15 = .ok (.aload_n 0, 1) := by decide +kernel
theorem dX11_leaf_16 : decode cX11_leaf 16 = .ok (.getfield 54, 3) := by decide +kernel
theorem dX11_leaf_19 : decode cX11_leaf 19 = .ok (.getfield 220, 3) := by decide +kernel
theorem dX11_leaf_22 : decode cX11_leaf 22 = .ok (.iload_n 1, 1) := by decide +kernel
theorem dX11_leaf_23 : decode cX11_leaf 23 = .ok (.aaload, 1) := by decide +kernel
theorem dX11_leaf_24 : decode cX11_leaf 24 = .ok (.astore 4, 2) := by decide +kernel
theorem dX11_leaf_26 : decode cX11_leaf 26 = .ok (.iload_n 2, 1) := by decide +kernel
theorem dX11_leaf_27 : decode cX11_leaf 27 = .ok (.tableswitch 93 0 5 #[37, 39, 45, 56, 67, 80], 37) := by decide +kernel
theorem dX11_leaf_64 : decode cX11_leaf 64 = .ok (.iload_n 3, 1) := by decide +kernel
theorem dX11_leaf_65 : decode cX11_leaf 65 = .ok (.ireturn, 1) := by decide +kernel
theorem dX11_leaf_66 : decode cX11_leaf 66 = .ok (.aload 4, 2) := by decide +kernel
theorem dX11_leaf_68 : decode cX11_leaf 68 = .ok (.getfield 224, 3) := by decide +kernel
theorem dX11_leaf_71 : decode cX11_leaf 71 = .ok (.ireturn, 1) := by decide +kernel
theorem dX11_leaf_72 : decode cX11_leaf 72 = .ok (.aload 4, 2) := by decide +kernel
theorem dX11_leaf_74 : decode cX11_leaf 74 = .ok (.aload 4, 2) := by decide +kernel
theorem dX11_leaf_76 : decode cX11_leaf 76 = .ok (.getfield 227, 3) := by decide +kernel
theorem dX11_leaf_79 : decode cX11_leaf 79 = .ok (.invokevirtual 228, 3) := by decide +kernel
theorem dX11_leaf_82 : decode cX11_leaf 82 = .ok (.ireturn, 1) := by decide +kernel
theorem dX11_leaf_83 : decode cX11_leaf 83 = .ok (.aload 4, 2) := by decide +kernel
theorem dX11_leaf_85 : decode cX11_leaf 85 = .ok (.aload 4, 2) := by decide +kernel
theorem dX11_leaf_87 : decode cX11_leaf 87 = .ok (.getfield 231, 3) := by decide +kernel
theorem dX11_leaf_90 : decode cX11_leaf 90 = .ok (.invokevirtual 228, 3) := by decide +kernel
theorem dX11_leaf_93 : decode cX11_leaf 93 = .ok (.ireturn, 1) := by decide +kernel
theorem dX11_leaf_94 : decode cX11_leaf 94 = .ok (.aload_n 0, 1) := by decide +kernel
theorem dX11_leaf_95 : decode cX11_leaf 95 = .ok (.getfield 64, 3) := by decide +kernel
theorem dX11_leaf_98 : decode cX11_leaf 98 = .ok (.getfield 163, 3) := by decide +kernel
theorem dX11_leaf_101 : decode cX11_leaf 101 = .ok (.iload_n 3, 1) := by decide +kernel
theorem dX11_leaf_102 : decode cX11_leaf 102 = .ok (.iaload, 1) := by decide +kernel
theorem dX11_leaf_103 : decode cX11_leaf 103 = .ok (.invokestatic 232, 3) := by decide +kernel
theorem dX11_leaf_106 : decode cX11_leaf 106 = .ok (.ireturn, 1) := by decide +kernel
theorem dX11_leaf_107 : decode cX11_leaf 107 = .ok (.aload_n 0, 1) := by decide +kernel
theorem dX11_leaf_108 : decode cX11_leaf 108 = .ok (.getfield 64, 3) := by decide +kernel
theorem dX11_leaf_111 : decode cX11_leaf 111 = .ok (.getfield 156, 3) := by decide +kernel
theorem dX11_leaf_114 : decode cX11_leaf 114 = .ok (.iload_n 3, 1) := by decide +kernel
theorem dX11_leaf_115 : decode cX11_leaf 115 = .ok (.iaload, 1) := by decide +kernel
theorem dX11_leaf_116 : decode cX11_leaf 116 = .ok (.invokestatic 232, 3) := by decide +kernel
theorem dX11_leaf_119 : decode cX11_leaf 119 = .ok (.ireturn, 1) := by decide +kernel
theorem dX11_leaf_120 : decode cX11_leaf 120 = .ok (.new 202, 3) := by decide +kernel
theorem dX11_leaf_123 : decode cX11_leaf 123 = .ok (.dup, 1) := by decide +kernel
theorem dX11_leaf_124 : decode cX11_leaf 124 = .ok (.ldc 204, 2) := by decide +kernel
theorem dX11_leaf_126 : decode cX11_leaf 126 = .ok (.invokespecial 206, 3) := by decide +kernel
theorem dX11_leaf_129 : decode cX11_leaf 129 = .ok (.athrow, 1) := by decide +kernel
theorem dX11_entry_0 : decode cX11_entry 0 = .ok (.aload_n 0, 1) := by decide +kernel
theorem dX11_entry_1 : decode cX11_entry 1 = .ok (.iload_n 1, 1) := by decide +kernel
theorem dX11_entry_2 : decode cX11_entry 2 = .ok (.iload_n 2, 1) := by decide +kernel
theorem dX11_entry_3 : decode cX11_entry 3 = .ok (.invokevirtual 235, 3) := by decide +kernel
theorem dX11_entry_6 : decode cX11_entry 6 = .ok (.aload_n 0, 1) := by decide +kernel
theorem dX11_entry_7 : decode cX11_entry 7 = .ok (.getfield 54, 3) := by decide +kernel
theorem dX11_entry_10 : decode cX11_entry 10 = .ok (.getfield 220, 3) := by decide +kernel
theorem dX11_entry_13 : decode cX11_entry 13 = .ok (.iload_n 1, 1) := by decide +kernel
theorem dX11_entry_14 : decode cX11_entry 14 = .ok (.aaload, 1) := by decide +kernel
theorem dX11_entry_15 : decode cX11_entry 15 = .ok (.astore 4, 2) := by decide +kernel
theorem dX11_entry_17 : decode cX11_entry 17 = .ok (.iload_n 3, 1) := by decide +kernel
theorem dX11_entry_18 : decode cX11_entry 18 = .ok (.tableswitch 63 0 2 #[26, 34, 42], 26) := by decide +kernel
theorem dX11_entry_44 : decode cX11_entry 44 = .ok (.aload 4, 2) := by decide +kernel
theorem dX11_entry_46 : decode cX11_entry 46 = .ok (.getfield 227, 3) := by decide +kernel
theorem dX11_entry_49 : decode cX11_entry 49 = .ok (.iload_n 2, 1) := by decide +kernel
theorem dX11_entry_50 : decode cX11_entry 50 = .ok (.iaload, 1) := by decide +kernel
theorem dX11_entry_51 : decode cX11_entry 51 = .ok (.ireturn, 1) := by decide +kernel
theorem dX11_entry_52 : decode cX11_entry 52 = .ok (.aload 4, 2) := by decide +kernel
theorem dX11_entry_54 : decode cX11_entry 54 = .ok (.getfield 231, 3) := by decide +kernel
theorem dX11_entry_57 : decode cX11_entry 57 = .ok (.iload_n 2, 1) := by decide +kernel
theorem dX11_entry_58 : decode cX11_entry 58 = .ok (.iaload, 1) := by decide +kernel
theorem dX11_entry_59 : decode cX11_entry 59 = .ok (.ireturn, 1) := by decide +kernel
theorem dX11_entry_60 : decode cX11_entry 60 = .ok (.aload 4, 2) := by decide +kernel
theorem dX11_entry_62 : decode cX11_entry 62 = .ok (.iload_n 2, 1) := by decide +kernel
theorem dX11_entry_63 : decode cX11_entry 63 = .ok (.invokevirtual 239, 3) := by decide +kernel
theorem dX11_entry_66 : decode cX11_entry 66 = .ok (.ifCond .eq 13, 3) := by decide +kernel
theorem dX11_entry_69 : decode cX11_entry 69 = .ok (.aload 4, 2) := by decide +kernel
theorem dX11_entry_71 : decode cX11_entry 71 = .ok (.getfield 242, 3) := by decide +kernel
theorem dX11_entry_74 : decode cX11_entry 74 = .ok (.iload_n 2, 1) := by decide +kernel
theorem dX11_entry_75 : decode cX11_entry 75 = .ok (.iaload, 1) := by decide +kernel
theorem dX11_entry_76 : decode cX11_entry 76 = .ok (.goto 4, 3) := by decide +kernel
theorem dX11_entry_79 : decode cX11_entry 79 = .ok (.iconst (-1), 1) := by decide +kernel
theorem dX11_entry_80 : decode cX11_entry 80 = .ok (.ireturn, 1) := by decide +kernel
theorem dX11_entry_81 : decode cX11_entry 81 = .ok (.new 202, 3) := by decide +kernel
theorem dX11_entry_84 : decode cX11_entry 84 = .ok (.dup, 1) := by decide +kernel
theorem dX11_entry_85 : decode cX11_entry 85 = .ok (.ldc 204, 2) := by decide +kernel
theorem dX11_entry_87 : decode cX11_entry 87 = .ok (.invokespecial 206, 3) := by decide +kernel
theorem dX11_entry_90 : decode cX11_entry 90 = .ok (.athrow, 1) := by decide +kernel
theorem dX11_skip_0 : decode cX11_skip 0 = .ok (.aload_n 0, 1) := by decide +kernel
theorem dX11_skip_1 : decode cX11_skip 1 = .ok (.iload_n 1, 1) := by decide +kernel
theorem dX11_skip_2 : decode cX11_skip 2 = .ok (.invokevirtual 214, 3) := by decide +kernel
theorem dX11_skip_5 : decode cX11_skip 5 = .ok (.aload_n 0, 1) := by decide +kernel
theorem dX11_skip_6 : decode cX11_skip 6 = .ok (.iload_n 2, 1) := by decide +kernel
theorem dX11_skip_7 : decode cX11_skip 7 = .ok (.invokevirtual 245, 3) := by decide +kernel
theorem dX11_skip_10 : decode cX11_skip 10 = .ok (.iload_n 3, 1) := by decide +kernel
theorem dX11_skip_11 : decode cX11_skip 11 = .ok (.ifCond .eq 18, 3) := by decide +kernel
theorem dX11_skip_14 : decode cX11_skip 14 = .ok (.iload_n 3, 1) := by decide +kernel
theorem dX11_skip_15 : decode cX11_skip 15 = .ok (.iconst 1, 1) := by decide +kernel
theorem dX11_skip_16 : decode cX11_skip 16 = .ok (.if_icmp .eq 13, 3) := by decide +kernel
theorem dX11_skip_19 : decode cX11_skip 19 = .ok (.new 202, 3) := by decide +kernel
theorem dX11_skip_22 : decode cX11_skip 22 = .ok (.dup, 1) := by decide +kernel
theorem dX11_skip_23 : decode cX11_skip 23 = .ok (.ldc 204, 2) := by decide +kernel
theorem dX11_skip_25 : decode cX11_skip 25 = .ok (.invokespecial 206, 3) := by decide +kernel
theorem dX11_skip_28 : decode cX11_skip 28 = .ok (.athrow, 1) := by decide +kernel
theorem dX11_skip_29 : decode cX11_skip 29 = .ok (.aload_n 0, 1) := by decide +kernel
theorem dX11_skip_30 : decode cX11_skip 30 = .ok (.getfield 54, 3) := by decide +kernel
theorem dX11_skip_33 : decode cX11_skip 33 = .ok (.getfield 220, 3) := by decide +kernel
theorem dX11_skip_36 : decode cX11_skip 36 = .ok (.iload_n 1, 1) := by decide +kernel
theorem dX11_skip_37 : decode cX11_skip 37 = .ok (.aaload, 1) := by decide +kernel
theorem dX11_skip_38 : decode cX11_skip 38 = .ok (.astore 4, 2) := by decide +kernel
theorem dX11_skip_40 : decode cX11_skip 40 = .ok (.aload 4, 2) := by decide +kernel
theorem dX11_skip_42 : decode cX11_skip 42 = .ok (.iload_n 2, 1) := by decide +kernel
theorem dX11_skip_43 : decode cX11_skip 43 = .ok (.invokevirtual 248, 3) := by decide +kernel
theorem dX11_skip_46 : decode cX11_skip 46 = .ok (.istore 5, 2) := by decide +kernel
theorem dX11_skip_48 : decode cX11_skip 48 = .ok (.iload 5, 2) := by decide +kernel
theorem dX11_skip_50 : decode cX11_skip 50 = .ok (.iconst (-1), 1) := by decide +kernel
theorem dX11_skip_51 : decode cX11_skip 51 = .ok (.if_icmp .eq 7, 3) := by decide +kernel
theorem dX11_skip_54 : decode cX11_skip 54 = .ok (.iload_n 3, 1) := by decide +kernel
theorem dX11_skip_55 : decode cX11_skip 55 = .ok (.ifCond .ne 6, 3) := by decide +kernel
theorem dX11_skip_58 : decode cX11_skip 58 = .ok (.iload 5, 2) := by decide +kernel
theorem dX11_skip_60 : decode cX11_skip 60 = .ok (.ireturn, 1) := by decide +kernel
theorem dX11_skip_61 : decode cX11_skip 61 = .ok (.aload 4, 2) := by decide +kernel
theorem dX11_skip_63 : decode cX11_skip 63 = .ok (.iload 5, 2) := by decide +kernel
theorem dX11_skip_65 : decode cX11_skip 65 = .ok (.iconst 0, 1) := by decide +kernel
theorem dX11_skip_66 : decode cX11_skip 66 = .ok (.invokevirtual 251, 3) := by decide +kernel
theorem dX11_skip_69 : decode cX11_skip 69 = .ok (.iload 5, 2) := by decide +kernel
theorem dX11_skip_71 : decode cX11_skip 71 = .ok (.isub, 1) := by decide +kernel
theorem dX11_skip_72 : decode cX11_skip 72 = .ok (.ireturn, 1) := by decide +kernel
theorem dX11_next_0 : decode cX11_next 0 = .ok (.iload_n 2, 1) := by decide +kernel
theorem dX11_next_1 : decode cX11_next 1 = .ok (.ifCond .lt 17, 3) := by decide +kernel
theorem dX11_next_4 : decode cX11_next 4 = .ok (.iload_n 2, 1) := by decide +kernel
theorem dX11_next_5 : decode cX11_next 5 = .ok (.bipush 31, 2) := by decide +kernel
theorem dX11_next_7 : decode cX11_next 7 = .ok (.if_icmp .gt 11, 3) := by decide +kernel
theorem dX11_next_10 : decode cX11_next 10 = .ok (.iload_n 1, 1) := by decide +kernel
theorem dX11_next_11 : decode cX11_next 11 = .ok (.iload_n 2, 1) := by decide +kernel
theorem dX11_next_12 : decode cX11_next 12 = .ok (.iushr, 1) := by decide +kernel
theorem dX11_next_13 : decode cX11_next 13 = .ok (.iconst 1, 1) := by decide +kernel
theorem dX11_next_14 : decode cX11_next 14 = .ok (.iand, 1) := by decide +kernel
theorem dX11_next_15 : decode cX11_next 15 = .ok (.ifCond .ne 13, 3) := by decide +kernel
theorem dX11_next_18 : decode cX11_next 18 = .ok (.new 202, 3) := by decide +kernel
theorem dX11_next_21 : decode cX11_next 21 = .ok (.dup, 1) := by decide +kernel
theorem dX11_next_22 : decode cX11_next 22 = .ok (.ldc 255, 2) := by decide +kernel
theorem dX11_next_24 : decode cX11_next 24 = .ok (.invokespecial 206, 3) := by decide +kernel
theorem dX11_next_27 : decode cX11_next 27 = .ok (.athrow, 1) := by decide +kernel
theorem dX11_next_28 : decode cX11_next 28 = .ok (.aload_n 0, 1) := by decide +kernel
theorem dX11_next_29 : decode cX11_next 29 = .ok (.iload_n 1, 1) := by decide +kernel
theorem dX11_next_30 : decode cX11_next 30 = .ok (.invokevirtual 257, 3) := by decide +kernel
theorem dX11_next_33 : decode cX11_next 33 = .ok (.iload_n 3, 1) := by decide +kernel
theorem dX11_next_34 : decode cX11_next 34 = .ok (.ifCond .lt 24, 3) := by decide +kernel
theorem dX11_next_37 : decode cX11_next 37 = .ok (.iload_n 3, 1) := by decide +kernel
theorem dX11_next_38 : decode cX11_next 38 = .ok (.aload_n 0, 1) := by decide +kernel
theorem dX11_next_39 : decode cX11_next 39 = .ok (.getfield 64, 3) := by decide +kernel
theorem dX11_next_42 : decode cX11_next 42 = .ok (.getfield 163, 3) := by decide +kernel
theorem dX11_next_45 : decode cX11_next 45 = .ok (.aload_n 0, 1) := by decide +kernel
theorem dX11_next_46 : decode cX11_next 46 = .ok (.getfield 64, 3) := by decide +kernel
theorem dX11_next_49 : decode cX11_next 49 = .ok (.getfield 217, 3) := by decide +kernel
theorem dX11_next_52 : decode cX11_next 52 = .ok (.iload_n 2, 1) := by decide +kernel
theorem dX11_next_53 : decode cX11_next 53 = .ok (.iaload, 1) := by decide +kernel
theorem dX11_next_54 : decode cX11_next 54 = .ok (.iaload, 1) := by decide +kernel
theorem dX11_next_55 : decode cX11_next 55 = .ok (.if_icmp .le 14, 3) := by decide +kernel
theorem dX11_next_58 : decode cX11_next 58 = .ok (.new 260, 3) := by decide +kernel
theorem dX11_next_61 : decode cX11_next 61 = .ok (.dup, 1) := by decide +kernel
theorem dX11_next_62 : decode cX11_next 62 = .ok (.ldc_w 262, 3) := by decide +kernel
theorem dX11_next_65 : decode cX11_next 65 = .ok (.invokespecial 264, 3) := by decide +kernel
theorem dX11_next_68 : decode cX11_next 68 = .ok (.athrow, 1) := by decide +kernel
theorem dX11_next_69 : decode cX11_next 69 = .ok (.aload_n 0, 1) := by decide +kernel
theorem dX11_next_70 : decode cX11_next 70 = .ok (.getfield 64, 3) := by decide +kernel
theorem dX11_next_73 : decode cX11_next 73 = .ok (.iload_n 1, 1) := by decide +kernel
theorem dX11_next_74 : decode cX11_next 74 = .ok (.iload_n 2, 1) := by decide +kernel
theorem dX11_next_75 : decode cX11_next 75 = .ok (.iload_n 3, 1) := by decide +kernel
theorem dX11_next_76 : decode cX11_next 76 = .ok (.invokevirtual 265, 3) := by decide +kernel
theorem dX11_next_79 : decode cX11_next 79 = .ok (.ireturn, 1) := by decide +kernel
theorem dX11_length_0 : decode cX11_length 0 = .ok (.aload_n 0, 1) := by decide +kernel
theorem dX11_length_1 : decode cX11_length 1 = .ok (.iload_n 1, 1) := by decide +kernel
theorem dX11_length_2 : decode cX11_length 2 = .ok (.invokevirtual 245, 3) := by decide +kernel
theorem dX11_length_5 : decode cX11_length 5 = .ok (.aload_n 0, 1) := by decide +kernel
theorem dX11_length_6 : decode cX11_length 6 = .ok (.iload_n 2, 1) := by decide +kernel
theorem dX11_length_7 : decode cX11_length 7 = .ok (.invokevirtual 257, 3) := by decide +kernel
theorem dX11_length_10 : decode cX11_length 10 = .ok (.aload_n 0, 1) := by decide +kernel
theorem dX11_length_11 : decode cX11_length 11 = .ok (.invokevirtual 123, 3) := by decide +kernel
theorem dX11_length_14 : decode cX11_length 14 = .ok (.ifCond .eq 5, 3) := by decide +kernel
theorem dX11_length_17 : decode cX11_length 17 = .ok (.iconst (-1), 1) := by decide +kernel
theorem dX11_length_18 : decode cX11_length 18 = .ok (.ireturn, 1) := by decide +kernel
theorem dX11_length_19 : decode cX11_length 19 = .ok (.aload_n 0, 1) := by decide +kernel
theorem dX11_length_20 : decode cX11_length 20 = .ok (.getfield 40, 3) := by decide +kernel
theorem dX11_length_23 : decode cX11_length 23 = .ok (.aload_n 0, 1) := by decide +kernel
theorem dX11_length_24 : decode cX11_length 24 = .ok (.getfield 64, 3) := by decide +kernel
theorem dX11_length_27 : decode cX11_length 27 = .ok (.aload_n 0, 1) := by decide +kernel
theorem dX11_length_28 : decode cX11_length 28 = .ok (.getfield 64, 3) := by decide +kernel
theorem dX11_length_31 : decode cX11_length 31 = .ok (.aload_n 0, 1) := by decide +kernel
theorem dX11_length_32 : decode cX11_length 32 = .ok (.getfield 54, 3) := by decide +kernel
theorem dX11_length_35 : decode cX11_length 35 = .ok (.iload_n 1, 1) := by decide +kernel
theorem dX11_length_36 : decode cX11_length 36 = .ok (.iload_n 2, 1) := by decide +kernel
theorem dX11_length_37 : decode cX11_length 37 = .ok (.iconst (-1), 1) := by decide +kernel
theorem dX11_length_38 : decode cX11_length 38 = .ok (.invokevirtual 269, 3) := by decide +kernel
theorem dX11_length_41 : decode cX11_length 41 = .ok (.ireturn, 1) := by decide +kernel
theorem dX11_sign_0 : decode cX11_sign 0 = .ok (.aload_n 0, 1) := by decide +kernel
theorem dX11_sign_1 : decode cX11_sign 1 = .ok (.iload_n 1, 1) := by decide +kernel
theorem dX11_sign_2 : decode cX11_sign 2 = .ok (.invokevirtual 245, 3) := by decide +kernel
theorem dX11_sign_5 : decode cX11_sign 5 = .ok (.aload_n 0, 1) := by decide +kernel
theorem dX11_sign_6 : decode cX11_sign 6 = .ok (.iload_n 2, 1) := by decide +kernel
theorem dX11_sign_7 : decode cX11_sign 7 = .ok (.invokevirtual 257, 3) := by decide +kernel
theorem dX11_sign_10 : decode cX11_sign 10 = .ok (.iload_n 3, 1) := by decide +kernel
theorem dX11_sign_11 : decode cX11_sign 11 = .ok (.ifCond .lt 36, 3) := by decide +kernel
theorem dX11_sign_14 : decode cX11_sign 14 = .ok (.aload_n 0, 1) := by decide +kernel
theorem dX11_sign_15 : decode cX11_sign 15 = .ok (.invokevirtual 123, 3) := by decide +kernel
theorem dX11_sign_18 : decode cX11_sign 18 = .ok (.ifCond .ne 29, 3) := by decide +kernel
theorem dX11_sign_21 : decode cX11_sign 21 = .ok (.iload_n 3, 1) := by decide +kernel
theorem dX11_sign_22 : decode cX11_sign 22 = .ok (.aload_n 0, 1) := by decide +kernel
theorem dX11_sign_23 : decode cX11_sign 23 = .ok (.getfield 40, 3) := by decide +kernel
theorem dX11_sign_26 : decode cX11_sign 26 = .ok (.aload_n 0, 1) := by decide +kernel
theorem dX11_sign_27 : decode cX11_sign 27 = .ok (.getfield 64, 3) := by decide +kernel
theorem dX11_sign_30 : decode cX11_sign 30 = .ok (.aload_n 0, 1) := by decide +kernel
theorem dX11_sign_31 : decode cX11_sign 31 = .ok (.getfield 64, 3) := by decide +kernel
theorem dX11_sign_34 : decode cX11_sign 34 = .ok (.aload_n 0, 1) := by decide +kernel
theorem dX11_sign_35 : decode cX11_sign 35 = .ok (.getfield 54, 3) := by decide +kernel
theorem dX11_sign_38 : decode cX11_sign 38 = .ok (.iload_n 1, 1) := by decide +kernel
theorem dX11_sign_39 : decode cX11_sign 39 = .ok (.iload_n 2, 1) := by decide +kernel
theorem dX11_sign_40 : decode cX11_sign 40 = .ok (.iload_n 3, 1) := by decide +kernel
theorem dX11_sign_41 : decode cX11_sign 41 = .ok (.invokevirtual 269, 3) := by decide +kernel
theorem dX11_sign_44 : decode cX11_sign 44 = .ok (.if_icmp .lt 14, 3) := by decide +kernel
theorem dX11_sign_47 : decode cX11_sign 47 = .ok (.new 202, 3) := by decide +kernel
theorem dX11_sign_50 : decode cX11_sign 50 = .ok (.dup, 1) := by decide +kernel
theorem dX11_sign_51 : decode cX11_sign 51 = .ok (.ldc_w 273, 3) := by decide +kernel
theorem dX11_sign_54 : decode cX11_sign 54 = .ok (.invokespecial 206, 3) := by decide +kernel
theorem dX11_sign_57 : decode cX11_sign 57 = .ok (.athrow, 1) := by decide +kernel
theorem dX11_sign_58 : decode cX11_sign 58 = .ok (.aload_n 0, 1) := by decide +kernel
theorem dX11_sign_59 : decode cX11_sign 59 = .ok (.getfield 40, 3) := by decide +kernel
theorem dX11_sign_62 : decode cX11_sign 62 = .ok (.getfield 275, 3) := by decide +kernel
theorem dX11_sign_65 : decode cX11_sign 65 = .ok (.ireturn, 1) := by decide +kernel
theorem dX11_reads_0 : decode cX11_reads 0 = .ok (.aload_n 0, 1) := by decide +kernel
theorem dX11_reads_1 : decode cX11_reads 1 = .ok (.iload_n 1, 1) := by decide +kernel
theorem dX11_reads_2 : decode cX11_reads 2 = .ok (.invokevirtual 245, 3) := by decide +kernel
theorem dX11_reads_5 : decode cX11_reads 5 = .ok (.aload_n 0, 1) := by decide +kernel
theorem dX11_reads_6 : decode cX11_reads 6 = .ok (.iload_n 2, 1) := by decide +kernel
theorem dX11_reads_7 : decode cX11_reads 7 = .ok (.invokevirtual 257, 3) := by decide +kernel
theorem dX11_reads_10 : decode cX11_reads 10 = .ok (.aload_n 0, 1) := by decide +kernel
theorem dX11_reads_11 : decode cX11_reads 11 = .ok (.invokevirtual 123, 3) := by decide +kernel
theorem dX11_reads_14 : decode cX11_reads 14 = .ok (.ifCond .eq 5, 3) := by decide +kernel
theorem dX11_reads_17 : decode cX11_reads 17 = .ok (.iconst (-1), 1) := by decide +kernel
theorem dX11_reads_18 : decode cX11_reads 18 = .ok (.ireturn, 1) := by decide +kernel
theorem dX11_reads_19 : decode cX11_reads 19 = .ok (.aload_n 0, 1) := by decide +kernel
theorem dX11_reads_20 : decode cX11_reads 20 = .ok (.getfield 40, 3) := by decide +kernel
theorem dX11_reads_23 : decode cX11_reads 23 = .ok (.aload_n 0, 1) := by decide +kernel
theorem dX11_reads_24 : decode cX11_reads 24 = .ok (.getfield 64, 3) := by decide +kernel
theorem dX11_reads_27 : decode cX11_reads 27 = .ok (.aload_n 0, 1) := by decide +kernel
theorem dX11_reads_28 : decode cX11_reads 28 = .ok (.getfield 54, 3) := by decide +kernel
theorem dX11_reads_31 : decode cX11_reads 31 = .ok (.iload_n 1, 1) := by decide +kernel
theorem dX11_reads_32 : decode cX11_reads 32 = .ok (.iload_n 2, 1) := by decide +kernel
theorem dX11_reads_33 : decode cX11_reads 33 = .ok (.invokevirtual 278, 3) := by decide +kernel
theorem dX11_reads_36 : decode cX11_reads 36 = .ok (.ireturn, 1) := by decide +kernel
theorem dX11_seen_0 : decode cX11_seen 0 = .ok (.aload_n 0, 1) := by decide +kernel
theorem dX11_seen_1 : decode cX11_seen 1 = .ok (.iload_n 1, 1) := by decide +kernel
theorem dX11_seen_2 : decode cX11_seen 2 = .ok (.invokevirtual 245, 3) := by decide +kernel
theorem dX11_seen_5 : decode cX11_seen 5 = .ok (.aload_n 0, 1) := by decide +kernel
theorem dX11_seen_6 : decode cX11_seen 6 = .ok (.getfield 68, 3) := by decide +kernel
theorem dX11_seen_9 : decode cX11_seen 9 = .ok (.getfield 120, 3) := by decide +kernel
theorem dX11_seen_12 : decode cX11_seen 12 = .ok (.ifCond .eq 10, 3) := by decide +kernel
theorem dX11_seen_15 : decode cX11_seen 15 = .ok (.aload_n 0, 1) := by decide +kernel
theorem dX11_seen_16 : decode cX11_seen 16 = .ok (.invokevirtual 123, 3) := by decide +kernel
theorem dX11_seen_19 : decode cX11_seen 19 = .ok (.ifCond .eq 5, 3) := by decide +kernel
theorem dX11_seen_22 : decode cX11_seen 22 = .ok (.iconst (-1), 1) := by decide +kernel
theorem dX11_seen_23 : decode cX11_seen 23 = .ok (.ireturn, 1) := by decide +kernel
theorem dX11_seen_24 : decode cX11_seen 24 = .ok (.aload_n 0, 1) := by decide +kernel
theorem dX11_seen_25 : decode cX11_seen 25 = .ok (.getfield 40, 3) := by decide +kernel
theorem dX11_seen_28 : decode cX11_seen 28 = .ok (.aload_n 0, 1) := by decide +kernel
theorem dX11_seen_29 : decode cX11_seen 29 = .ok (.getfield 68, 3) := by decide +kernel
theorem dX11_seen_32 : decode cX11_seen 32 = .ok (.aload_n 0, 1) := by decide +kernel
theorem dX11_seen_33 : decode cX11_seen 33 = .ok (.getfield 64, 3) := by decide +kernel
theorem dX11_seen_36 : decode cX11_seen 36 = .ok (.aload_n 0, 1) := by decide +kernel
theorem dX11_seen_37 : decode cX11_seen 37 = .ok (.getfield 54, 3) := by decide +kernel
theorem dX11_seen_40 : decode cX11_seen 40 = .ok (.iload_n 1, 1) := by decide +kernel
theorem dX11_seen_41 : decode cX11_seen 41 = .ok (.sipush 255, 3) := by decide +kernel
theorem dX11_seen_44 : decode cX11_seen 44 = .ok (.iconst (-1), 1) := by decide +kernel
theorem dX11_seen_45 : decode cX11_seen 45 = .ok (.invokevirtual 269, 3) := by decide +kernel
theorem dX11_seen_48 : decode cX11_seen 48 = .ok (.ireturn, 1) := by decide +kernel
theorem dX11_seenSign_0 : decode cX11_seenSign 0 = .ok (.aload_n 0, 1) := by decide +kernel
theorem dX11_seenSign_1 : decode cX11_seenSign 1 = .ok (.iload_n 1, 1) := by decide +kernel
theorem dX11_seenSign_2 : decode cX11_seenSign 2 = .ok (.invokevirtual 245, 3) := by decide +kernel
theorem dX11_seenSign_5 : decode cX11_seenSign 5 = .ok (.iload_n 2, 1) := by decide +kernel
theorem dX11_seenSign_6 : decode cX11_seenSign 6 = .ok (.ifCond .lt 48, 3) := by decide +kernel
theorem dX11_seenSign_9 : decode cX11_seenSign 9 = .ok (.aload_n 0, 1) := by decide +kernel
theorem dX11_seenSign_10 : decode cX11_seenSign 10 = .ok (.getfield 68, 3) := by decide +kernel
theorem dX11_seenSign_13 : decode cX11_seenSign 13 = .ok (.getfield 120, 3) := by decide +kernel
theorem dX11_seenSign_16 : decode cX11_seenSign 16 = .ok (.ifCond .eq 38, 3) := by decide +kernel
theorem dX11_seenSign_19 : decode cX11_seenSign 19 = .ok (.aload_n 0, 1) := by decide +kernel
theorem dX11_seenSign_20 : decode cX11_seenSign 20 = .ok (.invokevirtual 123, 3) := by decide +kernel
theorem dX11_seenSign_23 : decode cX11_seenSign 23 = .ok (.ifCond .ne 31, 3) := by decide +kernel
theorem dX11_seenSign_26 : decode cX11_seenSign 26 = .ok (.iload_n 2, 1) := by decide +kernel
theorem dX11_seenSign_27 : decode cX11_seenSign 27 = .ok (.aload_n 0, 1) := by decide +kernel
theorem dX11_seenSign_28 : decode cX11_seenSign 28 = .ok (.getfield 40, 3) := by decide +kernel
theorem dX11_seenSign_31 : decode cX11_seenSign 31 = .ok (.aload_n 0, 1) := by decide +kernel
theorem dX11_seenSign_32 : decode cX11_seenSign 32 = .ok (.getfield 68, 3) := by decide +kernel
theorem dX11_seenSign_35 : decode cX11_seenSign 35 = .ok (.aload_n 0, 1) := by decide +kernel
theorem dX11_seenSign_36 : decode cX11_seenSign 36 = .ok (.getfield 64, 3) := by decide +kernel
theorem dX11_seenSign_39 : decode cX11_seenSign 39 = .ok (.aload_n 0, 1) := by decide +kernel
theorem dX11_seenSign_40 : decode cX11_seenSign 40 = .ok (.getfield 54, 3) := by decide +kernel
theorem dX11_seenSign_43 : decode cX11_seenSign 43 = .ok (.iload_n 1, 1) := by decide +kernel
theorem dX11_seenSign_44 : decode cX11_seenSign 44 = .ok (.sipush 255, 3) := by decide +kernel
theorem dX11_seenSign_47 : decode cX11_seenSign 47 = .ok (.iload_n 2, 1) := by decide +kernel
theorem dX11_seenSign_48 : decode cX11_seenSign 48 = .ok (.invokevirtual 269, 3) := by decide +kernel
theorem dX11_seenSign_51 : decode cX11_seenSign 51 = .ok (.if_icmp .lt 14, 3) := by decide +kernel
theorem dX11_seenSign_54 : decode cX11_seenSign 54 = .ok (.new 202, 3) := by decide +kernel
theorem dX11_seenSign_57 : decode cX11_seenSign 57 = .ok (.dup, 1) := by decide +kernel
theorem dX11_seenSign_58 : decode cX11_seenSign 58 = .ok (.ldc_w 273, 3) := by decide +kernel
theorem dX11_seenSign_61 : decode cX11_seenSign 61 = .ok (.invokespecial 206, 3) := by decide +kernel
theorem dX11_seenSign_64 : decode cX11_seenSign 64 = .ok (.athrow, 1) := by decide +kernel
theorem dX11_seenSign_65 : decode cX11_seenSign 65 = .ok (.aload_n 0, 1) := by decide +kernel
theorem dX11_seenSign_66 : decode cX11_seenSign 66 = .ok (.getfield 40, 3) := by decide +kernel
theorem dX11_seenSign_69 : decode cX11_seenSign 69 = .ok (.getfield 275, 3) := by decide +kernel
theorem dX11_seenSign_72 : decode cX11_seenSign 72 = .ok (.ireturn, 1) := by decide +kernel
theorem dX11_fold_0 : decode cX11_fold 0 = .ok (.aload_n 0, 1) := by decide +kernel
theorem dX11_fold_1 : decode cX11_fold 1 = .ok (.iload_n 1, 1) := by decide +kernel
theorem dX11_fold_2 : decode cX11_fold 2 = .ok (.invokevirtual 214, 3) := by decide +kernel
theorem dX11_fold_5 : decode cX11_fold 5 = .ok (.iload_n 2, 1) := by decide +kernel
theorem dX11_fold_6 : decode cX11_fold 6 = .ok (.ifCond .lt 9, 3) := by decide +kernel
theorem dX11_fold_9 : decode cX11_fold 9 = .ok (.iload_n 2, 1) := by decide +kernel
theorem dX11_fold_10 : decode cX11_fold 10 = .ok (.bipush 7, 2) := by decide +kernel
theorem dX11_fold_12 : decode cX11_fold 12 = .ok (.if_icmp .le 14, 3) := by decide +kernel
theorem dX11_fold_15 : decode cX11_fold 15 = .ok (.new 202, 3) := by decide +kernel
theorem dX11_fold_18 : decode cX11_fold 18 = .ok (.dup, 1) := by decide +kernel
theorem dX11_fold_19 : decode cX11_fold 19 = .ok (.ldc_w 282, 3) := by decide +kernel
theorem dX11_fold_22 : decode cX11_fold 22 = .ok (.invokespecial 206, 3) := by decide +kernel
theorem dX11_fold_25 : decode cX11_fold 25 = .ok (.athrow, 1) := by decide +kernel
theorem dX11_fold_26 : decode cX11_fold 26 = .ok (.aload_n 0, 1) := by decide +kernel
theorem dX11_fold_27 : decode cX11_fold 27 = .ok (.getfield 54, 3) := by decide +kernel
theorem dX11_fold_30 : decode cX11_fold 30 = .ok (.getfield 220, 3) := by decide +kernel
theorem dX11_fold_33 : decode cX11_fold 33 = .ok (.iload_n 1, 1) := by decide +kernel
theorem dX11_fold_34 : decode cX11_fold 34 = .ok (.aaload, 1) := by decide +kernel
theorem dX11_fold_35 : decode cX11_fold 35 = .ok (.iload_n 2, 1) := by decide +kernel
theorem dX11_fold_36 : decode cX11_fold 36 = .ok (.invokevirtual 284, 3) := by decide +kernel
theorem dX11_fold_39 : decode cX11_fold 39 = .ok (.ireturn, 1) := by decide +kernel
theorem dX11_picked_0 : decode cX11_picked 0 = .ok (.aload_n 0, 1) := by decide +kernel
theorem dX11_picked_1 : decode cX11_picked 1 = .ok (.iload_n 1, 1) := by decide +kernel
theorem dX11_picked_2 : decode cX11_picked 2 = .ok (.invokevirtual 214, 3) := by decide +kernel
theorem dX11_picked_5 : decode cX11_picked 5 = .ok (.iload_n 2, 1) := by decide +kernel
theorem dX11_picked_6 : decode cX11_picked 6 = .ok (.ifCond .lt 8, 3) := by decide +kernel
theorem dX11_picked_9 : decode cX11_picked 9 = .ok (.iload_n 2, 1) := by decide +kernel
theorem dX11_picked_10 : decode cX11_picked 10 = .ok (.iconst 3, 1) := by decide +kernel
theorem dX11_picked_11 : decode cX11_picked 11 = .ok (.if_icmp .le 14, 3) := by decide +kernel
theorem dX11_picked_14 : decode cX11_picked 14 = .ok (.new 202, 3) := by decide +kernel
theorem dX11_picked_17 : decode cX11_picked 17 = .ok (.dup, 1) := by decide +kernel
theorem dX11_picked_18 : decode cX11_picked 18 = .ok (.ldc_w 287, 3) := by decide +kernel
theorem dX11_picked_21 : decode cX11_picked 21 = .ok (.invokespecial 206, 3) := by decide +kernel
theorem dX11_picked_24 : decode cX11_picked 24 = .ok (.athrow, 1) := by decide +kernel
theorem dX11_picked_25 : decode cX11_picked 25 = .ok (.aload_n 0, 1) := by decide +kernel
theorem dX11_picked_26 : decode cX11_picked 26 = .ok (.getfield 54, 3) := by decide +kernel
theorem dX11_picked_29 : decode cX11_picked 29 = .ok (.getfield 220, 3) := by decide +kernel
theorem dX11_picked_32 : decode cX11_picked 32 = .ok (.iload_n 1, 1) := by decide +kernel
theorem dX11_picked_33 : decode cX11_picked 33 = .ok (.aaload, 1) := by decide +kernel
theorem dX11_picked_34 : decode cX11_picked 34 = .ok (.astore 4, 2) := by decide +kernel
theorem dX11_picked_36 : decode cX11_picked 36 = .ok (.iconst 0, 1) := by decide +kernel
theorem dX11_picked_37 : decode cX11_picked 37 = .ok (.istore 5, 2) := by decide +kernel
theorem dX11_picked_39 : decode cX11_picked 39 = .ok (.iconst 0, 1) := by decide +kernel
theorem dX11_picked_40 : decode cX11_picked 40 = .ok (.istore 6, 2) := by decide +kernel
theorem dX11_picked_42 : decode cX11_picked 42 = .ok (.iload 6, 2) := by decide +kernel
theorem dX11_picked_44 : decode cX11_picked 44 = .ok (.aload_n 0, 1) := by decide +kernel
theorem dX11_picked_45 : decode cX11_picked 45 = .ok (.getfield 54, 3) := by decide +kernel
theorem dX11_picked_48 : decode cX11_picked 48 = .ok (.getfield 151, 3) := by decide +kernel
theorem dX11_picked_51 : decode cX11_picked 51 = .ok (.if_icmp .ge 53, 3) := by decide +kernel
theorem dX11_picked_54 : decode cX11_picked 54 = .ok (.aload 4, 2) := by decide +kernel
theorem dX11_picked_56 : decode cX11_picked 56 = .ok (.iload 6, 2) := by decide +kernel
theorem dX11_picked_58 : decode cX11_picked 58 = .ok (.invokevirtual 248, 3) := by decide +kernel
theorem dX11_picked_61 : decode cX11_picked 61 = .ok (.istore 7, 2) := by decide +kernel
theorem dX11_picked_63 : decode cX11_picked 63 = .ok (.iload 7, 2) := by decide +kernel
theorem dX11_picked_65 : decode cX11_picked 65 = .ok (.iconst (-1), 1) := by decide +kernel
theorem dX11_picked_66 : decode cX11_picked 66 = .ok (.if_icmp .eq 32, 3) := by decide +kernel
theorem dX11_picked_69 : decode cX11_picked 69 = .ok (.aload 4, 2) := by decide +kernel
theorem dX11_picked_71 : decode cX11_picked 71 = .ok (.iload 7, 2) := by decide +kernel
theorem dX11_picked_73 : decode cX11_picked 73 = .ok (.aload 4, 2) := by decide +kernel
theorem dX11_picked_75 : decode cX11_picked 75 = .ok (.iload 7, 2) := by decide +kernel
theorem dX11_picked_77 : decode cX11_picked 77 = .ok (.iconst 0, 1) := by decide +kernel
theorem dX11_picked_78 : decode cX11_picked 78 = .ok (.invokevirtual 251, 3) := by decide +kernel
theorem dX11_picked_81 : decode cX11_picked 81 = .ok (.iload_n 2, 1) := by decide +kernel
theorem dX11_picked_82 : decode cX11_picked 82 = .ok (.iload_n 3, 1) := by decide +kernel
theorem dX11_picked_83 : decode cX11_picked 83 = .ok (.invokevirtual 289, 3) := by decide +kernel
theorem dX11_picked_86 : decode cX11_picked 86 = .ok (.ifCond .eq 12, 3) := by decide +kernel
theorem dX11_picked_89 : decode cX11_picked 89 = .ok (.iload 5, 2) := by decide +kernel
theorem dX11_picked_91 : decode cX11_picked 91 = .ok (.iconst 1, 1) := by decide +kernel
theorem dX11_picked_92 : decode cX11_picked 92 = .ok (.iload 6, 2) := by decide +kernel
theorem dX11_picked_94 : decode cX11_picked 94 = .ok (.ishl, 1) := by decide +kernel
theorem dX11_picked_95 : decode cX11_picked 95 = .ok (.ior, 1) := by decide +kernel
theorem dX11_picked_96 : decode cX11_picked 96 = .ok (.istore 5, 2) := by decide +kernel
theorem dX11_picked_98 : decode cX11_picked 98 = .ok (.iinc 6 1, 3) := by decide +kernel
theorem dX11_picked_101 : decode cX11_picked 101 = .ok (.goto (-59), 3) := by decide +kernel
theorem dX11_picked_104 : decode cX11_picked 104 = .ok (.iload 5, 2) := by decide +kernel
theorem dX11_picked_106 : decode cX11_picked 106 = .ok (.ireturn, 1) := by decide +kernel
theorem dX11_pages_0 : decode cX11_pages 0 = .ok (.aload_n 0, 1) := by decide +kernel
theorem dX11_pages_1 : decode cX11_pages 1 = .ok (.iload_n 1, 1) := by decide +kernel
theorem dX11_pages_2 : decode cX11_pages 2 = .ok (.invokevirtual 214, 3) := by decide +kernel
theorem dX11_pages_5 : decode cX11_pages 5 = .ok (.iload_n 2, 1) := by decide +kernel
theorem dX11_pages_6 : decode cX11_pages 6 = .ok (.iconst 1, 1) := by decide +kernel
theorem dX11_pages_7 : decode cX11_pages 7 = .ok (.if_icmp .lt 9, 3) := by decide +kernel
theorem dX11_pages_10 : decode cX11_pages 10 = .ok (.iload_n 2, 1) := by decide +kernel
theorem dX11_pages_11 : decode cX11_pages 11 = .ok (.bipush 120, 2) := by decide +kernel
theorem dX11_pages_13 : decode cX11_pages 13 = .ok (.if_icmp .le 14, 3) := by decide +kernel
theorem dX11_pages_16 : decode cX11_pages 16 = .ok (.new 260, 3) := by decide +kernel
theorem dX11_pages_19 : decode cX11_pages 19 = .ok (.dup, 1) := by decide +kernel
theorem dX11_pages_20 : decode cX11_pages 20 = .ok (.ldc_w 293, 3) := by decide +kernel
theorem dX11_pages_23 : decode cX11_pages 23 = .ok (.invokespecial 264, 3) := by decide +kernel
theorem dX11_pages_26 : decode cX11_pages 26 = .ok (.athrow, 1) := by decide +kernel
theorem dX11_pages_27 : decode cX11_pages 27 = .ok (.aload_n 0, 1) := by decide +kernel
theorem dX11_pages_28 : decode cX11_pages 28 = .ok (.getfield 54, 3) := by decide +kernel
theorem dX11_pages_31 : decode cX11_pages 31 = .ok (.getfield 220, 3) := by decide +kernel
theorem dX11_pages_34 : decode cX11_pages 34 = .ok (.iload_n 1, 1) := by decide +kernel
theorem dX11_pages_35 : decode cX11_pages 35 = .ok (.aaload, 1) := by decide +kernel
theorem dX11_pages_36 : decode cX11_pages 36 = .ok (.iload_n 2, 1) := by decide +kernel
theorem dX11_pages_37 : decode cX11_pages 37 = .ok (.invokevirtual 295, 3) := by decide +kernel
theorem dX11_pages_40 : decode cX11_pages 40 = .ok (.ireturn, 1) := by decide +kernel
theorem dX11_piped_0 : decode cX11_piped 0 = .ok (.aload_n 0, 1) := by decide +kernel
theorem dX11_piped_1 : decode cX11_piped 1 = .ok (.iload_n 1, 1) := by decide +kernel
theorem dX11_piped_2 : decode cX11_piped 2 = .ok (.invokevirtual 214, 3) := by decide +kernel
theorem dX11_piped_5 : decode cX11_piped 5 = .ok (.aload_n 0, 1) := by decide +kernel
theorem dX11_piped_6 : decode cX11_piped 6 = .ok (.getfield 77, 3) := by decide +kernel
theorem dX11_piped_9 : decode cX11_piped 9 = .ok (.aload_n 0, 1) := by decide +kernel
theorem dX11_piped_10 : decode cX11_piped 10 = .ok (.getfield 54, 3) := by decide +kernel
theorem dX11_piped_13 : decode cX11_piped 13 = .ok (.getfield 220, 3) := by decide +kernel
theorem dX11_piped_16 : decode cX11_piped 16 = .ok (.iload_n 1, 1) := by decide +kernel
theorem dX11_piped_17 : decode cX11_piped 17 = .ok (.aaload, 1) := by decide +kernel
theorem dX11_piped_18 : decode cX11_piped 18 = .ok (.invokevirtual 298, 3) := by decide +kernel
theorem dX11_piped_21 : decode cX11_piped 21 = .ok (.istore_n 3, 1) := by decide +kernel
theorem dX11_piped_22 : decode cX11_piped 22 = .ok (.iload_n 2, 1) := by decide +kernel
theorem dX11_piped_23 : decode cX11_piped 23 = .ok (.iconst (-1), 1) := by decide +kernel
theorem dX11_piped_24 : decode cX11_piped 24 = .ok (.if_icmp .ne 5, 3) := by decide +kernel
theorem dX11_piped_27 : decode cX11_piped 27 = .ok (.iload_n 3, 1) := by decide +kernel
theorem dX11_piped_28 : decode cX11_piped 28 = .ok (.ireturn, 1) := by decide +kernel
theorem dX11_piped_29 : decode cX11_piped 29 = .ok (.iload_n 2, 1) := by decide +kernel
theorem dX11_piped_30 : decode cX11_piped 30 = .ok (.ifCond .lt 8, 3) := by decide +kernel
theorem dX11_piped_33 : decode cX11_piped 33 = .ok (.iload_n 2, 1) := by decide +kernel
theorem dX11_piped_34 : decode cX11_piped 34 = .ok (.iload_n 3, 1) := by decide +kernel
theorem dX11_piped_35 : decode cX11_piped 35 = .ok (.if_icmp .lt 14, 3) := by decide +kernel
theorem dX11_piped_38 : decode cX11_piped 38 = .ok (.new 202, 3) := by decide +kernel
theorem dX11_piped_41 : decode cX11_piped 41 = .ok (.dup, 1) := by decide +kernel
theorem dX11_piped_42 : decode cX11_piped 42 = .ok (.ldc_w 302, 3) := by decide +kernel
theorem dX11_piped_45 : decode cX11_piped 45 = .ok (.invokespecial 206, 3) := by decide +kernel
theorem dX11_piped_48 : decode cX11_piped 48 = .ok (.athrow, 1) := by decide +kernel
theorem dX11_piped_49 : decode cX11_piped 49 = .ok (.aload_n 0, 1) := by decide +kernel
theorem dX11_piped_50 : decode cX11_piped 50 = .ok (.getfield 77, 3) := by decide +kernel
theorem dX11_piped_53 : decode cX11_piped 53 = .ok (.getfield 304, 3) := by decide +kernel
theorem dX11_piped_56 : decode cX11_piped 56 = .ok (.iload_n 2, 1) := by decide +kernel
theorem dX11_piped_57 : decode cX11_piped 57 = .ok (.iaload, 1) := by decide +kernel
theorem dX11_piped_58 : decode cX11_piped 58 = .ok (.ireturn, 1) := by decide +kernel
theorem dX11_drop_0 : decode cX11_drop 0 = .ok (.aload_n 0, 1) := by decide +kernel
theorem dX11_drop_1 : decode cX11_drop 1 = .ok (.getfield 54, 3) := by decide +kernel
theorem dX11_drop_4 : decode cX11_drop 4 = .ok (.getfield 151, 3) := by decide +kernel
theorem dX11_drop_7 : decode cX11_drop 7 = .ok (.ifCond .eq 10, 3) := by decide +kernel
theorem dX11_drop_10 : decode cX11_drop 10 = .ok (.aload_n 0, 1) := by decide +kernel
theorem dX11_drop_11 : decode cX11_drop 11 = .ok (.invokevirtual 123, 3) := by decide +kernel
theorem dX11_drop_14 : decode cX11_drop 14 = .ok (.ifCond .eq 8, 3) := by decide +kernel
theorem dX11_drop_17 : decode cX11_drop 17 = .ok (.aload_n 0, 1) := by decide +kernel
theorem dX11_drop_18 : decode cX11_drop 18 = .ok (.invokevirtual 127, 3) := by decide +kernel
theorem dX11_drop_21 : decode cX11_drop 21 = .ok (.ireturn, 1) := by decide +kernel
theorem dX11_drop_22 : decode cX11_drop 22 = .ok (.aload_n 0, 1) := by decide +kernel
theorem dX11_drop_23 : decode cX11_drop 23 = .ok (.getfield 54, 3) := by decide +kernel
theorem dX11_drop_26 : decode cX11_drop 26 = .ok (.new 307, 3) := by decide +kernel
theorem dX11_drop_29 : decode cX11_drop 29 = .ok (.dup, 1) := by decide +kernel
theorem dX11_drop_30 : decode cX11_drop 30 = .ok (.iconst 1, 1) := by decide +kernel
theorem dX11_drop_31 : decode cX11_drop 31 = .ok (.iconst 0, 1) := by decide +kernel
theorem dX11_drop_32 : decode cX11_drop 32 = .ok (.iconst 0, 1) := by decide +kernel
theorem dX11_drop_33 : decode cX11_drop 33 = .ok (.iconst 0, 1) := by decide +kernel
theorem dX11_drop_34 : decode cX11_drop 34 = .ok (.aload_n 0, 1) := by decide +kernel
theorem dX11_drop_35 : decode cX11_drop 35 = .ok (.getfield 54, 3) := by decide +kernel
theorem dX11_drop_38 : decode cX11_drop 38 = .ok (.aload_n 0, 1) := by decide +kernel
theorem dX11_drop_39 : decode cX11_drop 39 = .ok (.getfield 64, 3) := by decide +kernel
theorem dX11_drop_42 : decode cX11_drop 42 = .ok (.getfield 141, 3) := by decide +kernel
theorem dX11_drop_45 : decode cX11_drop 45 = .ok (.invokevirtual 309, 3) := by decide +kernel
theorem dX11_drop_48 : decode cX11_drop 48 = .ok (.invokespecial 313, 3) := by decide +kernel
theorem dX11_drop_51 : decode cX11_drop 51 = .ok (.invokevirtual 316, 3) := by decide +kernel
theorem dX11_drop_54 : decode cX11_drop 54 = .ok (.aload_n 0, 1) := by decide +kernel
theorem dX11_drop_55 : decode cX11_drop 55 = .ok (.getfield 54, 3) := by decide +kernel
theorem dX11_drop_58 : decode cX11_drop 58 = .ok (.aload_n 0, 1) := by decide +kernel
theorem dX11_drop_59 : decode cX11_drop 59 = .ok (.getfield 64, 3) := by decide +kernel
theorem dX11_drop_62 : decode cX11_drop 62 = .ok (.getfield 141, 3) := by decide +kernel
theorem dX11_drop_65 : decode cX11_drop 65 = .ok (.invokevirtual 320, 3) := by decide +kernel
theorem dX11_drop_68 : decode cX11_drop 68 = .ok (.aload_n 0, 1) := by decide +kernel
theorem dX11_drop_69 : decode cX11_drop 69 = .ok (.getfield 54, 3) := by decide +kernel
theorem dX11_drop_72 : decode cX11_drop 72 = .ok (.getfield 151, 3) := by decide +kernel
theorem dX11_drop_75 : decode cX11_drop 75 = .ok (.ireturn, 1) := by decide +kernel
theorem dX11_set_0 : decode cX11_set 0 = .ok (.aload_n 0, 1) := by decide +kernel
theorem dX11_set_1 : decode cX11_set 1 = .ok (.iload_n 1, 1) := by decide +kernel
theorem dX11_set_2 : decode cX11_set 2 = .ok (.iload_n 2, 1) := by decide +kernel
theorem dX11_set_3 : decode cX11_set 3 = .ok (.invokevirtual 235, 3) := by decide +kernel
theorem dX11_set_6 : decode cX11_set 6 = .ok (.aload_n 0, 1) := by decide +kernel
theorem dX11_set_7 : decode cX11_set 7 = .ok (.getfield 54, 3) := by decide +kernel
theorem dX11_set_10 : decode cX11_set 10 = .ok (.getfield 220, 3) := by decide +kernel
theorem dX11_set_13 : decode cX11_set 13 = .ok (.iload_n 1, 1) := by decide +kernel
theorem dX11_set_14 : decode cX11_set 14 = .ok (.aaload, 1) := by decide +kernel
theorem dX11_set_15 : decode cX11_set 15 = .ok (.astore 4, 2) := by decide +kernel
theorem dX11_set_17 : decode cX11_set 17 = .ok (.aload 4, 2) := by decide +kernel
theorem dX11_set_19 : decode cX11_set 19 = .ok (.getfield 242, 3) := by decide +kernel
theorem dX11_set_22 : decode cX11_set 22 = .ok (.iload_n 2, 1) := by decide +kernel
theorem dX11_set_23 : decode cX11_set 23 = .ok (.iaload, 1) := by decide +kernel
theorem dX11_set_24 : decode cX11_set 24 = .ok (.istore 5, 2) := by decide +kernel
theorem dX11_set_26 : decode cX11_set 26 = .ok (.aload 4, 2) := by decide +kernel
theorem dX11_set_28 : decode cX11_set 28 = .ok (.iload_n 2, 1) := by decide +kernel
theorem dX11_set_29 : decode cX11_set 29 = .ok (.invokevirtual 239, 3) := by decide +kernel
theorem dX11_set_32 : decode cX11_set 32 = .ok (.ifCond .eq 20, 3) := by decide +kernel
theorem dX11_set_35 : decode cX11_set 35 = .ok (.iload_n 3, 1) := by decide +kernel
theorem dX11_set_36 : decode cX11_set 36 = .ok (.ifCond .lt 16, 3) := by decide +kernel
theorem dX11_set_39 : decode cX11_set 39 = .ok (.iload_n 3, 1) := by decide +kernel
theorem dX11_set_40 : decode cX11_set 40 = .ok (.sipush 999, 3) := by decide +kernel
theorem dX11_set_43 : decode cX11_set 43 = .ok (.if_icmp .gt 9, 3) := by decide +kernel
theorem dX11_set_46 : decode cX11_set 46 = .ok (.iload_n 3, 1) := by decide +kernel
theorem dX11_set_47 : decode cX11_set 47 = .ok (.iload 5, 2) := by decide +kernel
theorem dX11_set_49 : decode cX11_set 49 = .ok (.if_icmp .ne 8, 3) := by decide +kernel
theorem dX11_set_52 : decode cX11_set 52 = .ok (.aload_n 0, 1) := by decide +kernel
theorem dX11_set_53 : decode cX11_set 53 = .ok (.invokevirtual 127, 3) := by decide +kernel
theorem dX11_set_56 : decode cX11_set 56 = .ok (.ireturn, 1) := by decide +kernel
theorem dX11_set_57 : decode cX11_set 57 = .ok (.aload_n 0, 1) := by decide +kernel
theorem dX11_set_58 : decode cX11_set 58 = .ok (.getfield 54, 3) := by decide +kernel
theorem dX11_set_61 : decode cX11_set 61 = .ok (.new 307, 3) := by decide +kernel
theorem dX11_set_64 : decode cX11_set 64 = .ok (.dup, 1) := by decide +kernel
theorem dX11_set_65 : decode cX11_set 65 = .ok (.iconst 2, 1) := by decide +kernel
theorem dX11_set_66 : decode cX11_set 66 = .ok (.iload_n 1, 1) := by decide +kernel
theorem dX11_set_67 : decode cX11_set 67 = .ok (.iload_n 2, 1) := by decide +kernel
theorem dX11_set_68 : decode cX11_set 68 = .ok (.iload 5, 2) := by decide +kernel
theorem dX11_set_70 : decode cX11_set 70 = .ok (.aconst_null, 1) := by decide +kernel
theorem dX11_set_71 : decode cX11_set 71 = .ok (.invokespecial 313, 3) := by decide +kernel
theorem dX11_set_74 : decode cX11_set 74 = .ok (.invokevirtual 316, 3) := by decide +kernel
theorem dX11_set_77 : decode cX11_set 77 = .ok (.aload 4, 2) := by decide +kernel
theorem dX11_set_79 : decode cX11_set 79 = .ok (.getfield 242, 3) := by decide +kernel
theorem dX11_set_82 : decode cX11_set 82 = .ok (.iload_n 2, 1) := by decide +kernel
theorem dX11_set_83 : decode cX11_set 83 = .ok (.iload_n 3, 1) := by decide +kernel
theorem dX11_set_84 : decode cX11_set 84 = .ok (.iastore, 1) := by decide +kernel
theorem dX11_set_85 : decode cX11_set 85 = .ok (.iload 5, 2) := by decide +kernel
theorem dX11_set_87 : decode cX11_set 87 = .ok (.ireturn, 1) := by decide +kernel
theorem dX11_damage_0 : decode cX11_damage 0 = .ok (.aload_n 0, 1) := by decide +kernel
theorem dX11_damage_1 : decode cX11_damage 1 = .ok (.iload_n 1, 1) := by decide +kernel
theorem dX11_damage_2 : decode cX11_damage 2 = .ok (.iload_n 2, 1) := by decide +kernel
theorem dX11_damage_3 : decode cX11_damage 3 = .ok (.invokevirtual 235, 3) := by decide +kernel
theorem dX11_damage_6 : decode cX11_damage 6 = .ok (.iload_n 3, 1) := by decide +kernel
theorem dX11_damage_7 : decode cX11_damage 7 = .ok (.ifCond .eq 18, 3) := by decide +kernel
theorem dX11_damage_10 : decode cX11_damage 10 = .ok (.iload_n 3, 1) := by decide +kernel
theorem dX11_damage_11 : decode cX11_damage 11 = .ok (.iconst 1, 1) := by decide +kernel
theorem dX11_damage_12 : decode cX11_damage 12 = .ok (.if_icmp .eq 13, 3) := by decide +kernel
theorem dX11_damage_15 : decode cX11_damage 15 = .ok (.new 202, 3) := by decide +kernel
theorem dX11_damage_18 : decode cX11_damage 18 = .ok (.dup, 1) := by decide +kernel
theorem dX11_damage_19 : decode cX11_damage 19 = .ok (.ldc 204, 2) := by decide +kernel
theorem dX11_damage_21 : decode cX11_damage 21 = .ok (.invokespecial 206, 3) := by decide +kernel
theorem dX11_damage_24 : decode cX11_damage 24 = .ok (.athrow, 1) := by decide +kernel
theorem dX11_damage_25 : decode cX11_damage 25 = .ok (.aload_n 0, 1) := by decide +kernel
theorem dX11_damage_26 : decode cX11_damage 26 = .ok (.getfield 54, 3) := by decide +kernel
theorem dX11_damage_29 : decode cX11_damage 29 = .ok (.getfield 220, 3) := by decide +kernel
theorem dX11_damage_32 : decode cX11_damage 32 = .ok (.iload_n 1, 1) := by decide +kernel
theorem dX11_damage_33 : decode cX11_damage 33 = .ok (.aaload, 1) := by decide +kernel
theorem dX11_damage_34 : decode cX11_damage 34 = .ok (.astore 5, 2) := by decide +kernel
theorem dX11_damage_36 : decode cX11_damage 36 = .ok (.iload_n 3, 1) := by decide +kernel
theorem dX11_damage_37 : decode cX11_damage 37 = .ok (.ifCond .ne 11, 3) := by decide +kernel
theorem dX11_damage_40 : decode cX11_damage 40 = .ok (.aload 5, 2) := by decide +kernel
theorem dX11_damage_42 : decode cX11_damage 42 = .ok (.getfield 227, 3) := by decide +kernel
theorem dX11_damage_45 : decode cX11_damage 45 = .ok (.goto 8, 3) := by decide +kernel
theorem dX11_damage_48 : decode cX11_damage 48 = .ok (.aload 5, 2) := by decide +kernel
theorem dX11_damage_50 : decode cX11_damage 50 = .ok (.getfield 231, 3) := by decide +kernel
theorem dX11_damage_53 : decode cX11_damage 53 = .ok (.astore 6, 2) := by decide +kernel
theorem dX11_damage_55 : decode cX11_damage 55 = .ok (.aload 6, 2) := by decide +kernel
theorem dX11_damage_57 : decode cX11_damage 57 = .ok (.iload_n 2, 1) := by decide +kernel
theorem dX11_damage_58 : decode cX11_damage 58 = .ok (.iaload, 1) := by decide +kernel
theorem dX11_damage_59 : decode cX11_damage 59 = .ok (.istore 7, 2) := by decide +kernel
theorem dX11_damage_61 : decode cX11_damage 61 = .ok (.iload 4, 2) := by decide +kernel
theorem dX11_damage_63 : decode cX11_damage 63 = .ok (.ifCond .lt 17, 3) := by decide +kernel
theorem dX11_damage_66 : decode cX11_damage 66 = .ok (.iload 4, 2) := by decide +kernel
theorem dX11_damage_68 : decode cX11_damage 68 = .ok (.bipush 9, 2) := by decide +kernel
theorem dX11_damage_70 : decode cX11_damage 70 = .ok (.if_icmp .gt 10, 3) := by decide +kernel
theorem dX11_damage_73 : decode cX11_damage 73 = .ok (.iload 4, 2) := by decide +kernel
theorem dX11_damage_75 : decode cX11_damage 75 = .ok (.iload 7, 2) := by decide +kernel
theorem dX11_damage_77 : decode cX11_damage 77 = .ok (.if_icmp .ne 8, 3) := by decide +kernel
theorem dX11_damage_80 : decode cX11_damage 80 = .ok (.aload_n 0, 1) := by decide +kernel
theorem dX11_damage_81 : decode cX11_damage 81 = .ok (.invokevirtual 127, 3) := by decide +kernel
theorem dX11_damage_84 : decode cX11_damage 84 = .ok (.ireturn, 1) := by decide +kernel
theorem dX11_damage_85 : decode cX11_damage 85 = .ok (.aload_n 0, 1) := by decide +kernel
theorem dX11_damage_86 : decode cX11_damage 86 = .ok (.getfield 54, 3) := by decide +kernel
theorem dX11_damage_89 : decode cX11_damage 89 = .ok (.new 307, 3) := by decide +kernel
theorem dX11_damage_92 : decode cX11_damage 92 = .ok (.dup, 1) := by decide +kernel
theorem dX11_damage_93 : decode cX11_damage 93 = .ok (.iload_n 3, 1) := by decide +kernel
theorem dX11_damage_94 : decode cX11_damage 94 = .ok (.ifCond .ne 7, 3) := by decide +kernel
theorem dX11_damage_97 : decode cX11_damage 97 = .ok (.iconst 3, 1) := by decide +kernel
theorem dX11_damage_98 : decode cX11_damage 98 = .ok (.goto 4, 3) := by decide +kernel
theorem dX11_damage_101 : decode cX11_damage 101 = .ok (.iconst 4, 1) := by decide +kernel
theorem dX11_damage_102 : decode cX11_damage 102 = .ok (.iload_n 1, 1) := by decide +kernel
theorem dX11_damage_103 : decode cX11_damage 103 = .ok (.iload_n 2, 1) := by decide +kernel
theorem dX11_damage_104 : decode cX11_damage 104 = .ok (.iload 7, 2) := by decide +kernel
theorem dX11_damage_106 : decode cX11_damage 106 = .ok (.aconst_null, 1) := by decide +kernel
theorem dX11_damage_107 : decode cX11_damage 107 = .ok (.invokespecial 313, 3) := by decide +kernel
theorem dX11_damage_110 : decode cX11_damage 110 = .ok (.invokevirtual 316, 3) := by decide +kernel
theorem dX11_damage_113 : decode cX11_damage 113 = .ok (.aload 6, 2) := by decide +kernel
theorem dX11_damage_115 : decode cX11_damage 115 = .ok (.iload_n 2, 1) := by decide +kernel
theorem dX11_damage_116 : decode cX11_damage 116 = .ok (.iload 4, 2) := by decide +kernel
theorem dX11_damage_118 : decode cX11_damage 118 = .ok (.iastore, 1) := by decide +kernel
theorem dX11_damage_119 : decode cX11_damage 119 = .ok (.iload 7, 2) := by decide +kernel
theorem dX11_damage_121 : decode cX11_damage 121 = .ok (.ireturn, 1) := by decide +kernel
theorem dX11_needLeaf_0 : decode cX11_needLeaf 0 = .ok (.iload_n 1, 1) := by decide +kernel
theorem dX11_needLeaf_1 : decode cX11_needLeaf 1 = .ok (.ifCond .lt 14, 3) := by decide +kernel
theorem dX11_needLeaf_4 : decode cX11_needLeaf 4 = .ok (.iload_n 1, 1) := by decide +kernel
theorem dX11_needLeaf_5 : decode cX11_needLeaf 5 = .ok (.aload_n 0, 1) := by decide +kernel
theorem dX11_needLeaf_6 : decode cX11_needLeaf 6 = .ok (.getfield 64, 3) := by decide +kernel
theorem dX11_needLeaf_9 : decode cX11_needLeaf 9 = .ok (.getfield 141, 3) := by decide +kernel
theorem dX11_needLeaf_12 : decode cX11_needLeaf 12 = .ok (.if_icmp .lt 14, 3) := by decide +kernel
theorem dX11_needLeaf_15 : decode cX11_needLeaf 15 = .ok (.new 202, 3) := by decide +kernel
theorem dX11_needLeaf_18 : decode cX11_needLeaf 18 = .ok (.dup, 1) := by decide +kernel
theorem dX11_needLeaf_19 : decode cX11_needLeaf 19 = .ok (.ldc_w 346, 3) := by decide +kernel
theorem dX11_needLeaf_22 : decode cX11_needLeaf 22 = .ok (.invokespecial 206, 3) := by decide +kernel
theorem dX11_needLeaf_25 : decode cX11_needLeaf 25 = .ok (.athrow, 1) := by decide +kernel
theorem dX11_needLeaf_26 : decode cX11_needLeaf 26 = .ok (.return_, 1) := by decide +kernel
theorem dX11_needEntry_0 : decode cX11_needEntry 0 = .ok (.aload_n 0, 1) := by decide +kernel
theorem dX11_needEntry_1 : decode cX11_needEntry 1 = .ok (.iload_n 1, 1) := by decide +kernel
theorem dX11_needEntry_2 : decode cX11_needEntry 2 = .ok (.invokevirtual 214, 3) := by decide +kernel
theorem dX11_needEntry_5 : decode cX11_needEntry 5 = .ok (.iload_n 2, 1) := by decide +kernel
theorem dX11_needEntry_6 : decode cX11_needEntry 6 = .ok (.ifCond .lt 19, 3) := by decide +kernel
theorem dX11_needEntry_9 : decode cX11_needEntry 9 = .ok (.iload_n 2, 1) := by decide +kernel
theorem dX11_needEntry_10 : decode cX11_needEntry 10 = .ok (.aload_n 0, 1) := by decide +kernel
theorem dX11_needEntry_11 : decode cX11_needEntry 11 = .ok (.getfield 54, 3) := by decide +kernel
theorem dX11_needEntry_14 : decode cX11_needEntry 14 = .ok (.getfield 220, 3) := by decide +kernel
theorem dX11_needEntry_17 : decode cX11_needEntry 17 = .ok (.iload_n 1, 1) := by decide +kernel
theorem dX11_needEntry_18 : decode cX11_needEntry 18 = .ok (.aaload, 1) := by decide +kernel
theorem dX11_needEntry_19 : decode cX11_needEntry 19 = .ok (.getfield 224, 3) := by decide +kernel
theorem dX11_needEntry_22 : decode cX11_needEntry 22 = .ok (.if_icmp .lt 14, 3) := by decide +kernel
theorem dX11_needEntry_25 : decode cX11_needEntry 25 = .ok (.new 202, 3) := by decide +kernel
theorem dX11_needEntry_28 : decode cX11_needEntry 28 = .ok (.dup, 1) := by decide +kernel
theorem dX11_needEntry_29 : decode cX11_needEntry 29 = .ok (.ldc_w 348, 3) := by decide +kernel
theorem dX11_needEntry_32 : decode cX11_needEntry 32 = .ok (.invokespecial 206, 3) := by decide +kernel
theorem dX11_needEntry_35 : decode cX11_needEntry 35 = .ok (.athrow, 1) := by decide +kernel
theorem dX11_needEntry_36 : decode cX11_needEntry 36 = .ok (.return_, 1) := by decide +kernel
theorem dX11_needRecord_0 : decode cX11_needRecord 0 = .ok (.iload_n 1, 1) := by decide +kernel
theorem dX11_needRecord_1 : decode cX11_needRecord 1 = .ok (.ifCond .lt 14, 3) := by decide +kernel
theorem dX11_needRecord_4 : decode cX11_needRecord 4 = .ok (.iload_n 1, 1) := by decide +kernel
theorem dX11_needRecord_5 : decode cX11_needRecord 5 = .ok (.aload_n 0, 1) := by decide +kernel
theorem dX11_needRecord_6 : decode cX11_needRecord 6 = .ok (.getfield 54, 3) := by decide +kernel
theorem dX11_needRecord_9 : decode cX11_needRecord 9 = .ok (.getfield 151, 3) := by decide +kernel
theorem dX11_needRecord_12 : decode cX11_needRecord 12 = .ok (.if_icmp .lt 14, 3) := by decide +kernel
theorem dX11_needRecord_15 : decode cX11_needRecord 15 = .ok (.new 202, 3) := by decide +kernel
theorem dX11_needRecord_18 : decode cX11_needRecord 18 = .ok (.dup, 1) := by decide +kernel
theorem dX11_needRecord_19 : decode cX11_needRecord 19 = .ok (.ldc_w 350, 3) := by decide +kernel
theorem dX11_needRecord_22 : decode cX11_needRecord 22 = .ok (.invokespecial 206, 3) := by decide +kernel
theorem dX11_needRecord_25 : decode cX11_needRecord 25 = .ok (.athrow, 1) := by decide +kernel
theorem dX11_needRecord_26 : decode cX11_needRecord 26 = .ok (.return_, 1) := by decide +kernel
theorem dX11_needSet_0 : decode cX11_needSet 0 = .ok (.iload_n 1, 1) := by decide +kernel
theorem dX11_needSet_1 : decode cX11_needSet 1 = .ok (.ifCond .le 15, 3) := by decide +kernel
theorem dX11_needSet_4 : decode cX11_needSet 4 = .ok (.iload_n 1, 1) := by decide +kernel
theorem dX11_needSet_5 : decode cX11_needSet 5 = .ok (.aload_n 0, 1) := by decide +kernel
theorem dX11_needSet_6 : decode cX11_needSet 6 = .ok (.getfield 64, 3) := by decide +kernel
theorem dX11_needSet_9 : decode cX11_needSet 9 = .ok (.getfield 141, 3) := by decide +kernel
theorem dX11_needSet_12 : decode cX11_needSet 12 = .ok (.iushr, 1) := by decide +kernel
theorem dX11_needSet_13 : decode cX11_needSet 13 = .ok (.ifCond .eq 14, 3) := by decide +kernel
theorem dX11_needSet_16 : decode cX11_needSet 16 = .ok (.new 260, 3) := by decide +kernel
theorem dX11_needSet_19 : decode cX11_needSet 19 = .ok (.dup, 1) := by decide +kernel
theorem dX11_needSet_20 : decode cX11_needSet 20 = .ok (.ldc_w 352, 3) := by decide +kernel
theorem dX11_needSet_23 : decode cX11_needSet 23 = .ok (.invokespecial 264, 3) := by decide +kernel
theorem dX11_needSet_26 : decode cX11_needSet 26 = .ok (.athrow, 1) := by decide +kernel
theorem dX11_needSet_27 : decode cX11_needSet 27 = .ok (.return_, 1) := by decide +kernel
theorem dX11_binaryDigits_0 : decode cX11_binaryDigits 0 = .ok (.iconst 0, 1) := by decide +kernel
theorem dX11_binaryDigits_1 : decode cX11_binaryDigits 1 = .ok (.istore_n 1, 1) := by decide +kernel
theorem dX11_binaryDigits_2 : decode cX11_binaryDigits 2 = .ok (.iload_n 0, 1) := by decide +kernel
theorem dX11_binaryDigits_3 : decode cX11_binaryDigits 3 = .ok (.istore_n 2, 1) := by decide +kernel
theorem dX11_binaryDigits_4 : decode cX11_binaryDigits 4 = .ok (.iload_n 2, 1) := by decide +kernel
theorem dX11_binaryDigits_5 : decode cX11_binaryDigits 5 = .ok (.ifCond .le 13, 3) := by decide +kernel
theorem dX11_binaryDigits_8 : decode cX11_binaryDigits 8 = .ok (.iinc 1 1, 3) := by decide +kernel
theorem dX11_binaryDigits_11 : decode cX11_binaryDigits 11 = .ok (.iload_n 2, 1) := by decide +kernel
theorem dX11_binaryDigits_12 : decode cX11_binaryDigits 12 = .ok (.iconst 1, 1) := by decide +kernel
theorem dX11_binaryDigits_13 : decode cX11_binaryDigits 13 = .ok (.ishr, 1) := by decide +kernel
theorem dX11_binaryDigits_14 : decode cX11_binaryDigits 14 = .ok (.istore_n 2, 1) := by decide +kernel
theorem dX11_binaryDigits_15 : decode cX11_binaryDigits 15 = .ok (.goto (-11), 3) := by decide +kernel
theorem dX11_binaryDigits_18 : decode cX11_binaryDigits 18 = .ok (.iload_n 1, 1) := by decide +kernel
theorem dX11_binaryDigits_19 : decode cX11_binaryDigits 19 = .ok (.ireturn, 1) := by decide +kernel
