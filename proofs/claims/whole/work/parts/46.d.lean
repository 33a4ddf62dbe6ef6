theorem dX12_levelBehind_0 : decode cX12_levelBehind 0 = .ok (.iload_n 2, 1) := by decide +kernel
theorem dX12_levelBehind_1 : decode cX12_levelBehind 1 = .ok (.iconst 1, 1) := by decide +kernel
theorem dX12_levelBehind_2 : decode cX12_levelBehind 2 = .ok (.iadd, 1) := by decide +kernel
theorem dX12_levelBehind_3 : decode cX12_levelBehind 3 = .ok (.istore_n 3, 1) := by decide +kernel
theorem dX12_levelBehind_4 : decode cX12_levelBehind 4 = .ok (.iload_n 3, 1) := by decide +kernel
theorem dX12_levelBehind_5 : decode cX12_levelBehind 5 = .ok (.aload_n 0, 1) := by decide +kernel
theorem dX12_levelBehind_6 : decode cX12_levelBehind 6 = .ok (.getfield 76, 3) := by decide +kernel
theorem dX12_levelBehind_9 : decode cX12_levelBehind 9 = .ok (.iconst 0, 1) := by decide +kernel
theorem dX12_levelBehind_10 : decode cX12_levelBehind 10 = .ok (.iaload, 1) := by decide +kernel
theorem dX12_levelBehind_11 : decode cX12_levelBehind 11 = .ok (.if_icmp .ge 17, 3) := by decide +kernel
theorem dX12_levelBehind_14 : decode cX12_levelBehind 14 = .ok (.iload_n 1, 1) := by decide +kernel
theorem dX12_levelBehind_15 : decode cX12_levelBehind 15 = .ok (.iload_n 3, 1) := by decide +kernel
theorem dX12_levelBehind_16 : decode cX12_levelBehind 16 = .ok (.invokestatic 361, 3) := by decide +kernel
theorem dX12_levelBehind_19 : decode cX12_levelBehind 19 = .ok (.ifCond .ne 9, 3) := by decide +kernel
theorem dX12_levelBehind_22 : decode cX12_levelBehind 22 = .ok (.iinc 3 1, 3) := by decide +kernel
theorem dX12_levelBehind_25 : decode cX12_levelBehind 25 = .ok (.goto (-21), 3) := by decide +kernel
theorem dX12_levelBehind_28 : decode cX12_levelBehind 28 = .ok (.iload_n 3, 1) := by decide +kernel
theorem dX12_levelBehind_29 : decode cX12_levelBehind 29 = .ok (.aload_n 0, 1) := by decide +kernel
theorem dX12_levelBehind_30 : decode cX12_levelBehind 30 = .ok (.getfield 76, 3) := by decide +kernel
theorem dX12_levelBehind_33 : decode cX12_levelBehind 33 = .ok (.iconst 0, 1) := by decide +kernel
theorem dX12_levelBehind_34 : decode cX12_levelBehind 34 = .ok (.iaload, 1) := by decide +kernel
theorem dX12_levelBehind_35 : decode cX12_levelBehind 35 = .ok (.if_icmp .ne 5, 3) := by decide +kernel
theorem dX12_levelBehind_38 : decode cX12_levelBehind 38 = .ok (.iconst 0, 1) := by decide +kernel
theorem dX12_levelBehind_39 : decode cX12_levelBehind 39 = .ok (.ireturn, 1) := by decide +kernel
theorem dX12_levelBehind_40 : decode cX12_levelBehind 40 = .ok (.aload_n 0, 1) := by decide +kernel
theorem dX12_levelBehind_41 : decode cX12_levelBehind 41 = .ok (.iload_n 2, 1) := by decide +kernel
theorem dX12_levelBehind_42 : decode cX12_levelBehind 42 = .ok (.iload_n 3, 1) := by decide +kernel
theorem dX12_levelBehind_43 : decode cX12_levelBehind 43 = .ok (.invokevirtual 314, 3) := by decide +kernel
theorem dX12_levelBehind_46 : decode cX12_levelBehind 46 = .ok (.istore 4, 2) := by decide +kernel
theorem dX12_levelBehind_48 : decode cX12_levelBehind 48 = .ok (.iload 4, 2) := by decide +kernel
theorem dX12_levelBehind_50 : decode cX12_levelBehind 50 = .ok (.iconst (-1), 1) := by decide +kernel
theorem dX12_levelBehind_51 : decode cX12_levelBehind 51 = .ok (.if_icmp .ne 7, 3) := by decide +kernel
theorem dX12_levelBehind_54 : decode cX12_levelBehind 54 = .ok (.iconst 0, 1) := by decide +kernel
theorem dX12_levelBehind_55 : decode cX12_levelBehind 55 = .ok (.goto 10, 3) := by decide +kernel
theorem dX12_levelBehind_58 : decode cX12_levelBehind 58 = .ok (.aload_n 0, 1) := by decide +kernel
theorem dX12_levelBehind_59 : decode cX12_levelBehind 59 = .ok (.getfield 61, 3) := by decide +kernel
theorem dX12_levelBehind_62 : decode cX12_levelBehind 62 = .ok (.iload 4, 2) := by decide +kernel
theorem dX12_levelBehind_64 : decode cX12_levelBehind 64 = .ok (.iaload, 1) := by decide +kernel
theorem dX12_levelBehind_65 : decode cX12_levelBehind 65 = .ok (.ireturn, 1) := by decide +kernel
theorem dX12_nextOf_0 : decode cX12_nextOf 0 = .ok (.iload_n 3, 1) := by decide +kernel
theorem dX12_nextOf_1 : decode cX12_nextOf 1 = .ok (.aload_n 0, 1) := by decide +kernel
theorem dX12_nextOf_2 : decode cX12_nextOf 2 = .ok (.iload_n 1, 1) := by decide +kernel
theorem dX12_nextOf_3 : decode cX12_nextOf 3 = .ok (.iload_n 2, 1) := by decide +kernel
theorem dX12_nextOf_4 : decode cX12_nextOf 4 = .ok (.invokevirtual 415, 3) := by decide +kernel
theorem dX12_nextOf_7 : decode cX12_nextOf 7 = .ok (.if_icmp .le 59, 3) := by decide +kernel
theorem dX12_nextOf_10 : decode cX12_nextOf 10 = .ok (.aload_n 0, 1) := by decide +kernel
theorem dX12_nextOf_11 : decode cX12_nextOf 11 = .ok (.iload_n 2, 1) := by decide +kernel
theorem dX12_nextOf_12 : decode cX12_nextOf 12 = .ok (.iload_n 3, 1) := by decide +kernel
theorem dX12_nextOf_13 : decode cX12_nextOf 13 = .ok (.invokevirtual 311, 3) := by decide +kernel
theorem dX12_nextOf_16 : decode cX12_nextOf 16 = .ok (.istore 4, 2) := by decide +kernel
theorem dX12_nextOf_18 : decode cX12_nextOf 18 = .ok (.iconst 0, 1) := by decide +kernel
theorem dX12_nextOf_19 : decode cX12_nextOf 19 = .ok (.istore 5, 2) := by decide +kernel
theorem dX12_nextOf_21 : decode cX12_nextOf 21 = .ok (.iload 5, 2) := by decide +kernel
theorem dX12_nextOf_23 : decode cX12_nextOf 23 = .ok (.aload_n 0, 1) := by decide +kernel
theorem dX12_nextOf_24 : decode cX12_nextOf 24 = .ok (.getfield 76, 3) := by decide +kernel
theorem dX12_nextOf_27 : decode cX12_nextOf 27 = .ok (.iconst 0, 1) := by decide +kernel
theorem dX12_nextOf_28 : decode cX12_nextOf 28 = .ok (.iaload, 1) := by decide +kernel
theorem dX12_nextOf_29 : decode cX12_nextOf 29 = .ok (.if_icmp .ge 37, 3) := by decide +kernel
theorem dX12_nextOf_32 : decode cX12_nextOf 32 = .ok (.iload_n 1, 1) := by decide +kernel
theorem dX12_nextOf_33 : decode cX12_nextOf 33 = .ok (.iload 5, 2) := by decide +kernel
theorem dX12_nextOf_35 : decode cX12_nextOf 35 = .ok (.invokestatic 361, 3) := by decide +kernel
theorem dX12_nextOf_38 : decode cX12_nextOf 38 = .ok (.ifCond .eq 22, 3) := by decide +kernel
theorem dX12_nextOf_41 : decode cX12_nextOf 41 = .ok (.aload_n 0, 1) := by decide +kernel
theorem dX12_nextOf_42 : decode cX12_nextOf 42 = .ok (.aload_n 0, 1) := by decide +kernel
theorem dX12_nextOf_43 : decode cX12_nextOf 43 = .ok (.getfield 79, 3) := by decide +kernel
theorem dX12_nextOf_46 : decode cX12_nextOf 46 = .ok (.iload 5, 2) := by decide +kernel
theorem dX12_nextOf_48 : decode cX12_nextOf 48 = .ok (.iaload, 1) := by decide +kernel
theorem dX12_nextOf_49 : decode cX12_nextOf 49 = .ok (.iload 4, 2) := by decide +kernel
theorem dX12_nextOf_51 : decode cX12_nextOf 51 = .ok (.invokevirtual 265, 3) := by decide +kernel
theorem dX12_nextOf_54 : decode cX12_nextOf 54 = .ok (.ifCond .eq 6, 3) := by decide +kernel
theorem dX12_nextOf_57 : decode cX12_nextOf 57 = .ok (.iload 5, 2) := by decide +kernel
theorem dX12_nextOf_59 : decode cX12_nextOf 59 = .ok (.ireturn, 1) := by decide +kernel
theorem dX12_nextOf_60 : decode cX12_nextOf 60 = .ok (.iinc 5 1, 3) := by decide +kernel
theorem dX12_nextOf_63 : decode cX12_nextOf 63 = .ok (.goto (-42), 3) := by decide +kernel
theorem dX12_nextOf_66 : decode cX12_nextOf 66 = .ok (.iload_n 2, 1) := by decide +kernel
theorem dX12_nextOf_67 : decode cX12_nextOf 67 = .ok (.iconst 1, 1) := by decide +kernel
theorem dX12_nextOf_68 : decode cX12_nextOf 68 = .ok (.iadd, 1) := by decide +kernel
theorem dX12_nextOf_69 : decode cX12_nextOf 69 = .ok (.istore 4, 2) := by decide +kernel
theorem dX12_nextOf_71 : decode cX12_nextOf 71 = .ok (.iload 4, 2) := by decide +kernel
theorem dX12_nextOf_73 : decode cX12_nextOf 73 = .ok (.aload_n 0, 1) := by decide +kernel
theorem dX12_nextOf_74 : decode cX12_nextOf 74 = .ok (.getfield 76, 3) := by decide +kernel
theorem dX12_nextOf_77 : decode cX12_nextOf 77 = .ok (.iconst 0, 1) := by decide +kernel
theorem dX12_nextOf_78 : decode cX12_nextOf 78 = .ok (.iaload, 1) := by decide +kernel
theorem dX12_nextOf_79 : decode cX12_nextOf 79 = .ok (.if_icmp .ge 21, 3) := by decide +kernel
theorem dX12_nextOf_82 : decode cX12_nextOf 82 = .ok (.iload_n 1, 1) := by decide +kernel
theorem dX12_nextOf_83 : decode cX12_nextOf 83 = .ok (.iload 4, 2) := by decide +kernel
theorem dX12_nextOf_85 : decode cX12_nextOf 85 = .ok (.invokestatic 361, 3) := by decide +kernel
theorem dX12_nextOf_88 : decode cX12_nextOf 88 = .ok (.ifCond .eq 6, 3) := by decide +kernel
theorem dX12_nextOf_91 : decode cX12_nextOf 91 = .ok (.iload 4, 2) := by decide +kernel
theorem dX12_nextOf_93 : decode cX12_nextOf 93 = .ok (.ireturn, 1) := by decide +kernel
theorem dX12_nextOf_94 : decode cX12_nextOf 94 = .ok (.iinc 4 1, 3) := by decide +kernel
theorem dX12_nextOf_97 : decode cX12_nextOf 97 = .ok (.goto (-26), 3) := by decide +kernel
theorem dX12_nextOf_100 : decode cX12_nextOf 100 = .ok (.iconst (-1), 1) := by decide +kernel
theorem dX12_nextOf_101 : decode cX12_nextOf 101 = .ok (.ireturn, 1) := by decide +kernel
theorem dX12_isSet_0 : decode cX12_isSet 0 = .ok (.iload_n 1, 1) := by decide +kernel
theorem dX12_isSet_1 : decode cX12_isSet 1 = .ok (.ifCond .le 19, 3) := by decide +kernel
theorem dX12_isSet_4 : decode cX12_isSet 4 = .ok (.iload_n 1, 1) := by decide +kernel
theorem dX12_isSet_5 : decode cX12_isSet 5 = .ok (.iconst 1, 1) := by decide +kernel
theorem dX12_isSet_6 : decode cX12_isSet 6 = .ok (.aload_n 0, 1) := by decide +kernel
theorem dX12_isSet_7 : decode cX12_isSet 7 = .ok (.getfield 76, 3) := by decide +kernel
theorem dX12_isSet_10 : decode cX12_isSet 10 = .ok (.iconst 0, 1) := by decide +kernel
theorem dX12_isSet_11 : decode cX12_isSet 11 = .ok (.iaload, 1) := by decide +kernel
theorem dX12_isSet_12 : decode cX12_isSet 12 = .ok (.ishl, 1) := by decide +kernel
theorem dX12_isSet_13 : decode cX12_isSet 13 = .ok (.if_icmp .ge 7, 3) := by decide +kernel
theorem dX12_isSet_16 : decode cX12_isSet 16 = .ok (.iconst 1, 1) := by decide +kernel
theorem dX12_isSet_17 : decode cX12_isSet 17 = .ok (.goto 4, 3) := by decide +kernel
theorem dX12_isSet_20 : decode cX12_isSet 20 = .ok (.iconst 0, 1) := by decide +kernel
theorem dX12_isSet_21 : decode cX12_isSet 21 = .ok (.ireturn, 1) := by decide +kernel
theorem dX12_next_0 : decode cX12_next 0 = .ok (.aload_n 0, 1) := by decide +kernel
theorem dX12_next_1 : decode cX12_next 1 = .ok (.iconst 0, 1) := by decide +kernel
theorem dX12_next_2 : decode cX12_next 2 = .ok (.putfield 125, 3) := by decide +kernel
theorem dX12_next_5 : decode cX12_next 5 = .ok (.iload_n 2, 1) := by decide +kernel
theorem dX12_next_6 : decode cX12_next 6 = .ok (.i2l, 1) := by decide +kernel
theorem dX12_next_7 : decode cX12_next 7 = .ok (.lconst 0, 1) := by decide +kernel
theorem dX12_next_8 : decode cX12_next 8 = .ok (.ldc2_w 418, 3) := by decide +kernel
theorem dX12_next_11 : decode cX12_next 11 = .ok (.invokestatic 383, 3) := by decide +kernel
theorem dX12_next_14 : decode cX12_next 14 = .ok (.ifCond .eq 11, 3) := by decide +kernel
theorem dX12_next_17 : decode cX12_next 17 = .ok (.iload_n 1, 1) := by decide +kernel
theorem dX12_next_18 : decode cX12_next 18 = .ok (.iload_n 2, 1) := by decide +kernel
theorem dX12_next_19 : decode cX12_next 19 = .ok (.invokestatic 361, 3) := by decide +kernel
theorem dX12_next_22 : decode cX12_next 22 = .ok (.ifCond .ne 9, 3) := by decide +kernel
theorem dX12_next_25 : decode cX12_next 25 = .ok (.aload_n 0, 1) := by decide +kernel
theorem dX12_next_26 : decode cX12_next 26 = .ok (.iconst 1, 1) := by decide +kernel
theorem dX12_next_27 : decode cX12_next 27 = .ok (.invokevirtual 380, 3) := by decide +kernel
theorem dX12_next_30 : decode cX12_next 30 = .ok (.ireturn, 1) := by decide +kernel
theorem dX12_next_31 : decode cX12_next 31 = .ok (.aload_n 0, 1) := by decide +kernel
theorem dX12_next_32 : decode cX12_next 32 = .ok (.iload_n 1, 1) := by decide +kernel
theorem dX12_next_33 : decode cX12_next 33 = .ok (.invokevirtual 420, 3) := by decide +kernel
theorem dX12_next_36 : decode cX12_next 36 = .ok (.ifCond .eq 24, 3) := by decide +kernel
theorem dX12_next_39 : decode cX12_next 39 = .ok (.iload_n 3, 1) := by decide +kernel
theorem dX12_next_40 : decode cX12_next 40 = .ok (.i2l, 1) := by decide +kernel
theorem dX12_next_41 : decode cX12_next 41 = .ok (.lconst 0, 1) := by decide +kernel
theorem dX12_next_42 : decode cX12_next 42 = .ok (.aload_n 0, 1) := by decide +kernel
theorem dX12_next_43 : decode cX12_next 43 = .ok (.getfield 61, 3) := by decide +kernel
theorem dX12_next_46 : decode cX12_next 46 = .ok (.aload_n 0, 1) := by decide +kernel
theorem dX12_next_47 : decode cX12_next 47 = .ok (.getfield 79, 3) := by decide +kernel
theorem dX12_next_50 : decode cX12_next 50 = .ok (.iload_n 2, 1) := by decide +kernel
theorem dX12_next_51 : decode cX12_next 51 = .ok (.iaload, 1) := by decide +kernel
theorem dX12_next_52 : decode cX12_next 52 = .ok (.iaload, 1) := by decide +kernel
theorem dX12_next_53 : decode cX12_next 53 = .ok (.i2l, 1) := by decide +kernel
theorem dX12_next_54 : decode cX12_next 54 = .ok (.invokestatic 383, 3) := by decide +kernel
theorem dX12_next_57 : decode cX12_next 57 = .ok (.ifCond .ne 9, 3) := by decide +kernel
theorem dX12_next_60 : decode cX12_next 60 = .ok (.aload_n 0, 1) := by decide +kernel
theorem dX12_next_61 : decode cX12_next 61 = .ok (.iconst 2, 1) := by decide +kernel
theorem dX12_next_62 : decode cX12_next 62 = .ok (.invokevirtual 380, 3) := by decide +kernel
theorem dX12_next_65 : decode cX12_next 65 = .ok (.ireturn, 1) := by decide +kernel
theorem dX12_next_66 : decode cX12_next 66 = .ok (.aload_n 0, 1) := by decide +kernel
theorem dX12_next_67 : decode cX12_next 67 = .ok (.iload_n 1, 1) := by decide +kernel
theorem dX12_next_68 : decode cX12_next 68 = .ok (.iload_n 2, 1) := by decide +kernel
theorem dX12_next_69 : decode cX12_next 69 = .ok (.iload_n 3, 1) := by decide +kernel
theorem dX12_next_70 : decode cX12_next 70 = .ok (.invokevirtual 423, 3) := by decide +kernel
theorem dX12_next_73 : decode cX12_next 73 = .ok (.ireturn, 1) := by decide +kernel
theorem dX12_readsOf_0 : decode cX12_readsOf 0 = .ok (.iconst 0, 1) := by decide +kernel
theorem dX12_readsOf_1 : decode cX12_readsOf 1 = .ok (.istore_n 3, 1) := by decide +kernel
theorem dX12_readsOf_2 : decode cX12_readsOf 2 = .ok (.iconst 0, 1) := by decide +kernel
theorem dX12_readsOf_3 : decode cX12_readsOf 3 = .ok (.istore 4, 2) := by decide +kernel
theorem dX12_readsOf_5 : decode cX12_readsOf 5 = .ok (.iload 4, 2) := by decide +kernel
theorem dX12_readsOf_7 : decode cX12_readsOf 7 = .ok (.aload_n 0, 1) := by decide +kernel
theorem dX12_readsOf_8 : decode cX12_readsOf 8 = .ok (.getfield 76, 3) := by decide +kernel
theorem dX12_readsOf_11 : decode cX12_readsOf 11 = .ok (.iconst 0, 1) := by decide +kernel
theorem dX12_readsOf_12 : decode cX12_readsOf 12 = .ok (.iaload, 1) := by decide +kernel
theorem dX12_readsOf_13 : decode cX12_readsOf 13 = .ok (.if_icmp .ge 23, 3) := by decide +kernel
theorem dX12_readsOf_16 : decode cX12_readsOf 16 = .ok (.aload_n 0, 1) := by decide +kernel
theorem dX12_readsOf_17 : decode cX12_readsOf 17 = .ok (.getfield 98, 3) := by decide +kernel
theorem dX12_readsOf_20 : decode cX12_readsOf 20 = .ok (.iload 4, 2) := by decide +kernel
theorem dX12_readsOf_22 : decode cX12_readsOf 22 = .ok (.aload_n 0, 1) := by decide +kernel
theorem dX12_readsOf_23 : decode cX12_readsOf 23 = .ok (.iload 4, 2) := by decide +kernel
theorem dX12_readsOf_25 : decode cX12_readsOf 25 = .ok (.iload_n 1, 1) := by decide +kernel
theorem dX12_readsOf_26 : decode cX12_readsOf 26 = .ok (.invokevirtual 409, 3) := by decide +kernel
theorem dX12_readsOf_29 : decode cX12_readsOf 29 = .ok (.iastore, 1) := by decide +kernel
theorem dX12_readsOf_30 : decode cX12_readsOf 30 = .ok (.iinc 4 1, 3) := by decide +kernel
theorem dX12_readsOf_33 : decode cX12_readsOf 33 = .ok (.goto (-28), 3) := by decide +kernel
theorem dX12_readsOf_36 : decode cX12_readsOf 36 = .ok (.iconst 0, 1) := by decide +kernel
theorem dX12_readsOf_37 : decode cX12_readsOf 37 = .ok (.istore 4, 2) := by decide +kernel
theorem dX12_readsOf_39 : decode cX12_readsOf 39 = .ok (.iload_n 2, 1) := by decide +kernel
theorem dX12_readsOf_40 : decode cX12_readsOf 40 = .ok (.iload 4, 2) := by decide +kernel
theorem dX12_readsOf_42 : decode cX12_readsOf 42 = .ok (.invokestatic 361, 3) := by decide +kernel
theorem dX12_readsOf_45 : decode cX12_readsOf 45 = .ok (.ifCond .ne 9, 3) := by decide +kernel
theorem dX12_readsOf_48 : decode cX12_readsOf 48 = .ok (.iinc 4 1, 3) := by decide +kernel
theorem dX12_readsOf_51 : decode cX12_readsOf 51 = .ok (.goto (-12), 3) := by decide +kernel
theorem dX12_readsOf_54 : decode cX12_readsOf 54 = .ok (.iload 4, 2) := by decide +kernel
theorem dX12_readsOf_56 : decode cX12_readsOf 56 = .ok (.iconst (-1), 1) := by decide +kernel
theorem dX12_readsOf_57 : decode cX12_readsOf 57 = .ok (.if_icmp .eq 67, 3) := by decide +kernel
theorem dX12_readsOf_60 : decode cX12_readsOf 60 = .ok (.iinc 3 1, 3) := by decide +kernel
theorem dX12_readsOf_63 : decode cX12_readsOf 63 = .ok (.aload_n 0, 1) := by decide +kernel
theorem dX12_readsOf_64 : decode cX12_readsOf 64 = .ok (.getfield 98, 3) := by decide +kernel
theorem dX12_readsOf_67 : decode cX12_readsOf 67 = .ok (.iload 4, 2) := by decide +kernel
theorem dX12_readsOf_69 : decode cX12_readsOf 69 = .ok (.dup2, 1) := by decide +kernel
theorem dX12_readsOf_70 : decode cX12_readsOf 70 = .ok (.iaload, 1) := by decide +kernel
theorem dX12_readsOf_71 : decode cX12_readsOf 71 = .ok (.iconst 1, 1) := by decide +kernel
theorem dX12_readsOf_72 : decode cX12_readsOf 72 = .ok (.iadd, 1) := by decide +kernel
theorem dX12_readsOf_73 : decode cX12_readsOf 73 = .ok (.iastore, 1) := by decide +kernel
theorem dX12_readsOf_74 : decode cX12_readsOf 74 = .ok (.aload_n 0, 1) := by decide +kernel
theorem dX12_readsOf_75 : decode cX12_readsOf 75 = .ok (.getfield 98, 3) := by decide +kernel
theorem dX12_readsOf_78 : decode cX12_readsOf 78 = .ok (.iload 4, 2) := by decide +kernel
theorem dX12_readsOf_80 : decode cX12_readsOf 80 = .ok (.iaload, 1) := by decide +kernel
theorem dX12_readsOf_81 : decode cX12_readsOf 81 = .ok (.aload_n 0, 1) := by decide +kernel
theorem dX12_readsOf_82 : decode cX12_readsOf 82 = .ok (.getfield 85, 3) := by decide +kernel
theorem dX12_readsOf_85 : decode cX12_readsOf 85 = .ok (.iload 4, 2) := by decide +kernel
theorem dX12_readsOf_87 : decode cX12_readsOf 87 = .ok (.iaload, 1) := by decide +kernel
theorem dX12_readsOf_88 : decode cX12_readsOf 88 = .ok (.if_icmp .ge 19, 3) := by decide +kernel
theorem dX12_readsOf_91 : decode cX12_readsOf 91 = .ok (.aload_n 0, 1) := by decide +kernel
theorem dX12_readsOf_92 : decode cX12_readsOf 92 = .ok (.iload 4, 2) := by decide +kernel
theorem dX12_readsOf_94 : decode cX12_readsOf 94 = .ok (.aload_n 0, 1) := by decide +kernel
theorem dX12_readsOf_95 : decode cX12_readsOf 95 = .ok (.getfield 98, 3) := by decide +kernel
theorem dX12_readsOf_98 : decode cX12_readsOf 98 = .ok (.iload 4, 2) := by decide +kernel
theorem dX12_readsOf_100 : decode cX12_readsOf 100 = .ok (.iaload, 1) := by decide +kernel
theorem dX12_readsOf_101 : decode cX12_readsOf 101 = .ok (.invokevirtual 308, 3) := by decide +kernel
theorem dX12_readsOf_104 : decode cX12_readsOf 104 = .ok (.goto 4, 3) := by decide +kernel
theorem dX12_readsOf_107 : decode cX12_readsOf 107 = .ok (.iconst 0, 1) := by decide +kernel
theorem dX12_readsOf_108 : decode cX12_readsOf 108 = .ok (.istore 5, 2) := by decide +kernel
theorem dX12_readsOf_110 : decode cX12_readsOf 110 = .ok (.aload_n 0, 1) := by decide +kernel
theorem dX12_readsOf_111 : decode cX12_readsOf 111 = .ok (.iload_n 2, 1) := by decide +kernel
theorem dX12_readsOf_112 : decode cX12_readsOf 112 = .ok (.iload 4, 2) := by decide +kernel
theorem dX12_readsOf_114 : decode cX12_readsOf 114 = .ok (.iload 5, 2) := by decide +kernel
theorem dX12_readsOf_116 : decode cX12_readsOf 116 = .ok (.invokevirtual 423, 3) := by decide +kernel
theorem dX12_readsOf_119 : decode cX12_readsOf 119 = .ok (.istore 4, 2) := by decide +kernel
theorem dX12_readsOf_121 : decode cX12_readsOf 121 = .ok (.goto (-67), 3) := by decide +kernel
theorem dX12_readsOf_124 : decode cX12_readsOf 124 = .ok (.iload_n 3, 1) := by decide +kernel
theorem dX12_readsOf_125 : decode cX12_readsOf 125 = .ok (.ireturn, 1) := by decide +kernel
theorem dX12_reads_0 : decode cX12_reads 0 = .ok (.aload_n 0, 1) := by decide +kernel
theorem dX12_reads_1 : decode cX12_reads 1 = .ok (.iconst 0, 1) := by decide +kernel
theorem dX12_reads_2 : decode cX12_reads 2 = .ok (.putfield 125, 3) := by decide +kernel
theorem dX12_reads_5 : decode cX12_reads 5 = .ok (.aload_n 0, 1) := by decide +kernel
theorem dX12_reads_6 : decode cX12_reads 6 = .ok (.iload_n 1, 1) := by decide +kernel
theorem dX12_reads_7 : decode cX12_reads 7 = .ok (.invokevirtual 406, 3) := by decide +kernel
theorem dX12_reads_10 : decode cX12_reads 10 = .ok (.ifCond .ne 9, 3) := by decide +kernel
theorem dX12_reads_13 : decode cX12_reads 13 = .ok (.aload_n 0, 1) := by decide +kernel
theorem dX12_reads_14 : decode cX12_reads 14 = .ok (.iconst 1, 1) := by decide +kernel
theorem dX12_reads_15 : decode cX12_reads 15 = .ok (.invokevirtual 380, 3) := by decide +kernel
theorem dX12_reads_18 : decode cX12_reads 18 = .ok (.ireturn, 1) := by decide +kernel
theorem dX12_reads_19 : decode cX12_reads 19 = .ok (.aload_n 0, 1) := by decide +kernel
theorem dX12_reads_20 : decode cX12_reads 20 = .ok (.iload_n 2, 1) := by decide +kernel
theorem dX12_reads_21 : decode cX12_reads 21 = .ok (.invokevirtual 420, 3) := by decide +kernel
theorem dX12_reads_24 : decode cX12_reads 24 = .ok (.ifCond .ne 9, 3) := by decide +kernel
theorem dX12_reads_27 : decode cX12_reads 27 = .ok (.aload_n 0, 1) := by decide +kernel
theorem dX12_reads_28 : decode cX12_reads 28 = .ok (.iconst 2, 1) := by decide +kernel
theorem dX12_reads_29 : decode cX12_reads 29 = .ok (.invokevirtual 380, 3) := by decide +kernel
theorem dX12_reads_32 : decode cX12_reads 32 = .ok (.ireturn, 1) := by decide +kernel
theorem dX12_reads_33 : decode cX12_reads 33 = .ok (.aload_n 0, 1) := by decide +kernel
theorem dX12_reads_34 : decode cX12_reads 34 = .ok (.invokevirtual 288, 3) := by decide +kernel
theorem dX12_reads_37 : decode cX12_reads 37 = .ok (.ifCond .eq 7, 3) := by decide +kernel
theorem dX12_reads_40 : decode cX12_reads 40 = .ok (.iconst (-1), 1) := by decide +kernel
theorem dX12_reads_41 : decode cX12_reads 41 = .ok (.goto 9, 3) := by decide +kernel
theorem dX12_reads_44 : decode cX12_reads 44 = .ok (.aload_n 0, 1) := by decide +kernel
theorem dX12_reads_45 : decode cX12_reads 45 = .ok (.iload_n 1, 1) := by decide +kernel
theorem dX12_reads_46 : decode cX12_reads 46 = .ok (.iload_n 2, 1) := by decide +kernel
theorem dX12_reads_47 : decode cX12_reads 47 = .ok (.invokevirtual 426, 3) := by decide +kernel
theorem dX12_reads_50 : decode cX12_reads 50 = .ok (.ireturn, 1) := by decide +kernel
theorem dX12_say_0 : decode cX12_say 0 = .ok (.aload_n 0, 1) := by decide +kernel
theorem dX12_say_1 : decode cX12_say 1 = .ok (.getfield 429, 3) := by decide +kernel
theorem dX12_say_4 : decode cX12_say 4 = .ok (.aload_n 0, 1) := by decide +kernel
theorem dX12_say_5 : decode cX12_say 5 = .ok (.getfield 432, 3) := by decide +kernel
theorem dX12_say_8 : decode cX12_say 8 = .ok (.if_icmp .ne 8, 3) := by decide +kernel
theorem dX12_say_11 : decode cX12_say 11 = .ok (.aload_n 0, 1) := by decide +kernel
theorem dX12_say_12 : decode cX12_say 12 = .ok (.iload_n 1, 1) := by decide +kernel
theorem dX12_say_13 : decode cX12_say 13 = .ok (.putfield 435, 3) := by decide +kernel
theorem dX12_say_16 : decode cX12_say 16 = .ok (.aload_n 0, 1) := by decide +kernel
theorem dX12_say_17 : decode cX12_say 17 = .ok (.dup, 1) := by decide +kernel
theorem dX12_say_18 : decode cX12_say 18 = .ok (.getfield 429, 3) := by decide +kernel
theorem dX12_say_21 : decode cX12_say 21 = .ok (.iconst 1, 1) := by decide +kernel
theorem dX12_say_22 : decode cX12_say 22 = .ok (.iadd, 1) := by decide +kernel
theorem dX12_say_23 : decode cX12_say 23 = .ok (.putfield 429, 3) := by decide +kernel
theorem dX12_say_26 : decode cX12_say 26 = .ok (.return_, 1) := by decide +kernel
theorem dX12_sayNumber_0 : decode cX12_sayNumber 0 = .ok (.iconst 1, 1) := by decide +kernel
theorem dX12_sayNumber_1 : decode cX12_sayNumber 1 = .ok (.istore_n 2, 1) := by decide +kernel
theorem dX12_sayNumber_2 : decode cX12_sayNumber 2 = .ok (.iload_n 2, 1) := by decide +kernel
theorem dX12_sayNumber_3 : decode cX12_sayNumber 3 = .ok (.iload_n 1, 1) := by decide +kernel
theorem dX12_sayNumber_4 : decode cX12_sayNumber 4 = .ok (.bipush 10, 2) := by decide +kernel
theorem dX12_sayNumber_6 : decode cX12_sayNumber 6 = .ok (.idiv, 1) := by decide +kernel
theorem dX12_sayNumber_7 : decode cX12_sayNumber 7 = .ok (.if_icmp .gt 11, 3) := by decide +kernel
theorem dX12_sayNumber_10 : decode cX12_sayNumber 10 = .ok (.iload_n 2, 1) := by decide +kernel
theorem dX12_sayNumber_11 : decode cX12_sayNumber 11 = .ok (.bipush 10, 2) := by decide +kernel
theorem dX12_sayNumber_13 : decode cX12_sayNumber 13 = .ok (.imul, 1) := by decide +kernel
theorem dX12_sayNumber_14 : decode cX12_sayNumber 14 = .ok (.istore_n 2, 1) := by decide +kernel
theorem dX12_sayNumber_15 : decode cX12_sayNumber 15 = .ok (.goto (-13), 3) := by decide +kernel
theorem dX12_sayNumber_18 : decode cX12_sayNumber 18 = .ok (.iload_n 2, 1) := by decide +kernel
theorem dX12_sayNumber_19 : decode cX12_sayNumber 19 = .ok (.ifCond .le 24, 3) := by decide +kernel
theorem dX12_sayNumber_22 : decode cX12_sayNumber 22 = .ok (.aload_n 0, 1) := by decide +kernel
theorem dX12_sayNumber_23 : decode cX12_sayNumber 23 = .ok (.bipush 48, 2) := by decide +kernel
theorem dX12_sayNumber_25 : decode cX12_sayNumber 25 = .ok (.iload_n 1, 1) := by decide +kernel
theorem dX12_sayNumber_26 : decode cX12_sayNumber 26 = .ok (.iload_n 2, 1) := by decide +kernel
theorem dX12_sayNumber_27 : decode cX12_sayNumber 27 = .ok (.idiv, 1) := by decide +kernel
theorem dX12_sayNumber_28 : decode cX12_sayNumber 28 = .ok (.bipush 10, 2) := by decide +kernel
theorem dX12_sayNumber_30 : decode cX12_sayNumber 30 = .ok (.irem, 1) := by decide +kernel
theorem dX12_sayNumber_31 : decode cX12_sayNumber 31 = .ok (.iadd, 1) := by decide +kernel
theorem dX12_sayNumber_32 : decode cX12_sayNumber 32 = .ok (.invokevirtual 438, 3) := by decide +kernel
theorem dX12_sayNumber_35 : decode cX12_sayNumber 35 = .ok (.iload_n 2, 1) := by decide +kernel
theorem dX12_sayNumber_36 : decode cX12_sayNumber 36 = .ok (.bipush 10, 2) := by decide +kernel
theorem dX12_sayNumber_38 : decode cX12_sayNumber 38 = .ok (.idiv, 1) := by decide +kernel
theorem dX12_sayNumber_39 : decode cX12_sayNumber 39 = .ok (.istore_n 2, 1) := by decide +kernel
theorem dX12_sayNumber_40 : decode cX12_sayNumber 40 = .ok (.goto (-22), 3) := by decide +kernel
theorem dX12_sayNumber_43 : decode cX12_sayNumber 43 = .ok (.return_, 1) := by decide +kernel
theorem dX12_firstLeafIn_0 : decode cX12_firstLeafIn 0 = .ok (.iconst 0, 1) := by decide +kernel
theorem dX12_firstLeafIn_1 : decode cX12_firstLeafIn 1 = .ok (.istore_n 2, 1) := by decide +kernel
theorem dX12_firstLeafIn_2 : decode cX12_firstLeafIn 2 = .ok (.aload_n 0, 1) := by decide +kernel
theorem dX12_firstLeafIn_3 : decode cX12_firstLeafIn 3 = .ok (.aload_n 0, 1) := by decide +kernel
theorem dX12_firstLeafIn_4 : decode cX12_firstLeafIn 4 = .ok (.getfield 79, 3) := by decide +kernel
theorem dX12_firstLeafIn_7 : decode cX12_firstLeafIn 7 = .ok (.iload_n 2, 1) := by decide +kernel
theorem dX12_firstLeafIn_8 : decode cX12_firstLeafIn 8 = .ok (.iaload, 1) := by decide +kernel
theorem dX12_firstLeafIn_9 : decode cX12_firstLeafIn 9 = .ok (.iload_n 1, 1) := by decide +kernel
theorem dX12_firstLeafIn_10 : decode cX12_firstLeafIn 10 = .ok (.invokevirtual 265, 3) := by decide +kernel
theorem dX12_firstLeafIn_13 : decode cX12_firstLeafIn 13 = .ok (.ifCond .ne 9, 3) := by decide +kernel
theorem dX12_firstLeafIn_16 : decode cX12_firstLeafIn 16 = .ok (.iinc 2 1, 3) := by decide +kernel
theorem dX12_firstLeafIn_19 : decode cX12_firstLeafIn 19 = .ok (.goto (-17), 3) := by decide +kernel
theorem dX12_firstLeafIn_22 : decode cX12_firstLeafIn 22 = .ok (.iload_n 2, 1) := by decide +kernel
theorem dX12_firstLeafIn_23 : decode cX12_firstLeafIn 23 = .ok (.ireturn, 1) := by decide +kernel
theorem dX12_isTold_0 : decode cX12_isTold 0 = .ok (.iload_n 1, 1) := by decide +kernel
theorem dX12_isTold_1 : decode cX12_isTold 1 = .ok (.ifCond .ne 12, 3) := by decide +kernel
theorem dX12_isTold_4 : decode cX12_isTold 4 = .ok (.aload_n 0, 1) := by decide +kernel
theorem dX12_isTold_5 : decode cX12_isTold 5 = .ok (.iload_n 2, 1) := by decide +kernel
theorem dX12_isTold_6 : decode cX12_isTold 6 = .ok (.iload_n 3, 1) := by decide +kernel
theorem dX12_isTold_7 : decode cX12_isTold 7 = .ok (.invokevirtual 358, 3) := by decide +kernel
theorem dX12_isTold_10 : decode cX12_isTold 10 = .ok (.ifCond .eq 7, 3) := by decide +kernel
theorem dX12_isTold_13 : decode cX12_isTold 13 = .ok (.iconst 1, 1) := by decide +kernel
theorem dX12_isTold_14 : decode cX12_isTold 14 = .ok (.goto 4, 3) := by decide +kernel
theorem dX12_isTold_17 : decode cX12_isTold 17 = .ok (.iconst 0, 1) := by decide +kernel
theorem dX12_isTold_18 : decode cX12_isTold 18 = .ok (.ireturn, 1) := by decide +kernel
theorem dX12_tellItem_0 : decode cX12_tellItem 0 = .ok (.aload_n 0, 1) := by decide +kernel
theorem dX12_tellItem_1 : decode cX12_tellItem 1 = .ok (.getfield 67, 3) := by decide +kernel
theorem dX12_tellItem_4 : decode cX12_tellItem 4 = .ok (.iload_n 1, 1) := by decide +kernel
theorem dX12_tellItem_5 : decode cX12_tellItem 5 = .ok (.iload_n 2, 1) := by decide +kernel
theorem dX12_tellItem_6 : decode cX12_tellItem 6 = .ok (.iadd, 1) := by decide +kernel
theorem dX12_tellItem_7 : decode cX12_tellItem 7 = .ok (.iaload, 1) := by decide +kernel
theorem dX12_tellItem_8 : decode cX12_tellItem 8 = .ok (.istore 5, 2) := by decide +kernel
theorem dX12_tellItem_10 : decode cX12_tellItem 10 = .ok (.aload_n 0, 1) := by decide +kernel
theorem dX12_tellItem_11 : decode cX12_tellItem 11 = .ok (.getfield 55, 3) := by decide +kernel
theorem dX12_tellItem_14 : decode cX12_tellItem 14 = .ok (.iload 5, 2) := by decide +kernel
theorem dX12_tellItem_16 : decode cX12_tellItem 16 = .ok (.iaload, 1) := by decide +kernel
theorem dX12_tellItem_17 : decode cX12_tellItem 17 = .ok (.iconst (-1), 1) := by decide +kernel
theorem dX12_tellItem_18 : decode cX12_tellItem 18 = .ok (.if_icmp .eq 37, 3) := by decide +kernel
theorem dX12_tellItem_21 : decode cX12_tellItem 21 = .ok (.aload_n 0, 1) := by decide +kernel
theorem dX12_tellItem_22 : decode cX12_tellItem 22 = .ok (.aload_n 0, 1) := by decide +kernel
theorem dX12_tellItem_23 : decode cX12_tellItem 23 = .ok (.aload_n 0, 1) := by decide +kernel
theorem dX12_tellItem_24 : decode cX12_tellItem 24 = .ok (.getfield 55, 3) := by decide +kernel
theorem dX12_tellItem_27 : decode cX12_tellItem 27 = .ok (.iload 5, 2) := by decide +kernel
theorem dX12_tellItem_29 : decode cX12_tellItem 29 = .ok (.iaload, 1) := by decide +kernel
theorem dX12_tellItem_30 : decode cX12_tellItem 30 = .ok (.aload_n 0, 1) := by decide +kernel
theorem dX12_tellItem_31 : decode cX12_tellItem 31 = .ok (.getfield 101, 3) := by decide +kernel
theorem dX12_tellItem_34 : decode cX12_tellItem 34 = .ok (.bipush 8, 2) := by decide +kernel
theorem dX12_tellItem_36 : decode cX12_tellItem 36 = .ok (.iload 4, 2) := by decide +kernel
theorem dX12_tellItem_38 : decode cX12_tellItem 38 = .ok (.imul, 1) := by decide +kernel
theorem dX12_tellItem_39 : decode cX12_tellItem 39 = .ok (.aload_n 0, 1) := by decide +kernel
theorem dX12_tellItem_40 : decode cX12_tellItem 40 = .ok (.getfield 55, 3) := by decide +kernel
theorem dX12_tellItem_43 : decode cX12_tellItem 43 = .ok (.iload 5, 2) := by decide +kernel
theorem dX12_tellItem_45 : decode cX12_tellItem 45 = .ok (.iaload, 1) := by decide +kernel
theorem dX12_tellItem_46 : decode cX12_tellItem 46 = .ok (.iadd, 1) := by decide +kernel
theorem dX12_tellItem_47 : decode cX12_tellItem 47 = .ok (.iaload, 1) := by decide +kernel
theorem dX12_tellItem_48 : decode cX12_tellItem 48 = .ok (.invokevirtual 339, 3) := by decide +kernel
theorem dX12_tellItem_51 : decode cX12_tellItem 51 = .ok (.invokevirtual 441, 3) := by decide +kernel
theorem dX12_tellItem_54 : decode cX12_tellItem 54 = .ok (.return_, 1) := by decide +kernel
theorem dX12_tellItem_55 : decode cX12_tellItem 55 = .ok (.aload_n 0, 1) := by decide +kernel
theorem dX12_tellItem_56 : decode cX12_tellItem 56 = .ok (.bipush 40, 2) := by decide +kernel
theorem dX12_tellItem_58 : decode cX12_tellItem 58 = .ok (.invokevirtual 438, 3) := by decide +kernel
theorem dX12_tellItem_61 : decode cX12_tellItem 61 = .ok (.aload_n 0, 1) := by decide +kernel
theorem dX12_tellItem_62 : decode cX12_tellItem 62 = .ok (.iload_n 1, 1) := by decide +kernel
theorem dX12_tellItem_63 : decode cX12_tellItem 63 = .ok (.iload_n 2, 1) := by decide +kernel
theorem dX12_tellItem_64 : decode cX12_tellItem 64 = .ok (.iload_n 3, 1) := by decide +kernel
theorem dX12_tellItem_65 : decode cX12_tellItem 65 = .ok (.iload 4, 2) := by decide +kernel
theorem dX12_tellItem_67 : decode cX12_tellItem 67 = .ok (.invokevirtual 444, 3) := by decide +kernel
theorem dX12_tellItem_70 : decode cX12_tellItem 70 = .ok (.aload_n 0, 1) := by decide +kernel
theorem dX12_tellItem_71 : decode cX12_tellItem 71 = .ok (.bipush 41, 2) := by decide +kernel
theorem dX12_tellItem_73 : decode cX12_tellItem 73 = .ok (.invokevirtual 438, 3) := by decide +kernel
theorem dX12_tellItem_76 : decode cX12_tellItem 76 = .ok (.return_, 1) := by decide +kernel
theorem dX12_tellMany_0 : decode cX12_tellMany 0 = .ok (.aload_n 0, 1) := by decide +kernel
theorem dX12_tellMany_1 : decode cX12_tellMany 1 = .ok (.getfield 67, 3) := by decide +kernel
theorem dX12_tellMany_4 : decode cX12_tellMany 4 = .ok (.iload_n 1, 1) := by decide +kernel
theorem dX12_tellMany_5 : decode cX12_tellMany 5 = .ok (.iload_n 2, 1) := by decide +kernel
theorem dX12_tellMany_6 : decode cX12_tellMany 6 = .ok (.iadd, 1) := by decide +kernel
theorem dX12_tellMany_7 : decode cX12_tellMany 7 = .ok (.iaload, 1) := by decide +kernel
theorem dX12_tellMany_8 : decode cX12_tellMany 8 = .ok (.istore 5, 2) := by decide +kernel
theorem dX12_tellMany_10 : decode cX12_tellMany 10 = .ok (.aload_n 0, 1) := by decide +kernel
theorem dX12_tellMany_11 : decode cX12_tellMany 11 = .ok (.iload 5, 2) := by decide +kernel
theorem dX12_tellMany_13 : decode cX12_tellMany 13 = .ok (.invokevirtual 447, 3) := by decide +kernel
theorem dX12_tellMany_16 : decode cX12_tellMany 16 = .ok (.istore 6, 2) := by decide +kernel
theorem dX12_tellMany_18 : decode cX12_tellMany 18 = .ok (.iload 4, 2) := by decide +kernel
theorem dX12_tellMany_20 : decode cX12_tellMany 20 = .ok (.iconst 1, 1) := by decide +kernel
theorem dX12_tellMany_21 : decode cX12_tellMany 21 = .ok (.iadd, 1) := by decide +kernel
theorem dX12_tellMany_22 : decode cX12_tellMany 22 = .ok (.istore 7, 2) := by decide +kernel
theorem dX12_tellMany_24 : decode cX12_tellMany 24 = .ok (.iconst 0, 1) := by decide +kernel
theorem dX12_tellMany_25 : decode cX12_tellMany 25 = .ok (.istore 8, 2) := by decide +kernel
theorem dX12_tellMany_27 : decode cX12_tellMany 27 = .ok (.iload 8, 2) := by decide +kernel
theorem dX12_tellMany_29 : decode cX12_tellMany 29 = .ok (.aload_n 0, 1) := by decide +kernel
theorem dX12_tellMany_30 : decode cX12_tellMany 30 = .ok (.getfield 76, 3) := by decide +kernel
theorem dX12_tellMany_33 : decode cX12_tellMany 33 = .ok (.iconst 0, 1) := by decide +kernel
theorem dX12_tellMany_34 : decode cX12_tellMany 34 = .ok (.iaload, 1) := by decide +kernel
theorem dX12_tellMany_35 : decode cX12_tellMany 35 = .ok (.if_icmp .ge 35, 3) := by decide +kernel
theorem dX12_tellMany_38 : decode cX12_tellMany 38 = .ok (.aload_n 0, 1) := by decide +kernel
theorem dX12_tellMany_39 : decode cX12_tellMany 39 = .ok (.getfield 101, 3) := by decide +kernel
theorem dX12_tellMany_42 : decode cX12_tellMany 42 = .ok (.bipush 8, 2) := by decide +kernel
theorem dX12_tellMany_44 : decode cX12_tellMany 44 = .ok (.iload 7, 2) := by decide +kernel
theorem dX12_tellMany_46 : decode cX12_tellMany 46 = .ok (.imul, 1) := by decide +kernel
theorem dX12_tellMany_47 : decode cX12_tellMany 47 = .ok (.iload 8, 2) := by decide +kernel
theorem dX12_tellMany_49 : decode cX12_tellMany 49 = .ok (.iadd, 1) := by decide +kernel
theorem dX12_tellMany_50 : decode cX12_tellMany 50 = .ok (.aload_n 0, 1) := by decide +kernel
theorem dX12_tellMany_51 : decode cX12_tellMany 51 = .ok (.getfield 101, 3) := by decide +kernel
theorem dX12_tellMany_54 : decode cX12_tellMany 54 = .ok (.bipush 8, 2) := by decide +kernel
theorem dX12_tellMany_56 : decode cX12_tellMany 56 = .ok (.iload 4, 2) := by decide +kernel
theorem dX12_tellMany_58 : decode cX12_tellMany 58 = .ok (.imul, 1) := by decide +kernel
theorem dX12_tellMany_59 : decode cX12_tellMany 59 = .ok (.iload 8, 2) := by decide +kernel
theorem dX12_tellMany_61 : decode cX12_tellMany 61 = .ok (.iadd, 1) := by decide +kernel
theorem dX12_tellMany_62 : decode cX12_tellMany 62 = .ok (.iaload, 1) := by decide +kernel
theorem dX12_tellMany_63 : decode cX12_tellMany 63 = .ok (.iastore, 1) := by decide +kernel
theorem dX12_tellMany_64 : decode cX12_tellMany 64 = .ok (.iinc 8 1, 3) := by decide +kernel
theorem dX12_tellMany_67 : decode cX12_tellMany 67 = .ok (.goto (-40), 3) := by decide +kernel
theorem dX12_tellMany_70 : decode cX12_tellMany 70 = .ok (.iconst 1, 1) := by decide +kernel
theorem dX12_tellMany_71 : decode cX12_tellMany 71 = .ok (.istore 8, 2) := by decide +kernel
theorem dX12_tellMany_73 : decode cX12_tellMany 73 = .ok (.iconst 1, 1) := by decide +kernel
theorem dX12_tellMany_74 : decode cX12_tellMany 74 = .ok (.istore 9, 2) := by decide +kernel
theorem dX12_tellMany_76 : decode cX12_tellMany 76 = .ok (.iload 8, 2) := by decide +kernel
theorem dX12_tellMany_78 : decode cX12_tellMany 78 = .ok (.ifCond .eq 240, 3) := by decide +kernel
theorem dX12_tellMany_81 : decode cX12_tellMany 81 = .ok (.iconst 0, 1) := by decide +kernel
theorem dX12_tellMany_82 : decode cX12_tellMany 82 = .ok (.istore 10, 2) := by decide +kernel
theorem dX12_tellMany_84 : decode cX12_tellMany 84 = .ok (.iload 10, 2) := by decide +kernel
theorem dX12_tellMany_86 : decode cX12_tellMany 86 = .ok (.aload_n 0, 1) := by decide +kernel
theorem dX12_tellMany_87 : decode cX12_tellMany 87 = .ok (.getfield 76, 3) := by decide +kernel
theorem dX12_tellMany_90 : decode cX12_tellMany 90 = .ok (.iconst 0, 1) := by decide +kernel
theorem dX12_tellMany_91 : decode cX12_tellMany 91 = .ok (.iaload, 1) := by decide +kernel
theorem dX12_tellMany_92 : decode cX12_tellMany 92 = .ok (.if_icmp .ge 102, 3) := by decide +kernel
theorem dX12_tellMany_95 : decode cX12_tellMany 95 = .ok (.aload_n 0, 1) := by decide +kernel
theorem dX12_tellMany_96 : decode cX12_tellMany 96 = .ok (.aload_n 0, 1) := by decide +kernel
theorem dX12_tellMany_97 : decode cX12_tellMany 97 = .ok (.getfield 79, 3) := by decide +kernel
theorem dX12_tellMany_100 : decode cX12_tellMany 100 = .ok (.iload 10, 2) := by decide +kernel
theorem dX12_tellMany_102 : decode cX12_tellMany 102 = .ok (.iaload, 1) := by decide +kernel
theorem dX12_tellMany_103 : decode cX12_tellMany 103 = .ok (.iload 5, 2) := by decide +kernel
theorem dX12_tellMany_105 : decode cX12_tellMany 105 = .ok (.invokevirtual 265, 3) := by decide +kernel
theorem dX12_tellMany_108 : decode cX12_tellMany 108 = .ok (.ifCond .ne 6, 3) := by decide +kernel
theorem dX12_tellMany_111 : decode cX12_tellMany 111 = .ok (.goto 77, 3) := by decide +kernel
theorem dX12_tellMany_114 : decode cX12_tellMany 114 = .ok (.aload_n 0, 1) := by decide +kernel
theorem dX12_tellMany_115 : decode cX12_tellMany 115 = .ok (.getfield 101, 3) := by decide +kernel
theorem dX12_tellMany_118 : decode cX12_tellMany 118 = .ok (.bipush 8, 2) := by decide +kernel
theorem dX12_tellMany_120 : decode cX12_tellMany 120 = .ok (.iload 7, 2) := by decide +kernel
theorem dX12_tellMany_122 : decode cX12_tellMany 122 = .ok (.imul, 1) := by decide +kernel
theorem dX12_tellMany_123 : decode cX12_tellMany 123 = .ok (.iload 10, 2) := by decide +kernel
theorem dX12_tellMany_125 : decode cX12_tellMany 125 = .ok (.iadd, 1) := by decide +kernel
theorem dX12_tellMany_126 : decode cX12_tellMany 126 = .ok (.iaload, 1) := by decide +kernel
theorem dX12_tellMany_127 : decode cX12_tellMany 127 = .ok (.iconst 1, 1) := by decide +kernel
theorem dX12_tellMany_128 : decode cX12_tellMany 128 = .ok (.iadd, 1) := by decide +kernel
theorem dX12_tellMany_129 : decode cX12_tellMany 129 = .ok (.istore 11, 2) := by decide +kernel
theorem dX12_tellMany_131 : decode cX12_tellMany 131 = .ok (.iload 11, 2) := by decide +kernel
theorem dX12_tellMany_133 : decode cX12_tellMany 133 = .ok (.aload_n 0, 1) := by decide +kernel
theorem dX12_tellMany_134 : decode cX12_tellMany 134 = .ok (.getfield 104, 3) := by decide +kernel
theorem dX12_tellMany_137 : decode cX12_tellMany 137 = .ok (.bipush 8, 2) := by decide +kernel
theorem dX12_tellMany_139 : decode cX12_tellMany 139 = .ok (.iload 4, 2) := by decide +kernel
theorem dX12_tellMany_141 : decode cX12_tellMany 141 = .ok (.imul, 1) := by decide +kernel
theorem dX12_tellMany_142 : decode cX12_tellMany 142 = .ok (.iload 10, 2) := by decide +kernel
theorem dX12_tellMany_144 : decode cX12_tellMany 144 = .ok (.iadd, 1) := by decide +kernel
theorem dX12_tellMany_145 : decode cX12_tellMany 145 = .ok (.iaload, 1) := by decide +kernel
theorem dX12_tellMany_146 : decode cX12_tellMany 146 = .ok (.if_icmp .ge 27, 3) := by decide +kernel
theorem dX12_tellMany_149 : decode cX12_tellMany 149 = .ok (.aload_n 0, 1) := by decide +kernel
theorem dX12_tellMany_150 : decode cX12_tellMany 150 = .ok (.iload 10, 2) := by decide +kernel
theorem dX12_tellMany_152 : decode cX12_tellMany 152 = .ok (.iload 11, 2) := by decide +kernel
theorem dX12_tellMany_154 : decode cX12_tellMany 154 = .ok (.invokevirtual 308, 3) := by decide +kernel
theorem dX12_tellMany_157 : decode cX12_tellMany 157 = .ok (.aload_n 0, 1) := by decide +kernel
theorem dX12_tellMany_158 : decode cX12_tellMany 158 = .ok (.getfield 61, 3) := by decide +kernel
theorem dX12_tellMany_161 : decode cX12_tellMany 161 = .ok (.iload 5, 2) := by decide +kernel
theorem dX12_tellMany_163 : decode cX12_tellMany 163 = .ok (.iaload, 1) := by decide +kernel
theorem dX12_tellMany_164 : decode cX12_tellMany 164 = .ok (.if_icmp .le 9, 3) := by decide +kernel
theorem dX12_tellMany_167 : decode cX12_tellMany 167 = .ok (.iinc 11 1, 3) := by decide +kernel
theorem dX12_tellMany_170 : decode cX12_tellMany 170 = .ok (.goto (-39), 3) := by decide +kernel
theorem dX12_tellMany_173 : decode cX12_tellMany 173 = .ok (.aload_n 0, 1) := by decide +kernel
theorem dX12_tellMany_174 : decode cX12_tellMany 174 = .ok (.getfield 104, 3) := by decide +kernel
theorem dX12_tellMany_177 : decode cX12_tellMany 177 = .ok (.bipush 8, 2) := by decide +kernel
theorem dX12_tellMany_179 : decode cX12_tellMany 179 = .ok (.iload 7, 2) := by decide +kernel
theorem dX12_tellMany_181 : decode cX12_tellMany 181 = .ok (.imul, 1) := by decide +kernel
theorem dX12_tellMany_182 : decode cX12_tellMany 182 = .ok (.iload 10, 2) := by decide +kernel
theorem dX12_tellMany_184 : decode cX12_tellMany 184 = .ok (.iadd, 1) := by decide +kernel
theorem dX12_tellMany_185 : decode cX12_tellMany 185 = .ok (.iload 11, 2) := by decide +kernel
theorem dX12_tellMany_187 : decode cX12_tellMany 187 = .ok (.iastore, 1) := by decide +kernel
theorem dX12_tellMany_188 : decode cX12_tellMany 188 = .ok (.iinc 10 1, 3) := by decide +kernel
theorem dX12_tellMany_191 : decode cX12_tellMany 191 = .ok (.goto (-107), 3) := by decide +kernel
theorem dX12_tellMany_194 : decode cX12_tellMany 194 = .ok (.iload 9, 2) := by decide +kernel
theorem dX12_tellMany_196 : decode cX12_tellMany 196 = .ok (.ifCond .ne 9, 3) := by decide +kernel
theorem dX12_tellMany_199 : decode cX12_tellMany 199 = .ok (.aload_n 0, 1) := by decide +kernel
theorem dX12_tellMany_200 : decode cX12_tellMany 200 = .ok (.bipush 32, 2) := by decide +kernel
theorem dX12_tellMany_202 : decode cX12_tellMany 202 = .ok (.invokevirtual 438, 3) := by decide +kernel
theorem dX12_tellMany_205 : decode cX12_tellMany 205 = .ok (.iconst 0, 1) := by decide +kernel
theorem dX12_tellMany_206 : decode cX12_tellMany 206 = .ok (.istore 9, 2) := by decide +kernel
theorem dX12_tellMany_208 : decode cX12_tellMany 208 = .ok (.aload_n 0, 1) := by decide +kernel
theorem dX12_tellMany_209 : decode cX12_tellMany 209 = .ok (.iload_n 1, 1) := by decide +kernel
theorem dX12_tellMany_210 : decode cX12_tellMany 210 = .ok (.iload_n 2, 1) := by decide +kernel
theorem dX12_tellMany_211 : decode cX12_tellMany 211 = .ok (.iload_n 3, 1) := by decide +kernel
theorem dX12_tellMany_212 : decode cX12_tellMany 212 = .ok (.iload 7, 2) := by decide +kernel
theorem dX12_tellMany_214 : decode cX12_tellMany 214 = .ok (.invokevirtual 450, 3) := by decide +kernel
theorem dX12_tellMany_217 : decode cX12_tellMany 217 = .ok (.aload_n 0, 1) := by decide +kernel
theorem dX12_tellMany_218 : decode cX12_tellMany 218 = .ok (.getfield 104, 3) := by decide +kernel
theorem dX12_tellMany_221 : decode cX12_tellMany 221 = .ok (.bipush 8, 2) := by decide +kernel
theorem dX12_tellMany_223 : decode cX12_tellMany 223 = .ok (.iload 7, 2) := by decide +kernel
theorem dX12_tellMany_225 : decode cX12_tellMany 225 = .ok (.imul, 1) := by decide +kernel
theorem dX12_tellMany_226 : decode cX12_tellMany 226 = .ok (.iload 6, 2) := by decide +kernel
theorem dX12_tellMany_228 : decode cX12_tellMany 228 = .ok (.iadd, 1) := by decide +kernel
theorem dX12_tellMany_229 : decode cX12_tellMany 229 = .ok (.iaload, 1) := by decide +kernel
theorem dX12_tellMany_230 : decode cX12_tellMany 230 = .ok (.aload_n 0, 1) := by decide +kernel
theorem dX12_tellMany_231 : decode cX12_tellMany 231 = .ok (.getfield 104, 3) := by decide +kernel
theorem dX12_tellMany_234 : decode cX12_tellMany 234 = .ok (.bipush 8, 2) := by decide +kernel
theorem dX12_tellMany_236 : decode cX12_tellMany 236 = .ok (.iload 4, 2) := by decide +kernel
theorem dX12_tellMany_238 : decode cX12_tellMany 238 = .ok (.imul, 1) := by decide +kernel
theorem dX12_tellMany_239 : decode cX12_tellMany 239 = .ok (.iload 6, 2) := by decide +kernel
theorem dX12_tellMany_241 : decode cX12_tellMany 241 = .ok (.iadd, 1) := by decide +kernel
theorem dX12_tellMany_242 : decode cX12_tellMany 242 = .ok (.iaload, 1) := by decide +kernel
theorem dX12_tellMany_243 : decode cX12_tellMany 243 = .ok (.if_icmp .ge 7, 3) := by decide +kernel
theorem dX12_tellMany_246 : decode cX12_tellMany 246 = .ok (.iconst 1, 1) := by decide +kernel
theorem dX12_tellMany_247 : decode cX12_tellMany 247 = .ok (.goto 4, 3) := by decide +kernel
theorem dX12_tellMany_250 : decode cX12_tellMany 250 = .ok (.iconst 0, 1) := by decide +kernel
theorem dX12_tellMany_251 : decode cX12_tellMany 251 = .ok (.istore 8, 2) := by decide +kernel
theorem dX12_tellMany_253 : decode cX12_tellMany 253 = .ok (.iconst 0, 1) := by decide +kernel
theorem dX12_tellMany_254 : decode cX12_tellMany 254 = .ok (.istore 10, 2) := by decide +kernel
theorem dX12_tellMany_256 : decode cX12_tellMany 256 = .ok (.iload 10, 2) := by decide +kernel
theorem dX12_tellMany_258 : decode cX12_tellMany 258 = .ok (.aload_n 0, 1) := by decide +kernel
theorem dX12_tellMany_259 : decode cX12_tellMany 259 = .ok (.getfield 76, 3) := by decide +kernel
theorem dX12_tellMany_262 : decode cX12_tellMany 262 = .ok (.iconst 0, 1) := by decide +kernel
theorem dX12_tellMany_263 : decode cX12_tellMany 263 = .ok (.iaload, 1) := by decide +kernel
theorem dX12_tellMany_264 : decode cX12_tellMany 264 = .ok (.if_icmp .ge 51, 3) := by decide +kernel
theorem dX12_tellMany_267 : decode cX12_tellMany 267 = .ok (.aload_n 0, 1) := by decide +kernel
theorem dX12_tellMany_268 : decode cX12_tellMany 268 = .ok (.aload_n 0, 1) := by decide +kernel
theorem dX12_tellMany_269 : decode cX12_tellMany 269 = .ok (.getfield 79, 3) := by decide +kernel
theorem dX12_tellMany_272 : decode cX12_tellMany 272 = .ok (.iload 10, 2) := by decide +kernel
theorem dX12_tellMany_274 : decode cX12_tellMany 274 = .ok (.iaload, 1) := by decide +kernel
theorem dX12_tellMany_275 : decode cX12_tellMany 275 = .ok (.iload 5, 2) := by decide +kernel
theorem dX12_tellMany_277 : decode cX12_tellMany 277 = .ok (.invokevirtual 265, 3) := by decide +kernel
theorem dX12_tellMany_280 : decode cX12_tellMany 280 = .ok (.ifCond .eq 29, 3) := by decide +kernel
theorem dX12_tellMany_283 : decode cX12_tellMany 283 = .ok (.aload_n 0, 1) := by decide +kernel
theorem dX12_tellMany_284 : decode cX12_tellMany 284 = .ok (.getfield 101, 3) := by decide +kernel
theorem dX12_tellMany_287 : decode cX12_tellMany 287 = .ok (.bipush 8, 2) := by decide +kernel
theorem dX12_tellMany_289 : decode cX12_tellMany 289 = .ok (.iload 7, 2) := by decide +kernel
theorem dX12_tellMany_291 : decode cX12_tellMany 291 = .ok (.imul, 1) := by decide +kernel
theorem dX12_tellMany_292 : decode cX12_tellMany 292 = .ok (.iload 10, 2) := by decide +kernel
theorem dX12_tellMany_294 : decode cX12_tellMany 294 = .ok (.iadd, 1) := by decide +kernel
theorem dX12_tellMany_295 : decode cX12_tellMany 295 = .ok (.aload_n 0, 1) := by decide +kernel
theorem dX12_tellMany_296 : decode cX12_tellMany 296 = .ok (.getfield 104, 3) := by decide +kernel
theorem dX12_tellMany_299 : decode cX12_tellMany 299 = .ok (.bipush 8, 2) := by decide +kernel
theorem dX12_tellMany_301 : decode cX12_tellMany 301 = .ok (.iload 7, 2) := by decide +kernel
theorem dX12_tellMany_303 : decode cX12_tellMany 303 = .ok (.imul, 1) := by decide +kernel
theorem dX12_tellMany_304 : decode cX12_tellMany 304 = .ok (.iload 10, 2) := by decide +kernel
theorem dX12_tellMany_306 : decode cX12_tellMany 306 = .ok (.iadd, 1) := by decide +kernel
theorem dX12_tellMany_307 : decode cX12_tellMany 307 = .ok (.iaload, 1) := by decide +kernel
theorem dX12_tellMany_308 : decode cX12_tellMany 308 = .ok (.iastore, 1) := by decide +kernel
theorem dX12_tellMany_309 : decode cX12_tellMany 309 = .ok (.iinc 10 1, 3) := by decide +kernel
theorem dX12_tellMany_312 : decode cX12_tellMany 312 = .ok (.goto (-56), 3) := by decide +kernel
theorem dX12_tellMany_315 : decode cX12_tellMany 315 = .ok (.goto (-239), 3) := by decide +kernel
theorem dX12_tellMany_318 : decode cX12_tellMany 318 = .ok (.return_, 1) := by decide +kernel
theorem dX12_tellField_0 : decode cX12_tellField 0 = .ok (.aload_n 0, 1) := by decide +kernel
theorem dX12_tellField_1 : decode cX12_tellField 1 = .ok (.getfield 67, 3) := by decide +kernel
theorem dX12_tellField_4 : decode cX12_tellField 4 = .ok (.iload_n 1, 1) := by decide +kernel
theorem dX12_tellField_5 : decode cX12_tellField 5 = .ok (.iload_n 2, 1) := by decide +kernel
theorem dX12_tellField_6 : decode cX12_tellField 6 = .ok (.iadd, 1) := by decide +kernel
theorem dX12_tellField_7 : decode cX12_tellField 7 = .ok (.iaload, 1) := by decide +kernel
theorem dX12_tellField_8 : decode cX12_tellField 8 = .ok (.istore 5, 2) := by decide +kernel
theorem dX12_tellField_10 : decode cX12_tellField 10 = .ok (.aload_n 0, 1) := by decide +kernel
theorem dX12_tellField_11 : decode cX12_tellField 11 = .ok (.getfield 49, 3) := by decide +kernel
theorem dX12_tellField_14 : decode cX12_tellField 14 = .ok (.iload_n 1, 1) := by decide +kernel
theorem dX12_tellField_15 : decode cX12_tellField 15 = .ok (.iload_n 2, 1) := by decide +kernel
theorem dX12_tellField_16 : decode cX12_tellField 16 = .ok (.iadd, 1) := by decide +kernel
theorem dX12_tellField_17 : decode cX12_tellField 17 = .ok (.iaload, 1) := by decide +kernel
theorem dX12_tellField_18 : decode cX12_tellField 18 = .ok (.iconst 2, 1) := by decide +kernel
theorem dX12_tellField_19 : decode cX12_tellField 19 = .ok (.if_icmp .ne 7, 3) := by decide +kernel
theorem dX12_tellField_22 : decode cX12_tellField 22 = .ok (.iconst 1, 1) := by decide +kernel
theorem dX12_tellField_23 : decode cX12_tellField 23 = .ok (.goto 4, 3) := by decide +kernel
theorem dX12_tellField_26 : decode cX12_tellField 26 = .ok (.iconst 0, 1) := by decide +kernel
theorem dX12_tellField_27 : decode cX12_tellField 27 = .ok (.istore 6, 2) := by decide +kernel
theorem dX12_tellField_29 : decode cX12_tellField 29 = .ok (.iload 5, 2) := by decide +kernel
theorem dX12_tellField_31 : decode cX12_tellField 31 = .ok (.iconst (-1), 1) := by decide +kernel
theorem dX12_tellField_32 : decode cX12_tellField 32 = .ok (.if_icmp .ne 7, 3) := by decide +kernel
theorem dX12_tellField_35 : decode cX12_tellField 35 = .ok (.iconst 0, 1) := by decide +kernel
theorem dX12_tellField_36 : decode cX12_tellField 36 = .ok (.goto 9, 3) := by decide +kernel
theorem dX12_tellField_39 : decode cX12_tellField 39 = .ok (.aload_n 0, 1) := by decide +kernel
theorem dX12_tellField_40 : decode cX12_tellField 40 = .ok (.iload 5, 2) := by decide +kernel
theorem dX12_tellField_42 : decode cX12_tellField 42 = .ok (.invokevirtual 447, 3) := by decide +kernel
theorem dX12_tellField_45 : decode cX12_tellField 45 = .ok (.istore 7, 2) := by decide +kernel
theorem dX12_tellField_47 : decode cX12_tellField 47 = .ok (.iload 5, 2) := by decide +kernel
theorem dX12_tellField_49 : decode cX12_tellField 49 = .ok (.iconst (-1), 1) := by decide +kernel
theorem dX12_tellField_50 : decode cX12_tellField 50 = .ok (.if_icmp .eq 36, 3) := by decide +kernel
theorem dX12_tellField_53 : decode cX12_tellField 53 = .ok (.aload_n 0, 1) := by decide +kernel
theorem dX12_tellField_54 : decode cX12_tellField 54 = .ok (.iload 7, 2) := by decide +kernel
theorem dX12_tellField_56 : decode cX12_tellField 56 = .ok (.aload_n 0, 1) := by decide +kernel
theorem dX12_tellField_57 : decode cX12_tellField 57 = .ok (.getfield 101, 3) := by decide +kernel
theorem dX12_tellField_60 : decode cX12_tellField 60 = .ok (.bipush 8, 2) := by decide +kernel
theorem dX12_tellField_62 : decode cX12_tellField 62 = .ok (.iload 4, 2) := by decide +kernel
theorem dX12_tellField_64 : decode cX12_tellField 64 = .ok (.imul, 1) := by decide +kernel
theorem dX12_tellField_65 : decode cX12_tellField 65 = .ok (.iload 7, 2) := by decide +kernel
theorem dX12_tellField_67 : decode cX12_tellField 67 = .ok (.iadd, 1) := by decide +kernel
theorem dX12_tellField_68 : decode cX12_tellField 68 = .ok (.iaload, 1) := by decide +kernel
theorem dX12_tellField_69 : decode cX12_tellField 69 = .ok (.invokevirtual 258, 3) := by decide +kernel
theorem dX12_tellField_72 : decode cX12_tellField 72 = .ok (.aload_n 0, 1) := by decide +kernel
theorem dX12_tellField_73 : decode cX12_tellField 73 = .ok (.getfield 58, 3) := by decide +kernel
theorem dX12_tellField_76 : decode cX12_tellField 76 = .ok (.iload 5, 2) := by decide +kernel
theorem dX12_tellField_78 : decode cX12_tellField 78 = .ok (.iaload, 1) := by decide +kernel
theorem dX12_tellField_79 : decode cX12_tellField 79 = .ok (.if_icmp .lt 7, 3) := by decide +kernel
theorem dX12_tellField_82 : decode cX12_tellField 82 = .ok (.iconst 1, 1) := by decide +kernel
theorem dX12_tellField_83 : decode cX12_tellField 83 = .ok (.goto 4, 3) := by decide +kernel
theorem dX12_tellField_86 : decode cX12_tellField 86 = .ok (.iconst 0, 1) := by decide +kernel
theorem dX12_tellField_87 : decode cX12_tellField 87 = .ok (.istore 8, 2) := by decide +kernel
theorem dX12_tellField_89 : decode cX12_tellField 89 = .ok (.iload 6, 2) := by decide +kernel
theorem dX12_tellField_91 : decode cX12_tellField 91 = .ok (.ifCond .eq 9, 3) := by decide +kernel
theorem dX12_tellField_94 : decode cX12_tellField 94 = .ok (.aload_n 0, 1) := by decide +kernel
theorem dX12_tellField_95 : decode cX12_tellField 95 = .ok (.bipush 91, 2) := by decide +kernel
theorem dX12_tellField_97 : decode cX12_tellField 97 = .ok (.invokevirtual 438, 3) := by decide +kernel
theorem dX12_tellField_100 : decode cX12_tellField 100 = .ok (.iload 8, 2) := by decide +kernel
theorem dX12_tellField_102 : decode cX12_tellField 102 = .ok (.ifCond .eq 20, 3) := by decide +kernel
theorem dX12_tellField_105 : decode cX12_tellField 105 = .ok (.iload 6, 2) := by decide +kernel
theorem dX12_tellField_107 : decode cX12_tellField 107 = .ok (.ifCond .eq 15, 3) := by decide +kernel
theorem dX12_tellField_110 : decode cX12_tellField 110 = .ok (.aload_n 0, 1) := by decide +kernel
theorem dX12_tellField_111 : decode cX12_tellField 111 = .ok (.iload_n 1, 1) := by decide +kernel
theorem dX12_tellField_112 : decode cX12_tellField 112 = .ok (.iload_n 2, 1) := by decide +kernel
theorem dX12_tellField_113 : decode cX12_tellField 113 = .ok (.iload_n 3, 1) := by decide +kernel
theorem dX12_tellField_114 : decode cX12_tellField 114 = .ok (.iload 4, 2) := by decide +kernel
theorem dX12_tellField_116 : decode cX12_tellField 116 = .ok (.invokevirtual 453, 3) := by decide +kernel
theorem dX12_tellField_119 : decode cX12_tellField 119 = .ok (.goto 31, 3) := by decide +kernel
theorem dX12_tellField_122 : decode cX12_tellField 122 = .ok (.iload 8, 2) := by decide +kernel
theorem dX12_tellField_124 : decode cX12_tellField 124 = .ok (.ifCond .eq 15, 3) := by decide +kernel
theorem dX12_tellField_127 : decode cX12_tellField 127 = .ok (.aload_n 0, 1) := by decide +kernel
theorem dX12_tellField_128 : decode cX12_tellField 128 = .ok (.iload_n 1, 1) := by decide +kernel
theorem dX12_tellField_129 : decode cX12_tellField 129 = .ok (.iload_n 2, 1) := by decide +kernel
theorem dX12_tellField_130 : decode cX12_tellField 130 = .ok (.iload_n 3, 1) := by decide +kernel
theorem dX12_tellField_131 : decode cX12_tellField 131 = .ok (.iload 4, 2) := by decide +kernel
theorem dX12_tellField_133 : decode cX12_tellField 133 = .ok (.invokevirtual 450, 3) := by decide +kernel
theorem dX12_tellField_136 : decode cX12_tellField 136 = .ok (.goto 14, 3) := by decide +kernel
theorem dX12_tellField_139 : decode cX12_tellField 139 = .ok (.iload 6, 2) := by decide +kernel
theorem dX12_tellField_141 : decode cX12_tellField 141 = .ok (.ifCond .ne 9, 3) := by decide +kernel
theorem dX12_tellField_144 : decode cX12_tellField 144 = .ok (.aload_n 0, 1) := by decide +kernel
theorem dX12_tellField_145 : decode cX12_tellField 145 = .ok (.bipush 45, 2) := by decide +kernel
theorem dX12_tellField_147 : decode cX12_tellField 147 = .ok (.invokevirtual 438, 3) := by decide +kernel
theorem dX12_tellField_150 : decode cX12_tellField 150 = .ok (.iload 6, 2) := by decide +kernel
theorem dX12_tellField_152 : decode cX12_tellField 152 = .ok (.ifCond .eq 9, 3) := by decide +kernel
theorem dX12_tellField_155 : decode cX12_tellField 155 = .ok (.aload_n 0, 1) := by decide +kernel
theorem dX12_tellField_156 : decode cX12_tellField 156 = .ok (.bipush 93, 2) := by decide +kernel
theorem dX12_tellField_158 : decode cX12_tellField 158 = .ok (.invokevirtual 438, 3) := by decide +kernel
theorem dX12_tellField_161 : decode cX12_tellField 161 = .ok (.return_, 1) := by decide +kernel
theorem dX12_tellValues_0 : decode cX12_tellValues 0 = .ok (.iconst 1, 1) := by decide +kernel
theorem dX12_tellValues_1 : decode cX12_tellValues 1 = .ok (.istore 5, 2) := by decide +kernel
theorem dX12_tellValues_3 : decode cX12_tellValues 3 = .ok (.iload_n 1, 1) := by decide +kernel
theorem dX12_tellValues_4 : decode cX12_tellValues 4 = .ok (.ifCond .ne 12, 3) := by decide +kernel
theorem dX12_tellValues_7 : decode cX12_tellValues 7 = .ok (.aload_n 0, 1) := by decide +kernel
theorem dX12_tellValues_8 : decode cX12_tellValues 8 = .ok (.getfield 73, 3) := by decide +kernel
theorem dX12_tellValues_11 : decode cX12_tellValues 11 = .ok (.iconst 0, 1) := by decide +kernel
theorem dX12_tellValues_12 : decode cX12_tellValues 12 = .ok (.iaload, 1) := by decide +kernel
theorem dX12_tellValues_13 : decode cX12_tellValues 13 = .ok (.goto 9, 3) := by decide +kernel
theorem dX12_tellValues_16 : decode cX12_tellValues 16 = .ok (.aload_n 0, 1) := by decide +kernel
theorem dX12_tellValues_17 : decode cX12_tellValues 17 = .ok (.getfield 73, 3) := by decide +kernel
theorem dX12_tellValues_20 : decode cX12_tellValues 20 = .ok (.iconst 1, 1) := by decide +kernel
theorem dX12_tellValues_21 : decode cX12_tellValues 21 = .ok (.iaload, 1) := by decide +kernel
theorem dX12_tellValues_22 : decode cX12_tellValues 22 = .ok (.istore 6, 2) := by decide +kernel
theorem dX12_tellValues_24 : decode cX12_tellValues 24 = .ok (.iconst 0, 1) := by decide +kernel
theorem dX12_tellValues_25 : decode cX12_tellValues 25 = .ok (.istore 7, 2) := by decide +kernel
theorem dX12_tellValues_27 : decode cX12_tellValues 27 = .ok (.iload 7, 2) := by decide +kernel
theorem dX12_tellValues_29 : decode cX12_tellValues 29 = .ok (.iload 6, 2) := by decide +kernel
theorem dX12_tellValues_31 : decode cX12_tellValues 31 = .ok (.if_icmp .ge 60, 3) := by decide +kernel
theorem dX12_tellValues_34 : decode cX12_tellValues 34 = .ok (.aload_n 0, 1) := by decide +kernel
theorem dX12_tellValues_35 : decode cX12_tellValues 35 = .ok (.getfield 52, 3) := by decide +kernel
theorem dX12_tellValues_38 : decode cX12_tellValues 38 = .ok (.iload_n 1, 1) := by decide +kernel
theorem dX12_tellValues_39 : decode cX12_tellValues 39 = .ok (.iload 7, 2) := by decide +kernel
theorem dX12_tellValues_41 : decode cX12_tellValues 41 = .ok (.iadd, 1) := by decide +kernel
theorem dX12_tellValues_42 : decode cX12_tellValues 42 = .ok (.iaload, 1) := by decide +kernel
theorem dX12_tellValues_43 : decode cX12_tellValues 43 = .ok (.iload_n 2, 1) := by decide +kernel
theorem dX12_tellValues_44 : decode cX12_tellValues 44 = .ok (.if_icmp .ne 41, 3) := by decide +kernel
theorem dX12_tellValues_47 : decode cX12_tellValues 47 = .ok (.aload_n 0, 1) := by decide +kernel
theorem dX12_tellValues_48 : decode cX12_tellValues 48 = .ok (.iload_n 1, 1) := by decide +kernel
theorem dX12_tellValues_49 : decode cX12_tellValues 49 = .ok (.iload 7, 2) := by decide +kernel
theorem dX12_tellValues_51 : decode cX12_tellValues 51 = .ok (.iload_n 3, 1) := by decide +kernel
theorem dX12_tellValues_52 : decode cX12_tellValues 52 = .ok (.invokevirtual 456, 3) := by decide +kernel
theorem dX12_tellValues_55 : decode cX12_tellValues 55 = .ok (.ifCond .ne 6, 3) := by decide +kernel
theorem dX12_tellValues_58 : decode cX12_tellValues 58 = .ok (.goto 27, 3) := by decide +kernel
theorem dX12_tellValues_61 : decode cX12_tellValues 61 = .ok (.iload 5, 2) := by decide +kernel
theorem dX12_tellValues_63 : decode cX12_tellValues 63 = .ok (.ifCond .ne 9, 3) := by decide +kernel
theorem dX12_tellValues_66 : decode cX12_tellValues 66 = .ok (.aload_n 0, 1) := by decide +kernel
theorem dX12_tellValues_67 : decode cX12_tellValues 67 = .ok (.bipush 32, 2) := by decide +kernel
theorem dX12_tellValues_69 : decode cX12_tellValues 69 = .ok (.invokevirtual 438, 3) := by decide +kernel
theorem dX12_tellValues_72 : decode cX12_tellValues 72 = .ok (.iconst 0, 1) := by decide +kernel
theorem dX12_tellValues_73 : decode cX12_tellValues 73 = .ok (.istore 5, 2) := by decide +kernel
theorem dX12_tellValues_75 : decode cX12_tellValues 75 = .ok (.aload_n 0, 1) := by decide +kernel
theorem dX12_tellValues_76 : decode cX12_tellValues 76 = .ok (.iload_n 1, 1) := by decide +kernel
theorem dX12_tellValues_77 : decode cX12_tellValues 77 = .ok (.iload 7, 2) := by decide +kernel
theorem dX12_tellValues_79 : decode cX12_tellValues 79 = .ok (.iload_n 3, 1) := by decide +kernel
theorem dX12_tellValues_80 : decode cX12_tellValues 80 = .ok (.iload 4, 2) := by decide +kernel
theorem dX12_tellValues_82 : decode cX12_tellValues 82 = .ok (.invokevirtual 459, 3) := by decide +kernel
theorem dX12_tellValues_85 : decode cX12_tellValues 85 = .ok (.iinc 7 1, 3) := by decide +kernel
theorem dX12_tellValues_88 : decode cX12_tellValues 88 = .ok (.goto (-61), 3) := by decide +kernel
theorem dX12_tellValues_91 : decode cX12_tellValues 91 = .ok (.return_, 1) := by decide +kernel
