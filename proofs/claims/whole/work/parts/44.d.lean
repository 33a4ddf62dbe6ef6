theorem dX12_tellHarmless_0 : decode cX12_tellHarmless 0 = .ok (.aload_n 0, 1) := by decide +kernel
theorem dX12_tellHarmless_1 : decode cX12_tellHarmless 1 = .ok (.iconst 0, 1) := by decide +kernel
theorem dX12_tellHarmless_2 : decode cX12_tellHarmless 2 = .ok (.putfield 346, 3) := by decide +kernel
theorem dX12_tellHarmless_5 : decode cX12_tellHarmless 5 = .ok (.aload_n 0, 1) := by decide +kernel
theorem dX12_tellHarmless_6 : decode cX12_tellHarmless 6 = .ok (.iconst (-1), 1) := by decide +kernel
theorem dX12_tellHarmless_7 : decode cX12_tellHarmless 7 = .ok (.putfield 349, 3) := by decide +kernel
theorem dX12_tellHarmless_10 : decode cX12_tellHarmless 10 = .ok (.aload_n 0, 1) := by decide +kernel
theorem dX12_tellHarmless_11 : decode cX12_tellHarmless 11 = .ok (.invokevirtual 288, 3) := by decide +kernel
theorem dX12_tellHarmless_14 : decode cX12_tellHarmless 14 = .ok (.ifCond .eq 4, 3) := by decide +kernel
theorem dX12_tellHarmless_17 : decode cX12_tellHarmless 17 = .ok (.return_, 1) := by decide +kernel
theorem dX12_tellHarmless_18 : decode cX12_tellHarmless 18 = .ok (.iconst 0, 1) := by decide +kernel
theorem dX12_tellHarmless_19 : decode cX12_tellHarmless 19 = .ok (.istore_n 1, 1) := by decide +kernel
theorem dX12_tellHarmless_20 : decode cX12_tellHarmless 20 = .ok (.iload_n 1, 1) := by decide +kernel
theorem dX12_tellHarmless_21 : decode cX12_tellHarmless 21 = .ok (.aload_n 0, 1) := by decide +kernel
theorem dX12_tellHarmless_22 : decode cX12_tellHarmless 22 = .ok (.getfield 76, 3) := by decide +kernel
theorem dX12_tellHarmless_25 : decode cX12_tellHarmless 25 = .ok (.iconst 0, 1) := by decide +kernel
theorem dX12_tellHarmless_26 : decode cX12_tellHarmless 26 = .ok (.iaload, 1) := by decide +kernel
theorem dX12_tellHarmless_27 : decode cX12_tellHarmless 27 = .ok (.if_icmp .ge 114, 3) := by decide +kernel
theorem dX12_tellHarmless_30 : decode cX12_tellHarmless 30 = .ok (.aload_n 0, 1) := by decide +kernel
theorem dX12_tellHarmless_31 : decode cX12_tellHarmless 31 = .ok (.getfield 79, 3) := by decide +kernel
theorem dX12_tellHarmless_34 : decode cX12_tellHarmless 34 = .ok (.iload_n 1, 1) := by decide +kernel
theorem dX12_tellHarmless_35 : decode cX12_tellHarmless 35 = .ok (.iaload, 1) := by decide +kernel
theorem dX12_tellHarmless_36 : decode cX12_tellHarmless 36 = .ok (.istore_n 2, 1) := by decide +kernel
theorem dX12_tellHarmless_37 : decode cX12_tellHarmless 37 = .ok (.iconst 0, 1) := by decide +kernel
theorem dX12_tellHarmless_38 : decode cX12_tellHarmless 38 = .ok (.istore_n 3, 1) := by decide +kernel
theorem dX12_tellHarmless_39 : decode cX12_tellHarmless 39 = .ok (.iload_n 3, 1) := by decide +kernel
theorem dX12_tellHarmless_40 : decode cX12_tellHarmless 40 = .ok (.aload_n 0, 1) := by decide +kernel
theorem dX12_tellHarmless_41 : decode cX12_tellHarmless 41 = .ok (.getfield 85, 3) := by decide +kernel
theorem dX12_tellHarmless_44 : decode cX12_tellHarmless 44 = .ok (.iload_n 1, 1) := by decide +kernel
theorem dX12_tellHarmless_45 : decode cX12_tellHarmless 45 = .ok (.iaload, 1) := by decide +kernel
theorem dX12_tellHarmless_46 : decode cX12_tellHarmless 46 = .ok (.if_icmp .ge 89, 3) := by decide +kernel
theorem dX12_tellHarmless_49 : decode cX12_tellHarmless 49 = .ok (.iconst 0, 1) := by decide +kernel
theorem dX12_tellHarmless_50 : decode cX12_tellHarmless 50 = .ok (.istore 4, 2) := by decide +kernel
theorem dX12_tellHarmless_52 : decode cX12_tellHarmless 52 = .ok (.iload 4, 2) := by decide +kernel
theorem dX12_tellHarmless_54 : decode cX12_tellHarmless 54 = .ok (.aload_n 0, 1) := by decide +kernel
theorem dX12_tellHarmless_55 : decode cX12_tellHarmless 55 = .ok (.getfield 61, 3) := by decide +kernel
theorem dX12_tellHarmless_58 : decode cX12_tellHarmless 58 = .ok (.iload_n 2, 1) := by decide +kernel
theorem dX12_tellHarmless_59 : decode cX12_tellHarmless 59 = .ok (.iaload, 1) := by decide +kernel
theorem dX12_tellHarmless_60 : decode cX12_tellHarmless 60 = .ok (.if_icmp .gt 29, 3) := by decide +kernel
theorem dX12_tellHarmless_63 : decode cX12_tellHarmless 63 = .ok (.iload 4, 2) := by decide +kernel
theorem dX12_tellHarmless_65 : decode cX12_tellHarmless 65 = .ok (.aload_n 0, 1) := by decide +kernel
theorem dX12_tellHarmless_66 : decode cX12_tellHarmless 66 = .ok (.iload_n 1, 1) := by decide +kernel
theorem dX12_tellHarmless_67 : decode cX12_tellHarmless 67 = .ok (.iload_n 3, 1) := by decide +kernel
theorem dX12_tellHarmless_68 : decode cX12_tellHarmless 68 = .ok (.invokevirtual 308, 3) := by decide +kernel
theorem dX12_tellHarmless_71 : decode cX12_tellHarmless 71 = .ok (.if_icmp .eq 12, 3) := by decide +kernel
theorem dX12_tellHarmless_74 : decode cX12_tellHarmless 74 = .ok (.aload_n 0, 1) := by decide +kernel
theorem dX12_tellHarmless_75 : decode cX12_tellHarmless 75 = .ok (.iload_n 1, 1) := by decide +kernel
theorem dX12_tellHarmless_76 : decode cX12_tellHarmless 76 = .ok (.iload_n 3, 1) := by decide +kernel
theorem dX12_tellHarmless_77 : decode cX12_tellHarmless 77 = .ok (.iconst 0, 1) := by decide +kernel
theorem dX12_tellHarmless_78 : decode cX12_tellHarmless 78 = .ok (.iload 4, 2) := by decide +kernel
theorem dX12_tellHarmless_80 : decode cX12_tellHarmless 80 = .ok (.invokevirtual 352, 3) := by decide +kernel
theorem dX12_tellHarmless_83 : decode cX12_tellHarmless 83 = .ok (.iinc 4 1, 3) := by decide +kernel
theorem dX12_tellHarmless_86 : decode cX12_tellHarmless 86 = .ok (.goto (-34), 3) := by decide +kernel
theorem dX12_tellHarmless_89 : decode cX12_tellHarmless 89 = .ok (.iconst 0, 1) := by decide +kernel
theorem dX12_tellHarmless_90 : decode cX12_tellHarmless 90 = .ok (.istore 4, 2) := by decide +kernel
theorem dX12_tellHarmless_92 : decode cX12_tellHarmless 92 = .ok (.iload 4, 2) := by decide +kernel
theorem dX12_tellHarmless_94 : decode cX12_tellHarmless 94 = .ok (.aload_n 0, 1) := by decide +kernel
theorem dX12_tellHarmless_95 : decode cX12_tellHarmless 95 = .ok (.getfield 58, 3) := by decide +kernel
theorem dX12_tellHarmless_98 : decode cX12_tellHarmless 98 = .ok (.iload_n 2, 1) := by decide +kernel
theorem dX12_tellHarmless_99 : decode cX12_tellHarmless 99 = .ok (.iaload, 1) := by decide +kernel
theorem dX12_tellHarmless_100 : decode cX12_tellHarmless 100 = .ok (.if_icmp .gt 29, 3) := by decide +kernel
theorem dX12_tellHarmless_103 : decode cX12_tellHarmless 103 = .ok (.iload 4, 2) := by decide +kernel
theorem dX12_tellHarmless_105 : decode cX12_tellHarmless 105 = .ok (.aload_n 0, 1) := by decide +kernel
theorem dX12_tellHarmless_106 : decode cX12_tellHarmless 106 = .ok (.iload_n 1, 1) := by decide +kernel
theorem dX12_tellHarmless_107 : decode cX12_tellHarmless 107 = .ok (.iload_n 3, 1) := by decide +kernel
theorem dX12_tellHarmless_108 : decode cX12_tellHarmless 108 = .ok (.invokevirtual 258, 3) := by decide +kernel
theorem dX12_tellHarmless_111 : decode cX12_tellHarmless 111 = .ok (.if_icmp .eq 12, 3) := by decide +kernel
theorem dX12_tellHarmless_114 : decode cX12_tellHarmless 114 = .ok (.aload_n 0, 1) := by decide +kernel
theorem dX12_tellHarmless_115 : decode cX12_tellHarmless 115 = .ok (.iload_n 1, 1) := by decide +kernel
theorem dX12_tellHarmless_116 : decode cX12_tellHarmless 116 = .ok (.iload_n 3, 1) := by decide +kernel
theorem dX12_tellHarmless_117 : decode cX12_tellHarmless 117 = .ok (.iconst 1, 1) := by decide +kernel
theorem dX12_tellHarmless_118 : decode cX12_tellHarmless 118 = .ok (.iload 4, 2) := by decide +kernel
theorem dX12_tellHarmless_120 : decode cX12_tellHarmless 120 = .ok (.invokevirtual 352, 3) := by decide +kernel
theorem dX12_tellHarmless_123 : decode cX12_tellHarmless 123 = .ok (.iinc 4 1, 3) := by decide +kernel
theorem dX12_tellHarmless_126 : decode cX12_tellHarmless 126 = .ok (.goto (-34), 3) := by decide +kernel
theorem dX12_tellHarmless_129 : decode cX12_tellHarmless 129 = .ok (.iinc 3 1, 3) := by decide +kernel
theorem dX12_tellHarmless_132 : decode cX12_tellHarmless 132 = .ok (.goto (-93), 3) := by decide +kernel
theorem dX12_tellHarmless_135 : decode cX12_tellHarmless 135 = .ok (.iinc 1 1, 3) := by decide +kernel
theorem dX12_tellHarmless_138 : decode cX12_tellHarmless 138 = .ok (.goto (-118), 3) := by decide +kernel
theorem dX12_tellHarmless_141 : decode cX12_tellHarmless 141 = .ok (.return_, 1) := by decide +kernel
theorem dX12_coverNow_0 : decode cX12_coverNow 0 = .ok (.iconst (-1), 1) := by decide +kernel
theorem dX12_coverNow_1 : decode cX12_coverNow 1 = .ok (.istore_n 1, 1) := by decide +kernel
theorem dX12_coverNow_2 : decode cX12_coverNow 2 = .ok (.iconst 0, 1) := by decide +kernel
theorem dX12_coverNow_3 : decode cX12_coverNow 3 = .ok (.istore_n 2, 1) := by decide +kernel
theorem dX12_coverNow_4 : decode cX12_coverNow 4 = .ok (.iload_n 2, 1) := by decide +kernel
theorem dX12_coverNow_5 : decode cX12_coverNow 5 = .ok (.iconst 1, 1) := by decide +kernel
theorem dX12_coverNow_6 : decode cX12_coverNow 6 = .ok (.aload_n 0, 1) := by decide +kernel
theorem dX12_coverNow_7 : decode cX12_coverNow 7 = .ok (.getfield 76, 3) := by decide +kernel
theorem dX12_coverNow_10 : decode cX12_coverNow 10 = .ok (.iconst 0, 1) := by decide +kernel
theorem dX12_coverNow_11 : decode cX12_coverNow 11 = .ok (.iaload, 1) := by decide +kernel
theorem dX12_coverNow_12 : decode cX12_coverNow 12 = .ok (.ishl, 1) := by decide +kernel
theorem dX12_coverNow_13 : decode cX12_coverNow 13 = .ok (.if_icmp .ge 87, 3) := by decide +kernel
theorem dX12_coverNow_16 : decode cX12_coverNow 16 = .ok (.iload_n 1, 1) := by decide +kernel
theorem dX12_coverNow_17 : decode cX12_coverNow 17 = .ok (.iconst (-1), 1) := by decide +kernel
theorem dX12_coverNow_18 : decode cX12_coverNow 18 = .ok (.if_icmp .eq 14, 3) := by decide +kernel
theorem dX12_coverNow_21 : decode cX12_coverNow 21 = .ok (.iload_n 2, 1) := by decide +kernel
theorem dX12_coverNow_22 : decode cX12_coverNow 22 = .ok (.invokestatic 355, 3) := by decide +kernel
theorem dX12_coverNow_25 : decode cX12_coverNow 25 = .ok (.iload_n 1, 1) := by decide +kernel
theorem dX12_coverNow_26 : decode cX12_coverNow 26 = .ok (.invokestatic 355, 3) := by decide +kernel
theorem dX12_coverNow_29 : decode cX12_coverNow 29 = .ok (.if_icmp .ge 7, 3) := by decide +kernel
theorem dX12_coverNow_32 : decode cX12_coverNow 32 = .ok (.iconst 1, 1) := by decide +kernel
theorem dX12_coverNow_33 : decode cX12_coverNow 33 = .ok (.goto 4, 3) := by decide +kernel
theorem dX12_coverNow_36 : decode cX12_coverNow 36 = .ok (.iconst 0, 1) := by decide +kernel
theorem dX12_coverNow_37 : decode cX12_coverNow 37 = .ok (.istore_n 3, 1) := by decide +kernel
theorem dX12_coverNow_38 : decode cX12_coverNow 38 = .ok (.iconst 0, 1) := by decide +kernel
theorem dX12_coverNow_39 : decode cX12_coverNow 39 = .ok (.istore 4, 2) := by decide +kernel
theorem dX12_coverNow_41 : decode cX12_coverNow 41 = .ok (.iload 4, 2) := by decide +kernel
theorem dX12_coverNow_43 : decode cX12_coverNow 43 = .ok (.aload_n 0, 1) := by decide +kernel
theorem dX12_coverNow_44 : decode cX12_coverNow 44 = .ok (.getfield 73, 3) := by decide +kernel
theorem dX12_coverNow_47 : decode cX12_coverNow 47 = .ok (.iconst 0, 1) := by decide +kernel
theorem dX12_coverNow_48 : decode cX12_coverNow 48 = .ok (.iaload, 1) := by decide +kernel
theorem dX12_coverNow_49 : decode cX12_coverNow 49 = .ok (.if_icmp .ge 39, 3) := by decide +kernel
theorem dX12_coverNow_52 : decode cX12_coverNow 52 = .ok (.iload_n 3, 1) := by decide +kernel
theorem dX12_coverNow_53 : decode cX12_coverNow 53 = .ok (.ifCond .eq 35, 3) := by decide +kernel
theorem dX12_coverNow_56 : decode cX12_coverNow 56 = .ok (.aload_n 0, 1) := by decide +kernel
theorem dX12_coverNow_57 : decode cX12_coverNow 57 = .ok (.getfield 49, 3) := by decide +kernel
theorem dX12_coverNow_60 : decode cX12_coverNow 60 = .ok (.iload 4, 2) := by decide +kernel
theorem dX12_coverNow_62 : decode cX12_coverNow 62 = .ok (.iaload, 1) := by decide +kernel
theorem dX12_coverNow_63 : decode cX12_coverNow 63 = .ok (.ifCond .eq 13, 3) := by decide +kernel
theorem dX12_coverNow_66 : decode cX12_coverNow 66 = .ok (.aload_n 0, 1) := by decide +kernel
theorem dX12_coverNow_67 : decode cX12_coverNow 67 = .ok (.iload 4, 2) := by decide +kernel
theorem dX12_coverNow_69 : decode cX12_coverNow 69 = .ok (.iload_n 2, 1) := by decide +kernel
theorem dX12_coverNow_70 : decode cX12_coverNow 70 = .ok (.invokevirtual 358, 3) := by decide +kernel
theorem dX12_coverNow_73 : decode cX12_coverNow 73 = .ok (.ifCond .eq 7, 3) := by decide +kernel
theorem dX12_coverNow_76 : decode cX12_coverNow 76 = .ok (.iconst 1, 1) := by decide +kernel
theorem dX12_coverNow_77 : decode cX12_coverNow 77 = .ok (.goto 4, 3) := by decide +kernel
theorem dX12_coverNow_80 : decode cX12_coverNow 80 = .ok (.iconst 0, 1) := by decide +kernel
theorem dX12_coverNow_81 : decode cX12_coverNow 81 = .ok (.istore_n 3, 1) := by decide +kernel
theorem dX12_coverNow_82 : decode cX12_coverNow 82 = .ok (.iinc 4 1, 3) := by decide +kernel
theorem dX12_coverNow_85 : decode cX12_coverNow 85 = .ok (.goto (-44), 3) := by decide +kernel
theorem dX12_coverNow_88 : decode cX12_coverNow 88 = .ok (.iload_n 3, 1) := by decide +kernel
theorem dX12_coverNow_89 : decode cX12_coverNow 89 = .ok (.ifCond .eq 5, 3) := by decide +kernel
theorem dX12_coverNow_92 : decode cX12_coverNow 92 = .ok (.iload_n 2, 1) := by decide +kernel
theorem dX12_coverNow_93 : decode cX12_coverNow 93 = .ok (.istore_n 1, 1) := by decide +kernel
theorem dX12_coverNow_94 : decode cX12_coverNow 94 = .ok (.iinc 2 1, 3) := by decide +kernel
theorem dX12_coverNow_97 : decode cX12_coverNow 97 = .ok (.goto (-93), 3) := by decide +kernel
theorem dX12_coverNow_100 : decode cX12_coverNow 100 = .ok (.iload_n 1, 1) := by decide +kernel
theorem dX12_coverNow_101 : decode cX12_coverNow 101 = .ok (.ireturn, 1) := by decide +kernel
theorem dX12_hasLeafOf_0 : decode cX12_hasLeafOf 0 = .ok (.iconst 0, 1) := by decide +kernel
theorem dX12_hasLeafOf_1 : decode cX12_hasLeafOf 1 = .ok (.istore_n 3, 1) := by decide +kernel
theorem dX12_hasLeafOf_2 : decode cX12_hasLeafOf 2 = .ok (.iconst 0, 1) := by decide +kernel
theorem dX12_hasLeafOf_3 : decode cX12_hasLeafOf 3 = .ok (.istore 4, 2) := by decide +kernel
theorem dX12_hasLeafOf_5 : decode cX12_hasLeafOf 5 = .ok (.iload 4, 2) := by decide +kernel
theorem dX12_hasLeafOf_7 : decode cX12_hasLeafOf 7 = .ok (.aload_n 0, 1) := by decide +kernel
theorem dX12_hasLeafOf_8 : decode cX12_hasLeafOf 8 = .ok (.getfield 76, 3) := by decide +kernel
theorem dX12_hasLeafOf_11 : decode cX12_hasLeafOf 11 = .ok (.iconst 0, 1) := by decide +kernel
theorem dX12_hasLeafOf_12 : decode cX12_hasLeafOf 12 = .ok (.iaload, 1) := by decide +kernel
theorem dX12_hasLeafOf_13 : decode cX12_hasLeafOf 13 = .ok (.if_icmp .ge 43, 3) := by decide +kernel
theorem dX12_hasLeafOf_16 : decode cX12_hasLeafOf 16 = .ok (.iload_n 3, 1) := by decide +kernel
theorem dX12_hasLeafOf_17 : decode cX12_hasLeafOf 17 = .ok (.ifCond .ne 27, 3) := by decide +kernel
theorem dX12_hasLeafOf_20 : decode cX12_hasLeafOf 20 = .ok (.iload_n 2, 1) := by decide +kernel
theorem dX12_hasLeafOf_21 : decode cX12_hasLeafOf 21 = .ok (.iload 4, 2) := by decide +kernel
theorem dX12_hasLeafOf_23 : decode cX12_hasLeafOf 23 = .ok (.invokestatic 361, 3) := by decide +kernel
theorem dX12_hasLeafOf_26 : decode cX12_hasLeafOf 26 = .ok (.ifCond .eq 22, 3) := by decide +kernel
theorem dX12_hasLeafOf_29 : decode cX12_hasLeafOf 29 = .ok (.aload_n 0, 1) := by decide +kernel
theorem dX12_hasLeafOf_30 : decode cX12_hasLeafOf 30 = .ok (.aload_n 0, 1) := by decide +kernel
theorem dX12_hasLeafOf_31 : decode cX12_hasLeafOf 31 = .ok (.getfield 79, 3) := by decide +kernel
theorem dX12_hasLeafOf_34 : decode cX12_hasLeafOf 34 = .ok (.iload 4, 2) := by decide +kernel
theorem dX12_hasLeafOf_36 : decode cX12_hasLeafOf 36 = .ok (.iaload, 1) := by decide +kernel
theorem dX12_hasLeafOf_37 : decode cX12_hasLeafOf 37 = .ok (.iload_n 1, 1) := by decide +kernel
theorem dX12_hasLeafOf_38 : decode cX12_hasLeafOf 38 = .ok (.invokevirtual 265, 3) := by decide +kernel
theorem dX12_hasLeafOf_41 : decode cX12_hasLeafOf 41 = .ok (.ifCond .eq 7, 3) := by decide +kernel
theorem dX12_hasLeafOf_44 : decode cX12_hasLeafOf 44 = .ok (.iconst 1, 1) := by decide +kernel
theorem dX12_hasLeafOf_45 : decode cX12_hasLeafOf 45 = .ok (.goto 4, 3) := by decide +kernel
theorem dX12_hasLeafOf_48 : decode cX12_hasLeafOf 48 = .ok (.iconst 0, 1) := by decide +kernel
theorem dX12_hasLeafOf_49 : decode cX12_hasLeafOf 49 = .ok (.istore_n 3, 1) := by decide +kernel
theorem dX12_hasLeafOf_50 : decode cX12_hasLeafOf 50 = .ok (.iinc 4 1, 3) := by decide +kernel
theorem dX12_hasLeafOf_53 : decode cX12_hasLeafOf 53 = .ok (.goto (-48), 3) := by decide +kernel
theorem dX12_hasLeafOf_56 : decode cX12_hasLeafOf 56 = .ok (.iload_n 3, 1) := by decide +kernel
theorem dX12_hasLeafOf_57 : decode cX12_hasLeafOf 57 = .ok (.ireturn, 1) := by decide +kernel
theorem dX12_greatest_0 : decode cX12_greatest 0 = .ok (.iconst 0, 1) := by decide +kernel
theorem dX12_greatest_1 : decode cX12_greatest 1 = .ok (.istore_n 2, 1) := by decide +kernel
theorem dX12_greatest_2 : decode cX12_greatest 2 = .ok (.iconst 0, 1) := by decide +kernel
theorem dX12_greatest_3 : decode cX12_greatest 3 = .ok (.istore_n 3, 1) := by decide +kernel
theorem dX12_greatest_4 : decode cX12_greatest 4 = .ok (.iload_n 3, 1) := by decide +kernel
theorem dX12_greatest_5 : decode cX12_greatest 5 = .ok (.aload_n 0, 1) := by decide +kernel
theorem dX12_greatest_6 : decode cX12_greatest 6 = .ok (.getfield 73, 3) := by decide +kernel
theorem dX12_greatest_9 : decode cX12_greatest 9 = .ok (.iconst 0, 1) := by decide +kernel
theorem dX12_greatest_10 : decode cX12_greatest 10 = .ok (.iaload, 1) := by decide +kernel
theorem dX12_greatest_11 : decode cX12_greatest 11 = .ok (.if_icmp .ge 17, 3) := by decide +kernel
theorem dX12_greatest_14 : decode cX12_greatest 14 = .ok (.iload_n 2, 1) := by decide +kernel
theorem dX12_greatest_15 : decode cX12_greatest 15 = .ok (.aload_n 1, 1) := by decide +kernel
theorem dX12_greatest_16 : decode cX12_greatest 16 = .ok (.iload_n 3, 1) := by decide +kernel
theorem dX12_greatest_17 : decode cX12_greatest 17 = .ok (.iaload, 1) := by decide +kernel
theorem dX12_greatest_18 : decode cX12_greatest 18 = .ok (.invokestatic 364, 3) := by decide +kernel
theorem dX12_greatest_21 : decode cX12_greatest 21 = .ok (.istore_n 2, 1) := by decide +kernel
theorem dX12_greatest_22 : decode cX12_greatest 22 = .ok (.iinc 3 1, 3) := by decide +kernel
theorem dX12_greatest_25 : decode cX12_greatest 25 = .ok (.goto (-21), 3) := by decide +kernel
theorem dX12_greatest_28 : decode cX12_greatest 28 = .ok (.iload_n 2, 1) := by decide +kernel
theorem dX12_greatest_29 : decode cX12_greatest 29 = .ok (.ireturn, 1) := by decide +kernel
theorem dX12_allEntries_0 : decode cX12_allEntries 0 = .ok (.iconst 0, 1) := by decide +kernel
theorem dX12_allEntries_1 : decode cX12_allEntries 1 = .ok (.istore_n 1, 1) := by decide +kernel
theorem dX12_allEntries_2 : decode cX12_allEntries 2 = .ok (.iconst 0, 1) := by decide +kernel
theorem dX12_allEntries_3 : decode cX12_allEntries 3 = .ok (.istore_n 2, 1) := by decide +kernel
theorem dX12_allEntries_4 : decode cX12_allEntries 4 = .ok (.iload_n 2, 1) := by decide +kernel
theorem dX12_allEntries_5 : decode cX12_allEntries 5 = .ok (.aload_n 0, 1) := by decide +kernel
theorem dX12_allEntries_6 : decode cX12_allEntries 6 = .ok (.getfield 76, 3) := by decide +kernel
theorem dX12_allEntries_9 : decode cX12_allEntries 9 = .ok (.iconst 0, 1) := by decide +kernel
theorem dX12_allEntries_10 : decode cX12_allEntries 10 = .ok (.iaload, 1) := by decide +kernel
theorem dX12_allEntries_11 : decode cX12_allEntries 11 = .ok (.if_icmp .ge 18, 3) := by decide +kernel
theorem dX12_allEntries_14 : decode cX12_allEntries 14 = .ok (.iload_n 1, 1) := by decide +kernel
theorem dX12_allEntries_15 : decode cX12_allEntries 15 = .ok (.aload_n 0, 1) := by decide +kernel
theorem dX12_allEntries_16 : decode cX12_allEntries 16 = .ok (.getfield 85, 3) := by decide +kernel
theorem dX12_allEntries_19 : decode cX12_allEntries 19 = .ok (.iload_n 2, 1) := by decide +kernel
theorem dX12_allEntries_20 : decode cX12_allEntries 20 = .ok (.iaload, 1) := by decide +kernel
theorem dX12_allEntries_21 : decode cX12_allEntries 21 = .ok (.iadd, 1) := by decide +kernel
theorem dX12_allEntries_22 : decode cX12_allEntries 22 = .ok (.istore_n 1, 1) := by decide +kernel
theorem dX12_allEntries_23 : decode cX12_allEntries 23 = .ok (.iinc 2 1, 3) := by decide +kernel
theorem dX12_allEntries_26 : decode cX12_allEntries 26 = .ok (.goto (-22), 3) := by decide +kernel
theorem dX12_allEntries_29 : decode cX12_allEntries 29 = .ok (.iload_n 1, 1) := by decide +kernel
theorem dX12_allEntries_30 : decode cX12_allEntries 30 = .ok (.ireturn, 1) := by decide +kernel
theorem dX12_count_0 : decode cX12_count 0 = .ok (.aload_n 0, 1) := by decide +kernel
theorem dX12_count_1 : decode cX12_count 1 = .ok (.iconst 0, 1) := by decide +kernel
theorem dX12_count_2 : decode cX12_count 2 = .ok (.putfield 125, 3) := by decide +kernel
theorem dX12_count_5 : decode cX12_count 5 = .ok (.iload_n 1, 1) := by decide +kernel
theorem dX12_count_6 : decode cX12_count 6 = .ok (.tableswitch 208 0 17 #[86, 93, 100, 105, 110, 119, 128, 135, 140, 145, 150, 160, 170, 179, 188, 193, 198, 198], 86) := by decide +kernel
theorem dX12_count_92 : decode cX12_count 92 = .ok (.aload_n 0, 1) := by decide +kernel
theorem dX12_count_93 : decode cX12_count 93 = .ok (.getfield 73, 3) := by decide +kernel
theorem dX12_count_96 : decode cX12_count 96 = .ok (.iconst 0, 1) := by decide +kernel
theorem dX12_count_97 : decode cX12_count 97 = .ok (.iaload, 1) := by decide +kernel
theorem dX12_count_98 : decode cX12_count 98 = .ok (.ireturn, 1) := by decide +kernel
theorem dX12_count_99 : decode cX12_count 99 = .ok (.aload_n 0, 1) := by decide +kernel
theorem dX12_count_100 : decode cX12_count 100 = .ok (.getfield 76, 3) := by decide +kernel
theorem dX12_count_103 : decode cX12_count 103 = .ok (.iconst 0, 1) := by decide +kernel
theorem dX12_count_104 : decode cX12_count 104 = .ok (.iaload, 1) := by decide +kernel
theorem dX12_count_105 : decode cX12_count 105 = .ok (.ireturn, 1) := by decide +kernel
theorem dX12_count_106 : decode cX12_count 106 = .ok (.aload_n 0, 1) := by decide +kernel
theorem dX12_count_107 : decode cX12_count 107 = .ok (.getfield 249, 3) := by decide +kernel
theorem dX12_count_110 : decode cX12_count 110 = .ok (.ireturn, 1) := by decide +kernel
theorem dX12_count_111 : decode cX12_count 111 = .ok (.aload_n 0, 1) := by decide +kernel
theorem dX12_count_112 : decode cX12_count 112 = .ok (.invokevirtual 367, 3) := by decide +kernel
theorem dX12_count_115 : decode cX12_count 115 = .ok (.ireturn, 1) := by decide +kernel
theorem dX12_count_116 : decode cX12_count 116 = .ok (.aload_n 0, 1) := by decide +kernel
theorem dX12_count_117 : decode cX12_count 117 = .ok (.aload_n 0, 1) := by decide +kernel
theorem dX12_count_118 : decode cX12_count 118 = .ok (.getfield 58, 3) := by decide +kernel
theorem dX12_count_121 : decode cX12_count 121 = .ok (.invokevirtual 370, 3) := by decide +kernel
theorem dX12_count_124 : decode cX12_count 124 = .ok (.ireturn, 1) := by decide +kernel
theorem dX12_count_125 : decode cX12_count 125 = .ok (.aload_n 0, 1) := by decide +kernel
theorem dX12_count_126 : decode cX12_count 126 = .ok (.aload_n 0, 1) := by decide +kernel
theorem dX12_count_127 : decode cX12_count 127 = .ok (.getfield 61, 3) := by decide +kernel
theorem dX12_count_130 : decode cX12_count 130 = .ok (.invokevirtual 370, 3) := by decide +kernel
theorem dX12_count_133 : decode cX12_count 133 = .ok (.ireturn, 1) := by decide +kernel
theorem dX12_count_134 : decode cX12_count 134 = .ok (.aload_n 0, 1) := by decide +kernel
theorem dX12_count_135 : decode cX12_count 135 = .ok (.getfield 73, 3) := by decide +kernel
theorem dX12_count_138 : decode cX12_count 138 = .ok (.iconst 1, 1) := by decide +kernel
theorem dX12_count_139 : decode cX12_count 139 = .ok (.iaload, 1) := by decide +kernel
theorem dX12_count_140 : decode cX12_count 140 = .ok (.ireturn, 1) := by decide +kernel
theorem dX12_count_141 : decode cX12_count 141 = .ok (.aload_n 0, 1) := by decide +kernel
theorem dX12_count_142 : decode cX12_count 142 = .ok (.getfield 246, 3) := by decide +kernel
theorem dX12_count_145 : decode cX12_count 145 = .ok (.ireturn, 1) := by decide +kernel
theorem dX12_count_146 : decode cX12_count 146 = .ok (.aload_n 0, 1) := by decide +kernel
theorem dX12_count_147 : decode cX12_count 147 = .ok (.invokevirtual 374, 3) := by decide +kernel
theorem dX12_count_150 : decode cX12_count 150 = .ok (.ireturn, 1) := by decide +kernel
theorem dX12_count_151 : decode cX12_count 151 = .ok (.aload_n 0, 1) := by decide +kernel
theorem dX12_count_152 : decode cX12_count 152 = .ok (.invokevirtual 288, 3) := by decide +kernel
theorem dX12_count_155 : decode cX12_count 155 = .ok (.ireturn, 1) := by decide +kernel
theorem dX12_count_156 : decode cX12_count 156 = .ok (.aload_n 0, 1) := by decide +kernel
theorem dX12_count_157 : decode cX12_count 157 = .ok (.invokevirtual 288, 3) := by decide +kernel
theorem dX12_count_160 : decode cX12_count 160 = .ok (.pop, 1) := by decide +kernel
theorem dX12_count_161 : decode cX12_count 161 = .ok (.aload_n 0, 1) := by decide +kernel
theorem dX12_count_162 : decode cX12_count 162 = .ok (.getfield 321, 3) := by decide +kernel
theorem dX12_count_165 : decode cX12_count 165 = .ok (.ireturn, 1) := by decide +kernel
theorem dX12_count_166 : decode cX12_count 166 = .ok (.aload_n 0, 1) := by decide +kernel
theorem dX12_count_167 : decode cX12_count 167 = .ok (.invokevirtual 288, 3) := by decide +kernel
theorem dX12_count_170 : decode cX12_count 170 = .ok (.pop, 1) := by decide +kernel
theorem dX12_count_171 : decode cX12_count 171 = .ok (.aload_n 0, 1) := by decide +kernel
theorem dX12_count_172 : decode cX12_count 172 = .ok (.getfield 324, 3) := by decide +kernel
theorem dX12_count_175 : decode cX12_count 175 = .ok (.ireturn, 1) := by decide +kernel
theorem dX12_count_176 : decode cX12_count 176 = .ok (.aload_n 0, 1) := by decide +kernel
theorem dX12_count_177 : decode cX12_count 177 = .ok (.invokevirtual 377, 3) := by decide +kernel
theorem dX12_count_180 : decode cX12_count 180 = .ok (.aload_n 0, 1) := by decide +kernel
theorem dX12_count_181 : decode cX12_count 181 = .ok (.getfield 346, 3) := by decide +kernel
theorem dX12_count_184 : decode cX12_count 184 = .ok (.ireturn, 1) := by decide +kernel
theorem dX12_count_185 : decode cX12_count 185 = .ok (.aload_n 0, 1) := by decide +kernel
theorem dX12_count_186 : decode cX12_count 186 = .ok (.invokevirtual 377, 3) := by decide +kernel
theorem dX12_count_189 : decode cX12_count 189 = .ok (.aload_n 0, 1) := by decide +kernel
theorem dX12_count_190 : decode cX12_count 190 = .ok (.getfield 349, 3) := by decide +kernel
theorem dX12_count_193 : decode cX12_count 193 = .ok (.ireturn, 1) := by decide +kernel
theorem dX12_count_194 : decode cX12_count 194 = .ok (.aload_n 0, 1) := by decide +kernel
theorem dX12_count_195 : decode cX12_count 195 = .ok (.getfield 252, 3) := by decide +kernel
theorem dX12_count_198 : decode cX12_count 198 = .ok (.ireturn, 1) := by decide +kernel
theorem dX12_count_199 : decode cX12_count 199 = .ok (.aload_n 0, 1) := by decide +kernel
theorem dX12_count_200 : decode cX12_count 200 = .ok (.getfield 128, 3) := by decide +kernel
theorem dX12_count_203 : decode cX12_count 203 = .ok (.ireturn, 1) := by decide +kernel
theorem dX12_count_204 : decode cX12_count 204 = .ok (.aload_n 0, 1) := by decide +kernel
theorem dX12_count_205 : decode cX12_count 205 = .ok (.getfield 42, 3) := by decide +kernel
theorem dX12_count_208 : decode cX12_count 208 = .ok (.iload_n 1, 1) := by decide +kernel
theorem dX12_count_209 : decode cX12_count 209 = .ok (.bipush 16, 2) := by decide +kernel
theorem dX12_count_211 : decode cX12_count 211 = .ok (.isub, 1) := by decide +kernel
theorem dX12_count_212 : decode cX12_count 212 = .ok (.iaload, 1) := by decide +kernel
theorem dX12_count_213 : decode cX12_count 213 = .ok (.ireturn, 1) := by decide +kernel
theorem dX12_count_214 : decode cX12_count 214 = .ok (.aload_n 0, 1) := by decide +kernel
theorem dX12_count_215 : decode cX12_count 215 = .ok (.iconst 1, 1) := by decide +kernel
theorem dX12_count_216 : decode cX12_count 216 = .ok (.invokevirtual 380, 3) := by decide +kernel
theorem dX12_count_219 : decode cX12_count 219 = .ok (.ireturn, 1) := by decide +kernel
theorem dX12_isField_0 : decode cX12_isField 0 = .ok (.iload_n 1, 1) := by decide +kernel
theorem dX12_isField_1 : decode cX12_isField 1 = .ok (.i2l, 1) := by decide +kernel
theorem dX12_isField_2 : decode cX12_isField 2 = .ok (.lconst 0, 1) := by decide +kernel
theorem dX12_isField_3 : decode cX12_isField 3 = .ok (.aload_n 0, 1) := by decide +kernel
theorem dX12_isField_4 : decode cX12_isField 4 = .ok (.getfield 73, 3) := by decide +kernel
theorem dX12_isField_7 : decode cX12_isField 7 = .ok (.iconst 0, 1) := by decide +kernel
theorem dX12_isField_8 : decode cX12_isField 8 = .ok (.iaload, 1) := by decide +kernel
theorem dX12_isField_9 : decode cX12_isField 9 = .ok (.iconst 1, 1) := by decide +kernel
theorem dX12_isField_10 : decode cX12_isField 10 = .ok (.isub, 1) := by decide +kernel
theorem dX12_isField_11 : decode cX12_isField 11 = .ok (.i2l, 1) := by decide +kernel
theorem dX12_isField_12 : decode cX12_isField 12 = .ok (.invokestatic 383, 3) := by decide +kernel
theorem dX12_isField_15 : decode cX12_isField 15 = .ok (.ireturn, 1) := by decide +kernel
theorem dX12_isLeaf_0 : decode cX12_isLeaf 0 = .ok (.iload_n 1, 1) := by decide +kernel
theorem dX12_isLeaf_1 : decode cX12_isLeaf 1 = .ok (.i2l, 1) := by decide +kernel
theorem dX12_isLeaf_2 : decode cX12_isLeaf 2 = .ok (.lconst 0, 1) := by decide +kernel
theorem dX12_isLeaf_3 : decode cX12_isLeaf 3 = .ok (.aload_n 0, 1) := by decide +kernel
theorem dX12_isLeaf_4 : decode cX12_isLeaf 4 = .ok (.getfield 76, 3) := by decide +kernel
theorem dX12_isLeaf_7 : decode cX12_isLeaf 7 = .ok (.iconst 0, 1) := by decide +kernel
theorem dX12_isLeaf_8 : decode cX12_isLeaf 8 = .ok (.iaload, 1) := by decide +kernel
theorem dX12_isLeaf_9 : decode cX12_isLeaf 9 = .ok (.iconst 1, 1) := by decide +kernel
theorem dX12_isLeaf_10 : decode cX12_isLeaf 10 = .ok (.isub, 1) := by decide +kernel
theorem dX12_isLeaf_11 : decode cX12_isLeaf 11 = .ok (.i2l, 1) := by decide +kernel
theorem dX12_isLeaf_12 : decode cX12_isLeaf 12 = .ok (.invokestatic 383, 3) := by decide +kernel
theorem dX12_isLeaf_15 : decode cX12_isLeaf 15 = .ok (.ireturn, 1) := by decide +kernel
theorem dX12_isRecord_0 : decode cX12_isRecord 0 = .ok (.iload_n 1, 1) := by decide +kernel
theorem dX12_isRecord_1 : decode cX12_isRecord 1 = .ok (.i2l, 1) := by decide +kernel
theorem dX12_isRecord_2 : decode cX12_isRecord 2 = .ok (.lconst 0, 1) := by decide +kernel
theorem dX12_isRecord_3 : decode cX12_isRecord 3 = .ok (.aload_n 0, 1) := by decide +kernel
theorem dX12_isRecord_4 : decode cX12_isRecord 4 = .ok (.getfield 249, 3) := by decide +kernel
theorem dX12_isRecord_7 : decode cX12_isRecord 7 = .ok (.iconst 1, 1) := by decide +kernel
theorem dX12_isRecord_8 : decode cX12_isRecord 8 = .ok (.isub, 1) := by decide +kernel
theorem dX12_isRecord_9 : decode cX12_isRecord 9 = .ok (.i2l, 1) := by decide +kernel
theorem dX12_isRecord_10 : decode cX12_isRecord 10 = .ok (.invokestatic 383, 3) := by decide +kernel
theorem dX12_isRecord_13 : decode cX12_isRecord 13 = .ok (.ireturn, 1) := by decide +kernel
theorem dX12_field_0 : decode cX12_field 0 = .ok (.aload_n 0, 1) := by decide +kernel
theorem dX12_field_1 : decode cX12_field 1 = .ok (.iconst 0, 1) := by decide +kernel
theorem dX12_field_2 : decode cX12_field 2 = .ok (.putfield 125, 3) := by decide +kernel
theorem dX12_field_5 : decode cX12_field 5 = .ok (.aload_n 0, 1) := by decide +kernel
theorem dX12_field_6 : decode cX12_field 6 = .ok (.iload_n 1, 1) := by decide +kernel
theorem dX12_field_7 : decode cX12_field 7 = .ok (.invokevirtual 387, 3) := by decide +kernel
theorem dX12_field_10 : decode cX12_field 10 = .ok (.ifCond .ne 9, 3) := by decide +kernel
theorem dX12_field_13 : decode cX12_field 13 = .ok (.aload_n 0, 1) := by decide +kernel
theorem dX12_field_14 : decode cX12_field 14 = .ok (.iconst 1, 1) := by decide +kernel
theorem dX12_field_15 : decode cX12_field 15 = .ok (.invokevirtual 380, 3) := by decide +kernel
theorem dX12_field_18 : decode cX12_field 18 = .ok (.ireturn, 1) := by decide +kernel
theorem dX12_field_19 : decode cX12_field 19 = .ok (.iconst 0, 1) := by decide +kernel
theorem dX12_field_20 : decode cX12_field 20 = .ok (.istore_n 3, 1) := by decide +kernel
theorem dX12_field_21 : decode cX12_field 21 = .ok (.iconst 0, 1) := by decide +kernel
theorem dX12_field_22 : decode cX12_field 22 = .ok (.istore 4, 2) := by decide +kernel
theorem dX12_field_24 : decode cX12_field 24 = .ok (.iload 4, 2) := by decide +kernel
theorem dX12_field_26 : decode cX12_field 26 = .ok (.aload_n 0, 1) := by decide +kernel
theorem dX12_field_27 : decode cX12_field 27 = .ok (.getfield 73, 3) := by decide +kernel
theorem dX12_field_30 : decode cX12_field 30 = .ok (.iconst 0, 1) := by decide +kernel
theorem dX12_field_31 : decode cX12_field 31 = .ok (.iaload, 1) := by decide +kernel
theorem dX12_field_32 : decode cX12_field 32 = .ok (.if_icmp .ge 28, 3) := by decide +kernel
theorem dX12_field_35 : decode cX12_field 35 = .ok (.iload_n 3, 1) := by decide +kernel
theorem dX12_field_36 : decode cX12_field 36 = .ok (.aload_n 0, 1) := by decide +kernel
theorem dX12_field_37 : decode cX12_field 37 = .ok (.getfield 52, 3) := by decide +kernel
theorem dX12_field_40 : decode cX12_field 40 = .ok (.iload 4, 2) := by decide +kernel
theorem dX12_field_42 : decode cX12_field 42 = .ok (.iaload, 1) := by decide +kernel
theorem dX12_field_43 : decode cX12_field 43 = .ok (.iload_n 1, 1) := by decide +kernel
theorem dX12_field_44 : decode cX12_field 44 = .ok (.if_icmp .ne 7, 3) := by decide +kernel
theorem dX12_field_47 : decode cX12_field 47 = .ok (.iconst 1, 1) := by decide +kernel
theorem dX12_field_48 : decode cX12_field 48 = .ok (.goto 4, 3) := by decide +kernel
theorem dX12_field_51 : decode cX12_field 51 = .ok (.iconst 0, 1) := by decide +kernel
theorem dX12_field_52 : decode cX12_field 52 = .ok (.iadd, 1) := by decide +kernel
theorem dX12_field_53 : decode cX12_field 53 = .ok (.istore_n 3, 1) := by decide +kernel
theorem dX12_field_54 : decode cX12_field 54 = .ok (.iinc 4 1, 3) := by decide +kernel
theorem dX12_field_57 : decode cX12_field 57 = .ok (.goto (-33), 3) := by decide +kernel
theorem dX12_field_60 : decode cX12_field 60 = .ok (.iload_n 2, 1) := by decide +kernel
theorem dX12_field_61 : decode cX12_field 61 = .ok (.tableswitch 87 0 6 #[43, 50, 57, 64, 71, 78, 85], 43) := by decide +kernel
theorem dX12_field_104 : decode cX12_field 104 = .ok (.aload_n 0, 1) := by decide +kernel
theorem dX12_field_105 : decode cX12_field 105 = .ok (.getfield 49, 3) := by decide +kernel
theorem dX12_field_108 : decode cX12_field 108 = .ok (.iload_n 1, 1) := by decide +kernel
theorem dX12_field_109 : decode cX12_field 109 = .ok (.iaload, 1) := by decide +kernel
theorem dX12_field_110 : decode cX12_field 110 = .ok (.ireturn, 1) := by decide +kernel
theorem dX12_field_111 : decode cX12_field 111 = .ok (.aload_n 0, 1) := by decide +kernel
theorem dX12_field_112 : decode cX12_field 112 = .ok (.getfield 55, 3) := by decide +kernel
theorem dX12_field_115 : decode cX12_field 115 = .ok (.iload_n 1, 1) := by decide +kernel
theorem dX12_field_116 : decode cX12_field 116 = .ok (.iaload, 1) := by decide +kernel
theorem dX12_field_117 : decode cX12_field 117 = .ok (.ireturn, 1) := by decide +kernel
theorem dX12_field_118 : decode cX12_field 118 = .ok (.aload_n 0, 1) := by decide +kernel
theorem dX12_field_119 : decode cX12_field 119 = .ok (.getfield 52, 3) := by decide +kernel
theorem dX12_field_122 : decode cX12_field 122 = .ok (.iload_n 1, 1) := by decide +kernel
theorem dX12_field_123 : decode cX12_field 123 = .ok (.iaload, 1) := by decide +kernel
theorem dX12_field_124 : decode cX12_field 124 = .ok (.ireturn, 1) := by decide +kernel
theorem dX12_field_125 : decode cX12_field 125 = .ok (.aload_n 0, 1) := by decide +kernel
theorem dX12_field_126 : decode cX12_field 126 = .ok (.getfield 58, 3) := by decide +kernel
theorem dX12_field_129 : decode cX12_field 129 = .ok (.iload_n 1, 1) := by decide +kernel
theorem dX12_field_130 : decode cX12_field 130 = .ok (.iaload, 1) := by decide +kernel
theorem dX12_field_131 : decode cX12_field 131 = .ok (.ireturn, 1) := by decide +kernel
theorem dX12_field_132 : decode cX12_field 132 = .ok (.aload_n 0, 1) := by decide +kernel
theorem dX12_field_133 : decode cX12_field 133 = .ok (.getfield 61, 3) := by decide +kernel
theorem dX12_field_136 : decode cX12_field 136 = .ok (.iload_n 1, 1) := by decide +kernel
theorem dX12_field_137 : decode cX12_field 137 = .ok (.iaload, 1) := by decide +kernel
theorem dX12_field_138 : decode cX12_field 138 = .ok (.ireturn, 1) := by decide +kernel
theorem dX12_field_139 : decode cX12_field 139 = .ok (.aload_n 0, 1) := by decide +kernel
theorem dX12_field_140 : decode cX12_field 140 = .ok (.getfield 64, 3) := by decide +kernel
theorem dX12_field_143 : decode cX12_field 143 = .ok (.iload_n 1, 1) := by decide +kernel
theorem dX12_field_144 : decode cX12_field 144 = .ok (.iaload, 1) := by decide +kernel
theorem dX12_field_145 : decode cX12_field 145 = .ok (.ireturn, 1) := by decide +kernel
theorem dX12_field_146 : decode cX12_field 146 = .ok (.iload_n 3, 1) := by decide +kernel
theorem dX12_field_147 : decode cX12_field 147 = .ok (.ireturn, 1) := by decide +kernel
theorem dX12_field_148 : decode cX12_field 148 = .ok (.aload_n 0, 1) := by decide +kernel
theorem dX12_field_149 : decode cX12_field 149 = .ok (.iconst 1, 1) := by decide +kernel
theorem dX12_field_150 : decode cX12_field 150 = .ok (.invokevirtual 380, 3) := by decide +kernel
theorem dX12_field_153 : decode cX12_field 153 = .ok (.ireturn, 1) := by decide +kernel
theorem dX12_name_0 : decode cX12_name 0 = .ok (.aload_n 0, 1) := by decide +kernel
theorem dX12_name_1 : decode cX12_name 1 = .ok (.iconst 0, 1) := by decide +kernel
theorem dX12_name_2 : decode cX12_name 2 = .ok (.putfield 125, 3) := by decide +kernel
theorem dX12_name_5 : decode cX12_name 5 = .ok (.aload_n 0, 1) := by decide +kernel
theorem dX12_name_6 : decode cX12_name 6 = .ok (.iload_n 1, 1) := by decide +kernel
theorem dX12_name_7 : decode cX12_name 7 = .ok (.invokevirtual 387, 3) := by decide +kernel
theorem dX12_name_10 : decode cX12_name 10 = .ok (.ifCond .eq 34, 3) := by decide +kernel
theorem dX12_name_13 : decode cX12_name 13 = .ok (.iload_n 2, 1) := by decide +kernel
theorem dX12_name_14 : decode cX12_name 14 = .ok (.i2l, 1) := by decide +kernel
theorem dX12_name_15 : decode cX12_name 15 = .ok (.lconst 0, 1) := by decide +kernel
theorem dX12_name_16 : decode cX12_name 16 = .ok (.aload_n 0, 1) := by decide +kernel
theorem dX12_name_17 : decode cX12_name 17 = .ok (.getfield 64, 3) := by decide +kernel
theorem dX12_name_20 : decode cX12_name 20 = .ok (.iload_n 1, 1) := by decide +kernel
theorem dX12_name_21 : decode cX12_name 21 = .ok (.iaload, 1) := by decide +kernel
theorem dX12_name_22 : decode cX12_name 22 = .ok (.iconst 1, 1) := by decide +kernel
theorem dX12_name_23 : decode cX12_name 23 = .ok (.isub, 1) := by decide +kernel
theorem dX12_name_24 : decode cX12_name 24 = .ok (.i2l, 1) := by decide +kernel
theorem dX12_name_25 : decode cX12_name 25 = .ok (.invokestatic 383, 3) := by decide +kernel
theorem dX12_name_28 : decode cX12_name 28 = .ok (.ifCond .eq 16, 3) := by decide +kernel
theorem dX12_name_31 : decode cX12_name 31 = .ok (.aload_n 0, 1) := by decide +kernel
theorem dX12_name_32 : decode cX12_name 32 = .ok (.getfield 70, 3) := by decide +kernel
theorem dX12_name_35 : decode cX12_name 35 = .ok (.iconst 4, 1) := by decide +kernel
theorem dX12_name_36 : decode cX12_name 36 = .ok (.iload_n 1, 1) := by decide +kernel
theorem dX12_name_37 : decode cX12_name 37 = .ok (.imul, 1) := by decide +kernel
theorem dX12_name_38 : decode cX12_name 38 = .ok (.iload_n 2, 1) := by decide +kernel
theorem dX12_name_39 : decode cX12_name 39 = .ok (.iadd, 1) := by decide +kernel
theorem dX12_name_40 : decode cX12_name 40 = .ok (.iaload, 1) := by decide +kernel
theorem dX12_name_41 : decode cX12_name 41 = .ok (.goto 8, 3) := by decide +kernel
theorem dX12_name_44 : decode cX12_name 44 = .ok (.aload_n 0, 1) := by decide +kernel
theorem dX12_name_45 : decode cX12_name 45 = .ok (.iconst 1, 1) := by decide +kernel
theorem dX12_name_46 : decode cX12_name 46 = .ok (.invokevirtual 380, 3) := by decide +kernel
theorem dX12_name_49 : decode cX12_name 49 = .ok (.ireturn, 1) := by decide +kernel
theorem dX12_runsOf_0 : decode cX12_runsOf 0 = .ok (.iconst 0, 1) := by decide +kernel
theorem dX12_runsOf_1 : decode cX12_runsOf 1 = .ok (.istore_n 3, 1) := by decide +kernel
theorem dX12_runsOf_2 : decode cX12_runsOf 2 = .ok (.iconst 0, 1) := by decide +kernel
theorem dX12_runsOf_3 : decode cX12_runsOf 3 = .ok (.istore 4, 2) := by decide +kernel
theorem dX12_runsOf_5 : decode cX12_runsOf 5 = .ok (.iload 4, 2) := by decide +kernel
theorem dX12_runsOf_7 : decode cX12_runsOf 7 = .ok (.aload_n 0, 1) := by decide +kernel
theorem dX12_runsOf_8 : decode cX12_runsOf 8 = .ok (.getfield 85, 3) := by decide +kernel
theorem dX12_runsOf_11 : decode cX12_runsOf 11 = .ok (.iload_n 1, 1) := by decide +kernel
theorem dX12_runsOf_12 : decode cX12_runsOf 12 = .ok (.iaload, 1) := by decide +kernel
theorem dX12_runsOf_13 : decode cX12_runsOf 13 = .ok (.if_icmp .ge 79, 3) := by decide +kernel
theorem dX12_runsOf_16 : decode cX12_runsOf 16 = .ok (.iload 4, 2) := by decide +kernel
theorem dX12_runsOf_18 : decode cX12_runsOf 18 = .ok (.ifCond .eq 48, 3) := by decide +kernel
theorem dX12_runsOf_21 : decode cX12_runsOf 21 = .ok (.iload_n 2, 1) := by decide +kernel
theorem dX12_runsOf_22 : decode cX12_runsOf 22 = .ok (.ifCond .eq 25, 3) := by decide +kernel
theorem dX12_runsOf_25 : decode cX12_runsOf 25 = .ok (.aload_n 0, 1) := by decide +kernel
theorem dX12_runsOf_26 : decode cX12_runsOf 26 = .ok (.iload_n 1, 1) := by decide +kernel
theorem dX12_runsOf_27 : decode cX12_runsOf 27 = .ok (.iload 4, 2) := by decide +kernel
theorem dX12_runsOf_29 : decode cX12_runsOf 29 = .ok (.invokevirtual 258, 3) := by decide +kernel
theorem dX12_runsOf_32 : decode cX12_runsOf 32 = .ok (.aload_n 0, 1) := by decide +kernel
theorem dX12_runsOf_33 : decode cX12_runsOf 33 = .ok (.iload_n 1, 1) := by decide +kernel
theorem dX12_runsOf_34 : decode cX12_runsOf 34 = .ok (.iload 4, 2) := by decide +kernel
theorem dX12_runsOf_36 : decode cX12_runsOf 36 = .ok (.iconst 1, 1) := by decide +kernel
theorem dX12_runsOf_37 : decode cX12_runsOf 37 = .ok (.isub, 1) := by decide +kernel
theorem dX12_runsOf_38 : decode cX12_runsOf 38 = .ok (.invokevirtual 258, 3) := by decide +kernel
theorem dX12_runsOf_41 : decode cX12_runsOf 41 = .ok (.if_icmp .eq 29, 3) := by decide +kernel
theorem dX12_runsOf_44 : decode cX12_runsOf 44 = .ok (.goto 22, 3) := by decide +kernel
theorem dX12_runsOf_47 : decode cX12_runsOf 47 = .ok (.aload_n 0, 1) := by decide +kernel
theorem dX12_runsOf_48 : decode cX12_runsOf 48 = .ok (.iload_n 1, 1) := by decide +kernel
theorem dX12_runsOf_49 : decode cX12_runsOf 49 = .ok (.iload 4, 2) := by decide +kernel
theorem dX12_runsOf_51 : decode cX12_runsOf 51 = .ok (.invokevirtual 308, 3) := by decide +kernel
theorem dX12_runsOf_54 : decode cX12_runsOf 54 = .ok (.aload_n 0, 1) := by decide +kernel
theorem dX12_runsOf_55 : decode cX12_runsOf 55 = .ok (.iload_n 1, 1) := by decide +kernel
theorem dX12_runsOf_56 : decode cX12_runsOf 56 = .ok (.iload 4, 2) := by decide +kernel
theorem dX12_runsOf_58 : decode cX12_runsOf 58 = .ok (.iconst 1, 1) := by decide +kernel
theorem dX12_runsOf_59 : decode cX12_runsOf 59 = .ok (.isub, 1) := by decide +kernel
theorem dX12_runsOf_60 : decode cX12_runsOf 60 = .ok (.invokevirtual 308, 3) := by decide +kernel
theorem dX12_runsOf_63 : decode cX12_runsOf 63 = .ok (.if_icmp .eq 7, 3) := by decide +kernel
theorem dX12_runsOf_66 : decode cX12_runsOf 66 = .ok (.iconst 1, 1) := by decide +kernel
theorem dX12_runsOf_67 : decode cX12_runsOf 67 = .ok (.goto 4, 3) := by decide +kernel
theorem dX12_runsOf_70 : decode cX12_runsOf 70 = .ok (.iconst 0, 1) := by decide +kernel
theorem dX12_runsOf_71 : decode cX12_runsOf 71 = .ok (.istore 5, 2) := by decide +kernel
theorem dX12_runsOf_73 : decode cX12_runsOf 73 = .ok (.iload_n 3, 1) := by decide +kernel
theorem dX12_runsOf_74 : decode cX12_runsOf 74 = .ok (.iload 5, 2) := by decide +kernel
theorem dX12_runsOf_76 : decode cX12_runsOf 76 = .ok (.ifCond .eq 7, 3) := by decide +kernel
theorem dX12_runsOf_79 : decode cX12_runsOf 79 = .ok (.iconst 1, 1) := by decide +kernel
theorem dX12_runsOf_80 : decode cX12_runsOf 80 = .ok (.goto 4, 3) := by decide +kernel
theorem dX12_runsOf_83 : decode cX12_runsOf 83 = .ok (.iconst 0, 1) := by decide +kernel
theorem dX12_runsOf_84 : decode cX12_runsOf 84 = .ok (.iadd, 1) := by decide +kernel
theorem dX12_runsOf_85 : decode cX12_runsOf 85 = .ok (.istore_n 3, 1) := by decide +kernel
theorem dX12_runsOf_86 : decode cX12_runsOf 86 = .ok (.iinc 4 1, 3) := by decide +kernel
theorem dX12_runsOf_89 : decode cX12_runsOf 89 = .ok (.goto (-84), 3) := by decide +kernel
theorem dX12_runsOf_92 : decode cX12_runsOf 92 = .ok (.iload_n 3, 1) := by decide +kernel
theorem dX12_runsOf_93 : decode cX12_runsOf 93 = .ok (.ireturn, 1) := by decide +kernel
theorem dX12_digitsOf_0 : decode cX12_digitsOf 0 = .ok (.iconst 0, 1) := by decide +kernel
theorem dX12_digitsOf_1 : decode cX12_digitsOf 1 = .ok (.istore_n 1, 1) := by decide +kernel
theorem dX12_digitsOf_2 : decode cX12_digitsOf 2 = .ok (.iload_n 0, 1) := by decide +kernel
theorem dX12_digitsOf_3 : decode cX12_digitsOf 3 = .ok (.iload_n 1, 1) := by decide +kernel
theorem dX12_digitsOf_4 : decode cX12_digitsOf 4 = .ok (.ishr, 1) := by decide +kernel
theorem dX12_digitsOf_5 : decode cX12_digitsOf 5 = .ok (.ifCond .eq 9, 3) := by decide +kernel
theorem dX12_digitsOf_8 : decode cX12_digitsOf 8 = .ok (.iinc 1 1, 3) := by decide +kernel
theorem dX12_digitsOf_11 : decode cX12_digitsOf 11 = .ok (.goto (-9), 3) := by decide +kernel
theorem dX12_digitsOf_14 : decode cX12_digitsOf 14 = .ok (.iload_n 1, 1) := by decide +kernel
theorem dX12_digitsOf_15 : decode cX12_digitsOf 15 = .ok (.ireturn, 1) := by decide +kernel
theorem dX12_leaf_0 : decode cX12_leaf 0 = .ok (.aload_n 0, 1) := by decide +kernel
theorem dX12_leaf_1 : decode cX12_leaf 1 = .ok (.iconst 0, 1) := by decide +kernel
theorem dX12_leaf_2 : decode cX12_leaf 2 = .ok (.putfield 125, 3) := by decide +kernel
theorem dX12_leaf_5 : decode cX12_leaf 5 = .ok (.aload_n 0, 1) := by decide +kernel
theorem dX12_leaf_6 : decode cX12_leaf 6 = .ok (.iload_n 1, 1) := by decide +kernel
theorem dX12_leaf_7 : decode cX12_leaf 7 = .ok (.invokevirtual 390, 3) := by decide +kernel
theorem dX12_leaf_10 : decode cX12_leaf 10 = .ok (.ifCond .ne 9, 3) := by decide +kernel
theorem dX12_leaf_13 : decode cX12_leaf 13 = .ok (.aload_n 0, 1) := by decide +kernel
theorem dX12_leaf_14 : decode cX12_leaf 14 = .ok (.iconst 1, 1) := by decide +kernel
theorem dX12_leaf_15 : decode cX12_leaf 15 = .ok (.invokevirtual 380, 3) := by decide +kernel
theorem dX12_leaf_18 : decode cX12_leaf 18 = .ok (.ireturn, 1) := by decide +kernel
theorem dX12_leaf_19 : decode cX12_leaf 19 = .ok (.iload_n 2, 1) := by decide +kernel
theorem dX12_leaf_20 : decode cX12_leaf 20 = .ok (.tableswitch 100 0 5 #[40, 47, 54, 54, 70, 85], 40) := by decide +kernel
theorem dX12_leaf_60 : decode cX12_leaf 60 = .ok (.aload_n 0, 1) := by decide +kernel
theorem dX12_leaf_61 : decode cX12_leaf 61 = .ok (.getfield 79, 3) := by decide +kernel
theorem dX12_leaf_64 : decode cX12_leaf 64 = .ok (.iload_n 1, 1) := by decide +kernel
theorem dX12_leaf_65 : decode cX12_leaf 65 = .ok (.iaload, 1) := by decide +kernel
theorem dX12_leaf_66 : decode cX12_leaf 66 = .ok (.ireturn, 1) := by decide +kernel
theorem dX12_leaf_67 : decode cX12_leaf 67 = .ok (.aload_n 0, 1) := by decide +kernel
theorem dX12_leaf_68 : decode cX12_leaf 68 = .ok (.getfield 85, 3) := by decide +kernel
theorem dX12_leaf_71 : decode cX12_leaf 71 = .ok (.iload_n 1, 1) := by decide +kernel
theorem dX12_leaf_72 : decode cX12_leaf 72 = .ok (.iaload, 1) := by decide +kernel
theorem dX12_leaf_73 : decode cX12_leaf 73 = .ok (.ireturn, 1) := by decide +kernel
theorem dX12_leaf_74 : decode cX12_leaf 74 = .ok (.aload_n 0, 1) := by decide +kernel
theorem dX12_leaf_75 : decode cX12_leaf 75 = .ok (.iload_n 1, 1) := by decide +kernel
theorem dX12_leaf_76 : decode cX12_leaf 76 = .ok (.iload_n 2, 1) := by decide +kernel
theorem dX12_leaf_77 : decode cX12_leaf 77 = .ok (.iconst 3, 1) := by decide +kernel
theorem dX12_leaf_78 : decode cX12_leaf 78 = .ok (.if_icmp .ne 7, 3) := by decide +kernel
theorem dX12_leaf_81 : decode cX12_leaf 81 = .ok (.iconst 1, 1) := by decide +kernel
theorem dX12_leaf_82 : decode cX12_leaf 82 = .ok (.goto 4, 3) := by decide +kernel
theorem dX12_leaf_85 : decode cX12_leaf 85 = .ok (.iconst 0, 1) := by decide +kernel
theorem dX12_leaf_86 : decode cX12_leaf 86 = .ok (.invokevirtual 393, 3) := by decide +kernel
theorem dX12_leaf_89 : decode cX12_leaf 89 = .ok (.ireturn, 1) := by decide +kernel
theorem dX12_leaf_90 : decode cX12_leaf 90 = .ok (.aload_n 0, 1) := by decide +kernel
theorem dX12_leaf_91 : decode cX12_leaf 91 = .ok (.getfield 61, 3) := by decide +kernel
theorem dX12_leaf_94 : decode cX12_leaf 94 = .ok (.aload_n 0, 1) := by decide +kernel
theorem dX12_leaf_95 : decode cX12_leaf 95 = .ok (.getfield 79, 3) := by decide +kernel
theorem dX12_leaf_98 : decode cX12_leaf 98 = .ok (.iload_n 1, 1) := by decide +kernel
theorem dX12_leaf_99 : decode cX12_leaf 99 = .ok (.iaload, 1) := by decide +kernel
theorem dX12_leaf_100 : decode cX12_leaf 100 = .ok (.iaload, 1) := by decide +kernel
theorem dX12_leaf_101 : decode cX12_leaf 101 = .ok (.invokestatic 397, 3) := by decide +kernel
theorem dX12_leaf_104 : decode cX12_leaf 104 = .ok (.ireturn, 1) := by decide +kernel
theorem dX12_leaf_105 : decode cX12_leaf 105 = .ok (.aload_n 0, 1) := by decide +kernel
theorem dX12_leaf_106 : decode cX12_leaf 106 = .ok (.getfield 58, 3) := by decide +kernel
theorem dX12_leaf_109 : decode cX12_leaf 109 = .ok (.aload_n 0, 1) := by decide +kernel
theorem dX12_leaf_110 : decode cX12_leaf 110 = .ok (.getfield 79, 3) := by decide +kernel
theorem dX12_leaf_113 : decode cX12_leaf 113 = .ok (.iload_n 1, 1) := by decide +kernel
theorem dX12_leaf_114 : decode cX12_leaf 114 = .ok (.iaload, 1) := by decide +kernel
theorem dX12_leaf_115 : decode cX12_leaf 115 = .ok (.iaload, 1) := by decide +kernel
theorem dX12_leaf_116 : decode cX12_leaf 116 = .ok (.invokestatic 397, 3) := by decide +kernel
theorem dX12_leaf_119 : decode cX12_leaf 119 = .ok (.ireturn, 1) := by decide +kernel
theorem dX12_leaf_120 : decode cX12_leaf 120 = .ok (.aload_n 0, 1) := by decide +kernel
theorem dX12_leaf_121 : decode cX12_leaf 121 = .ok (.iconst 1, 1) := by decide +kernel
theorem dX12_leaf_122 : decode cX12_leaf 122 = .ok (.invokevirtual 380, 3) := by decide +kernel
theorem dX12_leaf_125 : decode cX12_leaf 125 = .ok (.ireturn, 1) := by decide +kernel
theorem dX12_isEntry_0 : decode cX12_isEntry 0 = .ok (.aload_n 0, 1) := by decide +kernel
theorem dX12_isEntry_1 : decode cX12_isEntry 1 = .ok (.iload_n 1, 1) := by decide +kernel
theorem dX12_isEntry_2 : decode cX12_isEntry 2 = .ok (.invokevirtual 390, 3) := by decide +kernel
theorem dX12_isEntry_5 : decode cX12_isEntry 5 = .ok (.ifCond .eq 25, 3) := by decide +kernel
theorem dX12_isEntry_8 : decode cX12_isEntry 8 = .ok (.iload_n 2, 1) := by decide +kernel
theorem dX12_isEntry_9 : decode cX12_isEntry 9 = .ok (.i2l, 1) := by decide +kernel
theorem dX12_isEntry_10 : decode cX12_isEntry 10 = .ok (.lconst 0, 1) := by decide +kernel
theorem dX12_isEntry_11 : decode cX12_isEntry 11 = .ok (.aload_n 0, 1) := by decide +kernel
theorem dX12_isEntry_12 : decode cX12_isEntry 12 = .ok (.getfield 85, 3) := by decide +kernel
theorem dX12_isEntry_15 : decode cX12_isEntry 15 = .ok (.iload_n 1, 1) := by decide +kernel
theorem dX12_isEntry_16 : decode cX12_isEntry 16 = .ok (.iaload, 1) := by decide +kernel
theorem dX12_isEntry_17 : decode cX12_isEntry 17 = .ok (.iconst 1, 1) := by decide +kernel
theorem dX12_isEntry_18 : decode cX12_isEntry 18 = .ok (.isub, 1) := by decide +kernel
theorem dX12_isEntry_19 : decode cX12_isEntry 19 = .ok (.i2l, 1) := by decide +kernel
theorem dX12_isEntry_20 : decode cX12_isEntry 20 = .ok (.invokestatic 383, 3) := by decide +kernel
theorem dX12_isEntry_23 : decode cX12_isEntry 23 = .ok (.ifCond .eq 7, 3) := by decide +kernel
theorem dX12_isEntry_26 : decode cX12_isEntry 26 = .ok (.iconst 1, 1) := by decide +kernel
theorem dX12_isEntry_27 : decode cX12_isEntry 27 = .ok (.goto 4, 3) := by decide +kernel
theorem dX12_isEntry_30 : decode cX12_isEntry 30 = .ok (.iconst 0, 1) := by decide +kernel
theorem dX12_isEntry_31 : decode cX12_isEntry 31 = .ok (.ireturn, 1) := by decide +kernel
theorem dX12_entry_0 : decode cX12_entry 0 = .ok (.aload_n 0, 1) := by decide +kernel
theorem dX12_entry_1 : decode cX12_entry 1 = .ok (.iconst 0, 1) := by decide +kernel
theorem dX12_entry_2 : decode cX12_entry 2 = .ok (.putfield 125, 3) := by decide +kernel
theorem dX12_entry_5 : decode cX12_entry 5 = .ok (.aload_n 0, 1) := by decide +kernel
theorem dX12_entry_6 : decode cX12_entry 6 = .ok (.iload_n 1, 1) := by decide +kernel
theorem dX12_entry_7 : decode cX12_entry 7 = .ok (.iload_n 2, 1) := by decide +kernel
theorem dX12_entry_8 : decode cX12_entry 8 = .ok (.invokevirtual 400, 3) := by decide +kernel
theorem dX12_entry_11 : decode cX12_entry 11 = .ok (.ifCond .ne 9, 3) := by decide +kernel
theorem dX12_entry_14 : decode cX12_entry 14 = .ok (.aload_n 0, 1) := by decide +kernel
theorem dX12_entry_15 : decode cX12_entry 15 = .ok (.iconst 1, 1) := by decide +kernel
theorem dX12_entry_16 : decode cX12_entry 16 = .ok (.invokevirtual 380, 3) := by decide +kernel
theorem dX12_entry_19 : decode cX12_entry 19 = .ok (.ireturn, 1) := by decide +kernel
theorem dX12_entry_20 : decode cX12_entry 20 = .ok (.iload_n 3, 1) := by decide +kernel
theorem dX12_entry_21 : decode cX12_entry 21 = .ok (.tableswitch 61 0 2 #[27, 34, 41], 27) := by decide +kernel
theorem dX12_entry_48 : decode cX12_entry 48 = .ok (.aload_n 0, 1) := by decide +kernel
theorem dX12_entry_49 : decode cX12_entry 49 = .ok (.iload_n 1, 1) := by decide +kernel
theorem dX12_entry_50 : decode cX12_entry 50 = .ok (.iload_n 2, 1) := by decide +kernel
theorem dX12_entry_51 : decode cX12_entry 51 = .ok (.invokevirtual 308, 3) := by decide +kernel
theorem dX12_entry_54 : decode cX12_entry 54 = .ok (.ireturn, 1) := by decide +kernel
theorem dX12_entry_55 : decode cX12_entry 55 = .ok (.aload_n 0, 1) := by decide +kernel
theorem dX12_entry_56 : decode cX12_entry 56 = .ok (.iload_n 1, 1) := by decide +kernel
theorem dX12_entry_57 : decode cX12_entry 57 = .ok (.iload_n 2, 1) := by decide +kernel
theorem dX12_entry_58 : decode cX12_entry 58 = .ok (.invokevirtual 258, 3) := by decide +kernel
theorem dX12_entry_61 : decode cX12_entry 61 = .ok (.ireturn, 1) := by decide +kernel
theorem dX12_entry_62 : decode cX12_entry 62 = .ok (.aload_n 0, 1) := by decide +kernel
theorem dX12_entry_63 : decode cX12_entry 63 = .ok (.iload_n 1, 1) := by decide +kernel
theorem dX12_entry_64 : decode cX12_entry 64 = .ok (.iload_n 2, 1) := by decide +kernel
theorem dX12_entry_65 : decode cX12_entry 65 = .ok (.invokevirtual 403, 3) := by decide +kernel
theorem dX12_entry_68 : decode cX12_entry 68 = .ok (.ifCond .eq 12, 3) := by decide +kernel
theorem dX12_entry_71 : decode cX12_entry 71 = .ok (.aload_n 0, 1) := by decide +kernel
theorem dX12_entry_72 : decode cX12_entry 72 = .ok (.iload_n 1, 1) := by decide +kernel
theorem dX12_entry_73 : decode cX12_entry 73 = .ok (.iload_n 2, 1) := by decide +kernel
theorem dX12_entry_74 : decode cX12_entry 74 = .ok (.invokevirtual 339, 3) := by decide +kernel
theorem dX12_entry_77 : decode cX12_entry 77 = .ok (.goto 4, 3) := by decide +kernel
theorem dX12_entry_80 : decode cX12_entry 80 = .ok (.iconst (-1), 1) := by decide +kernel
theorem dX12_entry_81 : decode cX12_entry 81 = .ok (.ireturn, 1) := by decide +kernel
theorem dX12_entry_82 : decode cX12_entry 82 = .ok (.aload_n 0, 1) := by decide +kernel
theorem dX12_entry_83 : decode cX12_entry 83 = .ok (.iconst 1, 1) := by decide +kernel
theorem dX12_entry_84 : decode cX12_entry 84 = .ok (.invokevirtual 380, 3) := by decide +kernel
theorem dX12_entry_87 : decode cX12_entry 87 = .ok (.ireturn, 1) := by decide +kernel
theorem dX12_firstOf_0 : decode cX12_firstOf 0 = .ok (.iload_n 2, 1) := by decide +kernel
theorem dX12_firstOf_1 : decode cX12_firstOf 1 = .ok (.istore_n 3, 1) := by decide +kernel
theorem dX12_firstOf_2 : decode cX12_firstOf 2 = .ok (.iconst 0, 1) := by decide +kernel
theorem dX12_firstOf_3 : decode cX12_firstOf 3 = .ok (.istore 4, 2) := by decide +kernel
theorem dX12_firstOf_5 : decode cX12_firstOf 5 = .ok (.iload 4, 2) := by decide +kernel
theorem dX12_firstOf_7 : decode cX12_firstOf 7 = .ok (.aload_n 0, 1) := by decide +kernel
theorem dX12_firstOf_8 : decode cX12_firstOf 8 = .ok (.getfield 85, 3) := by decide +kernel
theorem dX12_firstOf_11 : decode cX12_firstOf 11 = .ok (.iload_n 1, 1) := by decide +kernel
theorem dX12_firstOf_12 : decode cX12_firstOf 12 = .ok (.iaload, 1) := by decide +kernel
theorem dX12_firstOf_13 : decode cX12_firstOf 13 = .ok (.if_icmp .ge 32, 3) := by decide +kernel
theorem dX12_firstOf_16 : decode cX12_firstOf 16 = .ok (.aload_n 0, 1) := by decide +kernel
theorem dX12_firstOf_17 : decode cX12_firstOf 17 = .ok (.iload_n 1, 1) := by decide +kernel
theorem dX12_firstOf_18 : decode cX12_firstOf 18 = .ok (.iload 4, 2) := by decide +kernel
theorem dX12_firstOf_20 : decode cX12_firstOf 20 = .ok (.invokevirtual 308, 3) := by decide +kernel
theorem dX12_firstOf_23 : decode cX12_firstOf 23 = .ok (.ifCond .eq 6, 3) := by decide +kernel
theorem dX12_firstOf_26 : decode cX12_firstOf 26 = .ok (.goto 13, 3) := by decide +kernel
theorem dX12_firstOf_29 : decode cX12_firstOf 29 = .ok (.iload_n 3, 1) := by decide +kernel
theorem dX12_firstOf_30 : decode cX12_firstOf 30 = .ok (.ifCond .ne 6, 3) := by decide +kernel
theorem dX12_firstOf_33 : decode cX12_firstOf 33 = .ok (.iload 4, 2) := by decide +kernel
theorem dX12_firstOf_35 : decode cX12_firstOf 35 = .ok (.ireturn, 1) := by decide +kernel
theorem dX12_firstOf_36 : decode cX12_firstOf 36 = .ok (.iinc 3 (-1), 3) := by decide +kernel
theorem dX12_firstOf_39 : decode cX12_firstOf 39 = .ok (.iinc 4 1, 3) := by decide +kernel
theorem dX12_firstOf_42 : decode cX12_firstOf 42 = .ok (.goto (-37), 3) := by decide +kernel
theorem dX12_firstOf_45 : decode cX12_firstOf 45 = .ok (.aload_n 0, 1) := by decide +kernel
theorem dX12_firstOf_46 : decode cX12_firstOf 46 = .ok (.getfield 85, 3) := by decide +kernel
theorem dX12_firstOf_49 : decode cX12_firstOf 49 = .ok (.iload_n 1, 1) := by decide +kernel
theorem dX12_firstOf_50 : decode cX12_firstOf 50 = .ok (.iaload, 1) := by decide +kernel
theorem dX12_firstOf_51 : decode cX12_firstOf 51 = .ok (.ireturn, 1) := by decide +kernel
theorem dX12_behindOf_0 : decode cX12_behindOf 0 = .ok (.aload_n 0, 1) := by decide +kernel
theorem dX12_behindOf_1 : decode cX12_behindOf 1 = .ok (.iload_n 1, 1) := by decide +kernel
theorem dX12_behindOf_2 : decode cX12_behindOf 2 = .ok (.iload_n 2, 1) := by decide +kernel
theorem dX12_behindOf_3 : decode cX12_behindOf 3 = .ok (.iconst 1, 1) := by decide +kernel
theorem dX12_behindOf_4 : decode cX12_behindOf 4 = .ok (.iadd, 1) := by decide +kernel
theorem dX12_behindOf_5 : decode cX12_behindOf 5 = .ok (.iconst 0, 1) := by decide +kernel
theorem dX12_behindOf_6 : decode cX12_behindOf 6 = .ok (.invokevirtual 317, 3) := by decide +kernel
theorem dX12_behindOf_9 : decode cX12_behindOf 9 = .ok (.ireturn, 1) := by decide +kernel
theorem dX12_skip_0 : decode cX12_skip 0 = .ok (.aload_n 0, 1) := by decide +kernel
theorem dX12_skip_1 : decode cX12_skip 1 = .ok (.iconst 0, 1) := by decide +kernel
theorem dX12_skip_2 : decode cX12_skip 2 = .ok (.putfield 125, 3) := by decide +kernel
theorem dX12_skip_5 : decode cX12_skip 5 = .ok (.aload_n 0, 1) := by decide +kernel
theorem dX12_skip_6 : decode cX12_skip 6 = .ok (.iload_n 1, 1) := by decide +kernel
theorem dX12_skip_7 : decode cX12_skip 7 = .ok (.invokevirtual 390, 3) := by decide +kernel
theorem dX12_skip_10 : decode cX12_skip 10 = .ok (.ifCond .eq 21, 3) := by decide +kernel
theorem dX12_skip_13 : decode cX12_skip 13 = .ok (.aload_n 0, 1) := by decide +kernel
theorem dX12_skip_14 : decode cX12_skip 14 = .ok (.iload_n 2, 1) := by decide +kernel
theorem dX12_skip_15 : decode cX12_skip 15 = .ok (.invokevirtual 406, 3) := by decide +kernel
theorem dX12_skip_18 : decode cX12_skip 18 = .ok (.ifCond .eq 13, 3) := by decide +kernel
theorem dX12_skip_21 : decode cX12_skip 21 = .ok (.iload_n 3, 1) := by decide +kernel
theorem dX12_skip_22 : decode cX12_skip 22 = .ok (.i2l, 1) := by decide +kernel
theorem dX12_skip_23 : decode cX12_skip 23 = .ok (.lconst 0, 1) := by decide +kernel
theorem dX12_skip_24 : decode cX12_skip 24 = .ok (.lconst 1, 1) := by decide +kernel
theorem dX12_skip_25 : decode cX12_skip 25 = .ok (.invokestatic 383, 3) := by decide +kernel
theorem dX12_skip_28 : decode cX12_skip 28 = .ok (.ifCond .ne 9, 3) := by decide +kernel
theorem dX12_skip_31 : decode cX12_skip 31 = .ok (.aload_n 0, 1) := by decide +kernel
theorem dX12_skip_32 : decode cX12_skip 32 = .ok (.iconst 1, 1) := by decide +kernel
theorem dX12_skip_33 : decode cX12_skip 33 = .ok (.invokevirtual 380, 3) := by decide +kernel
theorem dX12_skip_36 : decode cX12_skip 36 = .ok (.ireturn, 1) := by decide +kernel
theorem dX12_skip_37 : decode cX12_skip 37 = .ok (.aload_n 0, 1) := by decide +kernel
theorem dX12_skip_38 : decode cX12_skip 38 = .ok (.iload_n 1, 1) := by decide +kernel
theorem dX12_skip_39 : decode cX12_skip 39 = .ok (.iload_n 2, 1) := by decide +kernel
theorem dX12_skip_40 : decode cX12_skip 40 = .ok (.invokevirtual 409, 3) := by decide +kernel
theorem dX12_skip_43 : decode cX12_skip 43 = .ok (.istore 4, 2) := by decide +kernel
theorem dX12_skip_45 : decode cX12_skip 45 = .ok (.iload 4, 2) := by decide +kernel
theorem dX12_skip_47 : decode cX12_skip 47 = .ok (.aload_n 0, 1) := by decide +kernel
theorem dX12_skip_48 : decode cX12_skip 48 = .ok (.getfield 85, 3) := by decide +kernel
theorem dX12_skip_51 : decode cX12_skip 51 = .ok (.iload_n 1, 1) := by decide +kernel
theorem dX12_skip_52 : decode cX12_skip 52 = .ok (.iaload, 1) := by decide +kernel
theorem dX12_skip_53 : decode cX12_skip 53 = .ok (.if_icmp .ne 5, 3) := by decide +kernel
theorem dX12_skip_56 : decode cX12_skip 56 = .ok (.iconst (-1), 1) := by decide +kernel
theorem dX12_skip_57 : decode cX12_skip 57 = .ok (.ireturn, 1) := by decide +kernel
theorem dX12_skip_58 : decode cX12_skip 58 = .ok (.iload_n 3, 1) := by decide +kernel
theorem dX12_skip_59 : decode cX12_skip 59 = .ok (.ifCond .ne 8, 3) := by decide +kernel
theorem dX12_skip_62 : decode cX12_skip 62 = .ok (.iload 4, 2) := by decide +kernel
theorem dX12_skip_64 : decode cX12_skip 64 = .ok (.goto 13, 3) := by decide +kernel
theorem dX12_skip_67 : decode cX12_skip 67 = .ok (.aload_n 0, 1) := by decide +kernel
theorem dX12_skip_68 : decode cX12_skip 68 = .ok (.iload_n 1, 1) := by decide +kernel
theorem dX12_skip_69 : decode cX12_skip 69 = .ok (.iload 4, 2) := by decide +kernel
theorem dX12_skip_71 : decode cX12_skip 71 = .ok (.invokevirtual 412, 3) := by decide +kernel
theorem dX12_skip_74 : decode cX12_skip 74 = .ok (.iload 4, 2) := by decide +kernel
theorem dX12_skip_76 : decode cX12_skip 76 = .ok (.isub, 1) := by decide +kernel
theorem dX12_skip_77 : decode cX12_skip 77 = .ok (.ireturn, 1) := by decide +kernel
