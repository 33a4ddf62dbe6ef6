theorem dX7_undoLast_0 : decode cX7_undoLast 0 = .ok (.aload_n 0, 1) := by decide +kernel
theorem dX7_undoLast_1 : decode cX7_undoLast 1 = .ok (.getfield 28, 3) := by decide +kernel
theorem dX7_undoLast_4 : decode cX7_undoLast 4 = .ok (.ifCond .le 12, 3) := by decide +kernel
theorem dX7_undoLast_7 : decode cX7_undoLast 7 = .ok (.aload_n 0, 1) := by decide +kernel
theorem dX7_undoLast_8 : decode cX7_undoLast 8 = .ok (.getfield 28, 3) := by decide +kernel
theorem dX7_undoLast_11 : decode cX7_undoLast 11 = .ok (.bipush 40, 2) := by decide +kernel
theorem dX7_undoLast_13 : decode cX7_undoLast 13 = .ok (.if_icmp .le 4, 3) := by decide +kernel
theorem dX7_undoLast_16 : decode cX7_undoLast 16 = .ok (.return_, 1) := by decide +kernel
theorem dX7_undoLast_17 : decode cX7_undoLast 17 = .ok (.aload_n 0, 1) := by decide +kernel
theorem dX7_undoLast_18 : decode cX7_undoLast 18 = .ok (.dup, 1) := by decide +kernel
theorem dX7_undoLast_19 : decode cX7_undoLast 19 = .ok (.getfield 28, 3) := by decide +kernel
theorem dX7_undoLast_22 : decode cX7_undoLast 22 = .ok (.iconst 1, 1) := by decide +kernel
theorem dX7_undoLast_23 : decode cX7_undoLast 23 = .ok (.isub, 1) := by decide +kernel
theorem dX7_undoLast_24 : decode cX7_undoLast 24 = .ok (.putfield 28, 3) := by decide +kernel
theorem dX7_undoLast_27 : decode cX7_undoLast 27 = .ok (.aload_n 0, 1) := by decide +kernel
theorem dX7_undoLast_28 : decode cX7_undoLast 28 = .ok (.getfield 19, 3) := by decide +kernel
theorem dX7_undoLast_31 : decode cX7_undoLast 31 = .ok (.aload_n 0, 1) := by decide +kernel
theorem dX7_undoLast_32 : decode cX7_undoLast 32 = .ok (.getfield 28, 3) := by decide +kernel
theorem dX7_undoLast_35 : decode cX7_undoLast 35 = .ok (.aaload, 1) := by decide +kernel
theorem dX7_undoLast_36 : decode cX7_undoLast 36 = .ok (.astore_n 2, 1) := by decide +kernel
theorem dX7_undoLast_37 : decode cX7_undoLast 37 = .ok (.aload_n 2, 1) := by decide +kernel
theorem dX7_undoLast_38 : decode cX7_undoLast 38 = .ok (.ifnonnull 4, 3) := by decide +kernel
theorem dX7_undoLast_41 : decode cX7_undoLast 41 = .ok (.return_, 1) := by decide +kernel
theorem dX7_undoLast_42 : decode cX7_undoLast 42 = .ok (.aload_n 2, 1) := by decide +kernel
theorem dX7_undoLast_43 : decode cX7_undoLast 43 = .ok (.getfield 86, 3) := by decide +kernel
theorem dX7_undoLast_46 : decode cX7_undoLast 46 = .ok (.ifCond .ne 27, 3) := by decide +kernel
theorem dX7_undoLast_49 : decode cX7_undoLast 49 = .ok (.iconst 0, 1) := by decide +kernel
theorem dX7_undoLast_50 : decode cX7_undoLast 50 = .ok (.istore_n 3, 1) := by decide +kernel
theorem dX7_undoLast_51 : decode cX7_undoLast 51 = .ok (.iload_n 3, 1) := by decide +kernel
theorem dX7_undoLast_52 : decode cX7_undoLast 52 = .ok (.aload_n 2, 1) := by decide +kernel
theorem dX7_undoLast_53 : decode cX7_undoLast 53 = .ok (.getfield 89, 3) := by decide +kernel
theorem dX7_undoLast_56 : decode cX7_undoLast 56 = .ok (.if_icmp .ge 14, 3) := by decide +kernel
theorem dX7_undoLast_59 : decode cX7_undoLast 59 = .ok (.aload_n 0, 1) := by decide +kernel
theorem dX7_undoLast_60 : decode cX7_undoLast 60 = .ok (.iload_n 1, 1) := by decide +kernel
theorem dX7_undoLast_61 : decode cX7_undoLast 61 = .ok (.invokevirtual 92, 3) := by decide +kernel
theorem dX7_undoLast_64 : decode cX7_undoLast 64 = .ok (.iinc 3 1, 3) := by decide +kernel
theorem dX7_undoLast_67 : decode cX7_undoLast 67 = .ok (.goto (-16), 3) := by decide +kernel
theorem dX7_undoLast_70 : decode cX7_undoLast 70 = .ok (.goto 87, 3) := by decide +kernel
theorem dX7_undoLast_73 : decode cX7_undoLast 73 = .ok (.aload_n 2, 1) := by decide +kernel
theorem dX7_undoLast_74 : decode cX7_undoLast 74 = .ok (.getfield 86, 3) := by decide +kernel
theorem dX7_undoLast_77 : decode cX7_undoLast 77 = .ok (.iconst 1, 1) := by decide +kernel
theorem dX7_undoLast_78 : decode cX7_undoLast 78 = .ok (.if_icmp .ne 22, 3) := by decide +kernel
theorem dX7_undoLast_81 : decode cX7_undoLast 81 = .ok (.aload_n 2, 1) := by decide +kernel
theorem dX7_undoLast_82 : decode cX7_undoLast 82 = .ok (.getfield 96, 3) := by decide +kernel
theorem dX7_undoLast_85 : decode cX7_undoLast 85 = .ok (.ifnull 72, 3) := by decide +kernel
theorem dX7_undoLast_88 : decode cX7_undoLast 88 = .ok (.aload_n 0, 1) := by decide +kernel
theorem dX7_undoLast_89 : decode cX7_undoLast 89 = .ok (.aload_n 2, 1) := by decide +kernel
theorem dX7_undoLast_90 : decode cX7_undoLast 90 = .ok (.getfield 96, 3) := by decide +kernel
theorem dX7_undoLast_93 : decode cX7_undoLast 93 = .ok (.iload_n 1, 1) := by decide +kernel
theorem dX7_undoLast_94 : decode cX7_undoLast 94 = .ok (.invokevirtual 99, 3) := by decide +kernel
theorem dX7_undoLast_97 : decode cX7_undoLast 97 = .ok (.goto 60, 3) := by decide +kernel
theorem dX7_undoLast_100 : decode cX7_undoLast 100 = .ok (.aload_n 0, 1) := by decide +kernel
theorem dX7_undoLast_101 : decode cX7_undoLast 101 = .ok (.getfield 11, 3) := by decide +kernel
theorem dX7_undoLast_104 : decode cX7_undoLast 104 = .ok (.aload_n 2, 1) := by decide +kernel
theorem dX7_undoLast_105 : decode cX7_undoLast 105 = .ok (.getfield 103, 3) := by decide +kernel
theorem dX7_undoLast_108 : decode cX7_undoLast 108 = .ok (.aaload, 1) := by decide +kernel
theorem dX7_undoLast_109 : decode cX7_undoLast 109 = .ok (.astore_n 3, 1) := by decide +kernel
theorem dX7_undoLast_110 : decode cX7_undoLast 110 = .ok (.aload_n 2, 1) := by decide +kernel
theorem dX7_undoLast_111 : decode cX7_undoLast 111 = .ok (.getfield 86, 3) := by decide +kernel
theorem dX7_undoLast_114 : decode cX7_undoLast 114 = .ok (.iconst 2, 1) := by decide +kernel
theorem dX7_undoLast_115 : decode cX7_undoLast 115 = .ok (.if_icmp .ne 10, 3) := by decide +kernel
theorem dX7_undoLast_118 : decode cX7_undoLast 118 = .ok (.aload_n 3, 1) := by decide +kernel
theorem dX7_undoLast_119 : decode cX7_undoLast 119 = .ok (.getfield 106, 3) := by decide +kernel
theorem dX7_undoLast_122 : decode cX7_undoLast 122 = .ok (.goto 22, 3) := by decide +kernel
theorem dX7_undoLast_125 : decode cX7_undoLast 125 = .ok (.aload_n 2, 1) := by decide +kernel
theorem dX7_undoLast_126 : decode cX7_undoLast 126 = .ok (.getfield 86, 3) := by decide +kernel
theorem dX7_undoLast_129 : decode cX7_undoLast 129 = .ok (.iconst 3, 1) := by decide +kernel
theorem dX7_undoLast_130 : decode cX7_undoLast 130 = .ok (.if_icmp .ne 10, 3) := by decide +kernel
theorem dX7_undoLast_133 : decode cX7_undoLast 133 = .ok (.aload_n 3, 1) := by decide +kernel
theorem dX7_undoLast_134 : decode cX7_undoLast 134 = .ok (.getfield 109, 3) := by decide +kernel
theorem dX7_undoLast_137 : decode cX7_undoLast 137 = .ok (.goto 7, 3) := by decide +kernel
theorem dX7_undoLast_140 : decode cX7_undoLast 140 = .ok (.aload_n 3, 1) := by decide +kernel
theorem dX7_undoLast_141 : decode cX7_undoLast 141 = .ok (.getfield 112, 3) := by decide +kernel
theorem dX7_undoLast_144 : decode cX7_undoLast 144 = .ok (.astore 4, 2) := by decide +kernel
theorem dX7_undoLast_146 : decode cX7_undoLast 146 = .ok (.aload 4, 2) := by decide +kernel
theorem dX7_undoLast_148 : decode cX7_undoLast 148 = .ok (.aload_n 2, 1) := by decide +kernel
theorem dX7_undoLast_149 : decode cX7_undoLast 149 = .ok (.getfield 113, 3) := by decide +kernel
theorem dX7_undoLast_152 : decode cX7_undoLast 152 = .ok (.aload_n 2, 1) := by decide +kernel
theorem dX7_undoLast_153 : decode cX7_undoLast 153 = .ok (.getfield 89, 3) := by decide +kernel
theorem dX7_undoLast_156 : decode cX7_undoLast 156 = .ok (.iastore, 1) := by decide +kernel
theorem dX7_undoLast_157 : decode cX7_undoLast 157 = .ok (.return_, 1) := by decide +kernel
theorem dX8_init_0 : decode cX8_init 0 = .ok (.aload_n 0, 1) := by decide +kernel
theorem dX8_init_1 : decode cX8_init 1 = .ok (.invokespecial 3, 3) := by decide +kernel
theorem dX8_init_4 : decode cX8_init 4 = .ok (.aload_n 0, 1) := by decide +kernel
theorem dX8_init_5 : decode cX8_init 5 = .ok (.iconst 5, 1) := by decide +kernel
theorem dX8_init_6 : decode cX8_init 6 = .ok (.bipush 8, 2) := by decide +kernel
theorem dX8_init_8 : decode cX8_init 8 = .ok (.multianewarray 9 2, 4) := by decide +kernel
theorem dX8_init_12 : decode cX8_init 12 = .ok (.putfield 11, 3) := by decide +kernel
theorem dX8_init_15 : decode cX8_init 15 = .ok (.return_, 1) := by decide +kernel
theorem dX8_tell_0 : decode cX8_tell 0 = .ok (.aload_n 0, 1) := by decide +kernel
theorem dX8_tell_1 : decode cX8_tell 1 = .ok (.aload_n 1, 1) := by decide +kernel
theorem dX8_tell_2 : decode cX8_tell 2 = .ok (.putfield 16, 3) := by decide +kernel
theorem dX8_tell_5 : decode cX8_tell 5 = .ok (.aload_n 0, 1) := by decide +kernel
theorem dX8_tell_6 : decode cX8_tell 6 = .ok (.aload_n 2, 1) := by decide +kernel
theorem dX8_tell_7 : decode cX8_tell 7 = .ok (.putfield 20, 3) := by decide +kernel
theorem dX8_tell_10 : decode cX8_tell 10 = .ok (.aload_n 0, 1) := by decide +kernel
theorem dX8_tell_11 : decode cX8_tell 11 = .ok (.aload_n 3, 1) := by decide +kernel
theorem dX8_tell_12 : decode cX8_tell 12 = .ok (.putfield 23, 3) := by decide +kernel
theorem dX8_tell_15 : decode cX8_tell 15 = .ok (.aload_n 0, 1) := by decide +kernel
theorem dX8_tell_16 : decode cX8_tell 16 = .ok (.iload 5, 2) := by decide +kernel
theorem dX8_tell_18 : decode cX8_tell 18 = .ok (.putfield 27, 3) := by decide +kernel
theorem dX8_tell_21 : decode cX8_tell 21 = .ok (.aload_n 0, 1) := by decide +kernel
theorem dX8_tell_22 : decode cX8_tell 22 = .ok (.iload 6, 2) := by decide +kernel
theorem dX8_tell_24 : decode cX8_tell 24 = .ok (.putfield 31, 3) := by decide +kernel
theorem dX8_tell_27 : decode cX8_tell 27 = .ok (.aload_n 0, 1) := by decide +kernel
theorem dX8_tell_28 : decode cX8_tell 28 = .ok (.iconst 0, 1) := by decide +kernel
theorem dX8_tell_29 : decode cX8_tell 29 = .ok (.putfield 34, 3) := by decide +kernel
theorem dX8_tell_32 : decode cX8_tell 32 = .ok (.aload_n 0, 1) := by decide +kernel
theorem dX8_tell_33 : decode cX8_tell 33 = .ok (.iconst (-1), 1) := by decide +kernel
theorem dX8_tell_34 : decode cX8_tell 34 = .ok (.putfield 37, 3) := by decide +kernel
theorem dX8_tell_37 : decode cX8_tell 37 = .ok (.aload_n 0, 1) := by decide +kernel
theorem dX8_tell_38 : decode cX8_tell 38 = .ok (.iload 4, 2) := by decide +kernel
theorem dX8_tell_40 : decode cX8_tell 40 = .ok (.invokevirtual 40, 3) := by decide +kernel
theorem dX8_tell_43 : decode cX8_tell 43 = .ok (.aload_n 0, 1) := by decide +kernel
theorem dX8_tell_44 : decode cX8_tell 44 = .ok (.iconst (-1), 1) := by decide +kernel
theorem dX8_tell_45 : decode cX8_tell 45 = .ok (.iconst 0, 1) := by decide +kernel
theorem dX8_tell_46 : decode cX8_tell 46 = .ok (.invokevirtual 44, 3) := by decide +kernel
theorem dX8_tell_49 : decode cX8_tell 49 = .ok (.aload_n 0, 1) := by decide +kernel
theorem dX8_tell_50 : decode cX8_tell 50 = .ok (.bipush 59, 2) := by decide +kernel
theorem dX8_tell_52 : decode cX8_tell 52 = .ok (.invokevirtual 48, 3) := by decide +kernel
theorem dX8_tell_55 : decode cX8_tell 55 = .ok (.aload_n 0, 1) := by decide +kernel
theorem dX8_tell_56 : decode cX8_tell 56 = .ok (.getfield 34, 3) := by decide +kernel
theorem dX8_tell_59 : decode cX8_tell 59 = .ok (.ireturn, 1) := by decide +kernel
theorem dX8_goTo_0 : decode cX8_goTo 0 = .ok (.iconst 0, 1) := by decide +kernel
theorem dX8_goTo_1 : decode cX8_goTo 1 = .ok (.istore_n 2, 1) := by decide +kernel
theorem dX8_goTo_2 : decode cX8_goTo 2 = .ok (.iload_n 2, 1) := by decide +kernel
theorem dX8_goTo_3 : decode cX8_goTo 3 = .ok (.aload_n 0, 1) := by decide +kernel
theorem dX8_goTo_4 : decode cX8_goTo 4 = .ok (.getfield 20, 3) := by decide +kernel
theorem dX8_goTo_7 : decode cX8_goTo 7 = .ok (.getfield 51, 3) := by decide +kernel
theorem dX8_goTo_10 : decode cX8_goTo 10 = .ok (.if_icmp .ge 30, 3) := by decide +kernel
theorem dX8_goTo_13 : decode cX8_goTo 13 = .ok (.aload_n 0, 1) := by decide +kernel
theorem dX8_goTo_14 : decode cX8_goTo 14 = .ok (.getfield 11, 3) := by decide +kernel
theorem dX8_goTo_17 : decode cX8_goTo 17 = .ok (.iconst 0, 1) := by decide +kernel
theorem dX8_goTo_18 : decode cX8_goTo 18 = .ok (.aaload, 1) := by decide +kernel
theorem dX8_goTo_19 : decode cX8_goTo 19 = .ok (.iload_n 2, 1) := by decide +kernel
theorem dX8_goTo_20 : decode cX8_goTo 20 = .ok (.aload_n 0, 1) := by decide +kernel
theorem dX8_goTo_21 : decode cX8_goTo 21 = .ok (.getfield 23, 3) := by decide +kernel
theorem dX8_goTo_24 : decode cX8_goTo 24 = .ok (.getfield 56, 3) := by decide +kernel
theorem dX8_goTo_27 : decode cX8_goTo 27 = .ok (.iload_n 2, 1) := by decide +kernel
theorem dX8_goTo_28 : decode cX8_goTo 28 = .ok (.aaload, 1) := by decide +kernel
theorem dX8_goTo_29 : decode cX8_goTo 29 = .ok (.iload_n 1, 1) := by decide +kernel
theorem dX8_goTo_30 : decode cX8_goTo 30 = .ok (.invokevirtual 62, 3) := by decide +kernel
theorem dX8_goTo_33 : decode cX8_goTo 33 = .ok (.iastore, 1) := by decide +kernel
theorem dX8_goTo_34 : decode cX8_goTo 34 = .ok (.iinc 2 1, 3) := by decide +kernel
theorem dX8_goTo_37 : decode cX8_goTo 37 = .ok (.goto (-35), 3) := by decide +kernel
theorem dX8_goTo_40 : decode cX8_goTo 40 = .ok (.return_, 1) := by decide +kernel
theorem dX8_put_0 : decode cX8_put 0 = .ok (.aload_n 0, 1) := by decide +kernel
theorem dX8_put_1 : decode cX8_put 1 = .ok (.getfield 34, 3) := by decide +kernel
theorem dX8_put_4 : decode cX8_put 4 = .ok (.aload_n 0, 1) := by decide +kernel
theorem dX8_put_5 : decode cX8_put 5 = .ok (.getfield 31, 3) := by decide +kernel
theorem dX8_put_8 : decode cX8_put 8 = .ok (.if_icmp .ne 8, 3) := by decide +kernel
theorem dX8_put_11 : decode cX8_put 11 = .ok (.aload_n 0, 1) := by decide +kernel
theorem dX8_put_12 : decode cX8_put 12 = .ok (.iload_n 1, 1) := by decide +kernel
theorem dX8_put_13 : decode cX8_put 13 = .ok (.putfield 37, 3) := by decide +kernel
theorem dX8_put_16 : decode cX8_put 16 = .ok (.aload_n 0, 1) := by decide +kernel
theorem dX8_put_17 : decode cX8_put 17 = .ok (.dup, 1) := by decide +kernel
theorem dX8_put_18 : decode cX8_put 18 = .ok (.getfield 34, 3) := by decide +kernel
theorem dX8_put_21 : decode cX8_put 21 = .ok (.iconst 1, 1) := by decide +kernel
theorem dX8_put_22 : decode cX8_put 22 = .ok (.iadd, 1) := by decide +kernel
theorem dX8_put_23 : decode cX8_put 23 = .ok (.putfield 34, 3) := by decide +kernel
theorem dX8_put_26 : decode cX8_put 26 = .ok (.return_, 1) := by decide +kernel
theorem dX8_tellFields_0 : decode cX8_tellFields 0 = .ok (.iconst 1, 1) := by decide +kernel
theorem dX8_tellFields_1 : decode cX8_tellFields 1 = .ok (.istore_n 3, 1) := by decide +kernel
theorem dX8_tellFields_2 : decode cX8_tellFields 2 = .ok (.iconst 0, 1) := by decide +kernel
theorem dX8_tellFields_3 : decode cX8_tellFields 3 = .ok (.istore 4, 2) := by decide +kernel
theorem dX8_tellFields_5 : decode cX8_tellFields 5 = .ok (.iload 4, 2) := by decide +kernel
theorem dX8_tellFields_7 : decode cX8_tellFields 7 = .ok (.aload_n 0, 1) := by decide +kernel
theorem dX8_tellFields_8 : decode cX8_tellFields 8 = .ok (.getfield 16, 3) := by decide +kernel
theorem dX8_tellFields_11 : decode cX8_tellFields 11 = .ok (.getfield 68, 3) := by decide +kernel
theorem dX8_tellFields_14 : decode cX8_tellFields 14 = .ok (.if_icmp .ge 60, 3) := by decide +kernel
theorem dX8_tellFields_17 : decode cX8_tellFields 17 = .ok (.aload_n 0, 1) := by decide +kernel
theorem dX8_tellFields_18 : decode cX8_tellFields 18 = .ok (.getfield 16, 3) := by decide +kernel
theorem dX8_tellFields_21 : decode cX8_tellFields 21 = .ok (.getfield 71, 3) := by decide +kernel
theorem dX8_tellFields_24 : decode cX8_tellFields 24 = .ok (.iload 4, 2) := by decide +kernel
theorem dX8_tellFields_26 : decode cX8_tellFields 26 = .ok (.iaload, 1) := by decide +kernel
theorem dX8_tellFields_27 : decode cX8_tellFields 27 = .ok (.iload_n 1, 1) := by decide +kernel
theorem dX8_tellFields_28 : decode cX8_tellFields 28 = .ok (.if_icmp .ne 40, 3) := by decide +kernel
theorem dX8_tellFields_31 : decode cX8_tellFields 31 = .ok (.aload_n 0, 1) := by decide +kernel
theorem dX8_tellFields_32 : decode cX8_tellFields 32 = .ok (.getfield 16, 3) := by decide +kernel
theorem dX8_tellFields_35 : decode cX8_tellFields 35 = .ok (.getfield 75, 3) := by decide +kernel
theorem dX8_tellFields_38 : decode cX8_tellFields 38 = .ok (.iload 4, 2) := by decide +kernel
theorem dX8_tellFields_40 : decode cX8_tellFields 40 = .ok (.iaload, 1) := by decide +kernel
theorem dX8_tellFields_41 : decode cX8_tellFields 41 = .ok (.aload_n 0, 1) := by decide +kernel
theorem dX8_tellFields_42 : decode cX8_tellFields 42 = .ok (.getfield 27, 3) := by decide +kernel
theorem dX8_tellFields_45 : decode cX8_tellFields 45 = .ok (.iand, 1) := by decide +kernel
theorem dX8_tellFields_46 : decode cX8_tellFields 46 = .ok (.ifCond .eq 22, 3) := by decide +kernel
theorem dX8_tellFields_49 : decode cX8_tellFields 49 = .ok (.iload_n 3, 1) := by decide +kernel
theorem dX8_tellFields_50 : decode cX8_tellFields 50 = .ok (.ifCond .ne 9, 3) := by decide +kernel
theorem dX8_tellFields_53 : decode cX8_tellFields 53 = .ok (.aload_n 0, 1) := by decide +kernel
theorem dX8_tellFields_54 : decode cX8_tellFields 54 = .ok (.bipush 32, 2) := by decide +kernel
theorem dX8_tellFields_56 : decode cX8_tellFields 56 = .ok (.invokevirtual 48, 3) := by decide +kernel
theorem dX8_tellFields_59 : decode cX8_tellFields 59 = .ok (.iconst 0, 1) := by decide +kernel
theorem dX8_tellFields_60 : decode cX8_tellFields 60 = .ok (.istore_n 3, 1) := by decide +kernel
theorem dX8_tellFields_61 : decode cX8_tellFields 61 = .ok (.aload_n 0, 1) := by decide +kernel
theorem dX8_tellFields_62 : decode cX8_tellFields 62 = .ok (.iload 4, 2) := by decide +kernel
theorem dX8_tellFields_64 : decode cX8_tellFields 64 = .ok (.iload_n 2, 1) := by decide +kernel
theorem dX8_tellFields_65 : decode cX8_tellFields 65 = .ok (.invokevirtual 78, 3) := by decide +kernel
theorem dX8_tellFields_68 : decode cX8_tellFields 68 = .ok (.iinc 4 1, 3) := by decide +kernel
theorem dX8_tellFields_71 : decode cX8_tellFields 71 = .ok (.goto (-66), 3) := by decide +kernel
theorem dX8_tellFields_74 : decode cX8_tellFields 74 = .ok (.return_, 1) := by decide +kernel
theorem dX8_tellField_0 : decode cX8_tellField 0 = .ok (.aload_n 0, 1) := by decide +kernel
theorem dX8_tellField_1 : decode cX8_tellField 1 = .ok (.getfield 16, 3) := by decide +kernel
theorem dX8_tellField_4 : decode cX8_tellField 4 = .ok (.getfield 81, 3) := by decide +kernel
theorem dX8_tellField_7 : decode cX8_tellField 7 = .ok (.iload_n 1, 1) := by decide +kernel
theorem dX8_tellField_8 : decode cX8_tellField 8 = .ok (.iaload, 1) := by decide +kernel
theorem dX8_tellField_9 : decode cX8_tellField 9 = .ok (.istore_n 3, 1) := by decide +kernel
theorem dX8_tellField_10 : decode cX8_tellField 10 = .ok (.iload_n 3, 1) := by decide +kernel
theorem dX8_tellField_11 : decode cX8_tellField 11 = .ok (.iconst (-1), 1) := by decide +kernel
theorem dX8_tellField_12 : decode cX8_tellField 12 = .ok (.if_icmp .ne 15, 3) := by decide +kernel
theorem dX8_tellField_15 : decode cX8_tellField 15 = .ok (.aload_n 0, 1) := by decide +kernel
theorem dX8_tellField_16 : decode cX8_tellField 16 = .ok (.getfield 16, 3) := by decide +kernel
theorem dX8_tellField_19 : decode cX8_tellField 19 = .ok (.getfield 84, 3) := by decide +kernel
theorem dX8_tellField_22 : decode cX8_tellField 22 = .ok (.iload_n 1, 1) := by decide +kernel
theorem dX8_tellField_23 : decode cX8_tellField 23 = .ok (.iaload, 1) := by decide +kernel
theorem dX8_tellField_24 : decode cX8_tellField 24 = .ok (.goto 12, 3) := by decide +kernel
theorem dX8_tellField_27 : decode cX8_tellField 27 = .ok (.aload_n 0, 1) := by decide +kernel
theorem dX8_tellField_28 : decode cX8_tellField 28 = .ok (.getfield 20, 3) := by decide +kernel
theorem dX8_tellField_31 : decode cX8_tellField 31 = .ok (.getfield 84, 3) := by decide +kernel
theorem dX8_tellField_34 : decode cX8_tellField 34 = .ok (.iload_n 3, 1) := by decide +kernel
theorem dX8_tellField_35 : decode cX8_tellField 35 = .ok (.iaload, 1) := by decide +kernel
theorem dX8_tellField_36 : decode cX8_tellField 36 = .ok (.istore 4, 2) := by decide +kernel
theorem dX8_tellField_38 : decode cX8_tellField 38 = .ok (.iload_n 3, 1) := by decide +kernel
theorem dX8_tellField_39 : decode cX8_tellField 39 = .ok (.iconst (-1), 1) := by decide +kernel
theorem dX8_tellField_40 : decode cX8_tellField 40 = .ok (.if_icmp .eq 21, 3) := by decide +kernel
theorem dX8_tellField_43 : decode cX8_tellField 43 = .ok (.iload_n 2, 1) := by decide +kernel
theorem dX8_tellField_44 : decode cX8_tellField 44 = .ok (.iconst 3, 1) := by decide +kernel
theorem dX8_tellField_45 : decode cX8_tellField 45 = .ok (.if_icmp .gt 16, 3) := by decide +kernel
theorem dX8_tellField_48 : decode cX8_tellField 48 = .ok (.aload_n 0, 1) := by decide +kernel
theorem dX8_tellField_49 : decode cX8_tellField 49 = .ok (.iload_n 3, 1) := by decide +kernel
theorem dX8_tellField_50 : decode cX8_tellField 50 = .ok (.iload_n 2, 1) := by decide +kernel
theorem dX8_tellField_51 : decode cX8_tellField 51 = .ok (.invokevirtual 87, 3) := by decide +kernel
theorem dX8_tellField_54 : decode cX8_tellField 54 = .ok (.ifCond .eq 7, 3) := by decide +kernel
theorem dX8_tellField_57 : decode cX8_tellField 57 = .ok (.iconst 1, 1) := by decide +kernel
theorem dX8_tellField_58 : decode cX8_tellField 58 = .ok (.goto 4, 3) := by decide +kernel
theorem dX8_tellField_61 : decode cX8_tellField 61 = .ok (.iconst 0, 1) := by decide +kernel
theorem dX8_tellField_62 : decode cX8_tellField 62 = .ok (.istore 5, 2) := by decide +kernel
theorem dX8_tellField_64 : decode cX8_tellField 64 = .ok (.iload 4, 2) := by decide +kernel
theorem dX8_tellField_66 : decode cX8_tellField 66 = .ok (.iconst 2, 1) := by decide +kernel
theorem dX8_tellField_67 : decode cX8_tellField 67 = .ok (.if_icmp .ne 30, 3) := by decide +kernel
theorem dX8_tellField_70 : decode cX8_tellField 70 = .ok (.aload_n 0, 1) := by decide +kernel
theorem dX8_tellField_71 : decode cX8_tellField 71 = .ok (.bipush 91, 2) := by decide +kernel
theorem dX8_tellField_73 : decode cX8_tellField 73 = .ok (.invokevirtual 48, 3) := by decide +kernel
theorem dX8_tellField_76 : decode cX8_tellField 76 = .ok (.iload 5, 2) := by decide +kernel
theorem dX8_tellField_78 : decode cX8_tellField 78 = .ok (.ifCond .eq 10, 3) := by decide +kernel
theorem dX8_tellField_81 : decode cX8_tellField 81 = .ok (.aload_n 0, 1) := by decide +kernel
theorem dX8_tellField_82 : decode cX8_tellField 82 = .ok (.iload_n 1, 1) := by decide +kernel
theorem dX8_tellField_83 : decode cX8_tellField 83 = .ok (.iload_n 3, 1) := by decide +kernel
theorem dX8_tellField_84 : decode cX8_tellField 84 = .ok (.iload_n 2, 1) := by decide +kernel
theorem dX8_tellField_85 : decode cX8_tellField 85 = .ok (.invokevirtual 91, 3) := by decide +kernel
theorem dX8_tellField_88 : decode cX8_tellField 88 = .ok (.aload_n 0, 1) := by decide +kernel
theorem dX8_tellField_89 : decode cX8_tellField 89 = .ok (.bipush 93, 2) := by decide +kernel
theorem dX8_tellField_91 : decode cX8_tellField 91 = .ok (.invokevirtual 48, 3) := by decide +kernel
theorem dX8_tellField_94 : decode cX8_tellField 94 = .ok (.goto 30, 3) := by decide +kernel
theorem dX8_tellField_97 : decode cX8_tellField 97 = .ok (.iload 5, 2) := by decide +kernel
theorem dX8_tellField_99 : decode cX8_tellField 99 = .ok (.ifCond .eq 19, 3) := by decide +kernel
theorem dX8_tellField_102 : decode cX8_tellField 102 = .ok (.aload_n 0, 1) := by decide +kernel
theorem dX8_tellField_103 : decode cX8_tellField 103 = .ok (.iload_n 3, 1) := by decide +kernel
theorem dX8_tellField_104 : decode cX8_tellField 104 = .ok (.iload_n 2, 1) := by decide +kernel
theorem dX8_tellField_105 : decode cX8_tellField 105 = .ok (.invokevirtual 95, 3) := by decide +kernel
theorem dX8_tellField_108 : decode cX8_tellField 108 = .ok (.aload_n 0, 1) := by decide +kernel
theorem dX8_tellField_109 : decode cX8_tellField 109 = .ok (.iload_n 1, 1) := by decide +kernel
theorem dX8_tellField_110 : decode cX8_tellField 110 = .ok (.iload_n 3, 1) := by decide +kernel
theorem dX8_tellField_111 : decode cX8_tellField 111 = .ok (.iload_n 2, 1) := by decide +kernel
theorem dX8_tellField_112 : decode cX8_tellField 112 = .ok (.invokevirtual 98, 3) := by decide +kernel
theorem dX8_tellField_115 : decode cX8_tellField 115 = .ok (.goto 9, 3) := by decide +kernel
theorem dX8_tellField_118 : decode cX8_tellField 118 = .ok (.aload_n 0, 1) := by decide +kernel
theorem dX8_tellField_119 : decode cX8_tellField 119 = .ok (.bipush 45, 2) := by decide +kernel
theorem dX8_tellField_121 : decode cX8_tellField 121 = .ok (.invokevirtual 48, 3) := by decide +kernel
theorem dX8_tellField_124 : decode cX8_tellField 124 = .ok (.return_, 1) := by decide +kernel
theorem dX8_isThere_0 : decode cX8_isThere 0 = .ok (.aload_n 0, 1) := by decide +kernel
theorem dX8_isThere_1 : decode cX8_isThere 1 = .ok (.getfield 20, 3) := by decide +kernel
theorem dX8_isThere_4 : decode cX8_isThere 4 = .ok (.getfield 75, 3) := by decide +kernel
theorem dX8_isThere_7 : decode cX8_isThere 7 = .ok (.iload_n 1, 1) := by decide +kernel
theorem dX8_isThere_8 : decode cX8_isThere 8 = .ok (.iaload, 1) := by decide +kernel
theorem dX8_isThere_9 : decode cX8_isThere 9 = .ok (.invokestatic 101, 3) := by decide +kernel
theorem dX8_isThere_12 : decode cX8_isThere 12 = .ok (.istore_n 3, 1) := by decide +kernel
theorem dX8_isThere_13 : decode cX8_isThere 13 = .ok (.iload_n 3, 1) := by decide +kernel
theorem dX8_isThere_14 : decode cX8_isThere 14 = .ok (.iconst (-1), 1) := by decide +kernel
theorem dX8_isThere_15 : decode cX8_isThere 15 = .ok (.if_icmp .eq 56, 3) := by decide +kernel
theorem dX8_isThere_18 : decode cX8_isThere 18 = .ok (.aload_n 0, 1) := by decide +kernel
theorem dX8_isThere_19 : decode cX8_isThere 19 = .ok (.iload_n 3, 1) := by decide +kernel
theorem dX8_isThere_20 : decode cX8_isThere 20 = .ok (.aload_n 0, 1) := by decide +kernel
theorem dX8_isThere_21 : decode cX8_isThere 21 = .ok (.getfield 11, 3) := by decide +kernel
theorem dX8_isThere_24 : decode cX8_isThere 24 = .ok (.iload_n 2, 1) := by decide +kernel
theorem dX8_isThere_25 : decode cX8_isThere 25 = .ok (.aaload, 1) := by decide +kernel
theorem dX8_isThere_26 : decode cX8_isThere 26 = .ok (.iload_n 3, 1) := by decide +kernel
theorem dX8_isThere_27 : decode cX8_isThere 27 = .ok (.iaload, 1) := by decide +kernel
theorem dX8_isThere_28 : decode cX8_isThere 28 = .ok (.invokevirtual 104, 3) := by decide +kernel
theorem dX8_isThere_31 : decode cX8_isThere 31 = .ok (.ifCond .eq 40, 3) := by decide +kernel
theorem dX8_isThere_34 : decode cX8_isThere 34 = .ok (.aload_n 0, 1) := by decide +kernel
theorem dX8_isThere_35 : decode cX8_isThere 35 = .ok (.getfield 23, 3) := by decide +kernel
theorem dX8_isThere_38 : decode cX8_isThere 38 = .ok (.getfield 56, 3) := by decide +kernel
theorem dX8_isThere_41 : decode cX8_isThere 41 = .ok (.iload_n 3, 1) := by decide +kernel
theorem dX8_isThere_42 : decode cX8_isThere 42 = .ok (.aaload, 1) := by decide +kernel
theorem dX8_isThere_43 : decode cX8_isThere 43 = .ok (.getfield 107, 3) := by decide +kernel
theorem dX8_isThere_46 : decode cX8_isThere 46 = .ok (.aload_n 0, 1) := by decide +kernel
theorem dX8_isThere_47 : decode cX8_isThere 47 = .ok (.getfield 11, 3) := by decide +kernel
theorem dX8_isThere_50 : decode cX8_isThere 50 = .ok (.iload_n 2, 1) := by decide +kernel
theorem dX8_isThere_51 : decode cX8_isThere 51 = .ok (.aaload, 1) := by decide +kernel
theorem dX8_isThere_52 : decode cX8_isThere 52 = .ok (.iload_n 3, 1) := by decide +kernel
theorem dX8_isThere_53 : decode cX8_isThere 53 = .ok (.iaload, 1) := by decide +kernel
theorem dX8_isThere_54 : decode cX8_isThere 54 = .ok (.iaload, 1) := by decide +kernel
theorem dX8_isThere_55 : decode cX8_isThere 55 = .ok (.aload_n 0, 1) := by decide +kernel
theorem dX8_isThere_56 : decode cX8_isThere 56 = .ok (.getfield 20, 3) := by decide +kernel
theorem dX8_isThere_59 : decode cX8_isThere 59 = .ok (.getfield 110, 3) := by decide +kernel
theorem dX8_isThere_62 : decode cX8_isThere 62 = .ok (.iload_n 1, 1) := by decide +kernel
theorem dX8_isThere_63 : decode cX8_isThere 63 = .ok (.iaload, 1) := by decide +kernel
theorem dX8_isThere_64 : decode cX8_isThere 64 = .ok (.if_icmp .lt 7, 3) := by decide +kernel
theorem dX8_isThere_67 : decode cX8_isThere 67 = .ok (.iconst 1, 1) := by decide +kernel
theorem dX8_isThere_68 : decode cX8_isThere 68 = .ok (.goto 4, 3) := by decide +kernel
theorem dX8_isThere_71 : decode cX8_isThere 71 = .ok (.iconst 0, 1) := by decide +kernel
theorem dX8_isThere_72 : decode cX8_isThere 72 = .ok (.ireturn, 1) := by decide +kernel
theorem dX8_has_0 : decode cX8_has 0 = .ok (.iload_n 2, 1) := by decide +kernel
theorem dX8_has_1 : decode cX8_has 1 = .ok (.ifCond .lt 23, 3) := by decide +kernel
theorem dX8_has_4 : decode cX8_has 4 = .ok (.iload_n 2, 1) := by decide +kernel
theorem dX8_has_5 : decode cX8_has 5 = .ok (.aload_n 0, 1) := by decide +kernel
theorem dX8_has_6 : decode cX8_has 6 = .ok (.getfield 23, 3) := by decide +kernel
theorem dX8_has_9 : decode cX8_has 9 = .ok (.getfield 56, 3) := by decide +kernel
theorem dX8_has_12 : decode cX8_has 12 = .ok (.iload_n 1, 1) := by decide +kernel
theorem dX8_has_13 : decode cX8_has 13 = .ok (.aaload, 1) := by decide +kernel
theorem dX8_has_14 : decode cX8_has 14 = .ok (.getfield 111, 3) := by decide +kernel
theorem dX8_has_17 : decode cX8_has 17 = .ok (.if_icmp .ge 7, 3) := by decide +kernel
theorem dX8_has_20 : decode cX8_has 20 = .ok (.iconst 1, 1) := by decide +kernel
theorem dX8_has_21 : decode cX8_has 21 = .ok (.goto 4, 3) := by decide +kernel
theorem dX8_has_24 : decode cX8_has 24 = .ok (.iconst 0, 1) := by decide +kernel
theorem dX8_has_25 : decode cX8_has 25 = .ok (.ireturn, 1) := by decide +kernel
theorem dX8_beginAt_0 : decode cX8_beginAt 0 = .ok (.iconst 0, 1) := by decide +kernel
theorem dX8_beginAt_1 : decode cX8_beginAt 1 = .ok (.istore_n 3, 1) := by decide +kernel
theorem dX8_beginAt_2 : decode cX8_beginAt 2 = .ok (.iload_n 3, 1) := by decide +kernel
theorem dX8_beginAt_3 : decode cX8_beginAt 3 = .ok (.aload_n 0, 1) := by decide +kernel
theorem dX8_beginAt_4 : decode cX8_beginAt 4 = .ok (.getfield 20, 3) := by decide +kernel
theorem dX8_beginAt_7 : decode cX8_beginAt 7 = .ok (.getfield 51, 3) := by decide +kernel
theorem dX8_beginAt_10 : decode cX8_beginAt 10 = .ok (.if_icmp .ge 43, 3) := by decide +kernel
theorem dX8_beginAt_13 : decode cX8_beginAt 13 = .ok (.aload_n 0, 1) := by decide +kernel
theorem dX8_beginAt_14 : decode cX8_beginAt 14 = .ok (.getfield 20, 3) := by decide +kernel
theorem dX8_beginAt_17 : decode cX8_beginAt 17 = .ok (.getfield 75, 3) := by decide +kernel
theorem dX8_beginAt_20 : decode cX8_beginAt 20 = .ok (.iload_n 1, 1) := by decide +kernel
theorem dX8_beginAt_21 : decode cX8_beginAt 21 = .ok (.iaload, 1) := by decide +kernel
theorem dX8_beginAt_22 : decode cX8_beginAt 22 = .ok (.iload_n 3, 1) := by decide +kernel
theorem dX8_beginAt_23 : decode cX8_beginAt 23 = .ok (.iushr, 1) := by decide +kernel
theorem dX8_beginAt_24 : decode cX8_beginAt 24 = .ok (.iconst 1, 1) := by decide +kernel
theorem dX8_beginAt_25 : decode cX8_beginAt 25 = .ok (.iand, 1) := by decide +kernel
theorem dX8_beginAt_26 : decode cX8_beginAt 26 = .ok (.ifCond .eq 21, 3) := by decide +kernel
theorem dX8_beginAt_29 : decode cX8_beginAt 29 = .ok (.aload_n 0, 1) := by decide +kernel
theorem dX8_beginAt_30 : decode cX8_beginAt 30 = .ok (.getfield 11, 3) := by decide +kernel
theorem dX8_beginAt_33 : decode cX8_beginAt 33 = .ok (.iload_n 2, 1) := by decide +kernel
theorem dX8_beginAt_34 : decode cX8_beginAt 34 = .ok (.iconst 1, 1) := by decide +kernel
theorem dX8_beginAt_35 : decode cX8_beginAt 35 = .ok (.iadd, 1) := by decide +kernel
theorem dX8_beginAt_36 : decode cX8_beginAt 36 = .ok (.aaload, 1) := by decide +kernel
theorem dX8_beginAt_37 : decode cX8_beginAt 37 = .ok (.iload_n 3, 1) := by decide +kernel
theorem dX8_beginAt_38 : decode cX8_beginAt 38 = .ok (.aload_n 0, 1) := by decide +kernel
theorem dX8_beginAt_39 : decode cX8_beginAt 39 = .ok (.getfield 11, 3) := by decide +kernel
theorem dX8_beginAt_42 : decode cX8_beginAt 42 = .ok (.iload_n 2, 1) := by decide +kernel
theorem dX8_beginAt_43 : decode cX8_beginAt 43 = .ok (.aaload, 1) := by decide +kernel
theorem dX8_beginAt_44 : decode cX8_beginAt 44 = .ok (.iload_n 3, 1) := by decide +kernel
theorem dX8_beginAt_45 : decode cX8_beginAt 45 = .ok (.iaload, 1) := by decide +kernel
theorem dX8_beginAt_46 : decode cX8_beginAt 46 = .ok (.iastore, 1) := by decide +kernel
theorem dX8_beginAt_47 : decode cX8_beginAt 47 = .ok (.iinc 3 1, 3) := by decide +kernel
theorem dX8_beginAt_50 : decode cX8_beginAt 50 = .ok (.goto (-48), 3) := by decide +kernel
theorem dX8_beginAt_53 : decode cX8_beginAt 53 = .ok (.return_, 1) := by decide +kernel
theorem dX8_tellItems_0 : decode cX8_tellItems 0 = .ok (.aload_n 0, 1) := by decide +kernel
theorem dX8_tellItems_1 : decode cX8_tellItems 1 = .ok (.getfield 20, 3) := by decide +kernel
theorem dX8_tellItems_4 : decode cX8_tellItems 4 = .ok (.getfield 75, 3) := by decide +kernel
theorem dX8_tellItems_7 : decode cX8_tellItems 7 = .ok (.iload_n 2, 1) := by decide +kernel
theorem dX8_tellItems_8 : decode cX8_tellItems 8 = .ok (.iaload, 1) := by decide +kernel
theorem dX8_tellItems_9 : decode cX8_tellItems 9 = .ok (.invokestatic 101, 3) := by decide +kernel
theorem dX8_tellItems_12 : decode cX8_tellItems 12 = .ok (.istore 4, 2) := by decide +kernel
theorem dX8_tellItems_14 : decode cX8_tellItems 14 = .ok (.aload_n 0, 1) := by decide +kernel
theorem dX8_tellItems_15 : decode cX8_tellItems 15 = .ok (.iload_n 2, 1) := by decide +kernel
theorem dX8_tellItems_16 : decode cX8_tellItems 16 = .ok (.iload_n 3, 1) := by decide +kernel
theorem dX8_tellItems_17 : decode cX8_tellItems 17 = .ok (.invokevirtual 95, 3) := by decide +kernel
theorem dX8_tellItems_20 : decode cX8_tellItems 20 = .ok (.aload_n 0, 1) := by decide +kernel
theorem dX8_tellItems_21 : decode cX8_tellItems 21 = .ok (.iload_n 1, 1) := by decide +kernel
theorem dX8_tellItems_22 : decode cX8_tellItems 22 = .ok (.iload_n 2, 1) := by decide +kernel
theorem dX8_tellItems_23 : decode cX8_tellItems 23 = .ok (.iload_n 3, 1) := by decide +kernel
theorem dX8_tellItems_24 : decode cX8_tellItems 24 = .ok (.invokevirtual 98, 3) := by decide +kernel
theorem dX8_tellItems_27 : decode cX8_tellItems 27 = .ok (.iconst 0, 1) := by decide +kernel
theorem dX8_tellItems_28 : decode cX8_tellItems 28 = .ok (.istore 5, 2) := by decide +kernel
theorem dX8_tellItems_30 : decode cX8_tellItems 30 = .ok (.iload 5, 2) := by decide +kernel
theorem dX8_tellItems_32 : decode cX8_tellItems 32 = .ok (.bipush 120, 2) := by decide +kernel
theorem dX8_tellItems_34 : decode cX8_tellItems 34 = .ok (.if_icmp .ge 35, 3) := by decide +kernel
theorem dX8_tellItems_37 : decode cX8_tellItems 37 = .ok (.aload_n 0, 1) := by decide +kernel
theorem dX8_tellItems_38 : decode cX8_tellItems 38 = .ok (.iload_n 2, 1) := by decide +kernel
theorem dX8_tellItems_39 : decode cX8_tellItems 39 = .ok (.iload 4, 2) := by decide +kernel
theorem dX8_tellItems_41 : decode cX8_tellItems 41 = .ok (.iload_n 3, 1) := by decide +kernel
theorem dX8_tellItems_42 : decode cX8_tellItems 42 = .ok (.iconst 1, 1) := by decide +kernel
theorem dX8_tellItems_43 : decode cX8_tellItems 43 = .ok (.iadd, 1) := by decide +kernel
theorem dX8_tellItems_44 : decode cX8_tellItems 44 = .ok (.invokevirtual 114, 3) := by decide +kernel
theorem dX8_tellItems_47 : decode cX8_tellItems 47 = .ok (.ifCond .eq 22, 3) := by decide +kernel
theorem dX8_tellItems_50 : decode cX8_tellItems 50 = .ok (.aload_n 0, 1) := by decide +kernel
theorem dX8_tellItems_51 : decode cX8_tellItems 51 = .ok (.bipush 32, 2) := by decide +kernel
theorem dX8_tellItems_53 : decode cX8_tellItems 53 = .ok (.invokevirtual 48, 3) := by decide +kernel
theorem dX8_tellItems_56 : decode cX8_tellItems 56 = .ok (.aload_n 0, 1) := by decide +kernel
theorem dX8_tellItems_57 : decode cX8_tellItems 57 = .ok (.iload_n 1, 1) := by decide +kernel
theorem dX8_tellItems_58 : decode cX8_tellItems 58 = .ok (.iload_n 2, 1) := by decide +kernel
theorem dX8_tellItems_59 : decode cX8_tellItems 59 = .ok (.iload_n 3, 1) := by decide +kernel
theorem dX8_tellItems_60 : decode cX8_tellItems 60 = .ok (.invokevirtual 98, 3) := by decide +kernel
theorem dX8_tellItems_63 : decode cX8_tellItems 63 = .ok (.iinc 5 1, 3) := by decide +kernel
theorem dX8_tellItems_66 : decode cX8_tellItems 66 = .ok (.goto (-36), 3) := by decide +kernel
theorem dX8_tellItems_69 : decode cX8_tellItems 69 = .ok (.return_, 1) := by decide +kernel
theorem dX8_goOn_0 : decode cX8_goOn 0 = .ok (.aload_n 0, 1) := by decide +kernel
theorem dX8_goOn_1 : decode cX8_goOn 1 = .ok (.getfield 20, 3) := by decide +kernel
theorem dX8_goOn_4 : decode cX8_goOn 4 = .ok (.getfield 118, 3) := by decide +kernel
theorem dX8_goOn_7 : decode cX8_goOn 7 = .ok (.iload_n 1, 1) := by decide +kernel
theorem dX8_goOn_8 : decode cX8_goOn 8 = .ok (.iaload, 1) := by decide +kernel
theorem dX8_goOn_9 : decode cX8_goOn 9 = .ok (.istore 4, 2) := by decide +kernel
theorem dX8_goOn_11 : decode cX8_goOn 11 = .ok (.iconst 0, 1) := by decide +kernel
theorem dX8_goOn_12 : decode cX8_goOn 12 = .ok (.istore 5, 2) := by decide +kernel
theorem dX8_goOn_14 : decode cX8_goOn 14 = .ok (.iload 5, 2) := by decide +kernel
theorem dX8_goOn_16 : decode cX8_goOn 16 = .ok (.aload_n 0, 1) := by decide +kernel
theorem dX8_goOn_17 : decode cX8_goOn 17 = .ok (.getfield 20, 3) := by decide +kernel
theorem dX8_goOn_20 : decode cX8_goOn 20 = .ok (.getfield 51, 3) := by decide +kernel
theorem dX8_goOn_23 : decode cX8_goOn 23 = .ok (.if_icmp .ge 59, 3) := by decide +kernel
theorem dX8_goOn_26 : decode cX8_goOn 26 = .ok (.aload_n 0, 1) := by decide +kernel
theorem dX8_goOn_27 : decode cX8_goOn 27 = .ok (.getfield 20, 3) := by decide +kernel
theorem dX8_goOn_30 : decode cX8_goOn 30 = .ok (.getfield 75, 3) := by decide +kernel
theorem dX8_goOn_33 : decode cX8_goOn 33 = .ok (.iload_n 1, 1) := by decide +kernel
theorem dX8_goOn_34 : decode cX8_goOn 34 = .ok (.iaload, 1) := by decide +kernel
theorem dX8_goOn_35 : decode cX8_goOn 35 = .ok (.iload 5, 2) := by decide +kernel
theorem dX8_goOn_37 : decode cX8_goOn 37 = .ok (.iushr, 1) := by decide +kernel
theorem dX8_goOn_38 : decode cX8_goOn 38 = .ok (.iconst 1, 1) := by decide +kernel
theorem dX8_goOn_39 : decode cX8_goOn 39 = .ok (.iand, 1) := by decide +kernel
theorem dX8_goOn_40 : decode cX8_goOn 40 = .ok (.ifCond .eq 36, 3) := by decide +kernel
theorem dX8_goOn_43 : decode cX8_goOn 43 = .ok (.aload_n 0, 1) := by decide +kernel
theorem dX8_goOn_44 : decode cX8_goOn 44 = .ok (.getfield 11, 3) := by decide +kernel
theorem dX8_goOn_47 : decode cX8_goOn 47 = .ok (.iload_n 3, 1) := by decide +kernel
theorem dX8_goOn_48 : decode cX8_goOn 48 = .ok (.aaload, 1) := by decide +kernel
theorem dX8_goOn_49 : decode cX8_goOn 49 = .ok (.iload 5, 2) := by decide +kernel
theorem dX8_goOn_51 : decode cX8_goOn 51 = .ok (.aload_n 0, 1) := by decide +kernel
theorem dX8_goOn_52 : decode cX8_goOn 52 = .ok (.getfield 23, 3) := by decide +kernel
theorem dX8_goOn_55 : decode cX8_goOn 55 = .ok (.getfield 56, 3) := by decide +kernel
theorem dX8_goOn_58 : decode cX8_goOn 58 = .ok (.iload 5, 2) := by decide +kernel
theorem dX8_goOn_60 : decode cX8_goOn 60 = .ok (.aaload, 1) := by decide +kernel
theorem dX8_goOn_61 : decode cX8_goOn 61 = .ok (.aload_n 0, 1) := by decide +kernel
theorem dX8_goOn_62 : decode cX8_goOn 62 = .ok (.getfield 11, 3) := by decide +kernel
theorem dX8_goOn_65 : decode cX8_goOn 65 = .ok (.iload_n 3, 1) := by decide +kernel
theorem dX8_goOn_66 : decode cX8_goOn 66 = .ok (.aaload, 1) := by decide +kernel
theorem dX8_goOn_67 : decode cX8_goOn 67 = .ok (.iload 5, 2) := by decide +kernel
theorem dX8_goOn_69 : decode cX8_goOn 69 = .ok (.iaload, 1) := by decide +kernel
theorem dX8_goOn_70 : decode cX8_goOn 70 = .ok (.iload 4, 2) := by decide +kernel
theorem dX8_goOn_72 : decode cX8_goOn 72 = .ok (.invokevirtual 121, 3) := by decide +kernel
theorem dX8_goOn_75 : decode cX8_goOn 75 = .ok (.iastore, 1) := by decide +kernel
theorem dX8_goOn_76 : decode cX8_goOn 76 = .ok (.iinc 5 1, 3) := by decide +kernel
theorem dX8_goOn_79 : decode cX8_goOn 79 = .ok (.goto (-65), 3) := by decide +kernel
theorem dX8_goOn_82 : decode cX8_goOn 82 = .ok (.aload_n 0, 1) := by decide +kernel
theorem dX8_goOn_83 : decode cX8_goOn 83 = .ok (.getfield 11, 3) := by decide +kernel
theorem dX8_goOn_86 : decode cX8_goOn 86 = .ok (.iload_n 3, 1) := by decide +kernel
theorem dX8_goOn_87 : decode cX8_goOn 87 = .ok (.aaload, 1) := by decide +kernel
theorem dX8_goOn_88 : decode cX8_goOn 88 = .ok (.iload_n 2, 1) := by decide +kernel
theorem dX8_goOn_89 : decode cX8_goOn 89 = .ok (.iaload, 1) := by decide +kernel
theorem dX8_goOn_90 : decode cX8_goOn 90 = .ok (.istore 5, 2) := by decide +kernel
theorem dX8_goOn_92 : decode cX8_goOn 92 = .ok (.aload_n 0, 1) := by decide +kernel
theorem dX8_goOn_93 : decode cX8_goOn 93 = .ok (.iload_n 2, 1) := by decide +kernel
theorem dX8_goOn_94 : decode cX8_goOn 94 = .ok (.iload 5, 2) := by decide +kernel
theorem dX8_goOn_96 : decode cX8_goOn 96 = .ok (.invokevirtual 104, 3) := by decide +kernel
theorem dX8_goOn_99 : decode cX8_goOn 99 = .ok (.ifCond .eq 27, 3) := by decide +kernel
theorem dX8_goOn_102 : decode cX8_goOn 102 = .ok (.aload_n 0, 1) := by decide +kernel
theorem dX8_goOn_103 : decode cX8_goOn 103 = .ok (.getfield 23, 3) := by decide +kernel
theorem dX8_goOn_106 : decode cX8_goOn 106 = .ok (.getfield 56, 3) := by decide +kernel
theorem dX8_goOn_109 : decode cX8_goOn 109 = .ok (.iload_n 2, 1) := by decide +kernel
theorem dX8_goOn_110 : decode cX8_goOn 110 = .ok (.aaload, 1) := by decide +kernel
theorem dX8_goOn_111 : decode cX8_goOn 111 = .ok (.getfield 125, 3) := by decide +kernel
theorem dX8_goOn_114 : decode cX8_goOn 114 = .ok (.iload 5, 2) := by decide +kernel
theorem dX8_goOn_116 : decode cX8_goOn 116 = .ok (.iaload, 1) := by decide +kernel
theorem dX8_goOn_117 : decode cX8_goOn 117 = .ok (.iload 4, 2) := by decide +kernel
theorem dX8_goOn_119 : decode cX8_goOn 119 = .ok (.if_icmp .ne 7, 3) := by decide +kernel
theorem dX8_goOn_122 : decode cX8_goOn 122 = .ok (.iconst 1, 1) := by decide +kernel
theorem dX8_goOn_123 : decode cX8_goOn 123 = .ok (.goto 4, 3) := by decide +kernel
theorem dX8_goOn_126 : decode cX8_goOn 126 = .ok (.iconst 0, 1) := by decide +kernel
theorem dX8_goOn_127 : decode cX8_goOn 127 = .ok (.ireturn, 1) := by decide +kernel
theorem dX8_tellItem_0 : decode cX8_tellItem 0 = .ok (.aload_n 0, 1) := by decide +kernel
theorem dX8_tellItem_1 : decode cX8_tellItem 1 = .ok (.getfield 20, 3) := by decide +kernel
theorem dX8_tellItem_4 : decode cX8_tellItem 4 = .ok (.getfield 126, 3) := by decide +kernel
theorem dX8_tellItem_7 : decode cX8_tellItem 7 = .ok (.iload_n 2, 1) := by decide +kernel
theorem dX8_tellItem_8 : decode cX8_tellItem 8 = .ok (.iaload, 1) := by decide +kernel
theorem dX8_tellItem_9 : decode cX8_tellItem 9 = .ok (.istore 4, 2) := by decide +kernel
theorem dX8_tellItem_11 : decode cX8_tellItem 11 = .ok (.iload 4, 2) := by decide +kernel
theorem dX8_tellItem_13 : decode cX8_tellItem 13 = .ok (.iconst (-1), 1) := by decide +kernel
theorem dX8_tellItem_14 : decode cX8_tellItem 14 = .ok (.if_icmp .ne 26, 3) := by decide +kernel
theorem dX8_tellItem_17 : decode cX8_tellItem 17 = .ok (.aload_n 0, 1) := by decide +kernel
theorem dX8_tellItem_18 : decode cX8_tellItem 18 = .ok (.bipush 40, 2) := by decide +kernel
theorem dX8_tellItem_20 : decode cX8_tellItem 20 = .ok (.invokevirtual 48, 3) := by decide +kernel
theorem dX8_tellItem_23 : decode cX8_tellItem 23 = .ok (.aload_n 0, 1) := by decide +kernel
theorem dX8_tellItem_24 : decode cX8_tellItem 24 = .ok (.iload_n 1, 1) := by decide +kernel
theorem dX8_tellItem_25 : decode cX8_tellItem 25 = .ok (.iload_n 3, 1) := by decide +kernel
theorem dX8_tellItem_26 : decode cX8_tellItem 26 = .ok (.iconst 1, 1) := by decide +kernel
theorem dX8_tellItem_27 : decode cX8_tellItem 27 = .ok (.iadd, 1) := by decide +kernel
theorem dX8_tellItem_28 : decode cX8_tellItem 28 = .ok (.invokevirtual 44, 3) := by decide +kernel
theorem dX8_tellItem_31 : decode cX8_tellItem 31 = .ok (.aload_n 0, 1) := by decide +kernel
theorem dX8_tellItem_32 : decode cX8_tellItem 32 = .ok (.bipush 41, 2) := by decide +kernel
theorem dX8_tellItem_34 : decode cX8_tellItem 34 = .ok (.invokevirtual 48, 3) := by decide +kernel
theorem dX8_tellItem_37 : decode cX8_tellItem 37 = .ok (.goto 52, 3) := by decide +kernel
theorem dX8_tellItem_40 : decode cX8_tellItem 40 = .ok (.aload_n 0, 1) := by decide +kernel
theorem dX8_tellItem_41 : decode cX8_tellItem 41 = .ok (.iload 4, 2) := by decide +kernel
theorem dX8_tellItem_43 : decode cX8_tellItem 43 = .ok (.aload_n 0, 1) := by decide +kernel
theorem dX8_tellItem_44 : decode cX8_tellItem 44 = .ok (.getfield 11, 3) := by decide +kernel
theorem dX8_tellItem_47 : decode cX8_tellItem 47 = .ok (.iload_n 3, 1) := by decide +kernel
theorem dX8_tellItem_48 : decode cX8_tellItem 48 = .ok (.iconst 1, 1) := by decide +kernel
theorem dX8_tellItem_49 : decode cX8_tellItem 49 = .ok (.iadd, 1) := by decide +kernel
theorem dX8_tellItem_50 : decode cX8_tellItem 50 = .ok (.aaload, 1) := by decide +kernel
theorem dX8_tellItem_51 : decode cX8_tellItem 51 = .ok (.iload 4, 2) := by decide +kernel
theorem dX8_tellItem_53 : decode cX8_tellItem 53 = .ok (.iaload, 1) := by decide +kernel
theorem dX8_tellItem_54 : decode cX8_tellItem 54 = .ok (.invokevirtual 104, 3) := by decide +kernel
theorem dX8_tellItem_57 : decode cX8_tellItem 57 = .ok (.ifCond .eq 32, 3) := by decide +kernel
theorem dX8_tellItem_60 : decode cX8_tellItem 60 = .ok (.aload_n 0, 1) := by decide +kernel
theorem dX8_tellItem_61 : decode cX8_tellItem 61 = .ok (.aload_n 0, 1) := by decide +kernel
theorem dX8_tellItem_62 : decode cX8_tellItem 62 = .ok (.getfield 23, 3) := by decide +kernel
theorem dX8_tellItem_65 : decode cX8_tellItem 65 = .ok (.getfield 56, 3) := by decide +kernel
theorem dX8_tellItem_68 : decode cX8_tellItem 68 = .ok (.iload 4, 2) := by decide +kernel
theorem dX8_tellItem_70 : decode cX8_tellItem 70 = .ok (.aaload, 1) := by decide +kernel
theorem dX8_tellItem_71 : decode cX8_tellItem 71 = .ok (.getfield 129, 3) := by decide +kernel
theorem dX8_tellItem_74 : decode cX8_tellItem 74 = .ok (.aload_n 0, 1) := by decide +kernel
theorem dX8_tellItem_75 : decode cX8_tellItem 75 = .ok (.getfield 11, 3) := by decide +kernel
theorem dX8_tellItem_78 : decode cX8_tellItem 78 = .ok (.iload_n 3, 1) := by decide +kernel
theorem dX8_tellItem_79 : decode cX8_tellItem 79 = .ok (.iconst 1, 1) := by decide +kernel
theorem dX8_tellItem_80 : decode cX8_tellItem 80 = .ok (.iadd, 1) := by decide +kernel
theorem dX8_tellItem_81 : decode cX8_tellItem 81 = .ok (.aaload, 1) := by decide +kernel
theorem dX8_tellItem_82 : decode cX8_tellItem 82 = .ok (.iload 4, 2) := by decide +kernel
theorem dX8_tellItem_84 : decode cX8_tellItem 84 = .ok (.iaload, 1) := by decide +kernel
theorem dX8_tellItem_85 : decode cX8_tellItem 85 = .ok (.iaload, 1) := by decide +kernel
theorem dX8_tellItem_86 : decode cX8_tellItem 86 = .ok (.invokevirtual 132, 3) := by decide +kernel
theorem dX8_tellItem_89 : decode cX8_tellItem 89 = .ok (.return_, 1) := by decide +kernel
theorem dX8_putNumber_0 : decode cX8_putNumber 0 = .ok (.iload_n 1, 1) := by decide +kernel
theorem dX8_putNumber_1 : decode cX8_putNumber 1 = .ok (.bipush 100, 2) := by decide +kernel
theorem dX8_putNumber_3 : decode cX8_putNumber 3 = .ok (.if_icmp .lt 14, 3) := by decide +kernel
theorem dX8_putNumber_6 : decode cX8_putNumber 6 = .ok (.aload_n 0, 1) := by decide +kernel
theorem dX8_putNumber_7 : decode cX8_putNumber 7 = .ok (.bipush 48, 2) := by decide +kernel
theorem dX8_putNumber_9 : decode cX8_putNumber 9 = .ok (.iload_n 1, 1) := by decide +kernel
theorem dX8_putNumber_10 : decode cX8_putNumber 10 = .ok (.bipush 100, 2) := by decide +kernel
theorem dX8_putNumber_12 : decode cX8_putNumber 12 = .ok (.idiv, 1) := by decide +kernel
theorem dX8_putNumber_13 : decode cX8_putNumber 13 = .ok (.iadd, 1) := by decide +kernel
theorem dX8_putNumber_14 : decode cX8_putNumber 14 = .ok (.invokevirtual 48, 3) := by decide +kernel
theorem dX8_putNumber_17 : decode cX8_putNumber 17 = .ok (.iload_n 1, 1) := by decide +kernel
theorem dX8_putNumber_18 : decode cX8_putNumber 18 = .ok (.bipush 10, 2) := by decide +kernel
theorem dX8_putNumber_20 : decode cX8_putNumber 20 = .ok (.if_icmp .lt 17, 3) := by decide +kernel
theorem dX8_putNumber_23 : decode cX8_putNumber 23 = .ok (.aload_n 0, 1) := by decide +kernel
theorem dX8_putNumber_24 : decode cX8_putNumber 24 = .ok (.bipush 48, 2) := by decide +kernel
theorem dX8_putNumber_26 : decode cX8_putNumber 26 = .ok (.iload_n 1, 1) := by decide +kernel
theorem dX8_putNumber_27 : decode cX8_putNumber 27 = .ok (.bipush 10, 2) := by decide +kernel
theorem dX8_putNumber_29 : decode cX8_putNumber 29 = .ok (.idiv, 1) := by decide +kernel
theorem dX8_putNumber_30 : decode cX8_putNumber 30 = .ok (.bipush 10, 2) := by decide +kernel
theorem dX8_putNumber_32 : decode cX8_putNumber 32 = .ok (.irem, 1) := by decide +kernel
theorem dX8_putNumber_33 : decode cX8_putNumber 33 = .ok (.iadd, 1) := by decide +kernel
theorem dX8_putNumber_34 : decode cX8_putNumber 34 = .ok (.invokevirtual 48, 3) := by decide +kernel
theorem dX8_putNumber_37 : decode cX8_putNumber 37 = .ok (.aload_n 0, 1) := by decide +kernel
theorem dX8_putNumber_38 : decode cX8_putNumber 38 = .ok (.bipush 48, 2) := by decide +kernel
theorem dX8_putNumber_40 : decode cX8_putNumber 40 = .ok (.iload_n 1, 1) := by decide +kernel
theorem dX8_putNumber_41 : decode cX8_putNumber 41 = .ok (.bipush 10, 2) := by decide +kernel
theorem dX8_putNumber_43 : decode cX8_putNumber 43 = .ok (.irem, 1) := by decide +kernel
theorem dX8_putNumber_44 : decode cX8_putNumber 44 = .ok (.iadd, 1) := by decide +kernel
theorem dX8_putNumber_45 : decode cX8_putNumber 45 = .ok (.invokevirtual 48, 3) := by decide +kernel
theorem dX8_putNumber_48 : decode cX8_putNumber 48 = .ok (.return_, 1) := by decide +kernel
theorem dX8_countReads_0 : decode cX8_countReads 0 = .ok (.aload_n 0, 1) := by decide +kernel
theorem dX8_countReads_1 : decode cX8_countReads 1 = .ok (.aload_n 1, 1) := by decide +kernel
theorem dX8_countReads_2 : decode cX8_countReads 2 = .ok (.putfield 20, 3) := by decide +kernel
theorem dX8_countReads_5 : decode cX8_countReads 5 = .ok (.aload_n 0, 1) := by decide +kernel
theorem dX8_countReads_6 : decode cX8_countReads 6 = .ok (.aload_n 2, 1) := by decide +kernel
theorem dX8_countReads_7 : decode cX8_countReads 7 = .ok (.putfield 23, 3) := by decide +kernel
theorem dX8_countReads_10 : decode cX8_countReads 10 = .ok (.aload_n 0, 1) := by decide +kernel
theorem dX8_countReads_11 : decode cX8_countReads 11 = .ok (.iload_n 3, 1) := by decide +kernel
theorem dX8_countReads_12 : decode cX8_countReads 12 = .ok (.invokevirtual 40, 3) := by decide +kernel
theorem dX8_countReads_15 : decode cX8_countReads 15 = .ok (.iconst 0, 1) := by decide +kernel
theorem dX8_countReads_16 : decode cX8_countReads 16 = .ok (.istore 5, 2) := by decide +kernel
theorem dX8_countReads_18 : decode cX8_countReads 18 = .ok (.iload 4, 2) := by decide +kernel
theorem dX8_countReads_20 : decode cX8_countReads 20 = .ok (.invokestatic 101, 3) := by decide +kernel
theorem dX8_countReads_23 : decode cX8_countReads 23 = .ok (.istore 6, 2) := by decide +kernel
theorem dX8_countReads_25 : decode cX8_countReads 25 = .ok (.iconst 0, 1) := by decide +kernel
theorem dX8_countReads_26 : decode cX8_countReads 26 = .ok (.istore 7, 2) := by decide +kernel
theorem dX8_countReads_28 : decode cX8_countReads 28 = .ok (.iload 7, 2) := by decide +kernel
theorem dX8_countReads_30 : decode cX8_countReads 30 = .ok (.sipush 960, 3) := by decide +kernel
theorem dX8_countReads_33 : decode cX8_countReads 33 = .ok (.if_icmp .ge 90, 3) := by decide +kernel
theorem dX8_countReads_36 : decode cX8_countReads 36 = .ok (.iload 6, 2) := by decide +kernel
theorem dX8_countReads_38 : decode cX8_countReads 38 = .ok (.iconst (-1), 1) := by decide +kernel
theorem dX8_countReads_39 : decode cX8_countReads 39 = .ok (.if_icmp .eq 84, 3) := by decide +kernel
theorem dX8_countReads_42 : decode cX8_countReads 42 = .ok (.iinc 5 1, 3) := by decide +kernel
theorem dX8_countReads_45 : decode cX8_countReads 45 = .ok (.aload_n 0, 1) := by decide +kernel
theorem dX8_countReads_46 : decode cX8_countReads 46 = .ok (.getfield 11, 3) := by decide +kernel
theorem dX8_countReads_49 : decode cX8_countReads 49 = .ok (.iconst 0, 1) := by decide +kernel
theorem dX8_countReads_50 : decode cX8_countReads 50 = .ok (.aaload, 1) := by decide +kernel
theorem dX8_countReads_51 : decode cX8_countReads 51 = .ok (.iload 6, 2) := by decide +kernel
theorem dX8_countReads_53 : decode cX8_countReads 53 = .ok (.dup2, 1) := by decide +kernel
theorem dX8_countReads_54 : decode cX8_countReads 54 = .ok (.iaload, 1) := by decide +kernel
theorem dX8_countReads_55 : decode cX8_countReads 55 = .ok (.iconst 1, 1) := by decide +kernel
theorem dX8_countReads_56 : decode cX8_countReads 56 = .ok (.iadd, 1) := by decide +kernel
theorem dX8_countReads_57 : decode cX8_countReads 57 = .ok (.iastore, 1) := by decide +kernel
theorem dX8_countReads_58 : decode cX8_countReads 58 = .ok (.aload_n 0, 1) := by decide +kernel
theorem dX8_countReads_59 : decode cX8_countReads 59 = .ok (.getfield 11, 3) := by decide +kernel
theorem dX8_countReads_62 : decode cX8_countReads 62 = .ok (.iconst 0, 1) := by decide +kernel
theorem dX8_countReads_63 : decode cX8_countReads 63 = .ok (.aaload, 1) := by decide +kernel
theorem dX8_countReads_64 : decode cX8_countReads 64 = .ok (.iload 6, 2) := by decide +kernel
theorem dX8_countReads_66 : decode cX8_countReads 66 = .ok (.iaload, 1) := by decide +kernel
theorem dX8_countReads_67 : decode cX8_countReads 67 = .ok (.istore 8, 2) := by decide +kernel
theorem dX8_countReads_69 : decode cX8_countReads 69 = .ok (.aload_n 0, 1) := by decide +kernel
theorem dX8_countReads_70 : decode cX8_countReads 70 = .ok (.iload 6, 2) := by decide +kernel
theorem dX8_countReads_72 : decode cX8_countReads 72 = .ok (.iload 8, 2) := by decide +kernel
theorem dX8_countReads_74 : decode cX8_countReads 74 = .ok (.invokevirtual 104, 3) := by decide +kernel
theorem dX8_countReads_77 : decode cX8_countReads 77 = .ok (.ifCond .eq 22, 3) := by decide +kernel
theorem dX8_countReads_80 : decode cX8_countReads 80 = .ok (.aload_n 0, 1) := by decide +kernel
theorem dX8_countReads_81 : decode cX8_countReads 81 = .ok (.getfield 23, 3) := by decide +kernel
theorem dX8_countReads_84 : decode cX8_countReads 84 = .ok (.getfield 56, 3) := by decide +kernel
theorem dX8_countReads_87 : decode cX8_countReads 87 = .ok (.iload 6, 2) := by decide +kernel
theorem dX8_countReads_89 : decode cX8_countReads 89 = .ok (.aaload, 1) := by decide +kernel
theorem dX8_countReads_90 : decode cX8_countReads 90 = .ok (.getfield 125, 3) := by decide +kernel
theorem dX8_countReads_93 : decode cX8_countReads 93 = .ok (.iload 8, 2) := by decide +kernel
theorem dX8_countReads_95 : decode cX8_countReads 95 = .ok (.iaload, 1) := by decide +kernel
theorem dX8_countReads_96 : decode cX8_countReads 96 = .ok (.goto 4, 3) := by decide +kernel
theorem dX8_countReads_99 : decode cX8_countReads 99 = .ok (.iconst 0, 1) := by decide +kernel
theorem dX8_countReads_100 : decode cX8_countReads 100 = .ok (.istore 9, 2) := by decide +kernel
theorem dX8_countReads_102 : decode cX8_countReads 102 = .ok (.aload_n 0, 1) := by decide +kernel
theorem dX8_countReads_103 : decode cX8_countReads 103 = .ok (.getfield 20, 3) := by decide +kernel
theorem dX8_countReads_106 : decode cX8_countReads 106 = .ok (.iload 4, 2) := by decide +kernel
theorem dX8_countReads_108 : decode cX8_countReads 108 = .ok (.iload 6, 2) := by decide +kernel
theorem dX8_countReads_110 : decode cX8_countReads 110 = .ok (.iload 9, 2) := by decide +kernel
theorem dX8_countReads_112 : decode cX8_countReads 112 = .ok (.invokevirtual 135, 3) := by decide +kernel
theorem dX8_countReads_115 : decode cX8_countReads 115 = .ok (.istore 6, 2) := by decide +kernel
theorem dX8_countReads_117 : decode cX8_countReads 117 = .ok (.iinc 7 1, 3) := by decide +kernel
theorem dX8_countReads_120 : decode cX8_countReads 120 = .ok (.goto (-92), 3) := by decide +kernel
theorem dX8_countReads_123 : decode cX8_countReads 123 = .ok (.iload 5, 2) := by decide +kernel
theorem dX8_countReads_125 : decode cX8_countReads 125 = .ok (.ireturn, 1) := by decide +kernel
theorem dX9_init_0 : decode cX9_init 0 = .ok (.aload_n 0, 1) := by decide +kernel
theorem dX9_init_1 : decode cX9_init 1 = .ok (.invokespecial 3, 3) := by decide +kernel
theorem dX9_init_4 : decode cX9_init 4 = .ok (.aload_n 0, 1) := by decide +kernel
theorem dX9_init_5 : decode cX9_init 5 = .ok (.sipush 700, 3) := by decide +kernel
theorem dX9_init_8 : decode cX9_init 8 = .ok (.newarray .int, 2) := by decide +kernel
theorem dX9_init_10 : decode cX9_init 10 = .ok (.putfield 9, 3) := by decide +kernel
theorem dX9_init_13 : decode cX9_init 13 = .ok (.return_, 1) := by decide +kernel
theorem dX9_append_0 : decode cX9_append 0 = .ok (.bipush 24, 2) := by decide +kernel
theorem dX9_append_2 : decode cX9_append 2 = .ok (.istore_n 2, 1) := by decide +kernel
theorem dX9_append_3 : decode cX9_append 3 = .ok (.iload_n 2, 1) := by decide +kernel
theorem dX9_append_4 : decode cX9_append 4 = .ok (.ifCond .lt 45, 3) := by decide +kernel
theorem dX9_append_7 : decode cX9_append 7 = .ok (.aload_n 0, 1) := by decide +kernel
theorem dX9_append_8 : decode cX9_append 8 = .ok (.getfield 15, 3) := by decide +kernel
theorem dX9_append_11 : decode cX9_append 11 = .ok (.sipush 700, 3) := by decide +kernel
theorem dX9_append_14 : decode cX9_append 14 = .ok (.if_icmp .ge 35, 3) := by decide +kernel
theorem dX9_append_17 : decode cX9_append 17 = .ok (.aload_n 0, 1) := by decide +kernel
theorem dX9_append_18 : decode cX9_append 18 = .ok (.getfield 9, 3) := by decide +kernel
theorem dX9_append_21 : decode cX9_append 21 = .ok (.aload_n 0, 1) := by decide +kernel
theorem dX9_append_22 : decode cX9_append 22 = .ok (.getfield 15, 3) := by decide +kernel
theorem dX9_append_25 : decode cX9_append 25 = .ok (.iload_n 1, 1) := by decide +kernel
theorem dX9_append_26 : decode cX9_append 26 = .ok (.iload_n 2, 1) := by decide +kernel
theorem dX9_append_27 : decode cX9_append 27 = .ok (.iushr, 1) := by decide +kernel
theorem dX9_append_28 : decode cX9_append 28 = .ok (.sipush 255, 3) := by decide +kernel
theorem dX9_append_31 : decode cX9_append 31 = .ok (.iand, 1) := by decide +kernel
theorem dX9_append_32 : decode cX9_append 32 = .ok (.iastore, 1) := by decide +kernel
theorem dX9_append_33 : decode cX9_append 33 = .ok (.aload_n 0, 1) := by decide +kernel
theorem dX9_append_34 : decode cX9_append 34 = .ok (.dup, 1) := by decide +kernel
theorem dX9_append_35 : decode cX9_append 35 = .ok (.getfield 15, 3) := by decide +kernel
theorem dX9_append_38 : decode cX9_append 38 = .ok (.iconst 1, 1) := by decide +kernel
theorem dX9_append_39 : decode cX9_append 39 = .ok (.iadd, 1) := by decide +kernel
theorem dX9_append_40 : decode cX9_append 40 = .ok (.putfield 15, 3) := by decide +kernel
theorem dX9_append_43 : decode cX9_append 43 = .ok (.iinc 2 (-8), 3) := by decide +kernel
theorem dX9_append_46 : decode cX9_append 46 = .ok (.goto (-43), 3) := by decide +kernel
theorem dX9_append_49 : decode cX9_append 49 = .ok (.return_, 1) := by decide +kernel
theorem dX9_open_0 : decode cX9_open 0 = .ok (.aload_n 0, 1) := by decide +kernel
theorem dX9_open_1 : decode cX9_open 1 = .ok (.iload_n 1, 1) := by decide +kernel
theorem dX9_open_2 : decode cX9_open 2 = .ok (.putfield 19, 3) := by decide +kernel
theorem dX9_open_5 : decode cX9_open 5 = .ok (.aload_n 0, 1) := by decide +kernel
theorem dX9_open_6 : decode cX9_open 6 = .ok (.iconst 0, 1) := by decide +kernel
theorem dX9_open_7 : decode cX9_open 7 = .ok (.putfield 15, 3) := by decide +kernel
theorem dX9_open_10 : decode cX9_open 10 = .ok (.aload_n 0, 1) := by decide +kernel
theorem dX9_open_11 : decode cX9_open 11 = .ok (.iconst 0, 1) := by decide +kernel
theorem dX9_open_12 : decode cX9_open 12 = .ok (.putfield 22, 3) := by decide +kernel
theorem dX9_open_15 : decode cX9_open 15 = .ok (.aload_n 0, 1) := by decide +kernel
theorem dX9_open_16 : decode cX9_open 16 = .ok (.invokevirtual 25, 3) := by decide +kernel
theorem dX9_open_19 : decode cX9_open 19 = .ok (.return_, 1) := by decide +kernel
theorem dX10_init_0 : decode cX10_init 0 = .ok (.aload_n 0, 1) := by decide +kernel
theorem dX10_init_1 : decode cX10_init 1 = .ok (.invokespecial 3, 3) := by decide +kernel
theorem dX10_init_4 : decode cX10_init 4 = .ok (.aload_n 0, 1) := by decide +kernel
theorem dX10_init_5 : decode cX10_init 5 = .ok (.bipush 8, 2) := by decide +kernel
theorem dX10_init_7 : decode cX10_init 7 = .ok (.newarray .int, 2) := by decide +kernel
theorem dX10_init_9 : decode cX10_init 9 = .ok (.putfield 9, 3) := by decide +kernel
theorem dX10_init_12 : decode cX10_init 12 = .ok (.aload_n 0, 1) := by decide +kernel
theorem dX10_init_13 : decode cX10_init 13 = .ok (.bipush 8, 2) := by decide +kernel
theorem dX10_init_15 : decode cX10_init 15 = .ok (.newarray .int, 2) := by decide +kernel
theorem dX10_init_17 : decode cX10_init 17 = .ok (.putfield 15, 3) := by decide +kernel
theorem dX10_init_20 : decode cX10_init 20 = .ok (.return_, 1) := by decide +kernel
theorem dX10_draw_0 : decode cX10_draw 0 = .ok (.aload_n 0, 1) := by decide +kernel
theorem dX10_draw_1 : decode cX10_draw 1 = .ok (.aload_n 0, 1) := by decide +kernel
theorem dX10_draw_2 : decode cX10_draw 2 = .ok (.getfield 22, 3) := by decide +kernel
theorem dX10_draw_5 : decode cX10_draw 5 = .ok (.ldc 69, 2) := by decide +kernel
theorem dX10_draw_7 : decode cX10_draw 7 = .ok (.imul, 1) := by decide +kernel
theorem dX10_draw_8 : decode cX10_draw 8 = .ok (.sipush 12345, 3) := by decide +kernel
theorem dX10_draw_11 : decode cX10_draw 11 = .ok (.iadd, 1) := by decide +kernel
theorem dX10_draw_12 : decode cX10_draw 12 = .ok (.putfield 22, 3) := by decide +kernel
theorem dX10_draw_15 : decode cX10_draw 15 = .ok (.iload_n 1, 1) := by decide +kernel
theorem dX10_draw_16 : decode cX10_draw 16 = .ok (.ifCond .le 19, 3) := by decide +kernel
theorem dX10_draw_19 : decode cX10_draw 19 = .ok (.aload_n 0, 1) := by decide +kernel
theorem dX10_draw_20 : decode cX10_draw 20 = .ok (.getfield 22, 3) := by decide +kernel
theorem dX10_draw_23 : decode cX10_draw 23 = .ok (.bipush 16, 2) := by decide +kernel
theorem dX10_draw_25 : decode cX10_draw 25 = .ok (.iushr, 1) := by decide +kernel
theorem dX10_draw_26 : decode cX10_draw 26 = .ok (.sipush 32767, 3) := by decide +kernel
theorem dX10_draw_29 : decode cX10_draw 29 = .ok (.iand, 1) := by decide +kernel
theorem dX10_draw_30 : decode cX10_draw 30 = .ok (.iload_n 1, 1) := by decide +kernel
theorem dX10_draw_31 : decode cX10_draw 31 = .ok (.irem, 1) := by decide +kernel
theorem dX10_draw_32 : decode cX10_draw 32 = .ok (.goto 4, 3) := by decide +kernel
theorem dX10_draw_35 : decode cX10_draw 35 = .ok (.iconst 0, 1) := by decide +kernel
theorem dX10_draw_36 : decode cX10_draw 36 = .ok (.ireturn, 1) := by decide +kernel
theorem dX10_drawFields_0 : decode cX10_drawFields 0 = .ok (.iload_n 2, 1) := by decide +kernel
theorem dX10_drawFields_1 : decode cX10_drawFields 1 = .ok (.iconst 3, 1) := by decide +kernel
theorem dX10_drawFields_2 : decode cX10_drawFields 2 = .ok (.if_icmp .le 4, 3) := by decide +kernel
theorem dX10_drawFields_5 : decode cX10_drawFields 5 = .ok (.return_, 1) := by decide +kernel
theorem dX10_drawFields_6 : decode cX10_drawFields 6 = .ok (.iconst 0, 1) := by decide +kernel
theorem dX10_drawFields_7 : decode cX10_drawFields 7 = .ok (.istore_n 3, 1) := by decide +kernel
theorem dX10_drawFields_8 : decode cX10_drawFields 8 = .ok (.iload_n 3, 1) := by decide +kernel
theorem dX10_drawFields_9 : decode cX10_drawFields 9 = .ok (.aload_n 0, 1) := by decide +kernel
theorem dX10_drawFields_10 : decode cX10_drawFields 10 = .ok (.getfield 18, 3) := by decide +kernel
theorem dX10_drawFields_13 : decode cX10_drawFields 13 = .ok (.getfield 70, 3) := by decide +kernel
theorem dX10_drawFields_16 : decode cX10_drawFields 16 = .ok (.if_icmp .ge 28, 3) := by decide +kernel
theorem dX10_drawFields_19 : decode cX10_drawFields 19 = .ok (.aload_n 0, 1) := by decide +kernel
theorem dX10_drawFields_20 : decode cX10_drawFields 20 = .ok (.getfield 18, 3) := by decide +kernel
theorem dX10_drawFields_23 : decode cX10_drawFields 23 = .ok (.getfield 73, 3) := by decide +kernel
theorem dX10_drawFields_26 : decode cX10_drawFields 26 = .ok (.iload_n 3, 1) := by decide +kernel
theorem dX10_drawFields_27 : decode cX10_drawFields 27 = .ok (.iaload, 1) := by decide +kernel
theorem dX10_drawFields_28 : decode cX10_drawFields 28 = .ok (.iload_n 1, 1) := by decide +kernel
theorem dX10_drawFields_29 : decode cX10_drawFields 29 = .ok (.if_icmp .ne 9, 3) := by decide +kernel
theorem dX10_drawFields_32 : decode cX10_drawFields 32 = .ok (.aload_n 0, 1) := by decide +kernel
theorem dX10_drawFields_33 : decode cX10_drawFields 33 = .ok (.iload_n 3, 1) := by decide +kernel
theorem dX10_drawFields_34 : decode cX10_drawFields 34 = .ok (.iload_n 2, 1) := by decide +kernel
theorem dX10_drawFields_35 : decode cX10_drawFields 35 = .ok (.invokevirtual 76, 3) := by decide +kernel
theorem dX10_drawFields_38 : decode cX10_drawFields 38 = .ok (.iinc 3 1, 3) := by decide +kernel
theorem dX10_drawFields_41 : decode cX10_drawFields 41 = .ok (.goto (-33), 3) := by decide +kernel
theorem dX10_drawFields_44 : decode cX10_drawFields 44 = .ok (.return_, 1) := by decide +kernel
theorem dX10_drawField_0 : decode cX10_drawField 0 = .ok (.iconst 1, 1) := by decide +kernel
theorem dX10_drawField_1 : decode cX10_drawField 1 = .ok (.istore_n 3, 1) := by decide +kernel
theorem dX10_drawField_2 : decode cX10_drawField 2 = .ok (.aload_n 0, 1) := by decide +kernel
theorem dX10_drawField_3 : decode cX10_drawField 3 = .ok (.getfield 18, 3) := by decide +kernel
theorem dX10_drawField_6 : decode cX10_drawField 6 = .ok (.getfield 79, 3) := by decide +kernel
theorem dX10_drawField_9 : decode cX10_drawField 9 = .ok (.iload_n 1, 1) := by decide +kernel
theorem dX10_drawField_10 : decode cX10_drawField 10 = .ok (.iaload, 1) := by decide +kernel
theorem dX10_drawField_11 : decode cX10_drawField 11 = .ok (.ifCond .eq 26, 3) := by decide +kernel
theorem dX10_drawField_14 : decode cX10_drawField 14 = .ok (.aload_n 0, 1) := by decide +kernel
theorem dX10_drawField_15 : decode cX10_drawField 15 = .ok (.aload_n 0, 1) := by decide +kernel
theorem dX10_drawField_16 : decode cX10_drawField 16 = .ok (.getfield 18, 3) := by decide +kernel
theorem dX10_drawField_19 : decode cX10_drawField 19 = .ok (.getfield 79, 3) := by decide +kernel
theorem dX10_drawField_22 : decode cX10_drawField 22 = .ok (.iload_n 1, 1) := by decide +kernel
theorem dX10_drawField_23 : decode cX10_drawField 23 = .ok (.iaload, 1) := by decide +kernel
theorem dX10_drawField_24 : decode cX10_drawField 24 = .ok (.iconst 1, 1) := by decide +kernel
theorem dX10_drawField_25 : decode cX10_drawField 25 = .ok (.if_icmp .ne 7, 3) := by decide +kernel
theorem dX10_drawField_28 : decode cX10_drawField 28 = .ok (.iconst 2, 1) := by decide +kernel
theorem dX10_drawField_29 : decode cX10_drawField 29 = .ok (.goto 4, 3) := by decide +kernel
theorem dX10_drawField_32 : decode cX10_drawField 32 = .ok (.iconst 3, 1) := by decide +kernel
theorem dX10_drawField_33 : decode cX10_drawField 33 = .ok (.invokevirtual 82, 3) := by decide +kernel
theorem dX10_drawField_36 : decode cX10_drawField 36 = .ok (.istore_n 3, 1) := by decide +kernel
theorem dX10_drawField_37 : decode cX10_drawField 37 = .ok (.iconst 0, 1) := by decide +kernel
theorem dX10_drawField_38 : decode cX10_drawField 38 = .ok (.istore 4, 2) := by decide +kernel
theorem dX10_drawField_40 : decode cX10_drawField 40 = .ok (.iload 4, 2) := by decide +kernel
theorem dX10_drawField_42 : decode cX10_drawField 42 = .ok (.iload_n 3, 1) := by decide +kernel
theorem dX10_drawField_43 : decode cX10_drawField 43 = .ok (.if_icmp .ge 15, 3) := by decide +kernel
theorem dX10_drawField_46 : decode cX10_drawField 46 = .ok (.aload_n 0, 1) := by decide +kernel
theorem dX10_drawField_47 : decode cX10_drawField 47 = .ok (.iload_n 1, 1) := by decide +kernel
theorem dX10_drawField_48 : decode cX10_drawField 48 = .ok (.iload_n 2, 1) := by decide +kernel
theorem dX10_drawField_49 : decode cX10_drawField 49 = .ok (.invokevirtual 86, 3) := by decide +kernel
theorem dX10_drawField_52 : decode cX10_drawField 52 = .ok (.iinc 4 1, 3) := by decide +kernel
theorem dX10_drawField_55 : decode cX10_drawField 55 = .ok (.goto (-15), 3) := by decide +kernel
theorem dX10_drawField_58 : decode cX10_drawField 58 = .ok (.iload_n 3, 1) := by decide +kernel
theorem dX10_drawField_59 : decode cX10_drawField 59 = .ok (.ifCond .ne 48, 3) := by decide +kernel
theorem dX10_drawField_62 : decode cX10_drawField 62 = .ok (.iconst 0, 1) := by decide +kernel
theorem dX10_drawField_63 : decode cX10_drawField 63 = .ok (.istore 4, 2) := by decide +kernel
theorem dX10_drawField_65 : decode cX10_drawField 65 = .ok (.iload 4, 2) := by decide +kernel
theorem dX10_drawField_67 : decode cX10_drawField 67 = .ok (.aload_n 0, 1) := by decide +kernel
theorem dX10_drawField_68 : decode cX10_drawField 68 = .ok (.getfield 18, 3) := by decide +kernel
theorem dX10_drawField_71 : decode cX10_drawField 71 = .ok (.getfield 35, 3) := by decide +kernel
theorem dX10_drawField_74 : decode cX10_drawField 74 = .ok (.if_icmp .ge 33, 3) := by decide +kernel
theorem dX10_drawField_77 : decode cX10_drawField 77 = .ok (.aload_n 0, 1) := by decide +kernel
theorem dX10_drawField_78 : decode cX10_drawField 78 = .ok (.getfield 15, 3) := by decide +kernel
theorem dX10_drawField_81 : decode cX10_drawField 81 = .ok (.iload 4, 2) := by decide +kernel
theorem dX10_drawField_83 : decode cX10_drawField 83 = .ok (.dup2, 1) := by decide +kernel
theorem dX10_drawField_84 : decode cX10_drawField 84 = .ok (.iaload, 1) := by decide +kernel
theorem dX10_drawField_85 : decode cX10_drawField 85 = .ok (.aload_n 0, 1) := by decide +kernel
theorem dX10_drawField_86 : decode cX10_drawField 86 = .ok (.getfield 18, 3) := by decide +kernel
theorem dX10_drawField_89 : decode cX10_drawField 89 = .ok (.getfield 89, 3) := by decide +kernel
theorem dX10_drawField_92 : decode cX10_drawField 92 = .ok (.iload_n 1, 1) := by decide +kernel
theorem dX10_drawField_93 : decode cX10_drawField 93 = .ok (.iaload, 1) := by decide +kernel
theorem dX10_drawField_94 : decode cX10_drawField 94 = .ok (.iload 4, 2) := by decide +kernel
theorem dX10_drawField_96 : decode cX10_drawField 96 = .ok (.iushr, 1) := by decide +kernel
theorem dX10_drawField_97 : decode cX10_drawField 97 = .ok (.iconst 1, 1) := by decide +kernel
theorem dX10_drawField_98 : decode cX10_drawField 98 = .ok (.iand, 1) := by decide +kernel
theorem dX10_drawField_99 : decode cX10_drawField 99 = .ok (.iadd, 1) := by decide +kernel
theorem dX10_drawField_100 : decode cX10_drawField 100 = .ok (.iastore, 1) := by decide +kernel
theorem dX10_drawField_101 : decode cX10_drawField 101 = .ok (.iinc 4 1, 3) := by decide +kernel
theorem dX10_drawField_104 : decode cX10_drawField 104 = .ok (.goto (-39), 3) := by decide +kernel
theorem dX10_drawField_107 : decode cX10_drawField 107 = .ok (.return_, 1) := by decide +kernel
theorem dX10_drawItem_0 : decode cX10_drawItem 0 = .ok (.aload_n 0, 1) := by decide +kernel
theorem dX10_drawItem_1 : decode cX10_drawItem 1 = .ok (.getfield 18, 3) := by decide +kernel
theorem dX10_drawItem_4 : decode cX10_drawItem 4 = .ok (.getfield 92, 3) := by decide +kernel
theorem dX10_drawItem_7 : decode cX10_drawItem 7 = .ok (.iload_n 1, 1) := by decide +kernel
theorem dX10_drawItem_8 : decode cX10_drawItem 8 = .ok (.iaload, 1) := by decide +kernel
theorem dX10_drawItem_9 : decode cX10_drawItem 9 = .ok (.istore_n 3, 1) := by decide +kernel
theorem dX10_drawItem_10 : decode cX10_drawItem 10 = .ok (.iload_n 3, 1) := by decide +kernel
theorem dX10_drawItem_11 : decode cX10_drawItem 11 = .ok (.iconst (-1), 1) := by decide +kernel
theorem dX10_drawItem_12 : decode cX10_drawItem 12 = .ok (.if_icmp .ne 14, 3) := by decide +kernel
theorem dX10_drawItem_15 : decode cX10_drawItem 15 = .ok (.aload_n 0, 1) := by decide +kernel
theorem dX10_drawItem_16 : decode cX10_drawItem 16 = .ok (.iload_n 1, 1) := by decide +kernel
theorem dX10_drawItem_17 : decode cX10_drawItem 17 = .ok (.iload_n 2, 1) := by decide +kernel
theorem dX10_drawItem_18 : decode cX10_drawItem 18 = .ok (.iconst 1, 1) := by decide +kernel
theorem dX10_drawItem_19 : decode cX10_drawItem 19 = .ok (.iadd, 1) := by decide +kernel
theorem dX10_drawItem_20 : decode cX10_drawItem 20 = .ok (.invokevirtual 65, 3) := by decide +kernel
theorem dX10_drawItem_23 : decode cX10_drawItem 23 = .ok (.goto 28, 3) := by decide +kernel
theorem dX10_drawItem_26 : decode cX10_drawItem 26 = .ok (.aload_n 0, 1) := by decide +kernel
theorem dX10_drawItem_27 : decode cX10_drawItem 27 = .ok (.dup, 1) := by decide +kernel
theorem dX10_drawItem_28 : decode cX10_drawItem 28 = .ok (.getfield 62, 3) := by decide +kernel
theorem dX10_drawItem_31 : decode cX10_drawItem 31 = .ok (.aload_n 0, 1) := by decide +kernel
theorem dX10_drawItem_32 : decode cX10_drawItem 32 = .ok (.bipush 100, 2) := by decide +kernel
theorem dX10_drawItem_34 : decode cX10_drawItem 34 = .ok (.invokevirtual 82, 3) := by decide +kernel
theorem dX10_drawItem_37 : decode cX10_drawItem 37 = .ok (.iadd, 1) := by decide +kernel
theorem dX10_drawItem_38 : decode cX10_drawItem 38 = .ok (.putfield 62, 3) := by decide +kernel
theorem dX10_drawItem_41 : decode cX10_drawItem 41 = .ok (.aload_n 0, 1) := by decide +kernel
theorem dX10_drawItem_42 : decode cX10_drawItem 42 = .ok (.getfield 15, 3) := by decide +kernel
theorem dX10_drawItem_45 : decode cX10_drawItem 45 = .ok (.iload_n 3, 1) := by decide +kernel
theorem dX10_drawItem_46 : decode cX10_drawItem 46 = .ok (.dup2, 1) := by decide +kernel
theorem dX10_drawItem_47 : decode cX10_drawItem 47 = .ok (.iaload, 1) := by decide +kernel
theorem dX10_drawItem_48 : decode cX10_drawItem 48 = .ok (.iconst 1, 1) := by decide +kernel
theorem dX10_drawItem_49 : decode cX10_drawItem 49 = .ok (.iadd, 1) := by decide +kernel
theorem dX10_drawItem_50 : decode cX10_drawItem 50 = .ok (.iastore, 1) := by decide +kernel
theorem dX10_drawItem_51 : decode cX10_drawItem 51 = .ok (.return_, 1) := by decide +kernel
