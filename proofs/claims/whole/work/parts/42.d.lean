theorem dX12_add_0 : decode cX12_add 0 = .ok (.aload_n 0, 1) := by decide +kernel
theorem dX12_add_1 : decode cX12_add 1 = .ok (.iload_n 1, 1) := by decide +kernel
theorem dX12_add_2 : decode cX12_add 2 = .ok (.invokevirtual 233, 3) := by decide +kernel
theorem dX12_add_5 : decode cX12_add 5 = .ok (.ifCond .ne 5, 3) := by decide +kernel
theorem dX12_add_8 : decode cX12_add 8 = .ok (.iconst 0, 1) := by decide +kernel
theorem dX12_add_9 : decode cX12_add 9 = .ok (.ireturn, 1) := by decide +kernel
theorem dX12_add_10 : decode cX12_add 10 = .ok (.aload_n 0, 1) := by decide +kernel
theorem dX12_add_11 : decode cX12_add 11 = .ok (.getfield 73, 3) := by decide +kernel
theorem dX12_add_14 : decode cX12_add 14 = .ok (.iconst 0, 1) := by decide +kernel
theorem dX12_add_15 : decode cX12_add 15 = .ok (.iaload, 1) := by decide +kernel
theorem dX12_add_16 : decode cX12_add 16 = .ok (.ifCond .eq 10, 3) := by decide +kernel
theorem dX12_add_19 : decode cX12_add 19 = .ok (.aload_n 0, 1) := by decide +kernel
theorem dX12_add_20 : decode cX12_add 20 = .ok (.invokevirtual 288, 3) := by decide +kernel
theorem dX12_add_23 : decode cX12_add 23 = .ok (.ifCond .eq 15, 3) := by decide +kernel
theorem dX12_add_26 : decode cX12_add 26 = .ok (.aload_n 0, 1) := by decide +kernel
theorem dX12_add_27 : decode cX12_add 27 = .ok (.getfield 42, 3) := by decide +kernel
theorem dX12_add_30 : decode cX12_add 30 = .ok (.iconst 1, 1) := by decide +kernel
theorem dX12_add_31 : decode cX12_add 31 = .ok (.dup2, 1) := by decide +kernel
theorem dX12_add_32 : decode cX12_add 32 = .ok (.iaload, 1) := by decide +kernel
theorem dX12_add_33 : decode cX12_add 33 = .ok (.iconst 1, 1) := by decide +kernel
theorem dX12_add_34 : decode cX12_add 34 = .ok (.iadd, 1) := by decide +kernel
theorem dX12_add_35 : decode cX12_add 35 = .ok (.iastore, 1) := by decide +kernel
theorem dX12_add_36 : decode cX12_add 36 = .ok (.iconst (-1), 1) := by decide +kernel
theorem dX12_add_37 : decode cX12_add 37 = .ok (.ireturn, 1) := by decide +kernel
theorem dX12_add_38 : decode cX12_add 38 = .ok (.aload_n 0, 1) := by decide +kernel
theorem dX12_add_39 : decode cX12_add 39 = .ok (.aload_n 0, 1) := by decide +kernel
theorem dX12_add_40 : decode cX12_add 40 = .ok (.getfield 92, 3) := by decide +kernel
theorem dX12_add_43 : decode cX12_add 43 = .ok (.iconst 0, 1) := by decide +kernel
theorem dX12_add_44 : decode cX12_add 44 = .ok (.invokevirtual 291, 3) := by decide +kernel
theorem dX12_add_47 : decode cX12_add 47 = .ok (.aload_n 0, 1) := by decide +kernel
theorem dX12_add_48 : decode cX12_add 48 = .ok (.invokevirtual 195, 3) := by decide +kernel
theorem dX12_add_51 : decode cX12_add 51 = .ok (.aload_n 0, 1) := by decide +kernel
theorem dX12_add_52 : decode cX12_add 52 = .ok (.getfield 144, 3) := by decide +kernel
theorem dX12_add_55 : decode cX12_add 55 = .ok (.ifCond .ne 8, 3) := by decide +kernel
theorem dX12_add_58 : decode cX12_add 58 = .ok (.aload_n 0, 1) := by decide +kernel
theorem dX12_add_59 : decode cX12_add 59 = .ok (.iconst 1, 1) := by decide +kernel
theorem dX12_add_60 : decode cX12_add 60 = .ok (.invokevirtual 191, 3) := by decide +kernel
theorem dX12_add_63 : decode cX12_add 63 = .ok (.aload_n 0, 1) := by decide +kernel
theorem dX12_add_64 : decode cX12_add 64 = .ok (.getfield 170, 3) := by decide +kernel
theorem dX12_add_67 : decode cX12_add 67 = .ok (.ifCond .ne 89, 3) := by decide +kernel
theorem dX12_add_70 : decode cX12_add 70 = .ok (.aload_n 0, 1) := by decide +kernel
theorem dX12_add_71 : decode cX12_add 71 = .ok (.getfield 144, 3) := by decide +kernel
theorem dX12_add_74 : decode cX12_add 74 = .ok (.ifCond .eq 82, 3) := by decide +kernel
theorem dX12_add_77 : decode cX12_add 77 = .ok (.aload_n 0, 1) := by decide +kernel
theorem dX12_add_78 : decode cX12_add 78 = .ok (.getfield 249, 3) := by decide +kernel
theorem dX12_add_81 : decode cX12_add 81 = .ok (.bipush 30, 2) := by decide +kernel
theorem dX12_add_83 : decode cX12_add 83 = .ok (.if_icmp .ne 19, 3) := by decide +kernel
theorem dX12_add_86 : decode cX12_add 86 = .ok (.aload_n 0, 1) := by decide +kernel
theorem dX12_add_87 : decode cX12_add 87 = .ok (.aload_n 0, 1) := by decide +kernel
theorem dX12_add_88 : decode cX12_add 88 = .ok (.invokevirtual 295, 3) := by decide +kernel
theorem dX12_add_91 : decode cX12_add 91 = .ok (.ifCond .eq 7, 3) := by decide +kernel
theorem dX12_add_94 : decode cX12_add 94 = .ok (.iconst 2, 1) := by decide +kernel
theorem dX12_add_95 : decode cX12_add 95 = .ok (.goto 4, 3) := by decide +kernel
theorem dX12_add_98 : decode cX12_add 98 = .ok (.iconst 1, 1) := by decide +kernel
theorem dX12_add_99 : decode cX12_add 99 = .ok (.invokevirtual 191, 3) := by decide +kernel
theorem dX12_add_102 : decode cX12_add 102 = .ok (.aload_n 0, 1) := by decide +kernel
theorem dX12_add_103 : decode cX12_add 103 = .ok (.iconst (-1), 1) := by decide +kernel
theorem dX12_add_104 : decode cX12_add 104 = .ok (.iconst 0, 1) := by decide +kernel
theorem dX12_add_105 : decode cX12_add 105 = .ok (.iconst 0, 1) := by decide +kernel
theorem dX12_add_106 : decode cX12_add 106 = .ok (.invokevirtual 275, 3) := by decide +kernel
theorem dX12_add_109 : decode cX12_add 109 = .ok (.aload_n 0, 1) := by decide +kernel
theorem dX12_add_110 : decode cX12_add 110 = .ok (.dup, 1) := by decide +kernel
theorem dX12_add_111 : decode cX12_add 111 = .ok (.getfield 249, 3) := by decide +kernel
theorem dX12_add_114 : decode cX12_add 114 = .ok (.iconst 1, 1) := by decide +kernel
theorem dX12_add_115 : decode cX12_add 115 = .ok (.iadd, 1) := by decide +kernel
theorem dX12_add_116 : decode cX12_add 116 = .ok (.putfield 249, 3) := by decide +kernel
theorem dX12_add_119 : decode cX12_add 119 = .ok (.aload_n 0, 1) := by decide +kernel
theorem dX12_add_120 : decode cX12_add 120 = .ok (.getfield 170, 3) := by decide +kernel
theorem dX12_add_123 : decode cX12_add 123 = .ok (.ifCond .ne 24, 3) := by decide +kernel
theorem dX12_add_126 : decode cX12_add 126 = .ok (.aload_n 0, 1) := by decide +kernel
theorem dX12_add_127 : decode cX12_add 127 = .ok (.bipush 59, 2) := by decide +kernel
theorem dX12_add_129 : decode cX12_add 129 = .ok (.invokevirtual 188, 3) := by decide +kernel
theorem dX12_add_132 : decode cX12_add 132 = .ok (.ifCond .eq 15, 3) := by decide +kernel
theorem dX12_add_135 : decode cX12_add 135 = .ok (.aload_n 0, 1) := by decide +kernel
theorem dX12_add_136 : decode cX12_add 136 = .ok (.invokevirtual 299, 3) := by decide +kernel
theorem dX12_add_139 : decode cX12_add 139 = .ok (.ifCond .eq 8, 3) := by decide +kernel
theorem dX12_add_142 : decode cX12_add 142 = .ok (.aload_n 0, 1) := by decide +kernel
theorem dX12_add_143 : decode cX12_add 143 = .ok (.iconst 2, 1) := by decide +kernel
theorem dX12_add_144 : decode cX12_add 144 = .ok (.invokevirtual 191, 3) := by decide +kernel
theorem dX12_add_147 : decode cX12_add 147 = .ok (.aload_n 0, 1) := by decide +kernel
theorem dX12_add_148 : decode cX12_add 148 = .ok (.bipush 59, 2) := by decide +kernel
theorem dX12_add_150 : decode cX12_add 150 = .ok (.invokevirtual 227, 3) := by decide +kernel
theorem dX12_add_153 : decode cX12_add 153 = .ok (.goto (-90), 3) := by decide +kernel
theorem dX12_add_156 : decode cX12_add 156 = .ok (.aload_n 0, 1) := by decide +kernel
theorem dX12_add_157 : decode cX12_add 157 = .ok (.invokevirtual 240, 3) := by decide +kernel
theorem dX12_add_160 : decode cX12_add 160 = .ok (.ifCond .eq 17, 3) := by decide +kernel
theorem dX12_add_163 : decode cX12_add 163 = .ok (.aload_n 0, 1) := by decide +kernel
theorem dX12_add_164 : decode cX12_add 164 = .ok (.aload_n 0, 1) := by decide +kernel
theorem dX12_add_165 : decode cX12_add 165 = .ok (.getfield 92, 3) := by decide +kernel
theorem dX12_add_168 : decode cX12_add 168 = .ok (.iconst 0, 1) := by decide +kernel
theorem dX12_add_169 : decode cX12_add 169 = .ok (.invokevirtual 302, 3) := by decide +kernel
theorem dX12_add_172 : decode cX12_add 172 = .ok (.aload_n 0, 1) := by decide +kernel
theorem dX12_add_173 : decode cX12_add 173 = .ok (.getfield 170, 3) := by decide +kernel
theorem dX12_add_176 : decode cX12_add 176 = .ok (.ireturn, 1) := by decide +kernel
theorem dX12_add_177 : decode cX12_add 177 = .ok (.aload_n 0, 1) := by decide +kernel
theorem dX12_add_178 : decode cX12_add 178 = .ok (.aload_n 0, 1) := by decide +kernel
theorem dX12_add_179 : decode cX12_add 179 = .ok (.getfield 95, 3) := by decide +kernel
theorem dX12_add_182 : decode cX12_add 182 = .ok (.iconst 0, 1) := by decide +kernel
theorem dX12_add_183 : decode cX12_add 183 = .ok (.invokevirtual 291, 3) := by decide +kernel
theorem dX12_add_186 : decode cX12_add 186 = .ok (.aload_n 0, 1) := by decide +kernel
theorem dX12_add_187 : decode cX12_add 187 = .ok (.aload_n 0, 1) := by decide +kernel
theorem dX12_add_188 : decode cX12_add 188 = .ok (.getfield 92, 3) := by decide +kernel
theorem dX12_add_191 : decode cX12_add 191 = .ok (.iconst 0, 1) := by decide +kernel
theorem dX12_add_192 : decode cX12_add 192 = .ok (.invokevirtual 302, 3) := by decide +kernel
theorem dX12_add_195 : decode cX12_add 195 = .ok (.aload_n 0, 1) := by decide +kernel
theorem dX12_add_196 : decode cX12_add 196 = .ok (.invokevirtual 305, 3) := by decide +kernel
theorem dX12_add_199 : decode cX12_add 199 = .ok (.aload_n 0, 1) := by decide +kernel
theorem dX12_add_200 : decode cX12_add 200 = .ok (.aload_n 0, 1) := by decide +kernel
theorem dX12_add_201 : decode cX12_add 201 = .ok (.getfield 95, 3) := by decide +kernel
theorem dX12_add_204 : decode cX12_add 204 = .ok (.iconst 0, 1) := by decide +kernel
theorem dX12_add_205 : decode cX12_add 205 = .ok (.invokevirtual 302, 3) := by decide +kernel
theorem dX12_add_208 : decode cX12_add 208 = .ok (.iconst 0, 1) := by decide +kernel
theorem dX12_add_209 : decode cX12_add 209 = .ok (.ireturn, 1) := by decide +kernel
theorem dX12_mayBegin_0 : decode cX12_mayBegin 0 = .ok (.aload_n 0, 1) := by decide +kernel
theorem dX12_mayBegin_1 : decode cX12_mayBegin 1 = .ok (.getfield 49, 3) := by decide +kernel
theorem dX12_mayBegin_4 : decode cX12_mayBegin 4 = .ok (.iconst 0, 1) := by decide +kernel
theorem dX12_mayBegin_5 : decode cX12_mayBegin 5 = .ok (.iaload, 1) := by decide +kernel
theorem dX12_mayBegin_6 : decode cX12_mayBegin 6 = .ok (.iconst 2, 1) := by decide +kernel
theorem dX12_mayBegin_7 : decode cX12_mayBegin 7 = .ok (.if_icmp .eq 22, 3) := by decide +kernel
theorem dX12_mayBegin_10 : decode cX12_mayBegin 10 = .ok (.aload_n 0, 1) := by decide +kernel
theorem dX12_mayBegin_11 : decode cX12_mayBegin 11 = .ok (.getfield 49, 3) := by decide +kernel
theorem dX12_mayBegin_14 : decode cX12_mayBegin 14 = .ok (.iconst 0, 1) := by decide +kernel
theorem dX12_mayBegin_15 : decode cX12_mayBegin 15 = .ok (.iaload, 1) := by decide +kernel
theorem dX12_mayBegin_16 : decode cX12_mayBegin 16 = .ok (.iconst 1, 1) := by decide +kernel
theorem dX12_mayBegin_17 : decode cX12_mayBegin 17 = .ok (.if_icmp .ne 34, 3) := by decide +kernel
theorem dX12_mayBegin_20 : decode cX12_mayBegin 20 = .ok (.aload_n 0, 1) := by decide +kernel
theorem dX12_mayBegin_21 : decode cX12_mayBegin 21 = .ok (.bipush 45, 2) := by decide +kernel
theorem dX12_mayBegin_23 : decode cX12_mayBegin 23 = .ok (.invokevirtual 188, 3) := by decide +kernel
theorem dX12_mayBegin_26 : decode cX12_mayBegin 26 = .ok (.ifCond .eq 25, 3) := by decide +kernel
theorem dX12_mayBegin_29 : decode cX12_mayBegin 29 = .ok (.aload_n 0, 1) := by decide +kernel
theorem dX12_mayBegin_30 : decode cX12_mayBegin 30 = .ok (.aload_n 0, 1) := by decide +kernel
theorem dX12_mayBegin_31 : decode cX12_mayBegin 31 = .ok (.getfield 49, 3) := by decide +kernel
theorem dX12_mayBegin_34 : decode cX12_mayBegin 34 = .ok (.iconst 0, 1) := by decide +kernel
theorem dX12_mayBegin_35 : decode cX12_mayBegin 35 = .ok (.iaload, 1) := by decide +kernel
theorem dX12_mayBegin_36 : decode cX12_mayBegin 36 = .ok (.iconst 2, 1) := by decide +kernel
theorem dX12_mayBegin_37 : decode cX12_mayBegin 37 = .ok (.if_icmp .ne 8, 3) := by decide +kernel
theorem dX12_mayBegin_40 : decode cX12_mayBegin 40 = .ok (.bipush 91, 2) := by decide +kernel
theorem dX12_mayBegin_42 : decode cX12_mayBegin 42 = .ok (.goto 5, 3) := by decide +kernel
theorem dX12_mayBegin_45 : decode cX12_mayBegin 45 = .ok (.bipush 45, 2) := by decide +kernel
theorem dX12_mayBegin_47 : decode cX12_mayBegin 47 = .ok (.invokevirtual 188, 3) := by decide +kernel
theorem dX12_mayBegin_50 : decode cX12_mayBegin 50 = .ok (.ireturn, 1) := by decide +kernel
theorem dX12_mayBegin_51 : decode cX12_mayBegin 51 = .ok (.aload_n 0, 1) := by decide +kernel
theorem dX12_mayBegin_52 : decode cX12_mayBegin 52 = .ok (.getfield 55, 3) := by decide +kernel
theorem dX12_mayBegin_55 : decode cX12_mayBegin 55 = .ok (.iconst 0, 1) := by decide +kernel
theorem dX12_mayBegin_56 : decode cX12_mayBegin 56 = .ok (.iaload, 1) := by decide +kernel
theorem dX12_mayBegin_57 : decode cX12_mayBegin 57 = .ok (.iconst (-1), 1) := by decide +kernel
theorem dX12_mayBegin_58 : decode cX12_mayBegin 58 = .ok (.if_icmp .ne 12, 3) := by decide +kernel
theorem dX12_mayBegin_61 : decode cX12_mayBegin 61 = .ok (.aload_n 0, 1) := by decide +kernel
theorem dX12_mayBegin_62 : decode cX12_mayBegin 62 = .ok (.bipush 40, 2) := by decide +kernel
theorem dX12_mayBegin_64 : decode cX12_mayBegin 64 = .ok (.invokevirtual 188, 3) := by decide +kernel
theorem dX12_mayBegin_67 : decode cX12_mayBegin 67 = .ok (.goto 16, 3) := by decide +kernel
theorem dX12_mayBegin_70 : decode cX12_mayBegin 70 = .ok (.aload_n 0, 1) := by decide +kernel
theorem dX12_mayBegin_71 : decode cX12_mayBegin 71 = .ok (.getfield 144, 3) := by decide +kernel
theorem dX12_mayBegin_74 : decode cX12_mayBegin 74 = .ok (.iconst 2, 1) := by decide +kernel
theorem dX12_mayBegin_75 : decode cX12_mayBegin 75 = .ok (.if_icmp .ne 7, 3) := by decide +kernel
theorem dX12_mayBegin_78 : decode cX12_mayBegin 78 = .ok (.iconst 1, 1) := by decide +kernel
theorem dX12_mayBegin_79 : decode cX12_mayBegin 79 = .ok (.goto 4, 3) := by decide +kernel
theorem dX12_mayBegin_82 : decode cX12_mayBegin 82 = .ok (.iconst 0, 1) := by decide +kernel
theorem dX12_mayBegin_83 : decode cX12_mayBegin 83 = .ok (.ireturn, 1) := by decide +kernel
theorem dX12_keep_0 : decode cX12_keep 0 = .ok (.aload_n 0, 1) := by decide +kernel
theorem dX12_keep_1 : decode cX12_keep 1 = .ok (.getfield 252, 3) := by decide +kernel
theorem dX12_keep_4 : decode cX12_keep 4 = .ok (.bipush 40, 2) := by decide +kernel
theorem dX12_keep_6 : decode cX12_keep 6 = .ok (.if_icmp .ne 48, 3) := by decide +kernel
theorem dX12_keep_9 : decode cX12_keep 9 = .ok (.sipush 969, 3) := by decide +kernel
theorem dX12_keep_12 : decode cX12_keep 12 = .ok (.istore_n 1, 1) := by decide +kernel
theorem dX12_keep_13 : decode cX12_keep 13 = .ok (.iload_n 1, 1) := by decide +kernel
theorem dX12_keep_14 : decode cX12_keep 14 = .ok (.aload_n 0, 1) := by decide +kernel
theorem dX12_keep_15 : decode cX12_keep 15 = .ok (.getfield 89, 3) := by decide +kernel
theorem dX12_keep_18 : decode cX12_keep 18 = .ok (.arraylength, 1) := by decide +kernel
theorem dX12_keep_19 : decode cX12_keep 19 = .ok (.if_icmp .ge 25, 3) := by decide +kernel
theorem dX12_keep_22 : decode cX12_keep 22 = .ok (.aload_n 0, 1) := by decide +kernel
theorem dX12_keep_23 : decode cX12_keep 23 = .ok (.getfield 89, 3) := by decide +kernel
theorem dX12_keep_26 : decode cX12_keep 26 = .ok (.iload_n 1, 1) := by decide +kernel
theorem dX12_keep_27 : decode cX12_keep 27 = .ok (.sipush 969, 3) := by decide +kernel
theorem dX12_keep_30 : decode cX12_keep 30 = .ok (.isub, 1) := by decide +kernel
theorem dX12_keep_31 : decode cX12_keep 31 = .ok (.aload_n 0, 1) := by decide +kernel
theorem dX12_keep_32 : decode cX12_keep 32 = .ok (.getfield 89, 3) := by decide +kernel
theorem dX12_keep_35 : decode cX12_keep 35 = .ok (.iload_n 1, 1) := by decide +kernel
theorem dX12_keep_36 : decode cX12_keep 36 = .ok (.iaload, 1) := by decide +kernel
theorem dX12_keep_37 : decode cX12_keep 37 = .ok (.iastore, 1) := by decide +kernel
theorem dX12_keep_38 : decode cX12_keep 38 = .ok (.iinc 1 1, 3) := by decide +kernel
theorem dX12_keep_41 : decode cX12_keep 41 = .ok (.goto (-28), 3) := by decide +kernel
theorem dX12_keep_44 : decode cX12_keep 44 = .ok (.aload_n 0, 1) := by decide +kernel
theorem dX12_keep_45 : decode cX12_keep 45 = .ok (.dup, 1) := by decide +kernel
theorem dX12_keep_46 : decode cX12_keep 46 = .ok (.getfield 252, 3) := by decide +kernel
theorem dX12_keep_49 : decode cX12_keep 49 = .ok (.iconst 1, 1) := by decide +kernel
theorem dX12_keep_50 : decode cX12_keep 50 = .ok (.isub, 1) := by decide +kernel
theorem dX12_keep_51 : decode cX12_keep 51 = .ok (.putfield 252, 3) := by decide +kernel
theorem dX12_keep_54 : decode cX12_keep 54 = .ok (.aload_n 0, 1) := by decide +kernel
theorem dX12_keep_55 : decode cX12_keep 55 = .ok (.aload_n 0, 1) := by decide +kernel
theorem dX12_keep_56 : decode cX12_keep 56 = .ok (.getfield 89, 3) := by decide +kernel
theorem dX12_keep_59 : decode cX12_keep 59 = .ok (.sipush 969, 3) := by decide +kernel
theorem dX12_keep_62 : decode cX12_keep 62 = .ok (.aload_n 0, 1) := by decide +kernel
theorem dX12_keep_63 : decode cX12_keep 63 = .ok (.getfield 252, 3) := by decide +kernel
theorem dX12_keep_66 : decode cX12_keep 66 = .ok (.imul, 1) := by decide +kernel
theorem dX12_keep_67 : decode cX12_keep 67 = .ok (.invokevirtual 291, 3) := by decide +kernel
theorem dX12_keep_70 : decode cX12_keep 70 = .ok (.aload_n 0, 1) := by decide +kernel
theorem dX12_keep_71 : decode cX12_keep 71 = .ok (.dup, 1) := by decide +kernel
theorem dX12_keep_72 : decode cX12_keep 72 = .ok (.getfield 252, 3) := by decide +kernel
theorem dX12_keep_75 : decode cX12_keep 75 = .ok (.iconst 1, 1) := by decide +kernel
theorem dX12_keep_76 : decode cX12_keep 76 = .ok (.iadd, 1) := by decide +kernel
theorem dX12_keep_77 : decode cX12_keep 77 = .ok (.putfield 252, 3) := by decide +kernel
theorem dX12_keep_80 : decode cX12_keep 80 = .ok (.return_, 1) := by decide +kernel
theorem dX12_both_0 : decode cX12_both 0 = .ok (.aload_n 0, 1) := by decide +kernel
theorem dX12_both_1 : decode cX12_both 1 = .ok (.getfield 52, 3) := by decide +kernel
theorem dX12_both_4 : decode cX12_both 4 = .ok (.aload_n 0, 1) := by decide +kernel
theorem dX12_both_5 : decode cX12_both 5 = .ok (.getfield 79, 3) := by decide +kernel
theorem dX12_both_8 : decode cX12_both 8 = .ok (.iload_n 1, 1) := by decide +kernel
theorem dX12_both_9 : decode cX12_both 9 = .ok (.iaload, 1) := by decide +kernel
theorem dX12_both_10 : decode cX12_both 10 = .ok (.iaload, 1) := by decide +kernel
theorem dX12_both_11 : decode cX12_both 11 = .ok (.istore_n 3, 1) := by decide +kernel
theorem dX12_both_12 : decode cX12_both 12 = .ok (.iload_n 3, 1) := by decide +kernel
theorem dX12_both_13 : decode cX12_both 13 = .ok (.iconst (-1), 1) := by decide +kernel
theorem dX12_both_14 : decode cX12_both 14 = .ok (.if_icmp .eq 27, 3) := by decide +kernel
theorem dX12_both_17 : decode cX12_both 17 = .ok (.aload_n 0, 1) := by decide +kernel
theorem dX12_both_18 : decode cX12_both 18 = .ok (.aload_n 0, 1) := by decide +kernel
theorem dX12_both_19 : decode cX12_both 19 = .ok (.getfield 79, 3) := by decide +kernel
theorem dX12_both_22 : decode cX12_both 22 = .ok (.iload_n 2, 1) := by decide +kernel
theorem dX12_both_23 : decode cX12_both 23 = .ok (.iaload, 1) := by decide +kernel
theorem dX12_both_24 : decode cX12_both 24 = .ok (.iload_n 3, 1) := by decide +kernel
theorem dX12_both_25 : decode cX12_both 25 = .ok (.invokevirtual 265, 3) := by decide +kernel
theorem dX12_both_28 : decode cX12_both 28 = .ok (.ifCond .ne 13, 3) := by decide +kernel
theorem dX12_both_31 : decode cX12_both 31 = .ok (.aload_n 0, 1) := by decide +kernel
theorem dX12_both_32 : decode cX12_both 32 = .ok (.getfield 52, 3) := by decide +kernel
theorem dX12_both_35 : decode cX12_both 35 = .ok (.iload_n 3, 1) := by decide +kernel
theorem dX12_both_36 : decode cX12_both 36 = .ok (.iaload, 1) := by decide +kernel
theorem dX12_both_37 : decode cX12_both 37 = .ok (.istore_n 3, 1) := by decide +kernel
theorem dX12_both_38 : decode cX12_both 38 = .ok (.goto (-26), 3) := by decide +kernel
theorem dX12_both_41 : decode cX12_both 41 = .ok (.iload_n 3, 1) := by decide +kernel
theorem dX12_both_42 : decode cX12_both 42 = .ok (.ireturn, 1) := by decide +kernel
theorem dX12_wrongAt_0 : decode cX12_wrongAt 0 = .ok (.aload_n 0, 1) := by decide +kernel
theorem dX12_wrongAt_1 : decode cX12_wrongAt 1 = .ok (.iload_n 1, 1) := by decide +kernel
theorem dX12_wrongAt_2 : decode cX12_wrongAt 2 = .ok (.iload_n 2, 1) := by decide +kernel
theorem dX12_wrongAt_3 : decode cX12_wrongAt 3 = .ok (.invokevirtual 308, 3) := by decide +kernel
theorem dX12_wrongAt_6 : decode cX12_wrongAt 6 = .ok (.istore_n 3, 1) := by decide +kernel
theorem dX12_wrongAt_7 : decode cX12_wrongAt 7 = .ok (.iload_n 3, 1) := by decide +kernel
theorem dX12_wrongAt_8 : decode cX12_wrongAt 8 = .ok (.aload_n 0, 1) := by decide +kernel
theorem dX12_wrongAt_9 : decode cX12_wrongAt 9 = .ok (.getfield 61, 3) := by decide +kernel
theorem dX12_wrongAt_12 : decode cX12_wrongAt 12 = .ok (.aload_n 0, 1) := by decide +kernel
theorem dX12_wrongAt_13 : decode cX12_wrongAt 13 = .ok (.getfield 79, 3) := by decide +kernel
theorem dX12_wrongAt_16 : decode cX12_wrongAt 16 = .ok (.iload_n 1, 1) := by decide +kernel
theorem dX12_wrongAt_17 : decode cX12_wrongAt 17 = .ok (.iaload, 1) := by decide +kernel
theorem dX12_wrongAt_18 : decode cX12_wrongAt 18 = .ok (.iaload, 1) := by decide +kernel
theorem dX12_wrongAt_19 : decode cX12_wrongAt 19 = .ok (.if_icmp .gt 11, 3) := by decide +kernel
theorem dX12_wrongAt_22 : decode cX12_wrongAt 22 = .ok (.iload_n 2, 1) := by decide +kernel
theorem dX12_wrongAt_23 : decode cX12_wrongAt 23 = .ok (.ifCond .ne 9, 3) := by decide +kernel
theorem dX12_wrongAt_26 : decode cX12_wrongAt 26 = .ok (.iload_n 3, 1) := by decide +kernel
theorem dX12_wrongAt_27 : decode cX12_wrongAt 27 = .ok (.ifCond .eq 5, 3) := by decide +kernel
theorem dX12_wrongAt_30 : decode cX12_wrongAt 30 = .ok (.iconst 1, 1) := by decide +kernel
theorem dX12_wrongAt_31 : decode cX12_wrongAt 31 = .ok (.ireturn, 1) := by decide +kernel
theorem dX12_wrongAt_32 : decode cX12_wrongAt 32 = .ok (.aload_n 0, 1) := by decide +kernel
theorem dX12_wrongAt_33 : decode cX12_wrongAt 33 = .ok (.iload_n 1, 1) := by decide +kernel
theorem dX12_wrongAt_34 : decode cX12_wrongAt 34 = .ok (.iload_n 2, 1) := by decide +kernel
theorem dX12_wrongAt_35 : decode cX12_wrongAt 35 = .ok (.invokevirtual 258, 3) := by decide +kernel
theorem dX12_wrongAt_38 : decode cX12_wrongAt 38 = .ok (.aload_n 0, 1) := by decide +kernel
theorem dX12_wrongAt_39 : decode cX12_wrongAt 39 = .ok (.getfield 58, 3) := by decide +kernel
theorem dX12_wrongAt_42 : decode cX12_wrongAt 42 = .ok (.aload_n 0, 1) := by decide +kernel
theorem dX12_wrongAt_43 : decode cX12_wrongAt 43 = .ok (.getfield 79, 3) := by decide +kernel
theorem dX12_wrongAt_46 : decode cX12_wrongAt 46 = .ok (.iload_n 1, 1) := by decide +kernel
theorem dX12_wrongAt_47 : decode cX12_wrongAt 47 = .ok (.iaload, 1) := by decide +kernel
theorem dX12_wrongAt_48 : decode cX12_wrongAt 48 = .ok (.iaload, 1) := by decide +kernel
theorem dX12_wrongAt_49 : decode cX12_wrongAt 49 = .ok (.if_icmp .le 5, 3) := by decide +kernel
theorem dX12_wrongAt_52 : decode cX12_wrongAt 52 = .ok (.iconst 2, 1) := by decide +kernel
theorem dX12_wrongAt_53 : decode cX12_wrongAt 53 = .ok (.ireturn, 1) := by decide +kernel
theorem dX12_wrongAt_54 : decode cX12_wrongAt 54 = .ok (.iload_n 3, 1) := by decide +kernel
theorem dX12_wrongAt_55 : decode cX12_wrongAt 55 = .ok (.ifCond .ne 5, 3) := by decide +kernel
theorem dX12_wrongAt_58 : decode cX12_wrongAt 58 = .ok (.iconst 0, 1) := by decide +kernel
theorem dX12_wrongAt_59 : decode cX12_wrongAt 59 = .ok (.ireturn, 1) := by decide +kernel
theorem dX12_wrongAt_60 : decode cX12_wrongAt 60 = .ok (.aload_n 0, 1) := by decide +kernel
theorem dX12_wrongAt_61 : decode cX12_wrongAt 61 = .ok (.getfield 58, 3) := by decide +kernel
theorem dX12_wrongAt_64 : decode cX12_wrongAt 64 = .ok (.aload_n 0, 1) := by decide +kernel
theorem dX12_wrongAt_65 : decode cX12_wrongAt 65 = .ok (.iload_n 1, 1) := by decide +kernel
theorem dX12_wrongAt_66 : decode cX12_wrongAt 66 = .ok (.iload_n 3, 1) := by decide +kernel
theorem dX12_wrongAt_67 : decode cX12_wrongAt 67 = .ok (.invokevirtual 311, 3) := by decide +kernel
theorem dX12_wrongAt_70 : decode cX12_wrongAt 70 = .ok (.iaload, 1) := by decide +kernel
theorem dX12_wrongAt_71 : decode cX12_wrongAt 71 = .ok (.istore 4, 2) := by decide +kernel
theorem dX12_wrongAt_73 : decode cX12_wrongAt 73 = .ok (.aload_n 0, 1) := by decide +kernel
theorem dX12_wrongAt_74 : decode cX12_wrongAt 74 = .ok (.iload_n 1, 1) := by decide +kernel
theorem dX12_wrongAt_75 : decode cX12_wrongAt 75 = .ok (.iload_n 2, 1) := by decide +kernel
theorem dX12_wrongAt_76 : decode cX12_wrongAt 76 = .ok (.invokevirtual 258, 3) := by decide +kernel
theorem dX12_wrongAt_79 : decode cX12_wrongAt 79 = .ok (.iload 4, 2) := by decide +kernel
theorem dX12_wrongAt_81 : decode cX12_wrongAt 81 = .ok (.if_icmp .lt 16, 3) := by decide +kernel
theorem dX12_wrongAt_84 : decode cX12_wrongAt 84 = .ok (.aload_n 0, 1) := by decide +kernel
theorem dX12_wrongAt_85 : decode cX12_wrongAt 85 = .ok (.iload_n 1, 1) := by decide +kernel
theorem dX12_wrongAt_86 : decode cX12_wrongAt 86 = .ok (.iload_n 2, 1) := by decide +kernel
theorem dX12_wrongAt_87 : decode cX12_wrongAt 87 = .ok (.iconst 1, 1) := by decide +kernel
theorem dX12_wrongAt_88 : decode cX12_wrongAt 88 = .ok (.isub, 1) := by decide +kernel
theorem dX12_wrongAt_89 : decode cX12_wrongAt 89 = .ok (.invokevirtual 258, 3) := by decide +kernel
theorem dX12_wrongAt_92 : decode cX12_wrongAt 92 = .ok (.iload 4, 2) := by decide +kernel
theorem dX12_wrongAt_94 : decode cX12_wrongAt 94 = .ok (.if_icmp .ge 7, 3) := by decide +kernel
theorem dX12_wrongAt_97 : decode cX12_wrongAt 97 = .ok (.iconst 3, 1) := by decide +kernel
theorem dX12_wrongAt_98 : decode cX12_wrongAt 98 = .ok (.goto 4, 3) := by decide +kernel
theorem dX12_wrongAt_101 : decode cX12_wrongAt 101 = .ok (.iconst 0, 1) := by decide +kernel
theorem dX12_wrongAt_102 : decode cX12_wrongAt 102 = .ok (.ireturn, 1) := by decide +kernel
theorem dX12_firstsOf_0 : decode cX12_firstsOf 0 = .ok (.iconst 0, 1) := by decide +kernel
theorem dX12_firstsOf_1 : decode cX12_firstsOf 1 = .ok (.istore_n 2, 1) := by decide +kernel
theorem dX12_firstsOf_2 : decode cX12_firstsOf 2 = .ok (.iconst 0, 1) := by decide +kernel
theorem dX12_firstsOf_3 : decode cX12_firstsOf 3 = .ok (.istore_n 3, 1) := by decide +kernel
theorem dX12_firstsOf_4 : decode cX12_firstsOf 4 = .ok (.iload_n 3, 1) := by decide +kernel
theorem dX12_firstsOf_5 : decode cX12_firstsOf 5 = .ok (.aload_n 0, 1) := by decide +kernel
theorem dX12_firstsOf_6 : decode cX12_firstsOf 6 = .ok (.getfield 85, 3) := by decide +kernel
theorem dX12_firstsOf_9 : decode cX12_firstsOf 9 = .ok (.iload_n 1, 1) := by decide +kernel
theorem dX12_firstsOf_10 : decode cX12_firstsOf 10 = .ok (.iaload, 1) := by decide +kernel
theorem dX12_firstsOf_11 : decode cX12_firstsOf 11 = .ok (.if_icmp .ge 26, 3) := by decide +kernel
theorem dX12_firstsOf_14 : decode cX12_firstsOf 14 = .ok (.iload_n 2, 1) := by decide +kernel
theorem dX12_firstsOf_15 : decode cX12_firstsOf 15 = .ok (.aload_n 0, 1) := by decide +kernel
theorem dX12_firstsOf_16 : decode cX12_firstsOf 16 = .ok (.iload_n 1, 1) := by decide +kernel
theorem dX12_firstsOf_17 : decode cX12_firstsOf 17 = .ok (.iload_n 3, 1) := by decide +kernel
theorem dX12_firstsOf_18 : decode cX12_firstsOf 18 = .ok (.invokevirtual 308, 3) := by decide +kernel
theorem dX12_firstsOf_21 : decode cX12_firstsOf 21 = .ok (.ifCond .ne 7, 3) := by decide +kernel
theorem dX12_firstsOf_24 : decode cX12_firstsOf 24 = .ok (.iconst 1, 1) := by decide +kernel
theorem dX12_firstsOf_25 : decode cX12_firstsOf 25 = .ok (.goto 4, 3) := by decide +kernel
theorem dX12_firstsOf_28 : decode cX12_firstsOf 28 = .ok (.iconst 0, 1) := by decide +kernel
theorem dX12_firstsOf_29 : decode cX12_firstsOf 29 = .ok (.iadd, 1) := by decide +kernel
theorem dX12_firstsOf_30 : decode cX12_firstsOf 30 = .ok (.istore_n 2, 1) := by decide +kernel
theorem dX12_firstsOf_31 : decode cX12_firstsOf 31 = .ok (.iinc 3 1, 3) := by decide +kernel
theorem dX12_firstsOf_34 : decode cX12_firstsOf 34 = .ok (.goto (-30), 3) := by decide +kernel
theorem dX12_firstsOf_37 : decode cX12_firstsOf 37 = .ok (.iload_n 2, 1) := by decide +kernel
theorem dX12_firstsOf_38 : decode cX12_firstsOf 38 = .ok (.ireturn, 1) := by decide +kernel
theorem dX12_stepIn_0 : decode cX12_stepIn 0 = .ok (.iload_n 2, 1) := by decide +kernel
theorem dX12_stepIn_1 : decode cX12_stepIn 1 = .ok (.istore 4, 2) := by decide +kernel
theorem dX12_stepIn_3 : decode cX12_stepIn 3 = .ok (.iload 4, 2) := by decide +kernel
theorem dX12_stepIn_5 : decode cX12_stepIn 5 = .ok (.aload_n 0, 1) := by decide +kernel
theorem dX12_stepIn_6 : decode cX12_stepIn 6 = .ok (.getfield 85, 3) := by decide +kernel
theorem dX12_stepIn_9 : decode cX12_stepIn 9 = .ok (.iload_n 1, 1) := by decide +kernel
theorem dX12_stepIn_10 : decode cX12_stepIn 10 = .ok (.iaload, 1) := by decide +kernel
theorem dX12_stepIn_11 : decode cX12_stepIn 11 = .ok (.if_icmp .ge 20, 3) := by decide +kernel
theorem dX12_stepIn_14 : decode cX12_stepIn 14 = .ok (.aload_n 0, 1) := by decide +kernel
theorem dX12_stepIn_15 : decode cX12_stepIn 15 = .ok (.iload_n 1, 1) := by decide +kernel
theorem dX12_stepIn_16 : decode cX12_stepIn 16 = .ok (.iload 4, 2) := by decide +kernel
theorem dX12_stepIn_18 : decode cX12_stepIn 18 = .ok (.invokevirtual 308, 3) := by decide +kernel
theorem dX12_stepIn_21 : decode cX12_stepIn 21 = .ok (.iload_n 3, 1) := by decide +kernel
theorem dX12_stepIn_22 : decode cX12_stepIn 22 = .ok (.if_icmp .le 9, 3) := by decide +kernel
theorem dX12_stepIn_25 : decode cX12_stepIn 25 = .ok (.iinc 4 1, 3) := by decide +kernel
theorem dX12_stepIn_28 : decode cX12_stepIn 28 = .ok (.goto (-25), 3) := by decide +kernel
theorem dX12_stepIn_31 : decode cX12_stepIn 31 = .ok (.iload 4, 2) := by decide +kernel
theorem dX12_stepIn_33 : decode cX12_stepIn 33 = .ok (.ireturn, 1) := by decide +kernel
theorem dX12_unlikeAhead_0 : decode cX12_unlikeAhead 0 = .ok (.aload_n 0, 1) := by decide +kernel
theorem dX12_unlikeAhead_1 : decode cX12_unlikeAhead 1 = .ok (.iload_n 1, 1) := by decide +kernel
theorem dX12_unlikeAhead_2 : decode cX12_unlikeAhead 2 = .ok (.iconst 1, 1) := by decide +kernel
theorem dX12_unlikeAhead_3 : decode cX12_unlikeAhead 3 = .ok (.isub, 1) := by decide +kernel
theorem dX12_unlikeAhead_4 : decode cX12_unlikeAhead 4 = .ok (.iload_n 1, 1) := by decide +kernel
theorem dX12_unlikeAhead_5 : decode cX12_unlikeAhead 5 = .ok (.invokevirtual 314, 3) := by decide +kernel
theorem dX12_unlikeAhead_8 : decode cX12_unlikeAhead 8 = .ok (.istore_n 2, 1) := by decide +kernel
theorem dX12_unlikeAhead_9 : decode cX12_unlikeAhead 9 = .ok (.iload_n 2, 1) := by decide +kernel
theorem dX12_unlikeAhead_10 : decode cX12_unlikeAhead 10 = .ok (.iconst (-1), 1) := by decide +kernel
theorem dX12_unlikeAhead_11 : decode cX12_unlikeAhead 11 = .ok (.if_icmp .ne 7, 3) := by decide +kernel
theorem dX12_unlikeAhead_14 : decode cX12_unlikeAhead 14 = .ok (.iconst 0, 1) := by decide +kernel
theorem dX12_unlikeAhead_15 : decode cX12_unlikeAhead 15 = .ok (.goto 9, 3) := by decide +kernel
theorem dX12_unlikeAhead_18 : decode cX12_unlikeAhead 18 = .ok (.aload_n 0, 1) := by decide +kernel
theorem dX12_unlikeAhead_19 : decode cX12_unlikeAhead 19 = .ok (.getfield 61, 3) := by decide +kernel
theorem dX12_unlikeAhead_22 : decode cX12_unlikeAhead 22 = .ok (.iload_n 2, 1) := by decide +kernel
theorem dX12_unlikeAhead_23 : decode cX12_unlikeAhead 23 = .ok (.iaload, 1) := by decide +kernel
theorem dX12_unlikeAhead_24 : decode cX12_unlikeAhead 24 = .ok (.istore_n 3, 1) := by decide +kernel
theorem dX12_unlikeAhead_25 : decode cX12_unlikeAhead 25 = .ok (.iload_n 2, 1) := by decide +kernel
theorem dX12_unlikeAhead_26 : decode cX12_unlikeAhead 26 = .ok (.iconst (-1), 1) := by decide +kernel
theorem dX12_unlikeAhead_27 : decode cX12_unlikeAhead 27 = .ok (.if_icmp .ne 7, 3) := by decide +kernel
theorem dX12_unlikeAhead_30 : decode cX12_unlikeAhead 30 = .ok (.iconst 0, 1) := by decide +kernel
theorem dX12_unlikeAhead_31 : decode cX12_unlikeAhead 31 = .ok (.goto 9, 3) := by decide +kernel
theorem dX12_unlikeAhead_34 : decode cX12_unlikeAhead 34 = .ok (.aload_n 0, 1) := by decide +kernel
theorem dX12_unlikeAhead_35 : decode cX12_unlikeAhead 35 = .ok (.getfield 58, 3) := by decide +kernel
theorem dX12_unlikeAhead_38 : decode cX12_unlikeAhead 38 = .ok (.iload_n 2, 1) := by decide +kernel
theorem dX12_unlikeAhead_39 : decode cX12_unlikeAhead 39 = .ok (.iaload, 1) := by decide +kernel
theorem dX12_unlikeAhead_40 : decode cX12_unlikeAhead 40 = .ok (.istore 4, 2) := by decide +kernel
theorem dX12_unlikeAhead_42 : decode cX12_unlikeAhead 42 = .ok (.aload_n 0, 1) := by decide +kernel
theorem dX12_unlikeAhead_43 : decode cX12_unlikeAhead 43 = .ok (.iload_n 1, 1) := by decide +kernel
theorem dX12_unlikeAhead_44 : decode cX12_unlikeAhead 44 = .ok (.iconst 1, 1) := by decide +kernel
theorem dX12_unlikeAhead_45 : decode cX12_unlikeAhead 45 = .ok (.isub, 1) := by decide +kernel
theorem dX12_unlikeAhead_46 : decode cX12_unlikeAhead 46 = .ok (.iconst 0, 1) := by decide +kernel
theorem dX12_unlikeAhead_47 : decode cX12_unlikeAhead 47 = .ok (.iload_n 3, 1) := by decide +kernel
theorem dX12_unlikeAhead_48 : decode cX12_unlikeAhead 48 = .ok (.invokevirtual 317, 3) := by decide +kernel
theorem dX12_unlikeAhead_51 : decode cX12_unlikeAhead 51 = .ok (.istore 5, 2) := by decide +kernel
theorem dX12_unlikeAhead_53 : decode cX12_unlikeAhead 53 = .ok (.aload_n 0, 1) := by decide +kernel
theorem dX12_unlikeAhead_54 : decode cX12_unlikeAhead 54 = .ok (.iload_n 1, 1) := by decide +kernel
theorem dX12_unlikeAhead_55 : decode cX12_unlikeAhead 55 = .ok (.iconst 0, 1) := by decide +kernel
theorem dX12_unlikeAhead_56 : decode cX12_unlikeAhead 56 = .ok (.iload_n 3, 1) := by decide +kernel
theorem dX12_unlikeAhead_57 : decode cX12_unlikeAhead 57 = .ok (.invokevirtual 317, 3) := by decide +kernel
theorem dX12_unlikeAhead_60 : decode cX12_unlikeAhead 60 = .ok (.istore 6, 2) := by decide +kernel
theorem dX12_unlikeAhead_62 : decode cX12_unlikeAhead 62 = .ok (.iload 5, 2) := by decide +kernel
theorem dX12_unlikeAhead_64 : decode cX12_unlikeAhead 64 = .ok (.aload_n 0, 1) := by decide +kernel
theorem dX12_unlikeAhead_65 : decode cX12_unlikeAhead 65 = .ok (.getfield 85, 3) := by decide +kernel
theorem dX12_unlikeAhead_68 : decode cX12_unlikeAhead 68 = .ok (.iload_n 1, 1) := by decide +kernel
theorem dX12_unlikeAhead_69 : decode cX12_unlikeAhead 69 = .ok (.iconst 1, 1) := by decide +kernel
theorem dX12_unlikeAhead_70 : decode cX12_unlikeAhead 70 = .ok (.isub, 1) := by decide +kernel
theorem dX12_unlikeAhead_71 : decode cX12_unlikeAhead 71 = .ok (.iaload, 1) := by decide +kernel
theorem dX12_unlikeAhead_72 : decode cX12_unlikeAhead 72 = .ok (.if_icmp .ge 94, 3) := by decide +kernel
theorem dX12_unlikeAhead_75 : decode cX12_unlikeAhead 75 = .ok (.iload 6, 2) := by decide +kernel
theorem dX12_unlikeAhead_77 : decode cX12_unlikeAhead 77 = .ok (.aload_n 0, 1) := by decide +kernel
theorem dX12_unlikeAhead_78 : decode cX12_unlikeAhead 78 = .ok (.getfield 85, 3) := by decide +kernel
theorem dX12_unlikeAhead_81 : decode cX12_unlikeAhead 81 = .ok (.iload_n 1, 1) := by decide +kernel
theorem dX12_unlikeAhead_82 : decode cX12_unlikeAhead 82 = .ok (.iaload, 1) := by decide +kernel
theorem dX12_unlikeAhead_83 : decode cX12_unlikeAhead 83 = .ok (.if_icmp .ge 83, 3) := by decide +kernel
theorem dX12_unlikeAhead_86 : decode cX12_unlikeAhead 86 = .ok (.aload_n 0, 1) := by decide +kernel
theorem dX12_unlikeAhead_87 : decode cX12_unlikeAhead 87 = .ok (.iload_n 1, 1) := by decide +kernel
theorem dX12_unlikeAhead_88 : decode cX12_unlikeAhead 88 = .ok (.iconst 1, 1) := by decide +kernel
theorem dX12_unlikeAhead_89 : decode cX12_unlikeAhead 89 = .ok (.isub, 1) := by decide +kernel
theorem dX12_unlikeAhead_90 : decode cX12_unlikeAhead 90 = .ok (.iload 5, 2) := by decide +kernel
theorem dX12_unlikeAhead_92 : decode cX12_unlikeAhead 92 = .ok (.invokevirtual 308, 3) := by decide +kernel
theorem dX12_unlikeAhead_95 : decode cX12_unlikeAhead 95 = .ok (.aload_n 0, 1) := by decide +kernel
theorem dX12_unlikeAhead_96 : decode cX12_unlikeAhead 96 = .ok (.iload_n 1, 1) := by decide +kernel
theorem dX12_unlikeAhead_97 : decode cX12_unlikeAhead 97 = .ok (.iload 6, 2) := by decide +kernel
theorem dX12_unlikeAhead_99 : decode cX12_unlikeAhead 99 = .ok (.invokevirtual 308, 3) := by decide +kernel
theorem dX12_unlikeAhead_102 : decode cX12_unlikeAhead 102 = .ok (.if_icmp .ne 32, 3) := by decide +kernel
theorem dX12_unlikeAhead_105 : decode cX12_unlikeAhead 105 = .ok (.iload 4, 2) := by decide +kernel
theorem dX12_unlikeAhead_107 : decode cX12_unlikeAhead 107 = .ok (.aload_n 0, 1) := by decide +kernel
theorem dX12_unlikeAhead_108 : decode cX12_unlikeAhead 108 = .ok (.iload_n 1, 1) := by decide +kernel
theorem dX12_unlikeAhead_109 : decode cX12_unlikeAhead 109 = .ok (.iconst 1, 1) := by decide +kernel
theorem dX12_unlikeAhead_110 : decode cX12_unlikeAhead 110 = .ok (.isub, 1) := by decide +kernel
theorem dX12_unlikeAhead_111 : decode cX12_unlikeAhead 111 = .ok (.iload 5, 2) := by decide +kernel
theorem dX12_unlikeAhead_113 : decode cX12_unlikeAhead 113 = .ok (.invokevirtual 258, 3) := by decide +kernel
theorem dX12_unlikeAhead_116 : decode cX12_unlikeAhead 116 = .ok (.invokestatic 158, 3) := by decide +kernel
theorem dX12_unlikeAhead_119 : decode cX12_unlikeAhead 119 = .ok (.iload 4, 2) := by decide +kernel
theorem dX12_unlikeAhead_121 : decode cX12_unlikeAhead 121 = .ok (.aload_n 0, 1) := by decide +kernel
theorem dX12_unlikeAhead_122 : decode cX12_unlikeAhead 122 = .ok (.iload_n 1, 1) := by decide +kernel
theorem dX12_unlikeAhead_123 : decode cX12_unlikeAhead 123 = .ok (.iload 6, 2) := by decide +kernel
theorem dX12_unlikeAhead_125 : decode cX12_unlikeAhead 125 = .ok (.invokevirtual 258, 3) := by decide +kernel
theorem dX12_unlikeAhead_128 : decode cX12_unlikeAhead 128 = .ok (.invokestatic 158, 3) := by decide +kernel
theorem dX12_unlikeAhead_131 : decode cX12_unlikeAhead 131 = .ok (.if_icmp .eq 6, 3) := by decide +kernel
theorem dX12_unlikeAhead_134 : decode cX12_unlikeAhead 134 = .ok (.iload 6, 2) := by decide +kernel
theorem dX12_unlikeAhead_136 : decode cX12_unlikeAhead 136 = .ok (.ireturn, 1) := by decide +kernel
theorem dX12_unlikeAhead_137 : decode cX12_unlikeAhead 137 = .ok (.aload_n 0, 1) := by decide +kernel
theorem dX12_unlikeAhead_138 : decode cX12_unlikeAhead 138 = .ok (.iload_n 1, 1) := by decide +kernel
theorem dX12_unlikeAhead_139 : decode cX12_unlikeAhead 139 = .ok (.iconst 1, 1) := by decide +kernel
theorem dX12_unlikeAhead_140 : decode cX12_unlikeAhead 140 = .ok (.isub, 1) := by decide +kernel
theorem dX12_unlikeAhead_141 : decode cX12_unlikeAhead 141 = .ok (.iload 5, 2) := by decide +kernel
theorem dX12_unlikeAhead_143 : decode cX12_unlikeAhead 143 = .ok (.iconst 1, 1) := by decide +kernel
theorem dX12_unlikeAhead_144 : decode cX12_unlikeAhead 144 = .ok (.iadd, 1) := by decide +kernel
theorem dX12_unlikeAhead_145 : decode cX12_unlikeAhead 145 = .ok (.iload_n 3, 1) := by decide +kernel
theorem dX12_unlikeAhead_146 : decode cX12_unlikeAhead 146 = .ok (.invokevirtual 317, 3) := by decide +kernel
theorem dX12_unlikeAhead_149 : decode cX12_unlikeAhead 149 = .ok (.istore 5, 2) := by decide +kernel
theorem dX12_unlikeAhead_151 : decode cX12_unlikeAhead 151 = .ok (.aload_n 0, 1) := by decide +kernel
theorem dX12_unlikeAhead_152 : decode cX12_unlikeAhead 152 = .ok (.iload_n 1, 1) := by decide +kernel
theorem dX12_unlikeAhead_153 : decode cX12_unlikeAhead 153 = .ok (.iload 6, 2) := by decide +kernel
theorem dX12_unlikeAhead_155 : decode cX12_unlikeAhead 155 = .ok (.iconst 1, 1) := by decide +kernel
theorem dX12_unlikeAhead_156 : decode cX12_unlikeAhead 156 = .ok (.iadd, 1) := by decide +kernel
theorem dX12_unlikeAhead_157 : decode cX12_unlikeAhead 157 = .ok (.iload_n 3, 1) := by decide +kernel
theorem dX12_unlikeAhead_158 : decode cX12_unlikeAhead 158 = .ok (.invokevirtual 317, 3) := by decide +kernel
theorem dX12_unlikeAhead_161 : decode cX12_unlikeAhead 161 = .ok (.istore 6, 2) := by decide +kernel
theorem dX12_unlikeAhead_163 : decode cX12_unlikeAhead 163 = .ok (.goto (-101), 3) := by decide +kernel
theorem dX12_unlikeAhead_166 : decode cX12_unlikeAhead 166 = .ok (.iload 5, 2) := by decide +kernel
theorem dX12_unlikeAhead_168 : decode cX12_unlikeAhead 168 = .ok (.aload_n 0, 1) := by decide +kernel
theorem dX12_unlikeAhead_169 : decode cX12_unlikeAhead 169 = .ok (.getfield 85, 3) := by decide +kernel
theorem dX12_unlikeAhead_172 : decode cX12_unlikeAhead 172 = .ok (.iload_n 1, 1) := by decide +kernel
theorem dX12_unlikeAhead_173 : decode cX12_unlikeAhead 173 = .ok (.iconst 1, 1) := by decide +kernel
theorem dX12_unlikeAhead_174 : decode cX12_unlikeAhead 174 = .ok (.isub, 1) := by decide +kernel
theorem dX12_unlikeAhead_175 : decode cX12_unlikeAhead 175 = .ok (.iaload, 1) := by decide +kernel
theorem dX12_unlikeAhead_176 : decode cX12_unlikeAhead 176 = .ok (.if_icmp .ne 18, 3) := by decide +kernel
theorem dX12_unlikeAhead_179 : decode cX12_unlikeAhead 179 = .ok (.iload 6, 2) := by decide +kernel
theorem dX12_unlikeAhead_181 : decode cX12_unlikeAhead 181 = .ok (.aload_n 0, 1) := by decide +kernel
theorem dX12_unlikeAhead_182 : decode cX12_unlikeAhead 182 = .ok (.getfield 85, 3) := by decide +kernel
theorem dX12_unlikeAhead_185 : decode cX12_unlikeAhead 185 = .ok (.iload_n 1, 1) := by decide +kernel
theorem dX12_unlikeAhead_186 : decode cX12_unlikeAhead 186 = .ok (.iaload, 1) := by decide +kernel
theorem dX12_unlikeAhead_187 : decode cX12_unlikeAhead 187 = .ok (.if_icmp .ne 7, 3) := by decide +kernel
theorem dX12_unlikeAhead_190 : decode cX12_unlikeAhead 190 = .ok (.iconst (-1), 1) := by decide +kernel
theorem dX12_unlikeAhead_191 : decode cX12_unlikeAhead 191 = .ok (.goto 5, 3) := by decide +kernel
theorem dX12_unlikeAhead_194 : decode cX12_unlikeAhead 194 = .ok (.iload 6, 2) := by decide +kernel
theorem dX12_unlikeAhead_196 : decode cX12_unlikeAhead 196 = .ok (.ireturn, 1) := by decide +kernel
theorem dX12_wrongIs_0 : decode cX12_wrongIs 0 = .ok (.aload_n 0, 1) := by decide +kernel
theorem dX12_wrongIs_1 : decode cX12_wrongIs 1 = .ok (.iload_n 1, 1) := by decide +kernel
theorem dX12_wrongIs_2 : decode cX12_wrongIs 2 = .ok (.putfield 321, 3) := by decide +kernel
theorem dX12_wrongIs_5 : decode cX12_wrongIs 5 = .ok (.aload_n 0, 1) := by decide +kernel
theorem dX12_wrongIs_6 : decode cX12_wrongIs 6 = .ok (.iload_n 2, 1) := by decide +kernel
theorem dX12_wrongIs_7 : decode cX12_wrongIs 7 = .ok (.putfield 324, 3) := by decide +kernel
theorem dX12_wrongIs_10 : decode cX12_wrongIs 10 = .ok (.iload_n 3, 1) := by decide +kernel
theorem dX12_wrongIs_11 : decode cX12_wrongIs 11 = .ok (.ireturn, 1) := by decide +kernel
theorem dX12_checked_0 : decode cX12_checked 0 = .ok (.iconst 0, 1) := by decide +kernel
theorem dX12_checked_1 : decode cX12_checked 1 = .ok (.istore_n 1, 1) := by decide +kernel
theorem dX12_checked_2 : decode cX12_checked 2 = .ok (.iload_n 1, 1) := by decide +kernel
theorem dX12_checked_3 : decode cX12_checked 3 = .ok (.aload_n 0, 1) := by decide +kernel
theorem dX12_checked_4 : decode cX12_checked 4 = .ok (.getfield 76, 3) := by decide +kernel
theorem dX12_checked_7 : decode cX12_checked 7 = .ok (.iconst 0, 1) := by decide +kernel
theorem dX12_checked_8 : decode cX12_checked 8 = .ok (.iaload, 1) := by decide +kernel
theorem dX12_checked_9 : decode cX12_checked 9 = .ok (.if_icmp .ge 98, 3) := by decide +kernel
theorem dX12_checked_12 : decode cX12_checked 12 = .ok (.iconst 0, 1) := by decide +kernel
theorem dX12_checked_13 : decode cX12_checked 13 = .ok (.istore_n 2, 1) := by decide +kernel
theorem dX12_checked_14 : decode cX12_checked 14 = .ok (.iload_n 2, 1) := by decide +kernel
theorem dX12_checked_15 : decode cX12_checked 15 = .ok (.aload_n 0, 1) := by decide +kernel
theorem dX12_checked_16 : decode cX12_checked 16 = .ok (.getfield 85, 3) := by decide +kernel
theorem dX12_checked_19 : decode cX12_checked 19 = .ok (.iload_n 1, 1) := by decide +kernel
theorem dX12_checked_20 : decode cX12_checked 20 = .ok (.iaload, 1) := by decide +kernel
theorem dX12_checked_21 : decode cX12_checked 21 = .ok (.if_icmp .ge 28, 3) := by decide +kernel
theorem dX12_checked_24 : decode cX12_checked 24 = .ok (.aload_n 0, 1) := by decide +kernel
theorem dX12_checked_25 : decode cX12_checked 25 = .ok (.iload_n 1, 1) := by decide +kernel
theorem dX12_checked_26 : decode cX12_checked 26 = .ok (.iload_n 2, 1) := by decide +kernel
theorem dX12_checked_27 : decode cX12_checked 27 = .ok (.invokevirtual 327, 3) := by decide +kernel
theorem dX12_checked_30 : decode cX12_checked 30 = .ok (.istore_n 3, 1) := by decide +kernel
theorem dX12_checked_31 : decode cX12_checked 31 = .ok (.iload_n 3, 1) := by decide +kernel
theorem dX12_checked_32 : decode cX12_checked 32 = .ok (.ifCond .eq 11, 3) := by decide +kernel
theorem dX12_checked_35 : decode cX12_checked 35 = .ok (.aload_n 0, 1) := by decide +kernel
theorem dX12_checked_36 : decode cX12_checked 36 = .ok (.iload_n 1, 1) := by decide +kernel
theorem dX12_checked_37 : decode cX12_checked 37 = .ok (.iload_n 2, 1) := by decide +kernel
theorem dX12_checked_38 : decode cX12_checked 38 = .ok (.iload_n 3, 1) := by decide +kernel
theorem dX12_checked_39 : decode cX12_checked 39 = .ok (.invokevirtual 330, 3) := by decide +kernel
theorem dX12_checked_42 : decode cX12_checked 42 = .ok (.ireturn, 1) := by decide +kernel
theorem dX12_checked_43 : decode cX12_checked 43 = .ok (.iinc 2 1, 3) := by decide +kernel
theorem dX12_checked_46 : decode cX12_checked 46 = .ok (.goto (-32), 3) := by decide +kernel
theorem dX12_checked_49 : decode cX12_checked 49 = .ok (.aload_n 0, 1) := by decide +kernel
theorem dX12_checked_50 : decode cX12_checked 50 = .ok (.iload_n 1, 1) := by decide +kernel
theorem dX12_checked_51 : decode cX12_checked 51 = .ok (.invokevirtual 333, 3) := by decide +kernel
theorem dX12_checked_54 : decode cX12_checked 54 = .ok (.aload_n 0, 1) := by decide +kernel
theorem dX12_checked_55 : decode cX12_checked 55 = .ok (.getfield 249, 3) := by decide +kernel
theorem dX12_checked_58 : decode cX12_checked 58 = .ok (.if_icmp .eq 16, 3) := by decide +kernel
theorem dX12_checked_61 : decode cX12_checked 61 = .ok (.aload_n 0, 1) := by decide +kernel
theorem dX12_checked_62 : decode cX12_checked 62 = .ok (.iload_n 1, 1) := by decide +kernel
theorem dX12_checked_63 : decode cX12_checked 63 = .ok (.aload_n 0, 1) := by decide +kernel
theorem dX12_checked_64 : decode cX12_checked 64 = .ok (.getfield 85, 3) := by decide +kernel
theorem dX12_checked_67 : decode cX12_checked 67 = .ok (.iload_n 1, 1) := by decide +kernel
theorem dX12_checked_68 : decode cX12_checked 68 = .ok (.iaload, 1) := by decide +kernel
theorem dX12_checked_69 : decode cX12_checked 69 = .ok (.iconst 4, 1) := by decide +kernel
theorem dX12_checked_70 : decode cX12_checked 70 = .ok (.invokevirtual 330, 3) := by decide +kernel
theorem dX12_checked_73 : decode cX12_checked 73 = .ok (.ireturn, 1) := by decide +kernel
theorem dX12_checked_74 : decode cX12_checked 74 = .ok (.iload_n 1, 1) := by decide +kernel
theorem dX12_checked_75 : decode cX12_checked 75 = .ok (.ifCond .ne 7, 3) := by decide +kernel
theorem dX12_checked_78 : decode cX12_checked 78 = .ok (.iconst (-1), 1) := by decide +kernel
theorem dX12_checked_79 : decode cX12_checked 79 = .ok (.goto 8, 3) := by decide +kernel
theorem dX12_checked_82 : decode cX12_checked 82 = .ok (.aload_n 0, 1) := by decide +kernel
theorem dX12_checked_83 : decode cX12_checked 83 = .ok (.iload_n 1, 1) := by decide +kernel
theorem dX12_checked_84 : decode cX12_checked 84 = .ok (.invokevirtual 336, 3) := by decide +kernel
theorem dX12_checked_87 : decode cX12_checked 87 = .ok (.istore_n 2, 1) := by decide +kernel
theorem dX12_checked_88 : decode cX12_checked 88 = .ok (.iload_n 2, 1) := by decide +kernel
theorem dX12_checked_89 : decode cX12_checked 89 = .ok (.iconst (-1), 1) := by decide +kernel
theorem dX12_checked_90 : decode cX12_checked 90 = .ok (.if_icmp .eq 11, 3) := by decide +kernel
theorem dX12_checked_93 : decode cX12_checked 93 = .ok (.aload_n 0, 1) := by decide +kernel
theorem dX12_checked_94 : decode cX12_checked 94 = .ok (.iload_n 1, 1) := by decide +kernel
theorem dX12_checked_95 : decode cX12_checked 95 = .ok (.iload_n 2, 1) := by decide +kernel
theorem dX12_checked_96 : decode cX12_checked 96 = .ok (.iconst 5, 1) := by decide +kernel
theorem dX12_checked_97 : decode cX12_checked 97 = .ok (.invokevirtual 330, 3) := by decide +kernel
theorem dX12_checked_100 : decode cX12_checked 100 = .ok (.ireturn, 1) := by decide +kernel
theorem dX12_checked_101 : decode cX12_checked 101 = .ok (.iinc 1 1, 3) := by decide +kernel
theorem dX12_checked_104 : decode cX12_checked 104 = .ok (.goto (-102), 3) := by decide +kernel
theorem dX12_checked_107 : decode cX12_checked 107 = .ok (.aload_n 0, 1) := by decide +kernel
theorem dX12_checked_108 : decode cX12_checked 108 = .ok (.iconst (-1), 1) := by decide +kernel
theorem dX12_checked_109 : decode cX12_checked 109 = .ok (.iconst (-1), 1) := by decide +kernel
theorem dX12_checked_110 : decode cX12_checked 110 = .ok (.iconst 0, 1) := by decide +kernel
theorem dX12_checked_111 : decode cX12_checked 111 = .ok (.invokevirtual 330, 3) := by decide +kernel
theorem dX12_checked_114 : decode cX12_checked 114 = .ok (.ireturn, 1) := by decide +kernel
theorem dX12_isWrongBy_0 : decode cX12_isWrongBy 0 = .ok (.aload_n 0, 1) := by decide +kernel
theorem dX12_isWrongBy_1 : decode cX12_isWrongBy 1 = .ok (.iload_n 1, 1) := by decide +kernel
theorem dX12_isWrongBy_2 : decode cX12_isWrongBy 2 = .ok (.iload_n 2, 1) := by decide +kernel
theorem dX12_isWrongBy_3 : decode cX12_isWrongBy 3 = .ok (.invokevirtual 327, 3) := by decide +kernel
theorem dX12_isWrongBy_6 : decode cX12_isWrongBy 6 = .ok (.ifCond .ne 26, 3) := by decide +kernel
theorem dX12_isWrongBy_9 : decode cX12_isWrongBy 9 = .ok (.iload_n 2, 1) := by decide +kernel
theorem dX12_isWrongBy_10 : decode cX12_isWrongBy 10 = .ok (.iconst 1, 1) := by decide +kernel
theorem dX12_isWrongBy_11 : decode cX12_isWrongBy 11 = .ok (.iadd, 1) := by decide +kernel
theorem dX12_isWrongBy_12 : decode cX12_isWrongBy 12 = .ok (.aload_n 0, 1) := by decide +kernel
theorem dX12_isWrongBy_13 : decode cX12_isWrongBy 13 = .ok (.getfield 85, 3) := by decide +kernel
theorem dX12_isWrongBy_16 : decode cX12_isWrongBy 16 = .ok (.iload_n 1, 1) := by decide +kernel
theorem dX12_isWrongBy_17 : decode cX12_isWrongBy 17 = .ok (.iaload, 1) := by decide +kernel
theorem dX12_isWrongBy_18 : decode cX12_isWrongBy 18 = .ok (.if_icmp .ge 16, 3) := by decide +kernel
theorem dX12_isWrongBy_21 : decode cX12_isWrongBy 21 = .ok (.aload_n 0, 1) := by decide +kernel
theorem dX12_isWrongBy_22 : decode cX12_isWrongBy 22 = .ok (.iload_n 1, 1) := by decide +kernel
theorem dX12_isWrongBy_23 : decode cX12_isWrongBy 23 = .ok (.iload_n 2, 1) := by decide +kernel
theorem dX12_isWrongBy_24 : decode cX12_isWrongBy 24 = .ok (.iconst 1, 1) := by decide +kernel
theorem dX12_isWrongBy_25 : decode cX12_isWrongBy 25 = .ok (.iadd, 1) := by decide +kernel
theorem dX12_isWrongBy_26 : decode cX12_isWrongBy 26 = .ok (.invokevirtual 327, 3) := by decide +kernel
theorem dX12_isWrongBy_29 : decode cX12_isWrongBy 29 = .ok (.ifCond .eq 5, 3) := by decide +kernel
theorem dX12_isWrongBy_32 : decode cX12_isWrongBy 32 = .ok (.iconst 1, 1) := by decide +kernel
theorem dX12_isWrongBy_33 : decode cX12_isWrongBy 33 = .ok (.ireturn, 1) := by decide +kernel
theorem dX12_isWrongBy_34 : decode cX12_isWrongBy 34 = .ok (.iload_n 3, 1) := by decide +kernel
theorem dX12_isWrongBy_35 : decode cX12_isWrongBy 35 = .ok (.ifCond .ne 17, 3) := by decide +kernel
theorem dX12_isWrongBy_38 : decode cX12_isWrongBy 38 = .ok (.aload_n 0, 1) := by decide +kernel
theorem dX12_isWrongBy_39 : decode cX12_isWrongBy 39 = .ok (.iload_n 1, 1) := by decide +kernel
theorem dX12_isWrongBy_40 : decode cX12_isWrongBy 40 = .ok (.invokevirtual 333, 3) := by decide +kernel
theorem dX12_isWrongBy_43 : decode cX12_isWrongBy 43 = .ok (.aload_n 0, 1) := by decide +kernel
theorem dX12_isWrongBy_44 : decode cX12_isWrongBy 44 = .ok (.getfield 249, 3) := by decide +kernel
theorem dX12_isWrongBy_47 : decode cX12_isWrongBy 47 = .ok (.if_icmp .eq 5, 3) := by decide +kernel
theorem dX12_isWrongBy_50 : decode cX12_isWrongBy 50 = .ok (.iconst 1, 1) := by decide +kernel
theorem dX12_isWrongBy_51 : decode cX12_isWrongBy 51 = .ok (.ireturn, 1) := by decide +kernel
theorem dX12_isWrongBy_52 : decode cX12_isWrongBy 52 = .ok (.iload_n 1, 1) := by decide +kernel
theorem dX12_isWrongBy_53 : decode cX12_isWrongBy 53 = .ok (.ifCond .le 12, 3) := by decide +kernel
theorem dX12_isWrongBy_56 : decode cX12_isWrongBy 56 = .ok (.aload_n 0, 1) := by decide +kernel
theorem dX12_isWrongBy_57 : decode cX12_isWrongBy 57 = .ok (.iload_n 1, 1) := by decide +kernel
theorem dX12_isWrongBy_58 : decode cX12_isWrongBy 58 = .ok (.invokevirtual 336, 3) := by decide +kernel
theorem dX12_isWrongBy_61 : decode cX12_isWrongBy 61 = .ok (.iconst (-1), 1) := by decide +kernel
theorem dX12_isWrongBy_62 : decode cX12_isWrongBy 62 = .ok (.if_icmp .ne 26, 3) := by decide +kernel
theorem dX12_isWrongBy_65 : decode cX12_isWrongBy 65 = .ok (.iload_n 1, 1) := by decide +kernel
theorem dX12_isWrongBy_66 : decode cX12_isWrongBy 66 = .ok (.iconst 1, 1) := by decide +kernel
theorem dX12_isWrongBy_67 : decode cX12_isWrongBy 67 = .ok (.iadd, 1) := by decide +kernel
theorem dX12_isWrongBy_68 : decode cX12_isWrongBy 68 = .ok (.aload_n 0, 1) := by decide +kernel
theorem dX12_isWrongBy_69 : decode cX12_isWrongBy 69 = .ok (.getfield 76, 3) := by decide +kernel
theorem dX12_isWrongBy_72 : decode cX12_isWrongBy 72 = .ok (.iconst 0, 1) := by decide +kernel
theorem dX12_isWrongBy_73 : decode cX12_isWrongBy 73 = .ok (.iaload, 1) := by decide +kernel
theorem dX12_isWrongBy_74 : decode cX12_isWrongBy 74 = .ok (.if_icmp .ge 18, 3) := by decide +kernel
theorem dX12_isWrongBy_77 : decode cX12_isWrongBy 77 = .ok (.aload_n 0, 1) := by decide +kernel
theorem dX12_isWrongBy_78 : decode cX12_isWrongBy 78 = .ok (.iload_n 1, 1) := by decide +kernel
theorem dX12_isWrongBy_79 : decode cX12_isWrongBy 79 = .ok (.iconst 1, 1) := by decide +kernel
theorem dX12_isWrongBy_80 : decode cX12_isWrongBy 80 = .ok (.iadd, 1) := by decide +kernel
theorem dX12_isWrongBy_81 : decode cX12_isWrongBy 81 = .ok (.invokevirtual 336, 3) := by decide +kernel
theorem dX12_isWrongBy_84 : decode cX12_isWrongBy 84 = .ok (.iconst (-1), 1) := by decide +kernel
theorem dX12_isWrongBy_85 : decode cX12_isWrongBy 85 = .ok (.if_icmp .eq 7, 3) := by decide +kernel
theorem dX12_isWrongBy_88 : decode cX12_isWrongBy 88 = .ok (.iconst 1, 1) := by decide +kernel
theorem dX12_isWrongBy_89 : decode cX12_isWrongBy 89 = .ok (.goto 4, 3) := by decide +kernel
theorem dX12_isWrongBy_92 : decode cX12_isWrongBy 92 = .ok (.iconst 0, 1) := by decide +kernel
theorem dX12_isWrongBy_93 : decode cX12_isWrongBy 93 = .ok (.ireturn, 1) := by decide +kernel
theorem dX12_tryLevel_0 : decode cX12_tryLevel 0 = .ok (.aload_n 0, 1) := by decide +kernel
theorem dX12_tryLevel_1 : decode cX12_tryLevel 1 = .ok (.getfield 82, 3) := by decide +kernel
theorem dX12_tryLevel_4 : decode cX12_tryLevel 4 = .ok (.bipush 120, 2) := by decide +kernel
theorem dX12_tryLevel_6 : decode cX12_tryLevel 6 = .ok (.iload_n 1, 1) := by decide +kernel
theorem dX12_tryLevel_7 : decode cX12_tryLevel 7 = .ok (.imul, 1) := by decide +kernel
theorem dX12_tryLevel_8 : decode cX12_tryLevel 8 = .ok (.iload_n 2, 1) := by decide +kernel
theorem dX12_tryLevel_9 : decode cX12_tryLevel 9 = .ok (.iadd, 1) := by decide +kernel
theorem dX12_tryLevel_10 : decode cX12_tryLevel 10 = .ok (.iaload, 1) := by decide +kernel
theorem dX12_tryLevel_11 : decode cX12_tryLevel 11 = .ok (.istore 5, 2) := by decide +kernel
theorem dX12_tryLevel_13 : decode cX12_tryLevel 13 = .ok (.iload_n 3, 1) := by decide +kernel
theorem dX12_tryLevel_14 : decode cX12_tryLevel 14 = .ok (.ifCond .ne 8, 3) := by decide +kernel
theorem dX12_tryLevel_17 : decode cX12_tryLevel 17 = .ok (.iload 4, 2) := by decide +kernel
theorem dX12_tryLevel_19 : decode cX12_tryLevel 19 = .ok (.goto 9, 3) := by decide +kernel
theorem dX12_tryLevel_22 : decode cX12_tryLevel 22 = .ok (.aload_n 0, 1) := by decide +kernel
theorem dX12_tryLevel_23 : decode cX12_tryLevel 23 = .ok (.iload_n 1, 1) := by decide +kernel
theorem dX12_tryLevel_24 : decode cX12_tryLevel 24 = .ok (.iload_n 2, 1) := by decide +kernel
theorem dX12_tryLevel_25 : decode cX12_tryLevel 25 = .ok (.invokevirtual 308, 3) := by decide +kernel
theorem dX12_tryLevel_28 : decode cX12_tryLevel 28 = .ok (.istore 6, 2) := by decide +kernel
theorem dX12_tryLevel_30 : decode cX12_tryLevel 30 = .ok (.iload_n 3, 1) := by decide +kernel
theorem dX12_tryLevel_31 : decode cX12_tryLevel 31 = .ok (.ifCond .ne 12, 3) := by decide +kernel
theorem dX12_tryLevel_34 : decode cX12_tryLevel 34 = .ok (.aload_n 0, 1) := by decide +kernel
theorem dX12_tryLevel_35 : decode cX12_tryLevel 35 = .ok (.iload_n 1, 1) := by decide +kernel
theorem dX12_tryLevel_36 : decode cX12_tryLevel 36 = .ok (.iload_n 2, 1) := by decide +kernel
theorem dX12_tryLevel_37 : decode cX12_tryLevel 37 = .ok (.invokevirtual 258, 3) := by decide +kernel
theorem dX12_tryLevel_40 : decode cX12_tryLevel 40 = .ok (.goto 5, 3) := by decide +kernel
theorem dX12_tryLevel_43 : decode cX12_tryLevel 43 = .ok (.iload 4, 2) := by decide +kernel
theorem dX12_tryLevel_45 : decode cX12_tryLevel 45 = .ok (.istore 7, 2) := by decide +kernel
theorem dX12_tryLevel_47 : decode cX12_tryLevel 47 = .ok (.aload_n 0, 1) := by decide +kernel
theorem dX12_tryLevel_48 : decode cX12_tryLevel 48 = .ok (.iload_n 1, 1) := by decide +kernel
theorem dX12_tryLevel_49 : decode cX12_tryLevel 49 = .ok (.iload_n 2, 1) := by decide +kernel
theorem dX12_tryLevel_50 : decode cX12_tryLevel 50 = .ok (.iload 6, 2) := by decide +kernel
theorem dX12_tryLevel_52 : decode cX12_tryLevel 52 = .ok (.iload 7, 2) := by decide +kernel
theorem dX12_tryLevel_54 : decode cX12_tryLevel 54 = .ok (.aload_n 0, 1) := by decide +kernel
theorem dX12_tryLevel_55 : decode cX12_tryLevel 55 = .ok (.iload_n 1, 1) := by decide +kernel
theorem dX12_tryLevel_56 : decode cX12_tryLevel 56 = .ok (.iload_n 2, 1) := by decide +kernel
theorem dX12_tryLevel_57 : decode cX12_tryLevel 57 = .ok (.invokevirtual 339, 3) := by decide +kernel
theorem dX12_tryLevel_60 : decode cX12_tryLevel 60 = .ok (.invokevirtual 261, 3) := by decide +kernel
theorem dX12_tryLevel_63 : decode cX12_tryLevel 63 = .ok (.aload_n 0, 1) := by decide +kernel
theorem dX12_tryLevel_64 : decode cX12_tryLevel 64 = .ok (.iload_n 1, 1) := by decide +kernel
theorem dX12_tryLevel_65 : decode cX12_tryLevel 65 = .ok (.iload_n 2, 1) := by decide +kernel
theorem dX12_tryLevel_66 : decode cX12_tryLevel 66 = .ok (.iload_n 3, 1) := by decide +kernel
theorem dX12_tryLevel_67 : decode cX12_tryLevel 67 = .ok (.invokevirtual 342, 3) := by decide +kernel
theorem dX12_tryLevel_70 : decode cX12_tryLevel 70 = .ok (.ifCond .ne 42, 3) := by decide +kernel
theorem dX12_tryLevel_73 : decode cX12_tryLevel 73 = .ok (.aload_n 0, 1) := by decide +kernel
theorem dX12_tryLevel_74 : decode cX12_tryLevel 74 = .ok (.getfield 346, 3) := by decide +kernel
theorem dX12_tryLevel_77 : decode cX12_tryLevel 77 = .ok (.ifCond .ne 25, 3) := by decide +kernel
theorem dX12_tryLevel_80 : decode cX12_tryLevel 80 = .ok (.aload_n 0, 1) := by decide +kernel
theorem dX12_tryLevel_81 : decode cX12_tryLevel 81 = .ok (.sipush 10000, 3) := by decide +kernel
theorem dX12_tryLevel_84 : decode cX12_tryLevel 84 = .ok (.iload_n 1, 1) := by decide +kernel
theorem dX12_tryLevel_85 : decode cX12_tryLevel 85 = .ok (.imul, 1) := by decide +kernel
theorem dX12_tryLevel_86 : decode cX12_tryLevel 86 = .ok (.bipush 20, 2) := by decide +kernel
theorem dX12_tryLevel_88 : decode cX12_tryLevel 88 = .ok (.iload_n 2, 1) := by decide +kernel
theorem dX12_tryLevel_89 : decode cX12_tryLevel 89 = .ok (.imul, 1) := by decide +kernel
theorem dX12_tryLevel_90 : decode cX12_tryLevel 90 = .ok (.iadd, 1) := by decide +kernel
theorem dX12_tryLevel_91 : decode cX12_tryLevel 91 = .ok (.bipush 10, 2) := by decide +kernel
theorem dX12_tryLevel_93 : decode cX12_tryLevel 93 = .ok (.iload_n 3, 1) := by decide +kernel
theorem dX12_tryLevel_94 : decode cX12_tryLevel 94 = .ok (.imul, 1) := by decide +kernel
theorem dX12_tryLevel_95 : decode cX12_tryLevel 95 = .ok (.iadd, 1) := by decide +kernel
theorem dX12_tryLevel_96 : decode cX12_tryLevel 96 = .ok (.iload 4, 2) := by decide +kernel
theorem dX12_tryLevel_98 : decode cX12_tryLevel 98 = .ok (.iadd, 1) := by decide +kernel
theorem dX12_tryLevel_99 : decode cX12_tryLevel 99 = .ok (.putfield 349, 3) := by decide +kernel
theorem dX12_tryLevel_102 : decode cX12_tryLevel 102 = .ok (.aload_n 0, 1) := by decide +kernel
theorem dX12_tryLevel_103 : decode cX12_tryLevel 103 = .ok (.dup, 1) := by decide +kernel
theorem dX12_tryLevel_104 : decode cX12_tryLevel 104 = .ok (.getfield 346, 3) := by decide +kernel
theorem dX12_tryLevel_107 : decode cX12_tryLevel 107 = .ok (.iconst 1, 1) := by decide +kernel
theorem dX12_tryLevel_108 : decode cX12_tryLevel 108 = .ok (.iadd, 1) := by decide +kernel
theorem dX12_tryLevel_109 : decode cX12_tryLevel 109 = .ok (.putfield 346, 3) := by decide +kernel
theorem dX12_tryLevel_112 : decode cX12_tryLevel 112 = .ok (.aload_n 0, 1) := by decide +kernel
theorem dX12_tryLevel_113 : decode cX12_tryLevel 113 = .ok (.getfield 82, 3) := by decide +kernel
theorem dX12_tryLevel_116 : decode cX12_tryLevel 116 = .ok (.bipush 120, 2) := by decide +kernel
theorem dX12_tryLevel_118 : decode cX12_tryLevel 118 = .ok (.iload_n 1, 1) := by decide +kernel
theorem dX12_tryLevel_119 : decode cX12_tryLevel 119 = .ok (.imul, 1) := by decide +kernel
theorem dX12_tryLevel_120 : decode cX12_tryLevel 120 = .ok (.iload_n 2, 1) := by decide +kernel
theorem dX12_tryLevel_121 : decode cX12_tryLevel 121 = .ok (.iadd, 1) := by decide +kernel
theorem dX12_tryLevel_122 : decode cX12_tryLevel 122 = .ok (.iload 5, 2) := by decide +kernel
theorem dX12_tryLevel_124 : decode cX12_tryLevel 124 = .ok (.iastore, 1) := by decide +kernel
theorem dX12_tryLevel_125 : decode cX12_tryLevel 125 = .ok (.return_, 1) := by decide +kernel
