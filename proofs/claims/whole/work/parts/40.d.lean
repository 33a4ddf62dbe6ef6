theorem dX12_takeFields_0 : decode cX12_takeFields 0 = .ok (.iload_n 1, 1) := by decide +kernel
theorem dX12_takeFields_1 : decode cX12_takeFields 1 = .ok (.bipush 16, 2) := by decide +kernel
theorem dX12_takeFields_3 : decode cX12_takeFields 3 = .ok (.imul, 1) := by decide +kernel
theorem dX12_takeFields_4 : decode cX12_takeFields 4 = .ok (.istore_n 2, 1) := by decide +kernel
theorem dX12_takeFields_5 : decode cX12_takeFields 5 = .ok (.aload_n 0, 1) := by decide +kernel
theorem dX12_takeFields_6 : decode cX12_takeFields 6 = .ok (.getfield 73, 3) := by decide +kernel
theorem dX12_takeFields_9 : decode cX12_takeFields 9 = .ok (.iload_n 1, 1) := by decide +kernel
theorem dX12_takeFields_10 : decode cX12_takeFields 10 = .ok (.aload_n 0, 1) := by decide +kernel
theorem dX12_takeFields_11 : decode cX12_takeFields 11 = .ok (.getfield 73, 3) := by decide +kernel
theorem dX12_takeFields_14 : decode cX12_takeFields 14 = .ok (.iconst 2, 1) := by decide +kernel
theorem dX12_takeFields_15 : decode cX12_takeFields 15 = .ok (.iaload, 1) := by decide +kernel
theorem dX12_takeFields_16 : decode cX12_takeFields 16 = .ok (.iastore, 1) := by decide +kernel
theorem dX12_takeFields_17 : decode cX12_takeFields 17 = .ok (.aload_n 0, 1) := by decide +kernel
theorem dX12_takeFields_18 : decode cX12_takeFields 18 = .ok (.getfield 76, 3) := by decide +kernel
theorem dX12_takeFields_21 : decode cX12_takeFields 21 = .ok (.iload_n 1, 1) := by decide +kernel
theorem dX12_takeFields_22 : decode cX12_takeFields 22 = .ok (.aload_n 0, 1) := by decide +kernel
theorem dX12_takeFields_23 : decode cX12_takeFields 23 = .ok (.getfield 76, 3) := by decide +kernel
theorem dX12_takeFields_26 : decode cX12_takeFields 26 = .ok (.iconst 2, 1) := by decide +kernel
theorem dX12_takeFields_27 : decode cX12_takeFields 27 = .ok (.iaload, 1) := by decide +kernel
theorem dX12_takeFields_28 : decode cX12_takeFields 28 = .ok (.iastore, 1) := by decide +kernel
theorem dX12_takeFields_29 : decode cX12_takeFields 29 = .ok (.iconst 0, 1) := by decide +kernel
theorem dX12_takeFields_30 : decode cX12_takeFields 30 = .ok (.istore_n 3, 1) := by decide +kernel
theorem dX12_takeFields_31 : decode cX12_takeFields 31 = .ok (.iload_n 3, 1) := by decide +kernel
theorem dX12_takeFields_32 : decode cX12_takeFields 32 = .ok (.aload_n 0, 1) := by decide +kernel
theorem dX12_takeFields_33 : decode cX12_takeFields 33 = .ok (.getfield 73, 3) := by decide +kernel
theorem dX12_takeFields_36 : decode cX12_takeFields 36 = .ok (.iconst 2, 1) := by decide +kernel
theorem dX12_takeFields_37 : decode cX12_takeFields 37 = .ok (.iaload, 1) := by decide +kernel
theorem dX12_takeFields_38 : decode cX12_takeFields 38 = .ok (.if_icmp .ge 178, 3) := by decide +kernel
theorem dX12_takeFields_41 : decode cX12_takeFields 41 = .ok (.aload_n 0, 1) := by decide +kernel
theorem dX12_takeFields_42 : decode cX12_takeFields 42 = .ok (.getfield 49, 3) := by decide +kernel
theorem dX12_takeFields_45 : decode cX12_takeFields 45 = .ok (.iload_n 2, 1) := by decide +kernel
theorem dX12_takeFields_46 : decode cX12_takeFields 46 = .ok (.iload_n 3, 1) := by decide +kernel
theorem dX12_takeFields_47 : decode cX12_takeFields 47 = .ok (.iadd, 1) := by decide +kernel
theorem dX12_takeFields_48 : decode cX12_takeFields 48 = .ok (.aload_n 0, 1) := by decide +kernel
theorem dX12_takeFields_49 : decode cX12_takeFields 49 = .ok (.getfield 49, 3) := by decide +kernel
theorem dX12_takeFields_52 : decode cX12_takeFields 52 = .ok (.bipush 32, 2) := by decide +kernel
theorem dX12_takeFields_54 : decode cX12_takeFields 54 = .ok (.iload_n 3, 1) := by decide +kernel
theorem dX12_takeFields_55 : decode cX12_takeFields 55 = .ok (.iadd, 1) := by decide +kernel
theorem dX12_takeFields_56 : decode cX12_takeFields 56 = .ok (.iaload, 1) := by decide +kernel
theorem dX12_takeFields_57 : decode cX12_takeFields 57 = .ok (.iastore, 1) := by decide +kernel
theorem dX12_takeFields_58 : decode cX12_takeFields 58 = .ok (.aload_n 0, 1) := by decide +kernel
theorem dX12_takeFields_59 : decode cX12_takeFields 59 = .ok (.getfield 52, 3) := by decide +kernel
theorem dX12_takeFields_62 : decode cX12_takeFields 62 = .ok (.iload_n 2, 1) := by decide +kernel
theorem dX12_takeFields_63 : decode cX12_takeFields 63 = .ok (.iload_n 3, 1) := by decide +kernel
theorem dX12_takeFields_64 : decode cX12_takeFields 64 = .ok (.iadd, 1) := by decide +kernel
theorem dX12_takeFields_65 : decode cX12_takeFields 65 = .ok (.aload_n 0, 1) := by decide +kernel
theorem dX12_takeFields_66 : decode cX12_takeFields 66 = .ok (.getfield 52, 3) := by decide +kernel
theorem dX12_takeFields_69 : decode cX12_takeFields 69 = .ok (.bipush 32, 2) := by decide +kernel
theorem dX12_takeFields_71 : decode cX12_takeFields 71 = .ok (.iload_n 3, 1) := by decide +kernel
theorem dX12_takeFields_72 : decode cX12_takeFields 72 = .ok (.iadd, 1) := by decide +kernel
theorem dX12_takeFields_73 : decode cX12_takeFields 73 = .ok (.iaload, 1) := by decide +kernel
theorem dX12_takeFields_74 : decode cX12_takeFields 74 = .ok (.iastore, 1) := by decide +kernel
theorem dX12_takeFields_75 : decode cX12_takeFields 75 = .ok (.aload_n 0, 1) := by decide +kernel
theorem dX12_takeFields_76 : decode cX12_takeFields 76 = .ok (.getfield 55, 3) := by decide +kernel
theorem dX12_takeFields_79 : decode cX12_takeFields 79 = .ok (.iload_n 2, 1) := by decide +kernel
theorem dX12_takeFields_80 : decode cX12_takeFields 80 = .ok (.iload_n 3, 1) := by decide +kernel
theorem dX12_takeFields_81 : decode cX12_takeFields 81 = .ok (.iadd, 1) := by decide +kernel
theorem dX12_takeFields_82 : decode cX12_takeFields 82 = .ok (.aload_n 0, 1) := by decide +kernel
theorem dX12_takeFields_83 : decode cX12_takeFields 83 = .ok (.getfield 55, 3) := by decide +kernel
theorem dX12_takeFields_86 : decode cX12_takeFields 86 = .ok (.bipush 32, 2) := by decide +kernel
theorem dX12_takeFields_88 : decode cX12_takeFields 88 = .ok (.iload_n 3, 1) := by decide +kernel
theorem dX12_takeFields_89 : decode cX12_takeFields 89 = .ok (.iadd, 1) := by decide +kernel
theorem dX12_takeFields_90 : decode cX12_takeFields 90 = .ok (.iaload, 1) := by decide +kernel
theorem dX12_takeFields_91 : decode cX12_takeFields 91 = .ok (.iastore, 1) := by decide +kernel
theorem dX12_takeFields_92 : decode cX12_takeFields 92 = .ok (.aload_n 0, 1) := by decide +kernel
theorem dX12_takeFields_93 : decode cX12_takeFields 93 = .ok (.getfield 58, 3) := by decide +kernel
theorem dX12_takeFields_96 : decode cX12_takeFields 96 = .ok (.iload_n 2, 1) := by decide +kernel
theorem dX12_takeFields_97 : decode cX12_takeFields 97 = .ok (.iload_n 3, 1) := by decide +kernel
theorem dX12_takeFields_98 : decode cX12_takeFields 98 = .ok (.iadd, 1) := by decide +kernel
theorem dX12_takeFields_99 : decode cX12_takeFields 99 = .ok (.aload_n 0, 1) := by decide +kernel
theorem dX12_takeFields_100 : decode cX12_takeFields 100 = .ok (.getfield 58, 3) := by decide +kernel
theorem dX12_takeFields_103 : decode cX12_takeFields 103 = .ok (.bipush 32, 2) := by decide +kernel
theorem dX12_takeFields_105 : decode cX12_takeFields 105 = .ok (.iload_n 3, 1) := by decide +kernel
theorem dX12_takeFields_106 : decode cX12_takeFields 106 = .ok (.iadd, 1) := by decide +kernel
theorem dX12_takeFields_107 : decode cX12_takeFields 107 = .ok (.iaload, 1) := by decide +kernel
theorem dX12_takeFields_108 : decode cX12_takeFields 108 = .ok (.iastore, 1) := by decide +kernel
theorem dX12_takeFields_109 : decode cX12_takeFields 109 = .ok (.aload_n 0, 1) := by decide +kernel
theorem dX12_takeFields_110 : decode cX12_takeFields 110 = .ok (.getfield 61, 3) := by decide +kernel
theorem dX12_takeFields_113 : decode cX12_takeFields 113 = .ok (.iload_n 2, 1) := by decide +kernel
theorem dX12_takeFields_114 : decode cX12_takeFields 114 = .ok (.iload_n 3, 1) := by decide +kernel
theorem dX12_takeFields_115 : decode cX12_takeFields 115 = .ok (.iadd, 1) := by decide +kernel
theorem dX12_takeFields_116 : decode cX12_takeFields 116 = .ok (.aload_n 0, 1) := by decide +kernel
theorem dX12_takeFields_117 : decode cX12_takeFields 117 = .ok (.getfield 61, 3) := by decide +kernel
theorem dX12_takeFields_120 : decode cX12_takeFields 120 = .ok (.bipush 32, 2) := by decide +kernel
theorem dX12_takeFields_122 : decode cX12_takeFields 122 = .ok (.iload_n 3, 1) := by decide +kernel
theorem dX12_takeFields_123 : decode cX12_takeFields 123 = .ok (.iadd, 1) := by decide +kernel
theorem dX12_takeFields_124 : decode cX12_takeFields 124 = .ok (.iaload, 1) := by decide +kernel
theorem dX12_takeFields_125 : decode cX12_takeFields 125 = .ok (.iastore, 1) := by decide +kernel
theorem dX12_takeFields_126 : decode cX12_takeFields 126 = .ok (.aload_n 0, 1) := by decide +kernel
theorem dX12_takeFields_127 : decode cX12_takeFields 127 = .ok (.getfield 64, 3) := by decide +kernel
theorem dX12_takeFields_130 : decode cX12_takeFields 130 = .ok (.iload_n 2, 1) := by decide +kernel
theorem dX12_takeFields_131 : decode cX12_takeFields 131 = .ok (.iload_n 3, 1) := by decide +kernel
theorem dX12_takeFields_132 : decode cX12_takeFields 132 = .ok (.iadd, 1) := by decide +kernel
theorem dX12_takeFields_133 : decode cX12_takeFields 133 = .ok (.aload_n 0, 1) := by decide +kernel
theorem dX12_takeFields_134 : decode cX12_takeFields 134 = .ok (.getfield 64, 3) := by decide +kernel
theorem dX12_takeFields_137 : decode cX12_takeFields 137 = .ok (.bipush 32, 2) := by decide +kernel
theorem dX12_takeFields_139 : decode cX12_takeFields 139 = .ok (.iload_n 3, 1) := by decide +kernel
theorem dX12_takeFields_140 : decode cX12_takeFields 140 = .ok (.iadd, 1) := by decide +kernel
theorem dX12_takeFields_141 : decode cX12_takeFields 141 = .ok (.iaload, 1) := by decide +kernel
theorem dX12_takeFields_142 : decode cX12_takeFields 142 = .ok (.iastore, 1) := by decide +kernel
theorem dX12_takeFields_143 : decode cX12_takeFields 143 = .ok (.aload_n 0, 1) := by decide +kernel
theorem dX12_takeFields_144 : decode cX12_takeFields 144 = .ok (.getfield 67, 3) := by decide +kernel
theorem dX12_takeFields_147 : decode cX12_takeFields 147 = .ok (.iload_n 2, 1) := by decide +kernel
theorem dX12_takeFields_148 : decode cX12_takeFields 148 = .ok (.iload_n 3, 1) := by decide +kernel
theorem dX12_takeFields_149 : decode cX12_takeFields 149 = .ok (.iadd, 1) := by decide +kernel
theorem dX12_takeFields_150 : decode cX12_takeFields 150 = .ok (.iload_n 1, 1) := by decide +kernel
theorem dX12_takeFields_151 : decode cX12_takeFields 151 = .ok (.ifCond .ne 7, 3) := by decide +kernel
theorem dX12_takeFields_154 : decode cX12_takeFields 154 = .ok (.iload_n 3, 1) := by decide +kernel
theorem dX12_takeFields_155 : decode cX12_takeFields 155 = .ok (.goto 12, 3) := by decide +kernel
theorem dX12_takeFields_158 : decode cX12_takeFields 158 = .ok (.aload_n 0, 1) := by decide +kernel
theorem dX12_takeFields_159 : decode cX12_takeFields 159 = .ok (.getfield 67, 3) := by decide +kernel
theorem dX12_takeFields_162 : decode cX12_takeFields 162 = .ok (.bipush 32, 2) := by decide +kernel
theorem dX12_takeFields_164 : decode cX12_takeFields 164 = .ok (.iload_n 3, 1) := by decide +kernel
theorem dX12_takeFields_165 : decode cX12_takeFields 165 = .ok (.iadd, 1) := by decide +kernel
theorem dX12_takeFields_166 : decode cX12_takeFields 166 = .ok (.iaload, 1) := by decide +kernel
theorem dX12_takeFields_167 : decode cX12_takeFields 167 = .ok (.iastore, 1) := by decide +kernel
theorem dX12_takeFields_168 : decode cX12_takeFields 168 = .ok (.iconst 0, 1) := by decide +kernel
theorem dX12_takeFields_169 : decode cX12_takeFields 169 = .ok (.istore 4, 2) := by decide +kernel
theorem dX12_takeFields_171 : decode cX12_takeFields 171 = .ok (.iload 4, 2) := by decide +kernel
theorem dX12_takeFields_173 : decode cX12_takeFields 173 = .ok (.iconst 4, 1) := by decide +kernel
theorem dX12_takeFields_174 : decode cX12_takeFields 174 = .ok (.if_icmp .ge 36, 3) := by decide +kernel
theorem dX12_takeFields_177 : decode cX12_takeFields 177 = .ok (.aload_n 0, 1) := by decide +kernel
theorem dX12_takeFields_178 : decode cX12_takeFields 178 = .ok (.getfield 70, 3) := by decide +kernel
theorem dX12_takeFields_181 : decode cX12_takeFields 181 = .ok (.iconst 4, 1) := by decide +kernel
theorem dX12_takeFields_182 : decode cX12_takeFields 182 = .ok (.iload_n 2, 1) := by decide +kernel
theorem dX12_takeFields_183 : decode cX12_takeFields 183 = .ok (.iload_n 3, 1) := by decide +kernel
theorem dX12_takeFields_184 : decode cX12_takeFields 184 = .ok (.iadd, 1) := by decide +kernel
theorem dX12_takeFields_185 : decode cX12_takeFields 185 = .ok (.imul, 1) := by decide +kernel
theorem dX12_takeFields_186 : decode cX12_takeFields 186 = .ok (.iload 4, 2) := by decide +kernel
theorem dX12_takeFields_188 : decode cX12_takeFields 188 = .ok (.iadd, 1) := by decide +kernel
theorem dX12_takeFields_189 : decode cX12_takeFields 189 = .ok (.aload_n 0, 1) := by decide +kernel
theorem dX12_takeFields_190 : decode cX12_takeFields 190 = .ok (.getfield 70, 3) := by decide +kernel
theorem dX12_takeFields_193 : decode cX12_takeFields 193 = .ok (.iconst 4, 1) := by decide +kernel
theorem dX12_takeFields_194 : decode cX12_takeFields 194 = .ok (.bipush 32, 2) := by decide +kernel
theorem dX12_takeFields_196 : decode cX12_takeFields 196 = .ok (.iload_n 3, 1) := by decide +kernel
theorem dX12_takeFields_197 : decode cX12_takeFields 197 = .ok (.iadd, 1) := by decide +kernel
theorem dX12_takeFields_198 : decode cX12_takeFields 198 = .ok (.imul, 1) := by decide +kernel
theorem dX12_takeFields_199 : decode cX12_takeFields 199 = .ok (.iload 4, 2) := by decide +kernel
theorem dX12_takeFields_201 : decode cX12_takeFields 201 = .ok (.iadd, 1) := by decide +kernel
theorem dX12_takeFields_202 : decode cX12_takeFields 202 = .ok (.iaload, 1) := by decide +kernel
theorem dX12_takeFields_203 : decode cX12_takeFields 203 = .ok (.iastore, 1) := by decide +kernel
theorem dX12_takeFields_204 : decode cX12_takeFields 204 = .ok (.iinc 4 1, 3) := by decide +kernel
theorem dX12_takeFields_207 : decode cX12_takeFields 207 = .ok (.goto (-36), 3) := by decide +kernel
theorem dX12_takeFields_210 : decode cX12_takeFields 210 = .ok (.iinc 3 1, 3) := by decide +kernel
theorem dX12_takeFields_213 : decode cX12_takeFields 213 = .ok (.goto (-182), 3) := by decide +kernel
theorem dX12_takeFields_216 : decode cX12_takeFields 216 = .ok (.return_, 1) := by decide +kernel
theorem dX12_schema_0 : decode cX12_schema 0 = .ok (.aload_n 0, 1) := by decide +kernel
theorem dX12_schema_1 : decode cX12_schema 1 = .ok (.iload_n 1, 1) := by decide +kernel
theorem dX12_schema_2 : decode cX12_schema 2 = .ok (.invokevirtual 233, 3) := by decide +kernel
theorem dX12_schema_5 : decode cX12_schema 5 = .ok (.ifCond .ne 5, 3) := by decide +kernel
theorem dX12_schema_8 : decode cX12_schema 8 = .ok (.iconst 0, 1) := by decide +kernel
theorem dX12_schema_9 : decode cX12_schema 9 = .ok (.ireturn, 1) := by decide +kernel
theorem dX12_schema_10 : decode cX12_schema 10 = .ok (.aload_n 0, 1) := by decide +kernel
theorem dX12_schema_11 : decode cX12_schema 11 = .ok (.iconst 0, 1) := by decide +kernel
theorem dX12_schema_12 : decode cX12_schema 12 = .ok (.invokevirtual 236, 3) := by decide +kernel
theorem dX12_schema_15 : decode cX12_schema 15 = .ok (.aload_n 0, 1) := by decide +kernel
theorem dX12_schema_16 : decode cX12_schema 16 = .ok (.invokevirtual 240, 3) := by decide +kernel
theorem dX12_schema_19 : decode cX12_schema 19 = .ok (.ifCond .eq 8, 3) := by decide +kernel
theorem dX12_schema_22 : decode cX12_schema 22 = .ok (.aload_n 0, 1) := by decide +kernel
theorem dX12_schema_23 : decode cX12_schema 23 = .ok (.getfield 170, 3) := by decide +kernel
theorem dX12_schema_26 : decode cX12_schema 26 = .ok (.ireturn, 1) := by decide +kernel
theorem dX12_schema_27 : decode cX12_schema 27 = .ok (.aload_n 0, 1) := by decide +kernel
theorem dX12_schema_28 : decode cX12_schema 28 = .ok (.iconst 0, 1) := by decide +kernel
theorem dX12_schema_29 : decode cX12_schema 29 = .ok (.invokevirtual 243, 3) := by decide +kernel
theorem dX12_schema_32 : decode cX12_schema 32 = .ok (.iconst 0, 1) := by decide +kernel
theorem dX12_schema_33 : decode cX12_schema 33 = .ok (.istore_n 2, 1) := by decide +kernel
theorem dX12_schema_34 : decode cX12_schema 34 = .ok (.iload_n 2, 1) := by decide +kernel
theorem dX12_schema_35 : decode cX12_schema 35 = .ok (.aload_n 0, 1) := by decide +kernel
theorem dX12_schema_36 : decode cX12_schema 36 = .ok (.getfield 73, 3) := by decide +kernel
theorem dX12_schema_39 : decode cX12_schema 39 = .ok (.iconst 0, 1) := by decide +kernel
theorem dX12_schema_40 : decode cX12_schema 40 = .ok (.iaload, 1) := by decide +kernel
theorem dX12_schema_41 : decode cX12_schema 41 = .ok (.if_icmp .ge 31, 3) := by decide +kernel
theorem dX12_schema_44 : decode cX12_schema 44 = .ok (.aload_n 0, 1) := by decide +kernel
theorem dX12_schema_45 : decode cX12_schema 45 = .ok (.getfield 55, 3) := by decide +kernel
theorem dX12_schema_48 : decode cX12_schema 48 = .ok (.iload_n 2, 1) := by decide +kernel
theorem dX12_schema_49 : decode cX12_schema 49 = .ok (.iaload, 1) := by decide +kernel
theorem dX12_schema_50 : decode cX12_schema 50 = .ok (.iconst (-1), 1) := by decide +kernel
theorem dX12_schema_51 : decode cX12_schema 51 = .ok (.if_icmp .eq 15, 3) := by decide +kernel
theorem dX12_schema_54 : decode cX12_schema 54 = .ok (.aload_n 0, 1) := by decide +kernel
theorem dX12_schema_55 : decode cX12_schema 55 = .ok (.getfield 79, 3) := by decide +kernel
theorem dX12_schema_58 : decode cX12_schema 58 = .ok (.aload_n 0, 1) := by decide +kernel
theorem dX12_schema_59 : decode cX12_schema 59 = .ok (.getfield 55, 3) := by decide +kernel
theorem dX12_schema_62 : decode cX12_schema 62 = .ok (.iload_n 2, 1) := by decide +kernel
theorem dX12_schema_63 : decode cX12_schema 63 = .ok (.iaload, 1) := by decide +kernel
theorem dX12_schema_64 : decode cX12_schema 64 = .ok (.iload_n 2, 1) := by decide +kernel
theorem dX12_schema_65 : decode cX12_schema 65 = .ok (.iastore, 1) := by decide +kernel
theorem dX12_schema_66 : decode cX12_schema 66 = .ok (.iinc 2 1, 3) := by decide +kernel
theorem dX12_schema_69 : decode cX12_schema 69 = .ok (.goto (-35), 3) := by decide +kernel
theorem dX12_schema_72 : decode cX12_schema 72 = .ok (.aload_n 0, 1) := by decide +kernel
theorem dX12_schema_73 : decode cX12_schema 73 = .ok (.getfield 73, 3) := by decide +kernel
theorem dX12_schema_76 : decode cX12_schema 76 = .ok (.iconst 1, 1) := by decide +kernel
theorem dX12_schema_77 : decode cX12_schema 77 = .ok (.iconst 0, 1) := by decide +kernel
theorem dX12_schema_78 : decode cX12_schema 78 = .ok (.iastore, 1) := by decide +kernel
theorem dX12_schema_79 : decode cX12_schema 79 = .ok (.aload_n 0, 1) := by decide +kernel
theorem dX12_schema_80 : decode cX12_schema 80 = .ok (.iconst 0, 1) := by decide +kernel
theorem dX12_schema_81 : decode cX12_schema 81 = .ok (.putfield 246, 3) := by decide +kernel
theorem dX12_schema_84 : decode cX12_schema 84 = .ok (.aload_n 0, 1) := by decide +kernel
theorem dX12_schema_85 : decode cX12_schema 85 = .ok (.iconst 0, 1) := by decide +kernel
theorem dX12_schema_86 : decode cX12_schema 86 = .ok (.putfield 249, 3) := by decide +kernel
theorem dX12_schema_89 : decode cX12_schema 89 = .ok (.iconst 0, 1) := by decide +kernel
theorem dX12_schema_90 : decode cX12_schema 90 = .ok (.istore_n 2, 1) := by decide +kernel
theorem dX12_schema_91 : decode cX12_schema 91 = .ok (.iload_n 2, 1) := by decide +kernel
theorem dX12_schema_92 : decode cX12_schema 92 = .ok (.bipush 8, 2) := by decide +kernel
theorem dX12_schema_94 : decode cX12_schema 94 = .ok (.if_icmp .ge 16, 3) := by decide +kernel
theorem dX12_schema_97 : decode cX12_schema 97 = .ok (.aload_n 0, 1) := by decide +kernel
theorem dX12_schema_98 : decode cX12_schema 98 = .ok (.getfield 85, 3) := by decide +kernel
theorem dX12_schema_101 : decode cX12_schema 101 = .ok (.iload_n 2, 1) := by decide +kernel
theorem dX12_schema_102 : decode cX12_schema 102 = .ok (.iconst 0, 1) := by decide +kernel
theorem dX12_schema_103 : decode cX12_schema 103 = .ok (.iastore, 1) := by decide +kernel
theorem dX12_schema_104 : decode cX12_schema 104 = .ok (.iinc 2 1, 3) := by decide +kernel
theorem dX12_schema_107 : decode cX12_schema 107 = .ok (.goto (-16), 3) := by decide +kernel
theorem dX12_schema_110 : decode cX12_schema 110 = .ok (.aload_n 0, 1) := by decide +kernel
theorem dX12_schema_111 : decode cX12_schema 111 = .ok (.iconst 0, 1) := by decide +kernel
theorem dX12_schema_112 : decode cX12_schema 112 = .ok (.putfield 252, 3) := by decide +kernel
theorem dX12_schema_115 : decode cX12_schema 115 = .ok (.aload_n 0, 1) := by decide +kernel
theorem dX12_schema_116 : decode cX12_schema 116 = .ok (.iconst 0, 1) := by decide +kernel
theorem dX12_schema_117 : decode cX12_schema 117 = .ok (.putfield 255, 3) := by decide +kernel
theorem dX12_schema_120 : decode cX12_schema 120 = .ok (.iconst 0, 1) := by decide +kernel
theorem dX12_schema_121 : decode cX12_schema 121 = .ok (.ireturn, 1) := by decide +kernel
theorem dX12_view_0 : decode cX12_view 0 = .ok (.aload_n 0, 1) := by decide +kernel
theorem dX12_view_1 : decode cX12_view 1 = .ok (.iload_n 1, 1) := by decide +kernel
theorem dX12_view_2 : decode cX12_view 2 = .ok (.invokevirtual 233, 3) := by decide +kernel
theorem dX12_view_5 : decode cX12_view 5 = .ok (.ifCond .ne 5, 3) := by decide +kernel
theorem dX12_view_8 : decode cX12_view 8 = .ok (.iconst 0, 1) := by decide +kernel
theorem dX12_view_9 : decode cX12_view 9 = .ok (.ireturn, 1) := by decide +kernel
theorem dX12_view_10 : decode cX12_view 10 = .ok (.aload_n 0, 1) := by decide +kernel
theorem dX12_view_11 : decode cX12_view 11 = .ok (.iconst 1, 1) := by decide +kernel
theorem dX12_view_12 : decode cX12_view 12 = .ok (.invokevirtual 236, 3) := by decide +kernel
theorem dX12_view_15 : decode cX12_view 15 = .ok (.aload_n 0, 1) := by decide +kernel
theorem dX12_view_16 : decode cX12_view 16 = .ok (.invokevirtual 240, 3) := by decide +kernel
theorem dX12_view_19 : decode cX12_view 19 = .ok (.ifCond .ne 8, 3) := by decide +kernel
theorem dX12_view_22 : decode cX12_view 22 = .ok (.aload_n 0, 1) := by decide +kernel
theorem dX12_view_23 : decode cX12_view 23 = .ok (.iconst 1, 1) := by decide +kernel
theorem dX12_view_24 : decode cX12_view 24 = .ok (.invokevirtual 243, 3) := by decide +kernel
theorem dX12_view_27 : decode cX12_view 27 = .ok (.aload_n 0, 1) := by decide +kernel
theorem dX12_view_28 : decode cX12_view 28 = .ok (.getfield 170, 3) := by decide +kernel
theorem dX12_view_31 : decode cX12_view 31 = .ok (.ireturn, 1) := by decide +kernel
theorem dX12_fault_0 : decode cX12_fault 0 = .ok (.aload_n 0, 1) := by decide +kernel
theorem dX12_fault_1 : decode cX12_fault 1 = .ok (.iconst 0, 1) := by decide +kernel
theorem dX12_fault_2 : decode cX12_fault 2 = .ok (.putfield 125, 3) := by decide +kernel
theorem dX12_fault_5 : decode cX12_fault 5 = .ok (.aload_n 0, 1) := by decide +kernel
theorem dX12_fault_6 : decode cX12_fault 6 = .ok (.getfield 45, 3) := by decide +kernel
theorem dX12_fault_9 : decode cX12_fault 9 = .ok (.ireturn, 1) := by decide +kernel
theorem dX12_repAt_0 : decode cX12_repAt 0 = .ok (.aload_n 0, 1) := by decide +kernel
theorem dX12_repAt_1 : decode cX12_repAt 1 = .ok (.getfield 82, 3) := by decide +kernel
theorem dX12_repAt_4 : decode cX12_repAt 4 = .ok (.bipush 120, 2) := by decide +kernel
theorem dX12_repAt_6 : decode cX12_repAt 6 = .ok (.iload_n 1, 1) := by decide +kernel
theorem dX12_repAt_7 : decode cX12_repAt 7 = .ok (.imul, 1) := by decide +kernel
theorem dX12_repAt_8 : decode cX12_repAt 8 = .ok (.iload_n 2, 1) := by decide +kernel
theorem dX12_repAt_9 : decode cX12_repAt 9 = .ok (.iadd, 1) := by decide +kernel
theorem dX12_repAt_10 : decode cX12_repAt 10 = .ok (.iaload, 1) := by decide +kernel
theorem dX12_repAt_11 : decode cX12_repAt 11 = .ok (.sipush 10000, 3) := by decide +kernel
theorem dX12_repAt_14 : decode cX12_repAt 14 = .ok (.idiv, 1) := by decide +kernel
theorem dX12_repAt_15 : decode cX12_repAt 15 = .ok (.ireturn, 1) := by decide +kernel
theorem dX12_defAt_0 : decode cX12_defAt 0 = .ok (.aload_n 0, 1) := by decide +kernel
theorem dX12_defAt_1 : decode cX12_defAt 1 = .ok (.getfield 82, 3) := by decide +kernel
theorem dX12_defAt_4 : decode cX12_defAt 4 = .ok (.bipush 120, 2) := by decide +kernel
theorem dX12_defAt_6 : decode cX12_defAt 6 = .ok (.iload_n 1, 1) := by decide +kernel
theorem dX12_defAt_7 : decode cX12_defAt 7 = .ok (.imul, 1) := by decide +kernel
theorem dX12_defAt_8 : decode cX12_defAt 8 = .ok (.iload_n 2, 1) := by decide +kernel
theorem dX12_defAt_9 : decode cX12_defAt 9 = .ok (.iadd, 1) := by decide +kernel
theorem dX12_defAt_10 : decode cX12_defAt 10 = .ok (.iaload, 1) := by decide +kernel
theorem dX12_defAt_11 : decode cX12_defAt 11 = .ok (.sipush 1000, 3) := by decide +kernel
theorem dX12_defAt_14 : decode cX12_defAt 14 = .ok (.idiv, 1) := by decide +kernel
theorem dX12_defAt_15 : decode cX12_defAt 15 = .ok (.bipush 10, 2) := by decide +kernel
theorem dX12_defAt_17 : decode cX12_defAt 17 = .ok (.irem, 1) := by decide +kernel
theorem dX12_defAt_18 : decode cX12_defAt 18 = .ok (.ireturn, 1) := by decide +kernel
theorem dX12_valueAt_0 : decode cX12_valueAt 0 = .ok (.aload_n 0, 1) := by decide +kernel
theorem dX12_valueAt_1 : decode cX12_valueAt 1 = .ok (.getfield 82, 3) := by decide +kernel
theorem dX12_valueAt_4 : decode cX12_valueAt 4 = .ok (.bipush 120, 2) := by decide +kernel
theorem dX12_valueAt_6 : decode cX12_valueAt 6 = .ok (.iload_n 1, 1) := by decide +kernel
theorem dX12_valueAt_7 : decode cX12_valueAt 7 = .ok (.imul, 1) := by decide +kernel
theorem dX12_valueAt_8 : decode cX12_valueAt 8 = .ok (.iload_n 2, 1) := by decide +kernel
theorem dX12_valueAt_9 : decode cX12_valueAt 9 = .ok (.iadd, 1) := by decide +kernel
theorem dX12_valueAt_10 : decode cX12_valueAt 10 = .ok (.iaload, 1) := by decide +kernel
theorem dX12_valueAt_11 : decode cX12_valueAt 11 = .ok (.sipush 1000, 3) := by decide +kernel
theorem dX12_valueAt_14 : decode cX12_valueAt 14 = .ok (.irem, 1) := by decide +kernel
theorem dX12_valueAt_15 : decode cX12_valueAt 15 = .ok (.ireturn, 1) := by decide +kernel
theorem dX12_hasValue_0 : decode cX12_hasValue 0 = .ok (.aload_n 0, 1) := by decide +kernel
theorem dX12_hasValue_1 : decode cX12_hasValue 1 = .ok (.iload_n 1, 1) := by decide +kernel
theorem dX12_hasValue_2 : decode cX12_hasValue 2 = .ok (.iload_n 2, 1) := by decide +kernel
theorem dX12_hasValue_3 : decode cX12_hasValue 3 = .ok (.invokevirtual 258, 3) := by decide +kernel
theorem dX12_hasValue_6 : decode cX12_hasValue 6 = .ok (.aload_n 0, 1) := by decide +kernel
theorem dX12_hasValue_7 : decode cX12_hasValue 7 = .ok (.getfield 58, 3) := by decide +kernel
theorem dX12_hasValue_10 : decode cX12_hasValue 10 = .ok (.aload_n 0, 1) := by decide +kernel
theorem dX12_hasValue_11 : decode cX12_hasValue 11 = .ok (.getfield 79, 3) := by decide +kernel
theorem dX12_hasValue_14 : decode cX12_hasValue 14 = .ok (.iload_n 1, 1) := by decide +kernel
theorem dX12_hasValue_15 : decode cX12_hasValue 15 = .ok (.iaload, 1) := by decide +kernel
theorem dX12_hasValue_16 : decode cX12_hasValue 16 = .ok (.iaload, 1) := by decide +kernel
theorem dX12_hasValue_17 : decode cX12_hasValue 17 = .ok (.if_icmp .ne 7, 3) := by decide +kernel
theorem dX12_hasValue_20 : decode cX12_hasValue 20 = .ok (.iconst 1, 1) := by decide +kernel
theorem dX12_hasValue_21 : decode cX12_hasValue 21 = .ok (.goto 4, 3) := by decide +kernel
theorem dX12_hasValue_24 : decode cX12_hasValue 24 = .ok (.iconst 0, 1) := by decide +kernel
theorem dX12_hasValue_25 : decode cX12_hasValue 25 = .ok (.ireturn, 1) := by decide +kernel
theorem dX12_put_0 : decode cX12_put 0 = .ok (.aload_n 0, 1) := by decide +kernel
theorem dX12_put_1 : decode cX12_put 1 = .ok (.getfield 82, 3) := by decide +kernel
theorem dX12_put_4 : decode cX12_put 4 = .ok (.bipush 120, 2) := by decide +kernel
theorem dX12_put_6 : decode cX12_put 6 = .ok (.iload_n 1, 1) := by decide +kernel
theorem dX12_put_7 : decode cX12_put 7 = .ok (.imul, 1) := by decide +kernel
theorem dX12_put_8 : decode cX12_put 8 = .ok (.iload_n 2, 1) := by decide +kernel
theorem dX12_put_9 : decode cX12_put 9 = .ok (.iadd, 1) := by decide +kernel
theorem dX12_put_10 : decode cX12_put 10 = .ok (.sipush 10000, 3) := by decide +kernel
theorem dX12_put_13 : decode cX12_put 13 = .ok (.iload_n 3, 1) := by decide +kernel
theorem dX12_put_14 : decode cX12_put 14 = .ok (.imul, 1) := by decide +kernel
theorem dX12_put_15 : decode cX12_put 15 = .ok (.sipush 1000, 3) := by decide +kernel
theorem dX12_put_18 : decode cX12_put 18 = .ok (.iload 4, 2) := by decide +kernel
theorem dX12_put_20 : decode cX12_put 20 = .ok (.imul, 1) := by decide +kernel
theorem dX12_put_21 : decode cX12_put 21 = .ok (.iadd, 1) := by decide +kernel
theorem dX12_put_22 : decode cX12_put 22 = .ok (.iload 5, 2) := by decide +kernel
theorem dX12_put_24 : decode cX12_put 24 = .ok (.iadd, 1) := by decide +kernel
theorem dX12_put_25 : decode cX12_put 25 = .ok (.iastore, 1) := by decide +kernel
theorem dX12_put_26 : decode cX12_put 26 = .ok (.return_, 1) := by decide +kernel
theorem dX12_append_0 : decode cX12_append 0 = .ok (.aload_n 0, 1) := by decide +kernel
theorem dX12_append_1 : decode cX12_append 1 = .ok (.getfield 85, 3) := by decide +kernel
theorem dX12_append_4 : decode cX12_append 4 = .ok (.iload_n 1, 1) := by decide +kernel
theorem dX12_append_5 : decode cX12_append 5 = .ok (.iaload, 1) := by decide +kernel
theorem dX12_append_6 : decode cX12_append 6 = .ok (.bipush 120, 2) := by decide +kernel
theorem dX12_append_8 : decode cX12_append 8 = .ok (.if_icmp .ge 18, 3) := by decide +kernel
theorem dX12_append_11 : decode cX12_append 11 = .ok (.aload_n 0, 1) := by decide +kernel
theorem dX12_append_12 : decode cX12_append 12 = .ok (.iload_n 1, 1) := by decide +kernel
theorem dX12_append_13 : decode cX12_append 13 = .ok (.aload_n 0, 1) := by decide +kernel
theorem dX12_append_14 : decode cX12_append 14 = .ok (.getfield 85, 3) := by decide +kernel
theorem dX12_append_17 : decode cX12_append 17 = .ok (.iload_n 1, 1) := by decide +kernel
theorem dX12_append_18 : decode cX12_append 18 = .ok (.iaload, 1) := by decide +kernel
theorem dX12_append_19 : decode cX12_append 19 = .ok (.iload_n 2, 1) := by decide +kernel
theorem dX12_append_20 : decode cX12_append 20 = .ok (.iload_n 3, 1) := by decide +kernel
theorem dX12_append_21 : decode cX12_append 21 = .ok (.iload 4, 2) := by decide +kernel
theorem dX12_append_23 : decode cX12_append 23 = .ok (.invokevirtual 261, 3) := by decide +kernel
theorem dX12_append_26 : decode cX12_append 26 = .ok (.aload_n 0, 1) := by decide +kernel
theorem dX12_append_27 : decode cX12_append 27 = .ok (.getfield 85, 3) := by decide +kernel
theorem dX12_append_30 : decode cX12_append 30 = .ok (.iload_n 1, 1) := by decide +kernel
theorem dX12_append_31 : decode cX12_append 31 = .ok (.dup2, 1) := by decide +kernel
theorem dX12_append_32 : decode cX12_append 32 = .ok (.iaload, 1) := by decide +kernel
theorem dX12_append_33 : decode cX12_append 33 = .ok (.iconst 1, 1) := by decide +kernel
theorem dX12_append_34 : decode cX12_append 34 = .ok (.iadd, 1) := by decide +kernel
theorem dX12_append_35 : decode cX12_append 35 = .ok (.iastore, 1) := by decide +kernel
theorem dX12_append_36 : decode cX12_append 36 = .ok (.return_, 1) := by decide +kernel
theorem dX12_pack_0 : decode cX12_pack 0 = .ok (.iconst 0, 1) := by decide +kernel
theorem dX12_pack_1 : decode cX12_pack 1 = .ok (.istore_n 3, 1) := by decide +kernel
theorem dX12_pack_2 : decode cX12_pack 2 = .ok (.iload_n 3, 1) := by decide +kernel
theorem dX12_pack_3 : decode cX12_pack 3 = .ok (.sipush 960, 3) := by decide +kernel
theorem dX12_pack_6 : decode cX12_pack 6 = .ok (.if_icmp .ge 20, 3) := by decide +kernel
theorem dX12_pack_9 : decode cX12_pack 9 = .ok (.aload_n 1, 1) := by decide +kernel
theorem dX12_pack_10 : decode cX12_pack 10 = .ok (.iload_n 2, 1) := by decide +kernel
theorem dX12_pack_11 : decode cX12_pack 11 = .ok (.iload_n 3, 1) := by decide +kernel
theorem dX12_pack_12 : decode cX12_pack 12 = .ok (.iadd, 1) := by decide +kernel
theorem dX12_pack_13 : decode cX12_pack 13 = .ok (.aload_n 0, 1) := by decide +kernel
theorem dX12_pack_14 : decode cX12_pack 14 = .ok (.getfield 82, 3) := by decide +kernel
theorem dX12_pack_17 : decode cX12_pack 17 = .ok (.iload_n 3, 1) := by decide +kernel
theorem dX12_pack_18 : decode cX12_pack 18 = .ok (.iaload, 1) := by decide +kernel
theorem dX12_pack_19 : decode cX12_pack 19 = .ok (.iastore, 1) := by decide +kernel
theorem dX12_pack_20 : decode cX12_pack 20 = .ok (.iinc 3 1, 3) := by decide +kernel
theorem dX12_pack_23 : decode cX12_pack 23 = .ok (.goto (-21), 3) := by decide +kernel
theorem dX12_pack_26 : decode cX12_pack 26 = .ok (.iconst 0, 1) := by decide +kernel
theorem dX12_pack_27 : decode cX12_pack 27 = .ok (.istore_n 3, 1) := by decide +kernel
theorem dX12_pack_28 : decode cX12_pack 28 = .ok (.iload_n 3, 1) := by decide +kernel
theorem dX12_pack_29 : decode cX12_pack 29 = .ok (.bipush 8, 2) := by decide +kernel
theorem dX12_pack_31 : decode cX12_pack 31 = .ok (.if_icmp .ge 24, 3) := by decide +kernel
theorem dX12_pack_34 : decode cX12_pack 34 = .ok (.aload_n 1, 1) := by decide +kernel
theorem dX12_pack_35 : decode cX12_pack 35 = .ok (.iload_n 2, 1) := by decide +kernel
theorem dX12_pack_36 : decode cX12_pack 36 = .ok (.sipush 960, 3) := by decide +kernel
theorem dX12_pack_39 : decode cX12_pack 39 = .ok (.iadd, 1) := by decide +kernel
theorem dX12_pack_40 : decode cX12_pack 40 = .ok (.iload_n 3, 1) := by decide +kernel
theorem dX12_pack_41 : decode cX12_pack 41 = .ok (.iadd, 1) := by decide +kernel
theorem dX12_pack_42 : decode cX12_pack 42 = .ok (.aload_n 0, 1) := by decide +kernel
theorem dX12_pack_43 : decode cX12_pack 43 = .ok (.getfield 85, 3) := by decide +kernel
theorem dX12_pack_46 : decode cX12_pack 46 = .ok (.iload_n 3, 1) := by decide +kernel
theorem dX12_pack_47 : decode cX12_pack 47 = .ok (.iaload, 1) := by decide +kernel
theorem dX12_pack_48 : decode cX12_pack 48 = .ok (.iastore, 1) := by decide +kernel
theorem dX12_pack_49 : decode cX12_pack 49 = .ok (.iinc 3 1, 3) := by decide +kernel
theorem dX12_pack_52 : decode cX12_pack 52 = .ok (.goto (-24), 3) := by decide +kernel
theorem dX12_pack_55 : decode cX12_pack 55 = .ok (.aload_n 1, 1) := by decide +kernel
theorem dX12_pack_56 : decode cX12_pack 56 = .ok (.iload_n 2, 1) := by decide +kernel
theorem dX12_pack_57 : decode cX12_pack 57 = .ok (.sipush 960, 3) := by decide +kernel
theorem dX12_pack_60 : decode cX12_pack 60 = .ok (.iadd, 1) := by decide +kernel
theorem dX12_pack_61 : decode cX12_pack 61 = .ok (.bipush 8, 2) := by decide +kernel
theorem dX12_pack_63 : decode cX12_pack 63 = .ok (.iadd, 1) := by decide +kernel
theorem dX12_pack_64 : decode cX12_pack 64 = .ok (.aload_n 0, 1) := by decide +kernel
theorem dX12_pack_65 : decode cX12_pack 65 = .ok (.getfield 249, 3) := by decide +kernel
theorem dX12_pack_68 : decode cX12_pack 68 = .ok (.iastore, 1) := by decide +kernel
theorem dX12_pack_69 : decode cX12_pack 69 = .ok (.return_, 1) := by decide +kernel
theorem dX12_unpack_0 : decode cX12_unpack 0 = .ok (.iconst 0, 1) := by decide +kernel
theorem dX12_unpack_1 : decode cX12_unpack 1 = .ok (.istore_n 3, 1) := by decide +kernel
theorem dX12_unpack_2 : decode cX12_unpack 2 = .ok (.iload_n 3, 1) := by decide +kernel
theorem dX12_unpack_3 : decode cX12_unpack 3 = .ok (.sipush 960, 3) := by decide +kernel
theorem dX12_unpack_6 : decode cX12_unpack 6 = .ok (.if_icmp .ge 20, 3) := by decide +kernel
theorem dX12_unpack_9 : decode cX12_unpack 9 = .ok (.aload_n 0, 1) := by decide +kernel
theorem dX12_unpack_10 : decode cX12_unpack 10 = .ok (.getfield 82, 3) := by decide +kernel
theorem dX12_unpack_13 : decode cX12_unpack 13 = .ok (.iload_n 3, 1) := by decide +kernel
theorem dX12_unpack_14 : decode cX12_unpack 14 = .ok (.aload_n 1, 1) := by decide +kernel
theorem dX12_unpack_15 : decode cX12_unpack 15 = .ok (.iload_n 2, 1) := by decide +kernel
theorem dX12_unpack_16 : decode cX12_unpack 16 = .ok (.iload_n 3, 1) := by decide +kernel
theorem dX12_unpack_17 : decode cX12_unpack 17 = .ok (.iadd, 1) := by decide +kernel
theorem dX12_unpack_18 : decode cX12_unpack 18 = .ok (.iaload, 1) := by decide +kernel
theorem dX12_unpack_19 : decode cX12_unpack 19 = .ok (.iastore, 1) := by decide +kernel
theorem dX12_unpack_20 : decode cX12_unpack 20 = .ok (.iinc 3 1, 3) := by decide +kernel
theorem dX12_unpack_23 : decode cX12_unpack 23 = .ok (.goto (-21), 3) := by decide +kernel
theorem dX12_unpack_26 : decode cX12_unpack 26 = .ok (.iconst 0, 1) := by decide +kernel
theorem dX12_unpack_27 : decode cX12_unpack 27 = .ok (.istore_n 3, 1) := by decide +kernel
theorem dX12_unpack_28 : decode cX12_unpack 28 = .ok (.iload_n 3, 1) := by decide +kernel
theorem dX12_unpack_29 : decode cX12_unpack 29 = .ok (.bipush 8, 2) := by decide +kernel
theorem dX12_unpack_31 : decode cX12_unpack 31 = .ok (.if_icmp .ge 24, 3) := by decide +kernel
theorem dX12_unpack_34 : decode cX12_unpack 34 = .ok (.aload_n 0, 1) := by decide +kernel
theorem dX12_unpack_35 : decode cX12_unpack 35 = .ok (.getfield 85, 3) := by decide +kernel
theorem dX12_unpack_38 : decode cX12_unpack 38 = .ok (.iload_n 3, 1) := by decide +kernel
theorem dX12_unpack_39 : decode cX12_unpack 39 = .ok (.aload_n 1, 1) := by decide +kernel
theorem dX12_unpack_40 : decode cX12_unpack 40 = .ok (.iload_n 2, 1) := by decide +kernel
theorem dX12_unpack_41 : decode cX12_unpack 41 = .ok (.sipush 960, 3) := by decide +kernel
theorem dX12_unpack_44 : decode cX12_unpack 44 = .ok (.iadd, 1) := by decide +kernel
theorem dX12_unpack_45 : decode cX12_unpack 45 = .ok (.iload_n 3, 1) := by decide +kernel
theorem dX12_unpack_46 : decode cX12_unpack 46 = .ok (.iadd, 1) := by decide +kernel
theorem dX12_unpack_47 : decode cX12_unpack 47 = .ok (.iaload, 1) := by decide +kernel
theorem dX12_unpack_48 : decode cX12_unpack 48 = .ok (.iastore, 1) := by decide +kernel
theorem dX12_unpack_49 : decode cX12_unpack 49 = .ok (.iinc 3 1, 3) := by decide +kernel
theorem dX12_unpack_52 : decode cX12_unpack 52 = .ok (.goto (-24), 3) := by decide +kernel
theorem dX12_unpack_55 : decode cX12_unpack 55 = .ok (.aload_n 0, 1) := by decide +kernel
theorem dX12_unpack_56 : decode cX12_unpack 56 = .ok (.aload_n 1, 1) := by decide +kernel
theorem dX12_unpack_57 : decode cX12_unpack 57 = .ok (.iload_n 2, 1) := by decide +kernel
theorem dX12_unpack_58 : decode cX12_unpack 58 = .ok (.sipush 960, 3) := by decide +kernel
theorem dX12_unpack_61 : decode cX12_unpack 61 = .ok (.iadd, 1) := by decide +kernel
theorem dX12_unpack_62 : decode cX12_unpack 62 = .ok (.bipush 8, 2) := by decide +kernel
theorem dX12_unpack_64 : decode cX12_unpack 64 = .ok (.iadd, 1) := by decide +kernel
theorem dX12_unpack_65 : decode cX12_unpack 65 = .ok (.iaload, 1) := by decide +kernel
theorem dX12_unpack_66 : decode cX12_unpack 66 = .ok (.putfield 249, 3) := by decide +kernel
theorem dX12_unpack_69 : decode cX12_unpack 69 = .ok (.return_, 1) := by decide +kernel
theorem dX12_isInside_0 : decode cX12_isInside 0 = .ok (.iload_n 1, 1) := by decide +kernel
theorem dX12_isInside_1 : decode cX12_isInside 1 = .ok (.istore_n 3, 1) := by decide +kernel
theorem dX12_isInside_2 : decode cX12_isInside 2 = .ok (.iload_n 3, 1) := by decide +kernel
theorem dX12_isInside_3 : decode cX12_isInside 3 = .ok (.iconst (-1), 1) := by decide +kernel
theorem dX12_isInside_4 : decode cX12_isInside 4 = .ok (.if_icmp .eq 18, 3) := by decide +kernel
theorem dX12_isInside_7 : decode cX12_isInside 7 = .ok (.iload_n 3, 1) := by decide +kernel
theorem dX12_isInside_8 : decode cX12_isInside 8 = .ok (.iload_n 2, 1) := by decide +kernel
theorem dX12_isInside_9 : decode cX12_isInside 9 = .ok (.if_icmp .eq 13, 3) := by decide +kernel
theorem dX12_isInside_12 : decode cX12_isInside 12 = .ok (.aload_n 0, 1) := by decide +kernel
theorem dX12_isInside_13 : decode cX12_isInside 13 = .ok (.getfield 52, 3) := by decide +kernel
theorem dX12_isInside_16 : decode cX12_isInside 16 = .ok (.iload_n 3, 1) := by decide +kernel
theorem dX12_isInside_17 : decode cX12_isInside 17 = .ok (.iaload, 1) := by decide +kernel
theorem dX12_isInside_18 : decode cX12_isInside 18 = .ok (.istore_n 3, 1) := by decide +kernel
theorem dX12_isInside_19 : decode cX12_isInside 19 = .ok (.goto (-17), 3) := by decide +kernel
theorem dX12_isInside_22 : decode cX12_isInside 22 = .ok (.iload_n 3, 1) := by decide +kernel
theorem dX12_isInside_23 : decode cX12_isInside 23 = .ok (.iload_n 2, 1) := by decide +kernel
theorem dX12_isInside_24 : decode cX12_isInside 24 = .ok (.if_icmp .ne 7, 3) := by decide +kernel
theorem dX12_isInside_27 : decode cX12_isInside 27 = .ok (.iconst 1, 1) := by decide +kernel
theorem dX12_isInside_28 : decode cX12_isInside 28 = .ok (.goto 4, 3) := by decide +kernel
theorem dX12_isInside_31 : decode cX12_isInside 31 = .ok (.iconst 0, 1) := by decide +kernel
theorem dX12_isInside_32 : decode cX12_isInside 32 = .ok (.ireturn, 1) := by decide +kernel
theorem dX12_lackIn_0 : decode cX12_lackIn 0 = .ok (.iconst 0, 1) := by decide +kernel
theorem dX12_lackIn_1 : decode cX12_lackIn 1 = .ok (.istore 4, 2) := by decide +kernel
theorem dX12_lackIn_3 : decode cX12_lackIn 3 = .ok (.iload 4, 2) := by decide +kernel
theorem dX12_lackIn_5 : decode cX12_lackIn 5 = .ok (.aload_n 0, 1) := by decide +kernel
theorem dX12_lackIn_6 : decode cX12_lackIn 6 = .ok (.getfield 76, 3) := by decide +kernel
theorem dX12_lackIn_9 : decode cX12_lackIn 9 = .ok (.iconst 0, 1) := by decide +kernel
theorem dX12_lackIn_10 : decode cX12_lackIn 10 = .ok (.iaload, 1) := by decide +kernel
theorem dX12_lackIn_11 : decode cX12_lackIn 11 = .ok (.if_icmp .ge 33, 3) := by decide +kernel
theorem dX12_lackIn_14 : decode cX12_lackIn 14 = .ok (.aload_n 0, 1) := by decide +kernel
theorem dX12_lackIn_15 : decode cX12_lackIn 15 = .ok (.aload_n 0, 1) := by decide +kernel
theorem dX12_lackIn_16 : decode cX12_lackIn 16 = .ok (.getfield 79, 3) := by decide +kernel
theorem dX12_lackIn_19 : decode cX12_lackIn 19 = .ok (.iload 4, 2) := by decide +kernel
theorem dX12_lackIn_21 : decode cX12_lackIn 21 = .ok (.iaload, 1) := by decide +kernel
theorem dX12_lackIn_22 : decode cX12_lackIn 22 = .ok (.iload_n 1, 1) := by decide +kernel
theorem dX12_lackIn_23 : decode cX12_lackIn 23 = .ok (.invokevirtual 265, 3) := by decide +kernel
theorem dX12_lackIn_26 : decode cX12_lackIn 26 = .ok (.ifCond .eq 12, 3) := by decide +kernel
theorem dX12_lackIn_29 : decode cX12_lackIn 29 = .ok (.aload_n 0, 1) := by decide +kernel
theorem dX12_lackIn_30 : decode cX12_lackIn 30 = .ok (.iload 4, 2) := by decide +kernel
theorem dX12_lackIn_32 : decode cX12_lackIn 32 = .ok (.iload_n 2, 1) := by decide +kernel
theorem dX12_lackIn_33 : decode cX12_lackIn 33 = .ok (.iload_n 3, 1) := by decide +kernel
theorem dX12_lackIn_34 : decode cX12_lackIn 34 = .ok (.iconst 0, 1) := by decide +kernel
theorem dX12_lackIn_35 : decode cX12_lackIn 35 = .ok (.invokevirtual 268, 3) := by decide +kernel
theorem dX12_lackIn_38 : decode cX12_lackIn 38 = .ok (.iinc 4 1, 3) := by decide +kernel
theorem dX12_lackIn_41 : decode cX12_lackIn 41 = .ok (.goto (-38), 3) := by decide +kernel
theorem dX12_lackIn_44 : decode cX12_lackIn 44 = .ok (.return_, 1) := by decide +kernel
theorem dX12_isTooMuch_0 : decode cX12_isTooMuch 0 = .ok (.aload_n 0, 1) := by decide +kernel
theorem dX12_isTooMuch_1 : decode cX12_isTooMuch 1 = .ok (.getfield 249, 3) := by decide +kernel
theorem dX12_isTooMuch_4 : decode cX12_isTooMuch 4 = .ok (.bipush 30, 2) := by decide +kernel
theorem dX12_isTooMuch_6 : decode cX12_isTooMuch 6 = .ok (.if_icmp .le 7, 3) := by decide +kernel
theorem dX12_isTooMuch_9 : decode cX12_isTooMuch 9 = .ok (.iconst 1, 1) := by decide +kernel
theorem dX12_isTooMuch_10 : decode cX12_isTooMuch 10 = .ok (.goto 4, 3) := by decide +kernel
theorem dX12_isTooMuch_13 : decode cX12_isTooMuch 13 = .ok (.iconst 0, 1) := by decide +kernel
theorem dX12_isTooMuch_14 : decode cX12_isTooMuch 14 = .ok (.istore_n 1, 1) := by decide +kernel
theorem dX12_isTooMuch_15 : decode cX12_isTooMuch 15 = .ok (.iconst 0, 1) := by decide +kernel
theorem dX12_isTooMuch_16 : decode cX12_isTooMuch 16 = .ok (.istore_n 2, 1) := by decide +kernel
theorem dX12_isTooMuch_17 : decode cX12_isTooMuch 17 = .ok (.iload_n 2, 1) := by decide +kernel
theorem dX12_isTooMuch_18 : decode cX12_isTooMuch 18 = .ok (.aload_n 0, 1) := by decide +kernel
theorem dX12_isTooMuch_19 : decode cX12_isTooMuch 19 = .ok (.getfield 76, 3) := by decide +kernel
theorem dX12_isTooMuch_22 : decode cX12_isTooMuch 22 = .ok (.iconst 0, 1) := by decide +kernel
theorem dX12_isTooMuch_23 : decode cX12_isTooMuch 23 = .ok (.iaload, 1) := by decide +kernel
theorem dX12_isTooMuch_24 : decode cX12_isTooMuch 24 = .ok (.if_icmp .ge 30, 3) := by decide +kernel
theorem dX12_isTooMuch_27 : decode cX12_isTooMuch 27 = .ok (.iload_n 1, 1) := by decide +kernel
theorem dX12_isTooMuch_28 : decode cX12_isTooMuch 28 = .ok (.ifCond .ne 14, 3) := by decide +kernel
theorem dX12_isTooMuch_31 : decode cX12_isTooMuch 31 = .ok (.aload_n 0, 1) := by decide +kernel
theorem dX12_isTooMuch_32 : decode cX12_isTooMuch 32 = .ok (.getfield 85, 3) := by decide +kernel
theorem dX12_isTooMuch_35 : decode cX12_isTooMuch 35 = .ok (.iload_n 2, 1) := by decide +kernel
theorem dX12_isTooMuch_36 : decode cX12_isTooMuch 36 = .ok (.iaload, 1) := by decide +kernel
theorem dX12_isTooMuch_37 : decode cX12_isTooMuch 37 = .ok (.bipush 120, 2) := by decide +kernel
theorem dX12_isTooMuch_39 : decode cX12_isTooMuch 39 = .ok (.if_icmp .le 7, 3) := by decide +kernel
theorem dX12_isTooMuch_42 : decode cX12_isTooMuch 42 = .ok (.iconst 1, 1) := by decide +kernel
theorem dX12_isTooMuch_43 : decode cX12_isTooMuch 43 = .ok (.goto 4, 3) := by decide +kernel
theorem dX12_isTooMuch_46 : decode cX12_isTooMuch 46 = .ok (.iconst 0, 1) := by decide +kernel
theorem dX12_isTooMuch_47 : decode cX12_isTooMuch 47 = .ok (.istore_n 1, 1) := by decide +kernel
theorem dX12_isTooMuch_48 : decode cX12_isTooMuch 48 = .ok (.iinc 2 1, 3) := by decide +kernel
theorem dX12_isTooMuch_51 : decode cX12_isTooMuch 51 = .ok (.goto (-34), 3) := by decide +kernel
theorem dX12_isTooMuch_54 : decode cX12_isTooMuch 54 = .ok (.iload_n 1, 1) := by decide +kernel
theorem dX12_isTooMuch_55 : decode cX12_isTooMuch 55 = .ok (.ireturn, 1) := by decide +kernel
theorem dX12_readItem_0 : decode cX12_readItem 0 = .ok (.aload_n 0, 1) := by decide +kernel
theorem dX12_readItem_1 : decode cX12_readItem 1 = .ok (.getfield 55, 3) := by decide +kernel
theorem dX12_readItem_4 : decode cX12_readItem 4 = .ok (.iload_n 1, 1) := by decide +kernel
theorem dX12_readItem_5 : decode cX12_readItem 5 = .ok (.iaload, 1) := by decide +kernel
theorem dX12_readItem_6 : decode cX12_readItem 6 = .ok (.iconst (-1), 1) := by decide +kernel
theorem dX12_readItem_7 : decode cX12_readItem 7 = .ok (.if_icmp .eq 32, 3) := by decide +kernel
theorem dX12_readItem_10 : decode cX12_readItem 10 = .ok (.aload_n 0, 1) := by decide +kernel
theorem dX12_readItem_11 : decode cX12_readItem 11 = .ok (.iconst 0, 1) := by decide +kernel
theorem dX12_readItem_12 : decode cX12_readItem 12 = .ok (.invokevirtual 272, 3) := by decide +kernel
theorem dX12_readItem_15 : decode cX12_readItem 15 = .ok (.istore 4, 2) := by decide +kernel
theorem dX12_readItem_17 : decode cX12_readItem 17 = .ok (.aload_n 0, 1) := by decide +kernel
theorem dX12_readItem_18 : decode cX12_readItem 18 = .ok (.getfield 170, 3) := by decide +kernel
theorem dX12_readItem_21 : decode cX12_readItem 21 = .ok (.ifCond .ne 17, 3) := by decide +kernel
theorem dX12_readItem_24 : decode cX12_readItem 24 = .ok (.aload_n 0, 1) := by decide +kernel
theorem dX12_readItem_25 : decode cX12_readItem 25 = .ok (.aload_n 0, 1) := by decide +kernel
theorem dX12_readItem_26 : decode cX12_readItem 26 = .ok (.getfield 55, 3) := by decide +kernel
theorem dX12_readItem_29 : decode cX12_readItem 29 = .ok (.iload_n 1, 1) := by decide +kernel
theorem dX12_readItem_30 : decode cX12_readItem 30 = .ok (.iaload, 1) := by decide +kernel
theorem dX12_readItem_31 : decode cX12_readItem 31 = .ok (.iload_n 2, 1) := by decide +kernel
theorem dX12_readItem_32 : decode cX12_readItem 32 = .ok (.iload_n 3, 1) := by decide +kernel
theorem dX12_readItem_33 : decode cX12_readItem 33 = .ok (.iload 4, 2) := by decide +kernel
theorem dX12_readItem_35 : decode cX12_readItem 35 = .ok (.invokevirtual 268, 3) := by decide +kernel
theorem dX12_readItem_38 : decode cX12_readItem 38 = .ok (.return_, 1) := by decide +kernel
theorem dX12_readItem_39 : decode cX12_readItem 39 = .ok (.aload_n 0, 1) := by decide +kernel
theorem dX12_readItem_40 : decode cX12_readItem 40 = .ok (.bipush 40, 2) := by decide +kernel
theorem dX12_readItem_42 : decode cX12_readItem 42 = .ok (.invokevirtual 227, 3) := by decide +kernel
theorem dX12_readItem_45 : decode cX12_readItem 45 = .ok (.aload_n 0, 1) := by decide +kernel
theorem dX12_readItem_46 : decode cX12_readItem 46 = .ok (.iload_n 1, 1) := by decide +kernel
theorem dX12_readItem_47 : decode cX12_readItem 47 = .ok (.iload_n 2, 1) := by decide +kernel
theorem dX12_readItem_48 : decode cX12_readItem 48 = .ok (.iload_n 3, 1) := by decide +kernel
theorem dX12_readItem_49 : decode cX12_readItem 49 = .ok (.invokevirtual 275, 3) := by decide +kernel
theorem dX12_readItem_52 : decode cX12_readItem 52 = .ok (.aload_n 0, 1) := by decide +kernel
theorem dX12_readItem_53 : decode cX12_readItem 53 = .ok (.bipush 41, 2) := by decide +kernel
theorem dX12_readItem_55 : decode cX12_readItem 55 = .ok (.invokevirtual 227, 3) := by decide +kernel
theorem dX12_readItem_58 : decode cX12_readItem 58 = .ok (.return_, 1) := by decide +kernel
theorem dX12_readMany_0 : decode cX12_readMany 0 = .ok (.aload_n 0, 1) := by decide +kernel
theorem dX12_readMany_1 : decode cX12_readMany 1 = .ok (.bipush 91, 2) := by decide +kernel
theorem dX12_readMany_3 : decode cX12_readMany 3 = .ok (.invokevirtual 227, 3) := by decide +kernel
theorem dX12_readMany_6 : decode cX12_readMany 6 = .ok (.aload_n 0, 1) := by decide +kernel
theorem dX12_readMany_7 : decode cX12_readMany 7 = .ok (.bipush 93, 2) := by decide +kernel
theorem dX12_readMany_9 : decode cX12_readMany 9 = .ok (.invokevirtual 188, 3) := by decide +kernel
theorem dX12_readMany_12 : decode cX12_readMany 12 = .ok (.ifCond .eq 10, 3) := by decide +kernel
theorem dX12_readMany_15 : decode cX12_readMany 15 = .ok (.aload_n 0, 1) := by decide +kernel
theorem dX12_readMany_16 : decode cX12_readMany 16 = .ok (.iload_n 1, 1) := by decide +kernel
theorem dX12_readMany_17 : decode cX12_readMany 17 = .ok (.iload_n 2, 1) := by decide +kernel
theorem dX12_readMany_18 : decode cX12_readMany 18 = .ok (.iload_n 3, 1) := by decide +kernel
theorem dX12_readMany_19 : decode cX12_readMany 19 = .ok (.invokevirtual 279, 3) := by decide +kernel
theorem dX12_readMany_22 : decode cX12_readMany 22 = .ok (.iconst 1, 1) := by decide +kernel
theorem dX12_readMany_23 : decode cX12_readMany 23 = .ok (.istore 4, 2) := by decide +kernel
theorem dX12_readMany_25 : decode cX12_readMany 25 = .ok (.aload_n 0, 1) := by decide +kernel
theorem dX12_readMany_26 : decode cX12_readMany 26 = .ok (.getfield 170, 3) := by decide +kernel
theorem dX12_readMany_29 : decode cX12_readMany 29 = .ok (.ifCond .ne 41, 3) := by decide +kernel
theorem dX12_readMany_32 : decode cX12_readMany 32 = .ok (.aload_n 0, 1) := by decide +kernel
theorem dX12_readMany_33 : decode cX12_readMany 33 = .ok (.bipush 93, 2) := by decide +kernel
theorem dX12_readMany_35 : decode cX12_readMany 35 = .ok (.invokevirtual 188, 3) := by decide +kernel
theorem dX12_readMany_38 : decode cX12_readMany 38 = .ok (.ifCond .ne 32, 3) := by decide +kernel
theorem dX12_readMany_41 : decode cX12_readMany 41 = .ok (.aload_n 0, 1) := by decide +kernel
theorem dX12_readMany_42 : decode cX12_readMany 42 = .ok (.iload_n 1, 1) := by decide +kernel
theorem dX12_readMany_43 : decode cX12_readMany 43 = .ok (.iload 4, 2) := by decide +kernel
theorem dX12_readMany_45 : decode cX12_readMany 45 = .ok (.ifCond .eq 7, 3) := by decide +kernel
theorem dX12_readMany_48 : decode cX12_readMany 48 = .ok (.iload_n 2, 1) := by decide +kernel
theorem dX12_readMany_49 : decode cX12_readMany 49 = .ok (.goto 9, 3) := by decide +kernel
theorem dX12_readMany_52 : decode cX12_readMany 52 = .ok (.aload_n 0, 1) := by decide +kernel
theorem dX12_readMany_53 : decode cX12_readMany 53 = .ok (.getfield 61, 3) := by decide +kernel
theorem dX12_readMany_56 : decode cX12_readMany 56 = .ok (.iload_n 1, 1) := by decide +kernel
theorem dX12_readMany_57 : decode cX12_readMany 57 = .ok (.iaload, 1) := by decide +kernel
theorem dX12_readMany_58 : decode cX12_readMany 58 = .ok (.iload_n 3, 1) := by decide +kernel
theorem dX12_readMany_59 : decode cX12_readMany 59 = .ok (.iconst 1, 1) := by decide +kernel
theorem dX12_readMany_60 : decode cX12_readMany 60 = .ok (.iadd, 1) := by decide +kernel
theorem dX12_readMany_61 : decode cX12_readMany 61 = .ok (.invokevirtual 282, 3) := by decide +kernel
theorem dX12_readMany_64 : decode cX12_readMany 64 = .ok (.iconst 0, 1) := by decide +kernel
theorem dX12_readMany_65 : decode cX12_readMany 65 = .ok (.istore 4, 2) := by decide +kernel
theorem dX12_readMany_67 : decode cX12_readMany 67 = .ok (.goto (-42), 3) := by decide +kernel
theorem dX12_readMany_70 : decode cX12_readMany 70 = .ok (.aload_n 0, 1) := by decide +kernel
theorem dX12_readMany_71 : decode cX12_readMany 71 = .ok (.bipush 93, 2) := by decide +kernel
theorem dX12_readMany_73 : decode cX12_readMany 73 = .ok (.invokevirtual 227, 3) := by decide +kernel
theorem dX12_readMany_76 : decode cX12_readMany 76 = .ok (.return_, 1) := by decide +kernel
theorem dX12_readValues_0 : decode cX12_readValues 0 = .ok (.iconst 0, 1) := by decide +kernel
theorem dX12_readValues_1 : decode cX12_readValues 1 = .ok (.istore 4, 2) := by decide +kernel
theorem dX12_readValues_3 : decode cX12_readValues 3 = .ok (.iload 4, 2) := by decide +kernel
theorem dX12_readValues_5 : decode cX12_readValues 5 = .ok (.aload_n 0, 1) := by decide +kernel
theorem dX12_readValues_6 : decode cX12_readValues 6 = .ok (.getfield 73, 3) := by decide +kernel
theorem dX12_readValues_9 : decode cX12_readValues 9 = .ok (.iconst 0, 1) := by decide +kernel
theorem dX12_readValues_10 : decode cX12_readValues 10 = .ok (.iaload, 1) := by decide +kernel
theorem dX12_readValues_11 : decode cX12_readValues 11 = .ok (.if_icmp .ge 112, 3) := by decide +kernel
theorem dX12_readValues_14 : decode cX12_readValues 14 = .ok (.aload_n 0, 1) := by decide +kernel
theorem dX12_readValues_15 : decode cX12_readValues 15 = .ok (.getfield 170, 3) := by decide +kernel
theorem dX12_readValues_18 : decode cX12_readValues 18 = .ok (.ifCond .ne 105, 3) := by decide +kernel
theorem dX12_readValues_21 : decode cX12_readValues 21 = .ok (.aload_n 0, 1) := by decide +kernel
theorem dX12_readValues_22 : decode cX12_readValues 22 = .ok (.getfield 52, 3) := by decide +kernel
theorem dX12_readValues_25 : decode cX12_readValues 25 = .ok (.iload 4, 2) := by decide +kernel
theorem dX12_readValues_27 : decode cX12_readValues 27 = .ok (.iaload, 1) := by decide +kernel
theorem dX12_readValues_28 : decode cX12_readValues 28 = .ok (.iload_n 1, 1) := by decide +kernel
theorem dX12_readValues_29 : decode cX12_readValues 29 = .ok (.if_icmp .eq 6, 3) := by decide +kernel
theorem dX12_readValues_32 : decode cX12_readValues 32 = .ok (.goto 85, 3) := by decide +kernel
theorem dX12_readValues_35 : decode cX12_readValues 35 = .ok (.aload_n 0, 1) := by decide +kernel
theorem dX12_readValues_36 : decode cX12_readValues 36 = .ok (.getfield 49, 3) := by decide +kernel
theorem dX12_readValues_39 : decode cX12_readValues 39 = .ok (.iload 4, 2) := by decide +kernel
theorem dX12_readValues_41 : decode cX12_readValues 41 = .ok (.iaload, 1) := by decide +kernel
theorem dX12_readValues_42 : decode cX12_readValues 42 = .ok (.iconst 2, 1) := by decide +kernel
theorem dX12_readValues_43 : decode cX12_readValues 43 = .ok (.if_icmp .ne 14, 3) := by decide +kernel
theorem dX12_readValues_46 : decode cX12_readValues 46 = .ok (.aload_n 0, 1) := by decide +kernel
theorem dX12_readValues_47 : decode cX12_readValues 47 = .ok (.iload 4, 2) := by decide +kernel
theorem dX12_readValues_49 : decode cX12_readValues 49 = .ok (.iload_n 2, 1) := by decide +kernel
theorem dX12_readValues_50 : decode cX12_readValues 50 = .ok (.iload_n 3, 1) := by decide +kernel
theorem dX12_readValues_51 : decode cX12_readValues 51 = .ok (.invokevirtual 285, 3) := by decide +kernel
theorem dX12_readValues_54 : decode cX12_readValues 54 = .ok (.goto 63, 3) := by decide +kernel
theorem dX12_readValues_57 : decode cX12_readValues 57 = .ok (.aload_n 0, 1) := by decide +kernel
theorem dX12_readValues_58 : decode cX12_readValues 58 = .ok (.getfield 49, 3) := by decide +kernel
theorem dX12_readValues_61 : decode cX12_readValues 61 = .ok (.iload 4, 2) := by decide +kernel
theorem dX12_readValues_63 : decode cX12_readValues 63 = .ok (.iaload, 1) := by decide +kernel
theorem dX12_readValues_64 : decode cX12_readValues 64 = .ok (.iconst 1, 1) := by decide +kernel
theorem dX12_readValues_65 : decode cX12_readValues 65 = .ok (.if_icmp .ne 27, 3) := by decide +kernel
theorem dX12_readValues_68 : decode cX12_readValues 68 = .ok (.aload_n 0, 1) := by decide +kernel
theorem dX12_readValues_69 : decode cX12_readValues 69 = .ok (.bipush 45, 2) := by decide +kernel
theorem dX12_readValues_71 : decode cX12_readValues 71 = .ok (.invokevirtual 188, 3) := by decide +kernel
theorem dX12_readValues_74 : decode cX12_readValues 74 = .ok (.ifCond .eq 18, 3) := by decide +kernel
theorem dX12_readValues_77 : decode cX12_readValues 77 = .ok (.aload_n 0, 1) := by decide +kernel
theorem dX12_readValues_78 : decode cX12_readValues 78 = .ok (.invokevirtual 195, 3) := by decide +kernel
theorem dX12_readValues_81 : decode cX12_readValues 81 = .ok (.aload_n 0, 1) := by decide +kernel
theorem dX12_readValues_82 : decode cX12_readValues 82 = .ok (.iload 4, 2) := by decide +kernel
theorem dX12_readValues_84 : decode cX12_readValues 84 = .ok (.iload_n 2, 1) := by decide +kernel
theorem dX12_readValues_85 : decode cX12_readValues 85 = .ok (.iload_n 3, 1) := by decide +kernel
theorem dX12_readValues_86 : decode cX12_readValues 86 = .ok (.invokevirtual 279, 3) := by decide +kernel
theorem dX12_readValues_89 : decode cX12_readValues 89 = .ok (.goto 28, 3) := by decide +kernel
theorem dX12_readValues_92 : decode cX12_readValues 92 = .ok (.aload_n 0, 1) := by decide +kernel
theorem dX12_readValues_93 : decode cX12_readValues 93 = .ok (.iload 4, 2) := by decide +kernel
theorem dX12_readValues_95 : decode cX12_readValues 95 = .ok (.iload_n 2, 1) := by decide +kernel
theorem dX12_readValues_96 : decode cX12_readValues 96 = .ok (.iload_n 3, 1) := by decide +kernel
theorem dX12_readValues_97 : decode cX12_readValues 97 = .ok (.aload_n 0, 1) := by decide +kernel
theorem dX12_readValues_98 : decode cX12_readValues 98 = .ok (.getfield 49, 3) := by decide +kernel
theorem dX12_readValues_101 : decode cX12_readValues 101 = .ok (.iload 4, 2) := by decide +kernel
theorem dX12_readValues_103 : decode cX12_readValues 103 = .ok (.iaload, 1) := by decide +kernel
theorem dX12_readValues_104 : decode cX12_readValues 104 = .ok (.iconst 1, 1) := by decide +kernel
theorem dX12_readValues_105 : decode cX12_readValues 105 = .ok (.if_icmp .ne 7, 3) := by decide +kernel
theorem dX12_readValues_108 : decode cX12_readValues 108 = .ok (.iconst 1, 1) := by decide +kernel
theorem dX12_readValues_109 : decode cX12_readValues 109 = .ok (.goto 4, 3) := by decide +kernel
theorem dX12_readValues_112 : decode cX12_readValues 112 = .ok (.iconst 0, 1) := by decide +kernel
theorem dX12_readValues_113 : decode cX12_readValues 113 = .ok (.iadd, 1) := by decide +kernel
theorem dX12_readValues_114 : decode cX12_readValues 114 = .ok (.invokevirtual 282, 3) := by decide +kernel
theorem dX12_readValues_117 : decode cX12_readValues 117 = .ok (.iinc 4 1, 3) := by decide +kernel
theorem dX12_readValues_120 : decode cX12_readValues 120 = .ok (.goto (-117), 3) := by decide +kernel
theorem dX12_readValues_123 : decode cX12_readValues 123 = .ok (.return_, 1) := by decide +kernel
theorem dX12_oftenAround_0 : decode cX12_oftenAround 0 = .ok (.aload_n 0, 1) := by decide +kernel
theorem dX12_oftenAround_1 : decode cX12_oftenAround 1 = .ok (.getfield 79, 3) := by decide +kernel
theorem dX12_oftenAround_4 : decode cX12_oftenAround 4 = .ok (.iload_n 1, 1) := by decide +kernel
theorem dX12_oftenAround_5 : decode cX12_oftenAround 5 = .ok (.iaload, 1) := by decide +kernel
theorem dX12_oftenAround_6 : decode cX12_oftenAround 6 = .ok (.istore_n 3, 1) := by decide +kernel
theorem dX12_oftenAround_7 : decode cX12_oftenAround 7 = .ok (.aload_n 0, 1) := by decide +kernel
theorem dX12_oftenAround_8 : decode cX12_oftenAround 8 = .ok (.getfield 49, 3) := by decide +kernel
theorem dX12_oftenAround_11 : decode cX12_oftenAround 11 = .ok (.iload_n 3, 1) := by decide +kernel
theorem dX12_oftenAround_12 : decode cX12_oftenAround 12 = .ok (.iaload, 1) := by decide +kernel
theorem dX12_oftenAround_13 : decode cX12_oftenAround 13 = .ok (.iconst 2, 1) := by decide +kernel
theorem dX12_oftenAround_14 : decode cX12_oftenAround 14 = .ok (.if_icmp .ne 13, 3) := by decide +kernel
theorem dX12_oftenAround_17 : decode cX12_oftenAround 17 = .ok (.aload_n 0, 1) := by decide +kernel
theorem dX12_oftenAround_18 : decode cX12_oftenAround 18 = .ok (.getfield 61, 3) := by decide +kernel
theorem dX12_oftenAround_21 : decode cX12_oftenAround 21 = .ok (.iload_n 3, 1) := by decide +kernel
theorem dX12_oftenAround_22 : decode cX12_oftenAround 22 = .ok (.iaload, 1) := by decide +kernel
theorem dX12_oftenAround_23 : decode cX12_oftenAround 23 = .ok (.iload_n 2, 1) := by decide +kernel
theorem dX12_oftenAround_24 : decode cX12_oftenAround 24 = .ok (.if_icmp .eq 13, 3) := by decide +kernel
theorem dX12_oftenAround_27 : decode cX12_oftenAround 27 = .ok (.aload_n 0, 1) := by decide +kernel
theorem dX12_oftenAround_28 : decode cX12_oftenAround 28 = .ok (.getfield 52, 3) := by decide +kernel
theorem dX12_oftenAround_31 : decode cX12_oftenAround 31 = .ok (.iload_n 3, 1) := by decide +kernel
theorem dX12_oftenAround_32 : decode cX12_oftenAround 32 = .ok (.iaload, 1) := by decide +kernel
theorem dX12_oftenAround_33 : decode cX12_oftenAround 33 = .ok (.istore_n 3, 1) := by decide +kernel
theorem dX12_oftenAround_34 : decode cX12_oftenAround 34 = .ok (.goto (-27), 3) := by decide +kernel
theorem dX12_oftenAround_37 : decode cX12_oftenAround 37 = .ok (.iload_n 3, 1) := by decide +kernel
theorem dX12_oftenAround_38 : decode cX12_oftenAround 38 = .ok (.ireturn, 1) := by decide +kernel
