theorem dX11_undo_0 : decode cX11_undo 0 = .ok (.aload_n 0, 1) := by decide +kernel
theorem dX11_undo_1 : decode cX11_undo 1 = .ok (.getfield 54, 3) := by decide +kernel
theorem dX11_undo_4 : decode cX11_undo 4 = .ok (.getfield 172, 3) := by decide +kernel
theorem dX11_undo_7 : decode cX11_undo 7 = .ok (.ifCond .ne 5, 3) := by decide +kernel
theorem dX11_undo_10 : decode cX11_undo 10 = .ok (.iconst (-1), 1) := by decide +kernel
theorem dX11_undo_11 : decode cX11_undo 11 = .ok (.ireturn, 1) := by decide +kernel
theorem dX11_undo_12 : decode cX11_undo 12 = .ok (.aload_n 0, 1) := by decide +kernel
theorem dX11_undo_13 : decode cX11_undo 13 = .ok (.getfield 54, 3) := by decide +kernel
theorem dX11_undo_16 : decode cX11_undo 16 = .ok (.aload_n 0, 1) := by decide +kernel
theorem dX11_undo_17 : decode cX11_undo 17 = .ok (.getfield 64, 3) := by decide +kernel
theorem dX11_undo_20 : decode cX11_undo 20 = .ok (.getfield 141, 3) := by decide +kernel
theorem dX11_undo_23 : decode cX11_undo 23 = .ok (.invokevirtual 323, 3) := by decide +kernel
theorem dX11_undo_26 : decode cX11_undo 26 = .ok (.aload_n 0, 1) := by decide +kernel
theorem dX11_undo_27 : decode cX11_undo 27 = .ok (.getfield 54, 3) := by decide +kernel
theorem dX11_undo_30 : decode cX11_undo 30 = .ok (.getfield 172, 3) := by decide +kernel
theorem dX11_undo_33 : decode cX11_undo 33 = .ok (.ireturn, 1) := by decide +kernel
theorem dX11_years_0 : decode cX11_years 0 = .ok (.iload_n 3, 1) := by decide +kernel
theorem dX11_years_1 : decode cX11_years 1 = .ok (.ifCond .lt 8, 3) := by decide +kernel
theorem dX11_years_4 : decode cX11_years 4 = .ok (.iload_n 3, 1) := by decide +kernel
theorem dX11_years_5 : decode cX11_years 5 = .ok (.iconst 2, 1) := by decide +kernel
theorem dX11_years_6 : decode cX11_years 6 = .ok (.if_icmp .le 13, 3) := by decide +kernel
theorem dX11_years_9 : decode cX11_years 9 = .ok (.new 202, 3) := by decide +kernel
theorem dX11_years_12 : decode cX11_years 12 = .ok (.dup, 1) := by decide +kernel
theorem dX11_years_13 : decode cX11_years 13 = .ok (.ldc 204, 2) := by decide +kernel
theorem dX11_years_15 : decode cX11_years 15 = .ok (.invokespecial 206, 3) := by decide +kernel
theorem dX11_years_18 : decode cX11_years 18 = .ok (.athrow, 1) := by decide +kernel
theorem dX11_years_19 : decode cX11_years 19 = .ok (.iload_n 2, 1) := by decide +kernel
theorem dX11_years_20 : decode cX11_years 20 = .ok (.ifCond .lt 9, 3) := by decide +kernel
theorem dX11_years_23 : decode cX11_years 23 = .ok (.iload_n 2, 1) := by decide +kernel
theorem dX11_years_24 : decode cX11_years 24 = .ok (.bipush 10, 2) := by decide +kernel
theorem dX11_years_26 : decode cX11_years 26 = .ok (.if_icmp .le 14, 3) := by decide +kernel
theorem dX11_years_29 : decode cX11_years 29 = .ok (.new 260, 3) := by decide +kernel
theorem dX11_years_32 : decode cX11_years 32 = .ok (.dup, 1) := by decide +kernel
theorem dX11_years_33 : decode cX11_years 33 = .ok (.ldc_w 326, 3) := by decide +kernel
theorem dX11_years_36 : decode cX11_years 36 = .ok (.invokespecial 264, 3) := by decide +kernel
theorem dX11_years_39 : decode cX11_years 39 = .ok (.athrow, 1) := by decide +kernel
theorem dX11_years_40 : decode cX11_years 40 = .ok (.aload_n 0, 1) := by decide +kernel
theorem dX11_years_41 : decode cX11_years 41 = .ok (.getfield 64, 3) := by decide +kernel
theorem dX11_years_44 : decode cX11_years 44 = .ok (.getfield 120, 3) := by decide +kernel
theorem dX11_years_47 : decode cX11_years 47 = .ok (.ifCond .eq 10, 3) := by decide +kernel
theorem dX11_years_50 : decode cX11_years 50 = .ok (.aload_n 0, 1) := by decide +kernel
theorem dX11_years_51 : decode cX11_years 51 = .ok (.invokevirtual 123, 3) := by decide +kernel
theorem dX11_years_54 : decode cX11_years 54 = .ok (.ifCond .eq 5, 3) := by decide +kernel
theorem dX11_years_57 : decode cX11_years 57 = .ok (.iconst 0, 1) := by decide +kernel
theorem dX11_years_58 : decode cX11_years 58 = .ok (.ireturn, 1) := by decide +kernel
theorem dX11_years_59 : decode cX11_years 59 = .ok (.aload_n 0, 1) := by decide +kernel
theorem dX11_years_60 : decode cX11_years 60 = .ok (.getfield 47, 3) := by decide +kernel
theorem dX11_years_63 : decode cX11_years 63 = .ok (.aload_n 0, 1) := by decide +kernel
theorem dX11_years_64 : decode cX11_years 64 = .ok (.getfield 64, 3) := by decide +kernel
theorem dX11_years_67 : decode cX11_years 67 = .ok (.aload_n 0, 1) := by decide +kernel
theorem dX11_years_68 : decode cX11_years 68 = .ok (.getfield 54, 3) := by decide +kernel
theorem dX11_years_71 : decode cX11_years 71 = .ok (.iload_n 1, 1) := by decide +kernel
theorem dX11_years_72 : decode cX11_years 72 = .ok (.iload_n 2, 1) := by decide +kernel
theorem dX11_years_73 : decode cX11_years 73 = .ok (.invokevirtual 328, 3) := by decide +kernel
theorem dX11_years_76 : decode cX11_years 76 = .ok (.iload_n 3, 1) := by decide +kernel
theorem dX11_years_77 : decode cX11_years 77 = .ok (.ifCond .ne 11, 3) := by decide +kernel
theorem dX11_years_80 : decode cX11_years 80 = .ok (.aload_n 0, 1) := by decide +kernel
theorem dX11_years_81 : decode cX11_years 81 = .ok (.getfield 47, 3) := by decide +kernel
theorem dX11_years_84 : decode cX11_years 84 = .ok (.getfield 331, 3) := by decide +kernel
theorem dX11_years_87 : decode cX11_years 87 = .ok (.ireturn, 1) := by decide +kernel
theorem dX11_years_88 : decode cX11_years 88 = .ok (.iload_n 3, 1) := by decide +kernel
theorem dX11_years_89 : decode cX11_years 89 = .ok (.iconst 1, 1) := by decide +kernel
theorem dX11_years_90 : decode cX11_years 90 = .ok (.if_icmp .ne 13, 3) := by decide +kernel
theorem dX11_years_93 : decode cX11_years 93 = .ok (.aload_n 0, 1) := by decide +kernel
theorem dX11_years_94 : decode cX11_years 94 = .ok (.getfield 47, 3) := by decide +kernel
theorem dX11_years_97 : decode cX11_years 97 = .ok (.getfield 332, 3) := by decide +kernel
theorem dX11_years_100 : decode cX11_years 100 = .ok (.goto 10, 3) := by decide +kernel
theorem dX11_years_103 : decode cX11_years 103 = .ok (.aload_n 0, 1) := by decide +kernel
theorem dX11_years_104 : decode cX11_years 104 = .ok (.getfield 47, 3) := by decide +kernel
theorem dX11_years_107 : decode cX11_years 107 = .ok (.invokevirtual 335, 3) := by decide +kernel
theorem dX11_years_110 : decode cX11_years 110 = .ok (.ireturn, 1) := by decide +kernel
theorem dX11_image_0 : decode cX11_image 0 = .ok (.aload_n 0, 1) := by decide +kernel
theorem dX11_image_1 : decode cX11_image 1 = .ok (.getfield 58, 3) := by decide +kernel
theorem dX11_image_4 : decode cX11_image 4 = .ok (.aload_n 0, 1) := by decide +kernel
theorem dX11_image_5 : decode cX11_image 5 = .ok (.getfield 54, 3) := by decide +kernel
theorem dX11_image_8 : decode cX11_image 8 = .ok (.invokevirtual 338, 3) := by decide +kernel
theorem dX11_image_11 : decode cX11_image 11 = .ok (.aload_n 0, 1) := by decide +kernel
theorem dX11_image_12 : decode cX11_image 12 = .ok (.iconst 1, 1) := by decide +kernel
theorem dX11_image_13 : decode cX11_image 13 = .ok (.putfield 84, 3) := by decide +kernel
theorem dX11_image_16 : decode cX11_image 16 = .ok (.return_, 1) := by decide +kernel
theorem dX11_restore_0 : decode cX11_restore 0 = .ok (.aload_n 0, 1) := by decide +kernel
theorem dX11_restore_1 : decode cX11_restore 1 = .ok (.getfield 84, 3) := by decide +kernel
theorem dX11_restore_4 : decode cX11_restore 4 = .ok (.ifCond .ne 5, 3) := by decide +kernel
theorem dX11_restore_7 : decode cX11_restore 7 = .ok (.iconst 0, 1) := by decide +kernel
theorem dX11_restore_8 : decode cX11_restore 8 = .ok (.ireturn, 1) := by decide +kernel
theorem dX11_restore_9 : decode cX11_restore 9 = .ok (.aload_n 0, 1) := by decide +kernel
theorem dX11_restore_10 : decode cX11_restore 10 = .ok (.getfield 54, 3) := by decide +kernel
theorem dX11_restore_13 : decode cX11_restore 13 = .ok (.aload_n 0, 1) := by decide +kernel
theorem dX11_restore_14 : decode cX11_restore 14 = .ok (.getfield 58, 3) := by decide +kernel
theorem dX11_restore_17 : decode cX11_restore 17 = .ok (.invokevirtual 338, 3) := by decide +kernel
theorem dX11_restore_20 : decode cX11_restore 20 = .ok (.iconst 1, 1) := by decide +kernel
theorem dX11_restore_21 : decode cX11_restore 21 = .ok (.ireturn, 1) := by decide +kernel
theorem dX12_init_0 : decode cX12_init 0 = .ok (.aload_n 0, 1) := by decide +kernel
theorem dX12_init_1 : decode cX12_init 1 = .ok (.invokespecial 3, 3) := by decide +kernel
theorem dX12_init_4 : decode cX12_init 4 = .ok (.aload_n 0, 1) := by decide +kernel
theorem dX12_init_5 : decode cX12_init 5 = .ok (.iconst 3, 1) := by decide +kernel
theorem dX12_init_6 : decode cX12_init 6 = .ok (.anewarray 9, 3) := by decide +kernel
theorem dX12_init_9 : decode cX12_init 9 = .ok (.dup, 1) := by decide +kernel
theorem dX12_init_10 : decode cX12_init 10 = .ok (.iconst 0, 1) := by decide +kernel
theorem dX12_init_11 : decode cX12_init 11 = .ok (.ldc 11, 2) := by decide +kernel
theorem dX12_init_13 : decode cX12_init 13 = .ok (.aastore, 1) := by decide +kernel
theorem dX12_init_14 : decode cX12_init 14 = .ok (.dup, 1) := by decide +kernel
theorem dX12_init_15 : decode cX12_init 15 = .ok (.iconst 1, 1) := by decide +kernel
theorem dX12_init_16 : decode cX12_init 16 = .ok (.ldc 13, 2) := by decide +kernel
theorem dX12_init_18 : decode cX12_init 18 = .ok (.aastore, 1) := by decide +kernel
theorem dX12_init_19 : decode cX12_init 19 = .ok (.dup, 1) := by decide +kernel
theorem dX12_init_20 : decode cX12_init 20 = .ok (.iconst 2, 1) := by decide +kernel
theorem dX12_init_21 : decode cX12_init 21 = .ok (.ldc 15, 2) := by decide +kernel
theorem dX12_init_23 : decode cX12_init 23 = .ok (.aastore, 1) := by decide +kernel
theorem dX12_init_24 : decode cX12_init 24 = .ok (.putfield 17, 3) := by decide +kernel
theorem dX12_init_27 : decode cX12_init 27 = .ok (.aload_n 0, 1) := by decide +kernel
theorem dX12_init_28 : decode cX12_init 28 = .ok (.bipush 7, 2) := by decide +kernel
theorem dX12_init_30 : decode cX12_init 30 = .ok (.anewarray 9, 3) := by decide +kernel
theorem dX12_init_33 : decode cX12_init 33 = .ok (.dup, 1) := by decide +kernel
theorem dX12_init_34 : decode cX12_init 34 = .ok (.iconst 0, 1) := by decide +kernel
theorem dX12_init_35 : decode cX12_init 35 = .ok (.ldc 21, 2) := by decide +kernel
theorem dX12_init_37 : decode cX12_init 37 = .ok (.aastore, 1) := by decide +kernel
theorem dX12_init_38 : decode cX12_init 38 = .ok (.dup, 1) := by decide +kernel
theorem dX12_init_39 : decode cX12_init 39 = .ok (.iconst 1, 1) := by decide +kernel
theorem dX12_init_40 : decode cX12_init 40 = .ok (.ldc 23, 2) := by decide +kernel
theorem dX12_init_42 : decode cX12_init 42 = .ok (.aastore, 1) := by decide +kernel
theorem dX12_init_43 : decode cX12_init 43 = .ok (.dup, 1) := by decide +kernel
theorem dX12_init_44 : decode cX12_init 44 = .ok (.iconst 2, 1) := by decide +kernel
theorem dX12_init_45 : decode cX12_init 45 = .ok (.ldc 25, 2) := by decide +kernel
theorem dX12_init_47 : decode cX12_init 47 = .ok (.aastore, 1) := by decide +kernel
theorem dX12_init_48 : decode cX12_init 48 = .ok (.dup, 1) := by decide +kernel
theorem dX12_init_49 : decode cX12_init 49 = .ok (.iconst 3, 1) := by decide +kernel
theorem dX12_init_50 : decode cX12_init 50 = .ok (.ldc 27, 2) := by decide +kernel
theorem dX12_init_52 : decode cX12_init 52 = .ok (.aastore, 1) := by decide +kernel
theorem dX12_init_53 : decode cX12_init 53 = .ok (.dup, 1) := by decide +kernel
theorem dX12_init_54 : decode cX12_init 54 = .ok (.iconst 4, 1) := by decide +kernel
theorem dX12_init_55 : decode cX12_init 55 = .ok (.ldc 29, 2) := by decide +kernel
theorem dX12_init_57 : decode cX12_init 57 = .ok (.aastore, 1) := by decide +kernel
theorem dX12_init_58 : decode cX12_init 58 = .ok (.dup, 1) := by decide +kernel
theorem dX12_init_59 : decode cX12_init 59 = .ok (.iconst 5, 1) := by decide +kernel
theorem dX12_init_60 : decode cX12_init 60 = .ok (.ldc 31, 2) := by decide +kernel
theorem dX12_init_62 : decode cX12_init 62 = .ok (.aastore, 1) := by decide +kernel
theorem dX12_init_63 : decode cX12_init 63 = .ok (.dup, 1) := by decide +kernel
theorem dX12_init_64 : decode cX12_init 64 = .ok (.bipush 6, 2) := by decide +kernel
theorem dX12_init_66 : decode cX12_init 66 = .ok (.ldc 33, 2) := by decide +kernel
theorem dX12_init_68 : decode cX12_init 68 = .ok (.aastore, 1) := by decide +kernel
theorem dX12_init_69 : decode cX12_init 69 = .ok (.putfield 35, 3) := by decide +kernel
theorem dX12_init_72 : decode cX12_init 72 = .ok (.aload_n 0, 1) := by decide +kernel
theorem dX12_init_73 : decode cX12_init 73 = .ok (.sipush 700, 3) := by decide +kernel
theorem dX12_init_76 : decode cX12_init 76 = .ok (.newarray .int, 2) := by decide +kernel
theorem dX12_init_78 : decode cX12_init 78 = .ok (.putfield 38, 3) := by decide +kernel
theorem dX12_init_81 : decode cX12_init 81 = .ok (.aload_n 0, 1) := by decide +kernel
theorem dX12_init_82 : decode cX12_init 82 = .ok (.iconst 2, 1) := by decide +kernel
theorem dX12_init_83 : decode cX12_init 83 = .ok (.newarray .int, 2) := by decide +kernel
theorem dX12_init_85 : decode cX12_init 85 = .ok (.putfield 42, 3) := by decide +kernel
theorem dX12_init_88 : decode cX12_init 88 = .ok (.aload_n 0, 1) := by decide +kernel
theorem dX12_init_89 : decode cX12_init 89 = .ok (.iconst (-1), 1) := by decide +kernel
theorem dX12_init_90 : decode cX12_init 90 = .ok (.putfield 45, 3) := by decide +kernel
theorem dX12_init_93 : decode cX12_init 93 = .ok (.aload_n 0, 1) := by decide +kernel
theorem dX12_init_94 : decode cX12_init 94 = .ok (.bipush 48, 2) := by decide +kernel
theorem dX12_init_96 : decode cX12_init 96 = .ok (.newarray .int, 2) := by decide +kernel
theorem dX12_init_98 : decode cX12_init 98 = .ok (.putfield 49, 3) := by decide +kernel
theorem dX12_init_101 : decode cX12_init 101 = .ok (.aload_n 0, 1) := by decide +kernel
theorem dX12_init_102 : decode cX12_init 102 = .ok (.bipush 48, 2) := by decide +kernel
theorem dX12_init_104 : decode cX12_init 104 = .ok (.newarray .int, 2) := by decide +kernel
theorem dX12_init_106 : decode cX12_init 106 = .ok (.putfield 52, 3) := by decide +kernel
theorem dX12_init_109 : decode cX12_init 109 = .ok (.aload_n 0, 1) := by decide +kernel
theorem dX12_init_110 : decode cX12_init 110 = .ok (.bipush 48, 2) := by decide +kernel
theorem dX12_init_112 : decode cX12_init 112 = .ok (.newarray .int, 2) := by decide +kernel
theorem dX12_init_114 : decode cX12_init 114 = .ok (.putfield 55, 3) := by decide +kernel
theorem dX12_init_117 : decode cX12_init 117 = .ok (.aload_n 0, 1) := by decide +kernel
theorem dX12_init_118 : decode cX12_init 118 = .ok (.bipush 48, 2) := by decide +kernel
theorem dX12_init_120 : decode cX12_init 120 = .ok (.newarray .int, 2) := by decide +kernel
theorem dX12_init_122 : decode cX12_init 122 = .ok (.putfield 58, 3) := by decide +kernel
theorem dX12_init_125 : decode cX12_init 125 = .ok (.aload_n 0, 1) := by decide +kernel
theorem dX12_init_126 : decode cX12_init 126 = .ok (.bipush 48, 2) := by decide +kernel
theorem dX12_init_128 : decode cX12_init 128 = .ok (.newarray .int, 2) := by decide +kernel
theorem dX12_init_130 : decode cX12_init 130 = .ok (.putfield 61, 3) := by decide +kernel
theorem dX12_init_133 : decode cX12_init 133 = .ok (.aload_n 0, 1) := by decide +kernel
theorem dX12_init_134 : decode cX12_init 134 = .ok (.bipush 48, 2) := by decide +kernel
theorem dX12_init_136 : decode cX12_init 136 = .ok (.newarray .int, 2) := by decide +kernel
theorem dX12_init_138 : decode cX12_init 138 = .ok (.putfield 64, 3) := by decide +kernel
theorem dX12_init_141 : decode cX12_init 141 = .ok (.aload_n 0, 1) := by decide +kernel
theorem dX12_init_142 : decode cX12_init 142 = .ok (.bipush 48, 2) := by decide +kernel
theorem dX12_init_144 : decode cX12_init 144 = .ok (.newarray .int, 2) := by decide +kernel
theorem dX12_init_146 : decode cX12_init 146 = .ok (.putfield 67, 3) := by decide +kernel
theorem dX12_init_149 : decode cX12_init 149 = .ok (.aload_n 0, 1) := by decide +kernel
theorem dX12_init_150 : decode cX12_init 150 = .ok (.sipush 192, 3) := by decide +kernel
theorem dX12_init_153 : decode cX12_init 153 = .ok (.newarray .int, 2) := by decide +kernel
theorem dX12_init_155 : decode cX12_init 155 = .ok (.putfield 70, 3) := by decide +kernel
theorem dX12_init_158 : decode cX12_init 158 = .ok (.aload_n 0, 1) := by decide +kernel
theorem dX12_init_159 : decode cX12_init 159 = .ok (.iconst 3, 1) := by decide +kernel
theorem dX12_init_160 : decode cX12_init 160 = .ok (.newarray .int, 2) := by decide +kernel
theorem dX12_init_162 : decode cX12_init 162 = .ok (.putfield 73, 3) := by decide +kernel
theorem dX12_init_165 : decode cX12_init 165 = .ok (.aload_n 0, 1) := by decide +kernel
theorem dX12_init_166 : decode cX12_init 166 = .ok (.iconst 3, 1) := by decide +kernel
theorem dX12_init_167 : decode cX12_init 167 = .ok (.newarray .int, 2) := by decide +kernel
theorem dX12_init_169 : decode cX12_init 169 = .ok (.putfield 76, 3) := by decide +kernel
theorem dX12_init_172 : decode cX12_init 172 = .ok (.aload_n 0, 1) := by decide +kernel
theorem dX12_init_173 : decode cX12_init 173 = .ok (.bipush 8, 2) := by decide +kernel
theorem dX12_init_175 : decode cX12_init 175 = .ok (.newarray .int, 2) := by decide +kernel
theorem dX12_init_177 : decode cX12_init 177 = .ok (.putfield 79, 3) := by decide +kernel
theorem dX12_init_180 : decode cX12_init 180 = .ok (.aload_n 0, 1) := by decide +kernel
theorem dX12_init_181 : decode cX12_init 181 = .ok (.sipush 960, 3) := by decide +kernel
theorem dX12_init_184 : decode cX12_init 184 = .ok (.newarray .int, 2) := by decide +kernel
theorem dX12_init_186 : decode cX12_init 186 = .ok (.putfield 82, 3) := by decide +kernel
theorem dX12_init_189 : decode cX12_init 189 = .ok (.aload_n 0, 1) := by decide +kernel
theorem dX12_init_190 : decode cX12_init 190 = .ok (.bipush 8, 2) := by decide +kernel
theorem dX12_init_192 : decode cX12_init 192 = .ok (.newarray .int, 2) := by decide +kernel
theorem dX12_init_194 : decode cX12_init 194 = .ok (.putfield 85, 3) := by decide +kernel
theorem dX12_init_197 : decode cX12_init 197 = .ok (.aload_n 0, 1) := by decide +kernel
theorem dX12_init_198 : decode cX12_init 198 = .ok (.ldc 88, 2) := by decide +kernel
theorem dX12_init_200 : decode cX12_init 200 = .ok (.newarray .int, 2) := by decide +kernel
theorem dX12_init_202 : decode cX12_init 202 = .ok (.putfield 89, 3) := by decide +kernel
theorem dX12_init_205 : decode cX12_init 205 = .ok (.aload_n 0, 1) := by decide +kernel
theorem dX12_init_206 : decode cX12_init 206 = .ok (.sipush 969, 3) := by decide +kernel
theorem dX12_init_209 : decode cX12_init 209 = .ok (.newarray .int, 2) := by decide +kernel
theorem dX12_init_211 : decode cX12_init 211 = .ok (.putfield 92, 3) := by decide +kernel
theorem dX12_init_214 : decode cX12_init 214 = .ok (.aload_n 0, 1) := by decide +kernel
theorem dX12_init_215 : decode cX12_init 215 = .ok (.sipush 969, 3) := by decide +kernel
theorem dX12_init_218 : decode cX12_init 218 = .ok (.newarray .int, 2) := by decide +kernel
theorem dX12_init_220 : decode cX12_init 220 = .ok (.putfield 95, 3) := by decide +kernel
theorem dX12_init_223 : decode cX12_init 223 = .ok (.aload_n 0, 1) := by decide +kernel
theorem dX12_init_224 : decode cX12_init 224 = .ok (.bipush 8, 2) := by decide +kernel
theorem dX12_init_226 : decode cX12_init 226 = .ok (.newarray .int, 2) := by decide +kernel
theorem dX12_init_228 : decode cX12_init 228 = .ok (.putfield 98, 3) := by decide +kernel
theorem dX12_init_231 : decode cX12_init 231 = .ok (.aload_n 0, 1) := by decide +kernel
theorem dX12_init_232 : decode cX12_init 232 = .ok (.bipush 48, 2) := by decide +kernel
theorem dX12_init_234 : decode cX12_init 234 = .ok (.newarray .int, 2) := by decide +kernel
theorem dX12_init_236 : decode cX12_init 236 = .ok (.putfield 101, 3) := by decide +kernel
theorem dX12_init_239 : decode cX12_init 239 = .ok (.aload_n 0, 1) := by decide +kernel
theorem dX12_init_240 : decode cX12_init 240 = .ok (.bipush 48, 2) := by decide +kernel
theorem dX12_init_242 : decode cX12_init 242 = .ok (.newarray .int, 2) := by decide +kernel
theorem dX12_init_244 : decode cX12_init 244 = .ok (.putfield 104, 3) := by decide +kernel
theorem dX12_init_247 : decode cX12_init 247 = .ok (.aload_n 0, 1) := by decide +kernel
theorem dX12_init_248 : decode cX12_init 248 = .ok (.bipush 16, 2) := by decide +kernel
theorem dX12_init_250 : decode cX12_init 250 = .ok (.newarray .int, 2) := by decide +kernel
theorem dX12_init_252 : decode cX12_init 252 = .ok (.putfield 107, 3) := by decide +kernel
theorem dX12_init_255 : decode cX12_init 255 = .ok (.aload_n 0, 1) := by decide +kernel
theorem dX12_init_256 : decode cX12_init 256 = .ok (.bipush 16, 2) := by decide +kernel
theorem dX12_init_258 : decode cX12_init 258 = .ok (.newarray .int, 2) := by decide +kernel
theorem dX12_init_260 : decode cX12_init 260 = .ok (.putfield 110, 3) := by decide +kernel
theorem dX12_init_263 : decode cX12_init 263 = .ok (.aload_n 0, 1) := by decide +kernel
theorem dX12_init_264 : decode cX12_init 264 = .ok (.bipush 8, 2) := by decide +kernel
theorem dX12_init_266 : decode cX12_init 266 = .ok (.newarray .int, 2) := by decide +kernel
theorem dX12_init_268 : decode cX12_init 268 = .ok (.putfield 113, 3) := by decide +kernel
theorem dX12_init_271 : decode cX12_init 271 = .ok (.aload_n 0, 1) := by decide +kernel
theorem dX12_init_272 : decode cX12_init 272 = .ok (.sipush 969, 3) := by decide +kernel
theorem dX12_init_275 : decode cX12_init 275 = .ok (.newarray .int, 2) := by decide +kernel
theorem dX12_init_277 : decode cX12_init 277 = .ok (.putfield 116, 3) := by decide +kernel
theorem dX12_init_280 : decode cX12_init 280 = .ok (.aload_n 0, 1) := by decide +kernel
theorem dX12_init_281 : decode cX12_init 281 = .ok (.ldc 88, 2) := by decide +kernel
theorem dX12_init_283 : decode cX12_init 283 = .ok (.newarray .int, 2) := by decide +kernel
theorem dX12_init_285 : decode cX12_init 285 = .ok (.putfield 119, 3) := by decide +kernel
theorem dX12_init_288 : decode cX12_init 288 = .ok (.aload_n 0, 1) := by decide +kernel
theorem dX12_init_289 : decode cX12_init 289 = .ok (.iconst 2, 1) := by decide +kernel
theorem dX12_init_290 : decode cX12_init 290 = .ok (.newarray .int, 2) := by decide +kernel
theorem dX12_init_292 : decode cX12_init 292 = .ok (.putfield 122, 3) := by decide +kernel
theorem dX12_init_295 : decode cX12_init 295 = .ok (.return_, 1) := by decide +kernel
theorem dX12_thrown_0 : decode cX12_thrown 0 = .ok (.aload_n 0, 1) := by decide +kernel
theorem dX12_thrown_1 : decode cX12_thrown 1 = .ok (.getfield 125, 3) := by decide +kernel
theorem dX12_thrown_4 : decode cX12_thrown 4 = .ok (.ireturn, 1) := by decide +kernel
theorem dX12_fail_0 : decode cX12_fail 0 = .ok (.aload_n 0, 1) := by decide +kernel
theorem dX12_fail_1 : decode cX12_fail 1 = .ok (.iload_n 1, 1) := by decide +kernel
theorem dX12_fail_2 : decode cX12_fail 2 = .ok (.putfield 125, 3) := by decide +kernel
theorem dX12_fail_5 : decode cX12_fail 5 = .ok (.iconst 0, 1) := by decide +kernel
theorem dX12_fail_6 : decode cX12_fail 6 = .ok (.ireturn, 1) := by decide +kernel
theorem dX12_isIn_0 : decode cX12_isIn 0 = .ok (.lload_n 0, 1) := by decide +kernel
theorem dX12_isIn_1 : decode cX12_isIn 1 = .ok (.lload_n 2, 1) := by decide +kernel
theorem dX12_isIn_2 : decode cX12_isIn 2 = .ok (.lcmp, 1) := by decide +kernel
theorem dX12_isIn_3 : decode cX12_isIn 3 = .ok (.ifCond .lt 14, 3) := by decide +kernel
theorem dX12_isIn_6 : decode cX12_isIn 6 = .ok (.lload_n 0, 1) := by decide +kernel
theorem dX12_isIn_7 : decode cX12_isIn 7 = .ok (.lload 4, 2) := by decide +kernel
theorem dX12_isIn_9 : decode cX12_isIn 9 = .ok (.lcmp, 1) := by decide +kernel
theorem dX12_isIn_10 : decode cX12_isIn 10 = .ok (.ifCond .gt 7, 3) := by decide +kernel
theorem dX12_isIn_13 : decode cX12_isIn 13 = .ok (.iconst 1, 1) := by decide +kernel
theorem dX12_isIn_14 : decode cX12_isIn 14 = .ok (.goto 4, 3) := by decide +kernel
theorem dX12_isIn_17 : decode cX12_isIn 17 = .ok (.iconst 0, 1) := by decide +kernel
theorem dX12_isIn_18 : decode cX12_isIn 18 = .ok (.ireturn, 1) := by decide +kernel
theorem dX12_isOf_0 : decode cX12_isOf 0 = .ok (.iload_n 0, 1) := by decide +kernel
theorem dX12_isOf_1 : decode cX12_isOf 1 = .ok (.iload_n 1, 1) := by decide +kernel
theorem dX12_isOf_2 : decode cX12_isOf 2 = .ok (.ishr, 1) := by decide +kernel
theorem dX12_isOf_3 : decode cX12_isOf 3 = .ok (.iconst 1, 1) := by decide +kernel
theorem dX12_isOf_4 : decode cX12_isOf 4 = .ok (.iand, 1) := by decide +kernel
theorem dX12_isOf_5 : decode cX12_isOf 5 = .ok (.iconst 1, 1) := by decide +kernel
theorem dX12_isOf_6 : decode cX12_isOf 6 = .ok (.if_icmp .ne 7, 3) := by decide +kernel
theorem dX12_isOf_9 : decode cX12_isOf 9 = .ok (.iconst 1, 1) := by decide +kernel
theorem dX12_isOf_10 : decode cX12_isOf 10 = .ok (.goto 4, 3) := by decide +kernel
theorem dX12_isOf_13 : decode cX12_isOf 13 = .ok (.iconst 0, 1) := by decide +kernel
theorem dX12_isOf_14 : decode cX12_isOf 14 = .ok (.ireturn, 1) := by decide +kernel
theorem dX12_bitsOf_0 : decode cX12_bitsOf 0 = .ok (.iconst 0, 1) := by decide +kernel
theorem dX12_bitsOf_1 : decode cX12_bitsOf 1 = .ok (.istore_n 1, 1) := by decide +kernel
theorem dX12_bitsOf_2 : decode cX12_bitsOf 2 = .ok (.iload_n 0, 1) := by decide +kernel
theorem dX12_bitsOf_3 : decode cX12_bitsOf 3 = .ok (.istore_n 2, 1) := by decide +kernel
theorem dX12_bitsOf_4 : decode cX12_bitsOf 4 = .ok (.iload_n 2, 1) := by decide +kernel
theorem dX12_bitsOf_5 : decode cX12_bitsOf 5 = .ok (.ifCond .eq 15, 3) := by decide +kernel
theorem dX12_bitsOf_8 : decode cX12_bitsOf 8 = .ok (.iinc 1 1, 3) := by decide +kernel
theorem dX12_bitsOf_11 : decode cX12_bitsOf 11 = .ok (.iload_n 2, 1) := by decide +kernel
theorem dX12_bitsOf_12 : decode cX12_bitsOf 12 = .ok (.iload_n 2, 1) := by decide +kernel
theorem dX12_bitsOf_13 : decode cX12_bitsOf 13 = .ok (.iconst 1, 1) := by decide +kernel
theorem dX12_bitsOf_14 : decode cX12_bitsOf 14 = .ok (.isub, 1) := by decide +kernel
theorem dX12_bitsOf_15 : decode cX12_bitsOf 15 = .ok (.iand, 1) := by decide +kernel
theorem dX12_bitsOf_16 : decode cX12_bitsOf 16 = .ok (.istore_n 2, 1) := by decide +kernel
theorem dX12_bitsOf_17 : decode cX12_bitsOf 17 = .ok (.goto (-13), 3) := by decide +kernel
theorem dX12_bitsOf_20 : decode cX12_bitsOf 20 = .ok (.iload_n 1, 1) := by decide +kernel
theorem dX12_bitsOf_21 : decode cX12_bitsOf 21 = .ok (.ireturn, 1) := by decide +kernel
theorem dX12_feed_0 : decode cX12_feed 0 = .ok (.aload_n 0, 1) := by decide +kernel
theorem dX12_feed_1 : decode cX12_feed 1 = .ok (.iconst 0, 1) := by decide +kernel
theorem dX12_feed_2 : decode cX12_feed 2 = .ok (.putfield 125, 3) := by decide +kernel
theorem dX12_feed_5 : decode cX12_feed 5 = .ok (.aload_n 0, 1) := by decide +kernel
theorem dX12_feed_6 : decode cX12_feed 6 = .ok (.getfield 128, 3) := by decide +kernel
theorem dX12_feed_9 : decode cX12_feed 9 = .ok (.bipush 20, 2) := by decide +kernel
theorem dX12_feed_11 : decode cX12_feed 11 = .ok (.iadd, 1) := by decide +kernel
theorem dX12_feed_12 : decode cX12_feed 12 = .ok (.sipush 700, 3) := by decide +kernel
theorem dX12_feed_15 : decode cX12_feed 15 = .ok (.if_icmp .le 5, 3) := by decide +kernel
theorem dX12_feed_18 : decode cX12_feed 18 = .ok (.iconst (-1), 1) := by decide +kernel
theorem dX12_feed_19 : decode cX12_feed 19 = .ok (.ireturn, 1) := by decide +kernel
theorem dX12_feed_20 : decode cX12_feed 20 = .ok (.iconst 0, 1) := by decide +kernel
theorem dX12_feed_21 : decode cX12_feed 21 = .ok (.istore 6, 2) := by decide +kernel
theorem dX12_feed_23 : decode cX12_feed 23 = .ok (.iload 6, 2) := by decide +kernel
theorem dX12_feed_25 : decode cX12_feed 25 = .ok (.bipush 20, 2) := by decide +kernel
theorem dX12_feed_27 : decode cX12_feed 27 = .ok (.if_icmp .ge 93, 3) := by decide +kernel
theorem dX12_feed_30 : decode cX12_feed 30 = .ok (.iload 6, 2) := by decide +kernel
theorem dX12_feed_32 : decode cX12_feed 32 = .ok (.iconst 4, 1) := by decide +kernel
theorem dX12_feed_33 : decode cX12_feed 33 = .ok (.if_icmp .ge 7, 3) := by decide +kernel
theorem dX12_feed_36 : decode cX12_feed 36 = .ok (.iload_n 1, 1) := by decide +kernel
theorem dX12_feed_37 : decode cX12_feed 37 = .ok (.goto 39, 3) := by decide +kernel
theorem dX12_feed_40 : decode cX12_feed 40 = .ok (.iload 6, 2) := by decide +kernel
theorem dX12_feed_42 : decode cX12_feed 42 = .ok (.bipush 8, 2) := by decide +kernel
theorem dX12_feed_44 : decode cX12_feed 44 = .ok (.if_icmp .ge 7, 3) := by decide +kernel
theorem dX12_feed_47 : decode cX12_feed 47 = .ok (.iload_n 2, 1) := by decide +kernel
theorem dX12_feed_48 : decode cX12_feed 48 = .ok (.goto 28, 3) := by decide +kernel
theorem dX12_feed_51 : decode cX12_feed 51 = .ok (.iload 6, 2) := by decide +kernel
theorem dX12_feed_53 : decode cX12_feed 53 = .ok (.bipush 12, 2) := by decide +kernel
theorem dX12_feed_55 : decode cX12_feed 55 = .ok (.if_icmp .ge 7, 3) := by decide +kernel
theorem dX12_feed_58 : decode cX12_feed 58 = .ok (.iload_n 3, 1) := by decide +kernel
theorem dX12_feed_59 : decode cX12_feed 59 = .ok (.goto 17, 3) := by decide +kernel
theorem dX12_feed_62 : decode cX12_feed 62 = .ok (.iload 6, 2) := by decide +kernel
theorem dX12_feed_64 : decode cX12_feed 64 = .ok (.bipush 16, 2) := by decide +kernel
theorem dX12_feed_66 : decode cX12_feed 66 = .ok (.if_icmp .ge 8, 3) := by decide +kernel
theorem dX12_feed_69 : decode cX12_feed 69 = .ok (.iload 4, 2) := by decide +kernel
theorem dX12_feed_71 : decode cX12_feed 71 = .ok (.goto 5, 3) := by decide +kernel
theorem dX12_feed_74 : decode cX12_feed 74 = .ok (.iload 5, 2) := by decide +kernel
theorem dX12_feed_76 : decode cX12_feed 76 = .ok (.istore 7, 2) := by decide +kernel
theorem dX12_feed_78 : decode cX12_feed 78 = .ok (.aload_n 0, 1) := by decide +kernel
theorem dX12_feed_79 : decode cX12_feed 79 = .ok (.getfield 38, 3) := by decide +kernel
theorem dX12_feed_82 : decode cX12_feed 82 = .ok (.aload_n 0, 1) := by decide +kernel
theorem dX12_feed_83 : decode cX12_feed 83 = .ok (.getfield 128, 3) := by decide +kernel
theorem dX12_feed_86 : decode cX12_feed 86 = .ok (.iload 7, 2) := by decide +kernel
theorem dX12_feed_88 : decode cX12_feed 88 = .ok (.bipush 24, 2) := by decide +kernel
theorem dX12_feed_90 : decode cX12_feed 90 = .ok (.bipush 8, 2) := by decide +kernel
theorem dX12_feed_92 : decode cX12_feed 92 = .ok (.iload 6, 2) := by decide +kernel
theorem dX12_feed_94 : decode cX12_feed 94 = .ok (.iconst 4, 1) := by decide +kernel
theorem dX12_feed_95 : decode cX12_feed 95 = .ok (.irem, 1) := by decide +kernel
theorem dX12_feed_96 : decode cX12_feed 96 = .ok (.imul, 1) := by decide +kernel
theorem dX12_feed_97 : decode cX12_feed 97 = .ok (.isub, 1) := by decide +kernel
theorem dX12_feed_98 : decode cX12_feed 98 = .ok (.ishr, 1) := by decide +kernel
theorem dX12_feed_99 : decode cX12_feed 99 = .ok (.sipush 255, 3) := by decide +kernel
theorem dX12_feed_102 : decode cX12_feed 102 = .ok (.iand, 1) := by decide +kernel
theorem dX12_feed_103 : decode cX12_feed 103 = .ok (.iastore, 1) := by decide +kernel
theorem dX12_feed_104 : decode cX12_feed 104 = .ok (.aload_n 0, 1) := by decide +kernel
theorem dX12_feed_105 : decode cX12_feed 105 = .ok (.dup, 1) := by decide +kernel
theorem dX12_feed_106 : decode cX12_feed 106 = .ok (.getfield 128, 3) := by decide +kernel
theorem dX12_feed_109 : decode cX12_feed 109 = .ok (.iconst 1, 1) := by decide +kernel
theorem dX12_feed_110 : decode cX12_feed 110 = .ok (.iadd, 1) := by decide +kernel
theorem dX12_feed_111 : decode cX12_feed 111 = .ok (.putfield 128, 3) := by decide +kernel
theorem dX12_feed_114 : decode cX12_feed 114 = .ok (.iinc 6 1, 3) := by decide +kernel
theorem dX12_feed_117 : decode cX12_feed 117 = .ok (.goto (-94), 3) := by decide +kernel
theorem dX12_feed_120 : decode cX12_feed 120 = .ok (.aload_n 0, 1) := by decide +kernel
theorem dX12_feed_121 : decode cX12_feed 121 = .ok (.getfield 128, 3) := by decide +kernel
theorem dX12_feed_124 : decode cX12_feed 124 = .ok (.ireturn, 1) := by decide +kernel
theorem dX12_byteAt_0 : decode cX12_byteAt 0 = .ok (.iload_n 1, 1) := by decide +kernel
theorem dX12_byteAt_1 : decode cX12_byteAt 1 = .ok (.aload_n 0, 1) := by decide +kernel
theorem dX12_byteAt_2 : decode cX12_byteAt 2 = .ok (.getfield 131, 3) := by decide +kernel
theorem dX12_byteAt_5 : decode cX12_byteAt 5 = .ok (.if_icmp .ge 12, 3) := by decide +kernel
theorem dX12_byteAt_8 : decode cX12_byteAt 8 = .ok (.aload_n 0, 1) := by decide +kernel
theorem dX12_byteAt_9 : decode cX12_byteAt 9 = .ok (.getfield 38, 3) := by decide +kernel
theorem dX12_byteAt_12 : decode cX12_byteAt 12 = .ok (.iload_n 1, 1) := by decide +kernel
theorem dX12_byteAt_13 : decode cX12_byteAt 13 = .ok (.iaload, 1) := by decide +kernel
theorem dX12_byteAt_14 : decode cX12_byteAt 14 = .ok (.goto 4, 3) := by decide +kernel
theorem dX12_byteAt_17 : decode cX12_byteAt 17 = .ok (.iconst (-1), 1) := by decide +kernel
theorem dX12_byteAt_18 : decode cX12_byteAt 18 = .ok (.ireturn, 1) := by decide +kernel
theorem dX12_isLetter_0 : decode cX12_isLetter 0 = .ok (.iload_n 0, 1) := by decide +kernel
theorem dX12_isLetter_1 : decode cX12_isLetter 1 = .ok (.bipush 97, 2) := by decide +kernel
theorem dX12_isLetter_3 : decode cX12_isLetter 3 = .ok (.if_icmp .lt 13, 3) := by decide +kernel
theorem dX12_isLetter_6 : decode cX12_isLetter 6 = .ok (.iload_n 0, 1) := by decide +kernel
theorem dX12_isLetter_7 : decode cX12_isLetter 7 = .ok (.bipush 122, 2) := by decide +kernel
theorem dX12_isLetter_9 : decode cX12_isLetter 9 = .ok (.if_icmp .gt 7, 3) := by decide +kernel
theorem dX12_isLetter_12 : decode cX12_isLetter 12 = .ok (.iconst 1, 1) := by decide +kernel
theorem dX12_isLetter_13 : decode cX12_isLetter 13 = .ok (.goto 4, 3) := by decide +kernel
theorem dX12_isLetter_16 : decode cX12_isLetter 16 = .ok (.iconst 0, 1) := by decide +kernel
theorem dX12_isLetter_17 : decode cX12_isLetter 17 = .ok (.ireturn, 1) := by decide +kernel
theorem dX12_isDigit_0 : decode cX12_isDigit 0 = .ok (.iload_n 0, 1) := by decide +kernel
theorem dX12_isDigit_1 : decode cX12_isDigit 1 = .ok (.bipush 48, 2) := by decide +kernel
theorem dX12_isDigit_3 : decode cX12_isDigit 3 = .ok (.if_icmp .lt 13, 3) := by decide +kernel
theorem dX12_isDigit_6 : decode cX12_isDigit 6 = .ok (.iload_n 0, 1) := by decide +kernel
theorem dX12_isDigit_7 : decode cX12_isDigit 7 = .ok (.bipush 57, 2) := by decide +kernel
theorem dX12_isDigit_9 : decode cX12_isDigit 9 = .ok (.if_icmp .gt 7, 3) := by decide +kernel
theorem dX12_isDigit_12 : decode cX12_isDigit 12 = .ok (.iconst 1, 1) := by decide +kernel
theorem dX12_isDigit_13 : decode cX12_isDigit 13 = .ok (.goto 4, 3) := by decide +kernel
theorem dX12_isDigit_16 : decode cX12_isDigit 16 = .ok (.iconst 0, 1) := by decide +kernel
theorem dX12_isDigit_17 : decode cX12_isDigit 17 = .ok (.ireturn, 1) := by decide +kernel
theorem dX12_isMark_0 : decode cX12_isMark 0 = .ok (.iload_n 0, 1) := by decide +kernel
theorem dX12_isMark_1 : decode cX12_isMark 1 = .ok (.bipush 59, 2) := by decide +kernel
theorem dX12_isMark_3 : decode cX12_isMark 3 = .ok (.if_icmp .eq 45, 3) := by decide +kernel
theorem dX12_isMark_6 : decode cX12_isMark 6 = .ok (.iload_n 0, 1) := by decide +kernel
theorem dX12_isMark_7 : decode cX12_isMark 7 = .ok (.bipush 123, 2) := by decide +kernel
theorem dX12_isMark_9 : decode cX12_isMark 9 = .ok (.if_icmp .eq 39, 3) := by decide +kernel
theorem dX12_isMark_12 : decode cX12_isMark 12 = .ok (.iload_n 0, 1) := by decide +kernel
theorem dX12_isMark_13 : decode cX12_isMark 13 = .ok (.bipush 125, 2) := by decide +kernel
theorem dX12_isMark_15 : decode cX12_isMark 15 = .ok (.if_icmp .eq 33, 3) := by decide +kernel
theorem dX12_isMark_18 : decode cX12_isMark 18 = .ok (.iload_n 0, 1) := by decide +kernel
theorem dX12_isMark_19 : decode cX12_isMark 19 = .ok (.bipush 40, 2) := by decide +kernel
theorem dX12_isMark_21 : decode cX12_isMark 21 = .ok (.if_icmp .eq 27, 3) := by decide +kernel
theorem dX12_isMark_24 : decode cX12_isMark 24 = .ok (.iload_n 0, 1) := by decide +kernel
theorem dX12_isMark_25 : decode cX12_isMark 25 = .ok (.bipush 41, 2) := by decide +kernel
theorem dX12_isMark_27 : decode cX12_isMark 27 = .ok (.if_icmp .eq 21, 3) := by decide +kernel
theorem dX12_isMark_30 : decode cX12_isMark 30 = .ok (.iload_n 0, 1) := by decide +kernel
theorem dX12_isMark_31 : decode cX12_isMark 31 = .ok (.bipush 91, 2) := by decide +kernel
theorem dX12_isMark_33 : decode cX12_isMark 33 = .ok (.if_icmp .eq 15, 3) := by decide +kernel
theorem dX12_isMark_36 : decode cX12_isMark 36 = .ok (.iload_n 0, 1) := by decide +kernel
theorem dX12_isMark_37 : decode cX12_isMark 37 = .ok (.bipush 93, 2) := by decide +kernel
theorem dX12_isMark_39 : decode cX12_isMark 39 = .ok (.if_icmp .eq 9, 3) := by decide +kernel
theorem dX12_isMark_42 : decode cX12_isMark 42 = .ok (.iload_n 0, 1) := by decide +kernel
theorem dX12_isMark_43 : decode cX12_isMark 43 = .ok (.bipush 45, 2) := by decide +kernel
theorem dX12_isMark_45 : decode cX12_isMark 45 = .ok (.if_icmp .ne 7, 3) := by decide +kernel
theorem dX12_isMark_48 : decode cX12_isMark 48 = .ok (.iconst 1, 1) := by decide +kernel
theorem dX12_isMark_49 : decode cX12_isMark 49 = .ok (.goto 4, 3) := by decide +kernel
theorem dX12_isMark_52 : decode cX12_isMark 52 = .ok (.iconst 0, 1) := by decide +kernel
theorem dX12_isMark_53 : decode cX12_isMark 53 = .ok (.ireturn, 1) := by decide +kernel
theorem dX12_stepOn_0 : decode cX12_stepOn 0 = .ok (.aload_n 0, 1) := by decide +kernel
theorem dX12_stepOn_1 : decode cX12_stepOn 1 = .ok (.aload_n 0, 1) := by decide +kernel
theorem dX12_stepOn_2 : decode cX12_stepOn 2 = .ok (.getfield 134, 3) := by decide +kernel
theorem dX12_stepOn_5 : decode cX12_stepOn 5 = .ok (.invokevirtual 137, 3) := by decide +kernel
theorem dX12_stepOn_8 : decode cX12_stepOn 8 = .ok (.bipush 32, 2) := by decide +kernel
theorem dX12_stepOn_10 : decode cX12_stepOn 10 = .ok (.if_icmp .eq 16, 3) := by decide +kernel
theorem dX12_stepOn_13 : decode cX12_stepOn 13 = .ok (.aload_n 0, 1) := by decide +kernel
theorem dX12_stepOn_14 : decode cX12_stepOn 14 = .ok (.aload_n 0, 1) := by decide +kernel
theorem dX12_stepOn_15 : decode cX12_stepOn 15 = .ok (.getfield 134, 3) := by decide +kernel
theorem dX12_stepOn_18 : decode cX12_stepOn 18 = .ok (.invokevirtual 137, 3) := by decide +kernel
theorem dX12_stepOn_21 : decode cX12_stepOn 21 = .ok (.bipush 10, 2) := by decide +kernel
theorem dX12_stepOn_23 : decode cX12_stepOn 23 = .ok (.if_icmp .ne 16, 3) := by decide +kernel
theorem dX12_stepOn_26 : decode cX12_stepOn 26 = .ok (.aload_n 0, 1) := by decide +kernel
theorem dX12_stepOn_27 : decode cX12_stepOn 27 = .ok (.dup, 1) := by decide +kernel
theorem dX12_stepOn_28 : decode cX12_stepOn 28 = .ok (.getfield 134, 3) := by decide +kernel
theorem dX12_stepOn_31 : decode cX12_stepOn 31 = .ok (.iconst 1, 1) := by decide +kernel
theorem dX12_stepOn_32 : decode cX12_stepOn 32 = .ok (.iadd, 1) := by decide +kernel
theorem dX12_stepOn_33 : decode cX12_stepOn 33 = .ok (.putfield 134, 3) := by decide +kernel
theorem dX12_stepOn_36 : decode cX12_stepOn 36 = .ok (.goto (-36), 3) := by decide +kernel
theorem dX12_stepOn_39 : decode cX12_stepOn 39 = .ok (.aload_n 0, 1) := by decide +kernel
theorem dX12_stepOn_40 : decode cX12_stepOn 40 = .ok (.aload_n 0, 1) := by decide +kernel
theorem dX12_stepOn_41 : decode cX12_stepOn 41 = .ok (.getfield 134, 3) := by decide +kernel
theorem dX12_stepOn_44 : decode cX12_stepOn 44 = .ok (.putfield 141, 3) := by decide +kernel
theorem dX12_stepOn_47 : decode cX12_stepOn 47 = .ok (.aload_n 0, 1) := by decide +kernel
theorem dX12_stepOn_48 : decode cX12_stepOn 48 = .ok (.aload_n 0, 1) := by decide +kernel
theorem dX12_stepOn_49 : decode cX12_stepOn 49 = .ok (.getfield 134, 3) := by decide +kernel
theorem dX12_stepOn_52 : decode cX12_stepOn 52 = .ok (.invokevirtual 137, 3) := by decide +kernel
theorem dX12_stepOn_55 : decode cX12_stepOn 55 = .ok (.istore_n 1, 1) := by decide +kernel
theorem dX12_stepOn_56 : decode cX12_stepOn 56 = .ok (.iload_n 1, 1) := by decide +kernel
theorem dX12_stepOn_57 : decode cX12_stepOn 57 = .ok (.iconst (-1), 1) := by decide +kernel
theorem dX12_stepOn_58 : decode cX12_stepOn 58 = .ok (.if_icmp .ne 11, 3) := by decide +kernel
theorem dX12_stepOn_61 : decode cX12_stepOn 61 = .ok (.aload_n 0, 1) := by decide +kernel
theorem dX12_stepOn_62 : decode cX12_stepOn 62 = .ok (.iconst 0, 1) := by decide +kernel
theorem dX12_stepOn_63 : decode cX12_stepOn 63 = .ok (.putfield 144, 3) := by decide +kernel
theorem dX12_stepOn_66 : decode cX12_stepOn 66 = .ok (.goto 146, 3) := by decide +kernel
theorem dX12_stepOn_69 : decode cX12_stepOn 69 = .ok (.iload_n 1, 1) := by decide +kernel
theorem dX12_stepOn_70 : decode cX12_stepOn 70 = .ok (.invokestatic 147, 3) := by decide +kernel
theorem dX12_stepOn_73 : decode cX12_stepOn 73 = .ok (.ifCond .eq 38, 3) := by decide +kernel
theorem dX12_stepOn_76 : decode cX12_stepOn 76 = .ok (.aload_n 0, 1) := by decide +kernel
theorem dX12_stepOn_77 : decode cX12_stepOn 77 = .ok (.aload_n 0, 1) := by decide +kernel
theorem dX12_stepOn_78 : decode cX12_stepOn 78 = .ok (.getfield 134, 3) := by decide +kernel
theorem dX12_stepOn_81 : decode cX12_stepOn 81 = .ok (.invokevirtual 137, 3) := by decide +kernel
theorem dX12_stepOn_84 : decode cX12_stepOn 84 = .ok (.invokestatic 147, 3) := by decide +kernel
theorem dX12_stepOn_87 : decode cX12_stepOn 87 = .ok (.ifCond .eq 16, 3) := by decide +kernel
theorem dX12_stepOn_90 : decode cX12_stepOn 90 = .ok (.aload_n 0, 1) := by decide +kernel
theorem dX12_stepOn_91 : decode cX12_stepOn 91 = .ok (.dup, 1) := by decide +kernel
theorem dX12_stepOn_92 : decode cX12_stepOn 92 = .ok (.getfield 134, 3) := by decide +kernel
theorem dX12_stepOn_95 : decode cX12_stepOn 95 = .ok (.iconst 1, 1) := by decide +kernel
theorem dX12_stepOn_96 : decode cX12_stepOn 96 = .ok (.iadd, 1) := by decide +kernel
theorem dX12_stepOn_97 : decode cX12_stepOn 97 = .ok (.putfield 134, 3) := by decide +kernel
theorem dX12_stepOn_100 : decode cX12_stepOn 100 = .ok (.goto (-24), 3) := by decide +kernel
theorem dX12_stepOn_103 : decode cX12_stepOn 103 = .ok (.aload_n 0, 1) := by decide +kernel
theorem dX12_stepOn_104 : decode cX12_stepOn 104 = .ok (.iconst 1, 1) := by decide +kernel
theorem dX12_stepOn_105 : decode cX12_stepOn 105 = .ok (.putfield 144, 3) := by decide +kernel
theorem dX12_stepOn_108 : decode cX12_stepOn 108 = .ok (.goto 104, 3) := by decide +kernel
theorem dX12_stepOn_111 : decode cX12_stepOn 111 = .ok (.iload_n 1, 1) := by decide +kernel
theorem dX12_stepOn_112 : decode cX12_stepOn 112 = .ok (.invokestatic 151, 3) := by decide +kernel
theorem dX12_stepOn_115 : decode cX12_stepOn 115 = .ok (.ifCond .eq 71, 3) := by decide +kernel
theorem dX12_stepOn_118 : decode cX12_stepOn 118 = .ok (.aload_n 0, 1) := by decide +kernel
theorem dX12_stepOn_119 : decode cX12_stepOn 119 = .ok (.iconst 0, 1) := by decide +kernel
theorem dX12_stepOn_120 : decode cX12_stepOn 120 = .ok (.putfield 154, 3) := by decide +kernel
theorem dX12_stepOn_123 : decode cX12_stepOn 123 = .ok (.aload_n 0, 1) := by decide +kernel
theorem dX12_stepOn_124 : decode cX12_stepOn 124 = .ok (.aload_n 0, 1) := by decide +kernel
theorem dX12_stepOn_125 : decode cX12_stepOn 125 = .ok (.getfield 134, 3) := by decide +kernel
theorem dX12_stepOn_128 : decode cX12_stepOn 128 = .ok (.invokevirtual 137, 3) := by decide +kernel
theorem dX12_stepOn_131 : decode cX12_stepOn 131 = .ok (.invokestatic 151, 3) := by decide +kernel
theorem dX12_stepOn_134 : decode cX12_stepOn 134 = .ok (.ifCond .eq 44, 3) := by decide +kernel
theorem dX12_stepOn_137 : decode cX12_stepOn 137 = .ok (.aload_n 0, 1) := by decide +kernel
theorem dX12_stepOn_138 : decode cX12_stepOn 138 = .ok (.ldc 157, 2) := by decide +kernel
theorem dX12_stepOn_140 : decode cX12_stepOn 140 = .ok (.bipush 10, 2) := by decide +kernel
theorem dX12_stepOn_142 : decode cX12_stepOn 142 = .ok (.aload_n 0, 1) := by decide +kernel
theorem dX12_stepOn_143 : decode cX12_stepOn 143 = .ok (.getfield 154, 3) := by decide +kernel
theorem dX12_stepOn_146 : decode cX12_stepOn 146 = .ok (.imul, 1) := by decide +kernel
theorem dX12_stepOn_147 : decode cX12_stepOn 147 = .ok (.aload_n 0, 1) := by decide +kernel
theorem dX12_stepOn_148 : decode cX12_stepOn 148 = .ok (.aload_n 0, 1) := by decide +kernel
theorem dX12_stepOn_149 : decode cX12_stepOn 149 = .ok (.getfield 134, 3) := by decide +kernel
theorem dX12_stepOn_152 : decode cX12_stepOn 152 = .ok (.invokevirtual 137, 3) := by decide +kernel
theorem dX12_stepOn_155 : decode cX12_stepOn 155 = .ok (.iadd, 1) := by decide +kernel
theorem dX12_stepOn_156 : decode cX12_stepOn 156 = .ok (.bipush 48, 2) := by decide +kernel
theorem dX12_stepOn_158 : decode cX12_stepOn 158 = .ok (.isub, 1) := by decide +kernel
theorem dX12_stepOn_159 : decode cX12_stepOn 159 = .ok (.invokestatic 158, 3) := by decide +kernel
theorem dX12_stepOn_162 : decode cX12_stepOn 162 = .ok (.putfield 154, 3) := by decide +kernel
theorem dX12_stepOn_165 : decode cX12_stepOn 165 = .ok (.aload_n 0, 1) := by decide +kernel
theorem dX12_stepOn_166 : decode cX12_stepOn 166 = .ok (.dup, 1) := by decide +kernel
theorem dX12_stepOn_167 : decode cX12_stepOn 167 = .ok (.getfield 134, 3) := by decide +kernel
theorem dX12_stepOn_170 : decode cX12_stepOn 170 = .ok (.iconst 1, 1) := by decide +kernel
theorem dX12_stepOn_171 : decode cX12_stepOn 171 = .ok (.iadd, 1) := by decide +kernel
theorem dX12_stepOn_172 : decode cX12_stepOn 172 = .ok (.putfield 134, 3) := by decide +kernel
theorem dX12_stepOn_175 : decode cX12_stepOn 175 = .ok (.goto (-52), 3) := by decide +kernel
theorem dX12_stepOn_178 : decode cX12_stepOn 178 = .ok (.aload_n 0, 1) := by decide +kernel
theorem dX12_stepOn_179 : decode cX12_stepOn 179 = .ok (.iconst 2, 1) := by decide +kernel
theorem dX12_stepOn_180 : decode cX12_stepOn 180 = .ok (.putfield 144, 3) := by decide +kernel
theorem dX12_stepOn_183 : decode cX12_stepOn 183 = .ok (.goto 29, 3) := by decide +kernel
theorem dX12_stepOn_186 : decode cX12_stepOn 186 = .ok (.aload_n 0, 1) := by decide +kernel
theorem dX12_stepOn_187 : decode cX12_stepOn 187 = .ok (.dup, 1) := by decide +kernel
theorem dX12_stepOn_188 : decode cX12_stepOn 188 = .ok (.getfield 134, 3) := by decide +kernel
theorem dX12_stepOn_191 : decode cX12_stepOn 191 = .ok (.iconst 1, 1) := by decide +kernel
theorem dX12_stepOn_192 : decode cX12_stepOn 192 = .ok (.iadd, 1) := by decide +kernel
theorem dX12_stepOn_193 : decode cX12_stepOn 193 = .ok (.putfield 134, 3) := by decide +kernel
theorem dX12_stepOn_196 : decode cX12_stepOn 196 = .ok (.aload_n 0, 1) := by decide +kernel
theorem dX12_stepOn_197 : decode cX12_stepOn 197 = .ok (.iload_n 1, 1) := by decide +kernel
theorem dX12_stepOn_198 : decode cX12_stepOn 198 = .ok (.invokestatic 164, 3) := by decide +kernel
theorem dX12_stepOn_201 : decode cX12_stepOn 201 = .ok (.ifCond .eq 7, 3) := by decide +kernel
theorem dX12_stepOn_204 : decode cX12_stepOn 204 = .ok (.iconst 3, 1) := by decide +kernel
theorem dX12_stepOn_205 : decode cX12_stepOn 205 = .ok (.goto 4, 3) := by decide +kernel
theorem dX12_stepOn_208 : decode cX12_stepOn 208 = .ok (.iconst 4, 1) := by decide +kernel
theorem dX12_stepOn_209 : decode cX12_stepOn 209 = .ok (.putfield 144, 3) := by decide +kernel
theorem dX12_stepOn_212 : decode cX12_stepOn 212 = .ok (.aload_n 0, 1) := by decide +kernel
theorem dX12_stepOn_213 : decode cX12_stepOn 213 = .ok (.aload_n 0, 1) := by decide +kernel
theorem dX12_stepOn_214 : decode cX12_stepOn 214 = .ok (.getfield 134, 3) := by decide +kernel
theorem dX12_stepOn_217 : decode cX12_stepOn 217 = .ok (.putfield 167, 3) := by decide +kernel
theorem dX12_stepOn_220 : decode cX12_stepOn 220 = .ok (.return_, 1) := by decide +kernel
theorem dX12_wrong_0 : decode cX12_wrong 0 = .ok (.aload_n 0, 1) := by decide +kernel
theorem dX12_wrong_1 : decode cX12_wrong 1 = .ok (.getfield 170, 3) := by decide +kernel
theorem dX12_wrong_4 : decode cX12_wrong 4 = .ok (.ifCond .eq 4, 3) := by decide +kernel
theorem dX12_wrong_7 : decode cX12_wrong 7 = .ok (.return_, 1) := by decide +kernel
theorem dX12_wrong_8 : decode cX12_wrong 8 = .ok (.aload_n 0, 1) := by decide +kernel
theorem dX12_wrong_9 : decode cX12_wrong 9 = .ok (.iload_n 1, 1) := by decide +kernel
theorem dX12_wrong_10 : decode cX12_wrong 10 = .ok (.putfield 170, 3) := by decide +kernel
theorem dX12_wrong_13 : decode cX12_wrong 13 = .ok (.aload_n 0, 1) := by decide +kernel
theorem dX12_wrong_14 : decode cX12_wrong 14 = .ok (.aload_n 0, 1) := by decide +kernel
theorem dX12_wrong_15 : decode cX12_wrong 15 = .ok (.getfield 141, 3) := by decide +kernel
theorem dX12_wrong_18 : decode cX12_wrong 18 = .ok (.putfield 173, 3) := by decide +kernel
theorem dX12_wrong_21 : decode cX12_wrong 21 = .ok (.return_, 1) := by decide +kernel
theorem dX12_is_0 : decode cX12_is 0 = .ok (.aload_n 0, 1) := by decide +kernel
theorem dX12_is_1 : decode cX12_is 1 = .ok (.getfield 170, 3) := by decide +kernel
theorem dX12_is_4 : decode cX12_is 4 = .ok (.ifCond .ne 31, 3) := by decide +kernel
theorem dX12_is_7 : decode cX12_is 7 = .ok (.aload_n 0, 1) := by decide +kernel
theorem dX12_is_8 : decode cX12_is 8 = .ok (.getfield 144, 3) := by decide +kernel
theorem dX12_is_11 : decode cX12_is 11 = .ok (.iconst 1, 1) := by decide +kernel
theorem dX12_is_12 : decode cX12_is 12 = .ok (.if_icmp .ne 23, 3) := by decide +kernel
theorem dX12_is_15 : decode cX12_is 15 = .ok (.aload_n 1, 1) := by decide +kernel
theorem dX12_is_16 : decode cX12_is 16 = .ok (.invokevirtual 176, 3) := by decide +kernel
theorem dX12_is_19 : decode cX12_is 19 = .ok (.aload_n 0, 1) := by decide +kernel
theorem dX12_is_20 : decode cX12_is 20 = .ok (.getfield 167, 3) := by decide +kernel
theorem dX12_is_23 : decode cX12_is 23 = .ok (.aload_n 0, 1) := by decide +kernel
theorem dX12_is_24 : decode cX12_is 24 = .ok (.getfield 141, 3) := by decide +kernel
theorem dX12_is_27 : decode cX12_is 27 = .ok (.isub, 1) := by decide +kernel
theorem dX12_is_28 : decode cX12_is 28 = .ok (.if_icmp .ne 7, 3) := by decide +kernel
theorem dX12_is_31 : decode cX12_is 31 = .ok (.iconst 1, 1) := by decide +kernel
theorem dX12_is_32 : decode cX12_is 32 = .ok (.goto 4, 3) := by decide +kernel
theorem dX12_is_35 : decode cX12_is 35 = .ok (.iconst 0, 1) := by decide +kernel
theorem dX12_is_36 : decode cX12_is 36 = .ok (.istore_n 2, 1) := by decide +kernel
theorem dX12_is_37 : decode cX12_is 37 = .ok (.iconst 0, 1) := by decide +kernel
theorem dX12_is_38 : decode cX12_is 38 = .ok (.istore_n 3, 1) := by decide +kernel
theorem dX12_is_39 : decode cX12_is 39 = .ok (.iload_n 2, 1) := by decide +kernel
theorem dX12_is_40 : decode cX12_is 40 = .ok (.ifCond .eq 42, 3) := by decide +kernel
theorem dX12_is_43 : decode cX12_is 43 = .ok (.iload_n 3, 1) := by decide +kernel
theorem dX12_is_44 : decode cX12_is 44 = .ok (.aload_n 1, 1) := by decide +kernel
theorem dX12_is_45 : decode cX12_is 45 = .ok (.invokevirtual 176, 3) := by decide +kernel
theorem dX12_is_48 : decode cX12_is 48 = .ok (.if_icmp .ge 34, 3) := by decide +kernel
theorem dX12_is_51 : decode cX12_is 51 = .ok (.aload_n 1, 1) := by decide +kernel
theorem dX12_is_52 : decode cX12_is 52 = .ok (.iload_n 3, 1) := by decide +kernel
theorem dX12_is_53 : decode cX12_is 53 = .ok (.invokevirtual 180, 3) := by decide +kernel
theorem dX12_is_56 : decode cX12_is 56 = .ok (.aload_n 0, 1) := by decide +kernel
theorem dX12_is_57 : decode cX12_is 57 = .ok (.getfield 38, 3) := by decide +kernel
theorem dX12_is_60 : decode cX12_is 60 = .ok (.aload_n 0, 1) := by decide +kernel
theorem dX12_is_61 : decode cX12_is 61 = .ok (.getfield 141, 3) := by decide +kernel
theorem dX12_is_64 : decode cX12_is 64 = .ok (.iload_n 3, 1) := by decide +kernel
theorem dX12_is_65 : decode cX12_is 65 = .ok (.iadd, 1) := by decide +kernel
theorem dX12_is_66 : decode cX12_is 66 = .ok (.iaload, 1) := by decide +kernel
theorem dX12_is_67 : decode cX12_is 67 = .ok (.if_icmp .ne 7, 3) := by decide +kernel
theorem dX12_is_70 : decode cX12_is 70 = .ok (.iconst 1, 1) := by decide +kernel
theorem dX12_is_71 : decode cX12_is 71 = .ok (.goto 4, 3) := by decide +kernel
theorem dX12_is_74 : decode cX12_is 74 = .ok (.iconst 0, 1) := by decide +kernel
theorem dX12_is_75 : decode cX12_is 75 = .ok (.istore_n 2, 1) := by decide +kernel
theorem dX12_is_76 : decode cX12_is 76 = .ok (.iinc 3 1, 3) := by decide +kernel
theorem dX12_is_79 : decode cX12_is 79 = .ok (.goto (-40), 3) := by decide +kernel
theorem dX12_is_82 : decode cX12_is 82 = .ok (.iload_n 2, 1) := by decide +kernel
theorem dX12_is_83 : decode cX12_is 83 = .ok (.ireturn, 1) := by decide +kernel
theorem dX12_which_0 : decode cX12_which 0 = .ok (.iconst 0, 1) := by decide +kernel
theorem dX12_which_1 : decode cX12_which 1 = .ok (.istore_n 2, 1) := by decide +kernel
theorem dX12_which_2 : decode cX12_which 2 = .ok (.iload_n 2, 1) := by decide +kernel
theorem dX12_which_3 : decode cX12_which 3 = .ok (.aload_n 1, 1) := by decide +kernel
theorem dX12_which_4 : decode cX12_which 4 = .ok (.arraylength, 1) := by decide +kernel
theorem dX12_which_5 : decode cX12_which 5 = .ok (.if_icmp .ge 21, 3) := by decide +kernel
theorem dX12_which_8 : decode cX12_which 8 = .ok (.aload_n 0, 1) := by decide +kernel
theorem dX12_which_9 : decode cX12_which 9 = .ok (.aload_n 1, 1) := by decide +kernel
theorem dX12_which_10 : decode cX12_which 10 = .ok (.iload_n 2, 1) := by decide +kernel
theorem dX12_which_11 : decode cX12_which 11 = .ok (.aaload, 1) := by decide +kernel
theorem dX12_which_12 : decode cX12_which 12 = .ok (.invokevirtual 184, 3) := by decide +kernel
theorem dX12_which_15 : decode cX12_which 15 = .ok (.ifCond .eq 5, 3) := by decide +kernel
theorem dX12_which_18 : decode cX12_which 18 = .ok (.iload_n 2, 1) := by decide +kernel
theorem dX12_which_19 : decode cX12_which 19 = .ok (.ireturn, 1) := by decide +kernel
theorem dX12_which_20 : decode cX12_which 20 = .ok (.iinc 2 1, 3) := by decide +kernel
theorem dX12_which_23 : decode cX12_which 23 = .ok (.goto (-21), 3) := by decide +kernel
theorem dX12_which_26 : decode cX12_which 26 = .ok (.iconst (-1), 1) := by decide +kernel
theorem dX12_which_27 : decode cX12_which 27 = .ok (.ireturn, 1) := by decide +kernel
theorem dX12_isMarked_0 : decode cX12_isMarked 0 = .ok (.aload_n 0, 1) := by decide +kernel
theorem dX12_isMarked_1 : decode cX12_isMarked 1 = .ok (.getfield 170, 3) := by decide +kernel
theorem dX12_isMarked_4 : decode cX12_isMarked 4 = .ok (.ifCond .ne 28, 3) := by decide +kernel
theorem dX12_isMarked_7 : decode cX12_isMarked 7 = .ok (.aload_n 0, 1) := by decide +kernel
theorem dX12_isMarked_8 : decode cX12_isMarked 8 = .ok (.getfield 144, 3) := by decide +kernel
theorem dX12_isMarked_11 : decode cX12_isMarked 11 = .ok (.iconst 3, 1) := by decide +kernel
theorem dX12_isMarked_12 : decode cX12_isMarked 12 = .ok (.if_icmp .ne 20, 3) := by decide +kernel
theorem dX12_isMarked_15 : decode cX12_isMarked 15 = .ok (.aload_n 0, 1) := by decide +kernel
theorem dX12_isMarked_16 : decode cX12_isMarked 16 = .ok (.getfield 38, 3) := by decide +kernel
theorem dX12_isMarked_19 : decode cX12_isMarked 19 = .ok (.aload_n 0, 1) := by decide +kernel
theorem dX12_isMarked_20 : decode cX12_isMarked 20 = .ok (.getfield 141, 3) := by decide +kernel
theorem dX12_isMarked_23 : decode cX12_isMarked 23 = .ok (.iaload, 1) := by decide +kernel
theorem dX12_isMarked_24 : decode cX12_isMarked 24 = .ok (.iload_n 1, 1) := by decide +kernel
theorem dX12_isMarked_25 : decode cX12_isMarked 25 = .ok (.if_icmp .ne 7, 3) := by decide +kernel
theorem dX12_isMarked_28 : decode cX12_isMarked 28 = .ok (.iconst 1, 1) := by decide +kernel
theorem dX12_isMarked_29 : decode cX12_isMarked 29 = .ok (.goto 4, 3) := by decide +kernel
theorem dX12_isMarked_32 : decode cX12_isMarked 32 = .ok (.iconst 0, 1) := by decide +kernel
theorem dX12_isMarked_33 : decode cX12_isMarked 33 = .ok (.ireturn, 1) := by decide +kernel
theorem dX12_mark_0 : decode cX12_mark 0 = .ok (.aload_n 0, 1) := by decide +kernel
theorem dX12_mark_1 : decode cX12_mark 1 = .ok (.getfield 170, 3) := by decide +kernel
theorem dX12_mark_4 : decode cX12_mark 4 = .ok (.ifCond .ne 16, 3) := by decide +kernel
theorem dX12_mark_7 : decode cX12_mark 7 = .ok (.aload_n 0, 1) := by decide +kernel
theorem dX12_mark_8 : decode cX12_mark 8 = .ok (.iload_n 1, 1) := by decide +kernel
theorem dX12_mark_9 : decode cX12_mark 9 = .ok (.invokevirtual 188, 3) := by decide +kernel
theorem dX12_mark_12 : decode cX12_mark 12 = .ok (.ifCond .ne 8, 3) := by decide +kernel
theorem dX12_mark_15 : decode cX12_mark 15 = .ok (.aload_n 0, 1) := by decide +kernel
theorem dX12_mark_16 : decode cX12_mark 16 = .ok (.iconst 1, 1) := by decide +kernel
theorem dX12_mark_17 : decode cX12_mark 17 = .ok (.invokevirtual 191, 3) := by decide +kernel
theorem dX12_mark_20 : decode cX12_mark 20 = .ok (.aload_n 0, 1) := by decide +kernel
theorem dX12_mark_21 : decode cX12_mark 21 = .ok (.getfield 170, 3) := by decide +kernel
theorem dX12_mark_24 : decode cX12_mark 24 = .ok (.ifCond .ne 7, 3) := by decide +kernel
theorem dX12_mark_27 : decode cX12_mark 27 = .ok (.aload_n 0, 1) := by decide +kernel
theorem dX12_mark_28 : decode cX12_mark 28 = .ok (.invokevirtual 195, 3) := by decide +kernel
theorem dX12_mark_31 : decode cX12_mark 31 = .ok (.return_, 1) := by decide +kernel
theorem dX12_readNumber_0 : decode cX12_readNumber 0 = .ok (.aload_n 0, 1) := by decide +kernel
theorem dX12_readNumber_1 : decode cX12_readNumber 1 = .ok (.getfield 170, 3) := by decide +kernel
theorem dX12_readNumber_4 : decode cX12_readNumber 4 = .ok (.ifCond .eq 5, 3) := by decide +kernel
theorem dX12_readNumber_7 : decode cX12_readNumber 7 = .ok (.iconst 0, 1) := by decide +kernel
theorem dX12_readNumber_8 : decode cX12_readNumber 8 = .ok (.ireturn, 1) := by decide +kernel
theorem dX12_readNumber_9 : decode cX12_readNumber 9 = .ok (.aload_n 0, 1) := by decide +kernel
theorem dX12_readNumber_10 : decode cX12_readNumber 10 = .ok (.getfield 144, 3) := by decide +kernel
theorem dX12_readNumber_13 : decode cX12_readNumber 13 = .ok (.iconst 2, 1) := by decide +kernel
theorem dX12_readNumber_14 : decode cX12_readNumber 14 = .ok (.if_icmp .eq 11, 3) := by decide +kernel
theorem dX12_readNumber_17 : decode cX12_readNumber 17 = .ok (.aload_n 0, 1) := by decide +kernel
theorem dX12_readNumber_18 : decode cX12_readNumber 18 = .ok (.iconst 1, 1) := by decide +kernel
theorem dX12_readNumber_19 : decode cX12_readNumber 19 = .ok (.invokevirtual 191, 3) := by decide +kernel
theorem dX12_readNumber_22 : decode cX12_readNumber 22 = .ok (.goto 29, 3) := by decide +kernel
theorem dX12_readNumber_25 : decode cX12_readNumber 25 = .ok (.aload_n 0, 1) := by decide +kernel
theorem dX12_readNumber_26 : decode cX12_readNumber 26 = .ok (.getfield 167, 3) := by decide +kernel
theorem dX12_readNumber_29 : decode cX12_readNumber 29 = .ok (.aload_n 0, 1) := by decide +kernel
theorem dX12_readNumber_30 : decode cX12_readNumber 30 = .ok (.getfield 141, 3) := by decide +kernel
theorem dX12_readNumber_33 : decode cX12_readNumber 33 = .ok (.isub, 1) := by decide +kernel
theorem dX12_readNumber_34 : decode cX12_readNumber 34 = .ok (.iconst 3, 1) := by decide +kernel
theorem dX12_readNumber_35 : decode cX12_readNumber 35 = .ok (.if_icmp .gt 11, 3) := by decide +kernel
theorem dX12_readNumber_38 : decode cX12_readNumber 38 = .ok (.aload_n 0, 1) := by decide +kernel
theorem dX12_readNumber_39 : decode cX12_readNumber 39 = .ok (.getfield 154, 3) := by decide +kernel
theorem dX12_readNumber_42 : decode cX12_readNumber 42 = .ok (.iload_n 1, 1) := by decide +kernel
theorem dX12_readNumber_43 : decode cX12_readNumber 43 = .ok (.if_icmp .ge 8, 3) := by decide +kernel
theorem dX12_readNumber_46 : decode cX12_readNumber 46 = .ok (.aload_n 0, 1) := by decide +kernel
theorem dX12_readNumber_47 : decode cX12_readNumber 47 = .ok (.iconst 2, 1) := by decide +kernel
theorem dX12_readNumber_48 : decode cX12_readNumber 48 = .ok (.invokevirtual 191, 3) := by decide +kernel
theorem dX12_readNumber_51 : decode cX12_readNumber 51 = .ok (.aload_n 0, 1) := by decide +kernel
theorem dX12_readNumber_52 : decode cX12_readNumber 52 = .ok (.getfield 170, 3) := by decide +kernel
theorem dX12_readNumber_55 : decode cX12_readNumber 55 = .ok (.ifCond .ne 10, 3) := by decide +kernel
theorem dX12_readNumber_58 : decode cX12_readNumber 58 = .ok (.aload_n 0, 1) := by decide +kernel
theorem dX12_readNumber_59 : decode cX12_readNumber 59 = .ok (.getfield 154, 3) := by decide +kernel
theorem dX12_readNumber_62 : decode cX12_readNumber 62 = .ok (.goto 4, 3) := by decide +kernel
theorem dX12_readNumber_65 : decode cX12_readNumber 65 = .ok (.iconst 0, 1) := by decide +kernel
theorem dX12_readNumber_66 : decode cX12_readNumber 66 = .ok (.istore_n 2, 1) := by decide +kernel
theorem dX12_readNumber_67 : decode cX12_readNumber 67 = .ok (.aload_n 0, 1) := by decide +kernel
theorem dX12_readNumber_68 : decode cX12_readNumber 68 = .ok (.getfield 170, 3) := by decide +kernel
theorem dX12_readNumber_71 : decode cX12_readNumber 71 = .ok (.ifCond .ne 7, 3) := by decide +kernel
theorem dX12_readNumber_74 : decode cX12_readNumber 74 = .ok (.aload_n 0, 1) := by decide +kernel
theorem dX12_readNumber_75 : decode cX12_readNumber 75 = .ok (.invokevirtual 195, 3) := by decide +kernel
theorem dX12_readNumber_78 : decode cX12_readNumber 78 = .ok (.iload_n 2, 1) := by decide +kernel
theorem dX12_readNumber_79 : decode cX12_readNumber 79 = .ok (.ireturn, 1) := by decide +kernel
