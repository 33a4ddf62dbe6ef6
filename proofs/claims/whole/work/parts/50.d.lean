theorem dX12_goesThrough_0 : decode cX12_goesThrough 0 = .ok (.aload_n 0, 1) := by decide +kernel
theorem dX12_goesThrough_1 : decode cX12_goesThrough 1 = .ok (.getfield 110, 3) := by decide +kernel
theorem dX12_goesThrough_4 : decode cX12_goesThrough 4 = .ok (.iload_n 1, 1) := by decide +kernel
theorem dX12_goesThrough_5 : decode cX12_goesThrough 5 = .ok (.iaload, 1) := by decide +kernel
theorem dX12_goesThrough_6 : decode cX12_goesThrough 6 = .ok (.istore_n 2, 1) := by decide +kernel
theorem dX12_goesThrough_7 : decode cX12_goesThrough 7 = .ok (.aload_n 0, 1) := by decide +kernel
theorem dX12_goesThrough_8 : decode cX12_goesThrough 8 = .ok (.getfield 113, 3) := by decide +kernel
theorem dX12_goesThrough_11 : decode cX12_goesThrough 11 = .ok (.iload_n 1, 1) := by decide +kernel
theorem dX12_goesThrough_12 : decode cX12_goesThrough 12 = .ok (.iaload, 1) := by decide +kernel
theorem dX12_goesThrough_13 : decode cX12_goesThrough 13 = .ok (.istore_n 3, 1) := by decide +kernel
theorem dX12_goesThrough_14 : decode cX12_goesThrough 14 = .ok (.aload_n 0, 1) := by decide +kernel
theorem dX12_goesThrough_15 : decode cX12_goesThrough 15 = .ok (.getfield 113, 3) := by decide +kernel
theorem dX12_goesThrough_18 : decode cX12_goesThrough 18 = .ok (.iload_n 1, 1) := by decide +kernel
theorem dX12_goesThrough_19 : decode cX12_goesThrough 19 = .ok (.dup2, 1) := by decide +kernel
theorem dX12_goesThrough_20 : decode cX12_goesThrough 20 = .ok (.iaload, 1) := by decide +kernel
theorem dX12_goesThrough_21 : decode cX12_goesThrough 21 = .ok (.iconst 1, 1) := by decide +kernel
theorem dX12_goesThrough_22 : decode cX12_goesThrough 22 = .ok (.iadd, 1) := by decide +kernel
theorem dX12_goesThrough_23 : decode cX12_goesThrough 23 = .ok (.iastore, 1) := by decide +kernel
theorem dX12_goesThrough_24 : decode cX12_goesThrough 24 = .ok (.aload_n 0, 1) := by decide +kernel
theorem dX12_goesThrough_25 : decode cX12_goesThrough 25 = .ok (.getfield 107, 3) := by decide +kernel
theorem dX12_goesThrough_28 : decode cX12_goesThrough 28 = .ok (.iload_n 1, 1) := by decide +kernel
theorem dX12_goesThrough_29 : decode cX12_goesThrough 29 = .ok (.iaload, 1) := by decide +kernel
theorem dX12_goesThrough_30 : decode cX12_goesThrough 30 = .ok (.tableswitch 113 0 5 #[38, 50, 62, 74, 88, 102], 38) := by decide +kernel
theorem dX12_goesThrough_68 : decode cX12_goesThrough 68 = .ok (.aload_n 0, 1) := by decide +kernel
theorem dX12_goesThrough_69 : decode cX12_goesThrough 69 = .ok (.dup, 1) := by decide +kernel
theorem dX12_goesThrough_70 : decode cX12_goesThrough 70 = .ok (.getfield 481, 3) := by decide +kernel
theorem dX12_goesThrough_73 : decode cX12_goesThrough 73 = .ok (.iload_n 2, 1) := by decide +kernel
theorem dX12_goesThrough_74 : decode cX12_goesThrough 74 = .ok (.iadd, 1) := by decide +kernel
theorem dX12_goesThrough_75 : decode cX12_goesThrough 75 = .ok (.putfield 481, 3) := by decide +kernel
theorem dX12_goesThrough_78 : decode cX12_goesThrough 78 = .ok (.iconst 1, 1) := by decide +kernel
theorem dX12_goesThrough_79 : decode cX12_goesThrough 79 = .ok (.ireturn, 1) := by decide +kernel
theorem dX12_goesThrough_80 : decode cX12_goesThrough 80 = .ok (.aload_n 0, 1) := by decide +kernel
theorem dX12_goesThrough_81 : decode cX12_goesThrough 81 = .ok (.dup, 1) := by decide +kernel
theorem dX12_goesThrough_82 : decode cX12_goesThrough 82 = .ok (.getfield 481, 3) := by decide +kernel
theorem dX12_goesThrough_85 : decode cX12_goesThrough 85 = .ok (.iload_n 2, 1) := by decide +kernel
theorem dX12_goesThrough_86 : decode cX12_goesThrough 86 = .ok (.imul, 1) := by decide +kernel
theorem dX12_goesThrough_87 : decode cX12_goesThrough 87 = .ok (.putfield 481, 3) := by decide +kernel
theorem dX12_goesThrough_90 : decode cX12_goesThrough 90 = .ok (.iconst 1, 1) := by decide +kernel
theorem dX12_goesThrough_91 : decode cX12_goesThrough 91 = .ok (.ireturn, 1) := by decide +kernel
theorem dX12_goesThrough_92 : decode cX12_goesThrough 92 = .ok (.aload_n 0, 1) := by decide +kernel
theorem dX12_goesThrough_93 : decode cX12_goesThrough 93 = .ok (.dup, 1) := by decide +kernel
theorem dX12_goesThrough_94 : decode cX12_goesThrough 94 = .ok (.getfield 481, 3) := by decide +kernel
theorem dX12_goesThrough_97 : decode cX12_goesThrough 97 = .ok (.iload_n 2, 1) := by decide +kernel
theorem dX12_goesThrough_98 : decode cX12_goesThrough 98 = .ok (.irem, 1) := by decide +kernel
theorem dX12_goesThrough_99 : decode cX12_goesThrough 99 = .ok (.putfield 481, 3) := by decide +kernel
theorem dX12_goesThrough_102 : decode cX12_goesThrough 102 = .ok (.iconst 1, 1) := by decide +kernel
theorem dX12_goesThrough_103 : decode cX12_goesThrough 103 = .ok (.ireturn, 1) := by decide +kernel
theorem dX12_goesThrough_104 : decode cX12_goesThrough 104 = .ok (.aload_n 0, 1) := by decide +kernel
theorem dX12_goesThrough_105 : decode cX12_goesThrough 105 = .ok (.getfield 481, 3) := by decide +kernel
theorem dX12_goesThrough_108 : decode cX12_goesThrough 108 = .ok (.iload_n 2, 1) := by decide +kernel
theorem dX12_goesThrough_109 : decode cX12_goesThrough 109 = .ok (.if_icmp .ge 7, 3) := by decide +kernel
theorem dX12_goesThrough_112 : decode cX12_goesThrough 112 = .ok (.iconst 1, 1) := by decide +kernel
theorem dX12_goesThrough_113 : decode cX12_goesThrough 113 = .ok (.goto 4, 3) := by decide +kernel
theorem dX12_goesThrough_116 : decode cX12_goesThrough 116 = .ok (.iconst 0, 1) := by decide +kernel
theorem dX12_goesThrough_117 : decode cX12_goesThrough 117 = .ok (.ireturn, 1) := by decide +kernel
theorem dX12_goesThrough_118 : decode cX12_goesThrough 118 = .ok (.aload_n 0, 1) := by decide +kernel
theorem dX12_goesThrough_119 : decode cX12_goesThrough 119 = .ok (.getfield 481, 3) := by decide +kernel
theorem dX12_goesThrough_122 : decode cX12_goesThrough 122 = .ok (.iload_n 2, 1) := by decide +kernel
theorem dX12_goesThrough_123 : decode cX12_goesThrough 123 = .ok (.if_icmp .le 7, 3) := by decide +kernel
theorem dX12_goesThrough_126 : decode cX12_goesThrough 126 = .ok (.iconst 1, 1) := by decide +kernel
theorem dX12_goesThrough_127 : decode cX12_goesThrough 127 = .ok (.goto 4, 3) := by decide +kernel
theorem dX12_goesThrough_130 : decode cX12_goesThrough 130 = .ok (.iconst 0, 1) := by decide +kernel
theorem dX12_goesThrough_131 : decode cX12_goesThrough 131 = .ok (.ireturn, 1) := by decide +kernel
theorem dX12_goesThrough_132 : decode cX12_goesThrough 132 = .ok (.iload_n 3, 1) := by decide +kernel
theorem dX12_goesThrough_133 : decode cX12_goesThrough 133 = .ok (.iload_n 2, 1) := by decide +kernel
theorem dX12_goesThrough_134 : decode cX12_goesThrough 134 = .ok (.if_icmp .ge 7, 3) := by decide +kernel
theorem dX12_goesThrough_137 : decode cX12_goesThrough 137 = .ok (.iconst 1, 1) := by decide +kernel
theorem dX12_goesThrough_138 : decode cX12_goesThrough 138 = .ok (.goto 4, 3) := by decide +kernel
theorem dX12_goesThrough_141 : decode cX12_goesThrough 141 = .ok (.iconst 0, 1) := by decide +kernel
theorem dX12_goesThrough_142 : decode cX12_goesThrough 142 = .ok (.ireturn, 1) := by decide +kernel
theorem dX12_goesThrough_143 : decode cX12_goesThrough 143 = .ok (.iload_n 3, 1) := by decide +kernel
theorem dX12_goesThrough_144 : decode cX12_goesThrough 144 = .ok (.iload_n 2, 1) := by decide +kernel
theorem dX12_goesThrough_145 : decode cX12_goesThrough 145 = .ok (.iconst 1, 1) := by decide +kernel
theorem dX12_goesThrough_146 : decode cX12_goesThrough 146 = .ok (.iadd, 1) := by decide +kernel
theorem dX12_goesThrough_147 : decode cX12_goesThrough 147 = .ok (.irem, 1) := by decide +kernel
theorem dX12_goesThrough_148 : decode cX12_goesThrough 148 = .ok (.ifCond .ne 7, 3) := by decide +kernel
theorem dX12_goesThrough_151 : decode cX12_goesThrough 151 = .ok (.iconst 1, 1) := by decide +kernel
theorem dX12_goesThrough_152 : decode cX12_goesThrough 152 = .ok (.goto 4, 3) := by decide +kernel
theorem dX12_goesThrough_155 : decode cX12_goesThrough 155 = .ok (.iconst 0, 1) := by decide +kernel
theorem dX12_goesThrough_156 : decode cX12_goesThrough 156 = .ok (.ireturn, 1) := by decide +kernel
theorem dX12_piped_0 : decode cX12_piped 0 = .ok (.aload_n 0, 1) := by decide +kernel
theorem dX12_piped_1 : decode cX12_piped 1 = .ok (.iconst 0, 1) := by decide +kernel
theorem dX12_piped_2 : decode cX12_piped 2 = .ok (.putfield 125, 3) := by decide +kernel
theorem dX12_piped_5 : decode cX12_piped 5 = .ok (.aload_n 0, 1) := by decide +kernel
theorem dX12_piped_6 : decode cX12_piped 6 = .ok (.iload_n 1, 1) := by decide +kernel
theorem dX12_piped_7 : decode cX12_piped 7 = .ok (.invokevirtual 390, 3) := by decide +kernel
theorem dX12_piped_10 : decode cX12_piped 10 = .ok (.ifCond .ne 9, 3) := by decide +kernel
theorem dX12_piped_13 : decode cX12_piped 13 = .ok (.aload_n 0, 1) := by decide +kernel
theorem dX12_piped_14 : decode cX12_piped 14 = .ok (.iconst 1, 1) := by decide +kernel
theorem dX12_piped_15 : decode cX12_piped 15 = .ok (.invokevirtual 380, 3) := by decide +kernel
theorem dX12_piped_18 : decode cX12_piped 18 = .ok (.ireturn, 1) := by decide +kernel
theorem dX12_piped_19 : decode cX12_piped 19 = .ok (.iconst 0, 1) := by decide +kernel
theorem dX12_piped_20 : decode cX12_piped 20 = .ok (.istore_n 3, 1) := by decide +kernel
theorem dX12_piped_21 : decode cX12_piped 21 = .ok (.iconst 0, 1) := by decide +kernel
theorem dX12_piped_22 : decode cX12_piped 22 = .ok (.istore 4, 2) := by decide +kernel
theorem dX12_piped_24 : decode cX12_piped 24 = .ok (.iload 4, 2) := by decide +kernel
theorem dX12_piped_26 : decode cX12_piped 26 = .ok (.bipush 8, 2) := by decide +kernel
theorem dX12_piped_28 : decode cX12_piped 28 = .ok (.if_icmp .ge 17, 3) := by decide +kernel
theorem dX12_piped_31 : decode cX12_piped 31 = .ok (.aload_n 0, 1) := by decide +kernel
theorem dX12_piped_32 : decode cX12_piped 32 = .ok (.getfield 113, 3) := by decide +kernel
theorem dX12_piped_35 : decode cX12_piped 35 = .ok (.iload 4, 2) := by decide +kernel
theorem dX12_piped_37 : decode cX12_piped 37 = .ok (.iconst 0, 1) := by decide +kernel
theorem dX12_piped_38 : decode cX12_piped 38 = .ok (.iastore, 1) := by decide +kernel
theorem dX12_piped_39 : decode cX12_piped 39 = .ok (.iinc 4 1, 3) := by decide +kernel
theorem dX12_piped_42 : decode cX12_piped 42 = .ok (.goto (-18), 3) := by decide +kernel
theorem dX12_piped_45 : decode cX12_piped 45 = .ok (.iconst 0, 1) := by decide +kernel
theorem dX12_piped_46 : decode cX12_piped 46 = .ok (.istore 4, 2) := by decide +kernel
theorem dX12_piped_48 : decode cX12_piped 48 = .ok (.iload 4, 2) := by decide +kernel
theorem dX12_piped_50 : decode cX12_piped 50 = .ok (.aload_n 0, 1) := by decide +kernel
theorem dX12_piped_51 : decode cX12_piped 51 = .ok (.getfield 85, 3) := by decide +kernel
theorem dX12_piped_54 : decode cX12_piped 54 = .ok (.iload_n 1, 1) := by decide +kernel
theorem dX12_piped_55 : decode cX12_piped 55 = .ok (.iaload, 1) := by decide +kernel
theorem dX12_piped_56 : decode cX12_piped 56 = .ok (.if_icmp .ge 85, 3) := by decide +kernel
theorem dX12_piped_59 : decode cX12_piped 59 = .ok (.aload_n 0, 1) := by decide +kernel
theorem dX12_piped_60 : decode cX12_piped 60 = .ok (.iload_n 1, 1) := by decide +kernel
theorem dX12_piped_61 : decode cX12_piped 61 = .ok (.iload 4, 2) := by decide +kernel
theorem dX12_piped_63 : decode cX12_piped 63 = .ok (.invokevirtual 403, 3) := by decide +kernel
theorem dX12_piped_66 : decode cX12_piped 66 = .ok (.ifCond .ne 6, 3) := by decide +kernel
theorem dX12_piped_69 : decode cX12_piped 69 = .ok (.goto 66, 3) := by decide +kernel
theorem dX12_piped_72 : decode cX12_piped 72 = .ok (.aload_n 0, 1) := by decide +kernel
theorem dX12_piped_73 : decode cX12_piped 73 = .ok (.aload_n 0, 1) := by decide +kernel
theorem dX12_piped_74 : decode cX12_piped 74 = .ok (.iload_n 1, 1) := by decide +kernel
theorem dX12_piped_75 : decode cX12_piped 75 = .ok (.iload 4, 2) := by decide +kernel
theorem dX12_piped_77 : decode cX12_piped 77 = .ok (.invokevirtual 339, 3) := by decide +kernel
theorem dX12_piped_80 : decode cX12_piped 80 = .ok (.putfield 481, 3) := by decide +kernel
theorem dX12_piped_83 : decode cX12_piped 83 = .ok (.iconst 0, 1) := by decide +kernel
theorem dX12_piped_84 : decode cX12_piped 84 = .ok (.istore 5, 2) := by decide +kernel
theorem dX12_piped_86 : decode cX12_piped 86 = .ok (.iload 5, 2) := by decide +kernel
theorem dX12_piped_88 : decode cX12_piped 88 = .ok (.aload_n 0, 1) := by decide +kernel
theorem dX12_piped_89 : decode cX12_piped 89 = .ok (.getfield 246, 3) := by decide +kernel
theorem dX12_piped_92 : decode cX12_piped 92 = .ok (.if_icmp .ge 18, 3) := by decide +kernel
theorem dX12_piped_95 : decode cX12_piped 95 = .ok (.aload_n 0, 1) := by decide +kernel
theorem dX12_piped_96 : decode cX12_piped 96 = .ok (.iload 5, 2) := by decide +kernel
theorem dX12_piped_98 : decode cX12_piped 98 = .ok (.invokevirtual 484, 3) := by decide +kernel
theorem dX12_piped_101 : decode cX12_piped 101 = .ok (.ifCond .eq 9, 3) := by decide +kernel
theorem dX12_piped_104 : decode cX12_piped 104 = .ok (.iinc 5 1, 3) := by decide +kernel
theorem dX12_piped_107 : decode cX12_piped 107 = .ok (.goto (-21), 3) := by decide +kernel
theorem dX12_piped_110 : decode cX12_piped 110 = .ok (.iload 5, 2) := by decide +kernel
theorem dX12_piped_112 : decode cX12_piped 112 = .ok (.aload_n 0, 1) := by decide +kernel
theorem dX12_piped_113 : decode cX12_piped 113 = .ok (.getfield 246, 3) := by decide +kernel
theorem dX12_piped_116 : decode cX12_piped 116 = .ok (.if_icmp .ge 6, 3) := by decide +kernel
theorem dX12_piped_119 : decode cX12_piped 119 = .ok (.goto 16, 3) := by decide +kernel
theorem dX12_piped_122 : decode cX12_piped 122 = .ok (.iload_n 3, 1) := by decide +kernel
theorem dX12_piped_123 : decode cX12_piped 123 = .ok (.iload_n 2, 1) := by decide +kernel
theorem dX12_piped_124 : decode cX12_piped 124 = .ok (.if_icmp .ne 8, 3) := by decide +kernel
theorem dX12_piped_127 : decode cX12_piped 127 = .ok (.aload_n 0, 1) := by decide +kernel
theorem dX12_piped_128 : decode cX12_piped 128 = .ok (.getfield 481, 3) := by decide +kernel
theorem dX12_piped_131 : decode cX12_piped 131 = .ok (.ireturn, 1) := by decide +kernel
theorem dX12_piped_132 : decode cX12_piped 132 = .ok (.iinc 3 1, 3) := by decide +kernel
theorem dX12_piped_135 : decode cX12_piped 135 = .ok (.iinc 4 1, 3) := by decide +kernel
theorem dX12_piped_138 : decode cX12_piped 138 = .ok (.goto (-90), 3) := by decide +kernel
theorem dX12_piped_141 : decode cX12_piped 141 = .ok (.iload_n 2, 1) := by decide +kernel
theorem dX12_piped_142 : decode cX12_piped 142 = .ok (.iconst (-1), 1) := by decide +kernel
theorem dX12_piped_143 : decode cX12_piped 143 = .ok (.if_icmp .ne 7, 3) := by decide +kernel
theorem dX12_piped_146 : decode cX12_piped 146 = .ok (.iload_n 3, 1) := by decide +kernel
theorem dX12_piped_147 : decode cX12_piped 147 = .ok (.goto 8, 3) := by decide +kernel
theorem dX12_piped_150 : decode cX12_piped 150 = .ok (.aload_n 0, 1) := by decide +kernel
theorem dX12_piped_151 : decode cX12_piped 151 = .ok (.iconst 1, 1) := by decide +kernel
theorem dX12_piped_152 : decode cX12_piped 152 = .ok (.invokevirtual 380, 3) := by decide +kernel
theorem dX12_piped_155 : decode cX12_piped 155 = .ok (.ireturn, 1) := by decide +kernel
theorem dX12_refuse_0 : decode cX12_refuse 0 = .ok (.aload_n 0, 1) := by decide +kernel
theorem dX12_refuse_1 : decode cX12_refuse 1 = .ok (.getfield 42, 3) := by decide +kernel
theorem dX12_refuse_4 : decode cX12_refuse 4 = .ok (.iconst 1, 1) := by decide +kernel
theorem dX12_refuse_5 : decode cX12_refuse 5 = .ok (.dup2, 1) := by decide +kernel
theorem dX12_refuse_6 : decode cX12_refuse 6 = .ok (.iaload, 1) := by decide +kernel
theorem dX12_refuse_7 : decode cX12_refuse 7 = .ok (.iconst 1, 1) := by decide +kernel
theorem dX12_refuse_8 : decode cX12_refuse 8 = .ok (.iadd, 1) := by decide +kernel
theorem dX12_refuse_9 : decode cX12_refuse 9 = .ok (.iastore, 1) := by decide +kernel
theorem dX12_refuse_10 : decode cX12_refuse 10 = .ok (.iconst (-1), 1) := by decide +kernel
theorem dX12_refuse_11 : decode cX12_refuse 11 = .ok (.ireturn, 1) := by decide +kernel
theorem dX12_drop_0 : decode cX12_drop 0 = .ok (.aload_n 0, 1) := by decide +kernel
theorem dX12_drop_1 : decode cX12_drop 1 = .ok (.iconst 0, 1) := by decide +kernel
theorem dX12_drop_2 : decode cX12_drop 2 = .ok (.putfield 125, 3) := by decide +kernel
theorem dX12_drop_5 : decode cX12_drop 5 = .ok (.aload_n 0, 1) := by decide +kernel
theorem dX12_drop_6 : decode cX12_drop 6 = .ok (.getfield 249, 3) := by decide +kernel
theorem dX12_drop_9 : decode cX12_drop 9 = .ok (.ifCond .eq 10, 3) := by decide +kernel
theorem dX12_drop_12 : decode cX12_drop 12 = .ok (.aload_n 0, 1) := by decide +kernel
theorem dX12_drop_13 : decode cX12_drop 13 = .ok (.invokevirtual 288, 3) := by decide +kernel
theorem dX12_drop_16 : decode cX12_drop 16 = .ok (.ifCond .eq 8, 3) := by decide +kernel
theorem dX12_drop_19 : decode cX12_drop 19 = .ok (.aload_n 0, 1) := by decide +kernel
theorem dX12_drop_20 : decode cX12_drop 20 = .ok (.invokevirtual 487, 3) := by decide +kernel
theorem dX12_drop_23 : decode cX12_drop 23 = .ok (.ireturn, 1) := by decide +kernel
theorem dX12_drop_24 : decode cX12_drop 24 = .ok (.aload_n 0, 1) := by decide +kernel
theorem dX12_drop_25 : decode cX12_drop 25 = .ok (.invokevirtual 305, 3) := by decide +kernel
theorem dX12_drop_28 : decode cX12_drop 28 = .ok (.iconst 0, 1) := by decide +kernel
theorem dX12_drop_29 : decode cX12_drop 29 = .ok (.istore_n 1, 1) := by decide +kernel
theorem dX12_drop_30 : decode cX12_drop 30 = .ok (.iload_n 1, 1) := by decide +kernel
theorem dX12_drop_31 : decode cX12_drop 31 = .ok (.aload_n 0, 1) := by decide +kernel
theorem dX12_drop_32 : decode cX12_drop 32 = .ok (.getfield 76, 3) := by decide +kernel
theorem dX12_drop_35 : decode cX12_drop 35 = .ok (.iconst 0, 1) := by decide +kernel
theorem dX12_drop_36 : decode cX12_drop 36 = .ok (.iaload, 1) := by decide +kernel
theorem dX12_drop_37 : decode cX12_drop 37 = .ok (.if_icmp .ge 26, 3) := by decide +kernel
theorem dX12_drop_40 : decode cX12_drop 40 = .ok (.aload_n 0, 1) := by decide +kernel
theorem dX12_drop_41 : decode cX12_drop 41 = .ok (.getfield 85, 3) := by decide +kernel
theorem dX12_drop_44 : decode cX12_drop 44 = .ok (.iload_n 1, 1) := by decide +kernel
theorem dX12_drop_45 : decode cX12_drop 45 = .ok (.aload_n 0, 1) := by decide +kernel
theorem dX12_drop_46 : decode cX12_drop 46 = .ok (.iload_n 1, 1) := by decide +kernel
theorem dX12_drop_47 : decode cX12_drop 47 = .ok (.aload_n 0, 1) := by decide +kernel
theorem dX12_drop_48 : decode cX12_drop 48 = .ok (.getfield 249, 3) := by decide +kernel
theorem dX12_drop_51 : decode cX12_drop 51 = .ok (.iconst 1, 1) := by decide +kernel
theorem dX12_drop_52 : decode cX12_drop 52 = .ok (.isub, 1) := by decide +kernel
theorem dX12_drop_53 : decode cX12_drop 53 = .ok (.invokevirtual 409, 3) := by decide +kernel
theorem dX12_drop_56 : decode cX12_drop 56 = .ok (.iastore, 1) := by decide +kernel
theorem dX12_drop_57 : decode cX12_drop 57 = .ok (.iinc 1 1, 3) := by decide +kernel
theorem dX12_drop_60 : decode cX12_drop 60 = .ok (.goto (-30), 3) := by decide +kernel
theorem dX12_drop_63 : decode cX12_drop 63 = .ok (.aload_n 0, 1) := by decide +kernel
theorem dX12_drop_64 : decode cX12_drop 64 = .ok (.dup, 1) := by decide +kernel
theorem dX12_drop_65 : decode cX12_drop 65 = .ok (.getfield 249, 3) := by decide +kernel
theorem dX12_drop_68 : decode cX12_drop 68 = .ok (.iconst 1, 1) := by decide +kernel
theorem dX12_drop_69 : decode cX12_drop 69 = .ok (.isub, 1) := by decide +kernel
theorem dX12_drop_70 : decode cX12_drop 70 = .ok (.putfield 249, 3) := by decide +kernel
theorem dX12_drop_73 : decode cX12_drop 73 = .ok (.aload_n 0, 1) := by decide +kernel
theorem dX12_drop_74 : decode cX12_drop 74 = .ok (.getfield 249, 3) := by decide +kernel
theorem dX12_drop_77 : decode cX12_drop 77 = .ok (.ireturn, 1) := by decide +kernel
theorem dX12_set_0 : decode cX12_set 0 = .ok (.aload_n 0, 1) := by decide +kernel
theorem dX12_set_1 : decode cX12_set 1 = .ok (.iconst 0, 1) := by decide +kernel
theorem dX12_set_2 : decode cX12_set 2 = .ok (.putfield 125, 3) := by decide +kernel
theorem dX12_set_5 : decode cX12_set 5 = .ok (.aload_n 0, 1) := by decide +kernel
theorem dX12_set_6 : decode cX12_set 6 = .ok (.iload_n 1, 1) := by decide +kernel
theorem dX12_set_7 : decode cX12_set 7 = .ok (.iload_n 2, 1) := by decide +kernel
theorem dX12_set_8 : decode cX12_set 8 = .ok (.invokevirtual 400, 3) := by decide +kernel
theorem dX12_set_11 : decode cX12_set 11 = .ok (.ifCond .ne 9, 3) := by decide +kernel
theorem dX12_set_14 : decode cX12_set 14 = .ok (.aload_n 0, 1) := by decide +kernel
theorem dX12_set_15 : decode cX12_set 15 = .ok (.iconst 1, 1) := by decide +kernel
theorem dX12_set_16 : decode cX12_set 16 = .ok (.invokevirtual 380, 3) := by decide +kernel
theorem dX12_set_19 : decode cX12_set 19 = .ok (.ireturn, 1) := by decide +kernel
theorem dX12_set_20 : decode cX12_set 20 = .ok (.aload_n 0, 1) := by decide +kernel
theorem dX12_set_21 : decode cX12_set 21 = .ok (.iload_n 1, 1) := by decide +kernel
theorem dX12_set_22 : decode cX12_set 22 = .ok (.iload_n 2, 1) := by decide +kernel
theorem dX12_set_23 : decode cX12_set 23 = .ok (.invokevirtual 339, 3) := by decide +kernel
theorem dX12_set_26 : decode cX12_set 26 = .ok (.istore 4, 2) := by decide +kernel
theorem dX12_set_28 : decode cX12_set 28 = .ok (.aload_n 0, 1) := by decide +kernel
theorem dX12_set_29 : decode cX12_set 29 = .ok (.iload_n 1, 1) := by decide +kernel
theorem dX12_set_30 : decode cX12_set 30 = .ok (.iload_n 2, 1) := by decide +kernel
theorem dX12_set_31 : decode cX12_set 31 = .ok (.invokevirtual 403, 3) := by decide +kernel
theorem dX12_set_34 : decode cX12_set 34 = .ok (.ifCond .eq 21, 3) := by decide +kernel
theorem dX12_set_37 : decode cX12_set 37 = .ok (.iload_n 3, 1) := by decide +kernel
theorem dX12_set_38 : decode cX12_set 38 = .ok (.i2l, 1) := by decide +kernel
theorem dX12_set_39 : decode cX12_set 39 = .ok (.lconst 0, 1) := by decide +kernel
theorem dX12_set_40 : decode cX12_set 40 = .ok (.ldc2_w 490, 3) := by decide +kernel
theorem dX12_set_43 : decode cX12_set 43 = .ok (.invokestatic 383, 3) := by decide +kernel
theorem dX12_set_46 : decode cX12_set 46 = .ok (.ifCond .eq 9, 3) := by decide +kernel
theorem dX12_set_49 : decode cX12_set 49 = .ok (.iload_n 3, 1) := by decide +kernel
theorem dX12_set_50 : decode cX12_set 50 = .ok (.iload 4, 2) := by decide +kernel
theorem dX12_set_52 : decode cX12_set 52 = .ok (.if_icmp .ne 8, 3) := by decide +kernel
theorem dX12_set_55 : decode cX12_set 55 = .ok (.aload_n 0, 1) := by decide +kernel
theorem dX12_set_56 : decode cX12_set 56 = .ok (.invokevirtual 487, 3) := by decide +kernel
theorem dX12_set_59 : decode cX12_set 59 = .ok (.ireturn, 1) := by decide +kernel
theorem dX12_set_60 : decode cX12_set 60 = .ok (.aload_n 0, 1) := by decide +kernel
theorem dX12_set_61 : decode cX12_set 61 = .ok (.invokevirtual 305, 3) := by decide +kernel
theorem dX12_set_64 : decode cX12_set 64 = .ok (.aload_n 0, 1) := by decide +kernel
theorem dX12_set_65 : decode cX12_set 65 = .ok (.iload_n 1, 1) := by decide +kernel
theorem dX12_set_66 : decode cX12_set 66 = .ok (.iload_n 2, 1) := by decide +kernel
theorem dX12_set_67 : decode cX12_set 67 = .ok (.aload_n 0, 1) := by decide +kernel
theorem dX12_set_68 : decode cX12_set 68 = .ok (.iload_n 1, 1) := by decide +kernel
theorem dX12_set_69 : decode cX12_set 69 = .ok (.iload_n 2, 1) := by decide +kernel
theorem dX12_set_70 : decode cX12_set 70 = .ok (.invokevirtual 308, 3) := by decide +kernel
theorem dX12_set_73 : decode cX12_set 73 = .ok (.aload_n 0, 1) := by decide +kernel
theorem dX12_set_74 : decode cX12_set 74 = .ok (.iload_n 1, 1) := by decide +kernel
theorem dX12_set_75 : decode cX12_set 75 = .ok (.iload_n 2, 1) := by decide +kernel
theorem dX12_set_76 : decode cX12_set 76 = .ok (.invokevirtual 258, 3) := by decide +kernel
theorem dX12_set_79 : decode cX12_set 79 = .ok (.iload_n 3, 1) := by decide +kernel
theorem dX12_set_80 : decode cX12_set 80 = .ok (.invokevirtual 261, 3) := by decide +kernel
theorem dX12_set_83 : decode cX12_set 83 = .ok (.iload 4, 2) := by decide +kernel
theorem dX12_set_85 : decode cX12_set 85 = .ok (.ireturn, 1) := by decide +kernel
theorem dX12_damage_0 : decode cX12_damage 0 = .ok (.aload_n 0, 1) := by decide +kernel
theorem dX12_damage_1 : decode cX12_damage 1 = .ok (.iconst 0, 1) := by decide +kernel
theorem dX12_damage_2 : decode cX12_damage 2 = .ok (.putfield 125, 3) := by decide +kernel
theorem dX12_damage_5 : decode cX12_damage 5 = .ok (.aload_n 0, 1) := by decide +kernel
theorem dX12_damage_6 : decode cX12_damage 6 = .ok (.iload_n 1, 1) := by decide +kernel
theorem dX12_damage_7 : decode cX12_damage 7 = .ok (.iload_n 2, 1) := by decide +kernel
theorem dX12_damage_8 : decode cX12_damage 8 = .ok (.invokevirtual 400, 3) := by decide +kernel
theorem dX12_damage_11 : decode cX12_damage 11 = .ok (.ifCond .eq 13, 3) := by decide +kernel
theorem dX12_damage_14 : decode cX12_damage 14 = .ok (.iload_n 3, 1) := by decide +kernel
theorem dX12_damage_15 : decode cX12_damage 15 = .ok (.i2l, 1) := by decide +kernel
theorem dX12_damage_16 : decode cX12_damage 16 = .ok (.lconst 0, 1) := by decide +kernel
theorem dX12_damage_17 : decode cX12_damage 17 = .ok (.lconst 1, 1) := by decide +kernel
theorem dX12_damage_18 : decode cX12_damage 18 = .ok (.invokestatic 383, 3) := by decide +kernel
theorem dX12_damage_21 : decode cX12_damage 21 = .ok (.ifCond .ne 9, 3) := by decide +kernel
theorem dX12_damage_24 : decode cX12_damage 24 = .ok (.aload_n 0, 1) := by decide +kernel
theorem dX12_damage_25 : decode cX12_damage 25 = .ok (.iconst 1, 1) := by decide +kernel
theorem dX12_damage_26 : decode cX12_damage 26 = .ok (.invokevirtual 380, 3) := by decide +kernel
theorem dX12_damage_29 : decode cX12_damage 29 = .ok (.ireturn, 1) := by decide +kernel
theorem dX12_damage_30 : decode cX12_damage 30 = .ok (.iload_n 3, 1) := by decide +kernel
theorem dX12_damage_31 : decode cX12_damage 31 = .ok (.ifCond .ne 12, 3) := by decide +kernel
theorem dX12_damage_34 : decode cX12_damage 34 = .ok (.aload_n 0, 1) := by decide +kernel
theorem dX12_damage_35 : decode cX12_damage 35 = .ok (.iload_n 1, 1) := by decide +kernel
theorem dX12_damage_36 : decode cX12_damage 36 = .ok (.iload_n 2, 1) := by decide +kernel
theorem dX12_damage_37 : decode cX12_damage 37 = .ok (.invokevirtual 308, 3) := by decide +kernel
theorem dX12_damage_40 : decode cX12_damage 40 = .ok (.goto 9, 3) := by decide +kernel
theorem dX12_damage_43 : decode cX12_damage 43 = .ok (.aload_n 0, 1) := by decide +kernel
theorem dX12_damage_44 : decode cX12_damage 44 = .ok (.iload_n 1, 1) := by decide +kernel
theorem dX12_damage_45 : decode cX12_damage 45 = .ok (.iload_n 2, 1) := by decide +kernel
theorem dX12_damage_46 : decode cX12_damage 46 = .ok (.invokevirtual 258, 3) := by decide +kernel
theorem dX12_damage_49 : decode cX12_damage 49 = .ok (.istore 5, 2) := by decide +kernel
theorem dX12_damage_51 : decode cX12_damage 51 = .ok (.iload 4, 2) := by decide +kernel
theorem dX12_damage_53 : decode cX12_damage 53 = .ok (.i2l, 1) := by decide +kernel
theorem dX12_damage_54 : decode cX12_damage 54 = .ok (.lconst 0, 1) := by decide +kernel
theorem dX12_damage_55 : decode cX12_damage 55 = .ok (.ldc2_w 492, 3) := by decide +kernel
theorem dX12_damage_58 : decode cX12_damage 58 = .ok (.invokestatic 383, 3) := by decide +kernel
theorem dX12_damage_61 : decode cX12_damage 61 = .ok (.ifCond .eq 10, 3) := by decide +kernel
theorem dX12_damage_64 : decode cX12_damage 64 = .ok (.iload 4, 2) := by decide +kernel
theorem dX12_damage_66 : decode cX12_damage 66 = .ok (.iload 5, 2) := by decide +kernel
theorem dX12_damage_68 : decode cX12_damage 68 = .ok (.if_icmp .ne 8, 3) := by decide +kernel
theorem dX12_damage_71 : decode cX12_damage 71 = .ok (.aload_n 0, 1) := by decide +kernel
theorem dX12_damage_72 : decode cX12_damage 72 = .ok (.invokevirtual 487, 3) := by decide +kernel
theorem dX12_damage_75 : decode cX12_damage 75 = .ok (.ireturn, 1) := by decide +kernel
theorem dX12_damage_76 : decode cX12_damage 76 = .ok (.aload_n 0, 1) := by decide +kernel
theorem dX12_damage_77 : decode cX12_damage 77 = .ok (.invokevirtual 305, 3) := by decide +kernel
theorem dX12_damage_80 : decode cX12_damage 80 = .ok (.aload_n 0, 1) := by decide +kernel
theorem dX12_damage_81 : decode cX12_damage 81 = .ok (.iload_n 1, 1) := by decide +kernel
theorem dX12_damage_82 : decode cX12_damage 82 = .ok (.iload_n 2, 1) := by decide +kernel
theorem dX12_damage_83 : decode cX12_damage 83 = .ok (.iload_n 3, 1) := by decide +kernel
theorem dX12_damage_84 : decode cX12_damage 84 = .ok (.ifCond .ne 8, 3) := by decide +kernel
theorem dX12_damage_87 : decode cX12_damage 87 = .ok (.iload 4, 2) := by decide +kernel
theorem dX12_damage_89 : decode cX12_damage 89 = .ok (.goto 9, 3) := by decide +kernel
theorem dX12_damage_92 : decode cX12_damage 92 = .ok (.aload_n 0, 1) := by decide +kernel
theorem dX12_damage_93 : decode cX12_damage 93 = .ok (.iload_n 1, 1) := by decide +kernel
theorem dX12_damage_94 : decode cX12_damage 94 = .ok (.iload_n 2, 1) := by decide +kernel
theorem dX12_damage_95 : decode cX12_damage 95 = .ok (.invokevirtual 308, 3) := by decide +kernel
theorem dX12_damage_98 : decode cX12_damage 98 = .ok (.iload_n 3, 1) := by decide +kernel
theorem dX12_damage_99 : decode cX12_damage 99 = .ok (.ifCond .ne 12, 3) := by decide +kernel
theorem dX12_damage_102 : decode cX12_damage 102 = .ok (.aload_n 0, 1) := by decide +kernel
theorem dX12_damage_103 : decode cX12_damage 103 = .ok (.iload_n 1, 1) := by decide +kernel
theorem dX12_damage_104 : decode cX12_damage 104 = .ok (.iload_n 2, 1) := by decide +kernel
theorem dX12_damage_105 : decode cX12_damage 105 = .ok (.invokevirtual 258, 3) := by decide +kernel
theorem dX12_damage_108 : decode cX12_damage 108 = .ok (.goto 5, 3) := by decide +kernel
theorem dX12_damage_111 : decode cX12_damage 111 = .ok (.iload 4, 2) := by decide +kernel
theorem dX12_damage_113 : decode cX12_damage 113 = .ok (.aload_n 0, 1) := by decide +kernel
theorem dX12_damage_114 : decode cX12_damage 114 = .ok (.iload_n 1, 1) := by decide +kernel
theorem dX12_damage_115 : decode cX12_damage 115 = .ok (.iload_n 2, 1) := by decide +kernel
theorem dX12_damage_116 : decode cX12_damage 116 = .ok (.invokevirtual 339, 3) := by decide +kernel
theorem dX12_damage_119 : decode cX12_damage 119 = .ok (.invokevirtual 261, 3) := by decide +kernel
theorem dX12_damage_122 : decode cX12_damage 122 = .ok (.iload 5, 2) := by decide +kernel
theorem dX12_damage_124 : decode cX12_damage 124 = .ok (.ireturn, 1) := by decide +kernel
theorem dX12_undo_0 : decode cX12_undo 0 = .ok (.aload_n 0, 1) := by decide +kernel
theorem dX12_undo_1 : decode cX12_undo 1 = .ok (.iconst 0, 1) := by decide +kernel
theorem dX12_undo_2 : decode cX12_undo 2 = .ok (.putfield 125, 3) := by decide +kernel
theorem dX12_undo_5 : decode cX12_undo 5 = .ok (.aload_n 0, 1) := by decide +kernel
theorem dX12_undo_6 : decode cX12_undo 6 = .ok (.getfield 252, 3) := by decide +kernel
theorem dX12_undo_9 : decode cX12_undo 9 = .ok (.ifCond .ne 5, 3) := by decide +kernel
theorem dX12_undo_12 : decode cX12_undo 12 = .ok (.iconst (-1), 1) := by decide +kernel
theorem dX12_undo_13 : decode cX12_undo 13 = .ok (.ireturn, 1) := by decide +kernel
theorem dX12_undo_14 : decode cX12_undo 14 = .ok (.aload_n 0, 1) := by decide +kernel
theorem dX12_undo_15 : decode cX12_undo 15 = .ok (.dup, 1) := by decide +kernel
theorem dX12_undo_16 : decode cX12_undo 16 = .ok (.getfield 252, 3) := by decide +kernel
theorem dX12_undo_19 : decode cX12_undo 19 = .ok (.iconst 1, 1) := by decide +kernel
theorem dX12_undo_20 : decode cX12_undo 20 = .ok (.isub, 1) := by decide +kernel
theorem dX12_undo_21 : decode cX12_undo 21 = .ok (.putfield 252, 3) := by decide +kernel
theorem dX12_undo_24 : decode cX12_undo 24 = .ok (.aload_n 0, 1) := by decide +kernel
theorem dX12_undo_25 : decode cX12_undo 25 = .ok (.aload_n 0, 1) := by decide +kernel
theorem dX12_undo_26 : decode cX12_undo 26 = .ok (.getfield 89, 3) := by decide +kernel
theorem dX12_undo_29 : decode cX12_undo 29 = .ok (.sipush 969, 3) := by decide +kernel
theorem dX12_undo_32 : decode cX12_undo 32 = .ok (.aload_n 0, 1) := by decide +kernel
theorem dX12_undo_33 : decode cX12_undo 33 = .ok (.getfield 252, 3) := by decide +kernel
theorem dX12_undo_36 : decode cX12_undo 36 = .ok (.imul, 1) := by decide +kernel
theorem dX12_undo_37 : decode cX12_undo 37 = .ok (.invokevirtual 302, 3) := by decide +kernel
theorem dX12_undo_40 : decode cX12_undo 40 = .ok (.aload_n 0, 1) := by decide +kernel
theorem dX12_undo_41 : decode cX12_undo 41 = .ok (.getfield 252, 3) := by decide +kernel
theorem dX12_undo_44 : decode cX12_undo 44 = .ok (.ireturn, 1) := by decide +kernel
theorem dX12_drawOf_0 : decode cX12_drawOf 0 = .ok (.aload_n 0, 1) := by decide +kernel
theorem dX12_drawOf_1 : decode cX12_drawOf 1 = .ok (.aload_n 0, 1) := by decide +kernel
theorem dX12_drawOf_2 : decode cX12_drawOf 2 = .ok (.getfield 494, 3) := by decide +kernel
theorem dX12_drawOf_5 : decode cX12_drawOf 5 = .ok (.ldc_w 497, 3) := by decide +kernel
theorem dX12_drawOf_8 : decode cX12_drawOf 8 = .ok (.imul, 1) := by decide +kernel
theorem dX12_drawOf_9 : decode cX12_drawOf 9 = .ok (.sipush 12345, 3) := by decide +kernel
theorem dX12_drawOf_12 : decode cX12_drawOf 12 = .ok (.iadd, 1) := by decide +kernel
theorem dX12_drawOf_13 : decode cX12_drawOf 13 = .ok (.putfield 494, 3) := by decide +kernel
theorem dX12_drawOf_16 : decode cX12_drawOf 16 = .ok (.aload_n 0, 1) := by decide +kernel
theorem dX12_drawOf_17 : decode cX12_drawOf 17 = .ok (.getfield 494, 3) := by decide +kernel
theorem dX12_drawOf_20 : decode cX12_drawOf 20 = .ok (.bipush 16, 2) := by decide +kernel
theorem dX12_drawOf_22 : decode cX12_drawOf 22 = .ok (.ishr, 1) := by decide +kernel
theorem dX12_drawOf_23 : decode cX12_drawOf 23 = .ok (.sipush 32767, 3) := by decide +kernel
theorem dX12_drawOf_26 : decode cX12_drawOf 26 = .ok (.iand, 1) := by decide +kernel
theorem dX12_drawOf_27 : decode cX12_drawOf 27 = .ok (.iload_n 1, 1) := by decide +kernel
theorem dX12_drawOf_28 : decode cX12_drawOf 28 = .ok (.irem, 1) := by decide +kernel
theorem dX12_drawOf_29 : decode cX12_drawOf 29 = .ok (.ireturn, 1) := by decide +kernel
theorem dX12_drawItem_0 : decode cX12_drawItem 0 = .ok (.aload_n 0, 1) := by decide +kernel
theorem dX12_drawItem_1 : decode cX12_drawItem 1 = .ok (.getfield 55, 3) := by decide +kernel
theorem dX12_drawItem_4 : decode cX12_drawItem 4 = .ok (.iload_n 1, 1) := by decide +kernel
theorem dX12_drawItem_5 : decode cX12_drawItem 5 = .ok (.iaload, 1) := by decide +kernel
theorem dX12_drawItem_6 : decode cX12_drawItem 6 = .ok (.iconst (-1), 1) := by decide +kernel
theorem dX12_drawItem_7 : decode cX12_drawItem 7 = .ok (.if_icmp .eq 24, 3) := by decide +kernel
theorem dX12_drawItem_10 : decode cX12_drawItem 10 = .ok (.aload_n 0, 1) := by decide +kernel
theorem dX12_drawItem_11 : decode cX12_drawItem 11 = .ok (.aload_n 0, 1) := by decide +kernel
theorem dX12_drawItem_12 : decode cX12_drawItem 12 = .ok (.getfield 55, 3) := by decide +kernel
theorem dX12_drawItem_15 : decode cX12_drawItem 15 = .ok (.iload_n 1, 1) := by decide +kernel
theorem dX12_drawItem_16 : decode cX12_drawItem 16 = .ok (.iaload, 1) := by decide +kernel
theorem dX12_drawItem_17 : decode cX12_drawItem 17 = .ok (.iload_n 2, 1) := by decide +kernel
theorem dX12_drawItem_18 : decode cX12_drawItem 18 = .ok (.iload_n 3, 1) := by decide +kernel
theorem dX12_drawItem_19 : decode cX12_drawItem 19 = .ok (.aload_n 0, 1) := by decide +kernel
theorem dX12_drawItem_20 : decode cX12_drawItem 20 = .ok (.bipush 100, 2) := by decide +kernel
theorem dX12_drawItem_22 : decode cX12_drawItem 22 = .ok (.invokevirtual 498, 3) := by decide +kernel
theorem dX12_drawItem_25 : decode cX12_drawItem 25 = .ok (.invokevirtual 268, 3) := by decide +kernel
theorem dX12_drawItem_28 : decode cX12_drawItem 28 = .ok (.goto 10, 3) := by decide +kernel
theorem dX12_drawItem_31 : decode cX12_drawItem 31 = .ok (.aload_n 0, 1) := by decide +kernel
theorem dX12_drawItem_32 : decode cX12_drawItem 32 = .ok (.iload_n 1, 1) := by decide +kernel
theorem dX12_drawItem_33 : decode cX12_drawItem 33 = .ok (.iload_n 2, 1) := by decide +kernel
theorem dX12_drawItem_34 : decode cX12_drawItem 34 = .ok (.iload_n 3, 1) := by decide +kernel
theorem dX12_drawItem_35 : decode cX12_drawItem 35 = .ok (.invokevirtual 501, 3) := by decide +kernel
theorem dX12_drawItem_38 : decode cX12_drawItem 38 = .ok (.return_, 1) := by decide +kernel
theorem dX12_drawValues_0 : decode cX12_drawValues 0 = .ok (.iconst 0, 1) := by decide +kernel
theorem dX12_drawValues_1 : decode cX12_drawValues 1 = .ok (.istore 4, 2) := by decide +kernel
theorem dX12_drawValues_3 : decode cX12_drawValues 3 = .ok (.iload 4, 2) := by decide +kernel
theorem dX12_drawValues_5 : decode cX12_drawValues 5 = .ok (.aload_n 0, 1) := by decide +kernel
theorem dX12_drawValues_6 : decode cX12_drawValues 6 = .ok (.getfield 73, 3) := by decide +kernel
theorem dX12_drawValues_9 : decode cX12_drawValues 9 = .ok (.iconst 0, 1) := by decide +kernel
theorem dX12_drawValues_10 : decode cX12_drawValues 10 = .ok (.iaload, 1) := by decide +kernel
theorem dX12_drawValues_11 : decode cX12_drawValues 11 = .ok (.if_icmp .ge 127, 3) := by decide +kernel
theorem dX12_drawValues_14 : decode cX12_drawValues 14 = .ok (.aload_n 0, 1) := by decide +kernel
theorem dX12_drawValues_15 : decode cX12_drawValues 15 = .ok (.getfield 52, 3) := by decide +kernel
theorem dX12_drawValues_18 : decode cX12_drawValues 18 = .ok (.iload 4, 2) := by decide +kernel
theorem dX12_drawValues_20 : decode cX12_drawValues 20 = .ok (.iaload, 1) := by decide +kernel
theorem dX12_drawValues_21 : decode cX12_drawValues 21 = .ok (.iload_n 1, 1) := by decide +kernel
theorem dX12_drawValues_22 : decode cX12_drawValues 22 = .ok (.if_icmp .eq 6, 3) := by decide +kernel
theorem dX12_drawValues_25 : decode cX12_drawValues 25 = .ok (.goto 107, 3) := by decide +kernel
theorem dX12_drawValues_28 : decode cX12_drawValues 28 = .ok (.aload_n 0, 1) := by decide +kernel
theorem dX12_drawValues_29 : decode cX12_drawValues 29 = .ok (.getfield 49, 3) := by decide +kernel
theorem dX12_drawValues_32 : decode cX12_drawValues 32 = .ok (.iload 4, 2) := by decide +kernel
theorem dX12_drawValues_34 : decode cX12_drawValues 34 = .ok (.iaload, 1) := by decide +kernel
theorem dX12_drawValues_35 : decode cX12_drawValues 35 = .ok (.ifCond .ne 7, 3) := by decide +kernel
theorem dX12_drawValues_38 : decode cX12_drawValues 38 = .ok (.iconst 1, 1) := by decide +kernel
theorem dX12_drawValues_39 : decode cX12_drawValues 39 = .ok (.goto 23, 3) := by decide +kernel
theorem dX12_drawValues_42 : decode cX12_drawValues 42 = .ok (.aload_n 0, 1) := by decide +kernel
theorem dX12_drawValues_43 : decode cX12_drawValues 43 = .ok (.aload_n 0, 1) := by decide +kernel
theorem dX12_drawValues_44 : decode cX12_drawValues 44 = .ok (.getfield 49, 3) := by decide +kernel
theorem dX12_drawValues_47 : decode cX12_drawValues 47 = .ok (.iload 4, 2) := by decide +kernel
theorem dX12_drawValues_49 : decode cX12_drawValues 49 = .ok (.iaload, 1) := by decide +kernel
theorem dX12_drawValues_50 : decode cX12_drawValues 50 = .ok (.iconst 1, 1) := by decide +kernel
theorem dX12_drawValues_51 : decode cX12_drawValues 51 = .ok (.if_icmp .ne 7, 3) := by decide +kernel
theorem dX12_drawValues_54 : decode cX12_drawValues 54 = .ok (.iconst 2, 1) := by decide +kernel
theorem dX12_drawValues_55 : decode cX12_drawValues 55 = .ok (.goto 4, 3) := by decide +kernel
theorem dX12_drawValues_58 : decode cX12_drawValues 58 = .ok (.iconst 3, 1) := by decide +kernel
theorem dX12_drawValues_59 : decode cX12_drawValues 59 = .ok (.invokevirtual 498, 3) := by decide +kernel
theorem dX12_drawValues_62 : decode cX12_drawValues 62 = .ok (.istore 5, 2) := by decide +kernel
theorem dX12_drawValues_64 : decode cX12_drawValues 64 = .ok (.iload 5, 2) := by decide +kernel
theorem dX12_drawValues_66 : decode cX12_drawValues 66 = .ok (.ifCond .ne 11, 3) := by decide +kernel
theorem dX12_drawValues_69 : decode cX12_drawValues 69 = .ok (.aload_n 0, 1) := by decide +kernel
theorem dX12_drawValues_70 : decode cX12_drawValues 70 = .ok (.iload 4, 2) := by decide +kernel
theorem dX12_drawValues_72 : decode cX12_drawValues 72 = .ok (.iload_n 2, 1) := by decide +kernel
theorem dX12_drawValues_73 : decode cX12_drawValues 73 = .ok (.iload_n 3, 1) := by decide +kernel
theorem dX12_drawValues_74 : decode cX12_drawValues 74 = .ok (.invokevirtual 279, 3) := by decide +kernel
theorem dX12_drawValues_77 : decode cX12_drawValues 77 = .ok (.iconst 0, 1) := by decide +kernel
theorem dX12_drawValues_78 : decode cX12_drawValues 78 = .ok (.istore 6, 2) := by decide +kernel
theorem dX12_drawValues_80 : decode cX12_drawValues 80 = .ok (.iload 6, 2) := by decide +kernel
theorem dX12_drawValues_82 : decode cX12_drawValues 82 = .ok (.iload 5, 2) := by decide +kernel
theorem dX12_drawValues_84 : decode cX12_drawValues 84 = .ok (.if_icmp .ge 48, 3) := by decide +kernel
theorem dX12_drawValues_87 : decode cX12_drawValues 87 = .ok (.aload_n 0, 1) := by decide +kernel
theorem dX12_drawValues_88 : decode cX12_drawValues 88 = .ok (.iload 4, 2) := by decide +kernel
theorem dX12_drawValues_90 : decode cX12_drawValues 90 = .ok (.iload 6, 2) := by decide +kernel
theorem dX12_drawValues_92 : decode cX12_drawValues 92 = .ok (.ifCond .ne 7, 3) := by decide +kernel
theorem dX12_drawValues_95 : decode cX12_drawValues 95 = .ok (.iload_n 2, 1) := by decide +kernel
theorem dX12_drawValues_96 : decode cX12_drawValues 96 = .ok (.goto 10, 3) := by decide +kernel
theorem dX12_drawValues_99 : decode cX12_drawValues 99 = .ok (.aload_n 0, 1) := by decide +kernel
theorem dX12_drawValues_100 : decode cX12_drawValues 100 = .ok (.getfield 61, 3) := by decide +kernel
theorem dX12_drawValues_103 : decode cX12_drawValues 103 = .ok (.iload 4, 2) := by decide +kernel
theorem dX12_drawValues_105 : decode cX12_drawValues 105 = .ok (.iaload, 1) := by decide +kernel
theorem dX12_drawValues_106 : decode cX12_drawValues 106 = .ok (.iload_n 3, 1) := by decide +kernel
theorem dX12_drawValues_107 : decode cX12_drawValues 107 = .ok (.aload_n 0, 1) := by decide +kernel
theorem dX12_drawValues_108 : decode cX12_drawValues 108 = .ok (.getfield 49, 3) := by decide +kernel
theorem dX12_drawValues_111 : decode cX12_drawValues 111 = .ok (.iload 4, 2) := by decide +kernel
theorem dX12_drawValues_113 : decode cX12_drawValues 113 = .ok (.iaload, 1) := by decide +kernel
theorem dX12_drawValues_114 : decode cX12_drawValues 114 = .ok (.ifCond .ne 7, 3) := by decide +kernel
theorem dX12_drawValues_117 : decode cX12_drawValues 117 = .ok (.iconst 0, 1) := by decide +kernel
theorem dX12_drawValues_118 : decode cX12_drawValues 118 = .ok (.goto 4, 3) := by decide +kernel
theorem dX12_drawValues_121 : decode cX12_drawValues 121 = .ok (.iconst 1, 1) := by decide +kernel
theorem dX12_drawValues_122 : decode cX12_drawValues 122 = .ok (.iadd, 1) := by decide +kernel
theorem dX12_drawValues_123 : decode cX12_drawValues 123 = .ok (.invokevirtual 504, 3) := by decide +kernel
theorem dX12_drawValues_126 : decode cX12_drawValues 126 = .ok (.iinc 6 1, 3) := by decide +kernel
theorem dX12_drawValues_129 : decode cX12_drawValues 129 = .ok (.goto (-49), 3) := by decide +kernel
theorem dX12_drawValues_132 : decode cX12_drawValues 132 = .ok (.iinc 4 1, 3) := by decide +kernel
theorem dX12_drawValues_135 : decode cX12_drawValues 135 = .ok (.goto (-132), 3) := by decide +kernel
theorem dX12_drawValues_138 : decode cX12_drawValues 138 = .ok (.return_, 1) := by decide +kernel
theorem dX12_valuesSum_0 : decode cX12_valuesSum 0 = .ok (.iconst 0, 1) := by decide +kernel
theorem dX12_valuesSum_1 : decode cX12_valuesSum 1 = .ok (.istore_n 1, 1) := by decide +kernel
theorem dX12_valuesSum_2 : decode cX12_valuesSum 2 = .ok (.iconst 0, 1) := by decide +kernel
theorem dX12_valuesSum_3 : decode cX12_valuesSum 3 = .ok (.istore_n 2, 1) := by decide +kernel
theorem dX12_valuesSum_4 : decode cX12_valuesSum 4 = .ok (.iload_n 2, 1) := by decide +kernel
theorem dX12_valuesSum_5 : decode cX12_valuesSum 5 = .ok (.aload_n 0, 1) := by decide +kernel
theorem dX12_valuesSum_6 : decode cX12_valuesSum 6 = .ok (.getfield 76, 3) := by decide +kernel
theorem dX12_valuesSum_9 : decode cX12_valuesSum 9 = .ok (.iconst 0, 1) := by decide +kernel
theorem dX12_valuesSum_10 : decode cX12_valuesSum 10 = .ok (.iaload, 1) := by decide +kernel
theorem dX12_valuesSum_11 : decode cX12_valuesSum 11 = .ok (.if_icmp .ge 49, 3) := by decide +kernel
theorem dX12_valuesSum_14 : decode cX12_valuesSum 14 = .ok (.iconst 0, 1) := by decide +kernel
theorem dX12_valuesSum_15 : decode cX12_valuesSum 15 = .ok (.istore_n 3, 1) := by decide +kernel
theorem dX12_valuesSum_16 : decode cX12_valuesSum 16 = .ok (.iload_n 3, 1) := by decide +kernel
theorem dX12_valuesSum_17 : decode cX12_valuesSum 17 = .ok (.aload_n 0, 1) := by decide +kernel
theorem dX12_valuesSum_18 : decode cX12_valuesSum 18 = .ok (.getfield 85, 3) := by decide +kernel
theorem dX12_valuesSum_21 : decode cX12_valuesSum 21 = .ok (.iload_n 2, 1) := by decide +kernel
theorem dX12_valuesSum_22 : decode cX12_valuesSum 22 = .ok (.iaload, 1) := by decide +kernel
theorem dX12_valuesSum_23 : decode cX12_valuesSum 23 = .ok (.if_icmp .ge 31, 3) := by decide +kernel
theorem dX12_valuesSum_26 : decode cX12_valuesSum 26 = .ok (.iload_n 1, 1) := by decide +kernel
theorem dX12_valuesSum_27 : decode cX12_valuesSum 27 = .ok (.aload_n 0, 1) := by decide +kernel
theorem dX12_valuesSum_28 : decode cX12_valuesSum 28 = .ok (.iload_n 2, 1) := by decide +kernel
theorem dX12_valuesSum_29 : decode cX12_valuesSum 29 = .ok (.iload_n 3, 1) := by decide +kernel
theorem dX12_valuesSum_30 : decode cX12_valuesSum 30 = .ok (.invokevirtual 403, 3) := by decide +kernel
theorem dX12_valuesSum_33 : decode cX12_valuesSum 33 = .ok (.ifCond .eq 12, 3) := by decide +kernel
theorem dX12_valuesSum_36 : decode cX12_valuesSum 36 = .ok (.aload_n 0, 1) := by decide +kernel
theorem dX12_valuesSum_37 : decode cX12_valuesSum 37 = .ok (.iload_n 2, 1) := by decide +kernel
theorem dX12_valuesSum_38 : decode cX12_valuesSum 38 = .ok (.iload_n 3, 1) := by decide +kernel
theorem dX12_valuesSum_39 : decode cX12_valuesSum 39 = .ok (.invokevirtual 339, 3) := by decide +kernel
theorem dX12_valuesSum_42 : decode cX12_valuesSum 42 = .ok (.goto 4, 3) := by decide +kernel
theorem dX12_valuesSum_45 : decode cX12_valuesSum 45 = .ok (.iconst 0, 1) := by decide +kernel
theorem dX12_valuesSum_46 : decode cX12_valuesSum 46 = .ok (.iadd, 1) := by decide +kernel
theorem dX12_valuesSum_47 : decode cX12_valuesSum 47 = .ok (.istore_n 1, 1) := by decide +kernel
theorem dX12_valuesSum_48 : decode cX12_valuesSum 48 = .ok (.iinc 3 1, 3) := by decide +kernel
theorem dX12_valuesSum_51 : decode cX12_valuesSum 51 = .ok (.goto (-35), 3) := by decide +kernel
theorem dX12_valuesSum_54 : decode cX12_valuesSum 54 = .ok (.iinc 2 1, 3) := by decide +kernel
theorem dX12_valuesSum_57 : decode cX12_valuesSum 57 = .ok (.goto (-53), 3) := by decide +kernel
theorem dX12_valuesSum_60 : decode cX12_valuesSum 60 = .ok (.iload_n 1, 1) := by decide +kernel
theorem dX12_valuesSum_61 : decode cX12_valuesSum 61 = .ok (.ireturn, 1) := by decide +kernel
theorem dX12_years_0 : decode cX12_years 0 = .ok (.aload_n 0, 1) := by decide +kernel
theorem dX12_years_1 : decode cX12_years 1 = .ok (.iconst 0, 1) := by decide +kernel
theorem dX12_years_2 : decode cX12_years 2 = .ok (.putfield 125, 3) := by decide +kernel
theorem dX12_years_5 : decode cX12_years 5 = .ok (.iload_n 3, 1) := by decide +kernel
theorem dX12_years_6 : decode cX12_years 6 = .ok (.i2l, 1) := by decide +kernel
theorem dX12_years_7 : decode cX12_years 7 = .ok (.lconst 0, 1) := by decide +kernel
theorem dX12_years_8 : decode cX12_years 8 = .ok (.ldc2_w 507, 3) := by decide +kernel
theorem dX12_years_11 : decode cX12_years 11 = .ok (.invokestatic 383, 3) := by decide +kernel
theorem dX12_years_14 : decode cX12_years 14 = .ok (.ifCond .ne 9, 3) := by decide +kernel
theorem dX12_years_17 : decode cX12_years 17 = .ok (.aload_n 0, 1) := by decide +kernel
theorem dX12_years_18 : decode cX12_years 18 = .ok (.iconst 1, 1) := by decide +kernel
theorem dX12_years_19 : decode cX12_years 19 = .ok (.invokevirtual 380, 3) := by decide +kernel
theorem dX12_years_22 : decode cX12_years 22 = .ok (.ireturn, 1) := by decide +kernel
theorem dX12_years_23 : decode cX12_years 23 = .ok (.iload_n 2, 1) := by decide +kernel
theorem dX12_years_24 : decode cX12_years 24 = .ok (.i2l, 1) := by decide +kernel
theorem dX12_years_25 : decode cX12_years 25 = .ok (.lconst 0, 1) := by decide +kernel
theorem dX12_years_26 : decode cX12_years 26 = .ok (.ldc2_w 509, 3) := by decide +kernel
theorem dX12_years_29 : decode cX12_years 29 = .ok (.invokestatic 383, 3) := by decide +kernel
theorem dX12_years_32 : decode cX12_years 32 = .ok (.ifCond .ne 9, 3) := by decide +kernel
theorem dX12_years_35 : decode cX12_years 35 = .ok (.aload_n 0, 1) := by decide +kernel
theorem dX12_years_36 : decode cX12_years 36 = .ok (.iconst 2, 1) := by decide +kernel
theorem dX12_years_37 : decode cX12_years 37 = .ok (.invokevirtual 380, 3) := by decide +kernel
theorem dX12_years_40 : decode cX12_years 40 = .ok (.ireturn, 1) := by decide +kernel
theorem dX12_years_41 : decode cX12_years 41 = .ok (.aload_n 0, 1) := by decide +kernel
theorem dX12_years_42 : decode cX12_years 42 = .ok (.getfield 73, 3) := by decide +kernel
theorem dX12_years_45 : decode cX12_years 45 = .ok (.iconst 0, 1) := by decide +kernel
theorem dX12_years_46 : decode cX12_years 46 = .ok (.iaload, 1) := by decide +kernel
theorem dX12_years_47 : decode cX12_years 47 = .ok (.ifCond .eq 10, 3) := by decide +kernel
theorem dX12_years_50 : decode cX12_years 50 = .ok (.aload_n 0, 1) := by decide +kernel
theorem dX12_years_51 : decode cX12_years 51 = .ok (.invokevirtual 288, 3) := by decide +kernel
theorem dX12_years_54 : decode cX12_years 54 = .ok (.ifCond .eq 5, 3) := by decide +kernel
theorem dX12_years_57 : decode cX12_years 57 = .ok (.iconst 0, 1) := by decide +kernel
theorem dX12_years_58 : decode cX12_years 58 = .ok (.ireturn, 1) := by decide +kernel
theorem dX12_years_59 : decode cX12_years 59 = .ok (.aload_n 0, 1) := by decide +kernel
theorem dX12_years_60 : decode cX12_years 60 = .ok (.aload_n 0, 1) := by decide +kernel
theorem dX12_years_61 : decode cX12_years 61 = .ok (.getfield 92, 3) := by decide +kernel
theorem dX12_years_64 : decode cX12_years 64 = .ok (.iconst 0, 1) := by decide +kernel
theorem dX12_years_65 : decode cX12_years 65 = .ok (.invokevirtual 291, 3) := by decide +kernel
theorem dX12_years_68 : decode cX12_years 68 = .ok (.aload_n 0, 1) := by decide +kernel
theorem dX12_years_69 : decode cX12_years 69 = .ok (.iload_n 1, 1) := by decide +kernel
theorem dX12_years_70 : decode cX12_years 70 = .ok (.putfield 494, 3) := by decide +kernel
theorem dX12_years_73 : decode cX12_years 73 = .ok (.iconst 0, 1) := by decide +kernel
theorem dX12_years_74 : decode cX12_years 74 = .ok (.istore 4, 2) := by decide +kernel
theorem dX12_years_76 : decode cX12_years 76 = .ok (.iload 4, 2) := by decide +kernel
theorem dX12_years_78 : decode cX12_years 78 = .ok (.iload_n 2, 1) := by decide +kernel
theorem dX12_years_79 : decode cX12_years 79 = .ok (.if_icmp .ge 51, 3) := by decide +kernel
theorem dX12_years_82 : decode cX12_years 82 = .ok (.aload_n 0, 1) := by decide +kernel
theorem dX12_years_83 : decode cX12_years 83 = .ok (.aload_n 0, 1) := by decide +kernel
theorem dX12_years_84 : decode cX12_years 84 = .ok (.getfield 95, 3) := by decide +kernel
theorem dX12_years_87 : decode cX12_years 87 = .ok (.iconst 0, 1) := by decide +kernel
theorem dX12_years_88 : decode cX12_years 88 = .ok (.invokevirtual 291, 3) := by decide +kernel
theorem dX12_years_91 : decode cX12_years 91 = .ok (.aload_n 0, 1) := by decide +kernel
theorem dX12_years_92 : decode cX12_years 92 = .ok (.iconst (-1), 1) := by decide +kernel
theorem dX12_years_93 : decode cX12_years 93 = .ok (.iconst 0, 1) := by decide +kernel
theorem dX12_years_94 : decode cX12_years 94 = .ok (.iconst 0, 1) := by decide +kernel
theorem dX12_years_95 : decode cX12_years 95 = .ok (.invokevirtual 501, 3) := by decide +kernel
theorem dX12_years_98 : decode cX12_years 98 = .ok (.aload_n 0, 1) := by decide +kernel
theorem dX12_years_99 : decode cX12_years 99 = .ok (.dup, 1) := by decide +kernel
theorem dX12_years_100 : decode cX12_years 100 = .ok (.getfield 249, 3) := by decide +kernel
theorem dX12_years_103 : decode cX12_years 103 = .ok (.iconst 1, 1) := by decide +kernel
theorem dX12_years_104 : decode cX12_years 104 = .ok (.iadd, 1) := by decide +kernel
theorem dX12_years_105 : decode cX12_years 105 = .ok (.putfield 249, 3) := by decide +kernel
theorem dX12_years_108 : decode cX12_years 108 = .ok (.aload_n 0, 1) := by decide +kernel
theorem dX12_years_109 : decode cX12_years 109 = .ok (.invokevirtual 299, 3) := by decide +kernel
theorem dX12_years_112 : decode cX12_years 112 = .ok (.ifCond .eq 12, 3) := by decide +kernel
theorem dX12_years_115 : decode cX12_years 115 = .ok (.aload_n 0, 1) := by decide +kernel
theorem dX12_years_116 : decode cX12_years 116 = .ok (.aload_n 0, 1) := by decide +kernel
theorem dX12_years_117 : decode cX12_years 117 = .ok (.getfield 95, 3) := by decide +kernel
theorem dX12_years_120 : decode cX12_years 120 = .ok (.iconst 0, 1) := by decide +kernel
theorem dX12_years_121 : decode cX12_years 121 = .ok (.invokevirtual 302, 3) := by decide +kernel
theorem dX12_years_124 : decode cX12_years 124 = .ok (.iinc 4 1, 3) := by decide +kernel
theorem dX12_years_127 : decode cX12_years 127 = .ok (.goto (-51), 3) := by decide +kernel
theorem dX12_years_130 : decode cX12_years 130 = .ok (.iload_n 3, 1) := by decide +kernel
theorem dX12_years_131 : decode cX12_years 131 = .ok (.ifCond .ne 10, 3) := by decide +kernel
theorem dX12_years_134 : decode cX12_years 134 = .ok (.aload_n 0, 1) := by decide +kernel
theorem dX12_years_135 : decode cX12_years 135 = .ok (.getfield 249, 3) := by decide +kernel
theorem dX12_years_138 : decode cX12_years 138 = .ok (.goto 19, 3) := by decide +kernel
theorem dX12_years_141 : decode cX12_years 141 = .ok (.iload_n 3, 1) := by decide +kernel
theorem dX12_years_142 : decode cX12_years 142 = .ok (.iconst 1, 1) := by decide +kernel
theorem dX12_years_143 : decode cX12_years 143 = .ok (.if_icmp .ne 10, 3) := by decide +kernel
theorem dX12_years_146 : decode cX12_years 146 = .ok (.aload_n 0, 1) := by decide +kernel
theorem dX12_years_147 : decode cX12_years 147 = .ok (.invokevirtual 511, 3) := by decide +kernel
theorem dX12_years_150 : decode cX12_years 150 = .ok (.goto 7, 3) := by decide +kernel
theorem dX12_years_153 : decode cX12_years 153 = .ok (.aload_n 0, 1) := by decide +kernel
theorem dX12_years_154 : decode cX12_years 154 = .ok (.invokevirtual 367, 3) := by decide +kernel
theorem dX12_years_157 : decode cX12_years 157 = .ok (.istore 4, 2) := by decide +kernel
theorem dX12_years_159 : decode cX12_years 159 = .ok (.aload_n 0, 1) := by decide +kernel
theorem dX12_years_160 : decode cX12_years 160 = .ok (.aload_n 0, 1) := by decide +kernel
theorem dX12_years_161 : decode cX12_years 161 = .ok (.getfield 92, 3) := by decide +kernel
theorem dX12_years_164 : decode cX12_years 164 = .ok (.iconst 0, 1) := by decide +kernel
theorem dX12_years_165 : decode cX12_years 165 = .ok (.invokevirtual 302, 3) := by decide +kernel
theorem dX12_years_168 : decode cX12_years 168 = .ok (.iload 4, 2) := by decide +kernel
theorem dX12_years_170 : decode cX12_years 170 = .ok (.ireturn, 1) := by decide +kernel
theorem dX12_copyTo_0 : decode cX12_copyTo 0 = .ok (.iconst 0, 1) := by decide +kernel
theorem dX12_copyTo_1 : decode cX12_copyTo 1 = .ok (.istore_n 2, 1) := by decide +kernel
theorem dX12_copyTo_2 : decode cX12_copyTo 2 = .ok (.iload_n 2, 1) := by decide +kernel
theorem dX12_copyTo_3 : decode cX12_copyTo 3 = .ok (.aload_n 0, 1) := by decide +kernel
theorem dX12_copyTo_4 : decode cX12_copyTo 4 = .ok (.arraylength, 1) := by decide +kernel
theorem dX12_copyTo_5 : decode cX12_copyTo 5 = .ok (.if_icmp .ge 15, 3) := by decide +kernel
theorem dX12_copyTo_8 : decode cX12_copyTo 8 = .ok (.aload_n 0, 1) := by decide +kernel
theorem dX12_copyTo_9 : decode cX12_copyTo 9 = .ok (.iload_n 2, 1) := by decide +kernel
theorem dX12_copyTo_10 : decode cX12_copyTo 10 = .ok (.aload_n 1, 1) := by decide +kernel
theorem dX12_copyTo_11 : decode cX12_copyTo 11 = .ok (.iload_n 2, 1) := by decide +kernel
theorem dX12_copyTo_12 : decode cX12_copyTo 12 = .ok (.iaload, 1) := by decide +kernel
theorem dX12_copyTo_13 : decode cX12_copyTo 13 = .ok (.iastore, 1) := by decide +kernel
theorem dX12_copyTo_14 : decode cX12_copyTo 14 = .ok (.iinc 2 1, 3) := by decide +kernel
theorem dX12_copyTo_17 : decode cX12_copyTo 17 = .ok (.goto (-15), 3) := by decide +kernel
theorem dX12_copyTo_20 : decode cX12_copyTo 20 = .ok (.return_, 1) := by decide +kernel
theorem dX12_image_0 : decode cX12_image 0 = .ok (.aload_n 0, 1) := by decide +kernel
theorem dX12_image_1 : decode cX12_image 1 = .ok (.iconst 0, 1) := by decide +kernel
theorem dX12_image_2 : decode cX12_image 2 = .ok (.putfield 125, 3) := by decide +kernel
theorem dX12_image_5 : decode cX12_image 5 = .ok (.aload_n 0, 1) := by decide +kernel
theorem dX12_image_6 : decode cX12_image 6 = .ok (.iconst 1, 1) := by decide +kernel
theorem dX12_image_7 : decode cX12_image 7 = .ok (.putfield 255, 3) := by decide +kernel
theorem dX12_image_10 : decode cX12_image 10 = .ok (.aload_n 0, 1) := by decide +kernel
theorem dX12_image_11 : decode cX12_image 11 = .ok (.aload_n 0, 1) := by decide +kernel
theorem dX12_image_12 : decode cX12_image 12 = .ok (.getfield 252, 3) := by decide +kernel
theorem dX12_image_15 : decode cX12_image 15 = .ok (.putfield 514, 3) := by decide +kernel
theorem dX12_image_18 : decode cX12_image 18 = .ok (.aload_n 0, 1) := by decide +kernel
theorem dX12_image_19 : decode cX12_image 19 = .ok (.aload_n 0, 1) := by decide +kernel
theorem dX12_image_20 : decode cX12_image 20 = .ok (.getfield 116, 3) := by decide +kernel
theorem dX12_image_23 : decode cX12_image 23 = .ok (.iconst 0, 1) := by decide +kernel
theorem dX12_image_24 : decode cX12_image 24 = .ok (.invokevirtual 291, 3) := by decide +kernel
theorem dX12_image_27 : decode cX12_image 27 = .ok (.aload_n 0, 1) := by decide +kernel
theorem dX12_image_28 : decode cX12_image 28 = .ok (.getfield 119, 3) := by decide +kernel
theorem dX12_image_31 : decode cX12_image 31 = .ok (.aload_n 0, 1) := by decide +kernel
theorem dX12_image_32 : decode cX12_image 32 = .ok (.getfield 89, 3) := by decide +kernel
theorem dX12_image_35 : decode cX12_image 35 = .ok (.invokestatic 517, 3) := by decide +kernel
theorem dX12_image_38 : decode cX12_image 38 = .ok (.aload_n 0, 1) := by decide +kernel
theorem dX12_image_39 : decode cX12_image 39 = .ok (.getfield 122, 3) := by decide +kernel
theorem dX12_image_42 : decode cX12_image 42 = .ok (.aload_n 0, 1) := by decide +kernel
theorem dX12_image_43 : decode cX12_image 43 = .ok (.getfield 42, 3) := by decide +kernel
theorem dX12_image_46 : decode cX12_image 46 = .ok (.invokestatic 517, 3) := by decide +kernel
theorem dX12_image_49 : decode cX12_image 49 = .ok (.return_, 1) := by decide +kernel
theorem dX12_restore_0 : decode cX12_restore 0 = .ok (.aload_n 0, 1) := by decide +kernel
theorem dX12_restore_1 : decode cX12_restore 1 = .ok (.iconst 0, 1) := by decide +kernel
theorem dX12_restore_2 : decode cX12_restore 2 = .ok (.putfield 125, 3) := by decide +kernel
theorem dX12_restore_5 : decode cX12_restore 5 = .ok (.aload_n 0, 1) := by decide +kernel
theorem dX12_restore_6 : decode cX12_restore 6 = .ok (.getfield 255, 3) := by decide +kernel
theorem dX12_restore_9 : decode cX12_restore 9 = .ok (.ifCond .ne 5, 3) := by decide +kernel
theorem dX12_restore_12 : decode cX12_restore 12 = .ok (.iconst 0, 1) := by decide +kernel
theorem dX12_restore_13 : decode cX12_restore 13 = .ok (.ireturn, 1) := by decide +kernel
theorem dX12_restore_14 : decode cX12_restore 14 = .ok (.aload_n 0, 1) := by decide +kernel
theorem dX12_restore_15 : decode cX12_restore 15 = .ok (.aload_n 0, 1) := by decide +kernel
theorem dX12_restore_16 : decode cX12_restore 16 = .ok (.getfield 514, 3) := by decide +kernel
theorem dX12_restore_19 : decode cX12_restore 19 = .ok (.putfield 252, 3) := by decide +kernel
theorem dX12_restore_22 : decode cX12_restore 22 = .ok (.aload_n 0, 1) := by decide +kernel
theorem dX12_restore_23 : decode cX12_restore 23 = .ok (.aload_n 0, 1) := by decide +kernel
theorem dX12_restore_24 : decode cX12_restore 24 = .ok (.getfield 116, 3) := by decide +kernel
theorem dX12_restore_27 : decode cX12_restore 27 = .ok (.iconst 0, 1) := by decide +kernel
theorem dX12_restore_28 : decode cX12_restore 28 = .ok (.invokevirtual 302, 3) := by decide +kernel
theorem dX12_restore_31 : decode cX12_restore 31 = .ok (.aload_n 0, 1) := by decide +kernel
theorem dX12_restore_32 : decode cX12_restore 32 = .ok (.getfield 89, 3) := by decide +kernel
theorem dX12_restore_35 : decode cX12_restore 35 = .ok (.aload_n 0, 1) := by decide +kernel
theorem dX12_restore_36 : decode cX12_restore 36 = .ok (.getfield 119, 3) := by decide +kernel
theorem dX12_restore_39 : decode cX12_restore 39 = .ok (.invokestatic 517, 3) := by decide +kernel
theorem dX12_restore_42 : decode cX12_restore 42 = .ok (.aload_n 0, 1) := by decide +kernel
theorem dX12_restore_43 : decode cX12_restore 43 = .ok (.getfield 42, 3) := by decide +kernel
theorem dX12_restore_46 : decode cX12_restore 46 = .ok (.aload_n 0, 1) := by decide +kernel
theorem dX12_restore_47 : decode cX12_restore 47 = .ok (.getfield 122, 3) := by decide +kernel
theorem dX12_restore_50 : decode cX12_restore 50 = .ok (.invokestatic 517, 3) := by decide +kernel
theorem dX12_restore_53 : decode cX12_restore 53 = .ok (.iconst 1, 1) := by decide +kernel
theorem dX12_restore_54 : decode cX12_restore 54 = .ok (.ireturn, 1) := by decide +kernel
