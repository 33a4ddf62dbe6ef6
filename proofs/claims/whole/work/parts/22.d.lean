theorem dX1_weigh_0 : decode cX1_weigh 0 = .ok (.aload_n 0, 1) := by decide +kernel
theorem dX1_weigh_1 : decode cX1_weigh 1 = .ok (.iconst 0, 1) := by decide +kernel
theorem dX1_weigh_2 : decode cX1_weigh 2 = .ok (.putfield 102, 3) := by decide +kernel
theorem dX1_weigh_5 : decode cX1_weigh 5 = .ok (.aload_n 0, 1) := by decide +kernel
theorem dX1_weigh_6 : decode cX1_weigh 6 = .ok (.iconst (-1), 1) := by decide +kernel
theorem dX1_weigh_7 : decode cX1_weigh 7 = .ok (.putfield 105, 3) := by decide +kernel
theorem dX1_weigh_10 : decode cX1_weigh 10 = .ok (.aload_n 0, 1) := by decide +kernel
theorem dX1_weigh_11 : decode cX1_weigh 11 = .ok (.getfield 19, 3) := by decide +kernel
theorem dX1_weigh_14 : decode cX1_weigh 14 = .ok (.ifCond .eq 4, 3) := by decide +kernel
theorem dX1_weigh_17 : decode cX1_weigh 17 = .ok (.return_, 1) := by decide +kernel
theorem dX1_weigh_18 : decode cX1_weigh 18 = .ok (.iconst 0, 1) := by decide +kernel
theorem dX1_weigh_19 : decode cX1_weigh 19 = .ok (.istore_n 1, 1) := by decide +kernel
theorem dX1_weigh_20 : decode cX1_weigh 20 = .ok (.iload_n 1, 1) := by decide +kernel
theorem dX1_weigh_21 : decode cX1_weigh 21 = .ok (.aload_n 0, 1) := by decide +kernel
theorem dX1_weigh_22 : decode cX1_weigh 22 = .ok (.getfield 9, 3) := by decide +kernel
theorem dX1_weigh_25 : decode cX1_weigh 25 = .ok (.getfield 29, 3) := by decide +kernel
theorem dX1_weigh_28 : decode cX1_weigh 28 = .ok (.if_icmp .ge 142, 3) := by decide +kernel
theorem dX1_weigh_31 : decode cX1_weigh 31 = .ok (.aload_n 0, 1) := by decide +kernel
theorem dX1_weigh_32 : decode cX1_weigh 32 = .ok (.getfield 9, 3) := by decide +kernel
theorem dX1_weigh_35 : decode cX1_weigh 35 = .ok (.getfield 71, 3) := by decide +kernel
theorem dX1_weigh_38 : decode cX1_weigh 38 = .ok (.iload_n 1, 1) := by decide +kernel
theorem dX1_weigh_39 : decode cX1_weigh 39 = .ok (.iaload, 1) := by decide +kernel
theorem dX1_weigh_40 : decode cX1_weigh 40 = .ok (.istore_n 2, 1) := by decide +kernel
theorem dX1_weigh_41 : decode cX1_weigh 41 = .ok (.iconst 0, 1) := by decide +kernel
theorem dX1_weigh_42 : decode cX1_weigh 42 = .ok (.istore_n 3, 1) := by decide +kernel
theorem dX1_weigh_43 : decode cX1_weigh 43 = .ok (.iload_n 3, 1) := by decide +kernel
theorem dX1_weigh_44 : decode cX1_weigh 44 = .ok (.aload_n 0, 1) := by decide +kernel
theorem dX1_weigh_45 : decode cX1_weigh 45 = .ok (.getfield 15, 3) := by decide +kernel
theorem dX1_weigh_48 : decode cX1_weigh 48 = .ok (.getfield 41, 3) := by decide +kernel
theorem dX1_weigh_51 : decode cX1_weigh 51 = .ok (.iload_n 1, 1) := by decide +kernel
theorem dX1_weigh_52 : decode cX1_weigh 52 = .ok (.aaload, 1) := by decide +kernel
theorem dX1_weigh_53 : decode cX1_weigh 53 = .ok (.getfield 47, 3) := by decide +kernel
theorem dX1_weigh_56 : decode cX1_weigh 56 = .ok (.if_icmp .ge 108, 3) := by decide +kernel
theorem dX1_weigh_59 : decode cX1_weigh 59 = .ok (.iconst 0, 1) := by decide +kernel
theorem dX1_weigh_60 : decode cX1_weigh 60 = .ok (.istore 4, 2) := by decide +kernel
theorem dX1_weigh_62 : decode cX1_weigh 62 = .ok (.iload 4, 2) := by decide +kernel
theorem dX1_weigh_64 : decode cX1_weigh 64 = .ok (.aload_n 0, 1) := by decide +kernel
theorem dX1_weigh_65 : decode cX1_weigh 65 = .ok (.getfield 9, 3) := by decide +kernel
theorem dX1_weigh_68 : decode cX1_weigh 68 = .ok (.getfield 74, 3) := by decide +kernel
theorem dX1_weigh_71 : decode cX1_weigh 71 = .ok (.iload_n 2, 1) := by decide +kernel
theorem dX1_weigh_72 : decode cX1_weigh 72 = .ok (.iaload, 1) := by decide +kernel
theorem dX1_weigh_73 : decode cX1_weigh 73 = .ok (.if_icmp .gt 34, 3) := by decide +kernel
theorem dX1_weigh_76 : decode cX1_weigh 76 = .ok (.aload_n 0, 1) := by decide +kernel
theorem dX1_weigh_77 : decode cX1_weigh 77 = .ok (.aload_n 0, 1) := by decide +kernel
theorem dX1_weigh_78 : decode cX1_weigh 78 = .ok (.iload_n 1, 1) := by decide +kernel
theorem dX1_weigh_79 : decode cX1_weigh 79 = .ok (.iload_n 3, 1) := by decide +kernel
theorem dX1_weigh_80 : decode cX1_weigh 80 = .ok (.iload 4, 2) := by decide +kernel
theorem dX1_weigh_82 : decode cX1_weigh 82 = .ok (.invokevirtual 108, 3) := by decide +kernel
theorem dX1_weigh_85 : decode cX1_weigh 85 = .ok (.iload_n 1, 1) := by decide +kernel
theorem dX1_weigh_86 : decode cX1_weigh 86 = .ok (.sipush 10000, 3) := by decide +kernel
theorem dX1_weigh_89 : decode cX1_weigh 89 = .ok (.imul, 1) := by decide +kernel
theorem dX1_weigh_90 : decode cX1_weigh 90 = .ok (.iload_n 3, 1) := by decide +kernel
theorem dX1_weigh_91 : decode cX1_weigh 91 = .ok (.bipush 20, 2) := by decide +kernel
theorem dX1_weigh_93 : decode cX1_weigh 93 = .ok (.imul, 1) := by decide +kernel
theorem dX1_weigh_94 : decode cX1_weigh 94 = .ok (.iadd, 1) := by decide +kernel
theorem dX1_weigh_95 : decode cX1_weigh 95 = .ok (.iload 4, 2) := by decide +kernel
theorem dX1_weigh_97 : decode cX1_weigh 97 = .ok (.iadd, 1) := by decide +kernel
theorem dX1_weigh_98 : decode cX1_weigh 98 = .ok (.invokevirtual 112, 3) := by decide +kernel
theorem dX1_weigh_101 : decode cX1_weigh 101 = .ok (.iinc 4 1, 3) := by decide +kernel
theorem dX1_weigh_104 : decode cX1_weigh 104 = .ok (.goto (-42), 3) := by decide +kernel
theorem dX1_weigh_107 : decode cX1_weigh 107 = .ok (.iconst 0, 1) := by decide +kernel
theorem dX1_weigh_108 : decode cX1_weigh 108 = .ok (.istore 4, 2) := by decide +kernel
theorem dX1_weigh_110 : decode cX1_weigh 110 = .ok (.iload 4, 2) := by decide +kernel
theorem dX1_weigh_112 : decode cX1_weigh 112 = .ok (.aload_n 0, 1) := by decide +kernel
theorem dX1_weigh_113 : decode cX1_weigh 113 = .ok (.getfield 9, 3) := by decide +kernel
theorem dX1_weigh_116 : decode cX1_weigh 116 = .ok (.getfield 78, 3) := by decide +kernel
theorem dX1_weigh_119 : decode cX1_weigh 119 = .ok (.iload_n 2, 1) := by decide +kernel
theorem dX1_weigh_120 : decode cX1_weigh 120 = .ok (.iaload, 1) := by decide +kernel
theorem dX1_weigh_121 : decode cX1_weigh 121 = .ok (.if_icmp .gt 37, 3) := by decide +kernel
theorem dX1_weigh_124 : decode cX1_weigh 124 = .ok (.aload_n 0, 1) := by decide +kernel
theorem dX1_weigh_125 : decode cX1_weigh 125 = .ok (.aload_n 0, 1) := by decide +kernel
theorem dX1_weigh_126 : decode cX1_weigh 126 = .ok (.iload_n 1, 1) := by decide +kernel
theorem dX1_weigh_127 : decode cX1_weigh 127 = .ok (.iload_n 3, 1) := by decide +kernel
theorem dX1_weigh_128 : decode cX1_weigh 128 = .ok (.iload 4, 2) := by decide +kernel
theorem dX1_weigh_130 : decode cX1_weigh 130 = .ok (.invokevirtual 116, 3) := by decide +kernel
theorem dX1_weigh_133 : decode cX1_weigh 133 = .ok (.iload_n 1, 1) := by decide +kernel
theorem dX1_weigh_134 : decode cX1_weigh 134 = .ok (.sipush 10000, 3) := by decide +kernel
theorem dX1_weigh_137 : decode cX1_weigh 137 = .ok (.imul, 1) := by decide +kernel
theorem dX1_weigh_138 : decode cX1_weigh 138 = .ok (.iload_n 3, 1) := by decide +kernel
theorem dX1_weigh_139 : decode cX1_weigh 139 = .ok (.bipush 20, 2) := by decide +kernel
theorem dX1_weigh_141 : decode cX1_weigh 141 = .ok (.imul, 1) := by decide +kernel
theorem dX1_weigh_142 : decode cX1_weigh 142 = .ok (.iadd, 1) := by decide +kernel
theorem dX1_weigh_143 : decode cX1_weigh 143 = .ok (.bipush 10, 2) := by decide +kernel
theorem dX1_weigh_145 : decode cX1_weigh 145 = .ok (.iadd, 1) := by decide +kernel
theorem dX1_weigh_146 : decode cX1_weigh 146 = .ok (.iload 4, 2) := by decide +kernel
theorem dX1_weigh_148 : decode cX1_weigh 148 = .ok (.iadd, 1) := by decide +kernel
theorem dX1_weigh_149 : decode cX1_weigh 149 = .ok (.invokevirtual 112, 3) := by decide +kernel
theorem dX1_weigh_152 : decode cX1_weigh 152 = .ok (.iinc 4 1, 3) := by decide +kernel
theorem dX1_weigh_155 : decode cX1_weigh 155 = .ok (.goto (-45), 3) := by decide +kernel
theorem dX1_weigh_158 : decode cX1_weigh 158 = .ok (.iinc 3 1, 3) := by decide +kernel
theorem dX1_weigh_161 : decode cX1_weigh 161 = .ok (.goto (-118), 3) := by decide +kernel
theorem dX1_weigh_164 : decode cX1_weigh 164 = .ok (.iinc 1 1, 3) := by decide +kernel
theorem dX1_weigh_167 : decode cX1_weigh 167 = .ok (.goto (-147), 3) := by decide +kernel
theorem dX1_weigh_170 : decode cX1_weigh 170 = .ok (.return_, 1) := by decide +kernel
theorem dX2_init_0 : decode cX2_init 0 = .ok (.aload_n 0, 1) := by decide +kernel
theorem dX2_init_1 : decode cX2_init 1 = .ok (.invokespecial 3, 3) := by decide +kernel
theorem dX2_init_4 : decode cX2_init 4 = .ok (.aload_n 0, 1) := by decide +kernel
theorem dX2_init_5 : decode cX2_init 5 = .ok (.bipush 120, 2) := by decide +kernel
theorem dX2_init_7 : decode cX2_init 7 = .ok (.newarray .int, 2) := by decide +kernel
theorem dX2_init_9 : decode cX2_init 9 = .ok (.putfield 9, 3) := by decide +kernel
theorem dX2_init_12 : decode cX2_init 12 = .ok (.aload_n 0, 1) := by decide +kernel
theorem dX2_init_13 : decode cX2_init 13 = .ok (.bipush 120, 2) := by decide +kernel
theorem dX2_init_15 : decode cX2_init 15 = .ok (.newarray .int, 2) := by decide +kernel
theorem dX2_init_17 : decode cX2_init 17 = .ok (.putfield 15, 3) := by decide +kernel
theorem dX2_init_20 : decode cX2_init 20 = .ok (.aload_n 0, 1) := by decide +kernel
theorem dX2_init_21 : decode cX2_init 21 = .ok (.bipush 120, 2) := by decide +kernel
theorem dX2_init_23 : decode cX2_init 23 = .ok (.newarray .int, 2) := by decide +kernel
theorem dX2_init_25 : decode cX2_init 25 = .ok (.putfield 18, 3) := by decide +kernel
theorem dX2_init_28 : decode cX2_init 28 = .ok (.return_, 1) := by decide +kernel
theorem dX2_put_0 : decode cX2_put 0 = .ok (.iload_n 1, 1) := by decide +kernel
theorem dX2_put_1 : decode cX2_put 1 = .ok (.ifCond .lt 31, 3) := by decide +kernel
theorem dX2_put_4 : decode cX2_put 4 = .ok (.iload_n 1, 1) := by decide +kernel
theorem dX2_put_5 : decode cX2_put 5 = .ok (.bipush 120, 2) := by decide +kernel
theorem dX2_put_7 : decode cX2_put 7 = .ok (.if_icmp .ge 25, 3) := by decide +kernel
theorem dX2_put_10 : decode cX2_put 10 = .ok (.aload_n 0, 1) := by decide +kernel
theorem dX2_put_11 : decode cX2_put 11 = .ok (.getfield 9, 3) := by decide +kernel
theorem dX2_put_14 : decode cX2_put 14 = .ok (.iload_n 1, 1) := by decide +kernel
theorem dX2_put_15 : decode cX2_put 15 = .ok (.iload_n 2, 1) := by decide +kernel
theorem dX2_put_16 : decode cX2_put 16 = .ok (.iastore, 1) := by decide +kernel
theorem dX2_put_17 : decode cX2_put 17 = .ok (.aload_n 0, 1) := by decide +kernel
theorem dX2_put_18 : decode cX2_put 18 = .ok (.getfield 15, 3) := by decide +kernel
theorem dX2_put_21 : decode cX2_put 21 = .ok (.iload_n 1, 1) := by decide +kernel
theorem dX2_put_22 : decode cX2_put 22 = .ok (.iload_n 3, 1) := by decide +kernel
theorem dX2_put_23 : decode cX2_put 23 = .ok (.iastore, 1) := by decide +kernel
theorem dX2_put_24 : decode cX2_put 24 = .ok (.aload_n 0, 1) := by decide +kernel
theorem dX2_put_25 : decode cX2_put 25 = .ok (.getfield 18, 3) := by decide +kernel
theorem dX2_put_28 : decode cX2_put 28 = .ok (.iload_n 1, 1) := by decide +kernel
theorem dX2_put_29 : decode cX2_put 29 = .ok (.iload 4, 2) := by decide +kernel
theorem dX2_put_31 : decode cX2_put 31 = .ok (.iastore, 1) := by decide +kernel
theorem dX2_put_32 : decode cX2_put 32 = .ok (.return_, 1) := by decide +kernel
theorem dX2_copyFrom_0 : decode cX2_copyFrom 0 = .ok (.aload_n 1, 1) := by decide +kernel
theorem dX2_copyFrom_1 : decode cX2_copyFrom 1 = .ok (.getfield 9, 3) := by decide +kernel
theorem dX2_copyFrom_4 : decode cX2_copyFrom 4 = .ok (.iconst 0, 1) := by decide +kernel
theorem dX2_copyFrom_5 : decode cX2_copyFrom 5 = .ok (.aload_n 0, 1) := by decide +kernel
theorem dX2_copyFrom_6 : decode cX2_copyFrom 6 = .ok (.getfield 9, 3) := by decide +kernel
theorem dX2_copyFrom_9 : decode cX2_copyFrom 9 = .ok (.iconst 0, 1) := by decide +kernel
theorem dX2_copyFrom_10 : decode cX2_copyFrom 10 = .ok (.aload_n 1, 1) := by decide +kernel
theorem dX2_copyFrom_11 : decode cX2_copyFrom 11 = .ok (.getfield 21, 3) := by decide +kernel
theorem dX2_copyFrom_14 : decode cX2_copyFrom 14 = .ok (.invokestatic 25, 3) := by decide +kernel
theorem dX2_copyFrom_17 : decode cX2_copyFrom 17 = .ok (.aload_n 1, 1) := by decide +kernel
theorem dX2_copyFrom_18 : decode cX2_copyFrom 18 = .ok (.getfield 15, 3) := by decide +kernel
theorem dX2_copyFrom_21 : decode cX2_copyFrom 21 = .ok (.iconst 0, 1) := by decide +kernel
theorem dX2_copyFrom_22 : decode cX2_copyFrom 22 = .ok (.aload_n 0, 1) := by decide +kernel
theorem dX2_copyFrom_23 : decode cX2_copyFrom 23 = .ok (.getfield 15, 3) := by decide +kernel
theorem dX2_copyFrom_26 : decode cX2_copyFrom 26 = .ok (.iconst 0, 1) := by decide +kernel
theorem dX2_copyFrom_27 : decode cX2_copyFrom 27 = .ok (.aload_n 1, 1) := by decide +kernel
theorem dX2_copyFrom_28 : decode cX2_copyFrom 28 = .ok (.getfield 21, 3) := by decide +kernel
theorem dX2_copyFrom_31 : decode cX2_copyFrom 31 = .ok (.invokestatic 25, 3) := by decide +kernel
theorem dX2_copyFrom_34 : decode cX2_copyFrom 34 = .ok (.aload_n 1, 1) := by decide +kernel
theorem dX2_copyFrom_35 : decode cX2_copyFrom 35 = .ok (.getfield 18, 3) := by decide +kernel
theorem dX2_copyFrom_38 : decode cX2_copyFrom 38 = .ok (.iconst 0, 1) := by decide +kernel
theorem dX2_copyFrom_39 : decode cX2_copyFrom 39 = .ok (.aload_n 0, 1) := by decide +kernel
theorem dX2_copyFrom_40 : decode cX2_copyFrom 40 = .ok (.getfield 18, 3) := by decide +kernel
theorem dX2_copyFrom_43 : decode cX2_copyFrom 43 = .ok (.iconst 0, 1) := by decide +kernel
theorem dX2_copyFrom_44 : decode cX2_copyFrom 44 = .ok (.aload_n 1, 1) := by decide +kernel
theorem dX2_copyFrom_45 : decode cX2_copyFrom 45 = .ok (.getfield 21, 3) := by decide +kernel
theorem dX2_copyFrom_48 : decode cX2_copyFrom 48 = .ok (.invokestatic 25, 3) := by decide +kernel
theorem dX2_copyFrom_51 : decode cX2_copyFrom 51 = .ok (.aload_n 0, 1) := by decide +kernel
theorem dX2_copyFrom_52 : decode cX2_copyFrom 52 = .ok (.aload_n 1, 1) := by decide +kernel
theorem dX2_copyFrom_53 : decode cX2_copyFrom 53 = .ok (.getfield 21, 3) := by decide +kernel
theorem dX2_copyFrom_56 : decode cX2_copyFrom 56 = .ok (.putfield 21, 3) := by decide +kernel
theorem dX2_copyFrom_59 : decode cX2_copyFrom 59 = .ok (.aload_n 0, 1) := by decide +kernel
theorem dX2_copyFrom_60 : decode cX2_copyFrom 60 = .ok (.aload_n 1, 1) := by decide +kernel
theorem dX2_copyFrom_61 : decode cX2_copyFrom 61 = .ok (.getfield 31, 3) := by decide +kernel
theorem dX2_copyFrom_64 : decode cX2_copyFrom 64 = .ok (.putfield 31, 3) := by decide +kernel
theorem dX2_copyFrom_67 : decode cX2_copyFrom 67 = .ok (.return_, 1) := by decide +kernel
theorem dX2_packed_0 : decode cX2_packed 0 = .ok (.aload_n 0, 1) := by decide +kernel
theorem dX2_packed_1 : decode cX2_packed 1 = .ok (.getfield 18, 3) := by decide +kernel
theorem dX2_packed_4 : decode cX2_packed 4 = .ok (.iload_n 1, 1) := by decide +kernel
theorem dX2_packed_5 : decode cX2_packed 5 = .ok (.iaload, 1) := by decide +kernel
theorem dX2_packed_6 : decode cX2_packed 6 = .ok (.bipush 8, 2) := by decide +kernel
theorem dX2_packed_8 : decode cX2_packed 8 = .ok (.ishl, 1) := by decide +kernel
theorem dX2_packed_9 : decode cX2_packed 9 = .ok (.aload_n 0, 1) := by decide +kernel
theorem dX2_packed_10 : decode cX2_packed 10 = .ok (.getfield 9, 3) := by decide +kernel
theorem dX2_packed_13 : decode cX2_packed 13 = .ok (.iload_n 1, 1) := by decide +kernel
theorem dX2_packed_14 : decode cX2_packed 14 = .ok (.iaload, 1) := by decide +kernel
theorem dX2_packed_15 : decode cX2_packed 15 = .ok (.iconst 4, 1) := by decide +kernel
theorem dX2_packed_16 : decode cX2_packed 16 = .ok (.ishl, 1) := by decide +kernel
theorem dX2_packed_17 : decode cX2_packed 17 = .ok (.ior, 1) := by decide +kernel
theorem dX2_packed_18 : decode cX2_packed 18 = .ok (.aload_n 0, 1) := by decide +kernel
theorem dX2_packed_19 : decode cX2_packed 19 = .ok (.getfield 15, 3) := by decide +kernel
theorem dX2_packed_22 : decode cX2_packed 22 = .ok (.iload_n 1, 1) := by decide +kernel
theorem dX2_packed_23 : decode cX2_packed 23 = .ok (.iaload, 1) := by decide +kernel
theorem dX2_packed_24 : decode cX2_packed 24 = .ok (.ior, 1) := by decide +kernel
theorem dX2_packed_25 : decode cX2_packed 25 = .ok (.ireturn, 1) := by decide +kernel
theorem dX2_unpack_0 : decode cX2_unpack 0 = .ok (.aload_n 0, 1) := by decide +kernel
theorem dX2_unpack_1 : decode cX2_unpack 1 = .ok (.iload_n 1, 1) := by decide +kernel
theorem dX2_unpack_2 : decode cX2_unpack 2 = .ok (.iload_n 2, 1) := by decide +kernel
theorem dX2_unpack_3 : decode cX2_unpack 3 = .ok (.iconst 4, 1) := by decide +kernel
theorem dX2_unpack_4 : decode cX2_unpack 4 = .ok (.ishr, 1) := by decide +kernel
theorem dX2_unpack_5 : decode cX2_unpack 5 = .ok (.bipush 15, 2) := by decide +kernel
theorem dX2_unpack_7 : decode cX2_unpack 7 = .ok (.iand, 1) := by decide +kernel
theorem dX2_unpack_8 : decode cX2_unpack 8 = .ok (.iload_n 2, 1) := by decide +kernel
theorem dX2_unpack_9 : decode cX2_unpack 9 = .ok (.bipush 15, 2) := by decide +kernel
theorem dX2_unpack_11 : decode cX2_unpack 11 = .ok (.iand, 1) := by decide +kernel
theorem dX2_unpack_12 : decode cX2_unpack 12 = .ok (.iload_n 2, 1) := by decide +kernel
theorem dX2_unpack_13 : decode cX2_unpack 13 = .ok (.bipush 8, 2) := by decide +kernel
theorem dX2_unpack_15 : decode cX2_unpack 15 = .ok (.ishr, 1) := by decide +kernel
theorem dX2_unpack_16 : decode cX2_unpack 16 = .ok (.invokevirtual 34, 3) := by decide +kernel
theorem dX2_unpack_19 : decode cX2_unpack 19 = .ok (.return_, 1) := by decide +kernel
theorem dX2_hasValue_0 : decode cX2_hasValue 0 = .ok (.aload_n 0, 1) := by decide +kernel
theorem dX2_hasValue_1 : decode cX2_hasValue 1 = .ok (.getfield 15, 3) := by decide +kernel
theorem dX2_hasValue_4 : decode cX2_hasValue 4 = .ok (.iload_n 1, 1) := by decide +kernel
theorem dX2_hasValue_5 : decode cX2_hasValue 5 = .ok (.iaload, 1) := by decide +kernel
theorem dX2_hasValue_6 : decode cX2_hasValue 6 = .ok (.aload_n 0, 1) := by decide +kernel
theorem dX2_hasValue_7 : decode cX2_hasValue 7 = .ok (.getfield 31, 3) := by decide +kernel
theorem dX2_hasValue_10 : decode cX2_hasValue 10 = .ok (.if_icmp .ne 7, 3) := by decide +kernel
theorem dX2_hasValue_13 : decode cX2_hasValue 13 = .ok (.iconst 1, 1) := by decide +kernel
theorem dX2_hasValue_14 : decode cX2_hasValue 14 = .ok (.goto 4, 3) := by decide +kernel
theorem dX2_hasValue_17 : decode cX2_hasValue 17 = .ok (.iconst 0, 1) := by decide +kernel
theorem dX2_hasValue_18 : decode cX2_hasValue 18 = .ok (.ireturn, 1) := by decide +kernel
theorem dX2_firstOf_0 : decode cX2_firstOf 0 = .ok (.iconst 0, 1) := by decide +kernel
theorem dX2_firstOf_1 : decode cX2_firstOf 1 = .ok (.istore_n 2, 1) := by decide +kernel
theorem dX2_firstOf_2 : decode cX2_firstOf 2 = .ok (.iconst 0, 1) := by decide +kernel
theorem dX2_firstOf_3 : decode cX2_firstOf 3 = .ok (.istore_n 3, 1) := by decide +kernel
theorem dX2_firstOf_4 : decode cX2_firstOf 4 = .ok (.iload_n 3, 1) := by decide +kernel
theorem dX2_firstOf_5 : decode cX2_firstOf 5 = .ok (.aload_n 0, 1) := by decide +kernel
theorem dX2_firstOf_6 : decode cX2_firstOf 6 = .ok (.getfield 21, 3) := by decide +kernel
theorem dX2_firstOf_9 : decode cX2_firstOf 9 = .ok (.if_icmp .ge 28, 3) := by decide +kernel
theorem dX2_firstOf_12 : decode cX2_firstOf 12 = .ok (.aload_n 0, 1) := by decide +kernel
theorem dX2_firstOf_13 : decode cX2_firstOf 13 = .ok (.getfield 9, 3) := by decide +kernel
theorem dX2_firstOf_16 : decode cX2_firstOf 16 = .ok (.iload_n 3, 1) := by decide +kernel
theorem dX2_firstOf_17 : decode cX2_firstOf 17 = .ok (.iaload, 1) := by decide +kernel
theorem dX2_firstOf_18 : decode cX2_firstOf 18 = .ok (.ifCond .ne 13, 3) := by decide +kernel
theorem dX2_firstOf_21 : decode cX2_firstOf 21 = .ok (.iload_n 2, 1) := by decide +kernel
theorem dX2_firstOf_22 : decode cX2_firstOf 22 = .ok (.iload_n 1, 1) := by decide +kernel
theorem dX2_firstOf_23 : decode cX2_firstOf 23 = .ok (.if_icmp .ne 5, 3) := by decide +kernel
theorem dX2_firstOf_26 : decode cX2_firstOf 26 = .ok (.iload_n 3, 1) := by decide +kernel
theorem dX2_firstOf_27 : decode cX2_firstOf 27 = .ok (.ireturn, 1) := by decide +kernel
theorem dX2_firstOf_28 : decode cX2_firstOf 28 = .ok (.iinc 2 1, 3) := by decide +kernel
theorem dX2_firstOf_31 : decode cX2_firstOf 31 = .ok (.iinc 3 1, 3) := by decide +kernel
theorem dX2_firstOf_34 : decode cX2_firstOf 34 = .ok (.goto (-30), 3) := by decide +kernel
theorem dX2_firstOf_37 : decode cX2_firstOf 37 = .ok (.iconst (-1), 1) := by decide +kernel
theorem dX2_firstOf_38 : decode cX2_firstOf 38 = .ok (.ireturn, 1) := by decide +kernel
theorem dX2_runsOf_0 : decode cX2_runsOf 0 = .ok (.iconst 0, 1) := by decide +kernel
theorem dX2_runsOf_1 : decode cX2_runsOf 1 = .ok (.istore_n 2, 1) := by decide +kernel
theorem dX2_runsOf_2 : decode cX2_runsOf 2 = .ok (.iconst 0, 1) := by decide +kernel
theorem dX2_runsOf_3 : decode cX2_runsOf 3 = .ok (.istore_n 3, 1) := by decide +kernel
theorem dX2_runsOf_4 : decode cX2_runsOf 4 = .ok (.iload_n 3, 1) := by decide +kernel
theorem dX2_runsOf_5 : decode cX2_runsOf 5 = .ok (.aload_n 0, 1) := by decide +kernel
theorem dX2_runsOf_6 : decode cX2_runsOf 6 = .ok (.getfield 21, 3) := by decide +kernel
theorem dX2_runsOf_9 : decode cX2_runsOf 9 = .ok (.if_icmp .ge 32, 3) := by decide +kernel
theorem dX2_runsOf_12 : decode cX2_runsOf 12 = .ok (.iload_n 2, 1) := by decide +kernel
theorem dX2_runsOf_13 : decode cX2_runsOf 13 = .ok (.iload_n 3, 1) := by decide +kernel
theorem dX2_runsOf_14 : decode cX2_runsOf 14 = .ok (.ifCond .eq 14, 3) := by decide +kernel
theorem dX2_runsOf_17 : decode cX2_runsOf 17 = .ok (.aload_n 1, 1) := by decide +kernel
theorem dX2_runsOf_18 : decode cX2_runsOf 18 = .ok (.iload_n 3, 1) := by decide +kernel
theorem dX2_runsOf_19 : decode cX2_runsOf 19 = .ok (.iaload, 1) := by decide +kernel
theorem dX2_runsOf_20 : decode cX2_runsOf 20 = .ok (.aload_n 1, 1) := by decide +kernel
theorem dX2_runsOf_21 : decode cX2_runsOf 21 = .ok (.iload_n 3, 1) := by decide +kernel
theorem dX2_runsOf_22 : decode cX2_runsOf 22 = .ok (.iconst 1, 1) := by decide +kernel
theorem dX2_runsOf_23 : decode cX2_runsOf 23 = .ok (.isub, 1) := by decide +kernel
theorem dX2_runsOf_24 : decode cX2_runsOf 24 = .ok (.iaload, 1) := by decide +kernel
theorem dX2_runsOf_25 : decode cX2_runsOf 25 = .ok (.if_icmp .eq 7, 3) := by decide +kernel
theorem dX2_runsOf_28 : decode cX2_runsOf 28 = .ok (.iconst 1, 1) := by decide +kernel
theorem dX2_runsOf_29 : decode cX2_runsOf 29 = .ok (.goto 4, 3) := by decide +kernel
theorem dX2_runsOf_32 : decode cX2_runsOf 32 = .ok (.iconst 0, 1) := by decide +kernel
theorem dX2_runsOf_33 : decode cX2_runsOf 33 = .ok (.iadd, 1) := by decide +kernel
theorem dX2_runsOf_34 : decode cX2_runsOf 34 = .ok (.istore_n 2, 1) := by decide +kernel
theorem dX2_runsOf_35 : decode cX2_runsOf 35 = .ok (.iinc 3 1, 3) := by decide +kernel
theorem dX2_runsOf_38 : decode cX2_runsOf 38 = .ok (.goto (-34), 3) := by decide +kernel
theorem dX2_runsOf_41 : decode cX2_runsOf 41 = .ok (.iload_n 2, 1) := by decide +kernel
theorem dX2_runsOf_42 : decode cX2_runsOf 42 = .ok (.ireturn, 1) := by decide +kernel
theorem dX2_folded_0 : decode cX2_folded 0 = .ok (.iload_n 1, 1) := by decide +kernel
theorem dX2_folded_1 : decode cX2_folded 1 = .ok (.tableswitch 74 0 5 #[39, 44, 49, 54, 59, 64], 39) := by decide +kernel
theorem dX2_folded_40 : decode cX2_folded 40 = .ok (.aload_n 0, 1) := by decide +kernel
theorem dX2_folded_41 : decode cX2_folded 41 = .ok (.invokevirtual 38, 3) := by decide +kernel
theorem dX2_folded_44 : decode cX2_folded 44 = .ok (.ireturn, 1) := by decide +kernel
theorem dX2_folded_45 : decode cX2_folded 45 = .ok (.aload_n 0, 1) := by decide +kernel
theorem dX2_folded_46 : decode cX2_folded 46 = .ok (.invokevirtual 42, 3) := by decide +kernel
theorem dX2_folded_49 : decode cX2_folded 49 = .ok (.ireturn, 1) := by decide +kernel
theorem dX2_folded_50 : decode cX2_folded 50 = .ok (.aload_n 0, 1) := by decide +kernel
theorem dX2_folded_51 : decode cX2_folded 51 = .ok (.invokevirtual 45, 3) := by decide +kernel
theorem dX2_folded_54 : decode cX2_folded 54 = .ok (.ireturn, 1) := by decide +kernel
theorem dX2_folded_55 : decode cX2_folded 55 = .ok (.aload_n 0, 1) := by decide +kernel
theorem dX2_folded_56 : decode cX2_folded 56 = .ok (.invokevirtual 48, 3) := by decide +kernel
theorem dX2_folded_59 : decode cX2_folded 59 = .ok (.ireturn, 1) := by decide +kernel
theorem dX2_folded_60 : decode cX2_folded 60 = .ok (.aload_n 0, 1) := by decide +kernel
theorem dX2_folded_61 : decode cX2_folded 61 = .ok (.invokevirtual 51, 3) := by decide +kernel
theorem dX2_folded_64 : decode cX2_folded 64 = .ok (.ireturn, 1) := by decide +kernel
theorem dX2_folded_65 : decode cX2_folded 65 = .ok (.aload_n 0, 1) := by decide +kernel
theorem dX2_folded_66 : decode cX2_folded 66 = .ok (.getfield 21, 3) := by decide +kernel
theorem dX2_folded_69 : decode cX2_folded 69 = .ok (.aload_n 0, 1) := by decide +kernel
theorem dX2_folded_70 : decode cX2_folded 70 = .ok (.invokevirtual 38, 3) := by decide +kernel
theorem dX2_folded_73 : decode cX2_folded 73 = .ok (.isub, 1) := by decide +kernel
theorem dX2_folded_74 : decode cX2_folded 74 = .ok (.ireturn, 1) := by decide +kernel
theorem dX2_folded_75 : decode cX2_folded 75 = .ok (.aload_n 0, 1) := by decide +kernel
theorem dX2_folded_76 : decode cX2_folded 76 = .ok (.iload_n 1, 1) := by decide +kernel
theorem dX2_folded_77 : decode cX2_folded 77 = .ok (.bipush 6, 2) := by decide +kernel
theorem dX2_folded_79 : decode cX2_folded 79 = .ok (.if_icmp .ne 7, 3) := by decide +kernel
theorem dX2_folded_82 : decode cX2_folded 82 = .ok (.iconst 1, 1) := by decide +kernel
theorem dX2_folded_83 : decode cX2_folded 83 = .ok (.goto 4, 3) := by decide +kernel
theorem dX2_folded_86 : decode cX2_folded 86 = .ok (.iconst 0, 1) := by decide +kernel
theorem dX2_folded_87 : decode cX2_folded 87 = .ok (.invokevirtual 54, 3) := by decide +kernel
theorem dX2_folded_90 : decode cX2_folded 90 = .ok (.ireturn, 1) := by decide +kernel
theorem dX2_valueCount_0 : decode cX2_valueCount 0 = .ok (.iconst 0, 1) := by decide +kernel
theorem dX2_valueCount_1 : decode cX2_valueCount 1 = .ok (.istore_n 1, 1) := by decide +kernel
theorem dX2_valueCount_2 : decode cX2_valueCount 2 = .ok (.iconst 0, 1) := by decide +kernel
theorem dX2_valueCount_3 : decode cX2_valueCount 3 = .ok (.istore_n 2, 1) := by decide +kernel
theorem dX2_valueCount_4 : decode cX2_valueCount 4 = .ok (.iload_n 2, 1) := by decide +kernel
theorem dX2_valueCount_5 : decode cX2_valueCount 5 = .ok (.aload_n 0, 1) := by decide +kernel
theorem dX2_valueCount_6 : decode cX2_valueCount 6 = .ok (.getfield 21, 3) := by decide +kernel
theorem dX2_valueCount_9 : decode cX2_valueCount 9 = .ok (.if_icmp .ge 25, 3) := by decide +kernel
theorem dX2_valueCount_12 : decode cX2_valueCount 12 = .ok (.iload_n 1, 1) := by decide +kernel
theorem dX2_valueCount_13 : decode cX2_valueCount 13 = .ok (.aload_n 0, 1) := by decide +kernel
theorem dX2_valueCount_14 : decode cX2_valueCount 14 = .ok (.iload_n 2, 1) := by decide +kernel
theorem dX2_valueCount_15 : decode cX2_valueCount 15 = .ok (.invokevirtual 58, 3) := by decide +kernel
theorem dX2_valueCount_18 : decode cX2_valueCount 18 = .ok (.ifCond .eq 7, 3) := by decide +kernel
theorem dX2_valueCount_21 : decode cX2_valueCount 21 = .ok (.iconst 1, 1) := by decide +kernel
theorem dX2_valueCount_22 : decode cX2_valueCount 22 = .ok (.goto 4, 3) := by decide +kernel
theorem dX2_valueCount_25 : decode cX2_valueCount 25 = .ok (.iconst 0, 1) := by decide +kernel
theorem dX2_valueCount_26 : decode cX2_valueCount 26 = .ok (.iadd, 1) := by decide +kernel
theorem dX2_valueCount_27 : decode cX2_valueCount 27 = .ok (.istore_n 1, 1) := by decide +kernel
theorem dX2_valueCount_28 : decode cX2_valueCount 28 = .ok (.iinc 2 1, 3) := by decide +kernel
theorem dX2_valueCount_31 : decode cX2_valueCount 31 = .ok (.goto (-27), 3) := by decide +kernel
theorem dX2_valueCount_34 : decode cX2_valueCount 34 = .ok (.iload_n 1, 1) := by decide +kernel
theorem dX2_valueCount_35 : decode cX2_valueCount 35 = .ok (.ireturn, 1) := by decide +kernel
theorem dX2_valueSum_0 : decode cX2_valueSum 0 = .ok (.iconst 0, 1) := by decide +kernel
theorem dX2_valueSum_1 : decode cX2_valueSum 1 = .ok (.istore_n 1, 1) := by decide +kernel
theorem dX2_valueSum_2 : decode cX2_valueSum 2 = .ok (.iconst 0, 1) := by decide +kernel
theorem dX2_valueSum_3 : decode cX2_valueSum 3 = .ok (.istore_n 2, 1) := by decide +kernel
theorem dX2_valueSum_4 : decode cX2_valueSum 4 = .ok (.iload_n 2, 1) := by decide +kernel
theorem dX2_valueSum_5 : decode cX2_valueSum 5 = .ok (.aload_n 0, 1) := by decide +kernel
theorem dX2_valueSum_6 : decode cX2_valueSum 6 = .ok (.getfield 21, 3) := by decide +kernel
theorem dX2_valueSum_9 : decode cX2_valueSum 9 = .ok (.if_icmp .ge 30, 3) := by decide +kernel
theorem dX2_valueSum_12 : decode cX2_valueSum 12 = .ok (.iload_n 1, 1) := by decide +kernel
theorem dX2_valueSum_13 : decode cX2_valueSum 13 = .ok (.aload_n 0, 1) := by decide +kernel
theorem dX2_valueSum_14 : decode cX2_valueSum 14 = .ok (.iload_n 2, 1) := by decide +kernel
theorem dX2_valueSum_15 : decode cX2_valueSum 15 = .ok (.invokevirtual 58, 3) := by decide +kernel
theorem dX2_valueSum_18 : decode cX2_valueSum 18 = .ok (.ifCond .eq 12, 3) := by decide +kernel
theorem dX2_valueSum_21 : decode cX2_valueSum 21 = .ok (.aload_n 0, 1) := by decide +kernel
theorem dX2_valueSum_22 : decode cX2_valueSum 22 = .ok (.getfield 18, 3) := by decide +kernel
theorem dX2_valueSum_25 : decode cX2_valueSum 25 = .ok (.iload_n 2, 1) := by decide +kernel
theorem dX2_valueSum_26 : decode cX2_valueSum 26 = .ok (.iaload, 1) := by decide +kernel
theorem dX2_valueSum_27 : decode cX2_valueSum 27 = .ok (.goto 4, 3) := by decide +kernel
theorem dX2_valueSum_30 : decode cX2_valueSum 30 = .ok (.iconst 0, 1) := by decide +kernel
theorem dX2_valueSum_31 : decode cX2_valueSum 31 = .ok (.iadd, 1) := by decide +kernel
theorem dX2_valueSum_32 : decode cX2_valueSum 32 = .ok (.istore_n 1, 1) := by decide +kernel
theorem dX2_valueSum_33 : decode cX2_valueSum 33 = .ok (.iinc 2 1, 3) := by decide +kernel
theorem dX2_valueSum_36 : decode cX2_valueSum 36 = .ok (.goto (-32), 3) := by decide +kernel
theorem dX2_valueSum_39 : decode cX2_valueSum 39 = .ok (.iload_n 1, 1) := by decide +kernel
theorem dX2_valueSum_40 : decode cX2_valueSum 40 = .ok (.ireturn, 1) := by decide +kernel
theorem dX2_least_0 : decode cX2_least 0 = .ok (.iconst (-1), 1) := by decide +kernel
theorem dX2_least_1 : decode cX2_least 1 = .ok (.istore_n 1, 1) := by decide +kernel
theorem dX2_least_2 : decode cX2_least 2 = .ok (.iconst 0, 1) := by decide +kernel
theorem dX2_least_3 : decode cX2_least 3 = .ok (.istore_n 2, 1) := by decide +kernel
theorem dX2_least_4 : decode cX2_least 4 = .ok (.iload_n 2, 1) := by decide +kernel
theorem dX2_least_5 : decode cX2_least 5 = .ok (.aload_n 0, 1) := by decide +kernel
theorem dX2_least_6 : decode cX2_least 6 = .ok (.getfield 21, 3) := by decide +kernel
theorem dX2_least_9 : decode cX2_least 9 = .ok (.if_icmp .ge 39, 3) := by decide +kernel
theorem dX2_least_12 : decode cX2_least 12 = .ok (.aload_n 0, 1) := by decide +kernel
theorem dX2_least_13 : decode cX2_least 13 = .ok (.iload_n 2, 1) := by decide +kernel
theorem dX2_least_14 : decode cX2_least 14 = .ok (.invokevirtual 58, 3) := by decide +kernel
theorem dX2_least_17 : decode cX2_least 17 = .ok (.ifCond .eq 25, 3) := by decide +kernel
theorem dX2_least_20 : decode cX2_least 20 = .ok (.iload_n 1, 1) := by decide +kernel
theorem dX2_least_21 : decode cX2_least 21 = .ok (.iconst (-1), 1) := by decide +kernel
theorem dX2_least_22 : decode cX2_least 22 = .ok (.if_icmp .eq 13, 3) := by decide +kernel
theorem dX2_least_25 : decode cX2_least 25 = .ok (.aload_n 0, 1) := by decide +kernel
theorem dX2_least_26 : decode cX2_least 26 = .ok (.getfield 18, 3) := by decide +kernel
theorem dX2_least_29 : decode cX2_least 29 = .ok (.iload_n 2, 1) := by decide +kernel
theorem dX2_least_30 : decode cX2_least 30 = .ok (.iaload, 1) := by decide +kernel
theorem dX2_least_31 : decode cX2_least 31 = .ok (.iload_n 1, 1) := by decide +kernel
theorem dX2_least_32 : decode cX2_least 32 = .ok (.if_icmp .ge 10, 3) := by decide +kernel
theorem dX2_least_35 : decode cX2_least 35 = .ok (.aload_n 0, 1) := by decide +kernel
theorem dX2_least_36 : decode cX2_least 36 = .ok (.getfield 18, 3) := by decide +kernel
theorem dX2_least_39 : decode cX2_least 39 = .ok (.iload_n 2, 1) := by decide +kernel
theorem dX2_least_40 : decode cX2_least 40 = .ok (.iaload, 1) := by decide +kernel
theorem dX2_least_41 : decode cX2_least 41 = .ok (.istore_n 1, 1) := by decide +kernel
theorem dX2_least_42 : decode cX2_least 42 = .ok (.iinc 2 1, 3) := by decide +kernel
theorem dX2_least_45 : decode cX2_least 45 = .ok (.goto (-41), 3) := by decide +kernel
theorem dX2_least_48 : decode cX2_least 48 = .ok (.iload_n 1, 1) := by decide +kernel
theorem dX2_least_49 : decode cX2_least 49 = .ok (.ireturn, 1) := by decide +kernel
theorem dX2_greatest_0 : decode cX2_greatest 0 = .ok (.iconst (-1), 1) := by decide +kernel
theorem dX2_greatest_1 : decode cX2_greatest 1 = .ok (.istore_n 1, 1) := by decide +kernel
theorem dX2_greatest_2 : decode cX2_greatest 2 = .ok (.iconst 0, 1) := by decide +kernel
theorem dX2_greatest_3 : decode cX2_greatest 3 = .ok (.istore_n 2, 1) := by decide +kernel
theorem dX2_greatest_4 : decode cX2_greatest 4 = .ok (.iload_n 2, 1) := by decide +kernel
theorem dX2_greatest_5 : decode cX2_greatest 5 = .ok (.aload_n 0, 1) := by decide +kernel
theorem dX2_greatest_6 : decode cX2_greatest 6 = .ok (.getfield 21, 3) := by decide +kernel
theorem dX2_greatest_9 : decode cX2_greatest 9 = .ok (.if_icmp .ge 34, 3) := by decide +kernel
theorem dX2_greatest_12 : decode cX2_greatest 12 = .ok (.aload_n 0, 1) := by decide +kernel
theorem dX2_greatest_13 : decode cX2_greatest 13 = .ok (.iload_n 2, 1) := by decide +kernel
theorem dX2_greatest_14 : decode cX2_greatest 14 = .ok (.invokevirtual 58, 3) := by decide +kernel
theorem dX2_greatest_17 : decode cX2_greatest 17 = .ok (.ifCond .eq 20, 3) := by decide +kernel
theorem dX2_greatest_20 : decode cX2_greatest 20 = .ok (.aload_n 0, 1) := by decide +kernel
theorem dX2_greatest_21 : decode cX2_greatest 21 = .ok (.getfield 18, 3) := by decide +kernel
theorem dX2_greatest_24 : decode cX2_greatest 24 = .ok (.iload_n 2, 1) := by decide +kernel
theorem dX2_greatest_25 : decode cX2_greatest 25 = .ok (.iaload, 1) := by decide +kernel
theorem dX2_greatest_26 : decode cX2_greatest 26 = .ok (.iload_n 1, 1) := by decide +kernel
theorem dX2_greatest_27 : decode cX2_greatest 27 = .ok (.if_icmp .le 10, 3) := by decide +kernel
theorem dX2_greatest_30 : decode cX2_greatest 30 = .ok (.aload_n 0, 1) := by decide +kernel
theorem dX2_greatest_31 : decode cX2_greatest 31 = .ok (.getfield 18, 3) := by decide +kernel
theorem dX2_greatest_34 : decode cX2_greatest 34 = .ok (.iload_n 2, 1) := by decide +kernel
theorem dX2_greatest_35 : decode cX2_greatest 35 = .ok (.iaload, 1) := by decide +kernel
theorem dX2_greatest_36 : decode cX2_greatest 36 = .ok (.istore_n 1, 1) := by decide +kernel
theorem dX2_greatest_37 : decode cX2_greatest 37 = .ok (.iinc 2 1, 3) := by decide +kernel
theorem dX2_greatest_40 : decode cX2_greatest 40 = .ok (.goto (-36), 3) := by decide +kernel
theorem dX2_greatest_43 : decode cX2_greatest 43 = .ok (.iload_n 1, 1) := by decide +kernel
theorem dX2_greatest_44 : decode cX2_greatest 44 = .ok (.ireturn, 1) := by decide +kernel
theorem dX2_unlikeCount_0 : decode cX2_unlikeCount 0 = .ok (.iconst 0, 1) := by decide +kernel
theorem dX2_unlikeCount_1 : decode cX2_unlikeCount 1 = .ok (.istore_n 1, 1) := by decide +kernel
theorem dX2_unlikeCount_2 : decode cX2_unlikeCount 2 = .ok (.iconst 0, 1) := by decide +kernel
theorem dX2_unlikeCount_3 : decode cX2_unlikeCount 3 = .ok (.istore_n 2, 1) := by decide +kernel
theorem dX2_unlikeCount_4 : decode cX2_unlikeCount 4 = .ok (.iload_n 2, 1) := by decide +kernel
theorem dX2_unlikeCount_5 : decode cX2_unlikeCount 5 = .ok (.aload_n 0, 1) := by decide +kernel
theorem dX2_unlikeCount_6 : decode cX2_unlikeCount 6 = .ok (.getfield 21, 3) := by decide +kernel
theorem dX2_unlikeCount_9 : decode cX2_unlikeCount 9 = .ok (.if_icmp .ge 33, 3) := by decide +kernel
theorem dX2_unlikeCount_12 : decode cX2_unlikeCount 12 = .ok (.iload_n 1, 1) := by decide +kernel
theorem dX2_unlikeCount_13 : decode cX2_unlikeCount 13 = .ok (.aload_n 0, 1) := by decide +kernel
theorem dX2_unlikeCount_14 : decode cX2_unlikeCount 14 = .ok (.iload_n 2, 1) := by decide +kernel
theorem dX2_unlikeCount_15 : decode cX2_unlikeCount 15 = .ok (.invokevirtual 58, 3) := by decide +kernel
theorem dX2_unlikeCount_18 : decode cX2_unlikeCount 18 = .ok (.ifCond .eq 15, 3) := by decide +kernel
theorem dX2_unlikeCount_21 : decode cX2_unlikeCount 21 = .ok (.aload_n 0, 1) := by decide +kernel
theorem dX2_unlikeCount_22 : decode cX2_unlikeCount 22 = .ok (.iload_n 2, 1) := by decide +kernel
theorem dX2_unlikeCount_23 : decode cX2_unlikeCount 23 = .ok (.invokevirtual 62, 3) := by decide +kernel
theorem dX2_unlikeCount_26 : decode cX2_unlikeCount 26 = .ok (.ifCond .ne 7, 3) := by decide +kernel
theorem dX2_unlikeCount_29 : decode cX2_unlikeCount 29 = .ok (.iconst 1, 1) := by decide +kernel
theorem dX2_unlikeCount_30 : decode cX2_unlikeCount 30 = .ok (.goto 4, 3) := by decide +kernel
theorem dX2_unlikeCount_33 : decode cX2_unlikeCount 33 = .ok (.iconst 0, 1) := by decide +kernel
theorem dX2_unlikeCount_34 : decode cX2_unlikeCount 34 = .ok (.iadd, 1) := by decide +kernel
theorem dX2_unlikeCount_35 : decode cX2_unlikeCount 35 = .ok (.istore_n 1, 1) := by decide +kernel
theorem dX2_unlikeCount_36 : decode cX2_unlikeCount 36 = .ok (.iinc 2 1, 3) := by decide +kernel
theorem dX2_unlikeCount_39 : decode cX2_unlikeCount 39 = .ok (.goto (-35), 3) := by decide +kernel
theorem dX2_unlikeCount_42 : decode cX2_unlikeCount 42 = .ok (.iload_n 1, 1) := by decide +kernel
theorem dX2_unlikeCount_43 : decode cX2_unlikeCount 43 = .ok (.ireturn, 1) := by decide +kernel
theorem dX2_cameAhead_0 : decode cX2_cameAhead 0 = .ok (.iconst 0, 1) := by decide +kernel
theorem dX2_cameAhead_1 : decode cX2_cameAhead 1 = .ok (.istore_n 2, 1) := by decide +kernel
theorem dX2_cameAhead_2 : decode cX2_cameAhead 2 = .ok (.iload_n 2, 1) := by decide +kernel
theorem dX2_cameAhead_3 : decode cX2_cameAhead 3 = .ok (.iload_n 1, 1) := by decide +kernel
theorem dX2_cameAhead_4 : decode cX2_cameAhead 4 = .ok (.if_icmp .ge 34, 3) := by decide +kernel
theorem dX2_cameAhead_7 : decode cX2_cameAhead 7 = .ok (.aload_n 0, 1) := by decide +kernel
theorem dX2_cameAhead_8 : decode cX2_cameAhead 8 = .ok (.iload_n 2, 1) := by decide +kernel
theorem dX2_cameAhead_9 : decode cX2_cameAhead 9 = .ok (.invokevirtual 58, 3) := by decide +kernel
theorem dX2_cameAhead_12 : decode cX2_cameAhead 12 = .ok (.ifCond .eq 20, 3) := by decide +kernel
theorem dX2_cameAhead_15 : decode cX2_cameAhead 15 = .ok (.aload_n 0, 1) := by decide +kernel
theorem dX2_cameAhead_16 : decode cX2_cameAhead 16 = .ok (.getfield 18, 3) := by decide +kernel
theorem dX2_cameAhead_19 : decode cX2_cameAhead 19 = .ok (.iload_n 2, 1) := by decide +kernel
theorem dX2_cameAhead_20 : decode cX2_cameAhead 20 = .ok (.iaload, 1) := by decide +kernel
theorem dX2_cameAhead_21 : decode cX2_cameAhead 21 = .ok (.aload_n 0, 1) := by decide +kernel
theorem dX2_cameAhead_22 : decode cX2_cameAhead 22 = .ok (.getfield 18, 3) := by decide +kernel
theorem dX2_cameAhead_25 : decode cX2_cameAhead 25 = .ok (.iload_n 1, 1) := by decide +kernel
theorem dX2_cameAhead_26 : decode cX2_cameAhead 26 = .ok (.iaload, 1) := by decide +kernel
theorem dX2_cameAhead_27 : decode cX2_cameAhead 27 = .ok (.if_icmp .ne 5, 3) := by decide +kernel
theorem dX2_cameAhead_30 : decode cX2_cameAhead 30 = .ok (.iconst 1, 1) := by decide +kernel
theorem dX2_cameAhead_31 : decode cX2_cameAhead 31 = .ok (.ireturn, 1) := by decide +kernel
theorem dX2_cameAhead_32 : decode cX2_cameAhead 32 = .ok (.iinc 2 1, 3) := by decide +kernel
theorem dX2_cameAhead_35 : decode cX2_cameAhead 35 = .ok (.goto (-33), 3) := by decide +kernel
theorem dX2_cameAhead_38 : decode cX2_cameAhead 38 = .ok (.iconst 0, 1) := by decide +kernel
theorem dX2_cameAhead_39 : decode cX2_cameAhead 39 = .ok (.ireturn, 1) := by decide +kernel
theorem dX2_rolled_0 : decode cX2_rolled 0 = .ok (.iconst 0, 1) := by decide +kernel
theorem dX2_rolled_1 : decode cX2_rolled 1 = .ok (.istore_n 2, 1) := by decide +kernel
theorem dX2_rolled_2 : decode cX2_rolled 2 = .ok (.iconst 0, 1) := by decide +kernel
theorem dX2_rolled_3 : decode cX2_rolled 3 = .ok (.istore_n 3, 1) := by decide +kernel
theorem dX2_rolled_4 : decode cX2_rolled 4 = .ok (.iload_n 3, 1) := by decide +kernel
theorem dX2_rolled_5 : decode cX2_rolled 5 = .ok (.aload_n 0, 1) := by decide +kernel
theorem dX2_rolled_6 : decode cX2_rolled 6 = .ok (.getfield 21, 3) := by decide +kernel
theorem dX2_rolled_9 : decode cX2_rolled 9 = .ok (.if_icmp .ge 48, 3) := by decide +kernel
theorem dX2_rolled_12 : decode cX2_rolled 12 = .ok (.aload_n 0, 1) := by decide +kernel
theorem dX2_rolled_13 : decode cX2_rolled 13 = .ok (.iload_n 3, 1) := by decide +kernel
theorem dX2_rolled_14 : decode cX2_rolled 14 = .ok (.invokevirtual 58, 3) := by decide +kernel
theorem dX2_rolled_17 : decode cX2_rolled 17 = .ok (.ifCond .eq 34, 3) := by decide +kernel
theorem dX2_rolled_20 : decode cX2_rolled 20 = .ok (.iload_n 1, 1) := by decide +kernel
theorem dX2_rolled_21 : decode cX2_rolled 21 = .ok (.ifCond .eq 14, 3) := by decide +kernel
theorem dX2_rolled_24 : decode cX2_rolled 24 = .ok (.aload_n 0, 1) := by decide +kernel
theorem dX2_rolled_25 : decode cX2_rolled 25 = .ok (.getfield 18, 3) := by decide +kernel
theorem dX2_rolled_28 : decode cX2_rolled 28 = .ok (.iload_n 3, 1) := by decide +kernel
theorem dX2_rolled_29 : decode cX2_rolled 29 = .ok (.iaload, 1) := by decide +kernel
theorem dX2_rolled_30 : decode cX2_rolled 30 = .ok (.iload_n 2, 1) := by decide +kernel
theorem dX2_rolled_31 : decode cX2_rolled 31 = .ok (.isub, 1) := by decide +kernel
theorem dX2_rolled_32 : decode cX2_rolled 32 = .ok (.goto 18, 3) := by decide +kernel
theorem dX2_rolled_35 : decode cX2_rolled 35 = .ok (.iload_n 2, 1) := by decide +kernel
theorem dX2_rolled_36 : decode cX2_rolled 36 = .ok (.bipush 7, 2) := by decide +kernel
theorem dX2_rolled_38 : decode cX2_rolled 38 = .ok (.imul, 1) := by decide +kernel
theorem dX2_rolled_39 : decode cX2_rolled 39 = .ok (.aload_n 0, 1) := by decide +kernel
theorem dX2_rolled_40 : decode cX2_rolled 40 = .ok (.getfield 18, 3) := by decide +kernel
theorem dX2_rolled_43 : decode cX2_rolled 43 = .ok (.iload_n 3, 1) := by decide +kernel
theorem dX2_rolled_44 : decode cX2_rolled 44 = .ok (.iaload, 1) := by decide +kernel
theorem dX2_rolled_45 : decode cX2_rolled 45 = .ok (.iadd, 1) := by decide +kernel
theorem dX2_rolled_46 : decode cX2_rolled 46 = .ok (.sipush 1000, 3) := by decide +kernel
theorem dX2_rolled_49 : decode cX2_rolled 49 = .ok (.irem, 1) := by decide +kernel
theorem dX2_rolled_50 : decode cX2_rolled 50 = .ok (.istore_n 2, 1) := by decide +kernel
theorem dX2_rolled_51 : decode cX2_rolled 51 = .ok (.iinc 3 1, 3) := by decide +kernel
theorem dX2_rolled_54 : decode cX2_rolled 54 = .ok (.goto (-50), 3) := by decide +kernel
theorem dX2_rolled_57 : decode cX2_rolled 57 = .ok (.iload_n 2, 1) := by decide +kernel
theorem dX2_rolled_58 : decode cX2_rolled 58 = .ok (.ireturn, 1) := by decide +kernel
theorem dX2_fits_0 : decode cX2_fits 0 = .ok (.iload_n 1, 1) := by decide +kernel
theorem dX2_fits_1 : decode cX2_fits 1 = .ok (.istore 5, 2) := by decide +kernel
theorem dX2_fits_3 : decode cX2_fits 3 = .ok (.iload 5, 2) := by decide +kernel
theorem dX2_fits_5 : decode cX2_fits 5 = .ok (.iload_n 2, 1) := by decide +kernel
theorem dX2_fits_6 : decode cX2_fits 6 = .ok (.if_icmp .ge 77, 3) := by decide +kernel
theorem dX2_fits_9 : decode cX2_fits 9 = .ok (.aload_n 0, 1) := by decide +kernel
theorem dX2_fits_10 : decode cX2_fits 10 = .ok (.iload 5, 2) := by decide +kernel
theorem dX2_fits_12 : decode cX2_fits 12 = .ok (.invokevirtual 58, 3) := by decide +kernel
theorem dX2_fits_15 : decode cX2_fits 15 = .ok (.ifCond .eq 62, 3) := by decide +kernel
theorem dX2_fits_18 : decode cX2_fits 18 = .ok (.iload_n 3, 1) := by decide +kernel
theorem dX2_fits_19 : decode cX2_fits 19 = .ok (.iconst 3, 1) := by decide +kernel
theorem dX2_fits_20 : decode cX2_fits 20 = .ok (.if_icmp .ne 5, 3) := by decide +kernel
theorem dX2_fits_23 : decode cX2_fits 23 = .ok (.iconst 0, 1) := by decide +kernel
theorem dX2_fits_24 : decode cX2_fits 24 = .ok (.ireturn, 1) := by decide +kernel
theorem dX2_fits_25 : decode cX2_fits 25 = .ok (.iload_n 3, 1) := by decide +kernel
theorem dX2_fits_26 : decode cX2_fits 26 = .ok (.ifCond .ne 15, 3) := by decide +kernel
theorem dX2_fits_29 : decode cX2_fits 29 = .ok (.aload_n 0, 1) := by decide +kernel
theorem dX2_fits_30 : decode cX2_fits 30 = .ok (.getfield 18, 3) := by decide +kernel
theorem dX2_fits_33 : decode cX2_fits 33 = .ok (.iload 5, 2) := by decide +kernel
theorem dX2_fits_35 : decode cX2_fits 35 = .ok (.iaload, 1) := by decide +kernel
theorem dX2_fits_36 : decode cX2_fits 36 = .ok (.iload 4, 2) := by decide +kernel
theorem dX2_fits_38 : decode cX2_fits 38 = .ok (.if_icmp .eq 37, 3) := by decide +kernel
theorem dX2_fits_41 : decode cX2_fits 41 = .ok (.iload_n 3, 1) := by decide +kernel
theorem dX2_fits_42 : decode cX2_fits 42 = .ok (.iconst 1, 1) := by decide +kernel
theorem dX2_fits_43 : decode cX2_fits 43 = .ok (.if_icmp .ne 15, 3) := by decide +kernel
theorem dX2_fits_46 : decode cX2_fits 46 = .ok (.aload_n 0, 1) := by decide +kernel
theorem dX2_fits_47 : decode cX2_fits 47 = .ok (.getfield 18, 3) := by decide +kernel
theorem dX2_fits_50 : decode cX2_fits 50 = .ok (.iload 5, 2) := by decide +kernel
theorem dX2_fits_52 : decode cX2_fits 52 = .ok (.iaload, 1) := by decide +kernel
theorem dX2_fits_53 : decode cX2_fits 53 = .ok (.iload 4, 2) := by decide +kernel
theorem dX2_fits_55 : decode cX2_fits 55 = .ok (.if_icmp .lt 20, 3) := by decide +kernel
theorem dX2_fits_58 : decode cX2_fits 58 = .ok (.iload_n 3, 1) := by decide +kernel
theorem dX2_fits_59 : decode cX2_fits 59 = .ok (.iconst 2, 1) := by decide +kernel
theorem dX2_fits_60 : decode cX2_fits 60 = .ok (.if_icmp .ne 17, 3) := by decide +kernel
theorem dX2_fits_63 : decode cX2_fits 63 = .ok (.aload_n 0, 1) := by decide +kernel
theorem dX2_fits_64 : decode cX2_fits 64 = .ok (.getfield 18, 3) := by decide +kernel
theorem dX2_fits_67 : decode cX2_fits 67 = .ok (.iload 5, 2) := by decide +kernel
theorem dX2_fits_69 : decode cX2_fits 69 = .ok (.iaload, 1) := by decide +kernel
theorem dX2_fits_70 : decode cX2_fits 70 = .ok (.iload 4, 2) := by decide +kernel
theorem dX2_fits_72 : decode cX2_fits 72 = .ok (.if_icmp .le 5, 3) := by decide +kernel
theorem dX2_fits_75 : decode cX2_fits 75 = .ok (.iconst 1, 1) := by decide +kernel
theorem dX2_fits_76 : decode cX2_fits 76 = .ok (.ireturn, 1) := by decide +kernel
theorem dX2_fits_77 : decode cX2_fits 77 = .ok (.iinc 5 1, 3) := by decide +kernel
theorem dX2_fits_80 : decode cX2_fits 80 = .ok (.goto (-77), 3) := by decide +kernel
theorem dX2_fits_83 : decode cX2_fits 83 = .ok (.iload_n 3, 1) := by decide +kernel
theorem dX2_fits_84 : decode cX2_fits 84 = .ok (.iconst 3, 1) := by decide +kernel
theorem dX2_fits_85 : decode cX2_fits 85 = .ok (.if_icmp .ne 7, 3) := by decide +kernel
theorem dX2_fits_88 : decode cX2_fits 88 = .ok (.iconst 1, 1) := by decide +kernel
theorem dX2_fits_89 : decode cX2_fits 89 = .ok (.goto 4, 3) := by decide +kernel
theorem dX2_fits_92 : decode cX2_fits 92 = .ok (.iconst 0, 1) := by decide +kernel
theorem dX2_fits_93 : decode cX2_fits 93 = .ok (.ireturn, 1) := by decide +kernel
theorem dX2_pageCount_0 : decode cX2_pageCount 0 = .ok (.iconst 0, 1) := by decide +kernel
theorem dX2_pageCount_1 : decode cX2_pageCount 1 = .ok (.istore_n 2, 1) := by decide +kernel
theorem dX2_pageCount_2 : decode cX2_pageCount 2 = .ok (.iconst 0, 1) := by decide +kernel
theorem dX2_pageCount_3 : decode cX2_pageCount 3 = .ok (.istore_n 3, 1) := by decide +kernel
theorem dX2_pageCount_4 : decode cX2_pageCount 4 = .ok (.iconst 0, 1) := by decide +kernel
theorem dX2_pageCount_5 : decode cX2_pageCount 5 = .ok (.istore 4, 2) := by decide +kernel
theorem dX2_pageCount_7 : decode cX2_pageCount 7 = .ok (.iload 4, 2) := by decide +kernel
theorem dX2_pageCount_9 : decode cX2_pageCount 9 = .ok (.aload_n 0, 1) := by decide +kernel
theorem dX2_pageCount_10 : decode cX2_pageCount 10 = .ok (.getfield 21, 3) := by decide +kernel
theorem dX2_pageCount_13 : decode cX2_pageCount 13 = .ok (.if_icmp .ge 55, 3) := by decide +kernel
theorem dX2_pageCount_16 : decode cX2_pageCount 16 = .ok (.aload_n 0, 1) := by decide +kernel
theorem dX2_pageCount_17 : decode cX2_pageCount 17 = .ok (.getfield 9, 3) := by decide +kernel
theorem dX2_pageCount_20 : decode cX2_pageCount 20 = .ok (.iload 4, 2) := by decide +kernel
theorem dX2_pageCount_22 : decode cX2_pageCount 22 = .ok (.iaload, 1) := by decide +kernel
theorem dX2_pageCount_23 : decode cX2_pageCount 23 = .ok (.ifCond .ne 39, 3) := by decide +kernel
theorem dX2_pageCount_26 : decode cX2_pageCount 26 = .ok (.aload_n 0, 1) := by decide +kernel
theorem dX2_pageCount_27 : decode cX2_pageCount 27 = .ok (.iload 4, 2) := by decide +kernel
theorem dX2_pageCount_29 : decode cX2_pageCount 29 = .ok (.iconst 0, 1) := by decide +kernel
theorem dX2_pageCount_30 : decode cX2_pageCount 30 = .ok (.invokevirtual 65, 3) := by decide +kernel
theorem dX2_pageCount_33 : decode cX2_pageCount 33 = .ok (.iload 4, 2) := by decide +kernel
theorem dX2_pageCount_35 : decode cX2_pageCount 35 = .ok (.isub, 1) := by decide +kernel
theorem dX2_pageCount_36 : decode cX2_pageCount 36 = .ok (.istore 5, 2) := by decide +kernel
theorem dX2_pageCount_38 : decode cX2_pageCount 38 = .ok (.iload 5, 2) := by decide +kernel
theorem dX2_pageCount_40 : decode cX2_pageCount 40 = .ok (.iload_n 1, 1) := by decide +kernel
theorem dX2_pageCount_41 : decode cX2_pageCount 41 = .ok (.if_icmp .le 5, 3) := by decide +kernel
theorem dX2_pageCount_44 : decode cX2_pageCount 44 = .ok (.iconst (-1), 1) := by decide +kernel
theorem dX2_pageCount_45 : decode cX2_pageCount 45 = .ok (.ireturn, 1) := by decide +kernel
theorem dX2_pageCount_46 : decode cX2_pageCount 46 = .ok (.iload 5, 2) := by decide +kernel
theorem dX2_pageCount_48 : decode cX2_pageCount 48 = .ok (.iload_n 3, 1) := by decide +kernel
theorem dX2_pageCount_49 : decode cX2_pageCount 49 = .ok (.if_icmp .le 8, 3) := by decide +kernel
theorem dX2_pageCount_52 : decode cX2_pageCount 52 = .ok (.iinc 2 1, 3) := by decide +kernel
theorem dX2_pageCount_55 : decode cX2_pageCount 55 = .ok (.iload_n 1, 1) := by decide +kernel
theorem dX2_pageCount_56 : decode cX2_pageCount 56 = .ok (.istore_n 3, 1) := by decide +kernel
theorem dX2_pageCount_57 : decode cX2_pageCount 57 = .ok (.iload_n 3, 1) := by decide +kernel
theorem dX2_pageCount_58 : decode cX2_pageCount 58 = .ok (.iload 5, 2) := by decide +kernel
theorem dX2_pageCount_60 : decode cX2_pageCount 60 = .ok (.isub, 1) := by decide +kernel
theorem dX2_pageCount_61 : decode cX2_pageCount 61 = .ok (.istore_n 3, 1) := by decide +kernel
theorem dX2_pageCount_62 : decode cX2_pageCount 62 = .ok (.iinc 4 1, 3) := by decide +kernel
theorem dX2_pageCount_65 : decode cX2_pageCount 65 = .ok (.goto (-58), 3) := by decide +kernel
theorem dX2_pageCount_68 : decode cX2_pageCount 68 = .ok (.iload_n 2, 1) := by decide +kernel
theorem dX2_pageCount_69 : decode cX2_pageCount 69 = .ok (.ireturn, 1) := by decide +kernel
theorem dX3_init_0 : decode cX3_init 0 = .ok (.aload_n 0, 1) := by decide +kernel
theorem dX3_init_1 : decode cX3_init 1 = .ok (.invokespecial 3, 3) := by decide +kernel
theorem dX3_init_4 : decode cX3_init 4 = .ok (.aload_n 0, 1) := by decide +kernel
theorem dX3_init_5 : decode cX3_init 5 = .ok (.bipush 120, 2) := by decide +kernel
theorem dX3_init_7 : decode cX3_init 7 = .ok (.newarray .int, 2) := by decide +kernel
theorem dX3_init_9 : decode cX3_init 9 = .ok (.putfield 9, 3) := by decide +kernel
theorem dX3_init_12 : decode cX3_init 12 = .ok (.aload_n 0, 1) := by decide +kernel
theorem dX3_init_13 : decode cX3_init 13 = .ok (.bipush 8, 2) := by decide +kernel
theorem dX3_init_15 : decode cX3_init 15 = .ok (.newarray .int, 2) := by decide +kernel
theorem dX3_init_17 : decode cX3_init 17 = .ok (.putfield 15, 3) := by decide +kernel
theorem dX3_init_20 : decode cX3_init 20 = .ok (.aload_n 0, 1) := by decide +kernel
theorem dX3_init_21 : decode cX3_init 21 = .ok (.bipush 8, 2) := by decide +kernel
theorem dX3_init_23 : decode cX3_init 23 = .ok (.newarray .int, 2) := by decide +kernel
theorem dX3_init_25 : decode cX3_init 25 = .ok (.putfield 18, 3) := by decide +kernel
theorem dX3_init_28 : decode cX3_init 28 = .ok (.aload_n 0, 1) := by decide +kernel
theorem dX3_init_29 : decode cX3_init 29 = .ok (.bipush 8, 2) := by decide +kernel
theorem dX3_init_31 : decode cX3_init 31 = .ok (.newarray .int, 2) := by decide +kernel
theorem dX3_init_33 : decode cX3_init 33 = .ok (.putfield 21, 3) := by decide +kernel
theorem dX3_init_36 : decode cX3_init 36 = .ok (.return_, 1) := by decide +kernel
theorem dX3_clear_0 : decode cX3_clear 0 = .ok (.aload_n 0, 1) := by decide +kernel
theorem dX3_clear_1 : decode cX3_clear 1 = .ok (.iconst 0, 1) := by decide +kernel
theorem dX3_clear_2 : decode cX3_clear 2 = .ok (.putfield 24, 3) := by decide +kernel
theorem dX3_clear_5 : decode cX3_clear 5 = .ok (.return_, 1) := by decide +kernel
theorem dX3_kindTold_0 : decode cX3_kindTold 0 = .ok (.aload_n 0, 1) := by decide +kernel
theorem dX3_kindTold_1 : decode cX3_kindTold 1 = .ok (.ldc 49, 2) := by decide +kernel
theorem dX3_kindTold_3 : decode cX3_kindTold 3 = .ok (.invokevirtual 51, 3) := by decide +kernel
theorem dX3_kindTold_6 : decode cX3_kindTold 6 = .ok (.ifCond .eq 5, 3) := by decide +kernel
theorem dX3_kindTold_9 : decode cX3_kindTold 9 = .ok (.iconst 0, 1) := by decide +kernel
theorem dX3_kindTold_10 : decode cX3_kindTold 10 = .ok (.ireturn, 1) := by decide +kernel
theorem dX3_kindTold_11 : decode cX3_kindTold 11 = .ok (.aload_n 0, 1) := by decide +kernel
theorem dX3_kindTold_12 : decode cX3_kindTold 12 = .ok (.ldc 55, 2) := by decide +kernel
theorem dX3_kindTold_14 : decode cX3_kindTold 14 = .ok (.invokevirtual 51, 3) := by decide +kernel
theorem dX3_kindTold_17 : decode cX3_kindTold 17 = .ok (.ifCond .eq 5, 3) := by decide +kernel
theorem dX3_kindTold_20 : decode cX3_kindTold 20 = .ok (.iconst 1, 1) := by decide +kernel
theorem dX3_kindTold_21 : decode cX3_kindTold 21 = .ok (.ireturn, 1) := by decide +kernel
theorem dX3_kindTold_22 : decode cX3_kindTold 22 = .ok (.aload_n 0, 1) := by decide +kernel
theorem dX3_kindTold_23 : decode cX3_kindTold 23 = .ok (.ldc 57, 2) := by decide +kernel
theorem dX3_kindTold_25 : decode cX3_kindTold 25 = .ok (.invokevirtual 51, 3) := by decide +kernel
theorem dX3_kindTold_28 : decode cX3_kindTold 28 = .ok (.ifCond .eq 5, 3) := by decide +kernel
theorem dX3_kindTold_31 : decode cX3_kindTold 31 = .ok (.iconst 2, 1) := by decide +kernel
theorem dX3_kindTold_32 : decode cX3_kindTold 32 = .ok (.ireturn, 1) := by decide +kernel
theorem dX3_kindTold_33 : decode cX3_kindTold 33 = .ok (.aload_n 0, 1) := by decide +kernel
theorem dX3_kindTold_34 : decode cX3_kindTold 34 = .ok (.ldc 59, 2) := by decide +kernel
theorem dX3_kindTold_36 : decode cX3_kindTold 36 = .ok (.invokevirtual 51, 3) := by decide +kernel
theorem dX3_kindTold_39 : decode cX3_kindTold 39 = .ok (.ifCond .eq 5, 3) := by decide +kernel
theorem dX3_kindTold_42 : decode cX3_kindTold 42 = .ok (.iconst 3, 1) := by decide +kernel
theorem dX3_kindTold_43 : decode cX3_kindTold 43 = .ok (.ireturn, 1) := by decide +kernel
theorem dX3_kindTold_44 : decode cX3_kindTold 44 = .ok (.aload_n 0, 1) := by decide +kernel
theorem dX3_kindTold_45 : decode cX3_kindTold 45 = .ok (.ldc 61, 2) := by decide +kernel
theorem dX3_kindTold_47 : decode cX3_kindTold 47 = .ok (.invokevirtual 51, 3) := by decide +kernel
theorem dX3_kindTold_50 : decode cX3_kindTold 50 = .ok (.ifCond .eq 5, 3) := by decide +kernel
theorem dX3_kindTold_53 : decode cX3_kindTold 53 = .ok (.iconst 4, 1) := by decide +kernel
theorem dX3_kindTold_54 : decode cX3_kindTold 54 = .ok (.ireturn, 1) := by decide +kernel
theorem dX3_kindTold_55 : decode cX3_kindTold 55 = .ok (.aload_n 0, 1) := by decide +kernel
theorem dX3_kindTold_56 : decode cX3_kindTold 56 = .ok (.ldc 63, 2) := by decide +kernel
theorem dX3_kindTold_58 : decode cX3_kindTold 58 = .ok (.invokevirtual 51, 3) := by decide +kernel
theorem dX3_kindTold_61 : decode cX3_kindTold 61 = .ok (.ifCond .eq 5, 3) := by decide +kernel
theorem dX3_kindTold_64 : decode cX3_kindTold 64 = .ok (.iconst 5, 1) := by decide +kernel
theorem dX3_kindTold_65 : decode cX3_kindTold 65 = .ok (.ireturn, 1) := by decide +kernel
theorem dX3_kindTold_66 : decode cX3_kindTold 66 = .ok (.aload_n 0, 1) := by decide +kernel
theorem dX3_kindTold_67 : decode cX3_kindTold 67 = .ok (.ldc 65, 2) := by decide +kernel
theorem dX3_kindTold_69 : decode cX3_kindTold 69 = .ok (.invokevirtual 51, 3) := by decide +kernel
theorem dX3_kindTold_72 : decode cX3_kindTold 72 = .ok (.ifCond .eq 8, 3) := by decide +kernel
theorem dX3_kindTold_75 : decode cX3_kindTold 75 = .ok (.bipush 6, 2) := by decide +kernel
theorem dX3_kindTold_77 : decode cX3_kindTold 77 = .ok (.goto 4, 3) := by decide +kernel
theorem dX3_kindTold_80 : decode cX3_kindTold 80 = .ok (.iconst (-1), 1) := by decide +kernel
theorem dX3_kindTold_81 : decode cX3_kindTold 81 = .ok (.ireturn, 1) := by decide +kernel
theorem dX9_isLetter_0 : decode cX9_isLetter 0 = .ok (.iload_n 0, 1) := by decide +kernel
theorem dX9_isLetter_1 : decode cX9_isLetter 1 = .ok (.bipush 97, 2) := by decide +kernel
theorem dX9_isLetter_3 : decode cX9_isLetter 3 = .ok (.if_icmp .lt 13, 3) := by decide +kernel
theorem dX9_isLetter_6 : decode cX9_isLetter 6 = .ok (.iload_n 0, 1) := by decide +kernel
theorem dX9_isLetter_7 : decode cX9_isLetter 7 = .ok (.bipush 122, 2) := by decide +kernel
theorem dX9_isLetter_9 : decode cX9_isLetter 9 = .ok (.if_icmp .gt 7, 3) := by decide +kernel
theorem dX9_isLetter_12 : decode cX9_isLetter 12 = .ok (.iconst 1, 1) := by decide +kernel
theorem dX9_isLetter_13 : decode cX9_isLetter 13 = .ok (.goto 4, 3) := by decide +kernel
theorem dX9_isLetter_16 : decode cX9_isLetter 16 = .ok (.iconst 0, 1) := by decide +kernel
theorem dX9_isLetter_17 : decode cX9_isLetter 17 = .ok (.ireturn, 1) := by decide +kernel
theorem dX9_width_0 : decode cX9_width 0 = .ok (.aload_n 0, 1) := by decide +kernel
theorem dX9_width_1 : decode cX9_width 1 = .ok (.getfield 22, 3) := by decide +kernel
theorem dX9_width_4 : decode cX9_width 4 = .ok (.aload_n 0, 1) := by decide +kernel
theorem dX9_width_5 : decode cX9_width 5 = .ok (.getfield 28, 3) := by decide +kernel
theorem dX9_width_8 : decode cX9_width 8 = .ok (.isub, 1) := by decide +kernel
theorem dX9_width_9 : decode cX9_width 9 = .ok (.ireturn, 1) := by decide +kernel
theorem dX9_isWord_0 : decode cX9_isWord 0 = .ok (.aload_n 0, 1) := by decide +kernel
theorem dX9_isWord_1 : decode cX9_isWord 1 = .ok (.getfield 31, 3) := by decide +kernel
theorem dX9_isWord_4 : decode cX9_isWord 4 = .ok (.iconst 1, 1) := by decide +kernel
theorem dX9_isWord_5 : decode cX9_isWord 5 = .ok (.if_icmp .ne 14, 3) := by decide +kernel
theorem dX9_isWord_8 : decode cX9_isWord 8 = .ok (.aload_n 1, 1) := by decide +kernel
theorem dX9_isWord_9 : decode cX9_isWord 9 = .ok (.invokevirtual 44, 3) := by decide +kernel
theorem dX9_isWord_12 : decode cX9_isWord 12 = .ok (.aload_n 0, 1) := by decide +kernel
theorem dX9_isWord_13 : decode cX9_isWord 13 = .ok (.invokevirtual 50, 3) := by decide +kernel
theorem dX9_isWord_16 : decode cX9_isWord 16 = .ok (.if_icmp .eq 5, 3) := by decide +kernel
theorem dX9_isWord_19 : decode cX9_isWord 19 = .ok (.iconst 0, 1) := by decide +kernel
theorem dX9_isWord_20 : decode cX9_isWord 20 = .ok (.ireturn, 1) := by decide +kernel
theorem dX9_isWord_21 : decode cX9_isWord 21 = .ok (.iconst 0, 1) := by decide +kernel
theorem dX9_isWord_22 : decode cX9_isWord 22 = .ok (.istore_n 2, 1) := by decide +kernel
theorem dX9_isWord_23 : decode cX9_isWord 23 = .ok (.iload_n 2, 1) := by decide +kernel
theorem dX9_isWord_24 : decode cX9_isWord 24 = .ok (.aload_n 1, 1) := by decide +kernel
theorem dX9_isWord_25 : decode cX9_isWord 25 = .ok (.invokevirtual 44, 3) := by decide +kernel
theorem dX9_isWord_28 : decode cX9_isWord 28 = .ok (.if_icmp .ge 30, 3) := by decide +kernel
theorem dX9_isWord_31 : decode cX9_isWord 31 = .ok (.aload_n 0, 1) := by decide +kernel
theorem dX9_isWord_32 : decode cX9_isWord 32 = .ok (.getfield 9, 3) := by decide +kernel
theorem dX9_isWord_35 : decode cX9_isWord 35 = .ok (.aload_n 0, 1) := by decide +kernel
theorem dX9_isWord_36 : decode cX9_isWord 36 = .ok (.getfield 28, 3) := by decide +kernel
theorem dX9_isWord_39 : decode cX9_isWord 39 = .ok (.iload_n 2, 1) := by decide +kernel
theorem dX9_isWord_40 : decode cX9_isWord 40 = .ok (.iadd, 1) := by decide +kernel
theorem dX9_isWord_41 : decode cX9_isWord 41 = .ok (.iaload, 1) := by decide +kernel
theorem dX9_isWord_42 : decode cX9_isWord 42 = .ok (.aload_n 1, 1) := by decide +kernel
theorem dX9_isWord_43 : decode cX9_isWord 43 = .ok (.iload_n 2, 1) := by decide +kernel
theorem dX9_isWord_44 : decode cX9_isWord 44 = .ok (.invokevirtual 53, 3) := by decide +kernel
theorem dX9_isWord_47 : decode cX9_isWord 47 = .ok (.if_icmp .eq 5, 3) := by decide +kernel
theorem dX9_isWord_50 : decode cX9_isWord 50 = .ok (.iconst 0, 1) := by decide +kernel
theorem dX9_isWord_51 : decode cX9_isWord 51 = .ok (.ireturn, 1) := by decide +kernel
theorem dX9_isWord_52 : decode cX9_isWord 52 = .ok (.iinc 2 1, 3) := by decide +kernel
theorem dX9_isWord_55 : decode cX9_isWord 55 = .ok (.goto (-32), 3) := by decide +kernel
theorem dX9_isWord_58 : decode cX9_isWord 58 = .ok (.iconst 1, 1) := by decide +kernel
theorem dX9_isWord_59 : decode cX9_isWord 59 = .ok (.ireturn, 1) := by decide +kernel
