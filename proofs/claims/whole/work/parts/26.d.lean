theorem dX4_read_0 : decode cX4_read 0 = .ok (.aload_n 0, 1) := by decide +kernel
theorem dX4_read_1 : decode cX4_read 1 = .ok (.aload_n 1, 1) := by decide +kernel
theorem dX4_read_2 : decode cX4_read 2 = .ok (.putfield 15, 3) := by decide +kernel
theorem dX4_read_5 : decode cX4_read 5 = .ok (.aload_n 0, 1) := by decide +kernel
theorem dX4_read_6 : decode cX4_read 6 = .ok (.aload_n 2, 1) := by decide +kernel
theorem dX4_read_7 : decode cX4_read 7 = .ok (.putfield 19, 3) := by decide +kernel
theorem dX4_read_10 : decode cX4_read 10 = .ok (.aload_n 0, 1) := by decide +kernel
theorem dX4_read_11 : decode cX4_read 11 = .ok (.aload_n 3, 1) := by decide +kernel
theorem dX4_read_12 : decode cX4_read 12 = .ok (.putfield 23, 3) := by decide +kernel
theorem dX4_read_15 : decode cX4_read 15 = .ok (.aload_n 0, 1) := by decide +kernel
theorem dX4_read_16 : decode cX4_read 16 = .ok (.iconst 0, 1) := by decide +kernel
theorem dX4_read_17 : decode cX4_read 17 = .ok (.putfield 27, 3) := by decide +kernel
theorem dX4_read_20 : decode cX4_read 20 = .ok (.aload_n 0, 1) := by decide +kernel
theorem dX4_read_21 : decode cX4_read 21 = .ok (.aload_n 3, 1) := by decide +kernel
theorem dX4_read_22 : decode cX4_read 22 = .ok (.getfield 31, 3) := by decide +kernel
theorem dX4_read_25 : decode cX4_read 25 = .ok (.putfield 36, 3) := by decide +kernel
theorem dX4_read_28 : decode cX4_read 28 = .ok (.iconst 0, 1) := by decide +kernel
theorem dX4_read_29 : decode cX4_read 29 = .ok (.istore 4, 2) := by decide +kernel
theorem dX4_read_31 : decode cX4_read 31 = .ok (.iload 4, 2) := by decide +kernel
theorem dX4_read_33 : decode cX4_read 33 = .ok (.aload_n 0, 1) := by decide +kernel
theorem dX4_read_34 : decode cX4_read 34 = .ok (.getfield 19, 3) := by decide +kernel
theorem dX4_read_37 : decode cX4_read 37 = .ok (.getfield 37, 3) := by decide +kernel
theorem dX4_read_40 : decode cX4_read 40 = .ok (.if_icmp .ge 26, 3) := by decide +kernel
theorem dX4_read_43 : decode cX4_read 43 = .ok (.aload_n 0, 1) := by decide +kernel
theorem dX4_read_44 : decode cX4_read 44 = .ok (.getfield 9, 3) := by decide +kernel
theorem dX4_read_47 : decode cX4_read 47 = .ok (.iload 4, 2) := by decide +kernel
theorem dX4_read_49 : decode cX4_read 49 = .ok (.aload_n 3, 1) := by decide +kernel
theorem dX4_read_50 : decode cX4_read 50 = .ok (.getfield 42, 3) := by decide +kernel
theorem dX4_read_53 : decode cX4_read 53 = .ok (.iload 4, 2) := by decide +kernel
theorem dX4_read_55 : decode cX4_read 55 = .ok (.aaload, 1) := by decide +kernel
theorem dX4_read_56 : decode cX4_read 56 = .ok (.getfield 46, 3) := by decide +kernel
theorem dX4_read_59 : decode cX4_read 59 = .ok (.iastore, 1) := by decide +kernel
theorem dX4_read_60 : decode cX4_read 60 = .ok (.iinc 4 1, 3) := by decide +kernel
theorem dX4_read_63 : decode cX4_read 63 = .ok (.goto (-32), 3) := by decide +kernel
theorem dX4_read_66 : decode cX4_read 66 = .ok (.iconst 0, 1) := by decide +kernel
theorem dX4_read_67 : decode cX4_read 67 = .ok (.istore 4, 2) := by decide +kernel
theorem dX4_read_69 : decode cX4_read 69 = .ok (.iload 4, 2) := by decide +kernel
theorem dX4_read_71 : decode cX4_read 71 = .ok (.sipush 700, 3) := by decide +kernel
theorem dX4_read_74 : decode cX4_read 74 = .ok (.if_icmp .gt 76, 3) := by decide +kernel
theorem dX4_read_77 : decode cX4_read 77 = .ok (.aload_n 0, 1) := by decide +kernel
theorem dX4_read_78 : decode cX4_read 78 = .ok (.getfield 15, 3) := by decide +kernel
theorem dX4_read_81 : decode cX4_read 81 = .ok (.getfield 51, 3) := by decide +kernel
theorem dX4_read_84 : decode cX4_read 84 = .ok (.ifCond .ne 14, 3) := by decide +kernel
theorem dX4_read_87 : decode cX4_read 87 = .ok (.iload 4, 2) := by decide +kernel
theorem dX4_read_89 : decode cX4_read 89 = .ok (.ifCond .ne 7, 3) := by decide +kernel
theorem dX4_read_92 : decode cX4_read 92 = .ok (.iconst 1, 1) := by decide +kernel
theorem dX4_read_93 : decode cX4_read 93 = .ok (.goto 4, 3) := by decide +kernel
theorem dX4_read_96 : decode cX4_read 96 = .ok (.iconst 0, 1) := by decide +kernel
theorem dX4_read_97 : decode cX4_read 97 = .ok (.ireturn, 1) := by decide +kernel
theorem dX4_read_98 : decode cX4_read 98 = .ok (.aload_n 0, 1) := by decide +kernel
theorem dX4_read_99 : decode cX4_read 99 = .ok (.getfield 36, 3) := by decide +kernel
theorem dX4_read_102 : decode cX4_read 102 = .ok (.bipush 30, 2) := by decide +kernel
theorem dX4_read_104 : decode cX4_read 104 = .ok (.if_icmp .lt 17, 3) := by decide +kernel
theorem dX4_read_107 : decode cX4_read 107 = .ok (.aload_n 0, 1) := by decide +kernel
theorem dX4_read_108 : decode cX4_read 108 = .ok (.iconst 0, 1) := by decide +kernel
theorem dX4_read_109 : decode cX4_read 109 = .ok (.invokevirtual 56, 3) := by decide +kernel
theorem dX4_read_112 : decode cX4_read 112 = .ok (.ifCond .eq 7, 3) := by decide +kernel
theorem dX4_read_115 : decode cX4_read 115 = .ok (.iconst 2, 1) := by decide +kernel
theorem dX4_read_116 : decode cX4_read 116 = .ok (.goto 4, 3) := by decide +kernel
theorem dX4_read_119 : decode cX4_read 119 = .ok (.iconst 1, 1) := by decide +kernel
theorem dX4_read_120 : decode cX4_read 120 = .ok (.ireturn, 1) := by decide +kernel
theorem dX4_read_121 : decode cX4_read 121 = .ok (.aload_n 0, 1) := by decide +kernel
theorem dX4_read_122 : decode cX4_read 122 = .ok (.iconst (-1), 1) := by decide +kernel
theorem dX4_read_123 : decode cX4_read 123 = .ok (.iconst 0, 1) := by decide +kernel
theorem dX4_read_124 : decode cX4_read 124 = .ok (.iconst 0, 1) := by decide +kernel
theorem dX4_read_125 : decode cX4_read 125 = .ok (.iconst 0, 1) := by decide +kernel
theorem dX4_read_126 : decode cX4_read 126 = .ok (.invokevirtual 60, 3) := by decide +kernel
theorem dX4_read_129 : decode cX4_read 129 = .ok (.ifCond .eq 10, 3) := by decide +kernel
theorem dX4_read_132 : decode cX4_read 132 = .ok (.aload_n 0, 1) := by decide +kernel
theorem dX4_read_133 : decode cX4_read 133 = .ok (.invokevirtual 64, 3) := by decide +kernel
theorem dX4_read_136 : decode cX4_read 136 = .ok (.ifCond .ne 8, 3) := by decide +kernel
theorem dX4_read_139 : decode cX4_read 139 = .ok (.aload_n 0, 1) := by decide +kernel
theorem dX4_read_140 : decode cX4_read 140 = .ok (.getfield 27, 3) := by decide +kernel
theorem dX4_read_143 : decode cX4_read 143 = .ok (.ireturn, 1) := by decide +kernel
theorem dX4_read_144 : decode cX4_read 144 = .ok (.iinc 4 1, 3) := by decide +kernel
theorem dX4_read_147 : decode cX4_read 147 = .ok (.goto (-78), 3) := by decide +kernel
theorem dX4_read_150 : decode cX4_read 150 = .ok (.iconst 1, 1) := by decide +kernel
theorem dX4_read_151 : decode cX4_read 151 = .ok (.ireturn, 1) := by decide +kernel
theorem dX4_readEnd_0 : decode cX4_readEnd 0 = .ok (.aload_n 0, 1) := by decide +kernel
theorem dX4_readEnd_1 : decode cX4_readEnd 1 = .ok (.getfield 15, 3) := by decide +kernel
theorem dX4_readEnd_4 : decode cX4_readEnd 4 = .ok (.getfield 51, 3) := by decide +kernel
theorem dX4_readEnd_7 : decode cX4_readEnd 7 = .ok (.bipush 59, 2) := by decide +kernel
theorem dX4_readEnd_9 : decode cX4_readEnd 9 = .ok (.if_icmp .eq 9, 3) := by decide +kernel
theorem dX4_readEnd_12 : decode cX4_readEnd 12 = .ok (.aload_n 0, 1) := by decide +kernel
theorem dX4_readEnd_13 : decode cX4_readEnd 13 = .ok (.iconst 1, 1) := by decide +kernel
theorem dX4_readEnd_14 : decode cX4_readEnd 14 = .ok (.invokevirtual 68, 3) := by decide +kernel
theorem dX4_readEnd_17 : decode cX4_readEnd 17 = .ok (.ireturn, 1) := by decide +kernel
theorem dX4_readEnd_18 : decode cX4_readEnd 18 = .ok (.iconst 0, 1) := by decide +kernel
theorem dX4_readEnd_19 : decode cX4_readEnd 19 = .ok (.istore_n 1, 1) := by decide +kernel
theorem dX4_readEnd_20 : decode cX4_readEnd 20 = .ok (.iload_n 1, 1) := by decide +kernel
theorem dX4_readEnd_21 : decode cX4_readEnd 21 = .ok (.aload_n 0, 1) := by decide +kernel
theorem dX4_readEnd_22 : decode cX4_readEnd 22 = .ok (.getfield 19, 3) := by decide +kernel
theorem dX4_readEnd_25 : decode cX4_readEnd 25 = .ok (.getfield 37, 3) := by decide +kernel
theorem dX4_readEnd_28 : decode cX4_readEnd 28 = .ok (.if_icmp .ge 26, 3) := by decide +kernel
theorem dX4_readEnd_31 : decode cX4_readEnd 31 = .ok (.aload_n 0, 1) := by decide +kernel
theorem dX4_readEnd_32 : decode cX4_readEnd 32 = .ok (.getfield 9, 3) := by decide +kernel
theorem dX4_readEnd_35 : decode cX4_readEnd 35 = .ok (.iload_n 1, 1) := by decide +kernel
theorem dX4_readEnd_36 : decode cX4_readEnd 36 = .ok (.iaload, 1) := by decide +kernel
theorem dX4_readEnd_37 : decode cX4_readEnd 37 = .ok (.bipush 120, 2) := by decide +kernel
theorem dX4_readEnd_39 : decode cX4_readEnd 39 = .ok (.if_icmp .le 9, 3) := by decide +kernel
theorem dX4_readEnd_42 : decode cX4_readEnd 42 = .ok (.aload_n 0, 1) := by decide +kernel
theorem dX4_readEnd_43 : decode cX4_readEnd 43 = .ok (.iconst 2, 1) := by decide +kernel
theorem dX4_readEnd_44 : decode cX4_readEnd 44 = .ok (.invokevirtual 68, 3) := by decide +kernel
theorem dX4_readEnd_47 : decode cX4_readEnd 47 = .ok (.ireturn, 1) := by decide +kernel
theorem dX4_readEnd_48 : decode cX4_readEnd 48 = .ok (.iinc 1 1, 3) := by decide +kernel
theorem dX4_readEnd_51 : decode cX4_readEnd 51 = .ok (.goto (-31), 3) := by decide +kernel
theorem dX4_readEnd_54 : decode cX4_readEnd 54 = .ok (.aload_n 0, 1) := by decide +kernel
theorem dX4_readEnd_55 : decode cX4_readEnd 55 = .ok (.dup, 1) := by decide +kernel
theorem dX4_readEnd_56 : decode cX4_readEnd 56 = .ok (.getfield 36, 3) := by decide +kernel
theorem dX4_readEnd_59 : decode cX4_readEnd 59 = .ok (.iconst 1, 1) := by decide +kernel
theorem dX4_readEnd_60 : decode cX4_readEnd 60 = .ok (.iadd, 1) := by decide +kernel
theorem dX4_readEnd_61 : decode cX4_readEnd 61 = .ok (.putfield 36, 3) := by decide +kernel
theorem dX4_readEnd_64 : decode cX4_readEnd 64 = .ok (.aload_n 0, 1) := by decide +kernel
theorem dX4_readEnd_65 : decode cX4_readEnd 65 = .ok (.getfield 15, 3) := by decide +kernel
theorem dX4_readEnd_68 : decode cX4_readEnd 68 = .ok (.invokevirtual 71, 3) := by decide +kernel
theorem dX4_readEnd_71 : decode cX4_readEnd 71 = .ok (.iconst 1, 1) := by decide +kernel
theorem dX4_readEnd_72 : decode cX4_readEnd 72 = .ok (.ireturn, 1) := by decide +kernel
theorem dX5_init_0 : decode cX5_init 0 = .ok (.aload_n 0, 1) := by decide +kernel
theorem dX5_init_1 : decode cX5_init 1 = .ok (.invokespecial 3, 3) := by decide +kernel
theorem dX5_init_4 : decode cX5_init 4 = .ok (.aload_n 0, 1) := by decide +kernel
theorem dX5_init_5 : decode cX5_init 5 = .ok (.bipush 16, 2) := by decide +kernel
theorem dX5_init_7 : decode cX5_init 7 = .ok (.newarray .int, 2) := by decide +kernel
theorem dX5_init_9 : decode cX5_init 9 = .ok (.putfield 9, 3) := by decide +kernel
theorem dX5_init_12 : decode cX5_init 12 = .ok (.aload_n 0, 1) := by decide +kernel
theorem dX5_init_13 : decode cX5_init 13 = .ok (.bipush 16, 2) := by decide +kernel
theorem dX5_init_15 : decode cX5_init 15 = .ok (.newarray .int, 2) := by decide +kernel
theorem dX5_init_17 : decode cX5_init 17 = .ok (.putfield 15, 3) := by decide +kernel
theorem dX5_init_20 : decode cX5_init 20 = .ok (.aload_n 0, 1) := by decide +kernel
theorem dX5_init_21 : decode cX5_init 21 = .ok (.bipush 16, 2) := by decide +kernel
theorem dX5_init_23 : decode cX5_init 23 = .ok (.newarray .int, 2) := by decide +kernel
theorem dX5_init_25 : decode cX5_init 25 = .ok (.putfield 18, 3) := by decide +kernel
theorem dX5_init_28 : decode cX5_init 28 = .ok (.aload_n 0, 1) := by decide +kernel
theorem dX5_init_29 : decode cX5_init 29 = .ok (.bipush 16, 2) := by decide +kernel
theorem dX5_init_31 : decode cX5_init 31 = .ok (.newarray .int, 2) := by decide +kernel
theorem dX5_init_33 : decode cX5_init 33 = .ok (.putfield 21, 3) := by decide +kernel
theorem dX5_init_36 : decode cX5_init 36 = .ok (.aload_n 0, 1) := by decide +kernel
theorem dX5_init_37 : decode cX5_init 37 = .ok (.bipush 16, 2) := by decide +kernel
theorem dX5_init_39 : decode cX5_init 39 = .ok (.newarray .int, 2) := by decide +kernel
theorem dX5_init_41 : decode cX5_init 41 = .ok (.putfield 24, 3) := by decide +kernel
theorem dX5_init_44 : decode cX5_init 44 = .ok (.aload_n 0, 1) := by decide +kernel
theorem dX5_init_45 : decode cX5_init 45 = .ok (.bipush 16, 2) := by decide +kernel
theorem dX5_init_47 : decode cX5_init 47 = .ok (.newarray .int, 2) := by decide +kernel
theorem dX5_init_49 : decode cX5_init 49 = .ok (.putfield 27, 3) := by decide +kernel
theorem dX5_init_52 : decode cX5_init 52 = .ok (.aload_n 0, 1) := by decide +kernel
theorem dX5_init_53 : decode cX5_init 53 = .ok (.bipush 64, 2) := by decide +kernel
theorem dX5_init_55 : decode cX5_init 55 = .ok (.newarray .int, 2) := by decide +kernel
theorem dX5_init_57 : decode cX5_init 57 = .ok (.putfield 30, 3) := by decide +kernel
theorem dX5_init_60 : decode cX5_init 60 = .ok (.aload_n 0, 1) := by decide +kernel
theorem dX5_init_61 : decode cX5_init 61 = .ok (.bipush 16, 2) := by decide +kernel
theorem dX5_init_63 : decode cX5_init 63 = .ok (.newarray .int, 2) := by decide +kernel
theorem dX5_init_65 : decode cX5_init 65 = .ok (.putfield 33, 3) := by decide +kernel
theorem dX5_init_68 : decode cX5_init 68 = .ok (.aload_n 0, 1) := by decide +kernel
theorem dX5_init_69 : decode cX5_init 69 = .ok (.bipush 16, 2) := by decide +kernel
theorem dX5_init_71 : decode cX5_init 71 = .ok (.newarray .int, 2) := by decide +kernel
theorem dX5_init_73 : decode cX5_init 73 = .ok (.putfield 36, 3) := by decide +kernel
theorem dX5_init_76 : decode cX5_init 76 = .ok (.aload_n 0, 1) := by decide +kernel
theorem dX5_init_77 : decode cX5_init 77 = .ok (.bipush 16, 2) := by decide +kernel
theorem dX5_init_79 : decode cX5_init 79 = .ok (.newarray .int, 2) := by decide +kernel
theorem dX5_init_81 : decode cX5_init 81 = .ok (.putfield 39, 3) := by decide +kernel
theorem dX5_init_84 : decode cX5_init 84 = .ok (.aload_n 0, 1) := by decide +kernel
theorem dX5_init_85 : decode cX5_init 85 = .ok (.bipush 8, 2) := by decide +kernel
theorem dX5_init_87 : decode cX5_init 87 = .ok (.newarray .int, 2) := by decide +kernel
theorem dX5_init_89 : decode cX5_init 89 = .ok (.putfield 42, 3) := by decide +kernel
theorem dX5_init_92 : decode cX5_init 92 = .ok (.return_, 1) := by decide +kernel
theorem dX5_clear_0 : decode cX5_clear 0 = .ok (.aload_n 0, 1) := by decide +kernel
theorem dX5_clear_1 : decode cX5_clear 1 = .ok (.iconst 0, 1) := by decide +kernel
theorem dX5_clear_2 : decode cX5_clear 2 = .ok (.putfield 45, 3) := by decide +kernel
theorem dX5_clear_5 : decode cX5_clear 5 = .ok (.aload_n 0, 1) := by decide +kernel
theorem dX5_clear_6 : decode cX5_clear 6 = .ok (.iconst 0, 1) := by decide +kernel
theorem dX5_clear_7 : decode cX5_clear 7 = .ok (.putfield 49, 3) := by decide +kernel
theorem dX5_clear_10 : decode cX5_clear 10 = .ok (.return_, 1) := by decide +kernel
theorem dX5_openField_0 : decode cX5_openField 0 = .ok (.aload_n 0, 1) := by decide +kernel
theorem dX5_openField_1 : decode cX5_openField 1 = .ok (.getfield 45, 3) := by decide +kernel
theorem dX5_openField_4 : decode cX5_openField 4 = .ok (.istore_n 3, 1) := by decide +kernel
theorem dX5_openField_5 : decode cX5_openField 5 = .ok (.aload_n 0, 1) := by decide +kernel
theorem dX5_openField_6 : decode cX5_openField 6 = .ok (.getfield 9, 3) := by decide +kernel
theorem dX5_openField_9 : decode cX5_openField 9 = .ok (.iload_n 3, 1) := by decide +kernel
theorem dX5_openField_10 : decode cX5_openField 10 = .ok (.iload_n 1, 1) := by decide +kernel
theorem dX5_openField_11 : decode cX5_openField 11 = .ok (.iastore, 1) := by decide +kernel
theorem dX5_openField_12 : decode cX5_openField 12 = .ok (.aload_n 0, 1) := by decide +kernel
theorem dX5_openField_13 : decode cX5_openField 13 = .ok (.getfield 15, 3) := by decide +kernel
theorem dX5_openField_16 : decode cX5_openField 16 = .ok (.iload_n 3, 1) := by decide +kernel
theorem dX5_openField_17 : decode cX5_openField 17 = .ok (.iload_n 2, 1) := by decide +kernel
theorem dX5_openField_18 : decode cX5_openField 18 = .ok (.iastore, 1) := by decide +kernel
theorem dX5_openField_19 : decode cX5_openField 19 = .ok (.aload_n 0, 1) := by decide +kernel
theorem dX5_openField_20 : decode cX5_openField 20 = .ok (.getfield 18, 3) := by decide +kernel
theorem dX5_openField_23 : decode cX5_openField 23 = .ok (.iload_n 3, 1) := by decide +kernel
theorem dX5_openField_24 : decode cX5_openField 24 = .ok (.iconst (-1), 1) := by decide +kernel
theorem dX5_openField_25 : decode cX5_openField 25 = .ok (.iastore, 1) := by decide +kernel
theorem dX5_openField_26 : decode cX5_openField 26 = .ok (.aload_n 0, 1) := by decide +kernel
theorem dX5_openField_27 : decode cX5_openField 27 = .ok (.getfield 21, 3) := by decide +kernel
theorem dX5_openField_30 : decode cX5_openField 30 = .ok (.iload_n 3, 1) := by decide +kernel
theorem dX5_openField_31 : decode cX5_openField 31 = .ok (.iload_n 1, 1) := by decide +kernel
theorem dX5_openField_32 : decode cX5_openField 32 = .ok (.ifCond .ne 7, 3) := by decide +kernel
theorem dX5_openField_35 : decode cX5_openField 35 = .ok (.iconst 0, 1) := by decide +kernel
theorem dX5_openField_36 : decode cX5_openField 36 = .ok (.goto 4, 3) := by decide +kernel
theorem dX5_openField_39 : decode cX5_openField 39 = .ok (.iconst 1, 1) := by decide +kernel
theorem dX5_openField_40 : decode cX5_openField 40 = .ok (.iastore, 1) := by decide +kernel
theorem dX5_openField_41 : decode cX5_openField 41 = .ok (.aload_n 0, 1) := by decide +kernel
theorem dX5_openField_42 : decode cX5_openField 42 = .ok (.getfield 24, 3) := by decide +kernel
theorem dX5_openField_45 : decode cX5_openField 45 = .ok (.iload_n 3, 1) := by decide +kernel
theorem dX5_openField_46 : decode cX5_openField 46 = .ok (.iload_n 1, 1) := by decide +kernel
theorem dX5_openField_47 : decode cX5_openField 47 = .ok (.iconst 2, 1) := by decide +kernel
theorem dX5_openField_48 : decode cX5_openField 48 = .ok (.if_icmp .ne 7, 3) := by decide +kernel
theorem dX5_openField_51 : decode cX5_openField 51 = .ok (.iconst 1, 1) := by decide +kernel
theorem dX5_openField_52 : decode cX5_openField 52 = .ok (.goto 4, 3) := by decide +kernel
theorem dX5_openField_55 : decode cX5_openField 55 = .ok (.iconst 0, 1) := by decide +kernel
theorem dX5_openField_56 : decode cX5_openField 56 = .ok (.iastore, 1) := by decide +kernel
theorem dX5_openField_57 : decode cX5_openField 57 = .ok (.iload_n 2, 1) := by decide +kernel
theorem dX5_openField_58 : decode cX5_openField 58 = .ok (.iconst (-1), 1) := by decide +kernel
theorem dX5_openField_59 : decode cX5_openField 59 = .ok (.if_icmp .eq 43, 3) := by decide +kernel
theorem dX5_openField_62 : decode cX5_openField 62 = .ok (.aload_n 0, 1) := by decide +kernel
theorem dX5_openField_63 : decode cX5_openField 63 = .ok (.getfield 21, 3) := by decide +kernel
theorem dX5_openField_66 : decode cX5_openField 66 = .ok (.iload_n 3, 1) := by decide +kernel
theorem dX5_openField_67 : decode cX5_openField 67 = .ok (.dup2, 1) := by decide +kernel
theorem dX5_openField_68 : decode cX5_openField 68 = .ok (.iaload, 1) := by decide +kernel
theorem dX5_openField_69 : decode cX5_openField 69 = .ok (.aload_n 0, 1) := by decide +kernel
theorem dX5_openField_70 : decode cX5_openField 70 = .ok (.getfield 21, 3) := by decide +kernel
theorem dX5_openField_73 : decode cX5_openField 73 = .ok (.iload_n 2, 1) := by decide +kernel
theorem dX5_openField_74 : decode cX5_openField 74 = .ok (.iaload, 1) := by decide +kernel
theorem dX5_openField_75 : decode cX5_openField 75 = .ok (.iadd, 1) := by decide +kernel
theorem dX5_openField_76 : decode cX5_openField 76 = .ok (.iastore, 1) := by decide +kernel
theorem dX5_openField_77 : decode cX5_openField 77 = .ok (.aload_n 0, 1) := by decide +kernel
theorem dX5_openField_78 : decode cX5_openField 78 = .ok (.getfield 24, 3) := by decide +kernel
theorem dX5_openField_81 : decode cX5_openField 81 = .ok (.iload_n 3, 1) := by decide +kernel
theorem dX5_openField_82 : decode cX5_openField 82 = .ok (.dup2, 1) := by decide +kernel
theorem dX5_openField_83 : decode cX5_openField 83 = .ok (.iaload, 1) := by decide +kernel
theorem dX5_openField_84 : decode cX5_openField 84 = .ok (.aload_n 0, 1) := by decide +kernel
theorem dX5_openField_85 : decode cX5_openField 85 = .ok (.getfield 24, 3) := by decide +kernel
theorem dX5_openField_88 : decode cX5_openField 88 = .ok (.iload_n 2, 1) := by decide +kernel
theorem dX5_openField_89 : decode cX5_openField 89 = .ok (.iaload, 1) := by decide +kernel
theorem dX5_openField_90 : decode cX5_openField 90 = .ok (.iadd, 1) := by decide +kernel
theorem dX5_openField_91 : decode cX5_openField 91 = .ok (.iastore, 1) := by decide +kernel
theorem dX5_openField_92 : decode cX5_openField 92 = .ok (.aload_n 0, 1) := by decide +kernel
theorem dX5_openField_93 : decode cX5_openField 93 = .ok (.getfield 33, 3) := by decide +kernel
theorem dX5_openField_96 : decode cX5_openField 96 = .ok (.iload_n 2, 1) := by decide +kernel
theorem dX5_openField_97 : decode cX5_openField 97 = .ok (.dup2, 1) := by decide +kernel
theorem dX5_openField_98 : decode cX5_openField 98 = .ok (.iaload, 1) := by decide +kernel
theorem dX5_openField_99 : decode cX5_openField 99 = .ok (.iconst 1, 1) := by decide +kernel
theorem dX5_openField_100 : decode cX5_openField 100 = .ok (.iadd, 1) := by decide +kernel
theorem dX5_openField_101 : decode cX5_openField 101 = .ok (.iastore, 1) := by decide +kernel
theorem dX5_openField_102 : decode cX5_openField 102 = .ok (.aload_n 0, 1) := by decide +kernel
theorem dX5_openField_103 : decode cX5_openField 103 = .ok (.getfield 27, 3) := by decide +kernel
theorem dX5_openField_106 : decode cX5_openField 106 = .ok (.iload_n 3, 1) := by decide +kernel
theorem dX5_openField_107 : decode cX5_openField 107 = .ok (.iconst 0, 1) := by decide +kernel
theorem dX5_openField_108 : decode cX5_openField 108 = .ok (.iastore, 1) := by decide +kernel
theorem dX5_openField_109 : decode cX5_openField 109 = .ok (.aload_n 0, 1) := by decide +kernel
theorem dX5_openField_110 : decode cX5_openField 110 = .ok (.getfield 33, 3) := by decide +kernel
theorem dX5_openField_113 : decode cX5_openField 113 = .ok (.iload_n 3, 1) := by decide +kernel
theorem dX5_openField_114 : decode cX5_openField 114 = .ok (.iconst 0, 1) := by decide +kernel
theorem dX5_openField_115 : decode cX5_openField 115 = .ok (.iastore, 1) := by decide +kernel
theorem dX5_openField_116 : decode cX5_openField 116 = .ok (.aload_n 0, 1) := by decide +kernel
theorem dX5_openField_117 : decode cX5_openField 117 = .ok (.getfield 36, 3) := by decide +kernel
theorem dX5_openField_120 : decode cX5_openField 120 = .ok (.iload_n 3, 1) := by decide +kernel
theorem dX5_openField_121 : decode cX5_openField 121 = .ok (.iconst 0, 1) := by decide +kernel
theorem dX5_openField_122 : decode cX5_openField 122 = .ok (.iastore, 1) := by decide +kernel
theorem dX5_openField_123 : decode cX5_openField 123 = .ok (.aload_n 0, 1) := by decide +kernel
theorem dX5_openField_124 : decode cX5_openField 124 = .ok (.getfield 39, 3) := by decide +kernel
theorem dX5_openField_127 : decode cX5_openField 127 = .ok (.iload_n 3, 1) := by decide +kernel
theorem dX5_openField_128 : decode cX5_openField 128 = .ok (.iconst (-1), 1) := by decide +kernel
theorem dX5_openField_129 : decode cX5_openField 129 = .ok (.iastore, 1) := by decide +kernel
theorem dX5_openField_130 : decode cX5_openField 130 = .ok (.aload_n 0, 1) := by decide +kernel
theorem dX5_openField_131 : decode cX5_openField 131 = .ok (.dup, 1) := by decide +kernel
theorem dX5_openField_132 : decode cX5_openField 132 = .ok (.getfield 45, 3) := by decide +kernel
theorem dX5_openField_135 : decode cX5_openField 135 = .ok (.iconst 1, 1) := by decide +kernel
theorem dX5_openField_136 : decode cX5_openField 136 = .ok (.iadd, 1) := by decide +kernel
theorem dX5_openField_137 : decode cX5_openField 137 = .ok (.putfield 45, 3) := by decide +kernel
theorem dX5_openField_140 : decode cX5_openField 140 = .ok (.iload_n 3, 1) := by decide +kernel
theorem dX5_openField_141 : decode cX5_openField 141 = .ok (.ireturn, 1) := by decide +kernel
theorem dX5_makeLeaf_0 : decode cX5_makeLeaf 0 = .ok (.aload_n 0, 1) := by decide +kernel
theorem dX5_makeLeaf_1 : decode cX5_makeLeaf 1 = .ok (.getfield 18, 3) := by decide +kernel
theorem dX5_makeLeaf_4 : decode cX5_makeLeaf 4 = .ok (.iload_n 1, 1) := by decide +kernel
theorem dX5_makeLeaf_5 : decode cX5_makeLeaf 5 = .ok (.aload_n 0, 1) := by decide +kernel
theorem dX5_makeLeaf_6 : decode cX5_makeLeaf 6 = .ok (.getfield 49, 3) := by decide +kernel
theorem dX5_makeLeaf_9 : decode cX5_makeLeaf 9 = .ok (.iastore, 1) := by decide +kernel
theorem dX5_makeLeaf_10 : decode cX5_makeLeaf 10 = .ok (.aload_n 0, 1) := by decide +kernel
theorem dX5_makeLeaf_11 : decode cX5_makeLeaf 11 = .ok (.getfield 42, 3) := by decide +kernel
theorem dX5_makeLeaf_14 : decode cX5_makeLeaf 14 = .ok (.aload_n 0, 1) := by decide +kernel
theorem dX5_makeLeaf_15 : decode cX5_makeLeaf 15 = .ok (.getfield 49, 3) := by decide +kernel
theorem dX5_makeLeaf_18 : decode cX5_makeLeaf 18 = .ok (.iload_n 1, 1) := by decide +kernel
theorem dX5_makeLeaf_19 : decode cX5_makeLeaf 19 = .ok (.iastore, 1) := by decide +kernel
theorem dX5_makeLeaf_20 : decode cX5_makeLeaf 20 = .ok (.iload_n 1, 1) := by decide +kernel
theorem dX5_makeLeaf_21 : decode cX5_makeLeaf 21 = .ok (.istore_n 2, 1) := by decide +kernel
theorem dX5_makeLeaf_22 : decode cX5_makeLeaf 22 = .ok (.iconst 0, 1) := by decide +kernel
theorem dX5_makeLeaf_23 : decode cX5_makeLeaf 23 = .ok (.istore_n 3, 1) := by decide +kernel
theorem dX5_makeLeaf_24 : decode cX5_makeLeaf 24 = .ok (.iload_n 3, 1) := by decide +kernel
theorem dX5_makeLeaf_25 : decode cX5_makeLeaf 25 = .ok (.bipush 16, 2) := by decide +kernel
theorem dX5_makeLeaf_27 : decode cX5_makeLeaf 27 = .ok (.if_icmp .ge 36, 3) := by decide +kernel
theorem dX5_makeLeaf_30 : decode cX5_makeLeaf 30 = .ok (.iload_n 2, 1) := by decide +kernel
theorem dX5_makeLeaf_31 : decode cX5_makeLeaf 31 = .ok (.iconst (-1), 1) := by decide +kernel
theorem dX5_makeLeaf_32 : decode cX5_makeLeaf 32 = .ok (.if_icmp .eq 31, 3) := by decide +kernel
theorem dX5_makeLeaf_35 : decode cX5_makeLeaf 35 = .ok (.aload_n 0, 1) := by decide +kernel
theorem dX5_makeLeaf_36 : decode cX5_makeLeaf 36 = .ok (.getfield 36, 3) := by decide +kernel
theorem dX5_makeLeaf_39 : decode cX5_makeLeaf 39 = .ok (.iload_n 2, 1) := by decide +kernel
theorem dX5_makeLeaf_40 : decode cX5_makeLeaf 40 = .ok (.dup2, 1) := by decide +kernel
theorem dX5_makeLeaf_41 : decode cX5_makeLeaf 41 = .ok (.iaload, 1) := by decide +kernel
theorem dX5_makeLeaf_42 : decode cX5_makeLeaf 42 = .ok (.iconst 1, 1) := by decide +kernel
theorem dX5_makeLeaf_43 : decode cX5_makeLeaf 43 = .ok (.aload_n 0, 1) := by decide +kernel
theorem dX5_makeLeaf_44 : decode cX5_makeLeaf 44 = .ok (.getfield 49, 3) := by decide +kernel
theorem dX5_makeLeaf_47 : decode cX5_makeLeaf 47 = .ok (.ishl, 1) := by decide +kernel
theorem dX5_makeLeaf_48 : decode cX5_makeLeaf 48 = .ok (.ior, 1) := by decide +kernel
theorem dX5_makeLeaf_49 : decode cX5_makeLeaf 49 = .ok (.iastore, 1) := by decide +kernel
theorem dX5_makeLeaf_50 : decode cX5_makeLeaf 50 = .ok (.aload_n 0, 1) := by decide +kernel
theorem dX5_makeLeaf_51 : decode cX5_makeLeaf 51 = .ok (.getfield 15, 3) := by decide +kernel
theorem dX5_makeLeaf_54 : decode cX5_makeLeaf 54 = .ok (.iload_n 2, 1) := by decide +kernel
theorem dX5_makeLeaf_55 : decode cX5_makeLeaf 55 = .ok (.iaload, 1) := by decide +kernel
theorem dX5_makeLeaf_56 : decode cX5_makeLeaf 56 = .ok (.istore_n 2, 1) := by decide +kernel
theorem dX5_makeLeaf_57 : decode cX5_makeLeaf 57 = .ok (.iinc 3 1, 3) := by decide +kernel
theorem dX5_makeLeaf_60 : decode cX5_makeLeaf 60 = .ok (.goto (-36), 3) := by decide +kernel
theorem dX5_makeLeaf_63 : decode cX5_makeLeaf 63 = .ok (.aload_n 0, 1) := by decide +kernel
theorem dX5_makeLeaf_64 : decode cX5_makeLeaf 64 = .ok (.dup, 1) := by decide +kernel
theorem dX5_makeLeaf_65 : decode cX5_makeLeaf 65 = .ok (.getfield 49, 3) := by decide +kernel
theorem dX5_makeLeaf_68 : decode cX5_makeLeaf 68 = .ok (.iconst 1, 1) := by decide +kernel
theorem dX5_makeLeaf_69 : decode cX5_makeLeaf 69 = .ok (.iadd, 1) := by decide +kernel
theorem dX5_makeLeaf_70 : decode cX5_makeLeaf 70 = .ok (.putfield 49, 3) := by decide +kernel
theorem dX5_makeLeaf_73 : decode cX5_makeLeaf 73 = .ok (.return_, 1) := by decide +kernel
theorem dX5_putName_0 : decode cX5_putName 0 = .ok (.iconst 0, 1) := by decide +kernel
theorem dX5_putName_1 : decode cX5_putName 1 = .ok (.istore_n 3, 1) := by decide +kernel
theorem dX5_putName_2 : decode cX5_putName 2 = .ok (.iload_n 3, 1) := by decide +kernel
theorem dX5_putName_3 : decode cX5_putName 3 = .ok (.aload_n 2, 1) := by decide +kernel
theorem dX5_putName_4 : decode cX5_putName 4 = .ok (.invokevirtual 52, 3) := by decide +kernel
theorem dX5_putName_7 : decode cX5_putName 7 = .ok (.if_icmp .ge 44, 3) := by decide +kernel
theorem dX5_putName_10 : decode cX5_putName 10 = .ok (.iload_n 3, 1) := by decide +kernel
theorem dX5_putName_11 : decode cX5_putName 11 = .ok (.iconst 4, 1) := by decide +kernel
theorem dX5_putName_12 : decode cX5_putName 12 = .ok (.if_icmp .ge 39, 3) := by decide +kernel
theorem dX5_putName_15 : decode cX5_putName 15 = .ok (.aload_n 0, 1) := by decide +kernel
theorem dX5_putName_16 : decode cX5_putName 16 = .ok (.getfield 30, 3) := by decide +kernel
theorem dX5_putName_19 : decode cX5_putName 19 = .ok (.iload_n 1, 1) := by decide +kernel
theorem dX5_putName_20 : decode cX5_putName 20 = .ok (.iconst 4, 1) := by decide +kernel
theorem dX5_putName_21 : decode cX5_putName 21 = .ok (.imul, 1) := by decide +kernel
theorem dX5_putName_22 : decode cX5_putName 22 = .ok (.iload_n 3, 1) := by decide +kernel
theorem dX5_putName_23 : decode cX5_putName 23 = .ok (.iadd, 1) := by decide +kernel
theorem dX5_putName_24 : decode cX5_putName 24 = .ok (.aload_n 2, 1) := by decide +kernel
theorem dX5_putName_25 : decode cX5_putName 25 = .ok (.getfield 58, 3) := by decide +kernel
theorem dX5_putName_28 : decode cX5_putName 28 = .ok (.aload_n 2, 1) := by decide +kernel
theorem dX5_putName_29 : decode cX5_putName 29 = .ok (.getfield 61, 3) := by decide +kernel
theorem dX5_putName_32 : decode cX5_putName 32 = .ok (.iload_n 3, 1) := by decide +kernel
theorem dX5_putName_33 : decode cX5_putName 33 = .ok (.iadd, 1) := by decide +kernel
theorem dX5_putName_34 : decode cX5_putName 34 = .ok (.iaload, 1) := by decide +kernel
theorem dX5_putName_35 : decode cX5_putName 35 = .ok (.iastore, 1) := by decide +kernel
theorem dX5_putName_36 : decode cX5_putName 36 = .ok (.aload_n 0, 1) := by decide +kernel
theorem dX5_putName_37 : decode cX5_putName 37 = .ok (.getfield 27, 3) := by decide +kernel
theorem dX5_putName_40 : decode cX5_putName 40 = .ok (.iload_n 1, 1) := by decide +kernel
theorem dX5_putName_41 : decode cX5_putName 41 = .ok (.iload_n 3, 1) := by decide +kernel
theorem dX5_putName_42 : decode cX5_putName 42 = .ok (.iconst 1, 1) := by decide +kernel
theorem dX5_putName_43 : decode cX5_putName 43 = .ok (.iadd, 1) := by decide +kernel
theorem dX5_putName_44 : decode cX5_putName 44 = .ok (.iastore, 1) := by decide +kernel
theorem dX5_putName_45 : decode cX5_putName 45 = .ok (.iinc 3 1, 3) := by decide +kernel
theorem dX5_putName_48 : decode cX5_putName 48 = .ok (.goto (-46), 3) := by decide +kernel
theorem dX5_putName_51 : decode cX5_putName 51 = .ok (.return_, 1) := by decide +kernel
theorem dX5_hasNameOf_0 : decode cX5_hasNameOf 0 = .ok (.aload_n 0, 1) := by decide +kernel
theorem dX5_hasNameOf_1 : decode cX5_hasNameOf 1 = .ok (.getfield 27, 3) := by decide +kernel
theorem dX5_hasNameOf_4 : decode cX5_hasNameOf 4 = .ok (.iload_n 1, 1) := by decide +kernel
theorem dX5_hasNameOf_5 : decode cX5_hasNameOf 5 = .ok (.iaload, 1) := by decide +kernel
theorem dX5_hasNameOf_6 : decode cX5_hasNameOf 6 = .ok (.aload_n 2, 1) := by decide +kernel
theorem dX5_hasNameOf_7 : decode cX5_hasNameOf 7 = .ok (.getfield 27, 3) := by decide +kernel
theorem dX5_hasNameOf_10 : decode cX5_hasNameOf 10 = .ok (.iload_n 3, 1) := by decide +kernel
theorem dX5_hasNameOf_11 : decode cX5_hasNameOf 11 = .ok (.iaload, 1) := by decide +kernel
theorem dX5_hasNameOf_12 : decode cX5_hasNameOf 12 = .ok (.if_icmp .eq 5, 3) := by decide +kernel
theorem dX5_hasNameOf_15 : decode cX5_hasNameOf 15 = .ok (.iconst 0, 1) := by decide +kernel
theorem dX5_hasNameOf_16 : decode cX5_hasNameOf 16 = .ok (.ireturn, 1) := by decide +kernel
theorem dX5_hasNameOf_17 : decode cX5_hasNameOf 17 = .ok (.iconst 0, 1) := by decide +kernel
theorem dX5_hasNameOf_18 : decode cX5_hasNameOf 18 = .ok (.istore 4, 2) := by decide +kernel
theorem dX5_hasNameOf_20 : decode cX5_hasNameOf 20 = .ok (.iload 4, 2) := by decide +kernel
theorem dX5_hasNameOf_22 : decode cX5_hasNameOf 22 = .ok (.aload_n 0, 1) := by decide +kernel
theorem dX5_hasNameOf_23 : decode cX5_hasNameOf 23 = .ok (.getfield 27, 3) := by decide +kernel
theorem dX5_hasNameOf_26 : decode cX5_hasNameOf 26 = .ok (.iload_n 1, 1) := by decide +kernel
theorem dX5_hasNameOf_27 : decode cX5_hasNameOf 27 = .ok (.iaload, 1) := by decide +kernel
theorem dX5_hasNameOf_28 : decode cX5_hasNameOf 28 = .ok (.if_icmp .ge 36, 3) := by decide +kernel
theorem dX5_hasNameOf_31 : decode cX5_hasNameOf 31 = .ok (.aload_n 0, 1) := by decide +kernel
theorem dX5_hasNameOf_32 : decode cX5_hasNameOf 32 = .ok (.getfield 30, 3) := by decide +kernel
theorem dX5_hasNameOf_35 : decode cX5_hasNameOf 35 = .ok (.iload_n 1, 1) := by decide +kernel
theorem dX5_hasNameOf_36 : decode cX5_hasNameOf 36 = .ok (.iconst 4, 1) := by decide +kernel
theorem dX5_hasNameOf_37 : decode cX5_hasNameOf 37 = .ok (.imul, 1) := by decide +kernel
theorem dX5_hasNameOf_38 : decode cX5_hasNameOf 38 = .ok (.iload 4, 2) := by decide +kernel
theorem dX5_hasNameOf_40 : decode cX5_hasNameOf 40 = .ok (.iadd, 1) := by decide +kernel
theorem dX5_hasNameOf_41 : decode cX5_hasNameOf 41 = .ok (.iaload, 1) := by decide +kernel
theorem dX5_hasNameOf_42 : decode cX5_hasNameOf 42 = .ok (.aload_n 2, 1) := by decide +kernel
theorem dX5_hasNameOf_43 : decode cX5_hasNameOf 43 = .ok (.getfield 30, 3) := by decide +kernel
theorem dX5_hasNameOf_46 : decode cX5_hasNameOf 46 = .ok (.iload_n 3, 1) := by decide +kernel
theorem dX5_hasNameOf_47 : decode cX5_hasNameOf 47 = .ok (.iconst 4, 1) := by decide +kernel
theorem dX5_hasNameOf_48 : decode cX5_hasNameOf 48 = .ok (.imul, 1) := by decide +kernel
theorem dX5_hasNameOf_49 : decode cX5_hasNameOf 49 = .ok (.iload 4, 2) := by decide +kernel
theorem dX5_hasNameOf_51 : decode cX5_hasNameOf 51 = .ok (.iadd, 1) := by decide +kernel
theorem dX5_hasNameOf_52 : decode cX5_hasNameOf 52 = .ok (.iaload, 1) := by decide +kernel
theorem dX5_hasNameOf_53 : decode cX5_hasNameOf 53 = .ok (.if_icmp .eq 5, 3) := by decide +kernel
theorem dX5_hasNameOf_56 : decode cX5_hasNameOf 56 = .ok (.iconst 0, 1) := by decide +kernel
theorem dX5_hasNameOf_57 : decode cX5_hasNameOf 57 = .ok (.ireturn, 1) := by decide +kernel
theorem dX5_hasNameOf_58 : decode cX5_hasNameOf 58 = .ok (.iinc 4 1, 3) := by decide +kernel
theorem dX5_hasNameOf_61 : decode cX5_hasNameOf 61 = .ok (.goto (-41), 3) := by decide +kernel
theorem dX5_hasNameOf_64 : decode cX5_hasNameOf 64 = .ok (.iconst 1, 1) := by decide +kernel
theorem dX5_hasNameOf_65 : decode cX5_hasNameOf 65 = .ok (.ireturn, 1) := by decide +kernel
theorem dX5_fieldNamed_0 : decode cX5_fieldNamed 0 = .ok (.iconst 0, 1) := by decide +kernel
theorem dX5_fieldNamed_1 : decode cX5_fieldNamed 1 = .ok (.istore 4, 2) := by decide +kernel
theorem dX5_fieldNamed_3 : decode cX5_fieldNamed 3 = .ok (.iload 4, 2) := by decide +kernel
theorem dX5_fieldNamed_5 : decode cX5_fieldNamed 5 = .ok (.aload_n 0, 1) := by decide +kernel
theorem dX5_fieldNamed_6 : decode cX5_fieldNamed 6 = .ok (.getfield 45, 3) := by decide +kernel
theorem dX5_fieldNamed_9 : decode cX5_fieldNamed 9 = .ok (.if_icmp .ge 34, 3) := by decide +kernel
theorem dX5_fieldNamed_12 : decode cX5_fieldNamed 12 = .ok (.aload_n 0, 1) := by decide +kernel
theorem dX5_fieldNamed_13 : decode cX5_fieldNamed 13 = .ok (.getfield 15, 3) := by decide +kernel
theorem dX5_fieldNamed_16 : decode cX5_fieldNamed 16 = .ok (.iload 4, 2) := by decide +kernel
theorem dX5_fieldNamed_18 : decode cX5_fieldNamed 18 = .ok (.iaload, 1) := by decide +kernel
theorem dX5_fieldNamed_19 : decode cX5_fieldNamed 19 = .ok (.iload_n 1, 1) := by decide +kernel
theorem dX5_fieldNamed_20 : decode cX5_fieldNamed 20 = .ok (.if_icmp .ne 17, 3) := by decide +kernel
theorem dX5_fieldNamed_23 : decode cX5_fieldNamed 23 = .ok (.aload_n 0, 1) := by decide +kernel
theorem dX5_fieldNamed_24 : decode cX5_fieldNamed 24 = .ok (.iload 4, 2) := by decide +kernel
theorem dX5_fieldNamed_26 : decode cX5_fieldNamed 26 = .ok (.aload_n 2, 1) := by decide +kernel
theorem dX5_fieldNamed_27 : decode cX5_fieldNamed 27 = .ok (.iload_n 3, 1) := by decide +kernel
theorem dX5_fieldNamed_28 : decode cX5_fieldNamed 28 = .ok (.invokevirtual 64, 3) := by decide +kernel
theorem dX5_fieldNamed_31 : decode cX5_fieldNamed 31 = .ok (.ifCond .eq 6, 3) := by decide +kernel
theorem dX5_fieldNamed_34 : decode cX5_fieldNamed 34 = .ok (.iload 4, 2) := by decide +kernel
theorem dX5_fieldNamed_36 : decode cX5_fieldNamed 36 = .ok (.ireturn, 1) := by decide +kernel
theorem dX5_fieldNamed_37 : decode cX5_fieldNamed 37 = .ok (.iinc 4 1, 3) := by decide +kernel
theorem dX5_fieldNamed_40 : decode cX5_fieldNamed 40 = .ok (.goto (-37), 3) := by decide +kernel
theorem dX5_fieldNamed_43 : decode cX5_fieldNamed 43 = .ok (.iconst (-1), 1) := by decide +kernel
theorem dX5_fieldNamed_44 : decode cX5_fieldNamed 44 = .ok (.ireturn, 1) := by decide +kernel
theorem dX5_leafAfter_0 : decode cX5_leafAfter 0 = .ok (.iload_n 1, 1) := by decide +kernel
theorem dX5_leafAfter_1 : decode cX5_leafAfter 1 = .ok (.bipush (-2), 2) := by decide +kernel
theorem dX5_leafAfter_3 : decode cX5_leafAfter 3 = .ok (.iload_n 2, 1) := by decide +kernel
theorem dX5_leafAfter_4 : decode cX5_leafAfter 4 = .ok (.ishl, 1) := by decide +kernel
theorem dX5_leafAfter_5 : decode cX5_leafAfter 5 = .ok (.iand, 1) := by decide +kernel
theorem dX5_leafAfter_6 : decode cX5_leafAfter 6 = .ok (.invokestatic 72, 3) := by decide +kernel
theorem dX5_leafAfter_9 : decode cX5_leafAfter 9 = .ok (.istore 4, 2) := by decide +kernel
theorem dX5_leafAfter_11 : decode cX5_leafAfter 11 = .ok (.iload 4, 2) := by decide +kernel
theorem dX5_leafAfter_13 : decode cX5_leafAfter 13 = .ok (.iconst (-1), 1) := by decide +kernel
theorem dX5_leafAfter_14 : decode cX5_leafAfter 14 = .ok (.if_icmp .ne 7, 3) := by decide +kernel
theorem dX5_leafAfter_17 : decode cX5_leafAfter 17 = .ok (.iconst 0, 1) := by decide +kernel
theorem dX5_leafAfter_18 : decode cX5_leafAfter 18 = .ok (.goto 10, 3) := by decide +kernel
theorem dX5_leafAfter_21 : decode cX5_leafAfter 21 = .ok (.aload_n 0, 1) := by decide +kernel
theorem dX5_leafAfter_22 : decode cX5_leafAfter 22 = .ok (.iload_n 2, 1) := by decide +kernel
theorem dX5_leafAfter_23 : decode cX5_leafAfter 23 = .ok (.iload 4, 2) := by decide +kernel
theorem dX5_leafAfter_25 : decode cX5_leafAfter 25 = .ok (.invokevirtual 76, 3) := by decide +kernel
theorem dX5_leafAfter_28 : decode cX5_leafAfter 28 = .ok (.istore 5, 2) := by decide +kernel
theorem dX5_leafAfter_30 : decode cX5_leafAfter 30 = .ok (.iload_n 3, 1) := by decide +kernel
theorem dX5_leafAfter_31 : decode cX5_leafAfter 31 = .ok (.iload 5, 2) := by decide +kernel
theorem dX5_leafAfter_33 : decode cX5_leafAfter 33 = .ok (.if_icmp .gt 6, 3) := by decide +kernel
theorem dX5_leafAfter_36 : decode cX5_leafAfter 36 = .ok (.iload 4, 2) := by decide +kernel
theorem dX5_leafAfter_38 : decode cX5_leafAfter 38 = .ok (.ireturn, 1) := by decide +kernel
theorem dX5_leafAfter_39 : decode cX5_leafAfter 39 = .ok (.aload_n 0, 1) := by decide +kernel
theorem dX5_leafAfter_40 : decode cX5_leafAfter 40 = .ok (.iload_n 2, 1) := by decide +kernel
theorem dX5_leafAfter_41 : decode cX5_leafAfter 41 = .ok (.iload_n 3, 1) := by decide +kernel
theorem dX5_leafAfter_42 : decode cX5_leafAfter 42 = .ok (.invokevirtual 79, 3) := by decide +kernel
theorem dX5_leafAfter_45 : decode cX5_leafAfter 45 = .ok (.istore 6, 2) := by decide +kernel
theorem dX5_leafAfter_47 : decode cX5_leafAfter 47 = .ok (.iload 6, 2) := by decide +kernel
theorem dX5_leafAfter_49 : decode cX5_leafAfter 49 = .ok (.iconst (-1), 1) := by decide +kernel
theorem dX5_leafAfter_50 : decode cX5_leafAfter 50 = .ok (.if_icmp .ne 7, 3) := by decide +kernel
theorem dX5_leafAfter_53 : decode cX5_leafAfter 53 = .ok (.iconst (-1), 1) := by decide +kernel
theorem dX5_leafAfter_54 : decode cX5_leafAfter 54 = .ok (.goto 15, 3) := by decide +kernel
theorem dX5_leafAfter_57 : decode cX5_leafAfter 57 = .ok (.iload_n 1, 1) := by decide +kernel
theorem dX5_leafAfter_58 : decode cX5_leafAfter 58 = .ok (.aload_n 0, 1) := by decide +kernel
theorem dX5_leafAfter_59 : decode cX5_leafAfter 59 = .ok (.getfield 36, 3) := by decide +kernel
theorem dX5_leafAfter_62 : decode cX5_leafAfter 62 = .ok (.iload 6, 2) := by decide +kernel
theorem dX5_leafAfter_64 : decode cX5_leafAfter 64 = .ok (.iaload, 1) := by decide +kernel
theorem dX5_leafAfter_65 : decode cX5_leafAfter 65 = .ok (.iand, 1) := by decide +kernel
theorem dX5_leafAfter_66 : decode cX5_leafAfter 66 = .ok (.invokestatic 72, 3) := by decide +kernel
theorem dX5_leafAfter_69 : decode cX5_leafAfter 69 = .ok (.ireturn, 1) := by decide +kernel
theorem dX5_greatestOfLeaves_0 : decode cX5_greatestOfLeaves 0 = .ok (.iconst 0, 1) := by decide +kernel
theorem dX5_greatestOfLeaves_1 : decode cX5_greatestOfLeaves 1 = .ok (.istore_n 2, 1) := by decide +kernel
theorem dX5_greatestOfLeaves_2 : decode cX5_greatestOfLeaves 2 = .ok (.iconst 0, 1) := by decide +kernel
theorem dX5_greatestOfLeaves_3 : decode cX5_greatestOfLeaves 3 = .ok (.istore_n 3, 1) := by decide +kernel
theorem dX5_greatestOfLeaves_4 : decode cX5_greatestOfLeaves 4 = .ok (.iload_n 3, 1) := by decide +kernel
theorem dX5_greatestOfLeaves_5 : decode cX5_greatestOfLeaves 5 = .ok (.aload_n 0, 1) := by decide +kernel
theorem dX5_greatestOfLeaves_6 : decode cX5_greatestOfLeaves 6 = .ok (.getfield 49, 3) := by decide +kernel
theorem dX5_greatestOfLeaves_9 : decode cX5_greatestOfLeaves 9 = .ok (.if_icmp .ge 22, 3) := by decide +kernel
theorem dX5_greatestOfLeaves_12 : decode cX5_greatestOfLeaves 12 = .ok (.iload_n 2, 1) := by decide +kernel
theorem dX5_greatestOfLeaves_13 : decode cX5_greatestOfLeaves 13 = .ok (.aload_n 1, 1) := by decide +kernel
theorem dX5_greatestOfLeaves_14 : decode cX5_greatestOfLeaves 14 = .ok (.aload_n 0, 1) := by decide +kernel
theorem dX5_greatestOfLeaves_15 : decode cX5_greatestOfLeaves 15 = .ok (.getfield 42, 3) := by decide +kernel
theorem dX5_greatestOfLeaves_18 : decode cX5_greatestOfLeaves 18 = .ok (.iload_n 3, 1) := by decide +kernel
theorem dX5_greatestOfLeaves_19 : decode cX5_greatestOfLeaves 19 = .ok (.iaload, 1) := by decide +kernel
theorem dX5_greatestOfLeaves_20 : decode cX5_greatestOfLeaves 20 = .ok (.iaload, 1) := by decide +kernel
theorem dX5_greatestOfLeaves_21 : decode cX5_greatestOfLeaves 21 = .ok (.invokestatic 82, 3) := by decide +kernel
theorem dX5_greatestOfLeaves_24 : decode cX5_greatestOfLeaves 24 = .ok (.istore_n 2, 1) := by decide +kernel
theorem dX5_greatestOfLeaves_25 : decode cX5_greatestOfLeaves 25 = .ok (.iinc 3 1, 3) := by decide +kernel
theorem dX5_greatestOfLeaves_28 : decode cX5_greatestOfLeaves 28 = .ok (.goto (-24), 3) := by decide +kernel
theorem dX5_greatestOfLeaves_31 : decode cX5_greatestOfLeaves 31 = .ok (.iload_n 2, 1) := by decide +kernel
theorem dX5_greatestOfLeaves_32 : decode cX5_greatestOfLeaves 32 = .ok (.ireturn, 1) := by decide +kernel
theorem dX5_cover_0 : decode cX5_cover 0 = .ok (.iconst 1, 1) := by decide +kernel
theorem dX5_cover_1 : decode cX5_cover 1 = .ok (.aload_n 0, 1) := by decide +kernel
theorem dX5_cover_2 : decode cX5_cover 2 = .ok (.getfield 49, 3) := by decide +kernel
theorem dX5_cover_5 : decode cX5_cover 5 = .ok (.ishl, 1) := by decide +kernel
theorem dX5_cover_6 : decode cX5_cover 6 = .ok (.iconst 1, 1) := by decide +kernel
theorem dX5_cover_7 : decode cX5_cover 7 = .ok (.isub, 1) := by decide +kernel
theorem dX5_cover_8 : decode cX5_cover 8 = .ok (.istore_n 1, 1) := by decide +kernel
theorem dX5_cover_9 : decode cX5_cover 9 = .ok (.iload_n 1, 1) := by decide +kernel
theorem dX5_cover_10 : decode cX5_cover 10 = .ok (.istore_n 2, 1) := by decide +kernel
theorem dX5_cover_11 : decode cX5_cover 11 = .ok (.iload_n 2, 1) := by decide +kernel
theorem dX5_cover_12 : decode cX5_cover 12 = .ok (.ifCond .lt 30, 3) := by decide +kernel
theorem dX5_cover_15 : decode cX5_cover 15 = .ok (.iload_n 2, 1) := by decide +kernel
theorem dX5_cover_16 : decode cX5_cover 16 = .ok (.invokestatic 87, 3) := by decide +kernel
theorem dX5_cover_19 : decode cX5_cover 19 = .ok (.iload_n 1, 1) := by decide +kernel
theorem dX5_cover_20 : decode cX5_cover 20 = .ok (.invokestatic 87, 3) := by decide +kernel
theorem dX5_cover_23 : decode cX5_cover 23 = .ok (.if_icmp .gt 13, 3) := by decide +kernel
theorem dX5_cover_26 : decode cX5_cover 26 = .ok (.aload_n 0, 1) := by decide +kernel
theorem dX5_cover_27 : decode cX5_cover 27 = .ok (.iload_n 2, 1) := by decide +kernel
theorem dX5_cover_28 : decode cX5_cover 28 = .ok (.invokevirtual 92, 3) := by decide +kernel
theorem dX5_cover_31 : decode cX5_cover 31 = .ok (.ifCond .eq 5, 3) := by decide +kernel
theorem dX5_cover_34 : decode cX5_cover 34 = .ok (.iload_n 2, 1) := by decide +kernel
theorem dX5_cover_35 : decode cX5_cover 35 = .ok (.istore_n 1, 1) := by decide +kernel
theorem dX5_cover_36 : decode cX5_cover 36 = .ok (.iinc 2 (-1), 3) := by decide +kernel
theorem dX5_cover_39 : decode cX5_cover 39 = .ok (.goto (-28), 3) := by decide +kernel
theorem dX5_cover_42 : decode cX5_cover 42 = .ok (.iload_n 1, 1) := by decide +kernel
theorem dX5_cover_43 : decode cX5_cover 43 = .ok (.ireturn, 1) := by decide +kernel
theorem dX5_tellsShapes_0 : decode cX5_tellsShapes 0 = .ok (.iconst 0, 1) := by decide +kernel
theorem dX5_tellsShapes_1 : decode cX5_tellsShapes 1 = .ok (.istore_n 2, 1) := by decide +kernel
theorem dX5_tellsShapes_2 : decode cX5_tellsShapes 2 = .ok (.iload_n 2, 1) := by decide +kernel
theorem dX5_tellsShapes_3 : decode cX5_tellsShapes 3 = .ok (.aload_n 0, 1) := by decide +kernel
theorem dX5_tellsShapes_4 : decode cX5_tellsShapes 4 = .ok (.getfield 45, 3) := by decide +kernel
theorem dX5_tellsShapes_7 : decode cX5_tellsShapes 7 = .ok (.if_icmp .ge 31, 3) := by decide +kernel
theorem dX5_tellsShapes_10 : decode cX5_tellsShapes 10 = .ok (.aload_n 0, 1) := by decide +kernel
theorem dX5_tellsShapes_11 : decode cX5_tellsShapes 11 = .ok (.getfield 9, 3) := by decide +kernel
theorem dX5_tellsShapes_14 : decode cX5_tellsShapes 14 = .ok (.iload_n 2, 1) := by decide +kernel
theorem dX5_tellsShapes_15 : decode cX5_tellsShapes 15 = .ok (.iaload, 1) := by decide +kernel
theorem dX5_tellsShapes_16 : decode cX5_tellsShapes 16 = .ok (.ifCond .eq 16, 3) := by decide +kernel
theorem dX5_tellsShapes_19 : decode cX5_tellsShapes 19 = .ok (.aload_n 0, 1) := by decide +kernel
theorem dX5_tellsShapes_20 : decode cX5_tellsShapes 20 = .ok (.getfield 36, 3) := by decide +kernel
theorem dX5_tellsShapes_23 : decode cX5_tellsShapes 23 = .ok (.iload_n 2, 1) := by decide +kernel
theorem dX5_tellsShapes_24 : decode cX5_tellsShapes 24 = .ok (.iaload, 1) := by decide +kernel
theorem dX5_tellsShapes_25 : decode cX5_tellsShapes 25 = .ok (.iload_n 1, 1) := by decide +kernel
theorem dX5_tellsShapes_26 : decode cX5_tellsShapes 26 = .ok (.iand, 1) := by decide +kernel
theorem dX5_tellsShapes_27 : decode cX5_tellsShapes 27 = .ok (.ifCond .ne 5, 3) := by decide +kernel
theorem dX5_tellsShapes_30 : decode cX5_tellsShapes 30 = .ok (.iconst 0, 1) := by decide +kernel
theorem dX5_tellsShapes_31 : decode cX5_tellsShapes 31 = .ok (.ireturn, 1) := by decide +kernel
theorem dX5_tellsShapes_32 : decode cX5_tellsShapes 32 = .ok (.iinc 2 1, 3) := by decide +kernel
theorem dX5_tellsShapes_35 : decode cX5_tellsShapes 35 = .ok (.goto (-33), 3) := by decide +kernel
theorem dX5_tellsShapes_38 : decode cX5_tellsShapes 38 = .ok (.iconst 1, 1) := by decide +kernel
theorem dX5_tellsShapes_39 : decode cX5_tellsShapes 39 = .ok (.ireturn, 1) := by decide +kernel
theorem dX6_init_0 : decode cX6_init 0 = .ok (.aload_n 0, 1) := by decide +kernel
theorem dX6_init_1 : decode cX6_init 1 = .ok (.invokespecial 3, 3) := by decide +kernel
theorem dX6_init_4 : decode cX6_init 4 = .ok (.return_, 1) := by decide +kernel
theorem dX6_readClose_0 : decode cX6_readClose 0 = .ok (.aload_n 0, 1) := by decide +kernel
theorem dX6_readClose_1 : decode cX6_readClose 1 = .ok (.getfield 26, 3) := by decide +kernel
theorem dX6_readClose_4 : decode cX6_readClose 4 = .ok (.iconst (-1), 1) := by decide +kernel
theorem dX6_readClose_5 : decode cX6_readClose 5 = .ok (.if_icmp .eq 18, 3) := by decide +kernel
theorem dX6_readClose_8 : decode cX6_readClose 8 = .ok (.aload_n 0, 1) := by decide +kernel
theorem dX6_readClose_9 : decode cX6_readClose 9 = .ok (.getfield 15, 3) := by decide +kernel
theorem dX6_readClose_12 : decode cX6_readClose 12 = .ok (.getfield 56, 3) := by decide +kernel
theorem dX6_readClose_15 : decode cX6_readClose 15 = .ok (.aload_n 0, 1) := by decide +kernel
theorem dX6_readClose_16 : decode cX6_readClose 16 = .ok (.getfield 26, 3) := by decide +kernel
theorem dX6_readClose_19 : decode cX6_readClose 19 = .ok (.iaload, 1) := by decide +kernel
theorem dX6_readClose_20 : decode cX6_readClose 20 = .ok (.ifCond .ne 5, 3) := by decide +kernel
theorem dX6_readClose_23 : decode cX6_readClose 23 = .ok (.iconst 1, 1) := by decide +kernel
theorem dX6_readClose_24 : decode cX6_readClose 24 = .ok (.ireturn, 1) := by decide +kernel
theorem dX6_readClose_25 : decode cX6_readClose 25 = .ok (.aload_n 0, 1) := by decide +kernel
theorem dX6_readClose_26 : decode cX6_readClose 26 = .ok (.aload_n 0, 1) := by decide +kernel
theorem dX6_readClose_27 : decode cX6_readClose 27 = .ok (.getfield 15, 3) := by decide +kernel
theorem dX6_readClose_30 : decode cX6_readClose 30 = .ok (.getfield 60, 3) := by decide +kernel
theorem dX6_readClose_33 : decode cX6_readClose 33 = .ok (.aload_n 0, 1) := by decide +kernel
theorem dX6_readClose_34 : decode cX6_readClose 34 = .ok (.getfield 26, 3) := by decide +kernel
theorem dX6_readClose_37 : decode cX6_readClose 37 = .ok (.iaload, 1) := by decide +kernel
theorem dX6_readClose_38 : decode cX6_readClose 38 = .ok (.putfield 26, 3) := by decide +kernel
theorem dX6_readClose_41 : decode cX6_readClose 41 = .ok (.aload_n 0, 1) := by decide +kernel
theorem dX6_readClose_42 : decode cX6_readClose 42 = .ok (.dup, 1) := by decide +kernel
theorem dX6_readClose_43 : decode cX6_readClose 43 = .ok (.getfield 30, 3) := by decide +kernel
theorem dX6_readClose_46 : decode cX6_readClose 46 = .ok (.iconst 1, 1) := by decide +kernel
theorem dX6_readClose_47 : decode cX6_readClose 47 = .ok (.isub, 1) := by decide +kernel
theorem dX6_readClose_48 : decode cX6_readClose 48 = .ok (.putfield 30, 3) := by decide +kernel
theorem dX6_readClose_51 : decode cX6_readClose 51 = .ok (.iconst 0, 1) := by decide +kernel
theorem dX6_readClose_52 : decode cX6_readClose 52 = .ok (.ireturn, 1) := by decide +kernel
theorem dX6_kindTold_0 : decode cX6_kindTold 0 = .ok (.aload_n 0, 1) := by decide +kernel
theorem dX6_kindTold_1 : decode cX6_kindTold 1 = .ok (.getfield 9, 3) := by decide +kernel
theorem dX6_kindTold_4 : decode cX6_kindTold 4 = .ok (.ldc 77, 2) := by decide +kernel
theorem dX6_kindTold_6 : decode cX6_kindTold 6 = .ok (.invokevirtual 79, 3) := by decide +kernel
theorem dX6_kindTold_9 : decode cX6_kindTold 9 = .ok (.ifCond .eq 5, 3) := by decide +kernel
theorem dX6_kindTold_12 : decode cX6_kindTold 12 = .ok (.iconst 0, 1) := by decide +kernel
theorem dX6_kindTold_13 : decode cX6_kindTold 13 = .ok (.ireturn, 1) := by decide +kernel
theorem dX6_kindTold_14 : decode cX6_kindTold 14 = .ok (.aload_n 0, 1) := by decide +kernel
theorem dX6_kindTold_15 : decode cX6_kindTold 15 = .ok (.getfield 9, 3) := by decide +kernel
theorem dX6_kindTold_18 : decode cX6_kindTold 18 = .ok (.ldc 83, 2) := by decide +kernel
theorem dX6_kindTold_20 : decode cX6_kindTold 20 = .ok (.invokevirtual 79, 3) := by decide +kernel
theorem dX6_kindTold_23 : decode cX6_kindTold 23 = .ok (.ifCond .eq 5, 3) := by decide +kernel
theorem dX6_kindTold_26 : decode cX6_kindTold 26 = .ok (.iconst 1, 1) := by decide +kernel
theorem dX6_kindTold_27 : decode cX6_kindTold 27 = .ok (.ireturn, 1) := by decide +kernel
theorem dX6_kindTold_28 : decode cX6_kindTold 28 = .ok (.aload_n 0, 1) := by decide +kernel
theorem dX6_kindTold_29 : decode cX6_kindTold 29 = .ok (.getfield 9, 3) := by decide +kernel
theorem dX6_kindTold_32 : decode cX6_kindTold 32 = .ok (.ldc 85, 2) := by decide +kernel
theorem dX6_kindTold_34 : decode cX6_kindTold 34 = .ok (.invokevirtual 79, 3) := by decide +kernel
theorem dX6_kindTold_37 : decode cX6_kindTold 37 = .ok (.ifCond .eq 7, 3) := by decide +kernel
theorem dX6_kindTold_40 : decode cX6_kindTold 40 = .ok (.iconst 2, 1) := by decide +kernel
theorem dX6_kindTold_41 : decode cX6_kindTold 41 = .ok (.goto 4, 3) := by decide +kernel
theorem dX6_kindTold_44 : decode cX6_kindTold 44 = .ok (.iconst (-1), 1) := by decide +kernel
theorem dX6_kindTold_45 : decode cX6_kindTold 45 = .ok (.ireturn, 1) := by decide +kernel
theorem dX11_lowestBit_0 : decode cX11_lowestBit 0 = .ok (.iconst 0, 1) := by decide +kernel
theorem dX11_lowestBit_1 : decode cX11_lowestBit 1 = .ok (.istore_n 1, 1) := by decide +kernel
theorem dX11_lowestBit_2 : decode cX11_lowestBit 2 = .ok (.iload_n 1, 1) := by decide +kernel
theorem dX11_lowestBit_3 : decode cX11_lowestBit 3 = .ok (.bipush 32, 2) := by decide +kernel
theorem dX11_lowestBit_5 : decode cX11_lowestBit 5 = .ok (.if_icmp .ge 19, 3) := by decide +kernel
theorem dX11_lowestBit_8 : decode cX11_lowestBit 8 = .ok (.iload_n 0, 1) := by decide +kernel
theorem dX11_lowestBit_9 : decode cX11_lowestBit 9 = .ok (.iload_n 1, 1) := by decide +kernel
theorem dX11_lowestBit_10 : decode cX11_lowestBit 10 = .ok (.iushr, 1) := by decide +kernel
theorem dX11_lowestBit_11 : decode cX11_lowestBit 11 = .ok (.iconst 1, 1) := by decide +kernel
theorem dX11_lowestBit_12 : decode cX11_lowestBit 12 = .ok (.iand, 1) := by decide +kernel
theorem dX11_lowestBit_13 : decode cX11_lowestBit 13 = .ok (.ifCond .eq 5, 3) := by decide +kernel
theorem dX11_lowestBit_16 : decode cX11_lowestBit 16 = .ok (.iload_n 1, 1) := by decide +kernel
theorem dX11_lowestBit_17 : decode cX11_lowestBit 17 = .ok (.ireturn, 1) := by decide +kernel
theorem dX11_lowestBit_18 : decode cX11_lowestBit 18 = .ok (.iinc 1 1, 3) := by decide +kernel
theorem dX11_lowestBit_21 : decode cX11_lowestBit 21 = .ok (.goto (-19), 3) := by decide +kernel
theorem dX11_lowestBit_24 : decode cX11_lowestBit 24 = .ok (.iconst (-1), 1) := by decide +kernel
theorem dX11_lowestBit_25 : decode cX11_lowestBit 25 = .ok (.ireturn, 1) := by decide +kernel
theorem dJ6_bitCount_0f7a4_0 : decode cJ6_bitCount_0f7a4 0 = .ok (.iload_n 0, 1) := by decide +kernel
theorem dJ6_bitCount_0f7a4_1 : decode cJ6_bitCount_0f7a4 1 = .ok (.iload_n 0, 1) := by decide +kernel
theorem dJ6_bitCount_0f7a4_2 : decode cJ6_bitCount_0f7a4 2 = .ok (.iconst 1, 1) := by decide +kernel
theorem dJ6_bitCount_0f7a4_3 : decode cJ6_bitCount_0f7a4 3 = .ok (.iushr, 1) := by decide +kernel
theorem dJ6_bitCount_0f7a4_4 : decode cJ6_bitCount_0f7a4 4 = .ok (.ldc_w 265, 3) := by decide +kernel
theorem dJ6_bitCount_0f7a4_7 : decode cJ6_bitCount_0f7a4 7 = .ok (.iand, 1) := by decide +kernel
theorem dJ6_bitCount_0f7a4_8 : decode cJ6_bitCount_0f7a4 8 = .ok (.isub, 1) := by decide +kernel
theorem dJ6_bitCount_0f7a4_9 : decode cJ6_bitCount_0f7a4 9 = .ok (.istore_n 0, 1) := by decide +kernel
theorem dJ6_bitCount_0f7a4_10 : decode cJ6_bitCount_0f7a4 10 = .ok (.iload_n 0, 1) := by decide +kernel
theorem dJ6_bitCount_0f7a4_11 : decode cJ6_bitCount_0f7a4 11 = .ok (.ldc_w 266, 3) := by decide +kernel
theorem dJ6_bitCount_0f7a4_14 : decode cJ6_bitCount_0f7a4 14 = .ok (.iand, 1) := by decide +kernel
theorem dJ6_bitCount_0f7a4_15 : decode cJ6_bitCount_0f7a4 15 = .ok (.iload_n 0, 1) := by decide +kernel
theorem dJ6_bitCount_0f7a4_16 : decode cJ6_bitCount_0f7a4 16 = .ok (.iconst 2, 1) := by decide +kernel
theorem dJ6_bitCount_0f7a4_17 : decode cJ6_bitCount_0f7a4 17 = .ok (.iushr, 1) := by decide +kernel
theorem dJ6_bitCount_0f7a4_18 : decode cJ6_bitCount_0f7a4 18 = .ok (.ldc_w 266, 3) := by decide +kernel
theorem dJ6_bitCount_0f7a4_21 : decode cJ6_bitCount_0f7a4 21 = .ok (.iand, 1) := by decide +kernel
theorem dJ6_bitCount_0f7a4_22 : decode cJ6_bitCount_0f7a4 22 = .ok (.iadd, 1) := by decide +kernel
theorem dJ6_bitCount_0f7a4_23 : decode cJ6_bitCount_0f7a4 23 = .ok (.istore_n 0, 1) := by decide +kernel
theorem dJ6_bitCount_0f7a4_24 : decode cJ6_bitCount_0f7a4 24 = .ok (.iload_n 0, 1) := by decide +kernel
theorem dJ6_bitCount_0f7a4_25 : decode cJ6_bitCount_0f7a4 25 = .ok (.iload_n 0, 1) := by decide +kernel
theorem dJ6_bitCount_0f7a4_26 : decode cJ6_bitCount_0f7a4 26 = .ok (.iconst 4, 1) := by decide +kernel
theorem dJ6_bitCount_0f7a4_27 : decode cJ6_bitCount_0f7a4 27 = .ok (.iushr, 1) := by decide +kernel
theorem dJ6_bitCount_0f7a4_28 : decode cJ6_bitCount_0f7a4 28 = .ok (.iadd, 1) := by decide +kernel
theorem dJ6_bitCount_0f7a4_29 : decode cJ6_bitCount_0f7a4 29 = .ok (.ldc_w 267, 3) := by decide +kernel
theorem dJ6_bitCount_0f7a4_32 : decode cJ6_bitCount_0f7a4 32 = .ok (.iand, 1) := by decide +kernel
theorem dJ6_bitCount_0f7a4_33 : decode cJ6_bitCount_0f7a4 33 = .ok (.istore_n 0, 1) := by decide +kernel
theorem dJ6_bitCount_0f7a4_34 : decode cJ6_bitCount_0f7a4 34 = .ok (.iload_n 0, 1) := by decide +kernel
theorem dJ6_bitCount_0f7a4_35 : decode cJ6_bitCount_0f7a4 35 = .ok (.iload_n 0, 1) := by decide +kernel
theorem dJ6_bitCount_0f7a4_36 : decode cJ6_bitCount_0f7a4 36 = .ok (.bipush 8, 2) := by decide +kernel
theorem dJ6_bitCount_0f7a4_38 : decode cJ6_bitCount_0f7a4 38 = .ok (.iushr, 1) := by decide +kernel
theorem dJ6_bitCount_0f7a4_39 : decode cJ6_bitCount_0f7a4 39 = .ok (.iadd, 1) := by decide +kernel
theorem dJ6_bitCount_0f7a4_40 : decode cJ6_bitCount_0f7a4 40 = .ok (.istore_n 0, 1) := by decide +kernel
theorem dJ6_bitCount_0f7a4_41 : decode cJ6_bitCount_0f7a4 41 = .ok (.iload_n 0, 1) := by decide +kernel
theorem dJ6_bitCount_0f7a4_42 : decode cJ6_bitCount_0f7a4 42 = .ok (.iload_n 0, 1) := by decide +kernel
theorem dJ6_bitCount_0f7a4_43 : decode cJ6_bitCount_0f7a4 43 = .ok (.bipush 16, 2) := by decide +kernel
theorem dJ6_bitCount_0f7a4_45 : decode cJ6_bitCount_0f7a4 45 = .ok (.iushr, 1) := by decide +kernel
theorem dJ6_bitCount_0f7a4_46 : decode cJ6_bitCount_0f7a4 46 = .ok (.iadd, 1) := by decide +kernel
theorem dJ6_bitCount_0f7a4_47 : decode cJ6_bitCount_0f7a4 47 = .ok (.istore_n 0, 1) := by decide +kernel
theorem dJ6_bitCount_0f7a4_48 : decode cJ6_bitCount_0f7a4 48 = .ok (.iload_n 0, 1) := by decide +kernel
theorem dJ6_bitCount_0f7a4_49 : decode cJ6_bitCount_0f7a4 49 = .ok (.bipush 63, 2) := by decide +kernel
theorem dJ6_bitCount_0f7a4_51 : decode cJ6_bitCount_0f7a4 51 = .ok (.iand, 1) := by decide +kernel
theorem dJ6_bitCount_0f7a4_52 : decode cJ6_bitCount_0f7a4 52 = .ok (.ireturn, 1) := by decide +kernel
