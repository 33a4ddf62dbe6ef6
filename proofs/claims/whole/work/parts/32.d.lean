theorem dX10_run_0 : decode cX10_run 0 = .ok (.aload_n 0, 1) := by decide +kernel
theorem dX10_run_1 : decode cX10_run 1 = .ok (.aload_n 1, 1) := by decide +kernel
theorem dX10_run_2 : decode cX10_run 2 = .ok (.putfield 18, 3) := by decide +kernel
theorem dX10_run_5 : decode cX10_run 5 = .ok (.aload_n 0, 1) := by decide +kernel
theorem dX10_run_6 : decode cX10_run 6 = .ok (.iload_n 3, 1) := by decide +kernel
theorem dX10_run_7 : decode cX10_run 7 = .ok (.putfield 22, 3) := by decide +kernel
theorem dX10_run_10 : decode cX10_run 10 = .ok (.aload_n 0, 1) := by decide +kernel
theorem dX10_run_11 : decode cX10_run 11 = .ok (.aload_n 2, 1) := by decide +kernel
theorem dX10_run_12 : decode cX10_run 12 = .ok (.getfield 26, 3) := by decide +kernel
theorem dX10_run_15 : decode cX10_run 15 = .ok (.putfield 31, 3) := by decide +kernel
theorem dX10_run_18 : decode cX10_run 18 = .ok (.aload_n 0, 1) := by decide +kernel
theorem dX10_run_19 : decode cX10_run 19 = .ok (.iconst 0, 1) := by decide +kernel
theorem dX10_run_20 : decode cX10_run 20 = .ok (.putfield 32, 3) := by decide +kernel
theorem dX10_run_23 : decode cX10_run 23 = .ok (.iconst 0, 1) := by decide +kernel
theorem dX10_run_24 : decode cX10_run 24 = .ok (.istore 5, 2) := by decide +kernel
theorem dX10_run_26 : decode cX10_run 26 = .ok (.iload 5, 2) := by decide +kernel
theorem dX10_run_28 : decode cX10_run 28 = .ok (.bipush 8, 2) := by decide +kernel
theorem dX10_run_30 : decode cX10_run 30 = .ok (.if_icmp .ge 77, 3) := by decide +kernel
theorem dX10_run_33 : decode cX10_run 33 = .ok (.aload_n 0, 1) := by decide +kernel
theorem dX10_run_34 : decode cX10_run 34 = .ok (.getfield 9, 3) := by decide +kernel
theorem dX10_run_37 : decode cX10_run 37 = .ok (.iload 5, 2) := by decide +kernel
theorem dX10_run_39 : decode cX10_run 39 = .ok (.iload 5, 2) := by decide +kernel
theorem dX10_run_41 : decode cX10_run 41 = .ok (.aload_n 0, 1) := by decide +kernel
theorem dX10_run_42 : decode cX10_run 42 = .ok (.getfield 18, 3) := by decide +kernel
theorem dX10_run_45 : decode cX10_run 45 = .ok (.getfield 35, 3) := by decide +kernel
theorem dX10_run_48 : decode cX10_run 48 = .ok (.if_icmp .ge 16, 3) := by decide +kernel
theorem dX10_run_51 : decode cX10_run 51 = .ok (.aload_n 2, 1) := by decide +kernel
theorem dX10_run_52 : decode cX10_run 52 = .ok (.getfield 40, 3) := by decide +kernel
theorem dX10_run_55 : decode cX10_run 55 = .ok (.iload 5, 2) := by decide +kernel
theorem dX10_run_57 : decode cX10_run 57 = .ok (.aaload, 1) := by decide +kernel
theorem dX10_run_58 : decode cX10_run 58 = .ok (.getfield 44, 3) := by decide +kernel
theorem dX10_run_61 : decode cX10_run 61 = .ok (.goto 4, 3) := by decide +kernel
theorem dX10_run_64 : decode cX10_run 64 = .ok (.iconst 0, 1) := by decide +kernel
theorem dX10_run_65 : decode cX10_run 65 = .ok (.iastore, 1) := by decide +kernel
theorem dX10_run_66 : decode cX10_run 66 = .ok (.aload_n 0, 1) := by decide +kernel
theorem dX10_run_67 : decode cX10_run 67 = .ok (.dup, 1) := by decide +kernel
theorem dX10_run_68 : decode cX10_run 68 = .ok (.getfield 32, 3) := by decide +kernel
theorem dX10_run_71 : decode cX10_run 71 = .ok (.iload 5, 2) := by decide +kernel
theorem dX10_run_73 : decode cX10_run 73 = .ok (.aload_n 0, 1) := by decide +kernel
theorem dX10_run_74 : decode cX10_run 74 = .ok (.getfield 18, 3) := by decide +kernel
theorem dX10_run_77 : decode cX10_run 77 = .ok (.getfield 35, 3) := by decide +kernel
theorem dX10_run_80 : decode cX10_run 80 = .ok (.if_icmp .ge 16, 3) := by decide +kernel
theorem dX10_run_83 : decode cX10_run 83 = .ok (.aload_n 2, 1) := by decide +kernel
theorem dX10_run_84 : decode cX10_run 84 = .ok (.getfield 40, 3) := by decide +kernel
theorem dX10_run_87 : decode cX10_run 87 = .ok (.iload 5, 2) := by decide +kernel
theorem dX10_run_89 : decode cX10_run 89 = .ok (.aaload, 1) := by decide +kernel
theorem dX10_run_90 : decode cX10_run 90 = .ok (.invokevirtual 49, 3) := by decide +kernel
theorem dX10_run_93 : decode cX10_run 93 = .ok (.goto 4, 3) := by decide +kernel
theorem dX10_run_96 : decode cX10_run 96 = .ok (.iconst 0, 1) := by decide +kernel
theorem dX10_run_97 : decode cX10_run 97 = .ok (.iadd, 1) := by decide +kernel
theorem dX10_run_98 : decode cX10_run 98 = .ok (.putfield 32, 3) := by decide +kernel
theorem dX10_run_101 : decode cX10_run 101 = .ok (.iinc 5 1, 3) := by decide +kernel
theorem dX10_run_104 : decode cX10_run 104 = .ok (.goto (-78), 3) := by decide +kernel
theorem dX10_run_107 : decode cX10_run 107 = .ok (.iconst 0, 1) := by decide +kernel
theorem dX10_run_108 : decode cX10_run 108 = .ok (.istore 5, 2) := by decide +kernel
theorem dX10_run_110 : decode cX10_run 110 = .ok (.iload 5, 2) := by decide +kernel
theorem dX10_run_112 : decode cX10_run 112 = .ok (.iload 4, 2) := by decide +kernel
theorem dX10_run_114 : decode cX10_run 114 = .ok (.if_icmp .ge 33, 3) := by decide +kernel
theorem dX10_run_117 : decode cX10_run 117 = .ok (.aload_n 0, 1) := by decide +kernel
theorem dX10_run_118 : decode cX10_run 118 = .ok (.invokevirtual 52, 3) := by decide +kernel
theorem dX10_run_121 : decode cX10_run 121 = .ok (.aload_n 0, 1) := by decide +kernel
theorem dX10_run_122 : decode cX10_run 122 = .ok (.getfield 31, 3) := by decide +kernel
theorem dX10_run_125 : decode cX10_run 125 = .ok (.bipush 30, 2) := by decide +kernel
theorem dX10_run_127 : decode cX10_run 127 = .ok (.if_icmp .ge 14, 3) := by decide +kernel
theorem dX10_run_130 : decode cX10_run 130 = .ok (.aload_n 0, 1) := by decide +kernel
theorem dX10_run_131 : decode cX10_run 131 = .ok (.invokevirtual 55, 3) := by decide +kernel
theorem dX10_run_134 : decode cX10_run 134 = .ok (.ifCond .eq 7, 3) := by decide +kernel
theorem dX10_run_137 : decode cX10_run 137 = .ok (.aload_n 0, 1) := by decide +kernel
theorem dX10_run_138 : decode cX10_run 138 = .ok (.invokevirtual 59, 3) := by decide +kernel
theorem dX10_run_141 : decode cX10_run 141 = .ok (.iinc 5 1, 3) := by decide +kernel
theorem dX10_run_144 : decode cX10_run 144 = .ok (.goto (-34), 3) := by decide +kernel
theorem dX10_run_147 : decode cX10_run 147 = .ok (.return_, 1) := by decide +kernel
theorem dX10_entrySum_0 : decode cX10_entrySum 0 = .ok (.iconst 0, 1) := by decide +kernel
theorem dX10_entrySum_1 : decode cX10_entrySum 1 = .ok (.istore_n 1, 1) := by decide +kernel
theorem dX10_entrySum_2 : decode cX10_entrySum 2 = .ok (.iconst 0, 1) := by decide +kernel
theorem dX10_entrySum_3 : decode cX10_entrySum 3 = .ok (.istore_n 2, 1) := by decide +kernel
theorem dX10_entrySum_4 : decode cX10_entrySum 4 = .ok (.iload_n 2, 1) := by decide +kernel
theorem dX10_entrySum_5 : decode cX10_entrySum 5 = .ok (.bipush 8, 2) := by decide +kernel
theorem dX10_entrySum_7 : decode cX10_entrySum 7 = .ok (.if_icmp .ge 18, 3) := by decide +kernel
theorem dX10_entrySum_10 : decode cX10_entrySum 10 = .ok (.iload_n 1, 1) := by decide +kernel
theorem dX10_entrySum_11 : decode cX10_entrySum 11 = .ok (.aload_n 0, 1) := by decide +kernel
theorem dX10_entrySum_12 : decode cX10_entrySum 12 = .ok (.getfield 9, 3) := by decide +kernel
theorem dX10_entrySum_15 : decode cX10_entrySum 15 = .ok (.iload_n 2, 1) := by decide +kernel
theorem dX10_entrySum_16 : decode cX10_entrySum 16 = .ok (.iaload, 1) := by decide +kernel
theorem dX10_entrySum_17 : decode cX10_entrySum 17 = .ok (.iadd, 1) := by decide +kernel
theorem dX10_entrySum_18 : decode cX10_entrySum 18 = .ok (.istore_n 1, 1) := by decide +kernel
theorem dX10_entrySum_19 : decode cX10_entrySum 19 = .ok (.iinc 2 1, 3) := by decide +kernel
theorem dX10_entrySum_22 : decode cX10_entrySum 22 = .ok (.goto (-18), 3) := by decide +kernel
theorem dX10_entrySum_25 : decode cX10_entrySum 25 = .ok (.iload_n 1, 1) := by decide +kernel
theorem dX10_entrySum_26 : decode cX10_entrySum 26 = .ok (.ireturn, 1) := by decide +kernel
theorem dX10_drawRecord_0 : decode cX10_drawRecord 0 = .ok (.aload_n 0, 1) := by decide +kernel
theorem dX10_drawRecord_1 : decode cX10_drawRecord 1 = .ok (.iconst 0, 1) := by decide +kernel
theorem dX10_drawRecord_2 : decode cX10_drawRecord 2 = .ok (.putfield 62, 3) := by decide +kernel
theorem dX10_drawRecord_5 : decode cX10_drawRecord 5 = .ok (.iconst 0, 1) := by decide +kernel
theorem dX10_drawRecord_6 : decode cX10_drawRecord 6 = .ok (.istore_n 1, 1) := by decide +kernel
theorem dX10_drawRecord_7 : decode cX10_drawRecord 7 = .ok (.iload_n 1, 1) := by decide +kernel
theorem dX10_drawRecord_8 : decode cX10_drawRecord 8 = .ok (.bipush 8, 2) := by decide +kernel
theorem dX10_drawRecord_10 : decode cX10_drawRecord 10 = .ok (.if_icmp .ge 16, 3) := by decide +kernel
theorem dX10_drawRecord_13 : decode cX10_drawRecord 13 = .ok (.aload_n 0, 1) := by decide +kernel
theorem dX10_drawRecord_14 : decode cX10_drawRecord 14 = .ok (.getfield 15, 3) := by decide +kernel
theorem dX10_drawRecord_17 : decode cX10_drawRecord 17 = .ok (.iload_n 1, 1) := by decide +kernel
theorem dX10_drawRecord_18 : decode cX10_drawRecord 18 = .ok (.iconst 0, 1) := by decide +kernel
theorem dX10_drawRecord_19 : decode cX10_drawRecord 19 = .ok (.iastore, 1) := by decide +kernel
theorem dX10_drawRecord_20 : decode cX10_drawRecord 20 = .ok (.iinc 1 1, 3) := by decide +kernel
theorem dX10_drawRecord_23 : decode cX10_drawRecord 23 = .ok (.goto (-16), 3) := by decide +kernel
theorem dX10_drawRecord_26 : decode cX10_drawRecord 26 = .ok (.aload_n 0, 1) := by decide +kernel
theorem dX10_drawRecord_27 : decode cX10_drawRecord 27 = .ok (.iconst (-1), 1) := by decide +kernel
theorem dX10_drawRecord_28 : decode cX10_drawRecord 28 = .ok (.iconst 0, 1) := by decide +kernel
theorem dX10_drawRecord_29 : decode cX10_drawRecord 29 = .ok (.invokevirtual 65, 3) := by decide +kernel
theorem dX10_drawRecord_32 : decode cX10_drawRecord 32 = .ok (.return_, 1) := by decide +kernel
theorem dX10_hasRoom_0 : decode cX10_hasRoom 0 = .ok (.iconst 0, 1) := by decide +kernel
theorem dX10_hasRoom_1 : decode cX10_hasRoom 1 = .ok (.istore_n 1, 1) := by decide +kernel
theorem dX10_hasRoom_2 : decode cX10_hasRoom 2 = .ok (.iload_n 1, 1) := by decide +kernel
theorem dX10_hasRoom_3 : decode cX10_hasRoom 3 = .ok (.bipush 8, 2) := by decide +kernel
theorem dX10_hasRoom_5 : decode cX10_hasRoom 5 = .ok (.if_icmp .ge 29, 3) := by decide +kernel
theorem dX10_hasRoom_8 : decode cX10_hasRoom 8 = .ok (.aload_n 0, 1) := by decide +kernel
theorem dX10_hasRoom_9 : decode cX10_hasRoom 9 = .ok (.getfield 9, 3) := by decide +kernel
theorem dX10_hasRoom_12 : decode cX10_hasRoom 12 = .ok (.iload_n 1, 1) := by decide +kernel
theorem dX10_hasRoom_13 : decode cX10_hasRoom 13 = .ok (.iaload, 1) := by decide +kernel
theorem dX10_hasRoom_14 : decode cX10_hasRoom 14 = .ok (.aload_n 0, 1) := by decide +kernel
theorem dX10_hasRoom_15 : decode cX10_hasRoom 15 = .ok (.getfield 15, 3) := by decide +kernel
theorem dX10_hasRoom_18 : decode cX10_hasRoom 18 = .ok (.iload_n 1, 1) := by decide +kernel
theorem dX10_hasRoom_19 : decode cX10_hasRoom 19 = .ok (.iaload, 1) := by decide +kernel
theorem dX10_hasRoom_20 : decode cX10_hasRoom 20 = .ok (.iadd, 1) := by decide +kernel
theorem dX10_hasRoom_21 : decode cX10_hasRoom 21 = .ok (.bipush 120, 2) := by decide +kernel
theorem dX10_hasRoom_23 : decode cX10_hasRoom 23 = .ok (.if_icmp .le 5, 3) := by decide +kernel
theorem dX10_hasRoom_26 : decode cX10_hasRoom 26 = .ok (.iconst 0, 1) := by decide +kernel
theorem dX10_hasRoom_27 : decode cX10_hasRoom 27 = .ok (.ireturn, 1) := by decide +kernel
theorem dX10_hasRoom_28 : decode cX10_hasRoom 28 = .ok (.iinc 1 1, 3) := by decide +kernel
theorem dX10_hasRoom_31 : decode cX10_hasRoom 31 = .ok (.goto (-29), 3) := by decide +kernel
theorem dX10_hasRoom_34 : decode cX10_hasRoom 34 = .ok (.iconst 1, 1) := by decide +kernel
theorem dX10_hasRoom_35 : decode cX10_hasRoom 35 = .ok (.ireturn, 1) := by decide +kernel
theorem dX10_takeRecord_0 : decode cX10_takeRecord 0 = .ok (.aload_n 0, 1) := by decide +kernel
theorem dX10_takeRecord_1 : decode cX10_takeRecord 1 = .ok (.dup, 1) := by decide +kernel
theorem dX10_takeRecord_2 : decode cX10_takeRecord 2 = .ok (.getfield 31, 3) := by decide +kernel
theorem dX10_takeRecord_5 : decode cX10_takeRecord 5 = .ok (.iconst 1, 1) := by decide +kernel
theorem dX10_takeRecord_6 : decode cX10_takeRecord 6 = .ok (.iadd, 1) := by decide +kernel
theorem dX10_takeRecord_7 : decode cX10_takeRecord 7 = .ok (.putfield 31, 3) := by decide +kernel
theorem dX10_takeRecord_10 : decode cX10_takeRecord 10 = .ok (.aload_n 0, 1) := by decide +kernel
theorem dX10_takeRecord_11 : decode cX10_takeRecord 11 = .ok (.dup, 1) := by decide +kernel
theorem dX10_takeRecord_12 : decode cX10_takeRecord 12 = .ok (.getfield 32, 3) := by decide +kernel
theorem dX10_takeRecord_15 : decode cX10_takeRecord 15 = .ok (.aload_n 0, 1) := by decide +kernel
theorem dX10_takeRecord_16 : decode cX10_takeRecord 16 = .ok (.getfield 62, 3) := by decide +kernel
theorem dX10_takeRecord_19 : decode cX10_takeRecord 19 = .ok (.iadd, 1) := by decide +kernel
theorem dX10_takeRecord_20 : decode cX10_takeRecord 20 = .ok (.putfield 32, 3) := by decide +kernel
theorem dX10_takeRecord_23 : decode cX10_takeRecord 23 = .ok (.iconst 0, 1) := by decide +kernel
theorem dX10_takeRecord_24 : decode cX10_takeRecord 24 = .ok (.istore_n 1, 1) := by decide +kernel
theorem dX10_takeRecord_25 : decode cX10_takeRecord 25 = .ok (.iload_n 1, 1) := by decide +kernel
theorem dX10_takeRecord_26 : decode cX10_takeRecord 26 = .ok (.bipush 8, 2) := by decide +kernel
theorem dX10_takeRecord_28 : decode cX10_takeRecord 28 = .ok (.if_icmp .ge 24, 3) := by decide +kernel
theorem dX10_takeRecord_31 : decode cX10_takeRecord 31 = .ok (.aload_n 0, 1) := by decide +kernel
theorem dX10_takeRecord_32 : decode cX10_takeRecord 32 = .ok (.getfield 9, 3) := by decide +kernel
theorem dX10_takeRecord_35 : decode cX10_takeRecord 35 = .ok (.iload_n 1, 1) := by decide +kernel
theorem dX10_takeRecord_36 : decode cX10_takeRecord 36 = .ok (.dup2, 1) := by decide +kernel
theorem dX10_takeRecord_37 : decode cX10_takeRecord 37 = .ok (.iaload, 1) := by decide +kernel
theorem dX10_takeRecord_38 : decode cX10_takeRecord 38 = .ok (.aload_n 0, 1) := by decide +kernel
theorem dX10_takeRecord_39 : decode cX10_takeRecord 39 = .ok (.getfield 15, 3) := by decide +kernel
theorem dX10_takeRecord_42 : decode cX10_takeRecord 42 = .ok (.iload_n 1, 1) := by decide +kernel
theorem dX10_takeRecord_43 : decode cX10_takeRecord 43 = .ok (.iaload, 1) := by decide +kernel
theorem dX10_takeRecord_44 : decode cX10_takeRecord 44 = .ok (.iadd, 1) := by decide +kernel
theorem dX10_takeRecord_45 : decode cX10_takeRecord 45 = .ok (.iastore, 1) := by decide +kernel
theorem dX10_takeRecord_46 : decode cX10_takeRecord 46 = .ok (.iinc 1 1, 3) := by decide +kernel
theorem dX10_takeRecord_49 : decode cX10_takeRecord 49 = .ok (.goto (-24), 3) := by decide +kernel
theorem dX10_takeRecord_52 : decode cX10_takeRecord 52 = .ok (.return_, 1) := by decide +kernel
theorem dX11_init_0 : decode cX11_init 0 = .ok (.aload_n 0, 1) := by decide +kernel
theorem dX11_init_1 : decode cX11_init 1 = .ok (.invokespecial 3, 3) := by decide +kernel
theorem dX11_init_4 : decode cX11_init 4 = .ok (.aload_n 0, 1) := by decide +kernel
theorem dX11_init_5 : decode cX11_init 5 = .ok (.new 9, 3) := by decide +kernel
theorem dX11_init_8 : decode cX11_init 8 = .ok (.dup, 1) := by decide +kernel
theorem dX11_init_9 : decode cX11_init 9 = .ok (.invokespecial 11, 3) := by decide +kernel
theorem dX11_init_12 : decode cX11_init 12 = .ok (.putfield 12, 3) := by decide +kernel
theorem dX11_init_15 : decode cX11_init 15 = .ok (.aload_n 0, 1) := by decide +kernel
theorem dX11_init_16 : decode cX11_init 16 = .ok (.new 16, 3) := by decide +kernel
theorem dX11_init_19 : decode cX11_init 19 = .ok (.dup, 1) := by decide +kernel
theorem dX11_init_20 : decode cX11_init 20 = .ok (.invokespecial 18, 3) := by decide +kernel
theorem dX11_init_23 : decode cX11_init 23 = .ok (.putfield 19, 3) := by decide +kernel
theorem dX11_init_26 : decode cX11_init 26 = .ok (.aload_n 0, 1) := by decide +kernel
theorem dX11_init_27 : decode cX11_init 27 = .ok (.new 23, 3) := by decide +kernel
theorem dX11_init_30 : decode cX11_init 30 = .ok (.dup, 1) := by decide +kernel
theorem dX11_init_31 : decode cX11_init 31 = .ok (.invokespecial 25, 3) := by decide +kernel
theorem dX11_init_34 : decode cX11_init 34 = .ok (.putfield 26, 3) := by decide +kernel
theorem dX11_init_37 : decode cX11_init 37 = .ok (.aload_n 0, 1) := by decide +kernel
theorem dX11_init_38 : decode cX11_init 38 = .ok (.new 30, 3) := by decide +kernel
theorem dX11_init_41 : decode cX11_init 41 = .ok (.dup, 1) := by decide +kernel
theorem dX11_init_42 : decode cX11_init 42 = .ok (.invokespecial 32, 3) := by decide +kernel
theorem dX11_init_45 : decode cX11_init 45 = .ok (.putfield 33, 3) := by decide +kernel
theorem dX11_init_48 : decode cX11_init 48 = .ok (.aload_n 0, 1) := by decide +kernel
theorem dX11_init_49 : decode cX11_init 49 = .ok (.new 37, 3) := by decide +kernel
theorem dX11_init_52 : decode cX11_init 52 = .ok (.dup, 1) := by decide +kernel
theorem dX11_init_53 : decode cX11_init 53 = .ok (.invokespecial 39, 3) := by decide +kernel
theorem dX11_init_56 : decode cX11_init 56 = .ok (.putfield 40, 3) := by decide +kernel
theorem dX11_init_59 : decode cX11_init 59 = .ok (.aload_n 0, 1) := by decide +kernel
theorem dX11_init_60 : decode cX11_init 60 = .ok (.new 44, 3) := by decide +kernel
theorem dX11_init_63 : decode cX11_init 63 = .ok (.dup, 1) := by decide +kernel
theorem dX11_init_64 : decode cX11_init 64 = .ok (.invokespecial 46, 3) := by decide +kernel
theorem dX11_init_67 : decode cX11_init 67 = .ok (.putfield 47, 3) := by decide +kernel
theorem dX11_init_70 : decode cX11_init 70 = .ok (.aload_n 0, 1) := by decide +kernel
theorem dX11_init_71 : decode cX11_init 71 = .ok (.new 51, 3) := by decide +kernel
theorem dX11_init_74 : decode cX11_init 74 = .ok (.dup, 1) := by decide +kernel
theorem dX11_init_75 : decode cX11_init 75 = .ok (.invokespecial 53, 3) := by decide +kernel
theorem dX11_init_78 : decode cX11_init 78 = .ok (.putfield 54, 3) := by decide +kernel
theorem dX11_init_81 : decode cX11_init 81 = .ok (.aload_n 0, 1) := by decide +kernel
theorem dX11_init_82 : decode cX11_init 82 = .ok (.new 51, 3) := by decide +kernel
theorem dX11_init_85 : decode cX11_init 85 = .ok (.dup, 1) := by decide +kernel
theorem dX11_init_86 : decode cX11_init 86 = .ok (.invokespecial 53, 3) := by decide +kernel
theorem dX11_init_89 : decode cX11_init 89 = .ok (.putfield 58, 3) := by decide +kernel
theorem dX11_init_92 : decode cX11_init 92 = .ok (.aload_n 0, 1) := by decide +kernel
theorem dX11_init_93 : decode cX11_init 93 = .ok (.new 61, 3) := by decide +kernel
theorem dX11_init_96 : decode cX11_init 96 = .ok (.dup, 1) := by decide +kernel
theorem dX11_init_97 : decode cX11_init 97 = .ok (.invokespecial 63, 3) := by decide +kernel
theorem dX11_init_100 : decode cX11_init 100 = .ok (.putfield 64, 3) := by decide +kernel
theorem dX11_init_103 : decode cX11_init 103 = .ok (.aload_n 0, 1) := by decide +kernel
theorem dX11_init_104 : decode cX11_init 104 = .ok (.new 61, 3) := by decide +kernel
theorem dX11_init_107 : decode cX11_init 107 = .ok (.dup, 1) := by decide +kernel
theorem dX11_init_108 : decode cX11_init 108 = .ok (.invokespecial 63, 3) := by decide +kernel
theorem dX11_init_111 : decode cX11_init 111 = .ok (.putfield 68, 3) := by decide +kernel
theorem dX11_init_114 : decode cX11_init 114 = .ok (.aload_n 0, 1) := by decide +kernel
theorem dX11_init_115 : decode cX11_init 115 = .ok (.new 61, 3) := by decide +kernel
theorem dX11_init_118 : decode cX11_init 118 = .ok (.dup, 1) := by decide +kernel
theorem dX11_init_119 : decode cX11_init 119 = .ok (.invokespecial 63, 3) := by decide +kernel
theorem dX11_init_122 : decode cX11_init 122 = .ok (.putfield 71, 3) := by decide +kernel
theorem dX11_init_125 : decode cX11_init 125 = .ok (.aload_n 0, 1) := by decide +kernel
theorem dX11_init_126 : decode cX11_init 126 = .ok (.new 74, 3) := by decide +kernel
theorem dX11_init_129 : decode cX11_init 129 = .ok (.dup, 1) := by decide +kernel
theorem dX11_init_130 : decode cX11_init 130 = .ok (.invokespecial 76, 3) := by decide +kernel
theorem dX11_init_133 : decode cX11_init 133 = .ok (.putfield 77, 3) := by decide +kernel
theorem dX11_init_136 : decode cX11_init 136 = .ok (.aload_n 0, 1) := by decide +kernel
theorem dX11_init_137 : decode cX11_init 137 = .ok (.new 74, 3) := by decide +kernel
theorem dX11_init_140 : decode cX11_init 140 = .ok (.dup, 1) := by decide +kernel
theorem dX11_init_141 : decode cX11_init 141 = .ok (.invokespecial 76, 3) := by decide +kernel
theorem dX11_init_144 : decode cX11_init 144 = .ok (.putfield 81, 3) := by decide +kernel
theorem dX11_init_147 : decode cX11_init 147 = .ok (.aload_n 0, 1) := by decide +kernel
theorem dX11_init_148 : decode cX11_init 148 = .ok (.iconst 0, 1) := by decide +kernel
theorem dX11_init_149 : decode cX11_init 149 = .ok (.putfield 84, 3) := by decide +kernel
theorem dX11_init_152 : decode cX11_init 152 = .ok (.aload_n 0, 1) := by decide +kernel
theorem dX11_init_153 : decode cX11_init 153 = .ok (.iconst (-1), 1) := by decide +kernel
theorem dX11_init_154 : decode cX11_init 154 = .ok (.putfield 88, 3) := by decide +kernel
theorem dX11_init_157 : decode cX11_init 157 = .ok (.return_, 1) := by decide +kernel
theorem dX11_feed_0 : decode cX11_feed 0 = .ok (.aload_n 0, 1) := by decide +kernel
theorem dX11_feed_1 : decode cX11_feed 1 = .ok (.getfield 12, 3) := by decide +kernel
theorem dX11_feed_4 : decode cX11_feed 4 = .ok (.getfield 92, 3) := by decide +kernel
theorem dX11_feed_7 : decode cX11_feed 7 = .ok (.bipush 20, 2) := by decide +kernel
theorem dX11_feed_9 : decode cX11_feed 9 = .ok (.iadd, 1) := by decide +kernel
theorem dX11_feed_10 : decode cX11_feed 10 = .ok (.sipush 700, 3) := by decide +kernel
theorem dX11_feed_13 : decode cX11_feed 13 = .ok (.if_icmp .le 5, 3) := by decide +kernel
theorem dX11_feed_16 : decode cX11_feed 16 = .ok (.iconst (-1), 1) := by decide +kernel
theorem dX11_feed_17 : decode cX11_feed 17 = .ok (.ireturn, 1) := by decide +kernel
theorem dX11_feed_18 : decode cX11_feed 18 = .ok (.aload_n 0, 1) := by decide +kernel
theorem dX11_feed_19 : decode cX11_feed 19 = .ok (.getfield 12, 3) := by decide +kernel
theorem dX11_feed_22 : decode cX11_feed 22 = .ok (.iload_n 1, 1) := by decide +kernel
theorem dX11_feed_23 : decode cX11_feed 23 = .ok (.invokevirtual 95, 3) := by decide +kernel
theorem dX11_feed_26 : decode cX11_feed 26 = .ok (.aload_n 0, 1) := by decide +kernel
theorem dX11_feed_27 : decode cX11_feed 27 = .ok (.getfield 12, 3) := by decide +kernel
theorem dX11_feed_30 : decode cX11_feed 30 = .ok (.iload_n 2, 1) := by decide +kernel
theorem dX11_feed_31 : decode cX11_feed 31 = .ok (.invokevirtual 95, 3) := by decide +kernel
theorem dX11_feed_34 : decode cX11_feed 34 = .ok (.aload_n 0, 1) := by decide +kernel
theorem dX11_feed_35 : decode cX11_feed 35 = .ok (.getfield 12, 3) := by decide +kernel
theorem dX11_feed_38 : decode cX11_feed 38 = .ok (.iload_n 3, 1) := by decide +kernel
theorem dX11_feed_39 : decode cX11_feed 39 = .ok (.invokevirtual 95, 3) := by decide +kernel
theorem dX11_feed_42 : decode cX11_feed 42 = .ok (.aload_n 0, 1) := by decide +kernel
theorem dX11_feed_43 : decode cX11_feed 43 = .ok (.getfield 12, 3) := by decide +kernel
theorem dX11_feed_46 : decode cX11_feed 46 = .ok (.iload 4, 2) := by decide +kernel
theorem dX11_feed_48 : decode cX11_feed 48 = .ok (.invokevirtual 95, 3) := by decide +kernel
theorem dX11_feed_51 : decode cX11_feed 51 = .ok (.aload_n 0, 1) := by decide +kernel
theorem dX11_feed_52 : decode cX11_feed 52 = .ok (.getfield 12, 3) := by decide +kernel
theorem dX11_feed_55 : decode cX11_feed 55 = .ok (.iload 5, 2) := by decide +kernel
theorem dX11_feed_57 : decode cX11_feed 57 = .ok (.invokevirtual 95, 3) := by decide +kernel
theorem dX11_feed_60 : decode cX11_feed 60 = .ok (.aload_n 0, 1) := by decide +kernel
theorem dX11_feed_61 : decode cX11_feed 61 = .ok (.getfield 12, 3) := by decide +kernel
theorem dX11_feed_64 : decode cX11_feed 64 = .ok (.getfield 92, 3) := by decide +kernel
theorem dX11_feed_67 : decode cX11_feed 67 = .ok (.ireturn, 1) := by decide +kernel
theorem dX11_schema_0 : decode cX11_schema 0 = .ok (.aload_n 0, 1) := by decide +kernel
theorem dX11_schema_1 : decode cX11_schema 1 = .ok (.iload_n 1, 1) := by decide +kernel
theorem dX11_schema_2 : decode cX11_schema 2 = .ok (.invokevirtual 99, 3) := by decide +kernel
theorem dX11_schema_5 : decode cX11_schema 5 = .ok (.aload_n 0, 1) := by decide +kernel
theorem dX11_schema_6 : decode cX11_schema 6 = .ok (.getfield 12, 3) := by decide +kernel
theorem dX11_schema_9 : decode cX11_schema 9 = .ok (.iload_n 1, 1) := by decide +kernel
theorem dX11_schema_10 : decode cX11_schema 10 = .ok (.invokevirtual 102, 3) := by decide +kernel
theorem dX11_schema_13 : decode cX11_schema 13 = .ok (.aload_n 0, 1) := by decide +kernel
theorem dX11_schema_14 : decode cX11_schema 14 = .ok (.getfield 19, 3) := by decide +kernel
theorem dX11_schema_17 : decode cX11_schema 17 = .ok (.aload_n 0, 1) := by decide +kernel
theorem dX11_schema_18 : decode cX11_schema 18 = .ok (.getfield 12, 3) := by decide +kernel
theorem dX11_schema_21 : decode cX11_schema 21 = .ok (.aload_n 0, 1) := by decide +kernel
theorem dX11_schema_22 : decode cX11_schema 22 = .ok (.getfield 71, 3) := by decide +kernel
theorem dX11_schema_25 : decode cX11_schema 25 = .ok (.aload_n 0, 1) := by decide +kernel
theorem dX11_schema_26 : decode cX11_schema 26 = .ok (.getfield 71, 3) := by decide +kernel
theorem dX11_schema_29 : decode cX11_schema 29 = .ok (.iconst 0, 1) := by decide +kernel
theorem dX11_schema_30 : decode cX11_schema 30 = .ok (.invokevirtual 105, 3) := by decide +kernel
theorem dX11_schema_33 : decode cX11_schema 33 = .ok (.istore_n 2, 1) := by decide +kernel
theorem dX11_schema_34 : decode cX11_schema 34 = .ok (.aload_n 0, 1) := by decide +kernel
theorem dX11_schema_35 : decode cX11_schema 35 = .ok (.iload_n 2, 1) := by decide +kernel
theorem dX11_schema_36 : decode cX11_schema 36 = .ok (.invokevirtual 109, 3) := by decide +kernel
theorem dX11_schema_39 : decode cX11_schema 39 = .ok (.ifCond .eq 5, 3) := by decide +kernel
theorem dX11_schema_42 : decode cX11_schema 42 = .ok (.iload_n 2, 1) := by decide +kernel
theorem dX11_schema_43 : decode cX11_schema 43 = .ok (.ireturn, 1) := by decide +kernel
theorem dX11_schema_44 : decode cX11_schema 44 = .ok (.aload_n 0, 1) := by decide +kernel
theorem dX11_schema_45 : decode cX11_schema 45 = .ok (.getfield 64, 3) := by decide +kernel
theorem dX11_schema_48 : decode cX11_schema 48 = .ok (.astore_n 3, 1) := by decide +kernel
theorem dX11_schema_49 : decode cX11_schema 49 = .ok (.aload_n 0, 1) := by decide +kernel
theorem dX11_schema_50 : decode cX11_schema 50 = .ok (.aload_n 0, 1) := by decide +kernel
theorem dX11_schema_51 : decode cX11_schema 51 = .ok (.getfield 71, 3) := by decide +kernel
theorem dX11_schema_54 : decode cX11_schema 54 = .ok (.putfield 64, 3) := by decide +kernel
theorem dX11_schema_57 : decode cX11_schema 57 = .ok (.aload_n 0, 1) := by decide +kernel
theorem dX11_schema_58 : decode cX11_schema 58 = .ok (.aload_n 3, 1) := by decide +kernel
theorem dX11_schema_59 : decode cX11_schema 59 = .ok (.putfield 71, 3) := by decide +kernel
theorem dX11_schema_62 : decode cX11_schema 62 = .ok (.aload_n 0, 1) := by decide +kernel
theorem dX11_schema_63 : decode cX11_schema 63 = .ok (.getfield 68, 3) := by decide +kernel
theorem dX11_schema_66 : decode cX11_schema 66 = .ok (.invokevirtual 113, 3) := by decide +kernel
theorem dX11_schema_69 : decode cX11_schema 69 = .ok (.aload_n 0, 1) := by decide +kernel
theorem dX11_schema_70 : decode cX11_schema 70 = .ok (.getfield 77, 3) := by decide +kernel
theorem dX11_schema_73 : decode cX11_schema 73 = .ok (.invokevirtual 116, 3) := by decide +kernel
theorem dX11_schema_76 : decode cX11_schema 76 = .ok (.aload_n 0, 1) := by decide +kernel
theorem dX11_schema_77 : decode cX11_schema 77 = .ok (.getfield 54, 3) := by decide +kernel
theorem dX11_schema_80 : decode cX11_schema 80 = .ok (.aload_n 0, 1) := by decide +kernel
theorem dX11_schema_81 : decode cX11_schema 81 = .ok (.getfield 64, 3) := by decide +kernel
theorem dX11_schema_84 : decode cX11_schema 84 = .ok (.invokevirtual 117, 3) := by decide +kernel
theorem dX11_schema_87 : decode cX11_schema 87 = .ok (.aload_n 0, 1) := by decide +kernel
theorem dX11_schema_88 : decode cX11_schema 88 = .ok (.iconst 0, 1) := by decide +kernel
theorem dX11_schema_89 : decode cX11_schema 89 = .ok (.putfield 84, 3) := by decide +kernel
theorem dX11_schema_92 : decode cX11_schema 92 = .ok (.iconst 0, 1) := by decide +kernel
theorem dX11_schema_93 : decode cX11_schema 93 = .ok (.ireturn, 1) := by decide +kernel
theorem dX11_add_0 : decode cX11_add 0 = .ok (.aload_n 0, 1) := by decide +kernel
theorem dX11_add_1 : decode cX11_add 1 = .ok (.iload_n 1, 1) := by decide +kernel
theorem dX11_add_2 : decode cX11_add 2 = .ok (.invokevirtual 99, 3) := by decide +kernel
theorem dX11_add_5 : decode cX11_add 5 = .ok (.aload_n 0, 1) := by decide +kernel
theorem dX11_add_6 : decode cX11_add 6 = .ok (.getfield 12, 3) := by decide +kernel
theorem dX11_add_9 : decode cX11_add 9 = .ok (.iload_n 1, 1) := by decide +kernel
theorem dX11_add_10 : decode cX11_add 10 = .ok (.invokevirtual 102, 3) := by decide +kernel
theorem dX11_add_13 : decode cX11_add 13 = .ok (.aload_n 0, 1) := by decide +kernel
theorem dX11_add_14 : decode cX11_add 14 = .ok (.getfield 64, 3) := by decide +kernel
theorem dX11_add_17 : decode cX11_add 17 = .ok (.getfield 120, 3) := by decide +kernel
theorem dX11_add_20 : decode cX11_add 20 = .ok (.ifCond .eq 10, 3) := by decide +kernel
theorem dX11_add_23 : decode cX11_add 23 = .ok (.aload_n 0, 1) := by decide +kernel
theorem dX11_add_24 : decode cX11_add 24 = .ok (.invokevirtual 123, 3) := by decide +kernel
theorem dX11_add_27 : decode cX11_add 27 = .ok (.ifCond .eq 8, 3) := by decide +kernel
theorem dX11_add_30 : decode cX11_add 30 = .ok (.aload_n 0, 1) := by decide +kernel
theorem dX11_add_31 : decode cX11_add 31 = .ok (.invokevirtual 127, 3) := by decide +kernel
theorem dX11_add_34 : decode cX11_add 34 = .ok (.ireturn, 1) := by decide +kernel
theorem dX11_add_35 : decode cX11_add 35 = .ok (.aload_n 0, 1) := by decide +kernel
theorem dX11_add_36 : decode cX11_add 36 = .ok (.getfield 26, 3) := by decide +kernel
theorem dX11_add_39 : decode cX11_add 39 = .ok (.aload_n 0, 1) := by decide +kernel
theorem dX11_add_40 : decode cX11_add 40 = .ok (.getfield 12, 3) := by decide +kernel
theorem dX11_add_43 : decode cX11_add 43 = .ok (.aload_n 0, 1) := by decide +kernel
theorem dX11_add_44 : decode cX11_add 44 = .ok (.getfield 64, 3) := by decide +kernel
theorem dX11_add_47 : decode cX11_add 47 = .ok (.aload_n 0, 1) := by decide +kernel
theorem dX11_add_48 : decode cX11_add 48 = .ok (.getfield 54, 3) := by decide +kernel
theorem dX11_add_51 : decode cX11_add 51 = .ok (.invokevirtual 131, 3) := by decide +kernel
theorem dX11_add_54 : decode cX11_add 54 = .ok (.istore_n 2, 1) := by decide +kernel
theorem dX11_add_55 : decode cX11_add 55 = .ok (.aload_n 0, 1) := by decide +kernel
theorem dX11_add_56 : decode cX11_add 56 = .ok (.iload_n 2, 1) := by decide +kernel
theorem dX11_add_57 : decode cX11_add 57 = .ok (.invokevirtual 109, 3) := by decide +kernel
theorem dX11_add_60 : decode cX11_add 60 = .ok (.ifCond .eq 5, 3) := by decide +kernel
theorem dX11_add_63 : decode cX11_add 63 = .ok (.iload_n 2, 1) := by decide +kernel
theorem dX11_add_64 : decode cX11_add 64 = .ok (.ireturn, 1) := by decide +kernel
theorem dX11_add_65 : decode cX11_add 65 = .ok (.aload_n 0, 1) := by decide +kernel
theorem dX11_add_66 : decode cX11_add 66 = .ok (.getfield 54, 3) := by decide +kernel
theorem dX11_add_69 : decode cX11_add 69 = .ok (.aload_n 0, 1) := by decide +kernel
theorem dX11_add_70 : decode cX11_add 70 = .ok (.getfield 26, 3) := by decide +kernel
theorem dX11_add_73 : decode cX11_add 73 = .ok (.getfield 134, 3) := by decide +kernel
theorem dX11_add_76 : decode cX11_add 76 = .ok (.aload_n 0, 1) := by decide +kernel
theorem dX11_add_77 : decode cX11_add 77 = .ok (.getfield 26, 3) := by decide +kernel
theorem dX11_add_80 : decode cX11_add 80 = .ok (.getfield 137, 3) := by decide +kernel
theorem dX11_add_83 : decode cX11_add 83 = .ok (.aload_n 0, 1) := by decide +kernel
theorem dX11_add_84 : decode cX11_add 84 = .ok (.getfield 64, 3) := by decide +kernel
theorem dX11_add_87 : decode cX11_add 87 = .ok (.getfield 141, 3) := by decide +kernel
theorem dX11_add_90 : decode cX11_add 90 = .ok (.invokevirtual 144, 3) := by decide +kernel
theorem dX11_add_93 : decode cX11_add 93 = .ok (.iconst 0, 1) := by decide +kernel
theorem dX11_add_94 : decode cX11_add 94 = .ok (.ireturn, 1) := by decide +kernel
theorem dX11_view_0 : decode cX11_view 0 = .ok (.aload_n 0, 1) := by decide +kernel
theorem dX11_view_1 : decode cX11_view 1 = .ok (.iload_n 1, 1) := by decide +kernel
theorem dX11_view_2 : decode cX11_view 2 = .ok (.invokevirtual 99, 3) := by decide +kernel
theorem dX11_view_5 : decode cX11_view 5 = .ok (.aload_n 0, 1) := by decide +kernel
theorem dX11_view_6 : decode cX11_view 6 = .ok (.getfield 12, 3) := by decide +kernel
theorem dX11_view_9 : decode cX11_view 9 = .ok (.iload_n 1, 1) := by decide +kernel
theorem dX11_view_10 : decode cX11_view 10 = .ok (.invokevirtual 102, 3) := by decide +kernel
theorem dX11_view_13 : decode cX11_view 13 = .ok (.aload_n 0, 1) := by decide +kernel
theorem dX11_view_14 : decode cX11_view 14 = .ok (.getfield 19, 3) := by decide +kernel
theorem dX11_view_17 : decode cX11_view 17 = .ok (.aload_n 0, 1) := by decide +kernel
theorem dX11_view_18 : decode cX11_view 18 = .ok (.getfield 12, 3) := by decide +kernel
theorem dX11_view_21 : decode cX11_view 21 = .ok (.aload_n 0, 1) := by decide +kernel
theorem dX11_view_22 : decode cX11_view 22 = .ok (.getfield 71, 3) := by decide +kernel
theorem dX11_view_25 : decode cX11_view 25 = .ok (.aload_n 0, 1) := by decide +kernel
theorem dX11_view_26 : decode cX11_view 26 = .ok (.getfield 64, 3) := by decide +kernel
theorem dX11_view_29 : decode cX11_view 29 = .ok (.iconst 1, 1) := by decide +kernel
theorem dX11_view_30 : decode cX11_view 30 = .ok (.invokevirtual 105, 3) := by decide +kernel
theorem dX11_view_33 : decode cX11_view 33 = .ok (.istore_n 2, 1) := by decide +kernel
theorem dX11_view_34 : decode cX11_view 34 = .ok (.aload_n 0, 1) := by decide +kernel
theorem dX11_view_35 : decode cX11_view 35 = .ok (.iload_n 2, 1) := by decide +kernel
theorem dX11_view_36 : decode cX11_view 36 = .ok (.invokevirtual 109, 3) := by decide +kernel
theorem dX11_view_39 : decode cX11_view 39 = .ok (.ifCond .eq 5, 3) := by decide +kernel
theorem dX11_view_42 : decode cX11_view 42 = .ok (.iload_n 2, 1) := by decide +kernel
theorem dX11_view_43 : decode cX11_view 43 = .ok (.ireturn, 1) := by decide +kernel
theorem dX11_view_44 : decode cX11_view 44 = .ok (.aload_n 0, 1) := by decide +kernel
theorem dX11_view_45 : decode cX11_view 45 = .ok (.getfield 68, 3) := by decide +kernel
theorem dX11_view_48 : decode cX11_view 48 = .ok (.astore_n 3, 1) := by decide +kernel
theorem dX11_view_49 : decode cX11_view 49 = .ok (.aload_n 0, 1) := by decide +kernel
theorem dX11_view_50 : decode cX11_view 50 = .ok (.aload_n 0, 1) := by decide +kernel
theorem dX11_view_51 : decode cX11_view 51 = .ok (.getfield 71, 3) := by decide +kernel
theorem dX11_view_54 : decode cX11_view 54 = .ok (.putfield 68, 3) := by decide +kernel
theorem dX11_view_57 : decode cX11_view 57 = .ok (.aload_n 0, 1) := by decide +kernel
theorem dX11_view_58 : decode cX11_view 58 = .ok (.aload_n 3, 1) := by decide +kernel
theorem dX11_view_59 : decode cX11_view 59 = .ok (.putfield 71, 3) := by decide +kernel
theorem dX11_view_62 : decode cX11_view 62 = .ok (.iconst 0, 1) := by decide +kernel
theorem dX11_view_63 : decode cX11_view 63 = .ok (.ireturn, 1) := by decide +kernel
theorem dX11_pipe_0 : decode cX11_pipe 0 = .ok (.aload_n 0, 1) := by decide +kernel
theorem dX11_pipe_1 : decode cX11_pipe 1 = .ok (.iload_n 1, 1) := by decide +kernel
theorem dX11_pipe_2 : decode cX11_pipe 2 = .ok (.invokevirtual 99, 3) := by decide +kernel
theorem dX11_pipe_5 : decode cX11_pipe 5 = .ok (.aload_n 0, 1) := by decide +kernel
theorem dX11_pipe_6 : decode cX11_pipe 6 = .ok (.getfield 12, 3) := by decide +kernel
theorem dX11_pipe_9 : decode cX11_pipe 9 = .ok (.iload_n 1, 1) := by decide +kernel
theorem dX11_pipe_10 : decode cX11_pipe 10 = .ok (.invokevirtual 102, 3) := by decide +kernel
theorem dX11_pipe_13 : decode cX11_pipe 13 = .ok (.aload_n 0, 1) := by decide +kernel
theorem dX11_pipe_14 : decode cX11_pipe 14 = .ok (.getfield 81, 3) := by decide +kernel
theorem dX11_pipe_17 : decode cX11_pipe 17 = .ok (.aload_n 0, 1) := by decide +kernel
theorem dX11_pipe_18 : decode cX11_pipe 18 = .ok (.getfield 12, 3) := by decide +kernel
theorem dX11_pipe_21 : decode cX11_pipe 21 = .ok (.invokevirtual 148, 3) := by decide +kernel
theorem dX11_pipe_24 : decode cX11_pipe 24 = .ok (.istore_n 2, 1) := by decide +kernel
theorem dX11_pipe_25 : decode cX11_pipe 25 = .ok (.aload_n 0, 1) := by decide +kernel
theorem dX11_pipe_26 : decode cX11_pipe 26 = .ok (.iload_n 2, 1) := by decide +kernel
theorem dX11_pipe_27 : decode cX11_pipe 27 = .ok (.invokevirtual 109, 3) := by decide +kernel
theorem dX11_pipe_30 : decode cX11_pipe 30 = .ok (.ifCond .eq 5, 3) := by decide +kernel
theorem dX11_pipe_33 : decode cX11_pipe 33 = .ok (.iload_n 2, 1) := by decide +kernel
theorem dX11_pipe_34 : decode cX11_pipe 34 = .ok (.ireturn, 1) := by decide +kernel
theorem dX11_pipe_35 : decode cX11_pipe 35 = .ok (.aload_n 0, 1) := by decide +kernel
theorem dX11_pipe_36 : decode cX11_pipe 36 = .ok (.getfield 77, 3) := by decide +kernel
theorem dX11_pipe_39 : decode cX11_pipe 39 = .ok (.astore_n 3, 1) := by decide +kernel
theorem dX11_pipe_40 : decode cX11_pipe 40 = .ok (.aload_n 0, 1) := by decide +kernel
theorem dX11_pipe_41 : decode cX11_pipe 41 = .ok (.aload_n 0, 1) := by decide +kernel
theorem dX11_pipe_42 : decode cX11_pipe 42 = .ok (.getfield 81, 3) := by decide +kernel
theorem dX11_pipe_45 : decode cX11_pipe 45 = .ok (.putfield 77, 3) := by decide +kernel
theorem dX11_pipe_48 : decode cX11_pipe 48 = .ok (.aload_n 0, 1) := by decide +kernel
theorem dX11_pipe_49 : decode cX11_pipe 49 = .ok (.aload_n 3, 1) := by decide +kernel
theorem dX11_pipe_50 : decode cX11_pipe 50 = .ok (.putfield 81, 3) := by decide +kernel
theorem dX11_pipe_53 : decode cX11_pipe 53 = .ok (.iconst 0, 1) := by decide +kernel
theorem dX11_pipe_54 : decode cX11_pipe 54 = .ok (.ireturn, 1) := by decide +kernel
theorem dX11_fault_0 : decode cX11_fault 0 = .ok (.aload_n 0, 1) := by decide +kernel
theorem dX11_fault_1 : decode cX11_fault 1 = .ok (.getfield 88, 3) := by decide +kernel
theorem dX11_fault_4 : decode cX11_fault 4 = .ok (.ireturn, 1) := by decide +kernel
theorem dX11_count_0 : decode cX11_count 0 = .ok (.iload_n 1, 1) := by decide +kernel
theorem dX11_count_1 : decode cX11_count 1 = .ok (.tableswitch 212 0 17 #[87, 95, 103, 111, 126, 141, 156, 164, 172, 212, 212, 212, 212, 212, 180, 188, 196, 204], 87) := by decide +kernel
theorem dX11_count_88 : decode cX11_count 88 = .ok (.aload_n 0, 1) := by decide +kernel
theorem dX11_count_89 : decode cX11_count 89 = .ok (.getfield 64, 3) := by decide +kernel
theorem dX11_count_92 : decode cX11_count 92 = .ok (.getfield 120, 3) := by decide +kernel
theorem dX11_count_95 : decode cX11_count 95 = .ok (.ireturn, 1) := by decide +kernel
theorem dX11_count_96 : decode cX11_count 96 = .ok (.aload_n 0, 1) := by decide +kernel
theorem dX11_count_97 : decode cX11_count 97 = .ok (.getfield 64, 3) := by decide +kernel
theorem dX11_count_100 : decode cX11_count 100 = .ok (.getfield 141, 3) := by decide +kernel
theorem dX11_count_103 : decode cX11_count 103 = .ok (.ireturn, 1) := by decide +kernel
theorem dX11_count_104 : decode cX11_count 104 = .ok (.aload_n 0, 1) := by decide +kernel
theorem dX11_count_105 : decode cX11_count 105 = .ok (.getfield 54, 3) := by decide +kernel
theorem dX11_count_108 : decode cX11_count 108 = .ok (.getfield 151, 3) := by decide +kernel
theorem dX11_count_111 : decode cX11_count 111 = .ok (.ireturn, 1) := by decide +kernel
theorem dX11_count_112 : decode cX11_count 112 = .ok (.aload_n 0, 1) := by decide +kernel
theorem dX11_count_113 : decode cX11_count 113 = .ok (.getfield 54, 3) := by decide +kernel
theorem dX11_count_116 : decode cX11_count 116 = .ok (.aload_n 0, 1) := by decide +kernel
theorem dX11_count_117 : decode cX11_count 117 = .ok (.getfield 64, 3) := by decide +kernel
theorem dX11_count_120 : decode cX11_count 120 = .ok (.getfield 141, 3) := by decide +kernel
theorem dX11_count_123 : decode cX11_count 123 = .ok (.invokevirtual 152, 3) := by decide +kernel
theorem dX11_count_126 : decode cX11_count 126 = .ok (.ireturn, 1) := by decide +kernel
theorem dX11_count_127 : decode cX11_count 127 = .ok (.aload_n 0, 1) := by decide +kernel
theorem dX11_count_128 : decode cX11_count 128 = .ok (.getfield 64, 3) := by decide +kernel
theorem dX11_count_131 : decode cX11_count 131 = .ok (.aload_n 0, 1) := by decide +kernel
theorem dX11_count_132 : decode cX11_count 132 = .ok (.getfield 64, 3) := by decide +kernel
theorem dX11_count_135 : decode cX11_count 135 = .ok (.getfield 156, 3) := by decide +kernel
theorem dX11_count_138 : decode cX11_count 138 = .ok (.invokevirtual 159, 3) := by decide +kernel
theorem dX11_count_141 : decode cX11_count 141 = .ok (.ireturn, 1) := by decide +kernel
theorem dX11_count_142 : decode cX11_count 142 = .ok (.aload_n 0, 1) := by decide +kernel
theorem dX11_count_143 : decode cX11_count 143 = .ok (.getfield 64, 3) := by decide +kernel
theorem dX11_count_146 : decode cX11_count 146 = .ok (.aload_n 0, 1) := by decide +kernel
theorem dX11_count_147 : decode cX11_count 147 = .ok (.getfield 64, 3) := by decide +kernel
theorem dX11_count_150 : decode cX11_count 150 = .ok (.getfield 163, 3) := by decide +kernel
theorem dX11_count_153 : decode cX11_count 153 = .ok (.invokevirtual 159, 3) := by decide +kernel
theorem dX11_count_156 : decode cX11_count 156 = .ok (.ireturn, 1) := by decide +kernel
theorem dX11_count_157 : decode cX11_count 157 = .ok (.aload_n 0, 1) := by decide +kernel
theorem dX11_count_158 : decode cX11_count 158 = .ok (.getfield 68, 3) := by decide +kernel
theorem dX11_count_161 : decode cX11_count 161 = .ok (.getfield 120, 3) := by decide +kernel
theorem dX11_count_164 : decode cX11_count 164 = .ok (.ireturn, 1) := by decide +kernel
theorem dX11_count_165 : decode cX11_count 165 = .ok (.aload_n 0, 1) := by decide +kernel
theorem dX11_count_166 : decode cX11_count 166 = .ok (.getfield 77, 3) := by decide +kernel
theorem dX11_count_169 : decode cX11_count 169 = .ok (.getfield 166, 3) := by decide +kernel
theorem dX11_count_172 : decode cX11_count 172 = .ok (.ireturn, 1) := by decide +kernel
theorem dX11_count_173 : decode cX11_count 173 = .ok (.aload_n 0, 1) := by decide +kernel
theorem dX11_count_174 : decode cX11_count 174 = .ok (.getfield 64, 3) := by decide +kernel
theorem dX11_count_177 : decode cX11_count 177 = .ok (.invokevirtual 169, 3) := by decide +kernel
theorem dX11_count_180 : decode cX11_count 180 = .ok (.ireturn, 1) := by decide +kernel
theorem dX11_count_181 : decode cX11_count 181 = .ok (.aload_n 0, 1) := by decide +kernel
theorem dX11_count_182 : decode cX11_count 182 = .ok (.getfield 54, 3) := by decide +kernel
theorem dX11_count_185 : decode cX11_count 185 = .ok (.getfield 172, 3) := by decide +kernel
theorem dX11_count_188 : decode cX11_count 188 = .ok (.ireturn, 1) := by decide +kernel
theorem dX11_count_189 : decode cX11_count 189 = .ok (.aload_n 0, 1) := by decide +kernel
theorem dX11_count_190 : decode cX11_count 190 = .ok (.getfield 12, 3) := by decide +kernel
theorem dX11_count_193 : decode cX11_count 193 = .ok (.getfield 92, 3) := by decide +kernel
theorem dX11_count_196 : decode cX11_count 196 = .ok (.ireturn, 1) := by decide +kernel
theorem dX11_count_197 : decode cX11_count 197 = .ok (.aload_n 0, 1) := by decide +kernel
theorem dX11_count_198 : decode cX11_count 198 = .ok (.getfield 54, 3) := by decide +kernel
theorem dX11_count_201 : decode cX11_count 201 = .ok (.getfield 175, 3) := by decide +kernel
theorem dX11_count_204 : decode cX11_count 204 = .ok (.ireturn, 1) := by decide +kernel
theorem dX11_count_205 : decode cX11_count 205 = .ok (.aload_n 0, 1) := by decide +kernel
theorem dX11_count_206 : decode cX11_count 206 = .ok (.getfield 54, 3) := by decide +kernel
theorem dX11_count_209 : decode cX11_count 209 = .ok (.getfield 178, 3) := by decide +kernel
theorem dX11_count_212 : decode cX11_count 212 = .ok (.ireturn, 1) := by decide +kernel
theorem dX11_count_213 : decode cX11_count 213 = .ok (.aload_n 0, 1) := by decide +kernel
theorem dX11_count_214 : decode cX11_count 214 = .ok (.iload_n 1, 1) := by decide +kernel
theorem dX11_count_215 : decode cX11_count 215 = .ok (.invokevirtual 181, 3) := by decide +kernel
theorem dX11_count_218 : decode cX11_count 218 = .ok (.ireturn, 1) := by decide +kernel
theorem dX11_field_0 : decode cX11_field 0 = .ok (.aload_n 0, 1) := by decide +kernel
theorem dX11_field_1 : decode cX11_field 1 = .ok (.iload_n 1, 1) := by decide +kernel
theorem dX11_field_2 : decode cX11_field 2 = .ok (.invokevirtual 184, 3) := by decide +kernel
theorem dX11_field_5 : decode cX11_field 5 = .ok (.iload_n 2, 1) := by decide +kernel
theorem dX11_field_6 : decode cX11_field 6 = .ok (.tableswitch 112 0 6 #[42, 52, 62, 72, 82, 92, 102], 42) := by decide +kernel
theorem dX11_field_48 : decode cX11_field 48 = .ok (.aload_n 0, 1) := by decide +kernel
theorem dX11_field_49 : decode cX11_field 49 = .ok (.getfield 64, 3) := by decide +kernel
theorem dX11_field_52 : decode cX11_field 52 = .ok (.getfield 187, 3) := by decide +kernel
theorem dX11_field_55 : decode cX11_field 55 = .ok (.iload_n 1, 1) := by decide +kernel
theorem dX11_field_56 : decode cX11_field 56 = .ok (.iaload, 1) := by decide +kernel
theorem dX11_field_57 : decode cX11_field 57 = .ok (.ireturn, 1) := by decide +kernel
theorem dX11_field_58 : decode cX11_field 58 = .ok (.aload_n 0, 1) := by decide +kernel
theorem dX11_field_59 : decode cX11_field 59 = .ok (.getfield 64, 3) := by decide +kernel
theorem dX11_field_62 : decode cX11_field 62 = .ok (.getfield 190, 3) := by decide +kernel
theorem dX11_field_65 : decode cX11_field 65 = .ok (.iload_n 1, 1) := by decide +kernel
theorem dX11_field_66 : decode cX11_field 66 = .ok (.iaload, 1) := by decide +kernel
theorem dX11_field_67 : decode cX11_field 67 = .ok (.ireturn, 1) := by decide +kernel
theorem dX11_field_68 : decode cX11_field 68 = .ok (.aload_n 0, 1) := by decide +kernel
theorem dX11_field_69 : decode cX11_field 69 = .ok (.getfield 64, 3) := by decide +kernel
theorem dX11_field_72 : decode cX11_field 72 = .ok (.getfield 193, 3) := by decide +kernel
theorem dX11_field_75 : decode cX11_field 75 = .ok (.iload_n 1, 1) := by decide +kernel
theorem dX11_field_76 : decode cX11_field 76 = .ok (.iaload, 1) := by decide +kernel
theorem dX11_field_77 : decode cX11_field 77 = .ok (.ireturn, 1) := by decide +kernel
theorem dX11_field_78 : decode cX11_field 78 = .ok (.aload_n 0, 1) := by decide +kernel
theorem dX11_field_79 : decode cX11_field 79 = .ok (.getfield 64, 3) := by decide +kernel
theorem dX11_field_82 : decode cX11_field 82 = .ok (.getfield 156, 3) := by decide +kernel
theorem dX11_field_85 : decode cX11_field 85 = .ok (.iload_n 1, 1) := by decide +kernel
theorem dX11_field_86 : decode cX11_field 86 = .ok (.iaload, 1) := by decide +kernel
theorem dX11_field_87 : decode cX11_field 87 = .ok (.ireturn, 1) := by decide +kernel
theorem dX11_field_88 : decode cX11_field 88 = .ok (.aload_n 0, 1) := by decide +kernel
theorem dX11_field_89 : decode cX11_field 89 = .ok (.getfield 64, 3) := by decide +kernel
theorem dX11_field_92 : decode cX11_field 92 = .ok (.getfield 163, 3) := by decide +kernel
theorem dX11_field_95 : decode cX11_field 95 = .ok (.iload_n 1, 1) := by decide +kernel
theorem dX11_field_96 : decode cX11_field 96 = .ok (.iaload, 1) := by decide +kernel
theorem dX11_field_97 : decode cX11_field 97 = .ok (.ireturn, 1) := by decide +kernel
theorem dX11_field_98 : decode cX11_field 98 = .ok (.aload_n 0, 1) := by decide +kernel
theorem dX11_field_99 : decode cX11_field 99 = .ok (.getfield 64, 3) := by decide +kernel
theorem dX11_field_102 : decode cX11_field 102 = .ok (.getfield 196, 3) := by decide +kernel
theorem dX11_field_105 : decode cX11_field 105 = .ok (.iload_n 1, 1) := by decide +kernel
theorem dX11_field_106 : decode cX11_field 106 = .ok (.iaload, 1) := by decide +kernel
theorem dX11_field_107 : decode cX11_field 107 = .ok (.ireturn, 1) := by decide +kernel
theorem dX11_field_108 : decode cX11_field 108 = .ok (.aload_n 0, 1) := by decide +kernel
theorem dX11_field_109 : decode cX11_field 109 = .ok (.getfield 64, 3) := by decide +kernel
theorem dX11_field_112 : decode cX11_field 112 = .ok (.getfield 199, 3) := by decide +kernel
theorem dX11_field_115 : decode cX11_field 115 = .ok (.iload_n 1, 1) := by decide +kernel
theorem dX11_field_116 : decode cX11_field 116 = .ok (.iaload, 1) := by decide +kernel
theorem dX11_field_117 : decode cX11_field 117 = .ok (.ireturn, 1) := by decide +kernel
theorem dX11_field_118 : decode cX11_field 118 = .ok (.new 202, 3) := by decide +kernel
theorem dX11_field_121 : decode cX11_field 121 = .ok (.dup, 1) := by decide +kernel
theorem dX11_field_122 : decode cX11_field 122 = .ok (.ldc 204, 2) := by decide +kernel
theorem dX11_field_124 : decode cX11_field 124 = .ok (.invokespecial 206, 3) := by decide +kernel
theorem dX11_field_127 : decode cX11_field 127 = .ok (.athrow, 1) := by decide +kernel
theorem dX11_needTape_0 : decode cX11_needTape 0 = .ok (.iload_n 1, 1) := by decide +kernel
theorem dX11_needTape_1 : decode cX11_needTape 1 = .ok (.ifCond .lt 14, 3) := by decide +kernel
theorem dX11_needTape_4 : decode cX11_needTape 4 = .ok (.iload_n 1, 1) := by decide +kernel
theorem dX11_needTape_5 : decode cX11_needTape 5 = .ok (.aload_n 0, 1) := by decide +kernel
theorem dX11_needTape_6 : decode cX11_needTape 6 = .ok (.getfield 12, 3) := by decide +kernel
theorem dX11_needTape_9 : decode cX11_needTape 9 = .ok (.getfield 92, 3) := by decide +kernel
theorem dX11_needTape_12 : decode cX11_needTape 12 = .ok (.if_icmp .le 14, 3) := by decide +kernel
theorem dX11_needTape_15 : decode cX11_needTape 15 = .ok (.new 260, 3) := by decide +kernel
theorem dX11_needTape_18 : decode cX11_needTape 18 = .ok (.dup, 1) := by decide +kernel
theorem dX11_needTape_19 : decode cX11_needTape 19 = .ok (.ldc_w 342, 3) := by decide +kernel
theorem dX11_needTape_22 : decode cX11_needTape 22 = .ok (.invokespecial 264, 3) := by decide +kernel
theorem dX11_needTape_25 : decode cX11_needTape 25 = .ok (.athrow, 1) := by decide +kernel
theorem dX11_needTape_26 : decode cX11_needTape 26 = .ok (.return_, 1) := by decide +kernel
theorem dX11_needField_0 : decode cX11_needField 0 = .ok (.iload_n 1, 1) := by decide +kernel
theorem dX11_needField_1 : decode cX11_needField 1 = .ok (.ifCond .lt 14, 3) := by decide +kernel
theorem dX11_needField_4 : decode cX11_needField 4 = .ok (.iload_n 1, 1) := by decide +kernel
theorem dX11_needField_5 : decode cX11_needField 5 = .ok (.aload_n 0, 1) := by decide +kernel
theorem dX11_needField_6 : decode cX11_needField 6 = .ok (.getfield 64, 3) := by decide +kernel
theorem dX11_needField_9 : decode cX11_needField 9 = .ok (.getfield 120, 3) := by decide +kernel
theorem dX11_needField_12 : decode cX11_needField 12 = .ok (.if_icmp .lt 14, 3) := by decide +kernel
theorem dX11_needField_15 : decode cX11_needField 15 = .ok (.new 202, 3) := by decide +kernel
theorem dX11_needField_18 : decode cX11_needField 18 = .ok (.dup, 1) := by decide +kernel
theorem dX11_needField_19 : decode cX11_needField 19 = .ok (.ldc_w 344, 3) := by decide +kernel
theorem dX11_needField_22 : decode cX11_needField 22 = .ok (.invokespecial 206, 3) := by decide +kernel
theorem dX11_needField_25 : decode cX11_needField 25 = .ok (.athrow, 1) := by decide +kernel
theorem dX11_needField_26 : decode cX11_needField 26 = .ok (.return_, 1) := by decide +kernel
theorem dX11_isWrong_0 : decode cX11_isWrong 0 = .ok (.aload_n 0, 1) := by decide +kernel
theorem dX11_isWrong_1 : decode cX11_isWrong 1 = .ok (.getfield 33, 3) := by decide +kernel
theorem dX11_isWrong_4 : decode cX11_isWrong 4 = .ok (.aload_n 0, 1) := by decide +kernel
theorem dX11_isWrong_5 : decode cX11_isWrong 5 = .ok (.getfield 64, 3) := by decide +kernel
theorem dX11_isWrong_8 : decode cX11_isWrong 8 = .ok (.aload_n 0, 1) := by decide +kernel
theorem dX11_isWrong_9 : decode cX11_isWrong 9 = .ok (.getfield 54, 3) := by decide +kernel
theorem dX11_isWrong_12 : decode cX11_isWrong 12 = .ok (.invokevirtual 354, 3) := by decide +kernel
theorem dX11_isWrong_15 : decode cX11_isWrong 15 = .ok (.ifCond .eq 7, 3) := by decide +kernel
theorem dX11_isWrong_18 : decode cX11_isWrong 18 = .ok (.iconst 1, 1) := by decide +kernel
theorem dX11_isWrong_19 : decode cX11_isWrong 19 = .ok (.goto 4, 3) := by decide +kernel
theorem dX11_isWrong_22 : decode cX11_isWrong 22 = .ok (.iconst 0, 1) := by decide +kernel
theorem dX11_isWrong_23 : decode cX11_isWrong 23 = .ok (.ireturn, 1) := by decide +kernel
theorem dX11_refuse_0 : decode cX11_refuse 0 = .ok (.aload_n 0, 1) := by decide +kernel
theorem dX11_refuse_1 : decode cX11_refuse 1 = .ok (.getfield 54, 3) := by decide +kernel
theorem dX11_refuse_4 : decode cX11_refuse 4 = .ok (.dup, 1) := by decide +kernel
theorem dX11_refuse_5 : decode cX11_refuse 5 = .ok (.getfield 178, 3) := by decide +kernel
theorem dX11_refuse_8 : decode cX11_refuse 8 = .ok (.iconst 1, 1) := by decide +kernel
theorem dX11_refuse_9 : decode cX11_refuse 9 = .ok (.iadd, 1) := by decide +kernel
theorem dX11_refuse_10 : decode cX11_refuse 10 = .ok (.putfield 178, 3) := by decide +kernel
theorem dX11_refuse_13 : decode cX11_refuse 13 = .ok (.iconst (-1), 1) := by decide +kernel
theorem dX11_refuse_14 : decode cX11_refuse 14 = .ok (.ireturn, 1) := by decide +kernel
theorem dX11_noteFault_0 : decode cX11_noteFault 0 = .ok (.iload_n 1, 1) := by decide +kernel
theorem dX11_noteFault_1 : decode cX11_noteFault 1 = .ok (.ifCond .ne 10, 3) := by decide +kernel
theorem dX11_noteFault_4 : decode cX11_noteFault 4 = .ok (.aload_n 0, 1) := by decide +kernel
theorem dX11_noteFault_5 : decode cX11_noteFault 5 = .ok (.iconst (-1), 1) := by decide +kernel
theorem dX11_noteFault_6 : decode cX11_noteFault 6 = .ok (.putfield 88, 3) := by decide +kernel
theorem dX11_noteFault_9 : decode cX11_noteFault 9 = .ok (.iconst 0, 1) := by decide +kernel
theorem dX11_noteFault_10 : decode cX11_noteFault 10 = .ok (.ireturn, 1) := by decide +kernel
theorem dX11_noteFault_11 : decode cX11_noteFault 11 = .ok (.aload_n 0, 1) := by decide +kernel
theorem dX11_noteFault_12 : decode cX11_noteFault 12 = .ok (.aload_n 0, 1) := by decide +kernel
theorem dX11_noteFault_13 : decode cX11_noteFault 13 = .ok (.getfield 12, 3) := by decide +kernel
theorem dX11_noteFault_16 : decode cX11_noteFault 16 = .ok (.getfield 357, 3) := by decide +kernel
theorem dX11_noteFault_19 : decode cX11_noteFault 19 = .ok (.putfield 88, 3) := by decide +kernel
theorem dX11_noteFault_22 : decode cX11_noteFault 22 = .ok (.aload_n 0, 1) := by decide +kernel
theorem dX11_noteFault_23 : decode cX11_noteFault 23 = .ok (.getfield 54, 3) := by decide +kernel
theorem dX11_noteFault_26 : decode cX11_noteFault 26 = .ok (.dup, 1) := by decide +kernel
theorem dX11_noteFault_27 : decode cX11_noteFault 27 = .ok (.getfield 175, 3) := by decide +kernel
theorem dX11_noteFault_30 : decode cX11_noteFault 30 = .ok (.iconst 1, 1) := by decide +kernel
theorem dX11_noteFault_31 : decode cX11_noteFault 31 = .ok (.iadd, 1) := by decide +kernel
theorem dX11_noteFault_32 : decode cX11_noteFault 32 = .ok (.putfield 175, 3) := by decide +kernel
theorem dX11_noteFault_35 : decode cX11_noteFault 35 = .ok (.iconst 1, 1) := by decide +kernel
theorem dX11_noteFault_36 : decode cX11_noteFault 36 = .ok (.ireturn, 1) := by decide +kernel
theorem dX11_countChecked_0 : decode cX11_countChecked 0 = .ok (.iload_n 1, 1) := by decide +kernel
theorem dX11_countChecked_1 : decode cX11_countChecked 1 = .ok (.bipush 9, 2) := by decide +kernel
theorem dX11_countChecked_3 : decode cX11_countChecked 3 = .ok (.if_icmp .lt 9, 3) := by decide +kernel
theorem dX11_countChecked_6 : decode cX11_countChecked 6 = .ok (.iload_n 1, 1) := by decide +kernel
theorem dX11_countChecked_7 : decode cX11_countChecked 7 = .ok (.bipush 13, 2) := by decide +kernel
theorem dX11_countChecked_9 : decode cX11_countChecked 9 = .ok (.if_icmp .le 13, 3) := by decide +kernel
theorem dX11_countChecked_12 : decode cX11_countChecked 12 = .ok (.new 202, 3) := by decide +kernel
theorem dX11_countChecked_15 : decode cX11_countChecked 15 = .ok (.dup, 1) := by decide +kernel
theorem dX11_countChecked_16 : decode cX11_countChecked 16 = .ok (.ldc 204, 2) := by decide +kernel
theorem dX11_countChecked_18 : decode cX11_countChecked 18 = .ok (.invokespecial 206, 3) := by decide +kernel
theorem dX11_countChecked_21 : decode cX11_countChecked 21 = .ok (.athrow, 1) := by decide +kernel
theorem dX11_countChecked_22 : decode cX11_countChecked 22 = .ok (.aload_n 0, 1) := by decide +kernel
theorem dX11_countChecked_23 : decode cX11_countChecked 23 = .ok (.getfield 33, 3) := by decide +kernel
theorem dX11_countChecked_26 : decode cX11_countChecked 26 = .ok (.aload_n 0, 1) := by decide +kernel
theorem dX11_countChecked_27 : decode cX11_countChecked 27 = .ok (.getfield 64, 3) := by decide +kernel
theorem dX11_countChecked_30 : decode cX11_countChecked 30 = .ok (.aload_n 0, 1) := by decide +kernel
theorem dX11_countChecked_31 : decode cX11_countChecked 31 = .ok (.getfield 54, 3) := by decide +kernel
theorem dX11_countChecked_34 : decode cX11_countChecked 34 = .ok (.invokevirtual 354, 3) := by decide +kernel
theorem dX11_countChecked_37 : decode cX11_countChecked 37 = .ok (.istore_n 2, 1) := by decide +kernel
theorem dX11_countChecked_38 : decode cX11_countChecked 38 = .ok (.iload_n 1, 1) := by decide +kernel
theorem dX11_countChecked_39 : decode cX11_countChecked 39 = .ok (.bipush 9, 2) := by decide +kernel
theorem dX11_countChecked_41 : decode cX11_countChecked 41 = .ok (.if_icmp .ne 5, 3) := by decide +kernel
theorem dX11_countChecked_44 : decode cX11_countChecked 44 = .ok (.iload_n 2, 1) := by decide +kernel
theorem dX11_countChecked_45 : decode cX11_countChecked 45 = .ok (.ireturn, 1) := by decide +kernel
theorem dX11_countChecked_46 : decode cX11_countChecked 46 = .ok (.iload_n 1, 1) := by decide +kernel
theorem dX11_countChecked_47 : decode cX11_countChecked 47 = .ok (.bipush 10, 2) := by decide +kernel
theorem dX11_countChecked_49 : decode cX11_countChecked 49 = .ok (.if_icmp .ne 11, 3) := by decide +kernel
theorem dX11_countChecked_52 : decode cX11_countChecked 52 = .ok (.aload_n 0, 1) := by decide +kernel
theorem dX11_countChecked_53 : decode cX11_countChecked 53 = .ok (.getfield 33, 3) := by decide +kernel
theorem dX11_countChecked_56 : decode cX11_countChecked 56 = .ok (.getfield 360, 3) := by decide +kernel
theorem dX11_countChecked_59 : decode cX11_countChecked 59 = .ok (.ireturn, 1) := by decide +kernel
theorem dX11_countChecked_60 : decode cX11_countChecked 60 = .ok (.iload_n 1, 1) := by decide +kernel
theorem dX11_countChecked_61 : decode cX11_countChecked 61 = .ok (.bipush 11, 2) := by decide +kernel
theorem dX11_countChecked_63 : decode cX11_countChecked 63 = .ok (.if_icmp .ne 11, 3) := by decide +kernel
theorem dX11_countChecked_66 : decode cX11_countChecked 66 = .ok (.aload_n 0, 1) := by decide +kernel
theorem dX11_countChecked_67 : decode cX11_countChecked 67 = .ok (.getfield 33, 3) := by decide +kernel
theorem dX11_countChecked_70 : decode cX11_countChecked 70 = .ok (.getfield 363, 3) := by decide +kernel
theorem dX11_countChecked_73 : decode cX11_countChecked 73 = .ok (.ireturn, 1) := by decide +kernel
theorem dX11_countChecked_74 : decode cX11_countChecked 74 = .ok (.aload_n 0, 1) := by decide +kernel
theorem dX11_countChecked_75 : decode cX11_countChecked 75 = .ok (.getfield 33, 3) := by decide +kernel
theorem dX11_countChecked_78 : decode cX11_countChecked 78 = .ok (.invokevirtual 366, 3) := by decide +kernel
theorem dX11_countChecked_81 : decode cX11_countChecked 81 = .ok (.iload_n 1, 1) := by decide +kernel
theorem dX11_countChecked_82 : decode cX11_countChecked 82 = .ok (.bipush 12, 2) := by decide +kernel
theorem dX11_countChecked_84 : decode cX11_countChecked 84 = .ok (.if_icmp .ne 13, 3) := by decide +kernel
theorem dX11_countChecked_87 : decode cX11_countChecked 87 = .ok (.aload_n 0, 1) := by decide +kernel
theorem dX11_countChecked_88 : decode cX11_countChecked 88 = .ok (.getfield 33, 3) := by decide +kernel
theorem dX11_countChecked_91 : decode cX11_countChecked 91 = .ok (.getfield 369, 3) := by decide +kernel
theorem dX11_countChecked_94 : decode cX11_countChecked 94 = .ok (.goto 10, 3) := by decide +kernel
theorem dX11_countChecked_97 : decode cX11_countChecked 97 = .ok (.aload_n 0, 1) := by decide +kernel
theorem dX11_countChecked_98 : decode cX11_countChecked 98 = .ok (.getfield 33, 3) := by decide +kernel
theorem dX11_countChecked_101 : decode cX11_countChecked 101 = .ok (.getfield 372, 3) := by decide +kernel
theorem dX11_countChecked_104 : decode cX11_countChecked 104 = .ok (.ireturn, 1) := by decide +kernel
