theorem dX6_read_0 : decode cX6_read 0 = .ok (.aload_n 0, 1) := by decide +kernel
theorem dX6_read_1 : decode cX6_read 1 = .ok (.aload_n 1, 1) := by decide +kernel
theorem dX6_read_2 : decode cX6_read 2 = .ok (.putfield 9, 3) := by decide +kernel
theorem dX6_read_5 : decode cX6_read 5 = .ok (.aload_n 0, 1) := by decide +kernel
theorem dX6_read_6 : decode cX6_read 6 = .ok (.aload_n 2, 1) := by decide +kernel
theorem dX6_read_7 : decode cX6_read 7 = .ok (.putfield 15, 3) := by decide +kernel
theorem dX6_read_10 : decode cX6_read 10 = .ok (.aload_n 0, 1) := by decide +kernel
theorem dX6_read_11 : decode cX6_read 11 = .ok (.aload_n 3, 1) := by decide +kernel
theorem dX6_read_12 : decode cX6_read 12 = .ok (.putfield 19, 3) := by decide +kernel
theorem dX6_read_15 : decode cX6_read 15 = .ok (.aload_n 0, 1) := by decide +kernel
theorem dX6_read_16 : decode cX6_read 16 = .ok (.iload 4, 2) := by decide +kernel
theorem dX6_read_18 : decode cX6_read 18 = .ok (.putfield 22, 3) := by decide +kernel
theorem dX6_read_21 : decode cX6_read 21 = .ok (.aload_n 0, 1) := by decide +kernel
theorem dX6_read_22 : decode cX6_read 22 = .ok (.iconst (-1), 1) := by decide +kernel
theorem dX6_read_23 : decode cX6_read 23 = .ok (.putfield 26, 3) := by decide +kernel
theorem dX6_read_26 : decode cX6_read 26 = .ok (.aload_n 0, 1) := by decide +kernel
theorem dX6_read_27 : decode cX6_read 27 = .ok (.iconst 0, 1) := by decide +kernel
theorem dX6_read_28 : decode cX6_read 28 = .ok (.putfield 30, 3) := by decide +kernel
theorem dX6_read_31 : decode cX6_read 31 = .ok (.aload_n 0, 1) := by decide +kernel
theorem dX6_read_32 : decode cX6_read 32 = .ok (.getfield 15, 3) := by decide +kernel
theorem dX6_read_35 : decode cX6_read 35 = .ok (.invokevirtual 33, 3) := by decide +kernel
theorem dX6_read_38 : decode cX6_read 38 = .ok (.iconst 0, 1) := by decide +kernel
theorem dX6_read_39 : decode cX6_read 39 = .ok (.istore 5, 2) := by decide +kernel
theorem dX6_read_41 : decode cX6_read 41 = .ok (.iload 5, 2) := by decide +kernel
theorem dX6_read_43 : decode cX6_read 43 = .ok (.sipush 700, 3) := by decide +kernel
theorem dX6_read_46 : decode cX6_read 46 = .ok (.if_icmp .gt 83, 3) := by decide +kernel
theorem dX6_read_49 : decode cX6_read 49 = .ok (.aload_n 0, 1) := by decide +kernel
theorem dX6_read_50 : decode cX6_read 50 = .ok (.getfield 9, 3) := by decide +kernel
theorem dX6_read_53 : decode cX6_read 53 = .ok (.getfield 38, 3) := by decide +kernel
theorem dX6_read_56 : decode cX6_read 56 = .ok (.ifCond .ne 27, 3) := by decide +kernel
theorem dX6_read_59 : decode cX6_read 59 = .ok (.aload_n 0, 1) := by decide +kernel
theorem dX6_read_60 : decode cX6_read 60 = .ok (.getfield 26, 3) := by decide +kernel
theorem dX6_read_63 : decode cX6_read 63 = .ok (.iconst (-1), 1) := by decide +kernel
theorem dX6_read_64 : decode cX6_read 64 = .ok (.if_icmp .ne 17, 3) := by decide +kernel
theorem dX6_read_67 : decode cX6_read 67 = .ok (.aload_n 0, 1) := by decide +kernel
theorem dX6_read_68 : decode cX6_read 68 = .ok (.getfield 15, 3) := by decide +kernel
theorem dX6_read_71 : decode cX6_read 71 = .ok (.getfield 43, 3) := by decide +kernel
theorem dX6_read_74 : decode cX6_read 74 = .ok (.ifCond .le 7, 3) := by decide +kernel
theorem dX6_read_77 : decode cX6_read 77 = .ok (.iconst 0, 1) := by decide +kernel
theorem dX6_read_78 : decode cX6_read 78 = .ok (.goto 4, 3) := by decide +kernel
theorem dX6_read_81 : decode cX6_read 81 = .ok (.iconst 1, 1) := by decide +kernel
theorem dX6_read_82 : decode cX6_read 82 = .ok (.ireturn, 1) := by decide +kernel
theorem dX6_read_83 : decode cX6_read 83 = .ok (.aload_n 0, 1) := by decide +kernel
theorem dX6_read_84 : decode cX6_read 84 = .ok (.getfield 9, 3) := by decide +kernel
theorem dX6_read_87 : decode cX6_read 87 = .ok (.getfield 38, 3) := by decide +kernel
theorem dX6_read_90 : decode cX6_read 90 = .ok (.bipush 125, 2) := by decide +kernel
theorem dX6_read_92 : decode cX6_read 92 = .ok (.if_icmp .ne 10, 3) := by decide +kernel
theorem dX6_read_95 : decode cX6_read 95 = .ok (.aload_n 0, 1) := by decide +kernel
theorem dX6_read_96 : decode cX6_read 96 = .ok (.invokevirtual 46, 3) := by decide +kernel
theorem dX6_read_99 : decode cX6_read 99 = .ok (.goto 7, 3) := by decide +kernel
theorem dX6_read_102 : decode cX6_read 102 = .ok (.aload_n 0, 1) := by decide +kernel
theorem dX6_read_103 : decode cX6_read 103 = .ok (.invokevirtual 50, 3) := by decide +kernel
theorem dX6_read_106 : decode cX6_read 106 = .ok (.istore 6, 2) := by decide +kernel
theorem dX6_read_108 : decode cX6_read 108 = .ok (.iload 6, 2) := by decide +kernel
theorem dX6_read_110 : decode cX6_read 110 = .ok (.ifCond .eq 6, 3) := by decide +kernel
theorem dX6_read_113 : decode cX6_read 113 = .ok (.iload 6, 2) := by decide +kernel
theorem dX6_read_115 : decode cX6_read 115 = .ok (.ireturn, 1) := by decide +kernel
theorem dX6_read_116 : decode cX6_read 116 = .ok (.aload_n 0, 1) := by decide +kernel
theorem dX6_read_117 : decode cX6_read 117 = .ok (.getfield 9, 3) := by decide +kernel
theorem dX6_read_120 : decode cX6_read 120 = .ok (.invokevirtual 53, 3) := by decide +kernel
theorem dX6_read_123 : decode cX6_read 123 = .ok (.iinc 5 1, 3) := by decide +kernel
theorem dX6_read_126 : decode cX6_read 126 = .ok (.goto (-85), 3) := by decide +kernel
theorem dX6_read_129 : decode cX6_read 129 = .ok (.iconst 1, 1) := by decide +kernel
theorem dX6_read_130 : decode cX6_read 130 = .ok (.ireturn, 1) := by decide +kernel
theorem dX6_readField_0 : decode cX6_readField 0 = .ok (.aload_n 0, 1) := by decide +kernel
theorem dX6_readField_1 : decode cX6_readField 1 = .ok (.invokevirtual 63, 3) := by decide +kernel
theorem dX6_readField_4 : decode cX6_readField 4 = .ok (.istore_n 1, 1) := by decide +kernel
theorem dX6_readField_5 : decode cX6_readField 5 = .ok (.iload_n 1, 1) := by decide +kernel
theorem dX6_readField_6 : decode cX6_readField 6 = .ok (.iconst (-1), 1) := by decide +kernel
theorem dX6_readField_7 : decode cX6_readField 7 = .ok (.if_icmp .ne 5, 3) := by decide +kernel
theorem dX6_readField_10 : decode cX6_readField 10 = .ok (.iconst 1, 1) := by decide +kernel
theorem dX6_readField_11 : decode cX6_readField 11 = .ok (.ireturn, 1) := by decide +kernel
theorem dX6_readField_12 : decode cX6_readField 12 = .ok (.aload_n 0, 1) := by decide +kernel
theorem dX6_readField_13 : decode cX6_readField 13 = .ok (.getfield 15, 3) := by decide +kernel
theorem dX6_readField_16 : decode cX6_readField 16 = .ok (.getfield 43, 3) := by decide +kernel
theorem dX6_readField_19 : decode cX6_readField 19 = .ok (.bipush 16, 2) := by decide +kernel
theorem dX6_readField_21 : decode cX6_readField 21 = .ok (.if_icmp .lt 5, 3) := by decide +kernel
theorem dX6_readField_24 : decode cX6_readField 24 = .ok (.iconst 2, 1) := by decide +kernel
theorem dX6_readField_25 : decode cX6_readField 25 = .ok (.ireturn, 1) := by decide +kernel
theorem dX6_readField_26 : decode cX6_readField 26 = .ok (.aload_n 0, 1) := by decide +kernel
theorem dX6_readField_27 : decode cX6_readField 27 = .ok (.getfield 15, 3) := by decide +kernel
theorem dX6_readField_30 : decode cX6_readField 30 = .ok (.iload_n 1, 1) := by decide +kernel
theorem dX6_readField_31 : decode cX6_readField 31 = .ok (.aload_n 0, 1) := by decide +kernel
theorem dX6_readField_32 : decode cX6_readField 32 = .ok (.getfield 26, 3) := by decide +kernel
theorem dX6_readField_35 : decode cX6_readField 35 = .ok (.invokevirtual 66, 3) := by decide +kernel
theorem dX6_readField_38 : decode cX6_readField 38 = .ok (.istore_n 2, 1) := by decide +kernel
theorem dX6_readField_39 : decode cX6_readField 39 = .ok (.aload_n 0, 1) := by decide +kernel
theorem dX6_readField_40 : decode cX6_readField 40 = .ok (.getfield 9, 3) := by decide +kernel
theorem dX6_readField_43 : decode cX6_readField 43 = .ok (.invokevirtual 53, 3) := by decide +kernel
theorem dX6_readField_46 : decode cX6_readField 46 = .ok (.aload_n 0, 1) := by decide +kernel
theorem dX6_readField_47 : decode cX6_readField 47 = .ok (.iload_n 2, 1) := by decide +kernel
theorem dX6_readField_48 : decode cX6_readField 48 = .ok (.invokevirtual 70, 3) := by decide +kernel
theorem dX6_readField_51 : decode cX6_readField 51 = .ok (.istore_n 3, 1) := by decide +kernel
theorem dX6_readField_52 : decode cX6_readField 52 = .ok (.iload_n 3, 1) := by decide +kernel
theorem dX6_readField_53 : decode cX6_readField 53 = .ok (.ifCond .eq 5, 3) := by decide +kernel
theorem dX6_readField_56 : decode cX6_readField 56 = .ok (.iload_n 3, 1) := by decide +kernel
theorem dX6_readField_57 : decode cX6_readField 57 = .ok (.ireturn, 1) := by decide +kernel
theorem dX6_readField_58 : decode cX6_readField 58 = .ok (.aload_n 0, 1) := by decide +kernel
theorem dX6_readField_59 : decode cX6_readField 59 = .ok (.getfield 9, 3) := by decide +kernel
theorem dX6_readField_62 : decode cX6_readField 62 = .ok (.invokevirtual 53, 3) := by decide +kernel
theorem dX6_readField_65 : decode cX6_readField 65 = .ok (.aload_n 0, 1) := by decide +kernel
theorem dX6_readField_66 : decode cX6_readField 66 = .ok (.iload_n 2, 1) := by decide +kernel
theorem dX6_readField_67 : decode cX6_readField 67 = .ok (.invokevirtual 74, 3) := by decide +kernel
theorem dX6_readField_70 : decode cX6_readField 70 = .ok (.ireturn, 1) := by decide +kernel
theorem dX6_readName_0 : decode cX6_readName 0 = .ok (.aload_n 0, 1) := by decide +kernel
theorem dX6_readName_1 : decode cX6_readName 1 = .ok (.getfield 9, 3) := by decide +kernel
theorem dX6_readName_4 : decode cX6_readName 4 = .ok (.getfield 38, 3) := by decide +kernel
theorem dX6_readName_7 : decode cX6_readName 7 = .ok (.iconst 1, 1) := by decide +kernel
theorem dX6_readName_8 : decode cX6_readName 8 = .ok (.if_icmp .eq 5, 3) := by decide +kernel
theorem dX6_readName_11 : decode cX6_readName 11 = .ok (.iconst 1, 1) := by decide +kernel
theorem dX6_readName_12 : decode cX6_readName 12 = .ok (.ireturn, 1) := by decide +kernel
theorem dX6_readName_13 : decode cX6_readName 13 = .ok (.aload_n 0, 1) := by decide +kernel
theorem dX6_readName_14 : decode cX6_readName 14 = .ok (.getfield 9, 3) := by decide +kernel
theorem dX6_readName_17 : decode cX6_readName 17 = .ok (.invokevirtual 87, 3) := by decide +kernel
theorem dX6_readName_20 : decode cX6_readName 20 = .ok (.iconst 4, 1) := by decide +kernel
theorem dX6_readName_21 : decode cX6_readName 21 = .ok (.if_icmp .le 5, 3) := by decide +kernel
theorem dX6_readName_24 : decode cX6_readName 24 = .ok (.iconst 2, 1) := by decide +kernel
theorem dX6_readName_25 : decode cX6_readName 25 = .ok (.ireturn, 1) := by decide +kernel
theorem dX6_readName_26 : decode cX6_readName 26 = .ok (.aload_n 0, 1) := by decide +kernel
theorem dX6_readName_27 : decode cX6_readName 27 = .ok (.getfield 15, 3) := by decide +kernel
theorem dX6_readName_30 : decode cX6_readName 30 = .ok (.iload_n 1, 1) := by decide +kernel
theorem dX6_readName_31 : decode cX6_readName 31 = .ok (.aload_n 0, 1) := by decide +kernel
theorem dX6_readName_32 : decode cX6_readName 32 = .ok (.getfield 9, 3) := by decide +kernel
theorem dX6_readName_35 : decode cX6_readName 35 = .ok (.invokevirtual 90, 3) := by decide +kernel
theorem dX6_readName_38 : decode cX6_readName 38 = .ok (.aload_n 0, 1) := by decide +kernel
theorem dX6_readName_39 : decode cX6_readName 39 = .ok (.iload_n 1, 1) := by decide +kernel
theorem dX6_readName_40 : decode cX6_readName 40 = .ok (.invokevirtual 94, 3) := by decide +kernel
theorem dX6_readName_43 : decode cX6_readName 43 = .ok (.ifCond .ne 5, 3) := by decide +kernel
theorem dX6_readName_46 : decode cX6_readName 46 = .ok (.iconst 3, 1) := by decide +kernel
theorem dX6_readName_47 : decode cX6_readName 47 = .ok (.ireturn, 1) := by decide +kernel
theorem dX6_readName_48 : decode cX6_readName 48 = .ok (.aload_n 0, 1) := by decide +kernel
theorem dX6_readName_49 : decode cX6_readName 49 = .ok (.getfield 15, 3) := by decide +kernel
theorem dX6_readName_52 : decode cX6_readName 52 = .ok (.aload_n 0, 1) := by decide +kernel
theorem dX6_readName_53 : decode cX6_readName 53 = .ok (.getfield 26, 3) := by decide +kernel
theorem dX6_readName_56 : decode cX6_readName 56 = .ok (.aload_n 0, 1) := by decide +kernel
theorem dX6_readName_57 : decode cX6_readName 57 = .ok (.getfield 15, 3) := by decide +kernel
theorem dX6_readName_60 : decode cX6_readName 60 = .ok (.iload_n 1, 1) := by decide +kernel
theorem dX6_readName_61 : decode cX6_readName 61 = .ok (.invokevirtual 98, 3) := by decide +kernel
theorem dX6_readName_64 : decode cX6_readName 64 = .ok (.iload_n 1, 1) := by decide +kernel
theorem dX6_readName_65 : decode cX6_readName 65 = .ok (.if_icmp .ge 7, 3) := by decide +kernel
theorem dX6_readName_68 : decode cX6_readName 68 = .ok (.iconst 4, 1) := by decide +kernel
theorem dX6_readName_69 : decode cX6_readName 69 = .ok (.goto 4, 3) := by decide +kernel
theorem dX6_readName_72 : decode cX6_readName 72 = .ok (.iconst 0, 1) := by decide +kernel
theorem dX6_readName_73 : decode cX6_readName 73 = .ok (.ireturn, 1) := by decide +kernel
theorem dX6_findTwin_0 : decode cX6_findTwin 0 = .ok (.aload_n 0, 1) := by decide +kernel
theorem dX6_findTwin_1 : decode cX6_findTwin 1 = .ok (.getfield 22, 3) := by decide +kernel
theorem dX6_findTwin_4 : decode cX6_findTwin 4 = .ok (.ifCond .ne 15, 3) := by decide +kernel
theorem dX6_findTwin_7 : decode cX6_findTwin 7 = .ok (.aload_n 0, 1) := by decide +kernel
theorem dX6_findTwin_8 : decode cX6_findTwin 8 = .ok (.getfield 15, 3) := by decide +kernel
theorem dX6_findTwin_11 : decode cX6_findTwin 11 = .ok (.getfield 102, 3) := by decide +kernel
theorem dX6_findTwin_14 : decode cX6_findTwin 14 = .ok (.iload_n 1, 1) := by decide +kernel
theorem dX6_findTwin_15 : decode cX6_findTwin 15 = .ok (.iload_n 1, 1) := by decide +kernel
theorem dX6_findTwin_16 : decode cX6_findTwin 16 = .ok (.iastore, 1) := by decide +kernel
theorem dX6_findTwin_17 : decode cX6_findTwin 17 = .ok (.iconst 1, 1) := by decide +kernel
theorem dX6_findTwin_18 : decode cX6_findTwin 18 = .ok (.ireturn, 1) := by decide +kernel
theorem dX6_findTwin_19 : decode cX6_findTwin 19 = .ok (.aload_n 0, 1) := by decide +kernel
theorem dX6_findTwin_20 : decode cX6_findTwin 20 = .ok (.getfield 26, 3) := by decide +kernel
theorem dX6_findTwin_23 : decode cX6_findTwin 23 = .ok (.iconst (-1), 1) := by decide +kernel
theorem dX6_findTwin_24 : decode cX6_findTwin 24 = .ok (.if_icmp .ne 7, 3) := by decide +kernel
theorem dX6_findTwin_27 : decode cX6_findTwin 27 = .ok (.iconst (-1), 1) := by decide +kernel
theorem dX6_findTwin_28 : decode cX6_findTwin 28 = .ok (.goto 15, 3) := by decide +kernel
theorem dX6_findTwin_31 : decode cX6_findTwin 31 = .ok (.aload_n 0, 1) := by decide +kernel
theorem dX6_findTwin_32 : decode cX6_findTwin 32 = .ok (.getfield 15, 3) := by decide +kernel
theorem dX6_findTwin_35 : decode cX6_findTwin 35 = .ok (.getfield 102, 3) := by decide +kernel
theorem dX6_findTwin_38 : decode cX6_findTwin 38 = .ok (.aload_n 0, 1) := by decide +kernel
theorem dX6_findTwin_39 : decode cX6_findTwin 39 = .ok (.getfield 26, 3) := by decide +kernel
theorem dX6_findTwin_42 : decode cX6_findTwin 42 = .ok (.iaload, 1) := by decide +kernel
theorem dX6_findTwin_43 : decode cX6_findTwin 43 = .ok (.istore_n 2, 1) := by decide +kernel
theorem dX6_findTwin_44 : decode cX6_findTwin 44 = .ok (.aload_n 0, 1) := by decide +kernel
theorem dX6_findTwin_45 : decode cX6_findTwin 45 = .ok (.getfield 26, 3) := by decide +kernel
theorem dX6_findTwin_48 : decode cX6_findTwin 48 = .ok (.iconst (-1), 1) := by decide +kernel
theorem dX6_findTwin_49 : decode cX6_findTwin 49 = .ok (.if_icmp .eq 10, 3) := by decide +kernel
theorem dX6_findTwin_52 : decode cX6_findTwin 52 = .ok (.iload_n 2, 1) := by decide +kernel
theorem dX6_findTwin_53 : decode cX6_findTwin 53 = .ok (.iconst (-1), 1) := by decide +kernel
theorem dX6_findTwin_54 : decode cX6_findTwin 54 = .ok (.if_icmp .ne 5, 3) := by decide +kernel
theorem dX6_findTwin_57 : decode cX6_findTwin 57 = .ok (.iconst 1, 1) := by decide +kernel
theorem dX6_findTwin_58 : decode cX6_findTwin 58 = .ok (.ireturn, 1) := by decide +kernel
theorem dX6_findTwin_59 : decode cX6_findTwin 59 = .ok (.aload_n 0, 1) := by decide +kernel
theorem dX6_findTwin_60 : decode cX6_findTwin 60 = .ok (.getfield 19, 3) := by decide +kernel
theorem dX6_findTwin_63 : decode cX6_findTwin 63 = .ok (.iload_n 2, 1) := by decide +kernel
theorem dX6_findTwin_64 : decode cX6_findTwin 64 = .ok (.aload_n 0, 1) := by decide +kernel
theorem dX6_findTwin_65 : decode cX6_findTwin 65 = .ok (.getfield 15, 3) := by decide +kernel
theorem dX6_findTwin_68 : decode cX6_findTwin 68 = .ok (.iload_n 1, 1) := by decide +kernel
theorem dX6_findTwin_69 : decode cX6_findTwin 69 = .ok (.invokevirtual 98, 3) := by decide +kernel
theorem dX6_findTwin_72 : decode cX6_findTwin 72 = .ok (.istore_n 3, 1) := by decide +kernel
theorem dX6_findTwin_73 : decode cX6_findTwin 73 = .ok (.aload_n 0, 1) := by decide +kernel
theorem dX6_findTwin_74 : decode cX6_findTwin 74 = .ok (.getfield 15, 3) := by decide +kernel
theorem dX6_findTwin_77 : decode cX6_findTwin 77 = .ok (.getfield 102, 3) := by decide +kernel
theorem dX6_findTwin_80 : decode cX6_findTwin 80 = .ok (.iload_n 1, 1) := by decide +kernel
theorem dX6_findTwin_81 : decode cX6_findTwin 81 = .ok (.iload_n 3, 1) := by decide +kernel
theorem dX6_findTwin_82 : decode cX6_findTwin 82 = .ok (.iastore, 1) := by decide +kernel
theorem dX6_findTwin_83 : decode cX6_findTwin 83 = .ok (.aload_n 0, 1) := by decide +kernel
theorem dX6_findTwin_84 : decode cX6_findTwin 84 = .ok (.getfield 15, 3) := by decide +kernel
theorem dX6_findTwin_87 : decode cX6_findTwin 87 = .ok (.getfield 105, 3) := by decide +kernel
theorem dX6_findTwin_90 : decode cX6_findTwin 90 = .ok (.iload_n 1, 1) := by decide +kernel
theorem dX6_findTwin_91 : decode cX6_findTwin 91 = .ok (.iaload, 1) := by decide +kernel
theorem dX6_findTwin_92 : decode cX6_findTwin 92 = .ok (.istore 4, 2) := by decide +kernel
theorem dX6_findTwin_94 : decode cX6_findTwin 94 = .ok (.iload_n 3, 1) := by decide +kernel
theorem dX6_findTwin_95 : decode cX6_findTwin 95 = .ok (.iconst (-1), 1) := by decide +kernel
theorem dX6_findTwin_96 : decode cX6_findTwin 96 = .ok (.if_icmp .ne 14, 3) := by decide +kernel
theorem dX6_findTwin_99 : decode cX6_findTwin 99 = .ok (.iload 4, 2) := by decide +kernel
theorem dX6_findTwin_101 : decode cX6_findTwin 101 = .ok (.ifCond .eq 7, 3) := by decide +kernel
theorem dX6_findTwin_104 : decode cX6_findTwin 104 = .ok (.iconst 1, 1) := by decide +kernel
theorem dX6_findTwin_105 : decode cX6_findTwin 105 = .ok (.goto 4, 3) := by decide +kernel
theorem dX6_findTwin_108 : decode cX6_findTwin 108 = .ok (.iconst 0, 1) := by decide +kernel
theorem dX6_findTwin_109 : decode cX6_findTwin 109 = .ok (.ireturn, 1) := by decide +kernel
theorem dX6_findTwin_110 : decode cX6_findTwin 110 = .ok (.aload_n 0, 1) := by decide +kernel
theorem dX6_findTwin_111 : decode cX6_findTwin 111 = .ok (.getfield 19, 3) := by decide +kernel
theorem dX6_findTwin_114 : decode cX6_findTwin 114 = .ok (.getfield 105, 3) := by decide +kernel
theorem dX6_findTwin_117 : decode cX6_findTwin 117 = .ok (.iload_n 3, 1) := by decide +kernel
theorem dX6_findTwin_118 : decode cX6_findTwin 118 = .ok (.iaload, 1) := by decide +kernel
theorem dX6_findTwin_119 : decode cX6_findTwin 119 = .ok (.iload 4, 2) := by decide +kernel
theorem dX6_findTwin_121 : decode cX6_findTwin 121 = .ok (.if_icmp .eq 21, 3) := by decide +kernel
theorem dX6_findTwin_124 : decode cX6_findTwin 124 = .ok (.aload_n 0, 1) := by decide +kernel
theorem dX6_findTwin_125 : decode cX6_findTwin 125 = .ok (.getfield 19, 3) := by decide +kernel
theorem dX6_findTwin_128 : decode cX6_findTwin 128 = .ok (.getfield 105, 3) := by decide +kernel
theorem dX6_findTwin_131 : decode cX6_findTwin 131 = .ok (.iload_n 3, 1) := by decide +kernel
theorem dX6_findTwin_132 : decode cX6_findTwin 132 = .ok (.iaload, 1) := by decide +kernel
theorem dX6_findTwin_133 : decode cX6_findTwin 133 = .ok (.ifCond .ne 13, 3) := by decide +kernel
theorem dX6_findTwin_136 : decode cX6_findTwin 136 = .ok (.iload 4, 2) := by decide +kernel
theorem dX6_findTwin_138 : decode cX6_findTwin 138 = .ok (.iconst 1, 1) := by decide +kernel
theorem dX6_findTwin_139 : decode cX6_findTwin 139 = .ok (.if_icmp .ne 7, 3) := by decide +kernel
theorem dX6_findTwin_142 : decode cX6_findTwin 142 = .ok (.iconst 1, 1) := by decide +kernel
theorem dX6_findTwin_143 : decode cX6_findTwin 143 = .ok (.goto 4, 3) := by decide +kernel
theorem dX6_findTwin_146 : decode cX6_findTwin 146 = .ok (.iconst 0, 1) := by decide +kernel
theorem dX6_findTwin_147 : decode cX6_findTwin 147 = .ok (.ireturn, 1) := by decide +kernel
theorem dX6_readLeafOrGroup_0 : decode cX6_readLeafOrGroup 0 = .ok (.aload_n 0, 1) := by decide +kernel
theorem dX6_readLeafOrGroup_1 : decode cX6_readLeafOrGroup 1 = .ok (.getfield 22, 3) := by decide +kernel
theorem dX6_readLeafOrGroup_4 : decode cX6_readLeafOrGroup 4 = .ok (.ifCond .eq 15, 3) := by decide +kernel
theorem dX6_readLeafOrGroup_7 : decode cX6_readLeafOrGroup 7 = .ok (.aload_n 0, 1) := by decide +kernel
theorem dX6_readLeafOrGroup_8 : decode cX6_readLeafOrGroup 8 = .ok (.getfield 15, 3) := by decide +kernel
theorem dX6_readLeafOrGroup_11 : decode cX6_readLeafOrGroup 11 = .ok (.getfield 102, 3) := by decide +kernel
theorem dX6_readLeafOrGroup_14 : decode cX6_readLeafOrGroup 14 = .ok (.iload_n 1, 1) := by decide +kernel
theorem dX6_readLeafOrGroup_15 : decode cX6_readLeafOrGroup 15 = .ok (.iaload, 1) := by decide +kernel
theorem dX6_readLeafOrGroup_16 : decode cX6_readLeafOrGroup 16 = .ok (.goto 4, 3) := by decide +kernel
theorem dX6_readLeafOrGroup_19 : decode cX6_readLeafOrGroup 19 = .ok (.iconst (-1), 1) := by decide +kernel
theorem dX6_readLeafOrGroup_20 : decode cX6_readLeafOrGroup 20 = .ok (.istore_n 2, 1) := by decide +kernel
theorem dX6_readLeafOrGroup_21 : decode cX6_readLeafOrGroup 21 = .ok (.aload_n 0, 1) := by decide +kernel
theorem dX6_readLeafOrGroup_22 : decode cX6_readLeafOrGroup 22 = .ok (.getfield 9, 3) := by decide +kernel
theorem dX6_readLeafOrGroup_25 : decode cX6_readLeafOrGroup 25 = .ok (.getfield 38, 3) := by decide +kernel
theorem dX6_readLeafOrGroup_28 : decode cX6_readLeafOrGroup 28 = .ok (.bipush 59, 2) := by decide +kernel
theorem dX6_readLeafOrGroup_30 : decode cX6_readLeafOrGroup 30 = .ok (.if_icmp .ne 49, 3) := by decide +kernel
theorem dX6_readLeafOrGroup_33 : decode cX6_readLeafOrGroup 33 = .ok (.aload_n 0, 1) := by decide +kernel
theorem dX6_readLeafOrGroup_34 : decode cX6_readLeafOrGroup 34 = .ok (.getfield 15, 3) := by decide +kernel
theorem dX6_readLeafOrGroup_37 : decode cX6_readLeafOrGroup 37 = .ok (.getfield 108, 3) := by decide +kernel
theorem dX6_readLeafOrGroup_40 : decode cX6_readLeafOrGroup 40 = .ok (.bipush 8, 2) := by decide +kernel
theorem dX6_readLeafOrGroup_42 : decode cX6_readLeafOrGroup 42 = .ok (.if_icmp .lt 5, 3) := by decide +kernel
theorem dX6_readLeafOrGroup_45 : decode cX6_readLeafOrGroup 45 = .ok (.iconst 2, 1) := by decide +kernel
theorem dX6_readLeafOrGroup_46 : decode cX6_readLeafOrGroup 46 = .ok (.ireturn, 1) := by decide +kernel
theorem dX6_readLeafOrGroup_47 : decode cX6_readLeafOrGroup 47 = .ok (.aload_n 0, 1) := by decide +kernel
theorem dX6_readLeafOrGroup_48 : decode cX6_readLeafOrGroup 48 = .ok (.getfield 15, 3) := by decide +kernel
theorem dX6_readLeafOrGroup_51 : decode cX6_readLeafOrGroup 51 = .ok (.iload_n 1, 1) := by decide +kernel
theorem dX6_readLeafOrGroup_52 : decode cX6_readLeafOrGroup 52 = .ok (.invokevirtual 111, 3) := by decide +kernel
theorem dX6_readLeafOrGroup_55 : decode cX6_readLeafOrGroup 55 = .ok (.iload_n 2, 1) := by decide +kernel
theorem dX6_readLeafOrGroup_56 : decode cX6_readLeafOrGroup 56 = .ok (.iconst (-1), 1) := by decide +kernel
theorem dX6_readLeafOrGroup_57 : decode cX6_readLeafOrGroup 57 = .ok (.if_icmp .eq 20, 3) := by decide +kernel
theorem dX6_readLeafOrGroup_60 : decode cX6_readLeafOrGroup 60 = .ok (.aload_n 0, 1) := by decide +kernel
theorem dX6_readLeafOrGroup_61 : decode cX6_readLeafOrGroup 61 = .ok (.getfield 19, 3) := by decide +kernel
theorem dX6_readLeafOrGroup_64 : decode cX6_readLeafOrGroup 64 = .ok (.getfield 115, 3) := by decide +kernel
theorem dX6_readLeafOrGroup_67 : decode cX6_readLeafOrGroup 67 = .ok (.iload_n 2, 1) := by decide +kernel
theorem dX6_readLeafOrGroup_68 : decode cX6_readLeafOrGroup 68 = .ok (.iaload, 1) := by decide +kernel
theorem dX6_readLeafOrGroup_69 : decode cX6_readLeafOrGroup 69 = .ok (.iconst (-1), 1) := by decide +kernel
theorem dX6_readLeafOrGroup_70 : decode cX6_readLeafOrGroup 70 = .ok (.if_icmp .ne 7, 3) := by decide +kernel
theorem dX6_readLeafOrGroup_73 : decode cX6_readLeafOrGroup 73 = .ok (.iconst 3, 1) := by decide +kernel
theorem dX6_readLeafOrGroup_74 : decode cX6_readLeafOrGroup 74 = .ok (.goto 4, 3) := by decide +kernel
theorem dX6_readLeafOrGroup_77 : decode cX6_readLeafOrGroup 77 = .ok (.iconst 0, 1) := by decide +kernel
theorem dX6_readLeafOrGroup_78 : decode cX6_readLeafOrGroup 78 = .ok (.ireturn, 1) := by decide +kernel
theorem dX6_readLeafOrGroup_79 : decode cX6_readLeafOrGroup 79 = .ok (.aload_n 0, 1) := by decide +kernel
theorem dX6_readLeafOrGroup_80 : decode cX6_readLeafOrGroup 80 = .ok (.getfield 9, 3) := by decide +kernel
theorem dX6_readLeafOrGroup_83 : decode cX6_readLeafOrGroup 83 = .ok (.getfield 38, 3) := by decide +kernel
theorem dX6_readLeafOrGroup_86 : decode cX6_readLeafOrGroup 86 = .ok (.bipush 123, 2) := by decide +kernel
theorem dX6_readLeafOrGroup_88 : decode cX6_readLeafOrGroup 88 = .ok (.if_icmp .eq 5, 3) := by decide +kernel
theorem dX6_readLeafOrGroup_91 : decode cX6_readLeafOrGroup 91 = .ok (.iconst 1, 1) := by decide +kernel
theorem dX6_readLeafOrGroup_92 : decode cX6_readLeafOrGroup 92 = .ok (.ireturn, 1) := by decide +kernel
theorem dX6_readLeafOrGroup_93 : decode cX6_readLeafOrGroup 93 = .ok (.aload_n 0, 1) := by decide +kernel
theorem dX6_readLeafOrGroup_94 : decode cX6_readLeafOrGroup 94 = .ok (.getfield 30, 3) := by decide +kernel
theorem dX6_readLeafOrGroup_97 : decode cX6_readLeafOrGroup 97 = .ok (.iconst 3, 1) := by decide +kernel
theorem dX6_readLeafOrGroup_98 : decode cX6_readLeafOrGroup 98 = .ok (.if_icmp .lt 5, 3) := by decide +kernel
theorem dX6_readLeafOrGroup_101 : decode cX6_readLeafOrGroup 101 = .ok (.iconst 2, 1) := by decide +kernel
theorem dX6_readLeafOrGroup_102 : decode cX6_readLeafOrGroup 102 = .ok (.ireturn, 1) := by decide +kernel
theorem dX6_readLeafOrGroup_103 : decode cX6_readLeafOrGroup 103 = .ok (.aload_n 0, 1) := by decide +kernel
theorem dX6_readLeafOrGroup_104 : decode cX6_readLeafOrGroup 104 = .ok (.iload_n 1, 1) := by decide +kernel
theorem dX6_readLeafOrGroup_105 : decode cX6_readLeafOrGroup 105 = .ok (.putfield 26, 3) := by decide +kernel
theorem dX6_readLeafOrGroup_108 : decode cX6_readLeafOrGroup 108 = .ok (.aload_n 0, 1) := by decide +kernel
theorem dX6_readLeafOrGroup_109 : decode cX6_readLeafOrGroup 109 = .ok (.dup, 1) := by decide +kernel
theorem dX6_readLeafOrGroup_110 : decode cX6_readLeafOrGroup 110 = .ok (.getfield 30, 3) := by decide +kernel
theorem dX6_readLeafOrGroup_113 : decode cX6_readLeafOrGroup 113 = .ok (.iconst 1, 1) := by decide +kernel
theorem dX6_readLeafOrGroup_114 : decode cX6_readLeafOrGroup 114 = .ok (.iadd, 1) := by decide +kernel
theorem dX6_readLeafOrGroup_115 : decode cX6_readLeafOrGroup 115 = .ok (.putfield 30, 3) := by decide +kernel
theorem dX6_readLeafOrGroup_118 : decode cX6_readLeafOrGroup 118 = .ok (.iload_n 2, 1) := by decide +kernel
theorem dX6_readLeafOrGroup_119 : decode cX6_readLeafOrGroup 119 = .ok (.iconst (-1), 1) := by decide +kernel
theorem dX6_readLeafOrGroup_120 : decode cX6_readLeafOrGroup 120 = .ok (.if_icmp .eq 20, 3) := by decide +kernel
theorem dX6_readLeafOrGroup_123 : decode cX6_readLeafOrGroup 123 = .ok (.aload_n 0, 1) := by decide +kernel
theorem dX6_readLeafOrGroup_124 : decode cX6_readLeafOrGroup 124 = .ok (.getfield 19, 3) := by decide +kernel
theorem dX6_readLeafOrGroup_127 : decode cX6_readLeafOrGroup 127 = .ok (.getfield 115, 3) := by decide +kernel
theorem dX6_readLeafOrGroup_130 : decode cX6_readLeafOrGroup 130 = .ok (.iload_n 2, 1) := by decide +kernel
theorem dX6_readLeafOrGroup_131 : decode cX6_readLeafOrGroup 131 = .ok (.iaload, 1) := by decide +kernel
theorem dX6_readLeafOrGroup_132 : decode cX6_readLeafOrGroup 132 = .ok (.iconst (-1), 1) := by decide +kernel
theorem dX6_readLeafOrGroup_133 : decode cX6_readLeafOrGroup 133 = .ok (.if_icmp .eq 7, 3) := by decide +kernel
theorem dX6_readLeafOrGroup_136 : decode cX6_readLeafOrGroup 136 = .ok (.iconst 3, 1) := by decide +kernel
theorem dX6_readLeafOrGroup_137 : decode cX6_readLeafOrGroup 137 = .ok (.goto 4, 3) := by decide +kernel
theorem dX6_readLeafOrGroup_140 : decode cX6_readLeafOrGroup 140 = .ok (.iconst 0, 1) := by decide +kernel
theorem dX6_readLeafOrGroup_141 : decode cX6_readLeafOrGroup 141 = .ok (.ireturn, 1) := by decide +kernel
theorem dX7_init_0 : decode cX7_init 0 = .ok (.aload_n 0, 1) := by decide +kernel
theorem dX7_init_1 : decode cX7_init 1 = .ok (.invokespecial 3, 3) := by decide +kernel
theorem dX7_init_4 : decode cX7_init 4 = .ok (.aload_n 0, 1) := by decide +kernel
theorem dX7_init_5 : decode cX7_init 5 = .ok (.bipush 8, 2) := by decide +kernel
theorem dX7_init_7 : decode cX7_init 7 = .ok (.anewarray 9, 3) := by decide +kernel
theorem dX7_init_10 : decode cX7_init 10 = .ok (.putfield 11, 3) := by decide +kernel
theorem dX7_init_13 : decode cX7_init 13 = .ok (.aload_n 0, 1) := by decide +kernel
theorem dX7_init_14 : decode cX7_init 14 = .ok (.bipush 40, 2) := by decide +kernel
theorem dX7_init_16 : decode cX7_init 16 = .ok (.anewarray 17, 3) := by decide +kernel
theorem dX7_init_19 : decode cX7_init 19 = .ok (.putfield 19, 3) := by decide +kernel
theorem dX7_init_22 : decode cX7_init 22 = .ok (.iconst 0, 1) := by decide +kernel
theorem dX7_init_23 : decode cX7_init 23 = .ok (.istore_n 1, 1) := by decide +kernel
theorem dX7_init_24 : decode cX7_init 24 = .ok (.iload_n 1, 1) := by decide +kernel
theorem dX7_init_25 : decode cX7_init 25 = .ok (.bipush 8, 2) := by decide +kernel
theorem dX7_init_27 : decode cX7_init 27 = .ok (.if_icmp .ge 22, 3) := by decide +kernel
theorem dX7_init_30 : decode cX7_init 30 = .ok (.aload_n 0, 1) := by decide +kernel
theorem dX7_init_31 : decode cX7_init 31 = .ok (.getfield 11, 3) := by decide +kernel
theorem dX7_init_34 : decode cX7_init 34 = .ok (.iload_n 1, 1) := by decide +kernel
theorem dX7_init_35 : decode cX7_init 35 = .ok (.new 9, 3) := by decide +kernel
theorem dX7_init_38 : decode cX7_init 38 = .ok (.dup, 1) := by decide +kernel
theorem dX7_init_39 : decode cX7_init 39 = .ok (.invokespecial 23, 3) := by decide +kernel
theorem dX7_init_42 : decode cX7_init 42 = .ok (.aastore, 1) := by decide +kernel
theorem dX7_init_43 : decode cX7_init 43 = .ok (.iinc 1 1, 3) := by decide +kernel
theorem dX7_init_46 : decode cX7_init 46 = .ok (.goto (-22), 3) := by decide +kernel
theorem dX7_init_49 : decode cX7_init 49 = .ok (.return_, 1) := by decide +kernel
theorem dX7_clear_0 : decode cX7_clear 0 = .ok (.aload_n 0, 1) := by decide +kernel
theorem dX7_clear_1 : decode cX7_clear 1 = .ok (.iconst 0, 1) := by decide +kernel
theorem dX7_clear_2 : decode cX7_clear 2 = .ok (.putfield 24, 3) := by decide +kernel
theorem dX7_clear_5 : decode cX7_clear 5 = .ok (.aload_n 0, 1) := by decide +kernel
theorem dX7_clear_6 : decode cX7_clear 6 = .ok (.iconst 0, 1) := by decide +kernel
theorem dX7_clear_7 : decode cX7_clear 7 = .ok (.putfield 28, 3) := by decide +kernel
theorem dX7_clear_10 : decode cX7_clear 10 = .ok (.iconst 0, 1) := by decide +kernel
theorem dX7_clear_11 : decode cX7_clear 11 = .ok (.istore_n 2, 1) := by decide +kernel
theorem dX7_clear_12 : decode cX7_clear 12 = .ok (.iload_n 2, 1) := by decide +kernel
theorem dX7_clear_13 : decode cX7_clear 13 = .ok (.bipush 8, 2) := by decide +kernel
theorem dX7_clear_15 : decode cX7_clear 15 = .ok (.if_icmp .ge 51, 3) := by decide +kernel
theorem dX7_clear_18 : decode cX7_clear 18 = .ok (.aload_n 0, 1) := by decide +kernel
theorem dX7_clear_19 : decode cX7_clear 19 = .ok (.getfield 11, 3) := by decide +kernel
theorem dX7_clear_22 : decode cX7_clear 22 = .ok (.iload_n 2, 1) := by decide +kernel
theorem dX7_clear_23 : decode cX7_clear 23 = .ok (.aaload, 1) := by decide +kernel
theorem dX7_clear_24 : decode cX7_clear 24 = .ok (.iconst 0, 1) := by decide +kernel
theorem dX7_clear_25 : decode cX7_clear 25 = .ok (.putfield 31, 3) := by decide +kernel
theorem dX7_clear_28 : decode cX7_clear 28 = .ok (.aload_n 0, 1) := by decide +kernel
theorem dX7_clear_29 : decode cX7_clear 29 = .ok (.getfield 11, 3) := by decide +kernel
theorem dX7_clear_32 : decode cX7_clear 32 = .ok (.iload_n 2, 1) := by decide +kernel
theorem dX7_clear_33 : decode cX7_clear 33 = .ok (.aaload, 1) := by decide +kernel
theorem dX7_clear_34 : decode cX7_clear 34 = .ok (.iload_n 2, 1) := by decide +kernel
theorem dX7_clear_35 : decode cX7_clear 35 = .ok (.aload_n 1, 1) := by decide +kernel
theorem dX7_clear_36 : decode cX7_clear 36 = .ok (.getfield 34, 3) := by decide +kernel
theorem dX7_clear_39 : decode cX7_clear 39 = .ok (.if_icmp .ge 17, 3) := by decide +kernel
theorem dX7_clear_42 : decode cX7_clear 42 = .ok (.aload_n 1, 1) := by decide +kernel
theorem dX7_clear_43 : decode cX7_clear 43 = .ok (.getfield 39, 3) := by decide +kernel
theorem dX7_clear_46 : decode cX7_clear 46 = .ok (.aload_n 1, 1) := by decide +kernel
theorem dX7_clear_47 : decode cX7_clear 47 = .ok (.getfield 43, 3) := by decide +kernel
theorem dX7_clear_50 : decode cX7_clear 50 = .ok (.iload_n 2, 1) := by decide +kernel
theorem dX7_clear_51 : decode cX7_clear 51 = .ok (.iaload, 1) := by decide +kernel
theorem dX7_clear_52 : decode cX7_clear 52 = .ok (.iaload, 1) := by decide +kernel
theorem dX7_clear_53 : decode cX7_clear 53 = .ok (.goto 4, 3) := by decide +kernel
theorem dX7_clear_56 : decode cX7_clear 56 = .ok (.iconst 0, 1) := by decide +kernel
theorem dX7_clear_57 : decode cX7_clear 57 = .ok (.putfield 46, 3) := by decide +kernel
theorem dX7_clear_60 : decode cX7_clear 60 = .ok (.iinc 2 1, 3) := by decide +kernel
theorem dX7_clear_63 : decode cX7_clear 63 = .ok (.goto (-51), 3) := by decide +kernel
theorem dX7_clear_66 : decode cX7_clear 66 = .ok (.return_, 1) := by decide +kernel
theorem dX7_copyFrom_0 : decode cX7_copyFrom 0 = .ok (.iconst 0, 1) := by decide +kernel
theorem dX7_copyFrom_1 : decode cX7_copyFrom 1 = .ok (.istore_n 2, 1) := by decide +kernel
theorem dX7_copyFrom_2 : decode cX7_copyFrom 2 = .ok (.iload_n 2, 1) := by decide +kernel
theorem dX7_copyFrom_3 : decode cX7_copyFrom 3 = .ok (.bipush 8, 2) := by decide +kernel
theorem dX7_copyFrom_5 : decode cX7_copyFrom 5 = .ok (.if_icmp .ge 24, 3) := by decide +kernel
theorem dX7_copyFrom_8 : decode cX7_copyFrom 8 = .ok (.aload_n 0, 1) := by decide +kernel
theorem dX7_copyFrom_9 : decode cX7_copyFrom 9 = .ok (.getfield 11, 3) := by decide +kernel
theorem dX7_copyFrom_12 : decode cX7_copyFrom 12 = .ok (.iload_n 2, 1) := by decide +kernel
theorem dX7_copyFrom_13 : decode cX7_copyFrom 13 = .ok (.aaload, 1) := by decide +kernel
theorem dX7_copyFrom_14 : decode cX7_copyFrom 14 = .ok (.aload_n 1, 1) := by decide +kernel
theorem dX7_copyFrom_15 : decode cX7_copyFrom 15 = .ok (.getfield 11, 3) := by decide +kernel
theorem dX7_copyFrom_18 : decode cX7_copyFrom 18 = .ok (.iload_n 2, 1) := by decide +kernel
theorem dX7_copyFrom_19 : decode cX7_copyFrom 19 = .ok (.aaload, 1) := by decide +kernel
theorem dX7_copyFrom_20 : decode cX7_copyFrom 20 = .ok (.invokevirtual 49, 3) := by decide +kernel
theorem dX7_copyFrom_23 : decode cX7_copyFrom 23 = .ok (.iinc 2 1, 3) := by decide +kernel
theorem dX7_copyFrom_26 : decode cX7_copyFrom 26 = .ok (.goto (-24), 3) := by decide +kernel
theorem dX7_copyFrom_29 : decode cX7_copyFrom 29 = .ok (.aload_n 0, 1) := by decide +kernel
theorem dX7_copyFrom_30 : decode cX7_copyFrom 30 = .ok (.aload_n 1, 1) := by decide +kernel
theorem dX7_copyFrom_31 : decode cX7_copyFrom 31 = .ok (.getfield 24, 3) := by decide +kernel
theorem dX7_copyFrom_34 : decode cX7_copyFrom 34 = .ok (.putfield 24, 3) := by decide +kernel
theorem dX7_copyFrom_37 : decode cX7_copyFrom 37 = .ok (.aload_n 1, 1) := by decide +kernel
theorem dX7_copyFrom_38 : decode cX7_copyFrom 38 = .ok (.getfield 19, 3) := by decide +kernel
theorem dX7_copyFrom_41 : decode cX7_copyFrom 41 = .ok (.iconst 0, 1) := by decide +kernel
theorem dX7_copyFrom_42 : decode cX7_copyFrom 42 = .ok (.aload_n 0, 1) := by decide +kernel
theorem dX7_copyFrom_43 : decode cX7_copyFrom 43 = .ok (.getfield 19, 3) := by decide +kernel
theorem dX7_copyFrom_46 : decode cX7_copyFrom 46 = .ok (.iconst 0, 1) := by decide +kernel
theorem dX7_copyFrom_47 : decode cX7_copyFrom 47 = .ok (.aload_n 1, 1) := by decide +kernel
theorem dX7_copyFrom_48 : decode cX7_copyFrom 48 = .ok (.getfield 28, 3) := by decide +kernel
theorem dX7_copyFrom_51 : decode cX7_copyFrom 51 = .ok (.invokestatic 53, 3) := by decide +kernel
theorem dX7_copyFrom_54 : decode cX7_copyFrom 54 = .ok (.aload_n 0, 1) := by decide +kernel
theorem dX7_copyFrom_55 : decode cX7_copyFrom 55 = .ok (.aload_n 1, 1) := by decide +kernel
theorem dX7_copyFrom_56 : decode cX7_copyFrom 56 = .ok (.getfield 28, 3) := by decide +kernel
theorem dX7_copyFrom_59 : decode cX7_copyFrom 59 = .ok (.putfield 28, 3) := by decide +kernel
theorem dX7_copyFrom_62 : decode cX7_copyFrom 62 = .ok (.aload_n 0, 1) := by decide +kernel
theorem dX7_copyFrom_63 : decode cX7_copyFrom 63 = .ok (.aload_n 1, 1) := by decide +kernel
theorem dX7_copyFrom_64 : decode cX7_copyFrom 64 = .ok (.getfield 59, 3) := by decide +kernel
theorem dX7_copyFrom_67 : decode cX7_copyFrom 67 = .ok (.putfield 59, 3) := by decide +kernel
theorem dX7_copyFrom_70 : decode cX7_copyFrom 70 = .ok (.aload_n 0, 1) := by decide +kernel
theorem dX7_copyFrom_71 : decode cX7_copyFrom 71 = .ok (.aload_n 1, 1) := by decide +kernel
theorem dX7_copyFrom_72 : decode cX7_copyFrom 72 = .ok (.getfield 62, 3) := by decide +kernel
theorem dX7_copyFrom_75 : decode cX7_copyFrom 75 = .ok (.putfield 62, 3) := by decide +kernel
theorem dX7_copyFrom_78 : decode cX7_copyFrom 78 = .ok (.return_, 1) := by decide +kernel
theorem dX7_entriesOfAll_0 : decode cX7_entriesOfAll 0 = .ok (.iconst 0, 1) := by decide +kernel
theorem dX7_entriesOfAll_1 : decode cX7_entriesOfAll 1 = .ok (.istore_n 2, 1) := by decide +kernel
theorem dX7_entriesOfAll_2 : decode cX7_entriesOfAll 2 = .ok (.iconst 0, 1) := by decide +kernel
theorem dX7_entriesOfAll_3 : decode cX7_entriesOfAll 3 = .ok (.istore_n 3, 1) := by decide +kernel
theorem dX7_entriesOfAll_4 : decode cX7_entriesOfAll 4 = .ok (.iload_n 3, 1) := by decide +kernel
theorem dX7_entriesOfAll_5 : decode cX7_entriesOfAll 5 = .ok (.iload_n 1, 1) := by decide +kernel
theorem dX7_entriesOfAll_6 : decode cX7_entriesOfAll 6 = .ok (.if_icmp .ge 21, 3) := by decide +kernel
theorem dX7_entriesOfAll_9 : decode cX7_entriesOfAll 9 = .ok (.iload_n 2, 1) := by decide +kernel
theorem dX7_entriesOfAll_10 : decode cX7_entriesOfAll 10 = .ok (.aload_n 0, 1) := by decide +kernel
theorem dX7_entriesOfAll_11 : decode cX7_entriesOfAll 11 = .ok (.getfield 11, 3) := by decide +kernel
theorem dX7_entriesOfAll_14 : decode cX7_entriesOfAll 14 = .ok (.iload_n 3, 1) := by decide +kernel
theorem dX7_entriesOfAll_15 : decode cX7_entriesOfAll 15 = .ok (.aaload, 1) := by decide +kernel
theorem dX7_entriesOfAll_16 : decode cX7_entriesOfAll 16 = .ok (.getfield 31, 3) := by decide +kernel
theorem dX7_entriesOfAll_19 : decode cX7_entriesOfAll 19 = .ok (.iadd, 1) := by decide +kernel
theorem dX7_entriesOfAll_20 : decode cX7_entriesOfAll 20 = .ok (.istore_n 2, 1) := by decide +kernel
theorem dX7_entriesOfAll_21 : decode cX7_entriesOfAll 21 = .ok (.iinc 3 1, 3) := by decide +kernel
theorem dX7_entriesOfAll_24 : decode cX7_entriesOfAll 24 = .ok (.goto (-20), 3) := by decide +kernel
theorem dX7_entriesOfAll_27 : decode cX7_entriesOfAll 27 = .ok (.iload_n 2, 1) := by decide +kernel
theorem dX7_entriesOfAll_28 : decode cX7_entriesOfAll 28 = .ok (.ireturn, 1) := by decide +kernel
theorem dX7_keep_0 : decode cX7_keep 0 = .ok (.aload_n 0, 1) := by decide +kernel
theorem dX7_keep_1 : decode cX7_keep 1 = .ok (.getfield 28, 3) := by decide +kernel
theorem dX7_keep_4 : decode cX7_keep 4 = .ok (.bipush 40, 2) := by decide +kernel
theorem dX7_keep_6 : decode cX7_keep 6 = .ok (.if_icmp .lt 24, 3) := by decide +kernel
theorem dX7_keep_9 : decode cX7_keep 9 = .ok (.aload_n 0, 1) := by decide +kernel
theorem dX7_keep_10 : decode cX7_keep 10 = .ok (.getfield 19, 3) := by decide +kernel
theorem dX7_keep_13 : decode cX7_keep 13 = .ok (.iconst 1, 1) := by decide +kernel
theorem dX7_keep_14 : decode cX7_keep 14 = .ok (.aload_n 0, 1) := by decide +kernel
theorem dX7_keep_15 : decode cX7_keep 15 = .ok (.getfield 19, 3) := by decide +kernel
theorem dX7_keep_18 : decode cX7_keep 18 = .ok (.iconst 0, 1) := by decide +kernel
theorem dX7_keep_19 : decode cX7_keep 19 = .ok (.bipush 39, 2) := by decide +kernel
theorem dX7_keep_21 : decode cX7_keep 21 = .ok (.invokestatic 53, 3) := by decide +kernel
theorem dX7_keep_24 : decode cX7_keep 24 = .ok (.aload_n 0, 1) := by decide +kernel
theorem dX7_keep_25 : decode cX7_keep 25 = .ok (.bipush 39, 2) := by decide +kernel
theorem dX7_keep_27 : decode cX7_keep 27 = .ok (.putfield 28, 3) := by decide +kernel
theorem dX7_keep_30 : decode cX7_keep 30 = .ok (.aload_n 0, 1) := by decide +kernel
theorem dX7_keep_31 : decode cX7_keep 31 = .ok (.getfield 19, 3) := by decide +kernel
theorem dX7_keep_34 : decode cX7_keep 34 = .ok (.aload_n 0, 1) := by decide +kernel
theorem dX7_keep_35 : decode cX7_keep 35 = .ok (.getfield 28, 3) := by decide +kernel
theorem dX7_keep_38 : decode cX7_keep 38 = .ok (.aload_n 1, 1) := by decide +kernel
theorem dX7_keep_39 : decode cX7_keep 39 = .ok (.aastore, 1) := by decide +kernel
theorem dX7_keep_40 : decode cX7_keep 40 = .ok (.aload_n 0, 1) := by decide +kernel
theorem dX7_keep_41 : decode cX7_keep 41 = .ok (.dup, 1) := by decide +kernel
theorem dX7_keep_42 : decode cX7_keep 42 = .ok (.getfield 28, 3) := by decide +kernel
theorem dX7_keep_45 : decode cX7_keep 45 = .ok (.iconst 1, 1) := by decide +kernel
theorem dX7_keep_46 : decode cX7_keep 46 = .ok (.iadd, 1) := by decide +kernel
theorem dX7_keep_47 : decode cX7_keep 47 = .ok (.putfield 28, 3) := by decide +kernel
theorem dX7_keep_50 : decode cX7_keep 50 = .ok (.return_, 1) := by decide +kernel
theorem dX7_addStaged_0 : decode cX7_addStaged 0 = .ok (.aload_n 0, 1) := by decide +kernel
theorem dX7_addStaged_1 : decode cX7_addStaged 1 = .ok (.new 17, 3) := by decide +kernel
theorem dX7_addStaged_4 : decode cX7_addStaged 4 = .ok (.dup, 1) := by decide +kernel
theorem dX7_addStaged_5 : decode cX7_addStaged 5 = .ok (.iconst 0, 1) := by decide +kernel
theorem dX7_addStaged_6 : decode cX7_addStaged 6 = .ok (.iconst 0, 1) := by decide +kernel
theorem dX7_addStaged_7 : decode cX7_addStaged 7 = .ok (.iconst 0, 1) := by decide +kernel
theorem dX7_addStaged_8 : decode cX7_addStaged 8 = .ok (.iload_n 1, 1) := by decide +kernel
theorem dX7_addStaged_9 : decode cX7_addStaged 9 = .ok (.aload_n 0, 1) := by decide +kernel
theorem dX7_addStaged_10 : decode cX7_addStaged 10 = .ok (.getfield 24, 3) := by decide +kernel
theorem dX7_addStaged_13 : decode cX7_addStaged 13 = .ok (.isub, 1) := by decide +kernel
theorem dX7_addStaged_14 : decode cX7_addStaged 14 = .ok (.aconst_null, 1) := by decide +kernel
theorem dX7_addStaged_15 : decode cX7_addStaged 15 = .ok (.invokespecial 65, 3) := by decide +kernel
theorem dX7_addStaged_18 : decode cX7_addStaged 18 = .ok (.invokevirtual 68, 3) := by decide +kernel
theorem dX7_addStaged_21 : decode cX7_addStaged 21 = .ok (.aload_n 0, 1) := by decide +kernel
theorem dX7_addStaged_22 : decode cX7_addStaged 22 = .ok (.iload_n 1, 1) := by decide +kernel
theorem dX7_addStaged_23 : decode cX7_addStaged 23 = .ok (.putfield 24, 3) := by decide +kernel
theorem dX7_addStaged_26 : decode cX7_addStaged 26 = .ok (.iconst 0, 1) := by decide +kernel
theorem dX7_addStaged_27 : decode cX7_addStaged 27 = .ok (.istore 4, 2) := by decide +kernel
theorem dX7_addStaged_29 : decode cX7_addStaged 29 = .ok (.iload 4, 2) := by decide +kernel
theorem dX7_addStaged_31 : decode cX7_addStaged 31 = .ok (.iload_n 3, 1) := by decide +kernel
theorem dX7_addStaged_32 : decode cX7_addStaged 32 = .ok (.if_icmp .ge 23, 3) := by decide +kernel
theorem dX7_addStaged_35 : decode cX7_addStaged 35 = .ok (.aload_n 0, 1) := by decide +kernel
theorem dX7_addStaged_36 : decode cX7_addStaged 36 = .ok (.getfield 11, 3) := by decide +kernel
theorem dX7_addStaged_39 : decode cX7_addStaged 39 = .ok (.iload 4, 2) := by decide +kernel
theorem dX7_addStaged_41 : decode cX7_addStaged 41 = .ok (.aaload, 1) := by decide +kernel
theorem dX7_addStaged_42 : decode cX7_addStaged 42 = .ok (.aload_n 2, 1) := by decide +kernel
theorem dX7_addStaged_43 : decode cX7_addStaged 43 = .ok (.iload 4, 2) := by decide +kernel
theorem dX7_addStaged_45 : decode cX7_addStaged 45 = .ok (.iaload, 1) := by decide +kernel
theorem dX7_addStaged_46 : decode cX7_addStaged 46 = .ok (.putfield 31, 3) := by decide +kernel
theorem dX7_addStaged_49 : decode cX7_addStaged 49 = .ok (.iinc 4 1, 3) := by decide +kernel
theorem dX7_addStaged_52 : decode cX7_addStaged 52 = .ok (.goto (-23), 3) := by decide +kernel
theorem dX7_addStaged_55 : decode cX7_addStaged 55 = .ok (.return_, 1) := by decide +kernel
theorem dX7_tailRow_0 : decode cX7_tailRow 0 = .ok (.iload_n 1, 1) := by decide +kernel
theorem dX7_tailRow_1 : decode cX7_tailRow 1 = .ok (.istore_n 2, 1) := by decide +kernel
theorem dX7_tailRow_2 : decode cX7_tailRow 2 = .ok (.iconst 0, 1) := by decide +kernel
theorem dX7_tailRow_3 : decode cX7_tailRow 3 = .ok (.istore_n 3, 1) := by decide +kernel
theorem dX7_tailRow_4 : decode cX7_tailRow 4 = .ok (.iload_n 3, 1) := by decide +kernel
theorem dX7_tailRow_5 : decode cX7_tailRow 5 = .ok (.iload_n 1, 1) := by decide +kernel
theorem dX7_tailRow_6 : decode cX7_tailRow 6 = .ok (.if_icmp .ge 27, 3) := by decide +kernel
theorem dX7_tailRow_9 : decode cX7_tailRow 9 = .ok (.iload_n 2, 1) := by decide +kernel
theorem dX7_tailRow_10 : decode cX7_tailRow 10 = .ok (.aload_n 0, 1) := by decide +kernel
theorem dX7_tailRow_11 : decode cX7_tailRow 11 = .ok (.getfield 11, 3) := by decide +kernel
theorem dX7_tailRow_14 : decode cX7_tailRow 14 = .ok (.iload_n 3, 1) := by decide +kernel
theorem dX7_tailRow_15 : decode cX7_tailRow 15 = .ok (.aaload, 1) := by decide +kernel
theorem dX7_tailRow_16 : decode cX7_tailRow 16 = .ok (.getfield 31, 3) := by decide +kernel
theorem dX7_tailRow_19 : decode cX7_tailRow 19 = .ok (.aload_n 0, 1) := by decide +kernel
theorem dX7_tailRow_20 : decode cX7_tailRow 20 = .ok (.iload_n 3, 1) := by decide +kernel
theorem dX7_tailRow_21 : decode cX7_tailRow 21 = .ok (.invokevirtual 72, 3) := by decide +kernel
theorem dX7_tailRow_24 : decode cX7_tailRow 24 = .ok (.isub, 1) := by decide +kernel
theorem dX7_tailRow_25 : decode cX7_tailRow 25 = .ok (.iadd, 1) := by decide +kernel
theorem dX7_tailRow_26 : decode cX7_tailRow 26 = .ok (.istore_n 2, 1) := by decide +kernel
theorem dX7_tailRow_27 : decode cX7_tailRow 27 = .ok (.iinc 3 1, 3) := by decide +kernel
theorem dX7_tailRow_30 : decode cX7_tailRow 30 = .ok (.goto (-26), 3) := by decide +kernel
theorem dX7_tailRow_33 : decode cX7_tailRow 33 = .ok (.iload_n 2, 1) := by decide +kernel
theorem dX7_tailRow_34 : decode cX7_tailRow 34 = .ok (.newarray .int, 2) := by decide +kernel
theorem dX7_tailRow_36 : decode cX7_tailRow 36 = .ok (.astore_n 3, 1) := by decide +kernel
theorem dX7_tailRow_37 : decode cX7_tailRow 37 = .ok (.iconst 0, 1) := by decide +kernel
theorem dX7_tailRow_38 : decode cX7_tailRow 38 = .ok (.istore 4, 2) := by decide +kernel
theorem dX7_tailRow_40 : decode cX7_tailRow 40 = .ok (.iconst 0, 1) := by decide +kernel
theorem dX7_tailRow_41 : decode cX7_tailRow 41 = .ok (.istore 5, 2) := by decide +kernel
theorem dX7_tailRow_43 : decode cX7_tailRow 43 = .ok (.iload 5, 2) := by decide +kernel
theorem dX7_tailRow_45 : decode cX7_tailRow 45 = .ok (.iload_n 1, 1) := by decide +kernel
theorem dX7_tailRow_46 : decode cX7_tailRow 46 = .ok (.if_icmp .ge 75, 3) := by decide +kernel
theorem dX7_tailRow_49 : decode cX7_tailRow 49 = .ok (.aload_n 0, 1) := by decide +kernel
theorem dX7_tailRow_50 : decode cX7_tailRow 50 = .ok (.getfield 11, 3) := by decide +kernel
theorem dX7_tailRow_53 : decode cX7_tailRow 53 = .ok (.iload 5, 2) := by decide +kernel
theorem dX7_tailRow_55 : decode cX7_tailRow 55 = .ok (.aaload, 1) := by decide +kernel
theorem dX7_tailRow_56 : decode cX7_tailRow 56 = .ok (.astore 6, 2) := by decide +kernel
theorem dX7_tailRow_58 : decode cX7_tailRow 58 = .ok (.aload_n 0, 1) := by decide +kernel
theorem dX7_tailRow_59 : decode cX7_tailRow 59 = .ok (.iload 5, 2) := by decide +kernel
theorem dX7_tailRow_61 : decode cX7_tailRow 61 = .ok (.invokevirtual 72, 3) := by decide +kernel
theorem dX7_tailRow_64 : decode cX7_tailRow 64 = .ok (.istore 7, 2) := by decide +kernel
theorem dX7_tailRow_66 : decode cX7_tailRow 66 = .ok (.aload_n 3, 1) := by decide +kernel
theorem dX7_tailRow_67 : decode cX7_tailRow 67 = .ok (.iload 4, 2) := by decide +kernel
theorem dX7_tailRow_69 : decode cX7_tailRow 69 = .ok (.aload 6, 2) := by decide +kernel
theorem dX7_tailRow_71 : decode cX7_tailRow 71 = .ok (.getfield 31, 3) := by decide +kernel
theorem dX7_tailRow_74 : decode cX7_tailRow 74 = .ok (.iload 7, 2) := by decide +kernel
theorem dX7_tailRow_76 : decode cX7_tailRow 76 = .ok (.isub, 1) := by decide +kernel
theorem dX7_tailRow_77 : decode cX7_tailRow 77 = .ok (.iastore, 1) := by decide +kernel
theorem dX7_tailRow_78 : decode cX7_tailRow 78 = .ok (.iinc 4 1, 3) := by decide +kernel
theorem dX7_tailRow_81 : decode cX7_tailRow 81 = .ok (.iload 7, 2) := by decide +kernel
theorem dX7_tailRow_83 : decode cX7_tailRow 83 = .ok (.istore 8, 2) := by decide +kernel
theorem dX7_tailRow_85 : decode cX7_tailRow 85 = .ok (.iload 8, 2) := by decide +kernel
theorem dX7_tailRow_87 : decode cX7_tailRow 87 = .ok (.aload 6, 2) := by decide +kernel
theorem dX7_tailRow_89 : decode cX7_tailRow 89 = .ok (.getfield 31, 3) := by decide +kernel
theorem dX7_tailRow_92 : decode cX7_tailRow 92 = .ok (.if_icmp .ge 23, 3) := by decide +kernel
theorem dX7_tailRow_95 : decode cX7_tailRow 95 = .ok (.aload_n 3, 1) := by decide +kernel
theorem dX7_tailRow_96 : decode cX7_tailRow 96 = .ok (.iload 4, 2) := by decide +kernel
theorem dX7_tailRow_98 : decode cX7_tailRow 98 = .ok (.aload 6, 2) := by decide +kernel
theorem dX7_tailRow_100 : decode cX7_tailRow 100 = .ok (.iload 8, 2) := by decide +kernel
theorem dX7_tailRow_102 : decode cX7_tailRow 102 = .ok (.invokevirtual 76, 3) := by decide +kernel
theorem dX7_tailRow_105 : decode cX7_tailRow 105 = .ok (.iastore, 1) := by decide +kernel
theorem dX7_tailRow_106 : decode cX7_tailRow 106 = .ok (.iinc 4 1, 3) := by decide +kernel
theorem dX7_tailRow_109 : decode cX7_tailRow 109 = .ok (.iinc 8 1, 3) := by decide +kernel
theorem dX7_tailRow_112 : decode cX7_tailRow 112 = .ok (.goto (-27), 3) := by decide +kernel
theorem dX7_tailRow_115 : decode cX7_tailRow 115 = .ok (.iinc 5 1, 3) := by decide +kernel
theorem dX7_tailRow_118 : decode cX7_tailRow 118 = .ok (.goto (-75), 3) := by decide +kernel
theorem dX7_tailRow_121 : decode cX7_tailRow 121 = .ok (.aload_n 3, 1) := by decide +kernel
theorem dX7_tailRow_122 : decode cX7_tailRow 122 = .ok (.areturn, 1) := by decide +kernel
theorem dX7_lastFirst_0 : decode cX7_lastFirst 0 = .ok (.aload_n 0, 1) := by decide +kernel
theorem dX7_lastFirst_1 : decode cX7_lastFirst 1 = .ok (.getfield 11, 3) := by decide +kernel
theorem dX7_lastFirst_4 : decode cX7_lastFirst 4 = .ok (.iload_n 1, 1) := by decide +kernel
theorem dX7_lastFirst_5 : decode cX7_lastFirst 5 = .ok (.aaload, 1) := by decide +kernel
theorem dX7_lastFirst_6 : decode cX7_lastFirst 6 = .ok (.aload_n 0, 1) := by decide +kernel
theorem dX7_lastFirst_7 : decode cX7_lastFirst 7 = .ok (.getfield 24, 3) := by decide +kernel
theorem dX7_lastFirst_10 : decode cX7_lastFirst 10 = .ok (.iconst 1, 1) := by decide +kernel
theorem dX7_lastFirst_11 : decode cX7_lastFirst 11 = .ok (.isub, 1) := by decide +kernel
theorem dX7_lastFirst_12 : decode cX7_lastFirst 12 = .ok (.invokevirtual 79, 3) := by decide +kernel
theorem dX7_lastFirst_15 : decode cX7_lastFirst 15 = .ok (.istore_n 2, 1) := by decide +kernel
theorem dX7_lastFirst_16 : decode cX7_lastFirst 16 = .ok (.iload_n 2, 1) := by decide +kernel
theorem dX7_lastFirst_17 : decode cX7_lastFirst 17 = .ok (.iconst (-1), 1) := by decide +kernel
theorem dX7_lastFirst_18 : decode cX7_lastFirst 18 = .ok (.if_icmp .ne 15, 3) := by decide +kernel
theorem dX7_lastFirst_21 : decode cX7_lastFirst 21 = .ok (.aload_n 0, 1) := by decide +kernel
theorem dX7_lastFirst_22 : decode cX7_lastFirst 22 = .ok (.getfield 11, 3) := by decide +kernel
theorem dX7_lastFirst_25 : decode cX7_lastFirst 25 = .ok (.iload_n 1, 1) := by decide +kernel
theorem dX7_lastFirst_26 : decode cX7_lastFirst 26 = .ok (.aaload, 1) := by decide +kernel
theorem dX7_lastFirst_27 : decode cX7_lastFirst 27 = .ok (.getfield 31, 3) := by decide +kernel
theorem dX7_lastFirst_30 : decode cX7_lastFirst 30 = .ok (.goto 4, 3) := by decide +kernel
theorem dX7_lastFirst_33 : decode cX7_lastFirst 33 = .ok (.iload_n 2, 1) := by decide +kernel
theorem dX7_lastFirst_34 : decode cX7_lastFirst 34 = .ok (.ireturn, 1) := by decide +kernel
theorem dX7_cutLastRecord_0 : decode cX7_cutLastRecord 0 = .ok (.iconst 0, 1) := by decide +kernel
theorem dX7_cutLastRecord_1 : decode cX7_cutLastRecord 1 = .ok (.istore_n 2, 1) := by decide +kernel
theorem dX7_cutLastRecord_2 : decode cX7_cutLastRecord 2 = .ok (.iload_n 2, 1) := by decide +kernel
theorem dX7_cutLastRecord_3 : decode cX7_cutLastRecord 3 = .ok (.iload_n 1, 1) := by decide +kernel
theorem dX7_cutLastRecord_4 : decode cX7_cutLastRecord 4 = .ok (.if_icmp .ge 23, 3) := by decide +kernel
theorem dX7_cutLastRecord_7 : decode cX7_cutLastRecord 7 = .ok (.aload_n 0, 1) := by decide +kernel
theorem dX7_cutLastRecord_8 : decode cX7_cutLastRecord 8 = .ok (.getfield 11, 3) := by decide +kernel
theorem dX7_cutLastRecord_11 : decode cX7_cutLastRecord 11 = .ok (.iload_n 2, 1) := by decide +kernel
theorem dX7_cutLastRecord_12 : decode cX7_cutLastRecord 12 = .ok (.aaload, 1) := by decide +kernel
theorem dX7_cutLastRecord_13 : decode cX7_cutLastRecord 13 = .ok (.aload_n 0, 1) := by decide +kernel
theorem dX7_cutLastRecord_14 : decode cX7_cutLastRecord 14 = .ok (.iload_n 2, 1) := by decide +kernel
theorem dX7_cutLastRecord_15 : decode cX7_cutLastRecord 15 = .ok (.invokevirtual 72, 3) := by decide +kernel
theorem dX7_cutLastRecord_18 : decode cX7_cutLastRecord 18 = .ok (.putfield 31, 3) := by decide +kernel
theorem dX7_cutLastRecord_21 : decode cX7_cutLastRecord 21 = .ok (.iinc 2 1, 3) := by decide +kernel
theorem dX7_cutLastRecord_24 : decode cX7_cutLastRecord 24 = .ok (.goto (-22), 3) := by decide +kernel
theorem dX7_cutLastRecord_27 : decode cX7_cutLastRecord 27 = .ok (.aload_n 0, 1) := by decide +kernel
theorem dX7_cutLastRecord_28 : decode cX7_cutLastRecord 28 = .ok (.dup, 1) := by decide +kernel
theorem dX7_cutLastRecord_29 : decode cX7_cutLastRecord 29 = .ok (.getfield 24, 3) := by decide +kernel
theorem dX7_cutLastRecord_32 : decode cX7_cutLastRecord 32 = .ok (.iconst 1, 1) := by decide +kernel
theorem dX7_cutLastRecord_33 : decode cX7_cutLastRecord 33 = .ok (.isub, 1) := by decide +kernel
theorem dX7_cutLastRecord_34 : decode cX7_cutLastRecord 34 = .ok (.putfield 24, 3) := by decide +kernel
theorem dX7_cutLastRecord_37 : decode cX7_cutLastRecord 37 = .ok (.return_, 1) := by decide +kernel
theorem dX7_bringBack_0 : decode cX7_bringBack 0 = .ok (.iconst 0, 1) := by decide +kernel
theorem dX7_bringBack_1 : decode cX7_bringBack 1 = .ok (.istore_n 3, 1) := by decide +kernel
theorem dX7_bringBack_2 : decode cX7_bringBack 2 = .ok (.iconst 0, 1) := by decide +kernel
theorem dX7_bringBack_3 : decode cX7_bringBack 3 = .ok (.istore 4, 2) := by decide +kernel
theorem dX7_bringBack_5 : decode cX7_bringBack 5 = .ok (.iload 4, 2) := by decide +kernel
theorem dX7_bringBack_7 : decode cX7_bringBack 7 = .ok (.iload_n 2, 1) := by decide +kernel
theorem dX7_bringBack_8 : decode cX7_bringBack 8 = .ok (.if_icmp .ge 87, 3) := by decide +kernel
theorem dX7_bringBack_11 : decode cX7_bringBack 11 = .ok (.iload_n 3, 1) := by decide +kernel
theorem dX7_bringBack_12 : decode cX7_bringBack 12 = .ok (.aload_n 1, 1) := by decide +kernel
theorem dX7_bringBack_13 : decode cX7_bringBack 13 = .ok (.arraylength, 1) := by decide +kernel
theorem dX7_bringBack_14 : decode cX7_bringBack 14 = .ok (.if_icmp .ge 81, 3) := by decide +kernel
theorem dX7_bringBack_17 : decode cX7_bringBack 17 = .ok (.aload_n 0, 1) := by decide +kernel
theorem dX7_bringBack_18 : decode cX7_bringBack 18 = .ok (.getfield 11, 3) := by decide +kernel
theorem dX7_bringBack_21 : decode cX7_bringBack 21 = .ok (.iload 4, 2) := by decide +kernel
theorem dX7_bringBack_23 : decode cX7_bringBack 23 = .ok (.aaload, 1) := by decide +kernel
theorem dX7_bringBack_24 : decode cX7_bringBack 24 = .ok (.astore 5, 2) := by decide +kernel
theorem dX7_bringBack_26 : decode cX7_bringBack 26 = .ok (.iload_n 3, 1) := by decide +kernel
theorem dX7_bringBack_27 : decode cX7_bringBack 27 = .ok (.aload_n 1, 1) := by decide +kernel
theorem dX7_bringBack_28 : decode cX7_bringBack 28 = .ok (.iload_n 3, 1) := by decide +kernel
theorem dX7_bringBack_29 : decode cX7_bringBack 29 = .ok (.iaload, 1) := by decide +kernel
theorem dX7_bringBack_30 : decode cX7_bringBack 30 = .ok (.iadd, 1) := by decide +kernel
theorem dX7_bringBack_31 : decode cX7_bringBack 31 = .ok (.istore 6, 2) := by decide +kernel
theorem dX7_bringBack_33 : decode cX7_bringBack 33 = .ok (.iload_n 3, 1) := by decide +kernel
theorem dX7_bringBack_34 : decode cX7_bringBack 34 = .ok (.iconst 1, 1) := by decide +kernel
theorem dX7_bringBack_35 : decode cX7_bringBack 35 = .ok (.iadd, 1) := by decide +kernel
theorem dX7_bringBack_36 : decode cX7_bringBack 36 = .ok (.istore_n 3, 1) := by decide +kernel
theorem dX7_bringBack_37 : decode cX7_bringBack 37 = .ok (.iload_n 3, 1) := by decide +kernel
theorem dX7_bringBack_38 : decode cX7_bringBack 38 = .ok (.iload 6, 2) := by decide +kernel
theorem dX7_bringBack_40 : decode cX7_bringBack 40 = .ok (.if_icmp .gt 49, 3) := by decide +kernel
theorem dX7_bringBack_43 : decode cX7_bringBack 43 = .ok (.iload_n 3, 1) := by decide +kernel
theorem dX7_bringBack_44 : decode cX7_bringBack 44 = .ok (.aload_n 1, 1) := by decide +kernel
theorem dX7_bringBack_45 : decode cX7_bringBack 45 = .ok (.arraylength, 1) := by decide +kernel
theorem dX7_bringBack_46 : decode cX7_bringBack 46 = .ok (.if_icmp .ge 43, 3) := by decide +kernel
theorem dX7_bringBack_49 : decode cX7_bringBack 49 = .ok (.aload 5, 2) := by decide +kernel
theorem dX7_bringBack_51 : decode cX7_bringBack 51 = .ok (.getfield 31, 3) := by decide +kernel
theorem dX7_bringBack_54 : decode cX7_bringBack 54 = .ok (.bipush 120, 2) := by decide +kernel
theorem dX7_bringBack_56 : decode cX7_bringBack 56 = .ok (.if_icmp .ge 33, 3) := by decide +kernel
theorem dX7_bringBack_59 : decode cX7_bringBack 59 = .ok (.aload 5, 2) := by decide +kernel
theorem dX7_bringBack_61 : decode cX7_bringBack 61 = .ok (.aload 5, 2) := by decide +kernel
theorem dX7_bringBack_63 : decode cX7_bringBack 63 = .ok (.getfield 31, 3) := by decide +kernel
theorem dX7_bringBack_66 : decode cX7_bringBack 66 = .ok (.aload_n 1, 1) := by decide +kernel
theorem dX7_bringBack_67 : decode cX7_bringBack 67 = .ok (.iload_n 3, 1) := by decide +kernel
theorem dX7_bringBack_68 : decode cX7_bringBack 68 = .ok (.iaload, 1) := by decide +kernel
theorem dX7_bringBack_69 : decode cX7_bringBack 69 = .ok (.invokevirtual 82, 3) := by decide +kernel
theorem dX7_bringBack_72 : decode cX7_bringBack 72 = .ok (.aload 5, 2) := by decide +kernel
theorem dX7_bringBack_74 : decode cX7_bringBack 74 = .ok (.dup, 1) := by decide +kernel
theorem dX7_bringBack_75 : decode cX7_bringBack 75 = .ok (.getfield 31, 3) := by decide +kernel
theorem dX7_bringBack_78 : decode cX7_bringBack 78 = .ok (.iconst 1, 1) := by decide +kernel
theorem dX7_bringBack_79 : decode cX7_bringBack 79 = .ok (.iadd, 1) := by decide +kernel
theorem dX7_bringBack_80 : decode cX7_bringBack 80 = .ok (.putfield 31, 3) := by decide +kernel
theorem dX7_bringBack_83 : decode cX7_bringBack 83 = .ok (.iinc 3 1, 3) := by decide +kernel
theorem dX7_bringBack_86 : decode cX7_bringBack 86 = .ok (.goto (-49), 3) := by decide +kernel
theorem dX7_bringBack_89 : decode cX7_bringBack 89 = .ok (.iinc 4 1, 3) := by decide +kernel
theorem dX7_bringBack_92 : decode cX7_bringBack 92 = .ok (.goto (-87), 3) := by decide +kernel
theorem dX7_bringBack_95 : decode cX7_bringBack 95 = .ok (.aload_n 0, 1) := by decide +kernel
theorem dX7_bringBack_96 : decode cX7_bringBack 96 = .ok (.dup, 1) := by decide +kernel
theorem dX7_bringBack_97 : decode cX7_bringBack 97 = .ok (.getfield 24, 3) := by decide +kernel
theorem dX7_bringBack_100 : decode cX7_bringBack 100 = .ok (.iconst 1, 1) := by decide +kernel
theorem dX7_bringBack_101 : decode cX7_bringBack 101 = .ok (.iadd, 1) := by decide +kernel
theorem dX7_bringBack_102 : decode cX7_bringBack 102 = .ok (.putfield 24, 3) := by decide +kernel
theorem dX7_bringBack_105 : decode cX7_bringBack 105 = .ok (.return_, 1) := by decide +kernel
