theorem dX0_init_0 : decode cX0_init 0 = .ok (.aload_n 0, 1) := by decide +kernel
theorem dX0_init_1 : decode cX0_init 1 = .ok (.invokespecial 1, 3) := by decide +kernel
theorem dX0_init_4 : decode cX0_init 4 = .ok (.aload_n 0, 1) := by decide +kernel
theorem dX0_init_5 : decode cX0_init 5 = .ok (.iload_n 1, 1) := by decide +kernel
theorem dX0_init_6 : decode cX0_init 6 = .ok (.putfield 7, 3) := by decide +kernel
theorem dX0_init_9 : decode cX0_init 9 = .ok (.aload_n 0, 1) := by decide +kernel
theorem dX0_init_10 : decode cX0_init 10 = .ok (.iload_n 2, 1) := by decide +kernel
theorem dX0_init_11 : decode cX0_init 11 = .ok (.putfield 13, 3) := by decide +kernel
theorem dX0_init_14 : decode cX0_init 14 = .ok (.aload_n 0, 1) := by decide +kernel
theorem dX0_init_15 : decode cX0_init 15 = .ok (.iload_n 3, 1) := by decide +kernel
theorem dX0_init_16 : decode cX0_init 16 = .ok (.putfield 16, 3) := by decide +kernel
theorem dX0_init_19 : decode cX0_init 19 = .ok (.aload_n 0, 1) := by decide +kernel
theorem dX0_init_20 : decode cX0_init 20 = .ok (.iload 4, 2) := by decide +kernel
theorem dX0_init_22 : decode cX0_init 22 = .ok (.putfield 19, 3) := by decide +kernel
theorem dX0_init_25 : decode cX0_init 25 = .ok (.aload_n 0, 1) := by decide +kernel
theorem dX0_init_26 : decode cX0_init 26 = .ok (.aload 5, 2) := by decide +kernel
theorem dX0_init_28 : decode cX0_init 28 = .ok (.putfield 22, 3) := by decide +kernel
theorem dX0_init_31 : decode cX0_init 31 = .ok (.return_, 1) := by decide +kernel
theorem dX1_init_0 : decode cX1_init 0 = .ok (.aload_n 0, 1) := by decide +kernel
theorem dX1_init_1 : decode cX1_init 1 = .ok (.invokespecial 3, 3) := by decide +kernel
theorem dX1_init_4 : decode cX1_init 4 = .ok (.return_, 1) := by decide +kernel
theorem dX1_run_0 : decode cX1_run 0 = .ok (.aload_n 0, 1) := by decide +kernel
theorem dX1_run_1 : decode cX1_run 1 = .ok (.aload_n 1, 1) := by decide +kernel
theorem dX1_run_2 : decode cX1_run 2 = .ok (.putfield 9, 3) := by decide +kernel
theorem dX1_run_5 : decode cX1_run 5 = .ok (.aload_n 0, 1) := by decide +kernel
theorem dX1_run_6 : decode cX1_run 6 = .ok (.aload_n 2, 1) := by decide +kernel
theorem dX1_run_7 : decode cX1_run 7 = .ok (.putfield 15, 3) := by decide +kernel
theorem dX1_run_10 : decode cX1_run 10 = .ok (.aload_n 0, 1) := by decide +kernel
theorem dX1_run_11 : decode cX1_run 11 = .ok (.iconst 0, 1) := by decide +kernel
theorem dX1_run_12 : decode cX1_run 12 = .ok (.putfield 19, 3) := by decide +kernel
theorem dX1_run_15 : decode cX1_run 15 = .ok (.aload_n 0, 1) := by decide +kernel
theorem dX1_run_16 : decode cX1_run 16 = .ok (.iconst (-1), 1) := by decide +kernel
theorem dX1_run_17 : decode cX1_run 17 = .ok (.putfield 23, 3) := by decide +kernel
theorem dX1_run_20 : decode cX1_run 20 = .ok (.aload_n 0, 1) := by decide +kernel
theorem dX1_run_21 : decode cX1_run 21 = .ok (.iconst (-1), 1) := by decide +kernel
theorem dX1_run_22 : decode cX1_run 22 = .ok (.putfield 26, 3) := by decide +kernel
theorem dX1_run_25 : decode cX1_run 25 = .ok (.iconst 0, 1) := by decide +kernel
theorem dX1_run_26 : decode cX1_run 26 = .ok (.istore_n 3, 1) := by decide +kernel
theorem dX1_run_27 : decode cX1_run 27 = .ok (.iload_n 3, 1) := by decide +kernel
theorem dX1_run_28 : decode cX1_run 28 = .ok (.aload_n 0, 1) := by decide +kernel
theorem dX1_run_29 : decode cX1_run 29 = .ok (.getfield 9, 3) := by decide +kernel
theorem dX1_run_32 : decode cX1_run 32 = .ok (.getfield 29, 3) := by decide +kernel
theorem dX1_run_35 : decode cX1_run 35 = .ok (.if_icmp .ge 37, 3) := by decide +kernel
theorem dX1_run_38 : decode cX1_run 38 = .ok (.aload_n 0, 1) := by decide +kernel
theorem dX1_run_39 : decode cX1_run 39 = .ok (.getfield 19, 3) := by decide +kernel
theorem dX1_run_42 : decode cX1_run 42 = .ok (.ifCond .ne 30, 3) := by decide +kernel
theorem dX1_run_45 : decode cX1_run 45 = .ok (.aload_n 0, 1) := by decide +kernel
theorem dX1_run_46 : decode cX1_run 46 = .ok (.iload_n 3, 1) := by decide +kernel
theorem dX1_run_47 : decode cX1_run 47 = .ok (.invokevirtual 34, 3) := by decide +kernel
theorem dX1_run_50 : decode cX1_run 50 = .ok (.aload_n 0, 1) := by decide +kernel
theorem dX1_run_51 : decode cX1_run 51 = .ok (.getfield 19, 3) := by decide +kernel
theorem dX1_run_54 : decode cX1_run 54 = .ok (.ifCond .ne 12, 3) := by decide +kernel
theorem dX1_run_57 : decode cX1_run 57 = .ok (.iload_n 3, 1) := by decide +kernel
theorem dX1_run_58 : decode cX1_run 58 = .ok (.ifCond .le 8, 3) := by decide +kernel
theorem dX1_run_61 : decode cX1_run 61 = .ok (.aload_n 0, 1) := by decide +kernel
theorem dX1_run_62 : decode cX1_run 62 = .ok (.iload_n 3, 1) := by decide +kernel
theorem dX1_run_63 : decode cX1_run 63 = .ok (.invokevirtual 38, 3) := by decide +kernel
theorem dX1_run_66 : decode cX1_run 66 = .ok (.iinc 3 1, 3) := by decide +kernel
theorem dX1_run_69 : decode cX1_run 69 = .ok (.goto (-42), 3) := by decide +kernel
theorem dX1_run_72 : decode cX1_run 72 = .ok (.aload_n 0, 1) := by decide +kernel
theorem dX1_run_73 : decode cX1_run 73 = .ok (.getfield 19, 3) := by decide +kernel
theorem dX1_run_76 : decode cX1_run 76 = .ok (.ireturn, 1) := by decide +kernel
theorem dX1_note_0 : decode cX1_note 0 = .ok (.aload_n 0, 1) := by decide +kernel
theorem dX1_note_1 : decode cX1_note 1 = .ok (.iload_n 1, 1) := by decide +kernel
theorem dX1_note_2 : decode cX1_note 2 = .ok (.putfield 19, 3) := by decide +kernel
theorem dX1_note_5 : decode cX1_note 5 = .ok (.aload_n 0, 1) := by decide +kernel
theorem dX1_note_6 : decode cX1_note 6 = .ok (.iload_n 2, 1) := by decide +kernel
theorem dX1_note_7 : decode cX1_note 7 = .ok (.putfield 23, 3) := by decide +kernel
theorem dX1_note_10 : decode cX1_note 10 = .ok (.aload_n 0, 1) := by decide +kernel
theorem dX1_note_11 : decode cX1_note 11 = .ok (.iload_n 3, 1) := by decide +kernel
theorem dX1_note_12 : decode cX1_note 12 = .ok (.putfield 26, 3) := by decide +kernel
theorem dX1_note_15 : decode cX1_note 15 = .ok (.return_, 1) := by decide +kernel
theorem dX1_checkColumn_0 : decode cX1_checkColumn 0 = .ok (.aload_n 0, 1) := by decide +kernel
theorem dX1_checkColumn_1 : decode cX1_checkColumn 1 = .ok (.getfield 15, 3) := by decide +kernel
theorem dX1_checkColumn_4 : decode cX1_checkColumn 4 = .ok (.getfield 41, 3) := by decide +kernel
theorem dX1_checkColumn_7 : decode cX1_checkColumn 7 = .ok (.iload_n 1, 1) := by decide +kernel
theorem dX1_checkColumn_8 : decode cX1_checkColumn 8 = .ok (.aaload, 1) := by decide +kernel
theorem dX1_checkColumn_9 : decode cX1_checkColumn 9 = .ok (.astore_n 2, 1) := by decide +kernel
theorem dX1_checkColumn_10 : decode cX1_checkColumn 10 = .ok (.iconst 0, 1) := by decide +kernel
theorem dX1_checkColumn_11 : decode cX1_checkColumn 11 = .ok (.istore_n 3, 1) := by decide +kernel
theorem dX1_checkColumn_12 : decode cX1_checkColumn 12 = .ok (.iload_n 3, 1) := by decide +kernel
theorem dX1_checkColumn_13 : decode cX1_checkColumn 13 = .ok (.aload_n 2, 1) := by decide +kernel
theorem dX1_checkColumn_14 : decode cX1_checkColumn 14 = .ok (.getfield 47, 3) := by decide +kernel
theorem dX1_checkColumn_17 : decode cX1_checkColumn 17 = .ok (.if_icmp .ge 31, 3) := by decide +kernel
theorem dX1_checkColumn_20 : decode cX1_checkColumn 20 = .ok (.aload_n 0, 1) := by decide +kernel
theorem dX1_checkColumn_21 : decode cX1_checkColumn 21 = .ok (.iload_n 1, 1) := by decide +kernel
theorem dX1_checkColumn_22 : decode cX1_checkColumn 22 = .ok (.iload_n 3, 1) := by decide +kernel
theorem dX1_checkColumn_23 : decode cX1_checkColumn 23 = .ok (.invokevirtual 52, 3) := by decide +kernel
theorem dX1_checkColumn_26 : decode cX1_checkColumn 26 = .ok (.istore 4, 2) := by decide +kernel
theorem dX1_checkColumn_28 : decode cX1_checkColumn 28 = .ok (.iload 4, 2) := by decide +kernel
theorem dX1_checkColumn_30 : decode cX1_checkColumn 30 = .ok (.ifCond .eq 12, 3) := by decide +kernel
theorem dX1_checkColumn_33 : decode cX1_checkColumn 33 = .ok (.aload_n 0, 1) := by decide +kernel
theorem dX1_checkColumn_34 : decode cX1_checkColumn 34 = .ok (.iload 4, 2) := by decide +kernel
theorem dX1_checkColumn_36 : decode cX1_checkColumn 36 = .ok (.iload_n 1, 1) := by decide +kernel
theorem dX1_checkColumn_37 : decode cX1_checkColumn 37 = .ok (.iload_n 3, 1) := by decide +kernel
theorem dX1_checkColumn_38 : decode cX1_checkColumn 38 = .ok (.invokevirtual 56, 3) := by decide +kernel
theorem dX1_checkColumn_41 : decode cX1_checkColumn 41 = .ok (.return_, 1) := by decide +kernel
theorem dX1_checkColumn_42 : decode cX1_checkColumn 42 = .ok (.iinc 3 1, 3) := by decide +kernel
theorem dX1_checkColumn_45 : decode cX1_checkColumn 45 = .ok (.goto (-33), 3) := by decide +kernel
theorem dX1_checkColumn_48 : decode cX1_checkColumn 48 = .ok (.aload_n 2, 1) := by decide +kernel
theorem dX1_checkColumn_49 : decode cX1_checkColumn 49 = .ok (.invokevirtual 60, 3) := by decide +kernel
theorem dX1_checkColumn_52 : decode cX1_checkColumn 52 = .ok (.aload_n 0, 1) := by decide +kernel
theorem dX1_checkColumn_53 : decode cX1_checkColumn 53 = .ok (.getfield 15, 3) := by decide +kernel
theorem dX1_checkColumn_56 : decode cX1_checkColumn 56 = .ok (.getfield 64, 3) := by decide +kernel
theorem dX1_checkColumn_59 : decode cX1_checkColumn 59 = .ok (.if_icmp .eq 13, 3) := by decide +kernel
theorem dX1_checkColumn_62 : decode cX1_checkColumn 62 = .ok (.aload_n 0, 1) := by decide +kernel
theorem dX1_checkColumn_63 : decode cX1_checkColumn 63 = .ok (.iconst 4, 1) := by decide +kernel
theorem dX1_checkColumn_64 : decode cX1_checkColumn 64 = .ok (.iload_n 1, 1) := by decide +kernel
theorem dX1_checkColumn_65 : decode cX1_checkColumn 65 = .ok (.aload_n 2, 1) := by decide +kernel
theorem dX1_checkColumn_66 : decode cX1_checkColumn 66 = .ok (.getfield 47, 3) := by decide +kernel
theorem dX1_checkColumn_69 : decode cX1_checkColumn 69 = .ok (.invokevirtual 56, 3) := by decide +kernel
theorem dX1_checkColumn_72 : decode cX1_checkColumn 72 = .ok (.return_, 1) := by decide +kernel
theorem dX1_wrongAt_0 : decode cX1_wrongAt 0 = .ok (.aload_n 0, 1) := by decide +kernel
theorem dX1_wrongAt_1 : decode cX1_wrongAt 1 = .ok (.getfield 15, 3) := by decide +kernel
theorem dX1_wrongAt_4 : decode cX1_wrongAt 4 = .ok (.getfield 41, 3) := by decide +kernel
theorem dX1_wrongAt_7 : decode cX1_wrongAt 7 = .ok (.iload_n 1, 1) := by decide +kernel
theorem dX1_wrongAt_8 : decode cX1_wrongAt 8 = .ok (.aaload, 1) := by decide +kernel
theorem dX1_wrongAt_9 : decode cX1_wrongAt 9 = .ok (.astore_n 3, 1) := by decide +kernel
theorem dX1_wrongAt_10 : decode cX1_wrongAt 10 = .ok (.aload_n 3, 1) := by decide +kernel
theorem dX1_wrongAt_11 : decode cX1_wrongAt 11 = .ok (.getfield 67, 3) := by decide +kernel
theorem dX1_wrongAt_14 : decode cX1_wrongAt 14 = .ok (.iload_n 2, 1) := by decide +kernel
theorem dX1_wrongAt_15 : decode cX1_wrongAt 15 = .ok (.iaload, 1) := by decide +kernel
theorem dX1_wrongAt_16 : decode cX1_wrongAt 16 = .ok (.istore 4, 2) := by decide +kernel
theorem dX1_wrongAt_18 : decode cX1_wrongAt 18 = .ok (.aload_n 0, 1) := by decide +kernel
theorem dX1_wrongAt_19 : decode cX1_wrongAt 19 = .ok (.getfield 9, 3) := by decide +kernel
theorem dX1_wrongAt_22 : decode cX1_wrongAt 22 = .ok (.getfield 71, 3) := by decide +kernel
theorem dX1_wrongAt_25 : decode cX1_wrongAt 25 = .ok (.iload_n 1, 1) := by decide +kernel
theorem dX1_wrongAt_26 : decode cX1_wrongAt 26 = .ok (.iaload, 1) := by decide +kernel
theorem dX1_wrongAt_27 : decode cX1_wrongAt 27 = .ok (.istore 5, 2) := by decide +kernel
theorem dX1_wrongAt_29 : decode cX1_wrongAt 29 = .ok (.iload 4, 2) := by decide +kernel
theorem dX1_wrongAt_31 : decode cX1_wrongAt 31 = .ok (.aload_n 0, 1) := by decide +kernel
theorem dX1_wrongAt_32 : decode cX1_wrongAt 32 = .ok (.getfield 9, 3) := by decide +kernel
theorem dX1_wrongAt_35 : decode cX1_wrongAt 35 = .ok (.getfield 74, 3) := by decide +kernel
theorem dX1_wrongAt_38 : decode cX1_wrongAt 38 = .ok (.iload 5, 2) := by decide +kernel
theorem dX1_wrongAt_40 : decode cX1_wrongAt 40 = .ok (.iaload, 1) := by decide +kernel
theorem dX1_wrongAt_41 : decode cX1_wrongAt 41 = .ok (.if_icmp .gt 12, 3) := by decide +kernel
theorem dX1_wrongAt_44 : decode cX1_wrongAt 44 = .ok (.iload_n 2, 1) := by decide +kernel
theorem dX1_wrongAt_45 : decode cX1_wrongAt 45 = .ok (.ifCond .ne 10, 3) := by decide +kernel
theorem dX1_wrongAt_48 : decode cX1_wrongAt 48 = .ok (.iload 4, 2) := by decide +kernel
theorem dX1_wrongAt_50 : decode cX1_wrongAt 50 = .ok (.ifCond .eq 5, 3) := by decide +kernel
theorem dX1_wrongAt_53 : decode cX1_wrongAt 53 = .ok (.iconst 1, 1) := by decide +kernel
theorem dX1_wrongAt_54 : decode cX1_wrongAt 54 = .ok (.ireturn, 1) := by decide +kernel
theorem dX1_wrongAt_55 : decode cX1_wrongAt 55 = .ok (.aload_n 3, 1) := by decide +kernel
theorem dX1_wrongAt_56 : decode cX1_wrongAt 56 = .ok (.getfield 75, 3) := by decide +kernel
theorem dX1_wrongAt_59 : decode cX1_wrongAt 59 = .ok (.iload_n 2, 1) := by decide +kernel
theorem dX1_wrongAt_60 : decode cX1_wrongAt 60 = .ok (.iaload, 1) := by decide +kernel
theorem dX1_wrongAt_61 : decode cX1_wrongAt 61 = .ok (.aload_n 0, 1) := by decide +kernel
theorem dX1_wrongAt_62 : decode cX1_wrongAt 62 = .ok (.getfield 9, 3) := by decide +kernel
theorem dX1_wrongAt_65 : decode cX1_wrongAt 65 = .ok (.getfield 78, 3) := by decide +kernel
theorem dX1_wrongAt_68 : decode cX1_wrongAt 68 = .ok (.iload 5, 2) := by decide +kernel
theorem dX1_wrongAt_70 : decode cX1_wrongAt 70 = .ok (.iaload, 1) := by decide +kernel
theorem dX1_wrongAt_71 : decode cX1_wrongAt 71 = .ok (.if_icmp .le 5, 3) := by decide +kernel
theorem dX1_wrongAt_74 : decode cX1_wrongAt 74 = .ok (.iconst 2, 1) := by decide +kernel
theorem dX1_wrongAt_75 : decode cX1_wrongAt 75 = .ok (.ireturn, 1) := by decide +kernel
theorem dX1_wrongAt_76 : decode cX1_wrongAt 76 = .ok (.aload_n 0, 1) := by decide +kernel
theorem dX1_wrongAt_77 : decode cX1_wrongAt 77 = .ok (.iload_n 1, 1) := by decide +kernel
theorem dX1_wrongAt_78 : decode cX1_wrongAt 78 = .ok (.iload 4, 2) := by decide +kernel
theorem dX1_wrongAt_80 : decode cX1_wrongAt 80 = .ok (.invokevirtual 79, 3) := by decide +kernel
theorem dX1_wrongAt_83 : decode cX1_wrongAt 83 = .ok (.istore 6, 2) := by decide +kernel
theorem dX1_wrongAt_85 : decode cX1_wrongAt 85 = .ok (.aload_n 3, 1) := by decide +kernel
theorem dX1_wrongAt_86 : decode cX1_wrongAt 86 = .ok (.getfield 75, 3) := by decide +kernel
theorem dX1_wrongAt_89 : decode cX1_wrongAt 89 = .ok (.iload_n 2, 1) := by decide +kernel
theorem dX1_wrongAt_90 : decode cX1_wrongAt 90 = .ok (.iaload, 1) := by decide +kernel
theorem dX1_wrongAt_91 : decode cX1_wrongAt 91 = .ok (.iload 6, 2) := by decide +kernel
theorem dX1_wrongAt_93 : decode cX1_wrongAt 93 = .ok (.if_icmp .lt 20, 3) := by decide +kernel
theorem dX1_wrongAt_96 : decode cX1_wrongAt 96 = .ok (.iload_n 2, 1) := by decide +kernel
theorem dX1_wrongAt_97 : decode cX1_wrongAt 97 = .ok (.ifCond .le 20, 3) := by decide +kernel
theorem dX1_wrongAt_100 : decode cX1_wrongAt 100 = .ok (.aload_n 3, 1) := by decide +kernel
theorem dX1_wrongAt_101 : decode cX1_wrongAt 101 = .ok (.getfield 75, 3) := by decide +kernel
theorem dX1_wrongAt_104 : decode cX1_wrongAt 104 = .ok (.iload_n 2, 1) := by decide +kernel
theorem dX1_wrongAt_105 : decode cX1_wrongAt 105 = .ok (.iconst 1, 1) := by decide +kernel
theorem dX1_wrongAt_106 : decode cX1_wrongAt 106 = .ok (.isub, 1) := by decide +kernel
theorem dX1_wrongAt_107 : decode cX1_wrongAt 107 = .ok (.iaload, 1) := by decide +kernel
theorem dX1_wrongAt_108 : decode cX1_wrongAt 108 = .ok (.iload 6, 2) := by decide +kernel
theorem dX1_wrongAt_110 : decode cX1_wrongAt 110 = .ok (.if_icmp .ge 7, 3) := by decide +kernel
theorem dX1_wrongAt_113 : decode cX1_wrongAt 113 = .ok (.iconst 3, 1) := by decide +kernel
theorem dX1_wrongAt_114 : decode cX1_wrongAt 114 = .ok (.goto 4, 3) := by decide +kernel
theorem dX1_wrongAt_117 : decode cX1_wrongAt 117 = .ok (.iconst 0, 1) := by decide +kernel
theorem dX1_wrongAt_118 : decode cX1_wrongAt 118 = .ok (.ireturn, 1) := by decide +kernel
theorem dX1_needOf_0 : decode cX1_needOf 0 = .ok (.iload_n 2, 1) := by decide +kernel
theorem dX1_needOf_1 : decode cX1_needOf 1 = .ok (.ifCond .le 15, 3) := by decide +kernel
theorem dX1_needOf_4 : decode cX1_needOf 4 = .ok (.aload_n 0, 1) := by decide +kernel
theorem dX1_needOf_5 : decode cX1_needOf 5 = .ok (.getfield 9, 3) := by decide +kernel
theorem dX1_needOf_8 : decode cX1_needOf 8 = .ok (.iload_n 1, 1) := by decide +kernel
theorem dX1_needOf_9 : decode cX1_needOf 9 = .ok (.iload_n 2, 1) := by decide +kernel
theorem dX1_needOf_10 : decode cX1_needOf 10 = .ok (.invokevirtual 82, 3) := by decide +kernel
theorem dX1_needOf_13 : decode cX1_needOf 13 = .ok (.goto 4, 3) := by decide +kernel
theorem dX1_needOf_16 : decode cX1_needOf 16 = .ok (.iconst (-1), 1) := by decide +kernel
theorem dX1_needOf_17 : decode cX1_needOf 17 = .ok (.istore_n 3, 1) := by decide +kernel
theorem dX1_needOf_18 : decode cX1_needOf 18 = .ok (.iload_n 3, 1) := by decide +kernel
theorem dX1_needOf_19 : decode cX1_needOf 19 = .ok (.iconst (-1), 1) := by decide +kernel
theorem dX1_needOf_20 : decode cX1_needOf 20 = .ok (.if_icmp .ne 7, 3) := by decide +kernel
theorem dX1_needOf_23 : decode cX1_needOf 23 = .ok (.iconst 0, 1) := by decide +kernel
theorem dX1_needOf_24 : decode cX1_needOf 24 = .ok (.goto 12, 3) := by decide +kernel
theorem dX1_needOf_27 : decode cX1_needOf 27 = .ok (.aload_n 0, 1) := by decide +kernel
theorem dX1_needOf_28 : decode cX1_needOf 28 = .ok (.getfield 9, 3) := by decide +kernel
theorem dX1_needOf_31 : decode cX1_needOf 31 = .ok (.getfield 78, 3) := by decide +kernel
theorem dX1_needOf_34 : decode cX1_needOf 34 = .ok (.iload_n 3, 1) := by decide +kernel
theorem dX1_needOf_35 : decode cX1_needOf 35 = .ok (.iaload, 1) := by decide +kernel
theorem dX1_needOf_36 : decode cX1_needOf 36 = .ok (.ireturn, 1) := by decide +kernel
theorem dX1_checkWithAhead_0 : decode cX1_checkWithAhead 0 = .ok (.aload_n 0, 1) := by decide +kernel
theorem dX1_checkWithAhead_1 : decode cX1_checkWithAhead 1 = .ok (.getfield 15, 3) := by decide +kernel
theorem dX1_checkWithAhead_4 : decode cX1_checkWithAhead 4 = .ok (.getfield 41, 3) := by decide +kernel
theorem dX1_checkWithAhead_7 : decode cX1_checkWithAhead 7 = .ok (.iload_n 1, 1) := by decide +kernel
theorem dX1_checkWithAhead_8 : decode cX1_checkWithAhead 8 = .ok (.aaload, 1) := by decide +kernel
theorem dX1_checkWithAhead_9 : decode cX1_checkWithAhead 9 = .ok (.astore_n 2, 1) := by decide +kernel
theorem dX1_checkWithAhead_10 : decode cX1_checkWithAhead 10 = .ok (.aload_n 0, 1) := by decide +kernel
theorem dX1_checkWithAhead_11 : decode cX1_checkWithAhead 11 = .ok (.getfield 15, 3) := by decide +kernel
theorem dX1_checkWithAhead_14 : decode cX1_checkWithAhead 14 = .ok (.getfield 41, 3) := by decide +kernel
theorem dX1_checkWithAhead_17 : decode cX1_checkWithAhead 17 = .ok (.iload_n 1, 1) := by decide +kernel
theorem dX1_checkWithAhead_18 : decode cX1_checkWithAhead 18 = .ok (.iconst 1, 1) := by decide +kernel
theorem dX1_checkWithAhead_19 : decode cX1_checkWithAhead 19 = .ok (.isub, 1) := by decide +kernel
theorem dX1_checkWithAhead_20 : decode cX1_checkWithAhead 20 = .ok (.aaload, 1) := by decide +kernel
theorem dX1_checkWithAhead_21 : decode cX1_checkWithAhead 21 = .ok (.astore_n 3, 1) := by decide +kernel
theorem dX1_checkWithAhead_22 : decode cX1_checkWithAhead 22 = .ok (.aload_n 0, 1) := by decide +kernel
theorem dX1_checkWithAhead_23 : decode cX1_checkWithAhead 23 = .ok (.getfield 9, 3) := by decide +kernel
theorem dX1_checkWithAhead_26 : decode cX1_checkWithAhead 26 = .ok (.iload_n 1, 1) := by decide +kernel
theorem dX1_checkWithAhead_27 : decode cX1_checkWithAhead 27 = .ok (.iload_n 1, 1) := by decide +kernel
theorem dX1_checkWithAhead_28 : decode cX1_checkWithAhead 28 = .ok (.iconst 1, 1) := by decide +kernel
theorem dX1_checkWithAhead_29 : decode cX1_checkWithAhead 29 = .ok (.isub, 1) := by decide +kernel
theorem dX1_checkWithAhead_30 : decode cX1_checkWithAhead 30 = .ok (.invokevirtual 85, 3) := by decide +kernel
theorem dX1_checkWithAhead_33 : decode cX1_checkWithAhead 33 = .ok (.istore 4, 2) := by decide +kernel
theorem dX1_checkWithAhead_35 : decode cX1_checkWithAhead 35 = .ok (.aload_n 0, 1) := by decide +kernel
theorem dX1_checkWithAhead_36 : decode cX1_checkWithAhead 36 = .ok (.iload_n 1, 1) := by decide +kernel
theorem dX1_checkWithAhead_37 : decode cX1_checkWithAhead 37 = .ok (.iload_n 1, 1) := by decide +kernel
theorem dX1_checkWithAhead_38 : decode cX1_checkWithAhead 38 = .ok (.iconst 1, 1) := by decide +kernel
theorem dX1_checkWithAhead_39 : decode cX1_checkWithAhead 39 = .ok (.isub, 1) := by decide +kernel
theorem dX1_checkWithAhead_40 : decode cX1_checkWithAhead 40 = .ok (.invokevirtual 88, 3) := by decide +kernel
theorem dX1_checkWithAhead_43 : decode cX1_checkWithAhead 43 = .ok (.istore 5, 2) := by decide +kernel
theorem dX1_checkWithAhead_45 : decode cX1_checkWithAhead 45 = .ok (.aload_n 3, 1) := by decide +kernel
theorem dX1_checkWithAhead_46 : decode cX1_checkWithAhead 46 = .ok (.iconst (-1), 1) := by decide +kernel
theorem dX1_checkWithAhead_47 : decode cX1_checkWithAhead 47 = .ok (.iload 4, 2) := by decide +kernel
theorem dX1_checkWithAhead_49 : decode cX1_checkWithAhead 49 = .ok (.invokevirtual 91, 3) := by decide +kernel
theorem dX1_checkWithAhead_52 : decode cX1_checkWithAhead 52 = .ok (.istore 6, 2) := by decide +kernel
theorem dX1_checkWithAhead_54 : decode cX1_checkWithAhead 54 = .ok (.iconst 0, 1) := by decide +kernel
theorem dX1_checkWithAhead_55 : decode cX1_checkWithAhead 55 = .ok (.istore 7, 2) := by decide +kernel
theorem dX1_checkWithAhead_57 : decode cX1_checkWithAhead 57 = .ok (.iload 7, 2) := by decide +kernel
theorem dX1_checkWithAhead_59 : decode cX1_checkWithAhead 59 = .ok (.aload_n 2, 1) := by decide +kernel
theorem dX1_checkWithAhead_60 : decode cX1_checkWithAhead 60 = .ok (.getfield 47, 3) := by decide +kernel
theorem dX1_checkWithAhead_63 : decode cX1_checkWithAhead 63 = .ok (.if_icmp .ge 93, 3) := by decide +kernel
theorem dX1_checkWithAhead_66 : decode cX1_checkWithAhead 66 = .ok (.aload_n 2, 1) := by decide +kernel
theorem dX1_checkWithAhead_67 : decode cX1_checkWithAhead 67 = .ok (.getfield 67, 3) := by decide +kernel
theorem dX1_checkWithAhead_70 : decode cX1_checkWithAhead 70 = .ok (.iload 7, 2) := by decide +kernel
theorem dX1_checkWithAhead_72 : decode cX1_checkWithAhead 72 = .ok (.iaload, 1) := by decide +kernel
theorem dX1_checkWithAhead_73 : decode cX1_checkWithAhead 73 = .ok (.iload 4, 2) := by decide +kernel
theorem dX1_checkWithAhead_75 : decode cX1_checkWithAhead 75 = .ok (.if_icmp .gt 75, 3) := by decide +kernel
theorem dX1_checkWithAhead_78 : decode cX1_checkWithAhead 78 = .ok (.iload 6, 2) := by decide +kernel
theorem dX1_checkWithAhead_80 : decode cX1_checkWithAhead 80 = .ok (.aload_n 3, 1) := by decide +kernel
theorem dX1_checkWithAhead_81 : decode cX1_checkWithAhead 81 = .ok (.getfield 47, 3) := by decide +kernel
theorem dX1_checkWithAhead_84 : decode cX1_checkWithAhead 84 = .ok (.if_icmp .ge 47, 3) := by decide +kernel
theorem dX1_checkWithAhead_87 : decode cX1_checkWithAhead 87 = .ok (.aload_n 2, 1) := by decide +kernel
theorem dX1_checkWithAhead_88 : decode cX1_checkWithAhead 88 = .ok (.getfield 67, 3) := by decide +kernel
theorem dX1_checkWithAhead_91 : decode cX1_checkWithAhead 91 = .ok (.iload 7, 2) := by decide +kernel
theorem dX1_checkWithAhead_93 : decode cX1_checkWithAhead 93 = .ok (.iaload, 1) := by decide +kernel
theorem dX1_checkWithAhead_94 : decode cX1_checkWithAhead 94 = .ok (.aload_n 3, 1) := by decide +kernel
theorem dX1_checkWithAhead_95 : decode cX1_checkWithAhead 95 = .ok (.getfield 67, 3) := by decide +kernel
theorem dX1_checkWithAhead_98 : decode cX1_checkWithAhead 98 = .ok (.iload 6, 2) := by decide +kernel
theorem dX1_checkWithAhead_100 : decode cX1_checkWithAhead 100 = .ok (.iaload, 1) := by decide +kernel
theorem dX1_checkWithAhead_101 : decode cX1_checkWithAhead 101 = .ok (.if_icmp .ne 30, 3) := by decide +kernel
theorem dX1_checkWithAhead_104 : decode cX1_checkWithAhead 104 = .ok (.aload_n 2, 1) := by decide +kernel
theorem dX1_checkWithAhead_105 : decode cX1_checkWithAhead 105 = .ok (.getfield 75, 3) := by decide +kernel
theorem dX1_checkWithAhead_108 : decode cX1_checkWithAhead 108 = .ok (.iload 7, 2) := by decide +kernel
theorem dX1_checkWithAhead_110 : decode cX1_checkWithAhead 110 = .ok (.iaload, 1) := by decide +kernel
theorem dX1_checkWithAhead_111 : decode cX1_checkWithAhead 111 = .ok (.iload 5, 2) := by decide +kernel
theorem dX1_checkWithAhead_113 : decode cX1_checkWithAhead 113 = .ok (.invokestatic 94, 3) := by decide +kernel
theorem dX1_checkWithAhead_116 : decode cX1_checkWithAhead 116 = .ok (.aload_n 3, 1) := by decide +kernel
theorem dX1_checkWithAhead_117 : decode cX1_checkWithAhead 117 = .ok (.getfield 75, 3) := by decide +kernel
theorem dX1_checkWithAhead_120 : decode cX1_checkWithAhead 120 = .ok (.iload 6, 2) := by decide +kernel
theorem dX1_checkWithAhead_122 : decode cX1_checkWithAhead 122 = .ok (.iaload, 1) := by decide +kernel
theorem dX1_checkWithAhead_123 : decode cX1_checkWithAhead 123 = .ok (.iload 5, 2) := by decide +kernel
theorem dX1_checkWithAhead_125 : decode cX1_checkWithAhead 125 = .ok (.invokestatic 94, 3) := by decide +kernel
theorem dX1_checkWithAhead_128 : decode cX1_checkWithAhead 128 = .ok (.if_icmp .eq 12, 3) := by decide +kernel
theorem dX1_checkWithAhead_131 : decode cX1_checkWithAhead 131 = .ok (.aload_n 0, 1) := by decide +kernel
theorem dX1_checkWithAhead_132 : decode cX1_checkWithAhead 132 = .ok (.iconst 5, 1) := by decide +kernel
theorem dX1_checkWithAhead_133 : decode cX1_checkWithAhead 133 = .ok (.iload_n 1, 1) := by decide +kernel
theorem dX1_checkWithAhead_134 : decode cX1_checkWithAhead 134 = .ok (.iload 7, 2) := by decide +kernel
theorem dX1_checkWithAhead_136 : decode cX1_checkWithAhead 136 = .ok (.invokevirtual 56, 3) := by decide +kernel
theorem dX1_checkWithAhead_139 : decode cX1_checkWithAhead 139 = .ok (.return_, 1) := by decide +kernel
theorem dX1_checkWithAhead_140 : decode cX1_checkWithAhead 140 = .ok (.aload_n 3, 1) := by decide +kernel
theorem dX1_checkWithAhead_141 : decode cX1_checkWithAhead 141 = .ok (.iload 6, 2) := by decide +kernel
theorem dX1_checkWithAhead_143 : decode cX1_checkWithAhead 143 = .ok (.iload 4, 2) := by decide +kernel
theorem dX1_checkWithAhead_145 : decode cX1_checkWithAhead 145 = .ok (.invokevirtual 91, 3) := by decide +kernel
theorem dX1_checkWithAhead_148 : decode cX1_checkWithAhead 148 = .ok (.istore 6, 2) := by decide +kernel
theorem dX1_checkWithAhead_150 : decode cX1_checkWithAhead 150 = .ok (.iinc 7 1, 3) := by decide +kernel
theorem dX1_checkWithAhead_153 : decode cX1_checkWithAhead 153 = .ok (.goto (-96), 3) := by decide +kernel
theorem dX1_checkWithAhead_156 : decode cX1_checkWithAhead 156 = .ok (.iload 6, 2) := by decide +kernel
theorem dX1_checkWithAhead_158 : decode cX1_checkWithAhead 158 = .ok (.aload_n 3, 1) := by decide +kernel
theorem dX1_checkWithAhead_159 : decode cX1_checkWithAhead 159 = .ok (.getfield 47, 3) := by decide +kernel
theorem dX1_checkWithAhead_162 : decode cX1_checkWithAhead 162 = .ok (.if_icmp .ge 13, 3) := by decide +kernel
theorem dX1_checkWithAhead_165 : decode cX1_checkWithAhead 165 = .ok (.aload_n 0, 1) := by decide +kernel
theorem dX1_checkWithAhead_166 : decode cX1_checkWithAhead 166 = .ok (.iconst 5, 1) := by decide +kernel
theorem dX1_checkWithAhead_167 : decode cX1_checkWithAhead 167 = .ok (.iload_n 1, 1) := by decide +kernel
theorem dX1_checkWithAhead_168 : decode cX1_checkWithAhead 168 = .ok (.aload_n 2, 1) := by decide +kernel
theorem dX1_checkWithAhead_169 : decode cX1_checkWithAhead 169 = .ok (.getfield 47, 3) := by decide +kernel
theorem dX1_checkWithAhead_172 : decode cX1_checkWithAhead 172 = .ok (.invokevirtual 56, 3) := by decide +kernel
theorem dX1_checkWithAhead_175 : decode cX1_checkWithAhead 175 = .ok (.return_, 1) := by decide +kernel
theorem dX1_mostShared_0 : decode cX1_mostShared 0 = .ok (.aload_n 0, 1) := by decide +kernel
theorem dX1_mostShared_1 : decode cX1_mostShared 1 = .ok (.getfield 9, 3) := by decide +kernel
theorem dX1_mostShared_4 : decode cX1_mostShared 4 = .ok (.iload_n 1, 1) := by decide +kernel
theorem dX1_mostShared_5 : decode cX1_mostShared 5 = .ok (.iload_n 2, 1) := by decide +kernel
theorem dX1_mostShared_6 : decode cX1_mostShared 6 = .ok (.invokevirtual 99, 3) := by decide +kernel
theorem dX1_mostShared_9 : decode cX1_mostShared 9 = .ok (.istore_n 3, 1) := by decide +kernel
theorem dX1_mostShared_10 : decode cX1_mostShared 10 = .ok (.iload_n 3, 1) := by decide +kernel
theorem dX1_mostShared_11 : decode cX1_mostShared 11 = .ok (.iconst (-1), 1) := by decide +kernel
theorem dX1_mostShared_12 : decode cX1_mostShared 12 = .ok (.if_icmp .ne 7, 3) := by decide +kernel
theorem dX1_mostShared_15 : decode cX1_mostShared 15 = .ok (.iconst 0, 1) := by decide +kernel
theorem dX1_mostShared_16 : decode cX1_mostShared 16 = .ok (.goto 12, 3) := by decide +kernel
theorem dX1_mostShared_19 : decode cX1_mostShared 19 = .ok (.aload_n 0, 1) := by decide +kernel
theorem dX1_mostShared_20 : decode cX1_mostShared 20 = .ok (.getfield 9, 3) := by decide +kernel
theorem dX1_mostShared_23 : decode cX1_mostShared 23 = .ok (.getfield 78, 3) := by decide +kernel
theorem dX1_mostShared_26 : decode cX1_mostShared 26 = .ok (.iload_n 3, 1) := by decide +kernel
theorem dX1_mostShared_27 : decode cX1_mostShared 27 = .ok (.iaload, 1) := by decide +kernel
theorem dX1_mostShared_28 : decode cX1_mostShared 28 = .ok (.ireturn, 1) := by decide +kernel
theorem dX1_weighOne_0 : decode cX1_weighOne 0 = .ok (.iload_n 1, 1) := by decide +kernel
theorem dX1_weighOne_1 : decode cX1_weighOne 1 = .ok (.ifCond .eq 26, 3) := by decide +kernel
theorem dX1_weighOne_4 : decode cX1_weighOne 4 = .ok (.aload_n 0, 1) := by decide +kernel
theorem dX1_weighOne_5 : decode cX1_weighOne 5 = .ok (.dup, 1) := by decide +kernel
theorem dX1_weighOne_6 : decode cX1_weighOne 6 = .ok (.getfield 102, 3) := by decide +kernel
theorem dX1_weighOne_9 : decode cX1_weighOne 9 = .ok (.iconst 1, 1) := by decide +kernel
theorem dX1_weighOne_10 : decode cX1_weighOne 10 = .ok (.iadd, 1) := by decide +kernel
theorem dX1_weighOne_11 : decode cX1_weighOne 11 = .ok (.putfield 102, 3) := by decide +kernel
theorem dX1_weighOne_14 : decode cX1_weighOne 14 = .ok (.aload_n 0, 1) := by decide +kernel
theorem dX1_weighOne_15 : decode cX1_weighOne 15 = .ok (.getfield 105, 3) := by decide +kernel
theorem dX1_weighOne_18 : decode cX1_weighOne 18 = .ok (.iconst (-1), 1) := by decide +kernel
theorem dX1_weighOne_19 : decode cX1_weighOne 19 = .ok (.if_icmp .ne 8, 3) := by decide +kernel
theorem dX1_weighOne_22 : decode cX1_weighOne 22 = .ok (.aload_n 0, 1) := by decide +kernel
theorem dX1_weighOne_23 : decode cX1_weighOne 23 = .ok (.iload_n 2, 1) := by decide +kernel
theorem dX1_weighOne_24 : decode cX1_weighOne 24 = .ok (.putfield 105, 3) := by decide +kernel
theorem dX1_weighOne_27 : decode cX1_weighOne 27 = .ok (.return_, 1) := by decide +kernel
theorem dX1_repIsHarmless_0 : decode cX1_repIsHarmless 0 = .ok (.aload_n 0, 1) := by decide +kernel
theorem dX1_repIsHarmless_1 : decode cX1_repIsHarmless 1 = .ok (.getfield 15, 3) := by decide +kernel
theorem dX1_repIsHarmless_4 : decode cX1_repIsHarmless 4 = .ok (.getfield 41, 3) := by decide +kernel
theorem dX1_repIsHarmless_7 : decode cX1_repIsHarmless 7 = .ok (.iload_n 1, 1) := by decide +kernel
theorem dX1_repIsHarmless_8 : decode cX1_repIsHarmless 8 = .ok (.aaload, 1) := by decide +kernel
theorem dX1_repIsHarmless_9 : decode cX1_repIsHarmless 9 = .ok (.astore 4, 2) := by decide +kernel
theorem dX1_repIsHarmless_11 : decode cX1_repIsHarmless 11 = .ok (.aload 4, 2) := by decide +kernel
theorem dX1_repIsHarmless_13 : decode cX1_repIsHarmless 13 = .ok (.getfield 67, 3) := by decide +kernel
theorem dX1_repIsHarmless_16 : decode cX1_repIsHarmless 16 = .ok (.iload_n 2, 1) := by decide +kernel
theorem dX1_repIsHarmless_17 : decode cX1_repIsHarmless 17 = .ok (.iaload, 1) := by decide +kernel
theorem dX1_repIsHarmless_18 : decode cX1_repIsHarmless 18 = .ok (.istore 5, 2) := by decide +kernel
theorem dX1_repIsHarmless_20 : decode cX1_repIsHarmless 20 = .ok (.iload_n 3, 1) := by decide +kernel
theorem dX1_repIsHarmless_21 : decode cX1_repIsHarmless 21 = .ok (.iload 5, 2) := by decide +kernel
theorem dX1_repIsHarmless_23 : decode cX1_repIsHarmless 23 = .ok (.if_icmp .eq 16, 3) := by decide +kernel
theorem dX1_repIsHarmless_26 : decode cX1_repIsHarmless 26 = .ok (.iload_n 3, 1) := by decide +kernel
theorem dX1_repIsHarmless_27 : decode cX1_repIsHarmless 27 = .ok (.ifCond .eq 12, 3) := by decide +kernel
theorem dX1_repIsHarmless_30 : decode cX1_repIsHarmless 30 = .ok (.iload 5, 2) := by decide +kernel
theorem dX1_repIsHarmless_32 : decode cX1_repIsHarmless 32 = .ok (.ifCond .eq 7, 3) := by decide +kernel
theorem dX1_repIsHarmless_35 : decode cX1_repIsHarmless 35 = .ok (.iload_n 2, 1) := by decide +kernel
theorem dX1_repIsHarmless_36 : decode cX1_repIsHarmless 36 = .ok (.ifCond .ne 5, 3) := by decide +kernel
theorem dX1_repIsHarmless_39 : decode cX1_repIsHarmless 39 = .ok (.iconst 0, 1) := by decide +kernel
theorem dX1_repIsHarmless_40 : decode cX1_repIsHarmless 40 = .ok (.ireturn, 1) := by decide +kernel
theorem dX1_repIsHarmless_41 : decode cX1_repIsHarmless 41 = .ok (.aload_n 0, 1) := by decide +kernel
theorem dX1_repIsHarmless_42 : decode cX1_repIsHarmless 42 = .ok (.iload_n 1, 1) := by decide +kernel
theorem dX1_repIsHarmless_43 : decode cX1_repIsHarmless 43 = .ok (.iload_n 3, 1) := by decide +kernel
theorem dX1_repIsHarmless_44 : decode cX1_repIsHarmless 44 = .ok (.invokevirtual 79, 3) := by decide +kernel
theorem dX1_repIsHarmless_47 : decode cX1_repIsHarmless 47 = .ok (.istore 6, 2) := by decide +kernel
theorem dX1_repIsHarmless_49 : decode cX1_repIsHarmless 49 = .ok (.aload 4, 2) := by decide +kernel
theorem dX1_repIsHarmless_51 : decode cX1_repIsHarmless 51 = .ok (.getfield 75, 3) := by decide +kernel
theorem dX1_repIsHarmless_54 : decode cX1_repIsHarmless 54 = .ok (.iload_n 2, 1) := by decide +kernel
theorem dX1_repIsHarmless_55 : decode cX1_repIsHarmless 55 = .ok (.iaload, 1) := by decide +kernel
theorem dX1_repIsHarmless_56 : decode cX1_repIsHarmless 56 = .ok (.iload 6, 2) := by decide +kernel
theorem dX1_repIsHarmless_58 : decode cX1_repIsHarmless 58 = .ok (.if_icmp .lt 17, 3) := by decide +kernel
theorem dX1_repIsHarmless_61 : decode cX1_repIsHarmless 61 = .ok (.aload 4, 2) := by decide +kernel
theorem dX1_repIsHarmless_63 : decode cX1_repIsHarmless 63 = .ok (.getfield 75, 3) := by decide +kernel
theorem dX1_repIsHarmless_66 : decode cX1_repIsHarmless 66 = .ok (.iload_n 2, 1) := by decide +kernel
theorem dX1_repIsHarmless_67 : decode cX1_repIsHarmless 67 = .ok (.iconst 1, 1) := by decide +kernel
theorem dX1_repIsHarmless_68 : decode cX1_repIsHarmless 68 = .ok (.isub, 1) := by decide +kernel
theorem dX1_repIsHarmless_69 : decode cX1_repIsHarmless 69 = .ok (.iaload, 1) := by decide +kernel
theorem dX1_repIsHarmless_70 : decode cX1_repIsHarmless 70 = .ok (.iload 6, 2) := by decide +kernel
theorem dX1_repIsHarmless_72 : decode cX1_repIsHarmless 72 = .ok (.if_icmp .ge 5, 3) := by decide +kernel
theorem dX1_repIsHarmless_75 : decode cX1_repIsHarmless 75 = .ok (.iconst 0, 1) := by decide +kernel
theorem dX1_repIsHarmless_76 : decode cX1_repIsHarmless 76 = .ok (.ireturn, 1) := by decide +kernel
theorem dX1_repIsHarmless_77 : decode cX1_repIsHarmless 77 = .ok (.iload 5, 2) := by decide +kernel
theorem dX1_repIsHarmless_79 : decode cX1_repIsHarmless 79 = .ok (.iload_n 3, 1) := by decide +kernel
theorem dX1_repIsHarmless_80 : decode cX1_repIsHarmless 80 = .ok (.invokestatic 94, 3) := by decide +kernel
theorem dX1_repIsHarmless_83 : decode cX1_repIsHarmless 83 = .ok (.istore 7, 2) := by decide +kernel
theorem dX1_repIsHarmless_85 : decode cX1_repIsHarmless 85 = .ok (.iload_n 1, 1) := by decide +kernel
theorem dX1_repIsHarmless_86 : decode cX1_repIsHarmless 86 = .ok (.ifCond .eq 19, 3) := by decide +kernel
theorem dX1_repIsHarmless_89 : decode cX1_repIsHarmless 89 = .ok (.iload 7, 2) := by decide +kernel
theorem dX1_repIsHarmless_91 : decode cX1_repIsHarmless 91 = .ok (.aload_n 0, 1) := by decide +kernel
theorem dX1_repIsHarmless_92 : decode cX1_repIsHarmless 92 = .ok (.getfield 9, 3) := by decide +kernel
theorem dX1_repIsHarmless_95 : decode cX1_repIsHarmless 95 = .ok (.iload_n 1, 1) := by decide +kernel
theorem dX1_repIsHarmless_96 : decode cX1_repIsHarmless 96 = .ok (.iload_n 1, 1) := by decide +kernel
theorem dX1_repIsHarmless_97 : decode cX1_repIsHarmless 97 = .ok (.iconst 1, 1) := by decide +kernel
theorem dX1_repIsHarmless_98 : decode cX1_repIsHarmless 98 = .ok (.isub, 1) := by decide +kernel
theorem dX1_repIsHarmless_99 : decode cX1_repIsHarmless 99 = .ok (.invokevirtual 85, 3) := by decide +kernel
theorem dX1_repIsHarmless_102 : decode cX1_repIsHarmless 102 = .ok (.if_icmp .le 36, 3) := by decide +kernel
theorem dX1_repIsHarmless_105 : decode cX1_repIsHarmless 105 = .ok (.iload_n 1, 1) := by decide +kernel
theorem dX1_repIsHarmless_106 : decode cX1_repIsHarmless 106 = .ok (.iconst 1, 1) := by decide +kernel
theorem dX1_repIsHarmless_107 : decode cX1_repIsHarmless 107 = .ok (.iadd, 1) := by decide +kernel
theorem dX1_repIsHarmless_108 : decode cX1_repIsHarmless 108 = .ok (.aload_n 0, 1) := by decide +kernel
theorem dX1_repIsHarmless_109 : decode cX1_repIsHarmless 109 = .ok (.getfield 9, 3) := by decide +kernel
theorem dX1_repIsHarmless_112 : decode cX1_repIsHarmless 112 = .ok (.getfield 29, 3) := by decide +kernel
theorem dX1_repIsHarmless_115 : decode cX1_repIsHarmless 115 = .ok (.if_icmp .ge 19, 3) := by decide +kernel
theorem dX1_repIsHarmless_118 : decode cX1_repIsHarmless 118 = .ok (.iload 7, 2) := by decide +kernel
theorem dX1_repIsHarmless_120 : decode cX1_repIsHarmless 120 = .ok (.aload_n 0, 1) := by decide +kernel
theorem dX1_repIsHarmless_121 : decode cX1_repIsHarmless 121 = .ok (.getfield 9, 3) := by decide +kernel
theorem dX1_repIsHarmless_124 : decode cX1_repIsHarmless 124 = .ok (.iload_n 1, 1) := by decide +kernel
theorem dX1_repIsHarmless_125 : decode cX1_repIsHarmless 125 = .ok (.iload_n 1, 1) := by decide +kernel
theorem dX1_repIsHarmless_126 : decode cX1_repIsHarmless 126 = .ok (.iconst 1, 1) := by decide +kernel
theorem dX1_repIsHarmless_127 : decode cX1_repIsHarmless 127 = .ok (.iadd, 1) := by decide +kernel
theorem dX1_repIsHarmless_128 : decode cX1_repIsHarmless 128 = .ok (.invokevirtual 85, 3) := by decide +kernel
theorem dX1_repIsHarmless_131 : decode cX1_repIsHarmless 131 = .ok (.if_icmp .le 7, 3) := by decide +kernel
theorem dX1_repIsHarmless_134 : decode cX1_repIsHarmless 134 = .ok (.iconst 1, 1) := by decide +kernel
theorem dX1_repIsHarmless_135 : decode cX1_repIsHarmless 135 = .ok (.goto 4, 3) := by decide +kernel
theorem dX1_repIsHarmless_138 : decode cX1_repIsHarmless 138 = .ok (.iconst 0, 1) := by decide +kernel
theorem dX1_repIsHarmless_139 : decode cX1_repIsHarmless 139 = .ok (.ireturn, 1) := by decide +kernel
theorem dX1_defIsHarmless_0 : decode cX1_defIsHarmless 0 = .ok (.aload_n 0, 1) := by decide +kernel
theorem dX1_defIsHarmless_1 : decode cX1_defIsHarmless 1 = .ok (.getfield 15, 3) := by decide +kernel
theorem dX1_defIsHarmless_4 : decode cX1_defIsHarmless 4 = .ok (.getfield 41, 3) := by decide +kernel
theorem dX1_defIsHarmless_7 : decode cX1_defIsHarmless 7 = .ok (.iload_n 1, 1) := by decide +kernel
theorem dX1_defIsHarmless_8 : decode cX1_defIsHarmless 8 = .ok (.aaload, 1) := by decide +kernel
theorem dX1_defIsHarmless_9 : decode cX1_defIsHarmless 9 = .ok (.astore 4, 2) := by decide +kernel
theorem dX1_defIsHarmless_11 : decode cX1_defIsHarmless 11 = .ok (.iload_n 3, 1) := by decide +kernel
theorem dX1_defIsHarmless_12 : decode cX1_defIsHarmless 12 = .ok (.aload 4, 2) := by decide +kernel
theorem dX1_defIsHarmless_14 : decode cX1_defIsHarmless 14 = .ok (.getfield 75, 3) := by decide +kernel
theorem dX1_defIsHarmless_17 : decode cX1_defIsHarmless 17 = .ok (.iload_n 2, 1) := by decide +kernel
theorem dX1_defIsHarmless_18 : decode cX1_defIsHarmless 18 = .ok (.iaload, 1) := by decide +kernel
theorem dX1_defIsHarmless_19 : decode cX1_defIsHarmless 19 = .ok (.if_icmp .eq 19, 3) := by decide +kernel
theorem dX1_defIsHarmless_22 : decode cX1_defIsHarmless 22 = .ok (.iload_n 3, 1) := by decide +kernel
theorem dX1_defIsHarmless_23 : decode cX1_defIsHarmless 23 = .ok (.aload_n 0, 1) := by decide +kernel
theorem dX1_defIsHarmless_24 : decode cX1_defIsHarmless 24 = .ok (.iload_n 1, 1) := by decide +kernel
theorem dX1_defIsHarmless_25 : decode cX1_defIsHarmless 25 = .ok (.aload 4, 2) := by decide +kernel
theorem dX1_defIsHarmless_27 : decode cX1_defIsHarmless 27 = .ok (.getfield 67, 3) := by decide +kernel
theorem dX1_defIsHarmless_30 : decode cX1_defIsHarmless 30 = .ok (.iload_n 2, 1) := by decide +kernel
theorem dX1_defIsHarmless_31 : decode cX1_defIsHarmless 31 = .ok (.iaload, 1) := by decide +kernel
theorem dX1_defIsHarmless_32 : decode cX1_defIsHarmless 32 = .ok (.invokevirtual 79, 3) := by decide +kernel
theorem dX1_defIsHarmless_35 : decode cX1_defIsHarmless 35 = .ok (.if_icmp .ge 5, 3) := by decide +kernel
theorem dX1_defIsHarmless_38 : decode cX1_defIsHarmless 38 = .ok (.iconst 0, 1) := by decide +kernel
theorem dX1_defIsHarmless_39 : decode cX1_defIsHarmless 39 = .ok (.ireturn, 1) := by decide +kernel
theorem dX1_defIsHarmless_40 : decode cX1_defIsHarmless 40 = .ok (.iload_n 2, 1) := by decide +kernel
theorem dX1_defIsHarmless_41 : decode cX1_defIsHarmless 41 = .ok (.iconst 1, 1) := by decide +kernel
theorem dX1_defIsHarmless_42 : decode cX1_defIsHarmless 42 = .ok (.iadd, 1) := by decide +kernel
theorem dX1_defIsHarmless_43 : decode cX1_defIsHarmless 43 = .ok (.aload 4, 2) := by decide +kernel
theorem dX1_defIsHarmless_45 : decode cX1_defIsHarmless 45 = .ok (.getfield 47, 3) := by decide +kernel
theorem dX1_defIsHarmless_48 : decode cX1_defIsHarmless 48 = .ok (.if_icmp .ge 23, 3) := by decide +kernel
theorem dX1_defIsHarmless_51 : decode cX1_defIsHarmless 51 = .ok (.iload_n 3, 1) := by decide +kernel
theorem dX1_defIsHarmless_52 : decode cX1_defIsHarmless 52 = .ok (.aload_n 0, 1) := by decide +kernel
theorem dX1_defIsHarmless_53 : decode cX1_defIsHarmless 53 = .ok (.iload_n 1, 1) := by decide +kernel
theorem dX1_defIsHarmless_54 : decode cX1_defIsHarmless 54 = .ok (.aload 4, 2) := by decide +kernel
theorem dX1_defIsHarmless_56 : decode cX1_defIsHarmless 56 = .ok (.getfield 67, 3) := by decide +kernel
theorem dX1_defIsHarmless_59 : decode cX1_defIsHarmless 59 = .ok (.iload_n 2, 1) := by decide +kernel
theorem dX1_defIsHarmless_60 : decode cX1_defIsHarmless 60 = .ok (.iconst 1, 1) := by decide +kernel
theorem dX1_defIsHarmless_61 : decode cX1_defIsHarmless 61 = .ok (.iadd, 1) := by decide +kernel
theorem dX1_defIsHarmless_62 : decode cX1_defIsHarmless 62 = .ok (.iaload, 1) := by decide +kernel
theorem dX1_defIsHarmless_63 : decode cX1_defIsHarmless 63 = .ok (.invokevirtual 79, 3) := by decide +kernel
theorem dX1_defIsHarmless_66 : decode cX1_defIsHarmless 66 = .ok (.if_icmp .ge 5, 3) := by decide +kernel
theorem dX1_defIsHarmless_69 : decode cX1_defIsHarmless 69 = .ok (.iconst 0, 1) := by decide +kernel
theorem dX1_defIsHarmless_70 : decode cX1_defIsHarmless 70 = .ok (.ireturn, 1) := by decide +kernel
theorem dX1_defIsHarmless_71 : decode cX1_defIsHarmless 71 = .ok (.iload_n 1, 1) := by decide +kernel
theorem dX1_defIsHarmless_72 : decode cX1_defIsHarmless 72 = .ok (.ifCond .eq 16, 3) := by decide +kernel
theorem dX1_defIsHarmless_75 : decode cX1_defIsHarmless 75 = .ok (.aload_n 0, 1) := by decide +kernel
theorem dX1_defIsHarmless_76 : decode cX1_defIsHarmless 76 = .ok (.iload_n 1, 1) := by decide +kernel
theorem dX1_defIsHarmless_77 : decode cX1_defIsHarmless 77 = .ok (.iload_n 1, 1) := by decide +kernel
theorem dX1_defIsHarmless_78 : decode cX1_defIsHarmless 78 = .ok (.iconst 1, 1) := by decide +kernel
theorem dX1_defIsHarmless_79 : decode cX1_defIsHarmless 79 = .ok (.isub, 1) := by decide +kernel
theorem dX1_defIsHarmless_80 : decode cX1_defIsHarmless 80 = .ok (.iload_n 2, 1) := by decide +kernel
theorem dX1_defIsHarmless_81 : decode cX1_defIsHarmless 81 = .ok (.iload_n 3, 1) := by decide +kernel
theorem dX1_defIsHarmless_82 : decode cX1_defIsHarmless 82 = .ok (.invokevirtual 119, 3) := by decide +kernel
theorem dX1_defIsHarmless_85 : decode cX1_defIsHarmless 85 = .ok (.ifCond .eq 33, 3) := by decide +kernel
theorem dX1_defIsHarmless_88 : decode cX1_defIsHarmless 88 = .ok (.iload_n 1, 1) := by decide +kernel
theorem dX1_defIsHarmless_89 : decode cX1_defIsHarmless 89 = .ok (.iconst 1, 1) := by decide +kernel
theorem dX1_defIsHarmless_90 : decode cX1_defIsHarmless 90 = .ok (.iadd, 1) := by decide +kernel
theorem dX1_defIsHarmless_91 : decode cX1_defIsHarmless 91 = .ok (.aload_n 0, 1) := by decide +kernel
theorem dX1_defIsHarmless_92 : decode cX1_defIsHarmless 92 = .ok (.getfield 9, 3) := by decide +kernel
theorem dX1_defIsHarmless_95 : decode cX1_defIsHarmless 95 = .ok (.getfield 29, 3) := by decide +kernel
theorem dX1_defIsHarmless_98 : decode cX1_defIsHarmless 98 = .ok (.if_icmp .ge 16, 3) := by decide +kernel
theorem dX1_defIsHarmless_101 : decode cX1_defIsHarmless 101 = .ok (.aload_n 0, 1) := by decide +kernel
theorem dX1_defIsHarmless_102 : decode cX1_defIsHarmless 102 = .ok (.iload_n 1, 1) := by decide +kernel
theorem dX1_defIsHarmless_103 : decode cX1_defIsHarmless 103 = .ok (.iload_n 1, 1) := by decide +kernel
theorem dX1_defIsHarmless_104 : decode cX1_defIsHarmless 104 = .ok (.iconst 1, 1) := by decide +kernel
theorem dX1_defIsHarmless_105 : decode cX1_defIsHarmless 105 = .ok (.iadd, 1) := by decide +kernel
theorem dX1_defIsHarmless_106 : decode cX1_defIsHarmless 106 = .ok (.iload_n 2, 1) := by decide +kernel
theorem dX1_defIsHarmless_107 : decode cX1_defIsHarmless 107 = .ok (.iload_n 3, 1) := by decide +kernel
theorem dX1_defIsHarmless_108 : decode cX1_defIsHarmless 108 = .ok (.invokevirtual 119, 3) := by decide +kernel
theorem dX1_defIsHarmless_111 : decode cX1_defIsHarmless 111 = .ok (.ifCond .eq 7, 3) := by decide +kernel
theorem dX1_defIsHarmless_114 : decode cX1_defIsHarmless 114 = .ok (.iconst 1, 1) := by decide +kernel
theorem dX1_defIsHarmless_115 : decode cX1_defIsHarmless 115 = .ok (.goto 4, 3) := by decide +kernel
theorem dX1_defIsHarmless_118 : decode cX1_defIsHarmless 118 = .ok (.iconst 0, 1) := by decide +kernel
theorem dX1_defIsHarmless_119 : decode cX1_defIsHarmless 119 = .ok (.ireturn, 1) := by decide +kernel
theorem dX1_looksAlike_0 : decode cX1_looksAlike 0 = .ok (.aload_n 0, 1) := by decide +kernel
theorem dX1_looksAlike_1 : decode cX1_looksAlike 1 = .ok (.getfield 15, 3) := by decide +kernel
theorem dX1_looksAlike_4 : decode cX1_looksAlike 4 = .ok (.getfield 41, 3) := by decide +kernel
theorem dX1_looksAlike_7 : decode cX1_looksAlike 7 = .ok (.iload_n 1, 1) := by decide +kernel
theorem dX1_looksAlike_8 : decode cX1_looksAlike 8 = .ok (.aaload, 1) := by decide +kernel
theorem dX1_looksAlike_9 : decode cX1_looksAlike 9 = .ok (.astore 5, 2) := by decide +kernel
theorem dX1_looksAlike_11 : decode cX1_looksAlike 11 = .ok (.aload_n 0, 1) := by decide +kernel
theorem dX1_looksAlike_12 : decode cX1_looksAlike 12 = .ok (.iload_n 1, 1) := by decide +kernel
theorem dX1_looksAlike_13 : decode cX1_looksAlike 13 = .ok (.iload_n 2, 1) := by decide +kernel
theorem dX1_looksAlike_14 : decode cX1_looksAlike 14 = .ok (.invokevirtual 88, 3) := by decide +kernel
theorem dX1_looksAlike_17 : decode cX1_looksAlike 17 = .ok (.istore 6, 2) := by decide +kernel
theorem dX1_looksAlike_19 : decode cX1_looksAlike 19 = .ok (.aload 5, 2) := by decide +kernel
theorem dX1_looksAlike_21 : decode cX1_looksAlike 21 = .ok (.getfield 67, 3) := by decide +kernel
theorem dX1_looksAlike_24 : decode cX1_looksAlike 24 = .ok (.iload_n 3, 1) := by decide +kernel
theorem dX1_looksAlike_25 : decode cX1_looksAlike 25 = .ok (.iaload, 1) := by decide +kernel
theorem dX1_looksAlike_26 : decode cX1_looksAlike 26 = .ok (.aload_n 0, 1) := by decide +kernel
theorem dX1_looksAlike_27 : decode cX1_looksAlike 27 = .ok (.getfield 9, 3) := by decide +kernel
theorem dX1_looksAlike_30 : decode cX1_looksAlike 30 = .ok (.iload_n 1, 1) := by decide +kernel
theorem dX1_looksAlike_31 : decode cX1_looksAlike 31 = .ok (.iload_n 2, 1) := by decide +kernel
theorem dX1_looksAlike_32 : decode cX1_looksAlike 32 = .ok (.invokevirtual 85, 3) := by decide +kernel
theorem dX1_looksAlike_35 : decode cX1_looksAlike 35 = .ok (.if_icmp .gt 25, 3) := by decide +kernel
theorem dX1_looksAlike_38 : decode cX1_looksAlike 38 = .ok (.iload 4, 2) := by decide +kernel
theorem dX1_looksAlike_40 : decode cX1_looksAlike 40 = .ok (.iload 6, 2) := by decide +kernel
theorem dX1_looksAlike_42 : decode cX1_looksAlike 42 = .ok (.invokestatic 94, 3) := by decide +kernel
theorem dX1_looksAlike_45 : decode cX1_looksAlike 45 = .ok (.aload 5, 2) := by decide +kernel
theorem dX1_looksAlike_47 : decode cX1_looksAlike 47 = .ok (.getfield 75, 3) := by decide +kernel
theorem dX1_looksAlike_50 : decode cX1_looksAlike 50 = .ok (.iload_n 3, 1) := by decide +kernel
theorem dX1_looksAlike_51 : decode cX1_looksAlike 51 = .ok (.iaload, 1) := by decide +kernel
theorem dX1_looksAlike_52 : decode cX1_looksAlike 52 = .ok (.iload 6, 2) := by decide +kernel
theorem dX1_looksAlike_54 : decode cX1_looksAlike 54 = .ok (.invokestatic 94, 3) := by decide +kernel
theorem dX1_looksAlike_57 : decode cX1_looksAlike 57 = .ok (.if_icmp .ne 7, 3) := by decide +kernel
theorem dX1_looksAlike_60 : decode cX1_looksAlike 60 = .ok (.iconst 1, 1) := by decide +kernel
theorem dX1_looksAlike_61 : decode cX1_looksAlike 61 = .ok (.goto 4, 3) := by decide +kernel
theorem dX1_looksAlike_64 : decode cX1_looksAlike 64 = .ok (.iconst 0, 1) := by decide +kernel
theorem dX1_looksAlike_65 : decode cX1_looksAlike 65 = .ok (.ireturn, 1) := by decide +kernel
theorem dX2_firsts_0 : decode cX2_firsts 0 = .ok (.iconst 0, 1) := by decide +kernel
theorem dX2_firsts_1 : decode cX2_firsts 1 = .ok (.istore_n 1, 1) := by decide +kernel
theorem dX2_firsts_2 : decode cX2_firsts 2 = .ok (.iconst 0, 1) := by decide +kernel
theorem dX2_firsts_3 : decode cX2_firsts 3 = .ok (.istore_n 2, 1) := by decide +kernel
theorem dX2_firsts_4 : decode cX2_firsts 4 = .ok (.iload_n 2, 1) := by decide +kernel
theorem dX2_firsts_5 : decode cX2_firsts 5 = .ok (.aload_n 0, 1) := by decide +kernel
theorem dX2_firsts_6 : decode cX2_firsts 6 = .ok (.getfield 21, 3) := by decide +kernel
theorem dX2_firsts_9 : decode cX2_firsts 9 = .ok (.if_icmp .ge 26, 3) := by decide +kernel
theorem dX2_firsts_12 : decode cX2_firsts 12 = .ok (.iload_n 1, 1) := by decide +kernel
theorem dX2_firsts_13 : decode cX2_firsts 13 = .ok (.aload_n 0, 1) := by decide +kernel
theorem dX2_firsts_14 : decode cX2_firsts 14 = .ok (.getfield 9, 3) := by decide +kernel
theorem dX2_firsts_17 : decode cX2_firsts 17 = .ok (.iload_n 2, 1) := by decide +kernel
theorem dX2_firsts_18 : decode cX2_firsts 18 = .ok (.iaload, 1) := by decide +kernel
theorem dX2_firsts_19 : decode cX2_firsts 19 = .ok (.ifCond .ne 7, 3) := by decide +kernel
theorem dX2_firsts_22 : decode cX2_firsts 22 = .ok (.iconst 1, 1) := by decide +kernel
theorem dX2_firsts_23 : decode cX2_firsts 23 = .ok (.goto 4, 3) := by decide +kernel
theorem dX2_firsts_26 : decode cX2_firsts 26 = .ok (.iconst 0, 1) := by decide +kernel
theorem dX2_firsts_27 : decode cX2_firsts 27 = .ok (.iadd, 1) := by decide +kernel
theorem dX2_firsts_28 : decode cX2_firsts 28 = .ok (.istore_n 1, 1) := by decide +kernel
theorem dX2_firsts_29 : decode cX2_firsts 29 = .ok (.iinc 2 1, 3) := by decide +kernel
theorem dX2_firsts_32 : decode cX2_firsts 32 = .ok (.goto (-28), 3) := by decide +kernel
theorem dX2_firsts_35 : decode cX2_firsts 35 = .ok (.iload_n 1, 1) := by decide +kernel
theorem dX2_firsts_36 : decode cX2_firsts 36 = .ok (.ireturn, 1) := by decide +kernel
theorem dX2_behind_0 : decode cX2_behind 0 = .ok (.iload_n 1, 1) := by decide +kernel
theorem dX2_behind_1 : decode cX2_behind 1 = .ok (.iconst 1, 1) := by decide +kernel
theorem dX2_behind_2 : decode cX2_behind 2 = .ok (.iadd, 1) := by decide +kernel
theorem dX2_behind_3 : decode cX2_behind 3 = .ok (.istore_n 3, 1) := by decide +kernel
theorem dX2_behind_4 : decode cX2_behind 4 = .ok (.iload_n 3, 1) := by decide +kernel
theorem dX2_behind_5 : decode cX2_behind 5 = .ok (.aload_n 0, 1) := by decide +kernel
theorem dX2_behind_6 : decode cX2_behind 6 = .ok (.getfield 21, 3) := by decide +kernel
theorem dX2_behind_9 : decode cX2_behind 9 = .ok (.if_icmp .ge 21, 3) := by decide +kernel
theorem dX2_behind_12 : decode cX2_behind 12 = .ok (.aload_n 0, 1) := by decide +kernel
theorem dX2_behind_13 : decode cX2_behind 13 = .ok (.getfield 9, 3) := by decide +kernel
theorem dX2_behind_16 : decode cX2_behind 16 = .ok (.iload_n 3, 1) := by decide +kernel
theorem dX2_behind_17 : decode cX2_behind 17 = .ok (.iaload, 1) := by decide +kernel
theorem dX2_behind_18 : decode cX2_behind 18 = .ok (.iload_n 2, 1) := by decide +kernel
theorem dX2_behind_19 : decode cX2_behind 19 = .ok (.if_icmp .gt 5, 3) := by decide +kernel
theorem dX2_behind_22 : decode cX2_behind 22 = .ok (.iload_n 3, 1) := by decide +kernel
theorem dX2_behind_23 : decode cX2_behind 23 = .ok (.ireturn, 1) := by decide +kernel
theorem dX2_behind_24 : decode cX2_behind 24 = .ok (.iinc 3 1, 3) := by decide +kernel
theorem dX2_behind_27 : decode cX2_behind 27 = .ok (.goto (-23), 3) := by decide +kernel
theorem dX2_behind_30 : decode cX2_behind 30 = .ok (.aload_n 0, 1) := by decide +kernel
theorem dX2_behind_31 : decode cX2_behind 31 = .ok (.getfield 21, 3) := by decide +kernel
theorem dX2_behind_34 : decode cX2_behind 34 = .ok (.ireturn, 1) := by decide +kernel
theorem dX5_innermostAround_0 : decode cX5_innermostAround 0 = .ok (.aload_n 0, 1) := by decide +kernel
theorem dX5_innermostAround_1 : decode cX5_innermostAround 1 = .ok (.getfield 15, 3) := by decide +kernel
theorem dX5_innermostAround_4 : decode cX5_innermostAround 4 = .ok (.aload_n 0, 1) := by decide +kernel
theorem dX5_innermostAround_5 : decode cX5_innermostAround 5 = .ok (.getfield 42, 3) := by decide +kernel
theorem dX5_innermostAround_8 : decode cX5_innermostAround 8 = .ok (.iload_n 1, 1) := by decide +kernel
theorem dX5_innermostAround_9 : decode cX5_innermostAround 9 = .ok (.iaload, 1) := by decide +kernel
theorem dX5_innermostAround_10 : decode cX5_innermostAround 10 = .ok (.iaload, 1) := by decide +kernel
theorem dX5_innermostAround_11 : decode cX5_innermostAround 11 = .ok (.istore_n 3, 1) := by decide +kernel
theorem dX5_innermostAround_12 : decode cX5_innermostAround 12 = .ok (.iconst 0, 1) := by decide +kernel
theorem dX5_innermostAround_13 : decode cX5_innermostAround 13 = .ok (.istore 4, 2) := by decide +kernel
theorem dX5_innermostAround_15 : decode cX5_innermostAround 15 = .ok (.iload 4, 2) := by decide +kernel
theorem dX5_innermostAround_17 : decode cX5_innermostAround 17 = .ok (.bipush 16, 2) := by decide +kernel
theorem dX5_innermostAround_19 : decode cX5_innermostAround 19 = .ok (.if_icmp .ge 36, 3) := by decide +kernel
theorem dX5_innermostAround_22 : decode cX5_innermostAround 22 = .ok (.iload_n 3, 1) := by decide +kernel
theorem dX5_innermostAround_23 : decode cX5_innermostAround 23 = .ok (.iconst (-1), 1) := by decide +kernel
theorem dX5_innermostAround_24 : decode cX5_innermostAround 24 = .ok (.if_icmp .eq 31, 3) := by decide +kernel
theorem dX5_innermostAround_27 : decode cX5_innermostAround 27 = .ok (.aload_n 0, 1) := by decide +kernel
theorem dX5_innermostAround_28 : decode cX5_innermostAround 28 = .ok (.getfield 36, 3) := by decide +kernel
theorem dX5_innermostAround_31 : decode cX5_innermostAround 31 = .ok (.iload_n 3, 1) := by decide +kernel
theorem dX5_innermostAround_32 : decode cX5_innermostAround 32 = .ok (.iaload, 1) := by decide +kernel
theorem dX5_innermostAround_33 : decode cX5_innermostAround 33 = .ok (.iload_n 2, 1) := by decide +kernel
theorem dX5_innermostAround_34 : decode cX5_innermostAround 34 = .ok (.iushr, 1) := by decide +kernel
theorem dX5_innermostAround_35 : decode cX5_innermostAround 35 = .ok (.iconst 1, 1) := by decide +kernel
theorem dX5_innermostAround_36 : decode cX5_innermostAround 36 = .ok (.iand, 1) := by decide +kernel
theorem dX5_innermostAround_37 : decode cX5_innermostAround 37 = .ok (.ifCond .eq 5, 3) := by decide +kernel
theorem dX5_innermostAround_40 : decode cX5_innermostAround 40 = .ok (.iload_n 3, 1) := by decide +kernel
theorem dX5_innermostAround_41 : decode cX5_innermostAround 41 = .ok (.ireturn, 1) := by decide +kernel
theorem dX5_innermostAround_42 : decode cX5_innermostAround 42 = .ok (.aload_n 0, 1) := by decide +kernel
theorem dX5_innermostAround_43 : decode cX5_innermostAround 43 = .ok (.getfield 15, 3) := by decide +kernel
theorem dX5_innermostAround_46 : decode cX5_innermostAround 46 = .ok (.iload_n 3, 1) := by decide +kernel
theorem dX5_innermostAround_47 : decode cX5_innermostAround 47 = .ok (.iaload, 1) := by decide +kernel
theorem dX5_innermostAround_48 : decode cX5_innermostAround 48 = .ok (.istore_n 3, 1) := by decide +kernel
theorem dX5_innermostAround_49 : decode cX5_innermostAround 49 = .ok (.iinc 4 1, 3) := by decide +kernel
theorem dX5_innermostAround_52 : decode cX5_innermostAround 52 = .ok (.goto (-37), 3) := by decide +kernel
theorem dX5_innermostAround_55 : decode cX5_innermostAround 55 = .ok (.iconst (-1), 1) := by decide +kernel
theorem dX5_innermostAround_56 : decode cX5_innermostAround 56 = .ok (.ireturn, 1) := by decide +kernel
theorem dX5_levelOf_0 : decode cX5_levelOf 0 = .ok (.aload_n 0, 1) := by decide +kernel
theorem dX5_levelOf_1 : decode cX5_levelOf 1 = .ok (.iload_n 1, 1) := by decide +kernel
theorem dX5_levelOf_2 : decode cX5_levelOf 2 = .ok (.iload_n 2, 1) := by decide +kernel
theorem dX5_levelOf_3 : decode cX5_levelOf 3 = .ok (.invokevirtual 68, 3) := by decide +kernel
theorem dX5_levelOf_6 : decode cX5_levelOf 6 = .ok (.istore_n 3, 1) := by decide +kernel
theorem dX5_levelOf_7 : decode cX5_levelOf 7 = .ok (.iload_n 3, 1) := by decide +kernel
theorem dX5_levelOf_8 : decode cX5_levelOf 8 = .ok (.iconst (-1), 1) := by decide +kernel
theorem dX5_levelOf_9 : decode cX5_levelOf 9 = .ok (.if_icmp .ne 7, 3) := by decide +kernel
theorem dX5_levelOf_12 : decode cX5_levelOf 12 = .ok (.iconst 0, 1) := by decide +kernel
theorem dX5_levelOf_13 : decode cX5_levelOf 13 = .ok (.goto 9, 3) := by decide +kernel
theorem dX5_levelOf_16 : decode cX5_levelOf 16 = .ok (.aload_n 0, 1) := by decide +kernel
theorem dX5_levelOf_17 : decode cX5_levelOf 17 = .ok (.getfield 24, 3) := by decide +kernel
theorem dX5_levelOf_20 : decode cX5_levelOf 20 = .ok (.iload_n 3, 1) := by decide +kernel
theorem dX5_levelOf_21 : decode cX5_levelOf 21 = .ok (.iaload, 1) := by decide +kernel
theorem dX5_levelOf_22 : decode cX5_levelOf 22 = .ok (.ireturn, 1) := by decide +kernel
theorem dX5_manyAround_0 : decode cX5_manyAround 0 = .ok (.aload_n 0, 1) := by decide +kernel
theorem dX5_manyAround_1 : decode cX5_manyAround 1 = .ok (.getfield 42, 3) := by decide +kernel
theorem dX5_manyAround_4 : decode cX5_manyAround 4 = .ok (.iload_n 1, 1) := by decide +kernel
theorem dX5_manyAround_5 : decode cX5_manyAround 5 = .ok (.iaload, 1) := by decide +kernel
theorem dX5_manyAround_6 : decode cX5_manyAround 6 = .ok (.istore_n 3, 1) := by decide +kernel
theorem dX5_manyAround_7 : decode cX5_manyAround 7 = .ok (.iconst 0, 1) := by decide +kernel
theorem dX5_manyAround_8 : decode cX5_manyAround 8 = .ok (.istore 4, 2) := by decide +kernel
theorem dX5_manyAround_10 : decode cX5_manyAround 10 = .ok (.iload 4, 2) := by decide +kernel
theorem dX5_manyAround_12 : decode cX5_manyAround 12 = .ok (.bipush 16, 2) := by decide +kernel
theorem dX5_manyAround_14 : decode cX5_manyAround 14 = .ok (.if_icmp .ge 43, 3) := by decide +kernel
theorem dX5_manyAround_17 : decode cX5_manyAround 17 = .ok (.iload_n 3, 1) := by decide +kernel
theorem dX5_manyAround_18 : decode cX5_manyAround 18 = .ok (.iconst (-1), 1) := by decide +kernel
theorem dX5_manyAround_19 : decode cX5_manyAround 19 = .ok (.if_icmp .eq 38, 3) := by decide +kernel
theorem dX5_manyAround_22 : decode cX5_manyAround 22 = .ok (.aload_n 0, 1) := by decide +kernel
theorem dX5_manyAround_23 : decode cX5_manyAround 23 = .ok (.getfield 9, 3) := by decide +kernel
theorem dX5_manyAround_26 : decode cX5_manyAround 26 = .ok (.iload_n 3, 1) := by decide +kernel
theorem dX5_manyAround_27 : decode cX5_manyAround 27 = .ok (.iaload, 1) := by decide +kernel
theorem dX5_manyAround_28 : decode cX5_manyAround 28 = .ok (.iconst 2, 1) := by decide +kernel
theorem dX5_manyAround_29 : decode cX5_manyAround 29 = .ok (.if_icmp .ne 15, 3) := by decide +kernel
theorem dX5_manyAround_32 : decode cX5_manyAround 32 = .ok (.aload_n 0, 1) := by decide +kernel
theorem dX5_manyAround_33 : decode cX5_manyAround 33 = .ok (.getfield 24, 3) := by decide +kernel
theorem dX5_manyAround_36 : decode cX5_manyAround 36 = .ok (.iload_n 3, 1) := by decide +kernel
theorem dX5_manyAround_37 : decode cX5_manyAround 37 = .ok (.iaload, 1) := by decide +kernel
theorem dX5_manyAround_38 : decode cX5_manyAround 38 = .ok (.iload_n 2, 1) := by decide +kernel
theorem dX5_manyAround_39 : decode cX5_manyAround 39 = .ok (.if_icmp .ne 5, 3) := by decide +kernel
theorem dX5_manyAround_42 : decode cX5_manyAround 42 = .ok (.iload_n 3, 1) := by decide +kernel
theorem dX5_manyAround_43 : decode cX5_manyAround 43 = .ok (.ireturn, 1) := by decide +kernel
theorem dX5_manyAround_44 : decode cX5_manyAround 44 = .ok (.aload_n 0, 1) := by decide +kernel
theorem dX5_manyAround_45 : decode cX5_manyAround 45 = .ok (.getfield 15, 3) := by decide +kernel
theorem dX5_manyAround_48 : decode cX5_manyAround 48 = .ok (.iload_n 3, 1) := by decide +kernel
theorem dX5_manyAround_49 : decode cX5_manyAround 49 = .ok (.iaload, 1) := by decide +kernel
theorem dX5_manyAround_50 : decode cX5_manyAround 50 = .ok (.istore_n 3, 1) := by decide +kernel
theorem dX5_manyAround_51 : decode cX5_manyAround 51 = .ok (.iinc 4 1, 3) := by decide +kernel
theorem dX5_manyAround_54 : decode cX5_manyAround 54 = .ok (.goto (-44), 3) := by decide +kernel
theorem dX5_manyAround_57 : decode cX5_manyAround 57 = .ok (.iconst (-1), 1) := by decide +kernel
theorem dX5_manyAround_58 : decode cX5_manyAround 58 = .ok (.ireturn, 1) := by decide +kernel
