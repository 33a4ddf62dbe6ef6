theorem dX3_read_0 : decode cX3_read 0 = .ok (.aload_n 0, 1) := by decide +kernel
theorem dX3_read_1 : decode cX3_read 1 = .ok (.iconst 0, 1) := by decide +kernel
theorem dX3_read_2 : decode cX3_read 2 = .ok (.putfield 24, 3) := by decide +kernel
theorem dX3_read_5 : decode cX3_read 5 = .ok (.iconst 0, 1) := by decide +kernel
theorem dX3_read_6 : decode cX3_read 6 = .ok (.istore_n 2, 1) := by decide +kernel
theorem dX3_read_7 : decode cX3_read 7 = .ok (.iload_n 2, 1) := by decide +kernel
theorem dX3_read_8 : decode cX3_read 8 = .ok (.sipush 700, 3) := by decide +kernel
theorem dX3_read_11 : decode cX3_read 11 = .ok (.if_icmp .gt 32, 3) := by decide +kernel
theorem dX3_read_14 : decode cX3_read 14 = .ok (.aload_n 1, 1) := by decide +kernel
theorem dX3_read_15 : decode cX3_read 15 = .ok (.getfield 28, 3) := by decide +kernel
theorem dX3_read_18 : decode cX3_read 18 = .ok (.ifCond .eq 25, 3) := by decide +kernel
theorem dX3_read_21 : decode cX3_read 21 = .ok (.aload_n 0, 1) := by decide +kernel
theorem dX3_read_22 : decode cX3_read 22 = .ok (.aload_n 1, 1) := by decide +kernel
theorem dX3_read_23 : decode cX3_read 23 = .ok (.invokevirtual 33, 3) := by decide +kernel
theorem dX3_read_26 : decode cX3_read 26 = .ok (.istore_n 3, 1) := by decide +kernel
theorem dX3_read_27 : decode cX3_read 27 = .ok (.iload_n 3, 1) := by decide +kernel
theorem dX3_read_28 : decode cX3_read 28 = .ok (.ifCond .eq 5, 3) := by decide +kernel
theorem dX3_read_31 : decode cX3_read 31 = .ok (.iload_n 3, 1) := by decide +kernel
theorem dX3_read_32 : decode cX3_read 32 = .ok (.ireturn, 1) := by decide +kernel
theorem dX3_read_33 : decode cX3_read 33 = .ok (.aload_n 1, 1) := by decide +kernel
theorem dX3_read_34 : decode cX3_read 34 = .ok (.invokevirtual 37, 3) := by decide +kernel
theorem dX3_read_37 : decode cX3_read 37 = .ok (.iinc 2 1, 3) := by decide +kernel
theorem dX3_read_40 : decode cX3_read 40 = .ok (.goto (-33), 3) := by decide +kernel
theorem dX3_read_43 : decode cX3_read 43 = .ok (.iconst 0, 1) := by decide +kernel
theorem dX3_read_44 : decode cX3_read 44 = .ok (.ireturn, 1) := by decide +kernel
theorem dX3_readStep_0 : decode cX3_readStep 0 = .ok (.aload_n 1, 1) := by decide +kernel
theorem dX3_readStep_1 : decode cX3_readStep 1 = .ok (.invokestatic 40, 3) := by decide +kernel
theorem dX3_readStep_4 : decode cX3_readStep 4 = .ok (.istore_n 2, 1) := by decide +kernel
theorem dX3_readStep_5 : decode cX3_readStep 5 = .ok (.iload_n 2, 1) := by decide +kernel
theorem dX3_readStep_6 : decode cX3_readStep 6 = .ok (.iconst (-1), 1) := by decide +kernel
theorem dX3_readStep_7 : decode cX3_readStep 7 = .ok (.if_icmp .ne 5, 3) := by decide +kernel
theorem dX3_readStep_10 : decode cX3_readStep 10 = .ok (.iconst 1, 1) := by decide +kernel
theorem dX3_readStep_11 : decode cX3_readStep 11 = .ok (.ireturn, 1) := by decide +kernel
theorem dX3_readStep_12 : decode cX3_readStep 12 = .ok (.aload_n 0, 1) := by decide +kernel
theorem dX3_readStep_13 : decode cX3_readStep 13 = .ok (.getfield 24, 3) := by decide +kernel
theorem dX3_readStep_16 : decode cX3_readStep 16 = .ok (.bipush 8, 2) := by decide +kernel
theorem dX3_readStep_18 : decode cX3_readStep 18 = .ok (.if_icmp .lt 5, 3) := by decide +kernel
theorem dX3_readStep_21 : decode cX3_readStep 21 = .ok (.iconst 2, 1) := by decide +kernel
theorem dX3_readStep_22 : decode cX3_readStep 22 = .ok (.ireturn, 1) := by decide +kernel
theorem dX3_readStep_23 : decode cX3_readStep 23 = .ok (.aload_n 1, 1) := by decide +kernel
theorem dX3_readStep_24 : decode cX3_readStep 24 = .ok (.invokevirtual 37, 3) := by decide +kernel
theorem dX3_readStep_27 : decode cX3_readStep 27 = .ok (.aload_n 1, 1) := by decide +kernel
theorem dX3_readStep_28 : decode cX3_readStep 28 = .ok (.invokevirtual 43, 3) := by decide +kernel
theorem dX3_readStep_31 : decode cX3_readStep 31 = .ok (.istore_n 3, 1) := by decide +kernel
theorem dX3_readStep_32 : decode cX3_readStep 32 = .ok (.iload_n 3, 1) := by decide +kernel
theorem dX3_readStep_33 : decode cX3_readStep 33 = .ok (.ifCond .eq 5, 3) := by decide +kernel
theorem dX3_readStep_36 : decode cX3_readStep 36 = .ok (.iload_n 3, 1) := by decide +kernel
theorem dX3_readStep_37 : decode cX3_readStep 37 = .ok (.ireturn, 1) := by decide +kernel
theorem dX3_readStep_38 : decode cX3_readStep 38 = .ok (.iload_n 2, 1) := by decide +kernel
theorem dX3_readStep_39 : decode cX3_readStep 39 = .ok (.iconst 2, 1) := by decide +kernel
theorem dX3_readStep_40 : decode cX3_readStep 40 = .ok (.if_icmp .ne 12, 3) := by decide +kernel
theorem dX3_readStep_43 : decode cX3_readStep 43 = .ok (.aload_n 1, 1) := by decide +kernel
theorem dX3_readStep_44 : decode cX3_readStep 44 = .ok (.invokevirtual 47, 3) := by decide +kernel
theorem dX3_readStep_47 : decode cX3_readStep 47 = .ok (.ifCond .ne 5, 3) := by decide +kernel
theorem dX3_readStep_50 : decode cX3_readStep 50 = .ok (.iconst 2, 1) := by decide +kernel
theorem dX3_readStep_51 : decode cX3_readStep 51 = .ok (.ireturn, 1) := by decide +kernel
theorem dX3_readStep_52 : decode cX3_readStep 52 = .ok (.aload_n 0, 1) := by decide +kernel
theorem dX3_readStep_53 : decode cX3_readStep 53 = .ok (.getfield 15, 3) := by decide +kernel
theorem dX3_readStep_56 : decode cX3_readStep 56 = .ok (.aload_n 0, 1) := by decide +kernel
theorem dX3_readStep_57 : decode cX3_readStep 57 = .ok (.getfield 24, 3) := by decide +kernel
theorem dX3_readStep_60 : decode cX3_readStep 60 = .ok (.iload_n 2, 1) := by decide +kernel
theorem dX3_readStep_61 : decode cX3_readStep 61 = .ok (.iastore, 1) := by decide +kernel
theorem dX3_readStep_62 : decode cX3_readStep 62 = .ok (.aload_n 0, 1) := by decide +kernel
theorem dX3_readStep_63 : decode cX3_readStep 63 = .ok (.getfield 18, 3) := by decide +kernel
theorem dX3_readStep_66 : decode cX3_readStep 66 = .ok (.aload_n 0, 1) := by decide +kernel
theorem dX3_readStep_67 : decode cX3_readStep 67 = .ok (.getfield 24, 3) := by decide +kernel
theorem dX3_readStep_70 : decode cX3_readStep 70 = .ok (.aload_n 1, 1) := by decide +kernel
theorem dX3_readStep_71 : decode cX3_readStep 71 = .ok (.invokevirtual 47, 3) := by decide +kernel
theorem dX3_readStep_74 : decode cX3_readStep 74 = .ok (.iastore, 1) := by decide +kernel
theorem dX3_readStep_75 : decode cX3_readStep 75 = .ok (.aload_n 0, 1) := by decide +kernel
theorem dX3_readStep_76 : decode cX3_readStep 76 = .ok (.dup, 1) := by decide +kernel
theorem dX3_readStep_77 : decode cX3_readStep 77 = .ok (.getfield 24, 3) := by decide +kernel
theorem dX3_readStep_80 : decode cX3_readStep 80 = .ok (.iconst 1, 1) := by decide +kernel
theorem dX3_readStep_81 : decode cX3_readStep 81 = .ok (.iadd, 1) := by decide +kernel
theorem dX3_readStep_82 : decode cX3_readStep 82 = .ok (.putfield 24, 3) := by decide +kernel
theorem dX3_readStep_85 : decode cX3_readStep 85 = .ok (.aload_n 1, 1) := by decide +kernel
theorem dX3_readStep_86 : decode cX3_readStep 86 = .ok (.invokevirtual 37, 3) := by decide +kernel
theorem dX3_readStep_89 : decode cX3_readStep 89 = .ok (.aload_n 1, 1) := by decide +kernel
theorem dX3_readStep_90 : decode cX3_readStep 90 = .ok (.getfield 28, 3) := by decide +kernel
theorem dX3_readStep_93 : decode cX3_readStep 93 = .ok (.bipush 59, 2) := by decide +kernel
theorem dX3_readStep_95 : decode cX3_readStep 95 = .ok (.if_icmp .ne 7, 3) := by decide +kernel
theorem dX3_readStep_98 : decode cX3_readStep 98 = .ok (.iconst 0, 1) := by decide +kernel
theorem dX3_readStep_99 : decode cX3_readStep 99 = .ok (.goto 4, 3) := by decide +kernel
theorem dX3_readStep_102 : decode cX3_readStep 102 = .ok (.iconst 1, 1) := by decide +kernel
theorem dX3_readStep_103 : decode cX3_readStep 103 = .ok (.ireturn, 1) := by decide +kernel
theorem dX3_run_0 : decode cX3_run 0 = .ok (.aload_n 0, 1) := by decide +kernel
theorem dX3_run_1 : decode cX3_run 1 = .ok (.iconst 0, 1) := by decide +kernel
theorem dX3_run_2 : decode cX3_run 2 = .ok (.putfield 67, 3) := by decide +kernel
theorem dX3_run_5 : decode cX3_run 5 = .ok (.iconst 0, 1) := by decide +kernel
theorem dX3_run_6 : decode cX3_run 6 = .ok (.istore_n 2, 1) := by decide +kernel
theorem dX3_run_7 : decode cX3_run 7 = .ok (.iload_n 2, 1) := by decide +kernel
theorem dX3_run_8 : decode cX3_run 8 = .ok (.bipush 8, 2) := by decide +kernel
theorem dX3_run_10 : decode cX3_run 10 = .ok (.if_icmp .ge 16, 3) := by decide +kernel
theorem dX3_run_13 : decode cX3_run 13 = .ok (.aload_n 0, 1) := by decide +kernel
theorem dX3_run_14 : decode cX3_run 14 = .ok (.getfield 21, 3) := by decide +kernel
theorem dX3_run_17 : decode cX3_run 17 = .ok (.iload_n 2, 1) := by decide +kernel
theorem dX3_run_18 : decode cX3_run 18 = .ok (.iconst 0, 1) := by decide +kernel
theorem dX3_run_19 : decode cX3_run 19 = .ok (.iastore, 1) := by decide +kernel
theorem dX3_run_20 : decode cX3_run 20 = .ok (.iinc 2 1, 3) := by decide +kernel
theorem dX3_run_23 : decode cX3_run 23 = .ok (.goto (-16), 3) := by decide +kernel
theorem dX3_run_26 : decode cX3_run 26 = .ok (.iconst 0, 1) := by decide +kernel
theorem dX3_run_27 : decode cX3_run 27 = .ok (.istore_n 2, 1) := by decide +kernel
theorem dX3_run_28 : decode cX3_run 28 = .ok (.iload_n 2, 1) := by decide +kernel
theorem dX3_run_29 : decode cX3_run 29 = .ok (.aload_n 1, 1) := by decide +kernel
theorem dX3_run_30 : decode cX3_run 30 = .ok (.getfield 70, 3) := by decide +kernel
theorem dX3_run_33 : decode cX3_run 33 = .ok (.if_icmp .ge 27, 3) := by decide +kernel
theorem dX3_run_36 : decode cX3_run 36 = .ok (.aload_n 1, 1) := by decide +kernel
theorem dX3_run_37 : decode cX3_run 37 = .ok (.iload_n 2, 1) := by decide +kernel
theorem dX3_run_38 : decode cX3_run 38 = .ok (.invokevirtual 75, 3) := by decide +kernel
theorem dX3_run_41 : decode cX3_run 41 = .ok (.ifCond .eq 13, 3) := by decide +kernel
theorem dX3_run_44 : decode cX3_run 44 = .ok (.aload_n 0, 1) := by decide +kernel
theorem dX3_run_45 : decode cX3_run 45 = .ok (.aload_n 1, 1) := by decide +kernel
theorem dX3_run_46 : decode cX3_run 46 = .ok (.getfield 79, 3) := by decide +kernel
theorem dX3_run_49 : decode cX3_run 49 = .ok (.iload_n 2, 1) := by decide +kernel
theorem dX3_run_50 : decode cX3_run 50 = .ok (.iaload, 1) := by decide +kernel
theorem dX3_run_51 : decode cX3_run 51 = .ok (.invokevirtual 82, 3) := by decide +kernel
theorem dX3_run_54 : decode cX3_run 54 = .ok (.iinc 2 1, 3) := by decide +kernel
theorem dX3_run_57 : decode cX3_run 57 = .ok (.goto (-29), 3) := by decide +kernel
theorem dX3_run_60 : decode cX3_run 60 = .ok (.aload_n 0, 1) := by decide +kernel
theorem dX3_run_61 : decode cX3_run 61 = .ok (.getfield 67, 3) := by decide +kernel
theorem dX3_run_64 : decode cX3_run 64 = .ok (.ireturn, 1) := by decide +kernel
theorem dX3_send_0 : decode cX3_send 0 = .ok (.iload_n 1, 1) := by decide +kernel
theorem dX3_send_1 : decode cX3_send 1 = .ok (.istore_n 2, 1) := by decide +kernel
theorem dX3_send_2 : decode cX3_send 2 = .ok (.iconst 0, 1) := by decide +kernel
theorem dX3_send_3 : decode cX3_send 3 = .ok (.istore_n 3, 1) := by decide +kernel
theorem dX3_send_4 : decode cX3_send 4 = .ok (.iload_n 3, 1) := by decide +kernel
theorem dX3_send_5 : decode cX3_send 5 = .ok (.aload_n 0, 1) := by decide +kernel
theorem dX3_send_6 : decode cX3_send 6 = .ok (.getfield 24, 3) := by decide +kernel
theorem dX3_send_9 : decode cX3_send 9 = .ok (.if_icmp .ge 26, 3) := by decide +kernel
theorem dX3_send_12 : decode cX3_send 12 = .ok (.aload_n 0, 1) := by decide +kernel
theorem dX3_send_13 : decode cX3_send 13 = .ok (.iload_n 3, 1) := by decide +kernel
theorem dX3_send_14 : decode cX3_send 14 = .ok (.iload_n 2, 1) := by decide +kernel
theorem dX3_send_15 : decode cX3_send 15 = .ok (.invokevirtual 86, 3) := by decide +kernel
theorem dX3_send_18 : decode cX3_send 18 = .ok (.ifCond .ne 4, 3) := by decide +kernel
theorem dX3_send_21 : decode cX3_send 21 = .ok (.return_, 1) := by decide +kernel
theorem dX3_send_22 : decode cX3_send 22 = .ok (.aload_n 0, 1) := by decide +kernel
theorem dX3_send_23 : decode cX3_send 23 = .ok (.iload_n 3, 1) := by decide +kernel
theorem dX3_send_24 : decode cX3_send 24 = .ok (.iload_n 2, 1) := by decide +kernel
theorem dX3_send_25 : decode cX3_send 25 = .ok (.invokevirtual 90, 3) := by decide +kernel
theorem dX3_send_28 : decode cX3_send 28 = .ok (.istore_n 2, 1) := by decide +kernel
theorem dX3_send_29 : decode cX3_send 29 = .ok (.iinc 3 1, 3) := by decide +kernel
theorem dX3_send_32 : decode cX3_send 32 = .ok (.goto (-28), 3) := by decide +kernel
theorem dX3_send_35 : decode cX3_send 35 = .ok (.aload_n 0, 1) := by decide +kernel
theorem dX3_send_36 : decode cX3_send 36 = .ok (.getfield 67, 3) := by decide +kernel
theorem dX3_send_39 : decode cX3_send 39 = .ok (.bipush 120, 2) := by decide +kernel
theorem dX3_send_41 : decode cX3_send 41 = .ok (.if_icmp .ge 23, 3) := by decide +kernel
theorem dX3_send_44 : decode cX3_send 44 = .ok (.aload_n 0, 1) := by decide +kernel
theorem dX3_send_45 : decode cX3_send 45 = .ok (.getfield 9, 3) := by decide +kernel
theorem dX3_send_48 : decode cX3_send 48 = .ok (.aload_n 0, 1) := by decide +kernel
theorem dX3_send_49 : decode cX3_send 49 = .ok (.getfield 67, 3) := by decide +kernel
theorem dX3_send_52 : decode cX3_send 52 = .ok (.iload_n 2, 1) := by decide +kernel
theorem dX3_send_53 : decode cX3_send 53 = .ok (.iastore, 1) := by decide +kernel
theorem dX3_send_54 : decode cX3_send 54 = .ok (.aload_n 0, 1) := by decide +kernel
theorem dX3_send_55 : decode cX3_send 55 = .ok (.dup, 1) := by decide +kernel
theorem dX3_send_56 : decode cX3_send 56 = .ok (.getfield 67, 3) := by decide +kernel
theorem dX3_send_59 : decode cX3_send 59 = .ok (.iconst 1, 1) := by decide +kernel
theorem dX3_send_60 : decode cX3_send 60 = .ok (.iadd, 1) := by decide +kernel
theorem dX3_send_61 : decode cX3_send 61 = .ok (.putfield 67, 3) := by decide +kernel
theorem dX3_send_64 : decode cX3_send 64 = .ok (.return_, 1) := by decide +kernel
theorem dX3_goesOn_0 : decode cX3_goesOn 0 = .ok (.aload_n 0, 1) := by decide +kernel
theorem dX3_goesOn_1 : decode cX3_goesOn 1 = .ok (.getfield 21, 3) := by decide +kernel
theorem dX3_goesOn_4 : decode cX3_goesOn 4 = .ok (.iload_n 1, 1) := by decide +kernel
theorem dX3_goesOn_5 : decode cX3_goesOn 5 = .ok (.iaload, 1) := by decide +kernel
theorem dX3_goesOn_6 : decode cX3_goesOn 6 = .ok (.istore_n 3, 1) := by decide +kernel
theorem dX3_goesOn_7 : decode cX3_goesOn 7 = .ok (.aload_n 0, 1) := by decide +kernel
theorem dX3_goesOn_8 : decode cX3_goesOn 8 = .ok (.getfield 21, 3) := by decide +kernel
theorem dX3_goesOn_11 : decode cX3_goesOn 11 = .ok (.iload_n 1, 1) := by decide +kernel
theorem dX3_goesOn_12 : decode cX3_goesOn 12 = .ok (.dup2, 1) := by decide +kernel
theorem dX3_goesOn_13 : decode cX3_goesOn 13 = .ok (.iaload, 1) := by decide +kernel
theorem dX3_goesOn_14 : decode cX3_goesOn 14 = .ok (.iconst 1, 1) := by decide +kernel
theorem dX3_goesOn_15 : decode cX3_goesOn 15 = .ok (.iadd, 1) := by decide +kernel
theorem dX3_goesOn_16 : decode cX3_goesOn 16 = .ok (.iastore, 1) := by decide +kernel
theorem dX3_goesOn_17 : decode cX3_goesOn 17 = .ok (.aload_n 0, 1) := by decide +kernel
theorem dX3_goesOn_18 : decode cX3_goesOn 18 = .ok (.getfield 15, 3) := by decide +kernel
theorem dX3_goesOn_21 : decode cX3_goesOn 21 = .ok (.iload_n 1, 1) := by decide +kernel
theorem dX3_goesOn_22 : decode cX3_goesOn 22 = .ok (.iaload, 1) := by decide +kernel
theorem dX3_goesOn_23 : decode cX3_goesOn 23 = .ok (.tableswitch 96 3 6 #[29, 45, 61, 77], 29) := by decide +kernel
theorem dX3_goesOn_52 : decode cX3_goesOn 52 = .ok (.iload_n 2, 1) := by decide +kernel
theorem dX3_goesOn_53 : decode cX3_goesOn 53 = .ok (.aload_n 0, 1) := by decide +kernel
theorem dX3_goesOn_54 : decode cX3_goesOn 54 = .ok (.getfield 18, 3) := by decide +kernel
theorem dX3_goesOn_57 : decode cX3_goesOn 57 = .ok (.iload_n 1, 1) := by decide +kernel
theorem dX3_goesOn_58 : decode cX3_goesOn 58 = .ok (.iaload, 1) := by decide +kernel
theorem dX3_goesOn_59 : decode cX3_goesOn 59 = .ok (.if_icmp .ge 7, 3) := by decide +kernel
theorem dX3_goesOn_62 : decode cX3_goesOn 62 = .ok (.iconst 1, 1) := by decide +kernel
theorem dX3_goesOn_63 : decode cX3_goesOn 63 = .ok (.goto 4, 3) := by decide +kernel
theorem dX3_goesOn_66 : decode cX3_goesOn 66 = .ok (.iconst 0, 1) := by decide +kernel
theorem dX3_goesOn_67 : decode cX3_goesOn 67 = .ok (.ireturn, 1) := by decide +kernel
theorem dX3_goesOn_68 : decode cX3_goesOn 68 = .ok (.iload_n 2, 1) := by decide +kernel
theorem dX3_goesOn_69 : decode cX3_goesOn 69 = .ok (.aload_n 0, 1) := by decide +kernel
theorem dX3_goesOn_70 : decode cX3_goesOn 70 = .ok (.getfield 18, 3) := by decide +kernel
theorem dX3_goesOn_73 : decode cX3_goesOn 73 = .ok (.iload_n 1, 1) := by decide +kernel
theorem dX3_goesOn_74 : decode cX3_goesOn 74 = .ok (.iaload, 1) := by decide +kernel
theorem dX3_goesOn_75 : decode cX3_goesOn 75 = .ok (.if_icmp .le 7, 3) := by decide +kernel
theorem dX3_goesOn_78 : decode cX3_goesOn 78 = .ok (.iconst 1, 1) := by decide +kernel
theorem dX3_goesOn_79 : decode cX3_goesOn 79 = .ok (.goto 4, 3) := by decide +kernel
theorem dX3_goesOn_82 : decode cX3_goesOn 82 = .ok (.iconst 0, 1) := by decide +kernel
theorem dX3_goesOn_83 : decode cX3_goesOn 83 = .ok (.ireturn, 1) := by decide +kernel
theorem dX3_goesOn_84 : decode cX3_goesOn 84 = .ok (.iload_n 3, 1) := by decide +kernel
theorem dX3_goesOn_85 : decode cX3_goesOn 85 = .ok (.aload_n 0, 1) := by decide +kernel
theorem dX3_goesOn_86 : decode cX3_goesOn 86 = .ok (.getfield 18, 3) := by decide +kernel
theorem dX3_goesOn_89 : decode cX3_goesOn 89 = .ok (.iload_n 1, 1) := by decide +kernel
theorem dX3_goesOn_90 : decode cX3_goesOn 90 = .ok (.iaload, 1) := by decide +kernel
theorem dX3_goesOn_91 : decode cX3_goesOn 91 = .ok (.if_icmp .ge 7, 3) := by decide +kernel
theorem dX3_goesOn_94 : decode cX3_goesOn 94 = .ok (.iconst 1, 1) := by decide +kernel
theorem dX3_goesOn_95 : decode cX3_goesOn 95 = .ok (.goto 4, 3) := by decide +kernel
theorem dX3_goesOn_98 : decode cX3_goesOn 98 = .ok (.iconst 0, 1) := by decide +kernel
theorem dX3_goesOn_99 : decode cX3_goesOn 99 = .ok (.ireturn, 1) := by decide +kernel
theorem dX3_goesOn_100 : decode cX3_goesOn 100 = .ok (.iload_n 3, 1) := by decide +kernel
theorem dX3_goesOn_101 : decode cX3_goesOn 101 = .ok (.aload_n 0, 1) := by decide +kernel
theorem dX3_goesOn_102 : decode cX3_goesOn 102 = .ok (.getfield 18, 3) := by decide +kernel
theorem dX3_goesOn_105 : decode cX3_goesOn 105 = .ok (.iload_n 1, 1) := by decide +kernel
theorem dX3_goesOn_106 : decode cX3_goesOn 106 = .ok (.iaload, 1) := by decide +kernel
theorem dX3_goesOn_107 : decode cX3_goesOn 107 = .ok (.iconst 1, 1) := by decide +kernel
theorem dX3_goesOn_108 : decode cX3_goesOn 108 = .ok (.iadd, 1) := by decide +kernel
theorem dX3_goesOn_109 : decode cX3_goesOn 109 = .ok (.irem, 1) := by decide +kernel
theorem dX3_goesOn_110 : decode cX3_goesOn 110 = .ok (.ifCond .ne 7, 3) := by decide +kernel
theorem dX3_goesOn_113 : decode cX3_goesOn 113 = .ok (.iconst 1, 1) := by decide +kernel
theorem dX3_goesOn_114 : decode cX3_goesOn 114 = .ok (.goto 4, 3) := by decide +kernel
theorem dX3_goesOn_117 : decode cX3_goesOn 117 = .ok (.iconst 0, 1) := by decide +kernel
theorem dX3_goesOn_118 : decode cX3_goesOn 118 = .ok (.ireturn, 1) := by decide +kernel
theorem dX3_goesOn_119 : decode cX3_goesOn 119 = .ok (.iconst 1, 1) := by decide +kernel
theorem dX3_goesOn_120 : decode cX3_goesOn 120 = .ok (.ireturn, 1) := by decide +kernel
theorem dX3_changed_0 : decode cX3_changed 0 = .ok (.aload_n 0, 1) := by decide +kernel
theorem dX3_changed_1 : decode cX3_changed 1 = .ok (.getfield 18, 3) := by decide +kernel
theorem dX3_changed_4 : decode cX3_changed 4 = .ok (.iload_n 1, 1) := by decide +kernel
theorem dX3_changed_5 : decode cX3_changed 5 = .ok (.iaload, 1) := by decide +kernel
theorem dX3_changed_6 : decode cX3_changed 6 = .ok (.istore_n 3, 1) := by decide +kernel
theorem dX3_changed_7 : decode cX3_changed 7 = .ok (.aload_n 0, 1) := by decide +kernel
theorem dX3_changed_8 : decode cX3_changed 8 = .ok (.getfield 15, 3) := by decide +kernel
theorem dX3_changed_11 : decode cX3_changed 11 = .ok (.iload_n 1, 1) := by decide +kernel
theorem dX3_changed_12 : decode cX3_changed 12 = .ok (.iaload, 1) := by decide +kernel
theorem dX3_changed_13 : decode cX3_changed 13 = .ok (.tableswitch 47 0 2 #[27, 31, 35], 27) := by decide +kernel
theorem dX3_changed_40 : decode cX3_changed 40 = .ok (.iload_n 2, 1) := by decide +kernel
theorem dX3_changed_41 : decode cX3_changed 41 = .ok (.iload_n 3, 1) := by decide +kernel
theorem dX3_changed_42 : decode cX3_changed 42 = .ok (.iadd, 1) := by decide +kernel
theorem dX3_changed_43 : decode cX3_changed 43 = .ok (.ireturn, 1) := by decide +kernel
theorem dX3_changed_44 : decode cX3_changed 44 = .ok (.iload_n 2, 1) := by decide +kernel
theorem dX3_changed_45 : decode cX3_changed 45 = .ok (.iload_n 3, 1) := by decide +kernel
theorem dX3_changed_46 : decode cX3_changed 46 = .ok (.imul, 1) := by decide +kernel
theorem dX3_changed_47 : decode cX3_changed 47 = .ok (.ireturn, 1) := by decide +kernel
theorem dX3_changed_48 : decode cX3_changed 48 = .ok (.iload_n 3, 1) := by decide +kernel
theorem dX3_changed_49 : decode cX3_changed 49 = .ok (.ifCond .ne 7, 3) := by decide +kernel
theorem dX3_changed_52 : decode cX3_changed 52 = .ok (.iload_n 2, 1) := by decide +kernel
theorem dX3_changed_53 : decode cX3_changed 53 = .ok (.goto 6, 3) := by decide +kernel
theorem dX3_changed_56 : decode cX3_changed 56 = .ok (.iload_n 2, 1) := by decide +kernel
theorem dX3_changed_57 : decode cX3_changed 57 = .ok (.iload_n 3, 1) := by decide +kernel
theorem dX3_changed_58 : decode cX3_changed 58 = .ok (.irem, 1) := by decide +kernel
theorem dX3_changed_59 : decode cX3_changed 59 = .ok (.ireturn, 1) := by decide +kernel
theorem dX3_changed_60 : decode cX3_changed 60 = .ok (.iload_n 2, 1) := by decide +kernel
theorem dX3_changed_61 : decode cX3_changed 61 = .ok (.ireturn, 1) := by decide +kernel
theorem dX4_init_0 : decode cX4_init 0 = .ok (.aload_n 0, 1) := by decide +kernel
theorem dX4_init_1 : decode cX4_init 1 = .ok (.invokespecial 3, 3) := by decide +kernel
theorem dX4_init_4 : decode cX4_init 4 = .ok (.aload_n 0, 1) := by decide +kernel
theorem dX4_init_5 : decode cX4_init 5 = .ok (.bipush 8, 2) := by decide +kernel
theorem dX4_init_7 : decode cX4_init 7 = .ok (.newarray .int, 2) := by decide +kernel
theorem dX4_init_9 : decode cX4_init 9 = .ok (.putfield 9, 3) := by decide +kernel
theorem dX4_init_12 : decode cX4_init 12 = .ok (.return_, 1) := by decide +kernel
theorem dX4_fail_0 : decode cX4_fail 0 = .ok (.aload_n 0, 1) := by decide +kernel
theorem dX4_fail_1 : decode cX4_fail 1 = .ok (.iload_n 1, 1) := by decide +kernel
theorem dX4_fail_2 : decode cX4_fail 2 = .ok (.putfield 27, 3) := by decide +kernel
theorem dX4_fail_5 : decode cX4_fail 5 = .ok (.iconst 0, 1) := by decide +kernel
theorem dX4_fail_6 : decode cX4_fail 6 = .ok (.ireturn, 1) := by decide +kernel
theorem dX4_canBegin_0 : decode cX4_canBegin 0 = .ok (.aload_n 0, 1) := by decide +kernel
theorem dX4_canBegin_1 : decode cX4_canBegin 1 = .ok (.getfield 19, 3) := by decide +kernel
theorem dX4_canBegin_4 : decode cX4_canBegin 4 = .ok (.getfield 74, 3) := by decide +kernel
theorem dX4_canBegin_7 : decode cX4_canBegin 7 = .ok (.iload_n 1, 1) := by decide +kernel
theorem dX4_canBegin_8 : decode cX4_canBegin 8 = .ok (.iaload, 1) := by decide +kernel
theorem dX4_canBegin_9 : decode cX4_canBegin 9 = .ok (.iconst 2, 1) := by decide +kernel
theorem dX4_canBegin_10 : decode cX4_canBegin 10 = .ok (.if_icmp .ne 21, 3) := by decide +kernel
theorem dX4_canBegin_13 : decode cX4_canBegin 13 = .ok (.aload_n 0, 1) := by decide +kernel
theorem dX4_canBegin_14 : decode cX4_canBegin 14 = .ok (.getfield 15, 3) := by decide +kernel
theorem dX4_canBegin_17 : decode cX4_canBegin 17 = .ok (.getfield 51, 3) := by decide +kernel
theorem dX4_canBegin_20 : decode cX4_canBegin 20 = .ok (.bipush 91, 2) := by decide +kernel
theorem dX4_canBegin_22 : decode cX4_canBegin 22 = .ok (.if_icmp .ne 7, 3) := by decide +kernel
theorem dX4_canBegin_25 : decode cX4_canBegin 25 = .ok (.iconst 1, 1) := by decide +kernel
theorem dX4_canBegin_26 : decode cX4_canBegin 26 = .ok (.goto 4, 3) := by decide +kernel
theorem dX4_canBegin_29 : decode cX4_canBegin 29 = .ok (.iconst 0, 1) := by decide +kernel
theorem dX4_canBegin_30 : decode cX4_canBegin 30 = .ok (.ireturn, 1) := by decide +kernel
theorem dX4_canBegin_31 : decode cX4_canBegin 31 = .ok (.aload_n 0, 1) := by decide +kernel
theorem dX4_canBegin_32 : decode cX4_canBegin 32 = .ok (.getfield 19, 3) := by decide +kernel
theorem dX4_canBegin_35 : decode cX4_canBegin 35 = .ok (.getfield 74, 3) := by decide +kernel
theorem dX4_canBegin_38 : decode cX4_canBegin 38 = .ok (.iload_n 1, 1) := by decide +kernel
theorem dX4_canBegin_39 : decode cX4_canBegin 39 = .ok (.iaload, 1) := by decide +kernel
theorem dX4_canBegin_40 : decode cX4_canBegin 40 = .ok (.iconst 1, 1) := by decide +kernel
theorem dX4_canBegin_41 : decode cX4_canBegin 41 = .ok (.if_icmp .ne 17, 3) := by decide +kernel
theorem dX4_canBegin_44 : decode cX4_canBegin 44 = .ok (.aload_n 0, 1) := by decide +kernel
theorem dX4_canBegin_45 : decode cX4_canBegin 45 = .ok (.getfield 15, 3) := by decide +kernel
theorem dX4_canBegin_48 : decode cX4_canBegin 48 = .ok (.getfield 51, 3) := by decide +kernel
theorem dX4_canBegin_51 : decode cX4_canBegin 51 = .ok (.bipush 45, 2) := by decide +kernel
theorem dX4_canBegin_53 : decode cX4_canBegin 53 = .ok (.if_icmp .ne 5, 3) := by decide +kernel
theorem dX4_canBegin_56 : decode cX4_canBegin 56 = .ok (.iconst 1, 1) := by decide +kernel
theorem dX4_canBegin_57 : decode cX4_canBegin 57 = .ok (.ireturn, 1) := by decide +kernel
theorem dX4_canBegin_58 : decode cX4_canBegin 58 = .ok (.aload_n 0, 1) := by decide +kernel
theorem dX4_canBegin_59 : decode cX4_canBegin 59 = .ok (.getfield 15, 3) := by decide +kernel
theorem dX4_canBegin_62 : decode cX4_canBegin 62 = .ok (.getfield 51, 3) := by decide +kernel
theorem dX4_canBegin_65 : decode cX4_canBegin 65 = .ok (.aload_n 0, 1) := by decide +kernel
theorem dX4_canBegin_66 : decode cX4_canBegin 66 = .ok (.getfield 19, 3) := by decide +kernel
theorem dX4_canBegin_69 : decode cX4_canBegin 69 = .ok (.getfield 77, 3) := by decide +kernel
theorem dX4_canBegin_72 : decode cX4_canBegin 72 = .ok (.iload_n 1, 1) := by decide +kernel
theorem dX4_canBegin_73 : decode cX4_canBegin 73 = .ok (.iaload, 1) := by decide +kernel
theorem dX4_canBegin_74 : decode cX4_canBegin 74 = .ok (.iconst (-1), 1) := by decide +kernel
theorem dX4_canBegin_75 : decode cX4_canBegin 75 = .ok (.if_icmp .ne 8, 3) := by decide +kernel
theorem dX4_canBegin_78 : decode cX4_canBegin 78 = .ok (.bipush 40, 2) := by decide +kernel
theorem dX4_canBegin_80 : decode cX4_canBegin 80 = .ok (.goto 4, 3) := by decide +kernel
theorem dX4_canBegin_83 : decode cX4_canBegin 83 = .ok (.iconst 2, 1) := by decide +kernel
theorem dX4_canBegin_84 : decode cX4_canBegin 84 = .ok (.if_icmp .ne 7, 3) := by decide +kernel
theorem dX4_canBegin_87 : decode cX4_canBegin 87 = .ok (.iconst 1, 1) := by decide +kernel
theorem dX4_canBegin_88 : decode cX4_canBegin 88 = .ok (.goto 4, 3) := by decide +kernel
theorem dX4_canBegin_91 : decode cX4_canBegin 91 = .ok (.iconst 0, 1) := by decide +kernel
theorem dX4_canBegin_92 : decode cX4_canBegin 92 = .ok (.ireturn, 1) := by decide +kernel
theorem dX4_readFields_0 : decode cX4_readFields 0 = .ok (.iload_n 2, 1) := by decide +kernel
theorem dX4_readFields_1 : decode cX4_readFields 1 = .ok (.iconst 3, 1) := by decide +kernel
theorem dX4_readFields_2 : decode cX4_readFields 2 = .ok (.if_icmp .le 9, 3) := by decide +kernel
theorem dX4_readFields_5 : decode cX4_readFields 5 = .ok (.aload_n 0, 1) := by decide +kernel
theorem dX4_readFields_6 : decode cX4_readFields 6 = .ok (.iconst 1, 1) := by decide +kernel
theorem dX4_readFields_7 : decode cX4_readFields 7 = .ok (.invokevirtual 68, 3) := by decide +kernel
theorem dX4_readFields_10 : decode cX4_readFields 10 = .ok (.ireturn, 1) := by decide +kernel
theorem dX4_readFields_11 : decode cX4_readFields 11 = .ok (.iconst 0, 1) := by decide +kernel
theorem dX4_readFields_12 : decode cX4_readFields 12 = .ok (.istore 5, 2) := by decide +kernel
theorem dX4_readFields_14 : decode cX4_readFields 14 = .ok (.iload 5, 2) := by decide +kernel
theorem dX4_readFields_16 : decode cX4_readFields 16 = .ok (.aload_n 0, 1) := by decide +kernel
theorem dX4_readFields_17 : decode cX4_readFields 17 = .ok (.getfield 19, 3) := by decide +kernel
theorem dX4_readFields_20 : decode cX4_readFields 20 = .ok (.getfield 80, 3) := by decide +kernel
theorem dX4_readFields_23 : decode cX4_readFields 23 = .ok (.if_icmp .ge 38, 3) := by decide +kernel
theorem dX4_readFields_26 : decode cX4_readFields 26 = .ok (.aload_n 0, 1) := by decide +kernel
theorem dX4_readFields_27 : decode cX4_readFields 27 = .ok (.getfield 19, 3) := by decide +kernel
theorem dX4_readFields_30 : decode cX4_readFields 30 = .ok (.getfield 83, 3) := by decide +kernel
theorem dX4_readFields_33 : decode cX4_readFields 33 = .ok (.iload 5, 2) := by decide +kernel
theorem dX4_readFields_35 : decode cX4_readFields 35 = .ok (.iaload, 1) := by decide +kernel
theorem dX4_readFields_36 : decode cX4_readFields 36 = .ok (.iload_n 1, 1) := by decide +kernel
theorem dX4_readFields_37 : decode cX4_readFields 37 = .ok (.if_icmp .ne 18, 3) := by decide +kernel
theorem dX4_readFields_40 : decode cX4_readFields 40 = .ok (.aload_n 0, 1) := by decide +kernel
theorem dX4_readFields_41 : decode cX4_readFields 41 = .ok (.iload 5, 2) := by decide +kernel
theorem dX4_readFields_43 : decode cX4_readFields 43 = .ok (.iload_n 2, 1) := by decide +kernel
theorem dX4_readFields_44 : decode cX4_readFields 44 = .ok (.iload_n 3, 1) := by decide +kernel
theorem dX4_readFields_45 : decode cX4_readFields 45 = .ok (.iload 4, 2) := by decide +kernel
theorem dX4_readFields_47 : decode cX4_readFields 47 = .ok (.invokevirtual 86, 3) := by decide +kernel
theorem dX4_readFields_50 : decode cX4_readFields 50 = .ok (.ifCond .ne 5, 3) := by decide +kernel
theorem dX4_readFields_53 : decode cX4_readFields 53 = .ok (.iconst 0, 1) := by decide +kernel
theorem dX4_readFields_54 : decode cX4_readFields 54 = .ok (.ireturn, 1) := by decide +kernel
theorem dX4_readFields_55 : decode cX4_readFields 55 = .ok (.iinc 5 1, 3) := by decide +kernel
theorem dX4_readFields_58 : decode cX4_readFields 58 = .ok (.goto (-44), 3) := by decide +kernel
theorem dX4_readFields_61 : decode cX4_readFields 61 = .ok (.iconst 1, 1) := by decide +kernel
theorem dX4_readFields_62 : decode cX4_readFields 62 = .ok (.ireturn, 1) := by decide +kernel
theorem dX4_readField_0 : decode cX4_readField 0 = .ok (.aload_n 0, 1) := by decide +kernel
theorem dX4_readField_1 : decode cX4_readField 1 = .ok (.iload_n 1, 1) := by decide +kernel
theorem dX4_readField_2 : decode cX4_readField 2 = .ok (.invokevirtual 56, 3) := by decide +kernel
theorem dX4_readField_5 : decode cX4_readField 5 = .ok (.ifCond .ne 9, 3) := by decide +kernel
theorem dX4_readField_8 : decode cX4_readField 8 = .ok (.aload_n 0, 1) := by decide +kernel
theorem dX4_readField_9 : decode cX4_readField 9 = .ok (.iconst 1, 1) := by decide +kernel
theorem dX4_readField_10 : decode cX4_readField 10 = .ok (.invokevirtual 68, 3) := by decide +kernel
theorem dX4_readField_13 : decode cX4_readField 13 = .ok (.ireturn, 1) := by decide +kernel
theorem dX4_readField_14 : decode cX4_readField 14 = .ok (.aload_n 0, 1) := by decide +kernel
theorem dX4_readField_15 : decode cX4_readField 15 = .ok (.getfield 19, 3) := by decide +kernel
theorem dX4_readField_18 : decode cX4_readField 18 = .ok (.getfield 74, 3) := by decide +kernel
theorem dX4_readField_21 : decode cX4_readField 21 = .ok (.iload_n 1, 1) := by decide +kernel
theorem dX4_readField_22 : decode cX4_readField 22 = .ok (.iaload, 1) := by decide +kernel
theorem dX4_readField_23 : decode cX4_readField 23 = .ok (.ifCond .ne 13, 3) := by decide +kernel
theorem dX4_readField_26 : decode cX4_readField 26 = .ok (.aload_n 0, 1) := by decide +kernel
theorem dX4_readField_27 : decode cX4_readField 27 = .ok (.iload_n 1, 1) := by decide +kernel
theorem dX4_readField_28 : decode cX4_readField 28 = .ok (.iload_n 2, 1) := by decide +kernel
theorem dX4_readField_29 : decode cX4_readField 29 = .ok (.iload_n 3, 1) := by decide +kernel
theorem dX4_readField_30 : decode cX4_readField 30 = .ok (.iload 4, 2) := by decide +kernel
theorem dX4_readField_32 : decode cX4_readField 32 = .ok (.invokevirtual 89, 3) := by decide +kernel
theorem dX4_readField_35 : decode cX4_readField 35 = .ok (.ireturn, 1) := by decide +kernel
theorem dX4_readField_36 : decode cX4_readField 36 = .ok (.aload_n 0, 1) := by decide +kernel
theorem dX4_readField_37 : decode cX4_readField 37 = .ok (.getfield 19, 3) := by decide +kernel
theorem dX4_readField_40 : decode cX4_readField 40 = .ok (.getfield 74, 3) := by decide +kernel
theorem dX4_readField_43 : decode cX4_readField 43 = .ok (.iload_n 1, 1) := by decide +kernel
theorem dX4_readField_44 : decode cX4_readField 44 = .ok (.iaload, 1) := by decide +kernel
theorem dX4_readField_45 : decode cX4_readField 45 = .ok (.iconst 2, 1) := by decide +kernel
theorem dX4_readField_46 : decode cX4_readField 46 = .ok (.if_icmp .ne 13, 3) := by decide +kernel
theorem dX4_readField_49 : decode cX4_readField 49 = .ok (.aload_n 0, 1) := by decide +kernel
theorem dX4_readField_50 : decode cX4_readField 50 = .ok (.iload_n 1, 1) := by decide +kernel
theorem dX4_readField_51 : decode cX4_readField 51 = .ok (.iload_n 2, 1) := by decide +kernel
theorem dX4_readField_52 : decode cX4_readField 52 = .ok (.iload_n 3, 1) := by decide +kernel
theorem dX4_readField_53 : decode cX4_readField 53 = .ok (.iload 4, 2) := by decide +kernel
theorem dX4_readField_55 : decode cX4_readField 55 = .ok (.invokevirtual 92, 3) := by decide +kernel
theorem dX4_readField_58 : decode cX4_readField 58 = .ok (.ireturn, 1) := by decide +kernel
theorem dX4_readField_59 : decode cX4_readField 59 = .ok (.aload_n 0, 1) := by decide +kernel
theorem dX4_readField_60 : decode cX4_readField 60 = .ok (.getfield 15, 3) := by decide +kernel
theorem dX4_readField_63 : decode cX4_readField 63 = .ok (.getfield 51, 3) := by decide +kernel
theorem dX4_readField_66 : decode cX4_readField 66 = .ok (.bipush 45, 2) := by decide +kernel
theorem dX4_readField_68 : decode cX4_readField 68 = .ok (.if_icmp .eq 15, 3) := by decide +kernel
theorem dX4_readField_71 : decode cX4_readField 71 = .ok (.aload_n 0, 1) := by decide +kernel
theorem dX4_readField_72 : decode cX4_readField 72 = .ok (.iload_n 1, 1) := by decide +kernel
theorem dX4_readField_73 : decode cX4_readField 73 = .ok (.iload_n 2, 1) := by decide +kernel
theorem dX4_readField_74 : decode cX4_readField 74 = .ok (.iload_n 3, 1) := by decide +kernel
theorem dX4_readField_75 : decode cX4_readField 75 = .ok (.iload 4, 2) := by decide +kernel
theorem dX4_readField_77 : decode cX4_readField 77 = .ok (.iconst 1, 1) := by decide +kernel
theorem dX4_readField_78 : decode cX4_readField 78 = .ok (.iadd, 1) := by decide +kernel
theorem dX4_readField_79 : decode cX4_readField 79 = .ok (.invokevirtual 89, 3) := by decide +kernel
theorem dX4_readField_82 : decode cX4_readField 82 = .ok (.ireturn, 1) := by decide +kernel
theorem dX4_readField_83 : decode cX4_readField 83 = .ok (.aload_n 0, 1) := by decide +kernel
theorem dX4_readField_84 : decode cX4_readField 84 = .ok (.getfield 15, 3) := by decide +kernel
theorem dX4_readField_87 : decode cX4_readField 87 = .ok (.invokevirtual 71, 3) := by decide +kernel
theorem dX4_readField_90 : decode cX4_readField 90 = .ok (.aload_n 0, 1) := by decide +kernel
theorem dX4_readField_91 : decode cX4_readField 91 = .ok (.iload_n 1, 1) := by decide +kernel
theorem dX4_readField_92 : decode cX4_readField 92 = .ok (.iload_n 3, 1) := by decide +kernel
theorem dX4_readField_93 : decode cX4_readField 93 = .ok (.iload 4, 2) := by decide +kernel
theorem dX4_readField_95 : decode cX4_readField 95 = .ok (.invokevirtual 95, 3) := by decide +kernel
theorem dX4_readField_98 : decode cX4_readField 98 = .ok (.iconst 1, 1) := by decide +kernel
theorem dX4_readField_99 : decode cX4_readField 99 = .ok (.ireturn, 1) := by decide +kernel
theorem dX4_readItems_0 : decode cX4_readItems 0 = .ok (.aload_n 0, 1) := by decide +kernel
theorem dX4_readItems_1 : decode cX4_readItems 1 = .ok (.getfield 15, 3) := by decide +kernel
theorem dX4_readItems_4 : decode cX4_readItems 4 = .ok (.invokevirtual 71, 3) := by decide +kernel
theorem dX4_readItems_7 : decode cX4_readItems 7 = .ok (.aload_n 0, 1) := by decide +kernel
theorem dX4_readItems_8 : decode cX4_readItems 8 = .ok (.getfield 15, 3) := by decide +kernel
theorem dX4_readItems_11 : decode cX4_readItems 11 = .ok (.getfield 51, 3) := by decide +kernel
theorem dX4_readItems_14 : decode cX4_readItems 14 = .ok (.bipush 93, 2) := by decide +kernel
theorem dX4_readItems_16 : decode cX4_readItems 16 = .ok (.if_icmp .ne 11, 3) := by decide +kernel
theorem dX4_readItems_19 : decode cX4_readItems 19 = .ok (.aload_n 0, 1) := by decide +kernel
theorem dX4_readItems_20 : decode cX4_readItems 20 = .ok (.iload_n 1, 1) := by decide +kernel
theorem dX4_readItems_21 : decode cX4_readItems 21 = .ok (.iload_n 3, 1) := by decide +kernel
theorem dX4_readItems_22 : decode cX4_readItems 22 = .ok (.iload 4, 2) := by decide +kernel
theorem dX4_readItems_24 : decode cX4_readItems 24 = .ok (.invokevirtual 95, 3) := by decide +kernel
theorem dX4_readItems_27 : decode cX4_readItems 27 = .ok (.iconst 0, 1) := by decide +kernel
theorem dX4_readItems_28 : decode cX4_readItems 28 = .ok (.istore 5, 2) := by decide +kernel
theorem dX4_readItems_30 : decode cX4_readItems 30 = .ok (.iload 5, 2) := by decide +kernel
theorem dX4_readItems_32 : decode cX4_readItems 32 = .ok (.sipush 700, 3) := by decide +kernel
theorem dX4_readItems_35 : decode cX4_readItems 35 = .ok (.if_icmp .gt 54, 3) := by decide +kernel
theorem dX4_readItems_38 : decode cX4_readItems 38 = .ok (.aload_n 0, 1) := by decide +kernel
theorem dX4_readItems_39 : decode cX4_readItems 39 = .ok (.getfield 15, 3) := by decide +kernel
theorem dX4_readItems_42 : decode cX4_readItems 42 = .ok (.getfield 51, 3) := by decide +kernel
theorem dX4_readItems_45 : decode cX4_readItems 45 = .ok (.bipush 93, 2) := by decide +kernel
theorem dX4_readItems_47 : decode cX4_readItems 47 = .ok (.if_icmp .eq 42, 3) := by decide +kernel
theorem dX4_readItems_50 : decode cX4_readItems 50 = .ok (.aload_n 0, 1) := by decide +kernel
theorem dX4_readItems_51 : decode cX4_readItems 51 = .ok (.iload_n 1, 1) := by decide +kernel
theorem dX4_readItems_52 : decode cX4_readItems 52 = .ok (.iload_n 2, 1) := by decide +kernel
theorem dX4_readItems_53 : decode cX4_readItems 53 = .ok (.iload 5, 2) := by decide +kernel
theorem dX4_readItems_55 : decode cX4_readItems 55 = .ok (.ifCond .ne 7, 3) := by decide +kernel
theorem dX4_readItems_58 : decode cX4_readItems 58 = .ok (.iload_n 3, 1) := by decide +kernel
theorem dX4_readItems_59 : decode cX4_readItems 59 = .ok (.goto 12, 3) := by decide +kernel
theorem dX4_readItems_62 : decode cX4_readItems 62 = .ok (.aload_n 0, 1) := by decide +kernel
theorem dX4_readItems_63 : decode cX4_readItems 63 = .ok (.getfield 19, 3) := by decide +kernel
theorem dX4_readItems_66 : decode cX4_readItems 66 = .ok (.getfield 99, 3) := by decide +kernel
theorem dX4_readItems_69 : decode cX4_readItems 69 = .ok (.iload_n 1, 1) := by decide +kernel
theorem dX4_readItems_70 : decode cX4_readItems 70 = .ok (.iaload, 1) := by decide +kernel
theorem dX4_readItems_71 : decode cX4_readItems 71 = .ok (.iload 4, 2) := by decide +kernel
theorem dX4_readItems_73 : decode cX4_readItems 73 = .ok (.iconst 1, 1) := by decide +kernel
theorem dX4_readItems_74 : decode cX4_readItems 74 = .ok (.iadd, 1) := by decide +kernel
theorem dX4_readItems_75 : decode cX4_readItems 75 = .ok (.invokevirtual 89, 3) := by decide +kernel
theorem dX4_readItems_78 : decode cX4_readItems 78 = .ok (.ifCond .ne 5, 3) := by decide +kernel
theorem dX4_readItems_81 : decode cX4_readItems 81 = .ok (.iconst 0, 1) := by decide +kernel
theorem dX4_readItems_82 : decode cX4_readItems 82 = .ok (.ireturn, 1) := by decide +kernel
theorem dX4_readItems_83 : decode cX4_readItems 83 = .ok (.iinc 5 1, 3) := by decide +kernel
theorem dX4_readItems_86 : decode cX4_readItems 86 = .ok (.goto (-56), 3) := by decide +kernel
theorem dX4_readItems_89 : decode cX4_readItems 89 = .ok (.aload_n 0, 1) := by decide +kernel
theorem dX4_readItems_90 : decode cX4_readItems 90 = .ok (.getfield 15, 3) := by decide +kernel
theorem dX4_readItems_93 : decode cX4_readItems 93 = .ok (.invokevirtual 71, 3) := by decide +kernel
theorem dX4_readItems_96 : decode cX4_readItems 96 = .ok (.iconst 1, 1) := by decide +kernel
theorem dX4_readItems_97 : decode cX4_readItems 97 = .ok (.ireturn, 1) := by decide +kernel
theorem dX4_readItem_0 : decode cX4_readItem 0 = .ok (.aload_n 0, 1) := by decide +kernel
theorem dX4_readItem_1 : decode cX4_readItem 1 = .ok (.getfield 19, 3) := by decide +kernel
theorem dX4_readItem_4 : decode cX4_readItem 4 = .ok (.getfield 77, 3) := by decide +kernel
theorem dX4_readItem_7 : decode cX4_readItem 7 = .ok (.iload_n 1, 1) := by decide +kernel
theorem dX4_readItem_8 : decode cX4_readItem 8 = .ok (.iaload, 1) := by decide +kernel
theorem dX4_readItem_9 : decode cX4_readItem 9 = .ok (.istore 5, 2) := by decide +kernel
theorem dX4_readItem_11 : decode cX4_readItem 11 = .ok (.iload 5, 2) := by decide +kernel
theorem dX4_readItem_13 : decode cX4_readItem 13 = .ok (.iconst (-1), 1) := by decide +kernel
theorem dX4_readItem_14 : decode cX4_readItem 14 = .ok (.if_icmp .eq 49, 3) := by decide +kernel
theorem dX4_readItem_17 : decode cX4_readItem 17 = .ok (.aload_n 0, 1) := by decide +kernel
theorem dX4_readItem_18 : decode cX4_readItem 18 = .ok (.getfield 15, 3) := by decide +kernel
theorem dX4_readItem_21 : decode cX4_readItem 21 = .ok (.invokevirtual 102, 3) := by decide +kernel
theorem dX4_readItem_24 : decode cX4_readItem 24 = .ok (.istore 6, 2) := by decide +kernel
theorem dX4_readItem_26 : decode cX4_readItem 26 = .ok (.iload 6, 2) := by decide +kernel
theorem dX4_readItem_28 : decode cX4_readItem 28 = .ok (.ifCond .eq 10, 3) := by decide +kernel
theorem dX4_readItem_31 : decode cX4_readItem 31 = .ok (.aload_n 0, 1) := by decide +kernel
theorem dX4_readItem_32 : decode cX4_readItem 32 = .ok (.iload 6, 2) := by decide +kernel
theorem dX4_readItem_34 : decode cX4_readItem 34 = .ok (.invokevirtual 68, 3) := by decide +kernel
theorem dX4_readItem_37 : decode cX4_readItem 37 = .ok (.ireturn, 1) := by decide +kernel
theorem dX4_readItem_38 : decode cX4_readItem 38 = .ok (.aload_n 0, 1) := by decide +kernel
theorem dX4_readItem_39 : decode cX4_readItem 39 = .ok (.iload 5, 2) := by decide +kernel
theorem dX4_readItem_41 : decode cX4_readItem 41 = .ok (.iload_n 3, 1) := by decide +kernel
theorem dX4_readItem_42 : decode cX4_readItem 42 = .ok (.iload 4, 2) := by decide +kernel
theorem dX4_readItem_44 : decode cX4_readItem 44 = .ok (.aload_n 0, 1) := by decide +kernel
theorem dX4_readItem_45 : decode cX4_readItem 45 = .ok (.getfield 15, 3) := by decide +kernel
theorem dX4_readItem_48 : decode cX4_readItem 48 = .ok (.invokevirtual 106, 3) := by decide +kernel
theorem dX4_readItem_51 : decode cX4_readItem 51 = .ok (.invokevirtual 109, 3) := by decide +kernel
theorem dX4_readItem_54 : decode cX4_readItem 54 = .ok (.aload_n 0, 1) := by decide +kernel
theorem dX4_readItem_55 : decode cX4_readItem 55 = .ok (.getfield 15, 3) := by decide +kernel
theorem dX4_readItem_58 : decode cX4_readItem 58 = .ok (.invokevirtual 71, 3) := by decide +kernel
theorem dX4_readItem_61 : decode cX4_readItem 61 = .ok (.iconst 1, 1) := by decide +kernel
theorem dX4_readItem_62 : decode cX4_readItem 62 = .ok (.ireturn, 1) := by decide +kernel
theorem dX4_readItem_63 : decode cX4_readItem 63 = .ok (.aload_n 0, 1) := by decide +kernel
theorem dX4_readItem_64 : decode cX4_readItem 64 = .ok (.getfield 15, 3) := by decide +kernel
theorem dX4_readItem_67 : decode cX4_readItem 67 = .ok (.getfield 51, 3) := by decide +kernel
theorem dX4_readItem_70 : decode cX4_readItem 70 = .ok (.bipush 40, 2) := by decide +kernel
theorem dX4_readItem_72 : decode cX4_readItem 72 = .ok (.if_icmp .eq 9, 3) := by decide +kernel
theorem dX4_readItem_75 : decode cX4_readItem 75 = .ok (.aload_n 0, 1) := by decide +kernel
theorem dX4_readItem_76 : decode cX4_readItem 76 = .ok (.iconst 1, 1) := by decide +kernel
theorem dX4_readItem_77 : decode cX4_readItem 77 = .ok (.invokevirtual 68, 3) := by decide +kernel
theorem dX4_readItem_80 : decode cX4_readItem 80 = .ok (.ireturn, 1) := by decide +kernel
theorem dX4_readItem_81 : decode cX4_readItem 81 = .ok (.aload_n 0, 1) := by decide +kernel
theorem dX4_readItem_82 : decode cX4_readItem 82 = .ok (.getfield 15, 3) := by decide +kernel
theorem dX4_readItem_85 : decode cX4_readItem 85 = .ok (.invokevirtual 71, 3) := by decide +kernel
theorem dX4_readItem_88 : decode cX4_readItem 88 = .ok (.aload_n 0, 1) := by decide +kernel
theorem dX4_readItem_89 : decode cX4_readItem 89 = .ok (.iload_n 1, 1) := by decide +kernel
theorem dX4_readItem_90 : decode cX4_readItem 90 = .ok (.iload_n 2, 1) := by decide +kernel
theorem dX4_readItem_91 : decode cX4_readItem 91 = .ok (.iconst 1, 1) := by decide +kernel
theorem dX4_readItem_92 : decode cX4_readItem 92 = .ok (.iadd, 1) := by decide +kernel
theorem dX4_readItem_93 : decode cX4_readItem 93 = .ok (.iload_n 3, 1) := by decide +kernel
theorem dX4_readItem_94 : decode cX4_readItem 94 = .ok (.iload 4, 2) := by decide +kernel
theorem dX4_readItem_96 : decode cX4_readItem 96 = .ok (.invokevirtual 60, 3) := by decide +kernel
theorem dX4_readItem_99 : decode cX4_readItem 99 = .ok (.ifCond .ne 5, 3) := by decide +kernel
theorem dX4_readItem_102 : decode cX4_readItem 102 = .ok (.iconst 0, 1) := by decide +kernel
theorem dX4_readItem_103 : decode cX4_readItem 103 = .ok (.ireturn, 1) := by decide +kernel
theorem dX4_readItem_104 : decode cX4_readItem 104 = .ok (.aload_n 0, 1) := by decide +kernel
theorem dX4_readItem_105 : decode cX4_readItem 105 = .ok (.getfield 15, 3) := by decide +kernel
theorem dX4_readItem_108 : decode cX4_readItem 108 = .ok (.getfield 51, 3) := by decide +kernel
theorem dX4_readItem_111 : decode cX4_readItem 111 = .ok (.bipush 41, 2) := by decide +kernel
theorem dX4_readItem_113 : decode cX4_readItem 113 = .ok (.if_icmp .eq 9, 3) := by decide +kernel
theorem dX4_readItem_116 : decode cX4_readItem 116 = .ok (.aload_n 0, 1) := by decide +kernel
theorem dX4_readItem_117 : decode cX4_readItem 117 = .ok (.iconst 1, 1) := by decide +kernel
theorem dX4_readItem_118 : decode cX4_readItem 118 = .ok (.invokevirtual 68, 3) := by decide +kernel
theorem dX4_readItem_121 : decode cX4_readItem 121 = .ok (.ireturn, 1) := by decide +kernel
theorem dX4_readItem_122 : decode cX4_readItem 122 = .ok (.aload_n 0, 1) := by decide +kernel
theorem dX4_readItem_123 : decode cX4_readItem 123 = .ok (.getfield 15, 3) := by decide +kernel
theorem dX4_readItem_126 : decode cX4_readItem 126 = .ok (.invokevirtual 71, 3) := by decide +kernel
theorem dX4_readItem_129 : decode cX4_readItem 129 = .ok (.iconst 1, 1) := by decide +kernel
theorem dX4_readItem_130 : decode cX4_readItem 130 = .ok (.ireturn, 1) := by decide +kernel
theorem dX4_putNone_0 : decode cX4_putNone 0 = .ok (.iconst 0, 1) := by decide +kernel
theorem dX4_putNone_1 : decode cX4_putNone 1 = .ok (.istore 4, 2) := by decide +kernel
theorem dX4_putNone_3 : decode cX4_putNone 3 = .ok (.iload 4, 2) := by decide +kernel
theorem dX4_putNone_5 : decode cX4_putNone 5 = .ok (.aload_n 0, 1) := by decide +kernel
theorem dX4_putNone_6 : decode cX4_putNone 6 = .ok (.getfield 19, 3) := by decide +kernel
theorem dX4_putNone_9 : decode cX4_putNone 9 = .ok (.getfield 37, 3) := by decide +kernel
theorem dX4_putNone_12 : decode cX4_putNone 12 = .ok (.if_icmp .ge 35, 3) := by decide +kernel
theorem dX4_putNone_15 : decode cX4_putNone 15 = .ok (.aload_n 0, 1) := by decide +kernel
theorem dX4_putNone_16 : decode cX4_putNone 16 = .ok (.getfield 19, 3) := by decide +kernel
theorem dX4_putNone_19 : decode cX4_putNone 19 = .ok (.getfield 113, 3) := by decide +kernel
theorem dX4_putNone_22 : decode cX4_putNone 22 = .ok (.iload_n 1, 1) := by decide +kernel
theorem dX4_putNone_23 : decode cX4_putNone 23 = .ok (.iaload, 1) := by decide +kernel
theorem dX4_putNone_24 : decode cX4_putNone 24 = .ok (.iload 4, 2) := by decide +kernel
theorem dX4_putNone_26 : decode cX4_putNone 26 = .ok (.iushr, 1) := by decide +kernel
theorem dX4_putNone_27 : decode cX4_putNone 27 = .ok (.iconst 1, 1) := by decide +kernel
theorem dX4_putNone_28 : decode cX4_putNone 28 = .ok (.iand, 1) := by decide +kernel
theorem dX4_putNone_29 : decode cX4_putNone 29 = .ok (.ifCond .eq 12, 3) := by decide +kernel
theorem dX4_putNone_32 : decode cX4_putNone 32 = .ok (.aload_n 0, 1) := by decide +kernel
theorem dX4_putNone_33 : decode cX4_putNone 33 = .ok (.iload 4, 2) := by decide +kernel
theorem dX4_putNone_35 : decode cX4_putNone 35 = .ok (.iload_n 2, 1) := by decide +kernel
theorem dX4_putNone_36 : decode cX4_putNone 36 = .ok (.iload_n 3, 1) := by decide +kernel
theorem dX4_putNone_37 : decode cX4_putNone 37 = .ok (.iconst 0, 1) := by decide +kernel
theorem dX4_putNone_38 : decode cX4_putNone 38 = .ok (.invokevirtual 109, 3) := by decide +kernel
theorem dX4_putNone_41 : decode cX4_putNone 41 = .ok (.iinc 4 1, 3) := by decide +kernel
theorem dX4_putNone_44 : decode cX4_putNone 44 = .ok (.goto (-41), 3) := by decide +kernel
theorem dX4_putNone_47 : decode cX4_putNone 47 = .ok (.return_, 1) := by decide +kernel
theorem dX4_stage_0 : decode cX4_stage 0 = .ok (.aload_n 0, 1) := by decide +kernel
theorem dX4_stage_1 : decode cX4_stage 1 = .ok (.getfield 23, 3) := by decide +kernel
theorem dX4_stage_4 : decode cX4_stage 4 = .ok (.getfield 42, 3) := by decide +kernel
theorem dX4_stage_7 : decode cX4_stage 7 = .ok (.iload_n 1, 1) := by decide +kernel
theorem dX4_stage_8 : decode cX4_stage 8 = .ok (.aaload, 1) := by decide +kernel
theorem dX4_stage_9 : decode cX4_stage 9 = .ok (.aload_n 0, 1) := by decide +kernel
theorem dX4_stage_10 : decode cX4_stage 10 = .ok (.getfield 9, 3) := by decide +kernel
theorem dX4_stage_13 : decode cX4_stage 13 = .ok (.iload_n 1, 1) := by decide +kernel
theorem dX4_stage_14 : decode cX4_stage 14 = .ok (.iaload, 1) := by decide +kernel
theorem dX4_stage_15 : decode cX4_stage 15 = .ok (.iload_n 2, 1) := by decide +kernel
theorem dX4_stage_16 : decode cX4_stage 16 = .ok (.iload_n 3, 1) := by decide +kernel
theorem dX4_stage_17 : decode cX4_stage 17 = .ok (.iload 4, 2) := by decide +kernel
theorem dX4_stage_19 : decode cX4_stage 19 = .ok (.invokevirtual 116, 3) := by decide +kernel
theorem dX4_stage_22 : decode cX4_stage 22 = .ok (.aload_n 0, 1) := by decide +kernel
theorem dX4_stage_23 : decode cX4_stage 23 = .ok (.getfield 9, 3) := by decide +kernel
theorem dX4_stage_26 : decode cX4_stage 26 = .ok (.iload_n 1, 1) := by decide +kernel
theorem dX4_stage_27 : decode cX4_stage 27 = .ok (.dup2, 1) := by decide +kernel
theorem dX4_stage_28 : decode cX4_stage 28 = .ok (.iaload, 1) := by decide +kernel
theorem dX4_stage_29 : decode cX4_stage 29 = .ok (.iconst 1, 1) := by decide +kernel
theorem dX4_stage_30 : decode cX4_stage 30 = .ok (.iadd, 1) := by decide +kernel
theorem dX4_stage_31 : decode cX4_stage 31 = .ok (.iastore, 1) := by decide +kernel
theorem dX4_stage_32 : decode cX4_stage 32 = .ok (.return_, 1) := by decide +kernel
theorem dX9_advance_0 : decode cX9_advance 0 = .ok (.aload_n 0, 1) := by decide +kernel
theorem dX9_advance_1 : decode cX9_advance 1 = .ok (.aload_n 0, 1) := by decide +kernel
theorem dX9_advance_2 : decode cX9_advance 2 = .ok (.getfield 22, 3) := by decide +kernel
theorem dX9_advance_5 : decode cX9_advance 5 = .ok (.putfield 28, 3) := by decide +kernel
theorem dX9_advance_8 : decode cX9_advance 8 = .ok (.aload_n 0, 1) := by decide +kernel
theorem dX9_advance_9 : decode cX9_advance 9 = .ok (.getfield 28, 3) := by decide +kernel
theorem dX9_advance_12 : decode cX9_advance 12 = .ok (.istore_n 1, 1) := by decide +kernel
theorem dX9_advance_13 : decode cX9_advance 13 = .ok (.iload_n 1, 1) := by decide +kernel
theorem dX9_advance_14 : decode cX9_advance 14 = .ok (.aload_n 0, 1) := by decide +kernel
theorem dX9_advance_15 : decode cX9_advance 15 = .ok (.getfield 19, 3) := by decide +kernel
theorem dX9_advance_18 : decode cX9_advance 18 = .ok (.if_icmp .ge 38, 3) := by decide +kernel
theorem dX9_advance_21 : decode cX9_advance 21 = .ok (.aload_n 0, 1) := by decide +kernel
theorem dX9_advance_22 : decode cX9_advance 22 = .ok (.getfield 9, 3) := by decide +kernel
theorem dX9_advance_25 : decode cX9_advance 25 = .ok (.iload_n 1, 1) := by decide +kernel
theorem dX9_advance_26 : decode cX9_advance 26 = .ok (.iaload, 1) := by decide +kernel
theorem dX9_advance_27 : decode cX9_advance 27 = .ok (.bipush 32, 2) := by decide +kernel
theorem dX9_advance_29 : decode cX9_advance 29 = .ok (.if_icmp .eq 14, 3) := by decide +kernel
theorem dX9_advance_32 : decode cX9_advance 32 = .ok (.aload_n 0, 1) := by decide +kernel
theorem dX9_advance_33 : decode cX9_advance 33 = .ok (.getfield 9, 3) := by decide +kernel
theorem dX9_advance_36 : decode cX9_advance 36 = .ok (.iload_n 1, 1) := by decide +kernel
theorem dX9_advance_37 : decode cX9_advance 37 = .ok (.iaload, 1) := by decide +kernel
theorem dX9_advance_38 : decode cX9_advance 38 = .ok (.bipush 10, 2) := by decide +kernel
theorem dX9_advance_40 : decode cX9_advance 40 = .ok (.if_icmp .ne 16, 3) := by decide +kernel
theorem dX9_advance_43 : decode cX9_advance 43 = .ok (.aload_n 0, 1) := by decide +kernel
theorem dX9_advance_44 : decode cX9_advance 44 = .ok (.iload_n 1, 1) := by decide +kernel
theorem dX9_advance_45 : decode cX9_advance 45 = .ok (.iconst 1, 1) := by decide +kernel
theorem dX9_advance_46 : decode cX9_advance 46 = .ok (.iadd, 1) := by decide +kernel
theorem dX9_advance_47 : decode cX9_advance 47 = .ok (.putfield 28, 3) := by decide +kernel
theorem dX9_advance_50 : decode cX9_advance 50 = .ok (.iinc 1 1, 3) := by decide +kernel
theorem dX9_advance_53 : decode cX9_advance 53 = .ok (.goto (-40), 3) := by decide +kernel
theorem dX9_advance_56 : decode cX9_advance 56 = .ok (.aload_n 0, 1) := by decide +kernel
theorem dX9_advance_57 : decode cX9_advance 57 = .ok (.aload_n 0, 1) := by decide +kernel
theorem dX9_advance_58 : decode cX9_advance 58 = .ok (.getfield 28, 3) := by decide +kernel
theorem dX9_advance_61 : decode cX9_advance 61 = .ok (.putfield 22, 3) := by decide +kernel
theorem dX9_advance_64 : decode cX9_advance 64 = .ok (.aload_n 0, 1) := by decide +kernel
theorem dX9_advance_65 : decode cX9_advance 65 = .ok (.getfield 28, 3) := by decide +kernel
theorem dX9_advance_68 : decode cX9_advance 68 = .ok (.aload_n 0, 1) := by decide +kernel
theorem dX9_advance_69 : decode cX9_advance 69 = .ok (.getfield 19, 3) := by decide +kernel
theorem dX9_advance_72 : decode cX9_advance 72 = .ok (.if_icmp .lt 9, 3) := by decide +kernel
theorem dX9_advance_75 : decode cX9_advance 75 = .ok (.aload_n 0, 1) := by decide +kernel
theorem dX9_advance_76 : decode cX9_advance 76 = .ok (.iconst 0, 1) := by decide +kernel
theorem dX9_advance_77 : decode cX9_advance 77 = .ok (.putfield 31, 3) := by decide +kernel
theorem dX9_advance_80 : decode cX9_advance 80 = .ok (.return_, 1) := by decide +kernel
theorem dX9_advance_81 : decode cX9_advance 81 = .ok (.aload_n 0, 1) := by decide +kernel
theorem dX9_advance_82 : decode cX9_advance 82 = .ok (.getfield 9, 3) := by decide +kernel
theorem dX9_advance_85 : decode cX9_advance 85 = .ok (.aload_n 0, 1) := by decide +kernel
theorem dX9_advance_86 : decode cX9_advance 86 = .ok (.getfield 28, 3) := by decide +kernel
theorem dX9_advance_89 : decode cX9_advance 89 = .ok (.iaload, 1) := by decide +kernel
theorem dX9_advance_90 : decode cX9_advance 90 = .ok (.istore_n 1, 1) := by decide +kernel
theorem dX9_advance_91 : decode cX9_advance 91 = .ok (.aload_n 0, 1) := by decide +kernel
theorem dX9_advance_92 : decode cX9_advance 92 = .ok (.aload_n 0, 1) := by decide +kernel
theorem dX9_advance_93 : decode cX9_advance 93 = .ok (.getfield 28, 3) := by decide +kernel
theorem dX9_advance_96 : decode cX9_advance 96 = .ok (.iconst 1, 1) := by decide +kernel
theorem dX9_advance_97 : decode cX9_advance 97 = .ok (.iadd, 1) := by decide +kernel
theorem dX9_advance_98 : decode cX9_advance 98 = .ok (.putfield 22, 3) := by decide +kernel
theorem dX9_advance_101 : decode cX9_advance 101 = .ok (.iload_n 1, 1) := by decide +kernel
theorem dX9_advance_102 : decode cX9_advance 102 = .ok (.invokestatic 34, 3) := by decide +kernel
theorem dX9_advance_105 : decode cX9_advance 105 = .ok (.ifCond .eq 49, 3) := by decide +kernel
theorem dX9_advance_108 : decode cX9_advance 108 = .ok (.aload_n 0, 1) := by decide +kernel
theorem dX9_advance_109 : decode cX9_advance 109 = .ok (.iconst 1, 1) := by decide +kernel
theorem dX9_advance_110 : decode cX9_advance 110 = .ok (.putfield 31, 3) := by decide +kernel
theorem dX9_advance_113 : decode cX9_advance 113 = .ok (.aload_n 0, 1) := by decide +kernel
theorem dX9_advance_114 : decode cX9_advance 114 = .ok (.getfield 22, 3) := by decide +kernel
theorem dX9_advance_117 : decode cX9_advance 117 = .ok (.istore_n 2, 1) := by decide +kernel
theorem dX9_advance_118 : decode cX9_advance 118 = .ok (.iload_n 2, 1) := by decide +kernel
theorem dX9_advance_119 : decode cX9_advance 119 = .ok (.aload_n 0, 1) := by decide +kernel
theorem dX9_advance_120 : decode cX9_advance 120 = .ok (.getfield 19, 3) := by decide +kernel
theorem dX9_advance_123 : decode cX9_advance 123 = .ok (.if_icmp .ge 28, 3) := by decide +kernel
theorem dX9_advance_126 : decode cX9_advance 126 = .ok (.aload_n 0, 1) := by decide +kernel
theorem dX9_advance_127 : decode cX9_advance 127 = .ok (.getfield 9, 3) := by decide +kernel
theorem dX9_advance_130 : decode cX9_advance 130 = .ok (.iload_n 2, 1) := by decide +kernel
theorem dX9_advance_131 : decode cX9_advance 131 = .ok (.iaload, 1) := by decide +kernel
theorem dX9_advance_132 : decode cX9_advance 132 = .ok (.invokestatic 34, 3) := by decide +kernel
theorem dX9_advance_135 : decode cX9_advance 135 = .ok (.ifCond .eq 16, 3) := by decide +kernel
theorem dX9_advance_138 : decode cX9_advance 138 = .ok (.aload_n 0, 1) := by decide +kernel
theorem dX9_advance_139 : decode cX9_advance 139 = .ok (.iload_n 2, 1) := by decide +kernel
theorem dX9_advance_140 : decode cX9_advance 140 = .ok (.iconst 1, 1) := by decide +kernel
theorem dX9_advance_141 : decode cX9_advance 141 = .ok (.iadd, 1) := by decide +kernel
theorem dX9_advance_142 : decode cX9_advance 142 = .ok (.putfield 22, 3) := by decide +kernel
theorem dX9_advance_145 : decode cX9_advance 145 = .ok (.iinc 2 1, 3) := by decide +kernel
theorem dX9_advance_148 : decode cX9_advance 148 = .ok (.goto (-30), 3) := by decide +kernel
theorem dX9_advance_151 : decode cX9_advance 151 = .ok (.goto 72, 3) := by decide +kernel
theorem dX9_advance_154 : decode cX9_advance 154 = .ok (.iload_n 1, 1) := by decide +kernel
theorem dX9_advance_155 : decode cX9_advance 155 = .ok (.invokestatic 38, 3) := by decide +kernel
theorem dX9_advance_158 : decode cX9_advance 158 = .ok (.ifCond .eq 49, 3) := by decide +kernel
theorem dX9_advance_161 : decode cX9_advance 161 = .ok (.aload_n 0, 1) := by decide +kernel
theorem dX9_advance_162 : decode cX9_advance 162 = .ok (.iconst 2, 1) := by decide +kernel
theorem dX9_advance_163 : decode cX9_advance 163 = .ok (.putfield 31, 3) := by decide +kernel
theorem dX9_advance_166 : decode cX9_advance 166 = .ok (.aload_n 0, 1) := by decide +kernel
theorem dX9_advance_167 : decode cX9_advance 167 = .ok (.getfield 22, 3) := by decide +kernel
theorem dX9_advance_170 : decode cX9_advance 170 = .ok (.istore_n 2, 1) := by decide +kernel
theorem dX9_advance_171 : decode cX9_advance 171 = .ok (.iload_n 2, 1) := by decide +kernel
theorem dX9_advance_172 : decode cX9_advance 172 = .ok (.aload_n 0, 1) := by decide +kernel
theorem dX9_advance_173 : decode cX9_advance 173 = .ok (.getfield 19, 3) := by decide +kernel
theorem dX9_advance_176 : decode cX9_advance 176 = .ok (.if_icmp .ge 28, 3) := by decide +kernel
theorem dX9_advance_179 : decode cX9_advance 179 = .ok (.aload_n 0, 1) := by decide +kernel
theorem dX9_advance_180 : decode cX9_advance 180 = .ok (.getfield 9, 3) := by decide +kernel
theorem dX9_advance_183 : decode cX9_advance 183 = .ok (.iload_n 2, 1) := by decide +kernel
theorem dX9_advance_184 : decode cX9_advance 184 = .ok (.iaload, 1) := by decide +kernel
theorem dX9_advance_185 : decode cX9_advance 185 = .ok (.invokestatic 38, 3) := by decide +kernel
theorem dX9_advance_188 : decode cX9_advance 188 = .ok (.ifCond .eq 16, 3) := by decide +kernel
theorem dX9_advance_191 : decode cX9_advance 191 = .ok (.aload_n 0, 1) := by decide +kernel
theorem dX9_advance_192 : decode cX9_advance 192 = .ok (.iload_n 2, 1) := by decide +kernel
theorem dX9_advance_193 : decode cX9_advance 193 = .ok (.iconst 1, 1) := by decide +kernel
theorem dX9_advance_194 : decode cX9_advance 194 = .ok (.iadd, 1) := by decide +kernel
theorem dX9_advance_195 : decode cX9_advance 195 = .ok (.putfield 22, 3) := by decide +kernel
theorem dX9_advance_198 : decode cX9_advance 198 = .ok (.iinc 2 1, 3) := by decide +kernel
theorem dX9_advance_201 : decode cX9_advance 201 = .ok (.goto (-30), 3) := by decide +kernel
theorem dX9_advance_204 : decode cX9_advance 204 = .ok (.goto 19, 3) := by decide +kernel
theorem dX9_advance_207 : decode cX9_advance 207 = .ok (.aload_n 0, 1) := by decide +kernel
theorem dX9_advance_208 : decode cX9_advance 208 = .ok (.iload_n 1, 1) := by decide +kernel
theorem dX9_advance_209 : decode cX9_advance 209 = .ok (.invokestatic 41, 3) := by decide +kernel
theorem dX9_advance_212 : decode cX9_advance 212 = .ok (.ifCond .eq 7, 3) := by decide +kernel
theorem dX9_advance_215 : decode cX9_advance 215 = .ok (.iload_n 1, 1) := by decide +kernel
theorem dX9_advance_216 : decode cX9_advance 216 = .ok (.goto 4, 3) := by decide +kernel
theorem dX9_advance_219 : decode cX9_advance 219 = .ok (.iconst 3, 1) := by decide +kernel
theorem dX9_advance_220 : decode cX9_advance 220 = .ok (.putfield 31, 3) := by decide +kernel
theorem dX9_advance_223 : decode cX9_advance 223 = .ok (.return_, 1) := by decide +kernel
theorem dX9_isDigit_0 : decode cX9_isDigit 0 = .ok (.iload_n 0, 1) := by decide +kernel
theorem dX9_isDigit_1 : decode cX9_isDigit 1 = .ok (.bipush 48, 2) := by decide +kernel
theorem dX9_isDigit_3 : decode cX9_isDigit 3 = .ok (.if_icmp .lt 13, 3) := by decide +kernel
theorem dX9_isDigit_6 : decode cX9_isDigit 6 = .ok (.iload_n 0, 1) := by decide +kernel
theorem dX9_isDigit_7 : decode cX9_isDigit 7 = .ok (.bipush 57, 2) := by decide +kernel
theorem dX9_isDigit_9 : decode cX9_isDigit 9 = .ok (.if_icmp .gt 7, 3) := by decide +kernel
theorem dX9_isDigit_12 : decode cX9_isDigit 12 = .ok (.iconst 1, 1) := by decide +kernel
theorem dX9_isDigit_13 : decode cX9_isDigit 13 = .ok (.goto 4, 3) := by decide +kernel
theorem dX9_isDigit_16 : decode cX9_isDigit 16 = .ok (.iconst 0, 1) := by decide +kernel
theorem dX9_isDigit_17 : decode cX9_isDigit 17 = .ok (.ireturn, 1) := by decide +kernel
theorem dX9_isSign_0 : decode cX9_isSign 0 = .ok (.iload_n 0, 1) := by decide +kernel
theorem dX9_isSign_1 : decode cX9_isSign 1 = .ok (.bipush 59, 2) := by decide +kernel
theorem dX9_isSign_3 : decode cX9_isSign 3 = .ok (.if_icmp .eq 45, 3) := by decide +kernel
theorem dX9_isSign_6 : decode cX9_isSign 6 = .ok (.iload_n 0, 1) := by decide +kernel
theorem dX9_isSign_7 : decode cX9_isSign 7 = .ok (.bipush 123, 2) := by decide +kernel
theorem dX9_isSign_9 : decode cX9_isSign 9 = .ok (.if_icmp .eq 39, 3) := by decide +kernel
theorem dX9_isSign_12 : decode cX9_isSign 12 = .ok (.iload_n 0, 1) := by decide +kernel
theorem dX9_isSign_13 : decode cX9_isSign 13 = .ok (.bipush 125, 2) := by decide +kernel
theorem dX9_isSign_15 : decode cX9_isSign 15 = .ok (.if_icmp .eq 33, 3) := by decide +kernel
theorem dX9_isSign_18 : decode cX9_isSign 18 = .ok (.iload_n 0, 1) := by decide +kernel
theorem dX9_isSign_19 : decode cX9_isSign 19 = .ok (.bipush 40, 2) := by decide +kernel
theorem dX9_isSign_21 : decode cX9_isSign 21 = .ok (.if_icmp .eq 27, 3) := by decide +kernel
theorem dX9_isSign_24 : decode cX9_isSign 24 = .ok (.iload_n 0, 1) := by decide +kernel
theorem dX9_isSign_25 : decode cX9_isSign 25 = .ok (.bipush 41, 2) := by decide +kernel
theorem dX9_isSign_27 : decode cX9_isSign 27 = .ok (.if_icmp .eq 21, 3) := by decide +kernel
theorem dX9_isSign_30 : decode cX9_isSign 30 = .ok (.iload_n 0, 1) := by decide +kernel
theorem dX9_isSign_31 : decode cX9_isSign 31 = .ok (.bipush 91, 2) := by decide +kernel
theorem dX9_isSign_33 : decode cX9_isSign 33 = .ok (.if_icmp .eq 15, 3) := by decide +kernel
theorem dX9_isSign_36 : decode cX9_isSign 36 = .ok (.iload_n 0, 1) := by decide +kernel
theorem dX9_isSign_37 : decode cX9_isSign 37 = .ok (.bipush 93, 2) := by decide +kernel
theorem dX9_isSign_39 : decode cX9_isSign 39 = .ok (.if_icmp .eq 9, 3) := by decide +kernel
theorem dX9_isSign_42 : decode cX9_isSign 42 = .ok (.iload_n 0, 1) := by decide +kernel
theorem dX9_isSign_43 : decode cX9_isSign 43 = .ok (.bipush 45, 2) := by decide +kernel
theorem dX9_isSign_45 : decode cX9_isSign 45 = .ok (.if_icmp .ne 7, 3) := by decide +kernel
theorem dX9_isSign_48 : decode cX9_isSign 48 = .ok (.iconst 1, 1) := by decide +kernel
theorem dX9_isSign_49 : decode cX9_isSign 49 = .ok (.goto 4, 3) := by decide +kernel
theorem dX9_isSign_52 : decode cX9_isSign 52 = .ok (.iconst 0, 1) := by decide +kernel
theorem dX9_isSign_53 : decode cX9_isSign 53 = .ok (.ireturn, 1) := by decide +kernel
theorem dX9_numberFault_0 : decode cX9_numberFault 0 = .ok (.aload_n 0, 1) := by decide +kernel
theorem dX9_numberFault_1 : decode cX9_numberFault 1 = .ok (.getfield 31, 3) := by decide +kernel
theorem dX9_numberFault_4 : decode cX9_numberFault 4 = .ok (.iconst 2, 1) := by decide +kernel
theorem dX9_numberFault_5 : decode cX9_numberFault 5 = .ok (.if_icmp .eq 5, 3) := by decide +kernel
theorem dX9_numberFault_8 : decode cX9_numberFault 8 = .ok (.iconst 1, 1) := by decide +kernel
theorem dX9_numberFault_9 : decode cX9_numberFault 9 = .ok (.ireturn, 1) := by decide +kernel
theorem dX9_numberFault_10 : decode cX9_numberFault 10 = .ok (.aload_n 0, 1) := by decide +kernel
theorem dX9_numberFault_11 : decode cX9_numberFault 11 = .ok (.invokevirtual 50, 3) := by decide +kernel
theorem dX9_numberFault_14 : decode cX9_numberFault 14 = .ok (.iconst 3, 1) := by decide +kernel
theorem dX9_numberFault_15 : decode cX9_numberFault 15 = .ok (.if_icmp .le 7, 3) := by decide +kernel
theorem dX9_numberFault_18 : decode cX9_numberFault 18 = .ok (.iconst 2, 1) := by decide +kernel
theorem dX9_numberFault_19 : decode cX9_numberFault 19 = .ok (.goto 4, 3) := by decide +kernel
theorem dX9_numberFault_22 : decode cX9_numberFault 22 = .ok (.iconst 0, 1) := by decide +kernel
theorem dX9_numberFault_23 : decode cX9_numberFault 23 = .ok (.ireturn, 1) := by decide +kernel
theorem dX9_number_0 : decode cX9_number 0 = .ok (.iconst 0, 1) := by decide +kernel
theorem dX9_number_1 : decode cX9_number 1 = .ok (.istore_n 1, 1) := by decide +kernel
theorem dX9_number_2 : decode cX9_number 2 = .ok (.aload_n 0, 1) := by decide +kernel
theorem dX9_number_3 : decode cX9_number 3 = .ok (.getfield 28, 3) := by decide +kernel
theorem dX9_number_6 : decode cX9_number 6 = .ok (.istore_n 2, 1) := by decide +kernel
theorem dX9_number_7 : decode cX9_number 7 = .ok (.iload_n 2, 1) := by decide +kernel
theorem dX9_number_8 : decode cX9_number 8 = .ok (.aload_n 0, 1) := by decide +kernel
theorem dX9_number_9 : decode cX9_number 9 = .ok (.getfield 22, 3) := by decide +kernel
theorem dX9_number_12 : decode cX9_number 12 = .ok (.if_icmp .ge 34, 3) := by decide +kernel
theorem dX9_number_15 : decode cX9_number 15 = .ok (.iload_n 2, 1) := by decide +kernel
theorem dX9_number_16 : decode cX9_number 16 = .ok (.aload_n 0, 1) := by decide +kernel
theorem dX9_number_17 : decode cX9_number 17 = .ok (.getfield 28, 3) := by decide +kernel
theorem dX9_number_20 : decode cX9_number 20 = .ok (.iconst 3, 1) := by decide +kernel
theorem dX9_number_21 : decode cX9_number 21 = .ok (.iadd, 1) := by decide +kernel
theorem dX9_number_22 : decode cX9_number 22 = .ok (.if_icmp .ge 24, 3) := by decide +kernel
theorem dX9_number_25 : decode cX9_number 25 = .ok (.iload_n 1, 1) := by decide +kernel
theorem dX9_number_26 : decode cX9_number 26 = .ok (.bipush 10, 2) := by decide +kernel
theorem dX9_number_28 : decode cX9_number 28 = .ok (.imul, 1) := by decide +kernel
theorem dX9_number_29 : decode cX9_number 29 = .ok (.aload_n 0, 1) := by decide +kernel
theorem dX9_number_30 : decode cX9_number 30 = .ok (.getfield 9, 3) := by decide +kernel
theorem dX9_number_33 : decode cX9_number 33 = .ok (.iload_n 2, 1) := by decide +kernel
theorem dX9_number_34 : decode cX9_number 34 = .ok (.iaload, 1) := by decide +kernel
theorem dX9_number_35 : decode cX9_number 35 = .ok (.iadd, 1) := by decide +kernel
theorem dX9_number_36 : decode cX9_number 36 = .ok (.bipush 48, 2) := by decide +kernel
theorem dX9_number_38 : decode cX9_number 38 = .ok (.isub, 1) := by decide +kernel
theorem dX9_number_39 : decode cX9_number 39 = .ok (.istore_n 1, 1) := by decide +kernel
theorem dX9_number_40 : decode cX9_number 40 = .ok (.iinc 2 1, 3) := by decide +kernel
theorem dX9_number_43 : decode cX9_number 43 = .ok (.goto (-36), 3) := by decide +kernel
theorem dX9_number_46 : decode cX9_number 46 = .ok (.iload_n 1, 1) := by decide +kernel
theorem dX9_number_47 : decode cX9_number 47 = .ok (.ireturn, 1) := by decide +kernel
