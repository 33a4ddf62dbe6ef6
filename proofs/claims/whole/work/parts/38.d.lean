theorem dX12_begin_0 : decode cX12_begin 0 = .ok (.aload_n 0, 1) := by decide +kernel
theorem dX12_begin_1 : decode cX12_begin 1 = .ok (.iconst 0, 1) := by decide +kernel
theorem dX12_begin_2 : decode cX12_begin 2 = .ok (.putfield 125, 3) := by decide +kernel
theorem dX12_begin_5 : decode cX12_begin 5 = .ok (.iload_n 1, 1) := by decide +kernel
theorem dX12_begin_6 : decode cX12_begin 6 = .ok (.ifCond .lt 11, 3) := by decide +kernel
theorem dX12_begin_9 : decode cX12_begin 9 = .ok (.iload_n 1, 1) := by decide +kernel
theorem dX12_begin_10 : decode cX12_begin 10 = .ok (.aload_n 0, 1) := by decide +kernel
theorem dX12_begin_11 : decode cX12_begin 11 = .ok (.getfield 128, 3) := by decide +kernel
theorem dX12_begin_14 : decode cX12_begin 14 = .ok (.if_icmp .le 10, 3) := by decide +kernel
theorem dX12_begin_17 : decode cX12_begin 17 = .ok (.aload_n 0, 1) := by decide +kernel
theorem dX12_begin_18 : decode cX12_begin 18 = .ok (.iconst 1, 1) := by decide +kernel
theorem dX12_begin_19 : decode cX12_begin 19 = .ok (.putfield 125, 3) := by decide +kernel
theorem dX12_begin_22 : decode cX12_begin 22 = .ok (.iconst 0, 1) := by decide +kernel
theorem dX12_begin_23 : decode cX12_begin 23 = .ok (.ireturn, 1) := by decide +kernel
theorem dX12_begin_24 : decode cX12_begin 24 = .ok (.aload_n 0, 1) := by decide +kernel
theorem dX12_begin_25 : decode cX12_begin 25 = .ok (.iconst 0, 1) := by decide +kernel
theorem dX12_begin_26 : decode cX12_begin 26 = .ok (.putfield 128, 3) := by decide +kernel
theorem dX12_begin_29 : decode cX12_begin 29 = .ok (.aload_n 0, 1) := by decide +kernel
theorem dX12_begin_30 : decode cX12_begin 30 = .ok (.iload_n 1, 1) := by decide +kernel
theorem dX12_begin_31 : decode cX12_begin 31 = .ok (.putfield 131, 3) := by decide +kernel
theorem dX12_begin_34 : decode cX12_begin 34 = .ok (.aload_n 0, 1) := by decide +kernel
theorem dX12_begin_35 : decode cX12_begin 35 = .ok (.iconst 0, 1) := by decide +kernel
theorem dX12_begin_36 : decode cX12_begin 36 = .ok (.putfield 134, 3) := by decide +kernel
theorem dX12_begin_39 : decode cX12_begin 39 = .ok (.aload_n 0, 1) := by decide +kernel
theorem dX12_begin_40 : decode cX12_begin 40 = .ok (.iconst 0, 1) := by decide +kernel
theorem dX12_begin_41 : decode cX12_begin 41 = .ok (.putfield 170, 3) := by decide +kernel
theorem dX12_begin_44 : decode cX12_begin 44 = .ok (.iconst 1, 1) := by decide +kernel
theorem dX12_begin_45 : decode cX12_begin 45 = .ok (.ireturn, 1) := by decide +kernel
theorem dX12_ended_0 : decode cX12_ended 0 = .ok (.aload_n 0, 1) := by decide +kernel
theorem dX12_ended_1 : decode cX12_ended 1 = .ok (.aload_n 0, 1) := by decide +kernel
theorem dX12_ended_2 : decode cX12_ended 2 = .ok (.getfield 170, 3) := by decide +kernel
theorem dX12_ended_5 : decode cX12_ended 5 = .ok (.ifCond .ne 7, 3) := by decide +kernel
theorem dX12_ended_8 : decode cX12_ended 8 = .ok (.iconst (-1), 1) := by decide +kernel
theorem dX12_ended_9 : decode cX12_ended 9 = .ok (.goto 7, 3) := by decide +kernel
theorem dX12_ended_12 : decode cX12_ended 12 = .ok (.aload_n 0, 1) := by decide +kernel
theorem dX12_ended_13 : decode cX12_ended 13 = .ok (.getfield 173, 3) := by decide +kernel
theorem dX12_ended_16 : decode cX12_ended 16 = .ok (.putfield 45, 3) := by decide +kernel
theorem dX12_ended_19 : decode cX12_ended 19 = .ok (.aload_n 0, 1) := by decide +kernel
theorem dX12_ended_20 : decode cX12_ended 20 = .ok (.getfield 42, 3) := by decide +kernel
theorem dX12_ended_23 : decode cX12_ended 23 = .ok (.iconst 0, 1) := by decide +kernel
theorem dX12_ended_24 : decode cX12_ended 24 = .ok (.dup2, 1) := by decide +kernel
theorem dX12_ended_25 : decode cX12_ended 25 = .ok (.iaload, 1) := by decide +kernel
theorem dX12_ended_26 : decode cX12_ended 26 = .ok (.aload_n 0, 1) := by decide +kernel
theorem dX12_ended_27 : decode cX12_ended 27 = .ok (.getfield 170, 3) := by decide +kernel
theorem dX12_ended_30 : decode cX12_ended 30 = .ok (.ifCond .ne 7, 3) := by decide +kernel
theorem dX12_ended_33 : decode cX12_ended 33 = .ok (.iconst 0, 1) := by decide +kernel
theorem dX12_ended_34 : decode cX12_ended 34 = .ok (.goto 4, 3) := by decide +kernel
theorem dX12_ended_37 : decode cX12_ended 37 = .ok (.iconst 1, 1) := by decide +kernel
theorem dX12_ended_38 : decode cX12_ended 38 = .ok (.iadd, 1) := by decide +kernel
theorem dX12_ended_39 : decode cX12_ended 39 = .ok (.iastore, 1) := by decide +kernel
theorem dX12_ended_40 : decode cX12_ended 40 = .ok (.aload_n 0, 1) := by decide +kernel
theorem dX12_ended_41 : decode cX12_ended 41 = .ok (.getfield 170, 3) := by decide +kernel
theorem dX12_ended_44 : decode cX12_ended 44 = .ok (.ireturn, 1) := by decide +kernel
theorem dX12_isSameName_0 : decode cX12_isSameName 0 = .ok (.aload_n 0, 1) := by decide +kernel
theorem dX12_isSameName_1 : decode cX12_isSameName 1 = .ok (.getfield 64, 3) := by decide +kernel
theorem dX12_isSameName_4 : decode cX12_isSameName 4 = .ok (.iload_n 1, 1) := by decide +kernel
theorem dX12_isSameName_5 : decode cX12_isSameName 5 = .ok (.iaload, 1) := by decide +kernel
theorem dX12_isSameName_6 : decode cX12_isSameName 6 = .ok (.aload_n 0, 1) := by decide +kernel
theorem dX12_isSameName_7 : decode cX12_isSameName 7 = .ok (.getfield 64, 3) := by decide +kernel
theorem dX12_isSameName_10 : decode cX12_isSameName 10 = .ok (.iload_n 2, 1) := by decide +kernel
theorem dX12_isSameName_11 : decode cX12_isSameName 11 = .ok (.iaload, 1) := by decide +kernel
theorem dX12_isSameName_12 : decode cX12_isSameName 12 = .ok (.if_icmp .ne 7, 3) := by decide +kernel
theorem dX12_isSameName_15 : decode cX12_isSameName 15 = .ok (.iconst 1, 1) := by decide +kernel
theorem dX12_isSameName_16 : decode cX12_isSameName 16 = .ok (.goto 4, 3) := by decide +kernel
theorem dX12_isSameName_19 : decode cX12_isSameName 19 = .ok (.iconst 0, 1) := by decide +kernel
theorem dX12_isSameName_20 : decode cX12_isSameName 20 = .ok (.istore_n 3, 1) := by decide +kernel
theorem dX12_isSameName_21 : decode cX12_isSameName 21 = .ok (.iconst 0, 1) := by decide +kernel
theorem dX12_isSameName_22 : decode cX12_isSameName 22 = .ok (.istore 4, 2) := by decide +kernel
theorem dX12_isSameName_24 : decode cX12_isSameName 24 = .ok (.iload 4, 2) := by decide +kernel
theorem dX12_isSameName_26 : decode cX12_isSameName 26 = .ok (.aload_n 0, 1) := by decide +kernel
theorem dX12_isSameName_27 : decode cX12_isSameName 27 = .ok (.getfield 64, 3) := by decide +kernel
theorem dX12_isSameName_30 : decode cX12_isSameName 30 = .ok (.iload_n 1, 1) := by decide +kernel
theorem dX12_isSameName_31 : decode cX12_isSameName 31 = .ok (.iaload, 1) := by decide +kernel
theorem dX12_isSameName_32 : decode cX12_isSameName 32 = .ok (.if_icmp .ge 44, 3) := by decide +kernel
theorem dX12_isSameName_35 : decode cX12_isSameName 35 = .ok (.iload_n 3, 1) := by decide +kernel
theorem dX12_isSameName_36 : decode cX12_isSameName 36 = .ok (.ifCond .eq 40, 3) := by decide +kernel
theorem dX12_isSameName_39 : decode cX12_isSameName 39 = .ok (.aload_n 0, 1) := by decide +kernel
theorem dX12_isSameName_40 : decode cX12_isSameName 40 = .ok (.getfield 70, 3) := by decide +kernel
theorem dX12_isSameName_43 : decode cX12_isSameName 43 = .ok (.iconst 4, 1) := by decide +kernel
theorem dX12_isSameName_44 : decode cX12_isSameName 44 = .ok (.iload_n 1, 1) := by decide +kernel
theorem dX12_isSameName_45 : decode cX12_isSameName 45 = .ok (.imul, 1) := by decide +kernel
theorem dX12_isSameName_46 : decode cX12_isSameName 46 = .ok (.iload 4, 2) := by decide +kernel
theorem dX12_isSameName_48 : decode cX12_isSameName 48 = .ok (.iadd, 1) := by decide +kernel
theorem dX12_isSameName_49 : decode cX12_isSameName 49 = .ok (.iaload, 1) := by decide +kernel
theorem dX12_isSameName_50 : decode cX12_isSameName 50 = .ok (.aload_n 0, 1) := by decide +kernel
theorem dX12_isSameName_51 : decode cX12_isSameName 51 = .ok (.getfield 70, 3) := by decide +kernel
theorem dX12_isSameName_54 : decode cX12_isSameName 54 = .ok (.iconst 4, 1) := by decide +kernel
theorem dX12_isSameName_55 : decode cX12_isSameName 55 = .ok (.iload_n 2, 1) := by decide +kernel
theorem dX12_isSameName_56 : decode cX12_isSameName 56 = .ok (.imul, 1) := by decide +kernel
theorem dX12_isSameName_57 : decode cX12_isSameName 57 = .ok (.iload 4, 2) := by decide +kernel
theorem dX12_isSameName_59 : decode cX12_isSameName 59 = .ok (.iadd, 1) := by decide +kernel
theorem dX12_isSameName_60 : decode cX12_isSameName 60 = .ok (.iaload, 1) := by decide +kernel
theorem dX12_isSameName_61 : decode cX12_isSameName 61 = .ok (.if_icmp .ne 7, 3) := by decide +kernel
theorem dX12_isSameName_64 : decode cX12_isSameName 64 = .ok (.iconst 1, 1) := by decide +kernel
theorem dX12_isSameName_65 : decode cX12_isSameName 65 = .ok (.goto 4, 3) := by decide +kernel
theorem dX12_isSameName_68 : decode cX12_isSameName 68 = .ok (.iconst 0, 1) := by decide +kernel
theorem dX12_isSameName_69 : decode cX12_isSameName 69 = .ok (.istore_n 3, 1) := by decide +kernel
theorem dX12_isSameName_70 : decode cX12_isSameName 70 = .ok (.iinc 4 1, 3) := by decide +kernel
theorem dX12_isSameName_73 : decode cX12_isSameName 73 = .ok (.goto (-49), 3) := by decide +kernel
theorem dX12_isSameName_76 : decode cX12_isSameName 76 = .ok (.iload_n 3, 1) := by decide +kernel
theorem dX12_isSameName_77 : decode cX12_isSameName 77 = .ok (.ireturn, 1) := by decide +kernel
theorem dX12_fieldNamedAs_0 : decode cX12_fieldNamedAs 0 = .ok (.iconst 0, 1) := by decide +kernel
theorem dX12_fieldNamedAs_1 : decode cX12_fieldNamedAs 1 = .ok (.istore 5, 2) := by decide +kernel
theorem dX12_fieldNamedAs_3 : decode cX12_fieldNamedAs 3 = .ok (.iload 5, 2) := by decide +kernel
theorem dX12_fieldNamedAs_5 : decode cX12_fieldNamedAs 5 = .ok (.iload_n 2, 1) := by decide +kernel
theorem dX12_fieldNamedAs_6 : decode cX12_fieldNamedAs 6 = .ok (.if_icmp .ge 47, 3) := by decide +kernel
theorem dX12_fieldNamedAs_9 : decode cX12_fieldNamedAs 9 = .ok (.iload_n 1, 1) := by decide +kernel
theorem dX12_fieldNamedAs_10 : decode cX12_fieldNamedAs 10 = .ok (.iload 5, 2) := by decide +kernel
theorem dX12_fieldNamedAs_12 : decode cX12_fieldNamedAs 12 = .ok (.iadd, 1) := by decide +kernel
theorem dX12_fieldNamedAs_13 : decode cX12_fieldNamedAs 13 = .ok (.iload 4, 2) := by decide +kernel
theorem dX12_fieldNamedAs_15 : decode cX12_fieldNamedAs 15 = .ok (.if_icmp .eq 32, 3) := by decide +kernel
theorem dX12_fieldNamedAs_18 : decode cX12_fieldNamedAs 18 = .ok (.aload_n 0, 1) := by decide +kernel
theorem dX12_fieldNamedAs_19 : decode cX12_fieldNamedAs 19 = .ok (.getfield 52, 3) := by decide +kernel
theorem dX12_fieldNamedAs_22 : decode cX12_fieldNamedAs 22 = .ok (.iload_n 1, 1) := by decide +kernel
theorem dX12_fieldNamedAs_23 : decode cX12_fieldNamedAs 23 = .ok (.iload 5, 2) := by decide +kernel
theorem dX12_fieldNamedAs_25 : decode cX12_fieldNamedAs 25 = .ok (.iadd, 1) := by decide +kernel
theorem dX12_fieldNamedAs_26 : decode cX12_fieldNamedAs 26 = .ok (.iaload, 1) := by decide +kernel
theorem dX12_fieldNamedAs_27 : decode cX12_fieldNamedAs 27 = .ok (.iload_n 3, 1) := by decide +kernel
theorem dX12_fieldNamedAs_28 : decode cX12_fieldNamedAs 28 = .ok (.if_icmp .ne 19, 3) := by decide +kernel
theorem dX12_fieldNamedAs_31 : decode cX12_fieldNamedAs 31 = .ok (.aload_n 0, 1) := by decide +kernel
theorem dX12_fieldNamedAs_32 : decode cX12_fieldNamedAs 32 = .ok (.iload_n 1, 1) := by decide +kernel
theorem dX12_fieldNamedAs_33 : decode cX12_fieldNamedAs 33 = .ok (.iload 5, 2) := by decide +kernel
theorem dX12_fieldNamedAs_35 : decode cX12_fieldNamedAs 35 = .ok (.iadd, 1) := by decide +kernel
theorem dX12_fieldNamedAs_36 : decode cX12_fieldNamedAs 36 = .ok (.iload 4, 2) := by decide +kernel
theorem dX12_fieldNamedAs_38 : decode cX12_fieldNamedAs 38 = .ok (.invokevirtual 198, 3) := by decide +kernel
theorem dX12_fieldNamedAs_41 : decode cX12_fieldNamedAs 41 = .ok (.ifCond .eq 6, 3) := by decide +kernel
theorem dX12_fieldNamedAs_44 : decode cX12_fieldNamedAs 44 = .ok (.iload 5, 2) := by decide +kernel
theorem dX12_fieldNamedAs_46 : decode cX12_fieldNamedAs 46 = .ok (.ireturn, 1) := by decide +kernel
theorem dX12_fieldNamedAs_47 : decode cX12_fieldNamedAs 47 = .ok (.iinc 5 1, 3) := by decide +kernel
theorem dX12_fieldNamedAs_50 : decode cX12_fieldNamedAs 50 = .ok (.goto (-47), 3) := by decide +kernel
theorem dX12_fieldNamedAs_53 : decode cX12_fieldNamedAs 53 = .ok (.iconst (-1), 1) := by decide +kernel
theorem dX12_fieldNamedAs_54 : decode cX12_fieldNamedAs 54 = .ok (.ireturn, 1) := by decide +kernel
theorem dX12_mayBeSeen_0 : decode cX12_mayBeSeen 0 = .ok (.aload_n 0, 1) := by decide +kernel
theorem dX12_mayBeSeen_1 : decode cX12_mayBeSeen 1 = .ok (.getfield 52, 3) := by decide +kernel
theorem dX12_mayBeSeen_4 : decode cX12_mayBeSeen 4 = .ok (.iload_n 1, 1) := by decide +kernel
theorem dX12_mayBeSeen_5 : decode cX12_mayBeSeen 5 = .ok (.iaload, 1) := by decide +kernel
theorem dX12_mayBeSeen_6 : decode cX12_mayBeSeen 6 = .ok (.iconst (-1), 1) := by decide +kernel
theorem dX12_mayBeSeen_7 : decode cX12_mayBeSeen 7 = .ok (.if_icmp .ne 7, 3) := by decide +kernel
theorem dX12_mayBeSeen_10 : decode cX12_mayBeSeen 10 = .ok (.iconst (-1), 1) := by decide +kernel
theorem dX12_mayBeSeen_11 : decode cX12_mayBeSeen 11 = .ok (.goto 17, 3) := by decide +kernel
theorem dX12_mayBeSeen_14 : decode cX12_mayBeSeen 14 = .ok (.aload_n 0, 1) := by decide +kernel
theorem dX12_mayBeSeen_15 : decode cX12_mayBeSeen 15 = .ok (.getfield 67, 3) := by decide +kernel
theorem dX12_mayBeSeen_18 : decode cX12_mayBeSeen 18 = .ok (.bipush 32, 2) := by decide +kernel
theorem dX12_mayBeSeen_20 : decode cX12_mayBeSeen 20 = .ok (.aload_n 0, 1) := by decide +kernel
theorem dX12_mayBeSeen_21 : decode cX12_mayBeSeen 21 = .ok (.getfield 52, 3) := by decide +kernel
theorem dX12_mayBeSeen_24 : decode cX12_mayBeSeen 24 = .ok (.iload_n 1, 1) := by decide +kernel
theorem dX12_mayBeSeen_25 : decode cX12_mayBeSeen 25 = .ok (.iaload, 1) := by decide +kernel
theorem dX12_mayBeSeen_26 : decode cX12_mayBeSeen 26 = .ok (.iadd, 1) := by decide +kernel
theorem dX12_mayBeSeen_27 : decode cX12_mayBeSeen 27 = .ok (.iaload, 1) := by decide +kernel
theorem dX12_mayBeSeen_28 : decode cX12_mayBeSeen 28 = .ok (.istore_n 2, 1) := by decide +kernel
theorem dX12_mayBeSeen_29 : decode cX12_mayBeSeen 29 = .ok (.aload_n 0, 1) := by decide +kernel
theorem dX12_mayBeSeen_30 : decode cX12_mayBeSeen 30 = .ok (.getfield 52, 3) := by decide +kernel
theorem dX12_mayBeSeen_33 : decode cX12_mayBeSeen 33 = .ok (.iload_n 1, 1) := by decide +kernel
theorem dX12_mayBeSeen_34 : decode cX12_mayBeSeen 34 = .ok (.iaload, 1) := by decide +kernel
theorem dX12_mayBeSeen_35 : decode cX12_mayBeSeen 35 = .ok (.iconst (-1), 1) := by decide +kernel
theorem dX12_mayBeSeen_36 : decode cX12_mayBeSeen 36 = .ok (.if_icmp .eq 8, 3) := by decide +kernel
theorem dX12_mayBeSeen_39 : decode cX12_mayBeSeen 39 = .ok (.iload_n 2, 1) := by decide +kernel
theorem dX12_mayBeSeen_40 : decode cX12_mayBeSeen 40 = .ok (.iconst (-1), 1) := by decide +kernel
theorem dX12_mayBeSeen_41 : decode cX12_mayBeSeen 41 = .ok (.if_icmp .eq 7, 3) := by decide +kernel
theorem dX12_mayBeSeen_44 : decode cX12_mayBeSeen 44 = .ok (.iconst 1, 1) := by decide +kernel
theorem dX12_mayBeSeen_45 : decode cX12_mayBeSeen 45 = .ok (.goto 4, 3) := by decide +kernel
theorem dX12_mayBeSeen_48 : decode cX12_mayBeSeen 48 = .ok (.iconst 0, 1) := by decide +kernel
theorem dX12_mayBeSeen_49 : decode cX12_mayBeSeen 49 = .ok (.istore_n 3, 1) := by decide +kernel
theorem dX12_mayBeSeen_50 : decode cX12_mayBeSeen 50 = .ok (.aload_n 0, 1) := by decide +kernel
theorem dX12_mayBeSeen_51 : decode cX12_mayBeSeen 51 = .ok (.getfield 67, 3) := by decide +kernel
theorem dX12_mayBeSeen_54 : decode cX12_mayBeSeen 54 = .ok (.iload_n 1, 1) := by decide +kernel
theorem dX12_mayBeSeen_55 : decode cX12_mayBeSeen 55 = .ok (.iload_n 3, 1) := by decide +kernel
theorem dX12_mayBeSeen_56 : decode cX12_mayBeSeen 56 = .ok (.ifCond .eq 19, 3) := by decide +kernel
theorem dX12_mayBeSeen_59 : decode cX12_mayBeSeen 59 = .ok (.aload_n 0, 1) := by decide +kernel
theorem dX12_mayBeSeen_60 : decode cX12_mayBeSeen 60 = .ok (.iconst 0, 1) := by decide +kernel
theorem dX12_mayBeSeen_61 : decode cX12_mayBeSeen 61 = .ok (.aload_n 0, 1) := by decide +kernel
theorem dX12_mayBeSeen_62 : decode cX12_mayBeSeen 62 = .ok (.getfield 73, 3) := by decide +kernel
theorem dX12_mayBeSeen_65 : decode cX12_mayBeSeen 65 = .ok (.iconst 0, 1) := by decide +kernel
theorem dX12_mayBeSeen_66 : decode cX12_mayBeSeen 66 = .ok (.iaload, 1) := by decide +kernel
theorem dX12_mayBeSeen_67 : decode cX12_mayBeSeen 67 = .ok (.iload_n 2, 1) := by decide +kernel
theorem dX12_mayBeSeen_68 : decode cX12_mayBeSeen 68 = .ok (.iload_n 1, 1) := by decide +kernel
theorem dX12_mayBeSeen_69 : decode cX12_mayBeSeen 69 = .ok (.invokevirtual 202, 3) := by decide +kernel
theorem dX12_mayBeSeen_72 : decode cX12_mayBeSeen 72 = .ok (.goto 4, 3) := by decide +kernel
theorem dX12_mayBeSeen_75 : decode cX12_mayBeSeen 75 = .ok (.iconst (-1), 1) := by decide +kernel
theorem dX12_mayBeSeen_76 : decode cX12_mayBeSeen 76 = .ok (.iastore, 1) := by decide +kernel
theorem dX12_mayBeSeen_77 : decode cX12_mayBeSeen 77 = .ok (.aload_n 0, 1) := by decide +kernel
theorem dX12_mayBeSeen_78 : decode cX12_mayBeSeen 78 = .ok (.getfield 67, 3) := by decide +kernel
theorem dX12_mayBeSeen_81 : decode cX12_mayBeSeen 81 = .ok (.iload_n 1, 1) := by decide +kernel
theorem dX12_mayBeSeen_82 : decode cX12_mayBeSeen 82 = .ok (.iaload, 1) := by decide +kernel
theorem dX12_mayBeSeen_83 : decode cX12_mayBeSeen 83 = .ok (.iconst (-1), 1) := by decide +kernel
theorem dX12_mayBeSeen_84 : decode cX12_mayBeSeen 84 = .ok (.if_icmp .ne 22, 3) := by decide +kernel
theorem dX12_mayBeSeen_87 : decode cX12_mayBeSeen 87 = .ok (.iload_n 3, 1) := by decide +kernel
theorem dX12_mayBeSeen_88 : decode cX12_mayBeSeen 88 = .ok (.ifCond .eq 12, 3) := by decide +kernel
theorem dX12_mayBeSeen_91 : decode cX12_mayBeSeen 91 = .ok (.aload_n 0, 1) := by decide +kernel
theorem dX12_mayBeSeen_92 : decode cX12_mayBeSeen 92 = .ok (.getfield 49, 3) := by decide +kernel
theorem dX12_mayBeSeen_95 : decode cX12_mayBeSeen 95 = .ok (.iload_n 1, 1) := by decide +kernel
theorem dX12_mayBeSeen_96 : decode cX12_mayBeSeen 96 = .ok (.iaload, 1) := by decide +kernel
theorem dX12_mayBeSeen_97 : decode cX12_mayBeSeen 97 = .ok (.ifCond .eq 7, 3) := by decide +kernel
theorem dX12_mayBeSeen_100 : decode cX12_mayBeSeen 100 = .ok (.iconst 1, 1) := by decide +kernel
theorem dX12_mayBeSeen_101 : decode cX12_mayBeSeen 101 = .ok (.goto 4, 3) := by decide +kernel
theorem dX12_mayBeSeen_104 : decode cX12_mayBeSeen 104 = .ok (.iconst 0, 1) := by decide +kernel
theorem dX12_mayBeSeen_105 : decode cX12_mayBeSeen 105 = .ok (.ireturn, 1) := by decide +kernel
theorem dX12_mayBeSeen_106 : decode cX12_mayBeSeen 106 = .ok (.aload_n 0, 1) := by decide +kernel
theorem dX12_mayBeSeen_107 : decode cX12_mayBeSeen 107 = .ok (.getfield 49, 3) := by decide +kernel
theorem dX12_mayBeSeen_110 : decode cX12_mayBeSeen 110 = .ok (.aload_n 0, 1) := by decide +kernel
theorem dX12_mayBeSeen_111 : decode cX12_mayBeSeen 111 = .ok (.getfield 67, 3) := by decide +kernel
theorem dX12_mayBeSeen_114 : decode cX12_mayBeSeen 114 = .ok (.iload_n 1, 1) := by decide +kernel
theorem dX12_mayBeSeen_115 : decode cX12_mayBeSeen 115 = .ok (.iaload, 1) := by decide +kernel
theorem dX12_mayBeSeen_116 : decode cX12_mayBeSeen 116 = .ok (.iaload, 1) := by decide +kernel
theorem dX12_mayBeSeen_117 : decode cX12_mayBeSeen 117 = .ok (.istore 4, 2) := by decide +kernel
theorem dX12_mayBeSeen_119 : decode cX12_mayBeSeen 119 = .ok (.iload 4, 2) := by decide +kernel
theorem dX12_mayBeSeen_121 : decode cX12_mayBeSeen 121 = .ok (.aload_n 0, 1) := by decide +kernel
theorem dX12_mayBeSeen_122 : decode cX12_mayBeSeen 122 = .ok (.getfield 49, 3) := by decide +kernel
theorem dX12_mayBeSeen_125 : decode cX12_mayBeSeen 125 = .ok (.iload_n 1, 1) := by decide +kernel
theorem dX12_mayBeSeen_126 : decode cX12_mayBeSeen 126 = .ok (.iaload, 1) := by decide +kernel
theorem dX12_mayBeSeen_127 : decode cX12_mayBeSeen 127 = .ok (.if_icmp .eq 18, 3) := by decide +kernel
theorem dX12_mayBeSeen_130 : decode cX12_mayBeSeen 130 = .ok (.iload 4, 2) := by decide +kernel
theorem dX12_mayBeSeen_132 : decode cX12_mayBeSeen 132 = .ok (.ifCond .ne 17, 3) := by decide +kernel
theorem dX12_mayBeSeen_135 : decode cX12_mayBeSeen 135 = .ok (.aload_n 0, 1) := by decide +kernel
theorem dX12_mayBeSeen_136 : decode cX12_mayBeSeen 136 = .ok (.getfield 49, 3) := by decide +kernel
theorem dX12_mayBeSeen_139 : decode cX12_mayBeSeen 139 = .ok (.iload_n 1, 1) := by decide +kernel
theorem dX12_mayBeSeen_140 : decode cX12_mayBeSeen 140 = .ok (.iaload, 1) := by decide +kernel
theorem dX12_mayBeSeen_141 : decode cX12_mayBeSeen 141 = .ok (.iconst 1, 1) := by decide +kernel
theorem dX12_mayBeSeen_142 : decode cX12_mayBeSeen 142 = .ok (.if_icmp .ne 7, 3) := by decide +kernel
theorem dX12_mayBeSeen_145 : decode cX12_mayBeSeen 145 = .ok (.iconst 1, 1) := by decide +kernel
theorem dX12_mayBeSeen_146 : decode cX12_mayBeSeen 146 = .ok (.goto 4, 3) := by decide +kernel
theorem dX12_mayBeSeen_149 : decode cX12_mayBeSeen 149 = .ok (.iconst 0, 1) := by decide +kernel
theorem dX12_mayBeSeen_150 : decode cX12_mayBeSeen 150 = .ok (.ireturn, 1) := by decide +kernel
theorem dX12_readName_0 : decode cX12_readName 0 = .ok (.aload_n 0, 1) := by decide +kernel
theorem dX12_readName_1 : decode cX12_readName 1 = .ok (.getfield 170, 3) := by decide +kernel
theorem dX12_readName_4 : decode cX12_readName 4 = .ok (.ifCond .eq 4, 3) := by decide +kernel
theorem dX12_readName_7 : decode cX12_readName 7 = .ok (.return_, 1) := by decide +kernel
theorem dX12_readName_8 : decode cX12_readName 8 = .ok (.aload_n 0, 1) := by decide +kernel
theorem dX12_readName_9 : decode cX12_readName 9 = .ok (.getfield 144, 3) := by decide +kernel
theorem dX12_readName_12 : decode cX12_readName 12 = .ok (.iconst 1, 1) := by decide +kernel
theorem dX12_readName_13 : decode cX12_readName 13 = .ok (.if_icmp .eq 9, 3) := by decide +kernel
theorem dX12_readName_16 : decode cX12_readName 16 = .ok (.aload_n 0, 1) := by decide +kernel
theorem dX12_readName_17 : decode cX12_readName 17 = .ok (.iconst 1, 1) := by decide +kernel
theorem dX12_readName_18 : decode cX12_readName 18 = .ok (.invokevirtual 191, 3) := by decide +kernel
theorem dX12_readName_21 : decode cX12_readName 21 = .ok (.return_, 1) := by decide +kernel
theorem dX12_readName_22 : decode cX12_readName 22 = .ok (.aload_n 0, 1) := by decide +kernel
theorem dX12_readName_23 : decode cX12_readName 23 = .ok (.getfield 64, 3) := by decide +kernel
theorem dX12_readName_26 : decode cX12_readName 26 = .ok (.iload_n 1, 1) := by decide +kernel
theorem dX12_readName_27 : decode cX12_readName 27 = .ok (.aload_n 0, 1) := by decide +kernel
theorem dX12_readName_28 : decode cX12_readName 28 = .ok (.getfield 167, 3) := by decide +kernel
theorem dX12_readName_31 : decode cX12_readName 31 = .ok (.aload_n 0, 1) := by decide +kernel
theorem dX12_readName_32 : decode cX12_readName 32 = .ok (.getfield 141, 3) := by decide +kernel
theorem dX12_readName_35 : decode cX12_readName 35 = .ok (.isub, 1) := by decide +kernel
theorem dX12_readName_36 : decode cX12_readName 36 = .ok (.iastore, 1) := by decide +kernel
theorem dX12_readName_37 : decode cX12_readName 37 = .ok (.aload_n 0, 1) := by decide +kernel
theorem dX12_readName_38 : decode cX12_readName 38 = .ok (.getfield 64, 3) := by decide +kernel
theorem dX12_readName_41 : decode cX12_readName 41 = .ok (.iload_n 1, 1) := by decide +kernel
theorem dX12_readName_42 : decode cX12_readName 42 = .ok (.iaload, 1) := by decide +kernel
theorem dX12_readName_43 : decode cX12_readName 43 = .ok (.iconst 4, 1) := by decide +kernel
theorem dX12_readName_44 : decode cX12_readName 44 = .ok (.if_icmp .le 9, 3) := by decide +kernel
theorem dX12_readName_47 : decode cX12_readName 47 = .ok (.aload_n 0, 1) := by decide +kernel
theorem dX12_readName_48 : decode cX12_readName 48 = .ok (.iconst 2, 1) := by decide +kernel
theorem dX12_readName_49 : decode cX12_readName 49 = .ok (.invokevirtual 191, 3) := by decide +kernel
theorem dX12_readName_52 : decode cX12_readName 52 = .ok (.return_, 1) := by decide +kernel
theorem dX12_readName_53 : decode cX12_readName 53 = .ok (.iconst 0, 1) := by decide +kernel
theorem dX12_readName_54 : decode cX12_readName 54 = .ok (.istore_n 2, 1) := by decide +kernel
theorem dX12_readName_55 : decode cX12_readName 55 = .ok (.iload_n 2, 1) := by decide +kernel
theorem dX12_readName_56 : decode cX12_readName 56 = .ok (.aload_n 0, 1) := by decide +kernel
theorem dX12_readName_57 : decode cX12_readName 57 = .ok (.getfield 64, 3) := by decide +kernel
theorem dX12_readName_60 : decode cX12_readName 60 = .ok (.iload_n 1, 1) := by decide +kernel
theorem dX12_readName_61 : decode cX12_readName 61 = .ok (.iaload, 1) := by decide +kernel
theorem dX12_readName_62 : decode cX12_readName 62 = .ok (.if_icmp .ge 30, 3) := by decide +kernel
theorem dX12_readName_65 : decode cX12_readName 65 = .ok (.aload_n 0, 1) := by decide +kernel
theorem dX12_readName_66 : decode cX12_readName 66 = .ok (.getfield 70, 3) := by decide +kernel
theorem dX12_readName_69 : decode cX12_readName 69 = .ok (.iconst 4, 1) := by decide +kernel
theorem dX12_readName_70 : decode cX12_readName 70 = .ok (.iload_n 1, 1) := by decide +kernel
theorem dX12_readName_71 : decode cX12_readName 71 = .ok (.imul, 1) := by decide +kernel
theorem dX12_readName_72 : decode cX12_readName 72 = .ok (.iload_n 2, 1) := by decide +kernel
theorem dX12_readName_73 : decode cX12_readName 73 = .ok (.iadd, 1) := by decide +kernel
theorem dX12_readName_74 : decode cX12_readName 74 = .ok (.aload_n 0, 1) := by decide +kernel
theorem dX12_readName_75 : decode cX12_readName 75 = .ok (.getfield 38, 3) := by decide +kernel
theorem dX12_readName_78 : decode cX12_readName 78 = .ok (.aload_n 0, 1) := by decide +kernel
theorem dX12_readName_79 : decode cX12_readName 79 = .ok (.getfield 141, 3) := by decide +kernel
theorem dX12_readName_82 : decode cX12_readName 82 = .ok (.iload_n 2, 1) := by decide +kernel
theorem dX12_readName_83 : decode cX12_readName 83 = .ok (.iadd, 1) := by decide +kernel
theorem dX12_readName_84 : decode cX12_readName 84 = .ok (.iaload, 1) := by decide +kernel
theorem dX12_readName_85 : decode cX12_readName 85 = .ok (.iastore, 1) := by decide +kernel
theorem dX12_readName_86 : decode cX12_readName 86 = .ok (.iinc 2 1, 3) := by decide +kernel
theorem dX12_readName_89 : decode cX12_readName 89 = .ok (.goto (-34), 3) := by decide +kernel
theorem dX12_readName_92 : decode cX12_readName 92 = .ok (.aload_n 0, 1) := by decide +kernel
theorem dX12_readName_93 : decode cX12_readName 93 = .ok (.getfield 206, 3) := by decide +kernel
theorem dX12_readName_96 : decode cX12_readName 96 = .ok (.ifCond .eq 16, 3) := by decide +kernel
theorem dX12_readName_99 : decode cX12_readName 99 = .ok (.aload_n 0, 1) := by decide +kernel
theorem dX12_readName_100 : decode cX12_readName 100 = .ok (.iload_n 1, 1) := by decide +kernel
theorem dX12_readName_101 : decode cX12_readName 101 = .ok (.invokevirtual 210, 3) := by decide +kernel
theorem dX12_readName_104 : decode cX12_readName 104 = .ok (.ifCond .ne 8, 3) := by decide +kernel
theorem dX12_readName_107 : decode cX12_readName 107 = .ok (.aload_n 0, 1) := by decide +kernel
theorem dX12_readName_108 : decode cX12_readName 108 = .ok (.iconst 3, 1) := by decide +kernel
theorem dX12_readName_109 : decode cX12_readName 109 = .ok (.invokevirtual 191, 3) := by decide +kernel
theorem dX12_readName_112 : decode cX12_readName 112 = .ok (.aload_n 0, 1) := by decide +kernel
theorem dX12_readName_113 : decode cX12_readName 113 = .ok (.bipush 32, 2) := by decide +kernel
theorem dX12_readName_115 : decode cX12_readName 115 = .ok (.aload_n 0, 1) := by decide +kernel
theorem dX12_readName_116 : decode cX12_readName 116 = .ok (.getfield 73, 3) := by decide +kernel
theorem dX12_readName_119 : decode cX12_readName 119 = .ok (.iconst 2, 1) := by decide +kernel
theorem dX12_readName_120 : decode cX12_readName 120 = .ok (.iaload, 1) := by decide +kernel
theorem dX12_readName_121 : decode cX12_readName 121 = .ok (.iconst 1, 1) := by decide +kernel
theorem dX12_readName_122 : decode cX12_readName 122 = .ok (.isub, 1) := by decide +kernel
theorem dX12_readName_123 : decode cX12_readName 123 = .ok (.aload_n 0, 1) := by decide +kernel
theorem dX12_readName_124 : decode cX12_readName 124 = .ok (.getfield 52, 3) := by decide +kernel
theorem dX12_readName_127 : decode cX12_readName 127 = .ok (.iload_n 1, 1) := by decide +kernel
theorem dX12_readName_128 : decode cX12_readName 128 = .ok (.iaload, 1) := by decide +kernel
theorem dX12_readName_129 : decode cX12_readName 129 = .ok (.iload_n 1, 1) := by decide +kernel
theorem dX12_readName_130 : decode cX12_readName 130 = .ok (.invokevirtual 202, 3) := by decide +kernel
theorem dX12_readName_133 : decode cX12_readName 133 = .ok (.iconst (-1), 1) := by decide +kernel
theorem dX12_readName_134 : decode cX12_readName 134 = .ok (.if_icmp .eq 8, 3) := by decide +kernel
theorem dX12_readName_137 : decode cX12_readName 137 = .ok (.aload_n 0, 1) := by decide +kernel
theorem dX12_readName_138 : decode cX12_readName 138 = .ok (.iconst 4, 1) := by decide +kernel
theorem dX12_readName_139 : decode cX12_readName 139 = .ok (.invokevirtual 191, 3) := by decide +kernel
theorem dX12_readName_142 : decode cX12_readName 142 = .ok (.aload_n 0, 1) := by decide +kernel
theorem dX12_readName_143 : decode cX12_readName 143 = .ok (.getfield 170, 3) := by decide +kernel
theorem dX12_readName_146 : decode cX12_readName 146 = .ok (.ifCond .ne 7, 3) := by decide +kernel
theorem dX12_readName_149 : decode cX12_readName 149 = .ok (.aload_n 0, 1) := by decide +kernel
theorem dX12_readName_150 : decode cX12_readName 150 = .ok (.invokevirtual 195, 3) := by decide +kernel
theorem dX12_readName_153 : decode cX12_readName 153 = .ok (.return_, 1) := by decide +kernel
theorem dX12_isLeafThere_0 : decode cX12_isLeafThere 0 = .ok (.aload_n 0, 1) := by decide +kernel
theorem dX12_isLeafThere_1 : decode cX12_isLeafThere 1 = .ok (.getfield 55, 3) := by decide +kernel
theorem dX12_isLeafThere_4 : decode cX12_isLeafThere 4 = .ok (.aload_n 0, 1) := by decide +kernel
theorem dX12_isLeafThere_5 : decode cX12_isLeafThere 5 = .ok (.getfield 67, 3) := by decide +kernel
theorem dX12_isLeafThere_8 : decode cX12_isLeafThere 8 = .ok (.iload_n 1, 1) := by decide +kernel
theorem dX12_isLeafThere_9 : decode cX12_isLeafThere 9 = .ok (.iaload, 1) := by decide +kernel
theorem dX12_isLeafThere_10 : decode cX12_isLeafThere 10 = .ok (.iaload, 1) := by decide +kernel
theorem dX12_isLeafThere_11 : decode cX12_isLeafThere 11 = .ok (.iconst (-1), 1) := by decide +kernel
theorem dX12_isLeafThere_12 : decode cX12_isLeafThere 12 = .ok (.if_icmp .eq 7, 3) := by decide +kernel
theorem dX12_isLeafThere_15 : decode cX12_isLeafThere 15 = .ok (.iconst 1, 1) := by decide +kernel
theorem dX12_isLeafThere_16 : decode cX12_isLeafThere 16 = .ok (.goto 4, 3) := by decide +kernel
theorem dX12_isLeafThere_19 : decode cX12_isLeafThere 19 = .ok (.iconst 0, 1) := by decide +kernel
theorem dX12_isLeafThere_20 : decode cX12_isLeafThere 20 = .ok (.ireturn, 1) := by decide +kernel
theorem dX12_readField_0 : decode cX12_readField 0 = .ok (.aload_n 0, 1) := by decide +kernel
theorem dX12_readField_1 : decode cX12_readField 1 = .ok (.aload_n 0, 1) := by decide +kernel
theorem dX12_readField_2 : decode cX12_readField 2 = .ok (.getfield 17, 3) := by decide +kernel
theorem dX12_readField_5 : decode cX12_readField 5 = .ok (.invokevirtual 213, 3) := by decide +kernel
theorem dX12_readField_8 : decode cX12_readField 8 = .ok (.istore_n 3, 1) := by decide +kernel
theorem dX12_readField_9 : decode cX12_readField 9 = .ok (.iload_n 3, 1) := by decide +kernel
theorem dX12_readField_10 : decode cX12_readField 10 = .ok (.iconst (-1), 1) := by decide +kernel
theorem dX12_readField_11 : decode cX12_readField 11 = .ok (.if_icmp .ne 8, 3) := by decide +kernel
theorem dX12_readField_14 : decode cX12_readField 14 = .ok (.aload_n 0, 1) := by decide +kernel
theorem dX12_readField_15 : decode cX12_readField 15 = .ok (.iconst 1, 1) := by decide +kernel
theorem dX12_readField_16 : decode cX12_readField 16 = .ok (.invokevirtual 191, 3) := by decide +kernel
theorem dX12_readField_19 : decode cX12_readField 19 = .ok (.aload_n 0, 1) := by decide +kernel
theorem dX12_readField_20 : decode cX12_readField 20 = .ok (.getfield 73, 3) := by decide +kernel
theorem dX12_readField_23 : decode cX12_readField 23 = .ok (.iconst 2, 1) := by decide +kernel
theorem dX12_readField_24 : decode cX12_readField 24 = .ok (.iaload, 1) := by decide +kernel
theorem dX12_readField_25 : decode cX12_readField 25 = .ok (.bipush 16, 2) := by decide +kernel
theorem dX12_readField_27 : decode cX12_readField 27 = .ok (.if_icmp .ne 8, 3) := by decide +kernel
theorem dX12_readField_30 : decode cX12_readField 30 = .ok (.aload_n 0, 1) := by decide +kernel
theorem dX12_readField_31 : decode cX12_readField 31 = .ok (.iconst 2, 1) := by decide +kernel
theorem dX12_readField_32 : decode cX12_readField 32 = .ok (.invokevirtual 191, 3) := by decide +kernel
theorem dX12_readField_35 : decode cX12_readField 35 = .ok (.aload_n 0, 1) := by decide +kernel
theorem dX12_readField_36 : decode cX12_readField 36 = .ok (.getfield 170, 3) := by decide +kernel
theorem dX12_readField_39 : decode cX12_readField 39 = .ok (.ifCond .eq 4, 3) := by decide +kernel
theorem dX12_readField_42 : decode cX12_readField 42 = .ok (.return_, 1) := by decide +kernel
theorem dX12_readField_43 : decode cX12_readField 43 = .ok (.aload_n 0, 1) := by decide +kernel
theorem dX12_readField_44 : decode cX12_readField 44 = .ok (.getfield 73, 3) := by decide +kernel
theorem dX12_readField_47 : decode cX12_readField 47 = .ok (.iconst 2, 1) := by decide +kernel
theorem dX12_readField_48 : decode cX12_readField 48 = .ok (.iaload, 1) := by decide +kernel
theorem dX12_readField_49 : decode cX12_readField 49 = .ok (.istore 4, 2) := by decide +kernel
theorem dX12_readField_51 : decode cX12_readField 51 = .ok (.bipush 32, 2) := by decide +kernel
theorem dX12_readField_53 : decode cX12_readField 53 = .ok (.iload 4, 2) := by decide +kernel
theorem dX12_readField_55 : decode cX12_readField 55 = .ok (.iadd, 1) := by decide +kernel
theorem dX12_readField_56 : decode cX12_readField 56 = .ok (.istore 5, 2) := by decide +kernel
theorem dX12_readField_58 : decode cX12_readField 58 = .ok (.aload_n 0, 1) := by decide +kernel
theorem dX12_readField_59 : decode cX12_readField 59 = .ok (.getfield 73, 3) := by decide +kernel
theorem dX12_readField_62 : decode cX12_readField 62 = .ok (.iconst 2, 1) := by decide +kernel
theorem dX12_readField_63 : decode cX12_readField 63 = .ok (.dup2, 1) := by decide +kernel
theorem dX12_readField_64 : decode cX12_readField 64 = .ok (.iaload, 1) := by decide +kernel
theorem dX12_readField_65 : decode cX12_readField 65 = .ok (.iconst 1, 1) := by decide +kernel
theorem dX12_readField_66 : decode cX12_readField 66 = .ok (.iadd, 1) := by decide +kernel
theorem dX12_readField_67 : decode cX12_readField 67 = .ok (.iastore, 1) := by decide +kernel
theorem dX12_readField_68 : decode cX12_readField 68 = .ok (.aload_n 0, 1) := by decide +kernel
theorem dX12_readField_69 : decode cX12_readField 69 = .ok (.getfield 49, 3) := by decide +kernel
theorem dX12_readField_72 : decode cX12_readField 72 = .ok (.iload 5, 2) := by decide +kernel
theorem dX12_readField_74 : decode cX12_readField 74 = .ok (.iload_n 3, 1) := by decide +kernel
theorem dX12_readField_75 : decode cX12_readField 75 = .ok (.iastore, 1) := by decide +kernel
theorem dX12_readField_76 : decode cX12_readField 76 = .ok (.aload_n 0, 1) := by decide +kernel
theorem dX12_readField_77 : decode cX12_readField 77 = .ok (.getfield 52, 3) := by decide +kernel
theorem dX12_readField_80 : decode cX12_readField 80 = .ok (.iload 5, 2) := by decide +kernel
theorem dX12_readField_82 : decode cX12_readField 82 = .ok (.iload_n 1, 1) := by decide +kernel
theorem dX12_readField_83 : decode cX12_readField 83 = .ok (.iastore, 1) := by decide +kernel
theorem dX12_readField_84 : decode cX12_readField 84 = .ok (.aload_n 0, 1) := by decide +kernel
theorem dX12_readField_85 : decode cX12_readField 85 = .ok (.getfield 55, 3) := by decide +kernel
theorem dX12_readField_88 : decode cX12_readField 88 = .ok (.iload 5, 2) := by decide +kernel
theorem dX12_readField_90 : decode cX12_readField 90 = .ok (.iconst (-1), 1) := by decide +kernel
theorem dX12_readField_91 : decode cX12_readField 91 = .ok (.iastore, 1) := by decide +kernel
theorem dX12_readField_92 : decode cX12_readField 92 = .ok (.aload_n 0, 1) := by decide +kernel
theorem dX12_readField_93 : decode cX12_readField 93 = .ok (.getfield 67, 3) := by decide +kernel
theorem dX12_readField_96 : decode cX12_readField 96 = .ok (.iload 5, 2) := by decide +kernel
theorem dX12_readField_98 : decode cX12_readField 98 = .ok (.iconst (-1), 1) := by decide +kernel
theorem dX12_readField_99 : decode cX12_readField 99 = .ok (.iastore, 1) := by decide +kernel
theorem dX12_readField_100 : decode cX12_readField 100 = .ok (.aload_n 0, 1) := by decide +kernel
theorem dX12_readField_101 : decode cX12_readField 101 = .ok (.getfield 58, 3) := by decide +kernel
theorem dX12_readField_104 : decode cX12_readField 104 = .ok (.iload 5, 2) := by decide +kernel
theorem dX12_readField_106 : decode cX12_readField 106 = .ok (.iload_n 1, 1) := by decide +kernel
theorem dX12_readField_107 : decode cX12_readField 107 = .ok (.iconst (-1), 1) := by decide +kernel
theorem dX12_readField_108 : decode cX12_readField 108 = .ok (.if_icmp .ne 7, 3) := by decide +kernel
theorem dX12_readField_111 : decode cX12_readField 111 = .ok (.iconst 0, 1) := by decide +kernel
theorem dX12_readField_112 : decode cX12_readField 112 = .ok (.goto 12, 3) := by decide +kernel
theorem dX12_readField_115 : decode cX12_readField 115 = .ok (.aload_n 0, 1) := by decide +kernel
theorem dX12_readField_116 : decode cX12_readField 116 = .ok (.getfield 58, 3) := by decide +kernel
theorem dX12_readField_119 : decode cX12_readField 119 = .ok (.bipush 32, 2) := by decide +kernel
theorem dX12_readField_121 : decode cX12_readField 121 = .ok (.iload_n 1, 1) := by decide +kernel
theorem dX12_readField_122 : decode cX12_readField 122 = .ok (.iadd, 1) := by decide +kernel
theorem dX12_readField_123 : decode cX12_readField 123 = .ok (.iaload, 1) := by decide +kernel
theorem dX12_readField_124 : decode cX12_readField 124 = .ok (.iload_n 3, 1) := by decide +kernel
theorem dX12_readField_125 : decode cX12_readField 125 = .ok (.ifCond .ne 7, 3) := by decide +kernel
theorem dX12_readField_128 : decode cX12_readField 128 = .ok (.iconst 0, 1) := by decide +kernel
theorem dX12_readField_129 : decode cX12_readField 129 = .ok (.goto 4, 3) := by decide +kernel
theorem dX12_readField_132 : decode cX12_readField 132 = .ok (.iconst 1, 1) := by decide +kernel
theorem dX12_readField_133 : decode cX12_readField 133 = .ok (.iadd, 1) := by decide +kernel
theorem dX12_readField_134 : decode cX12_readField 134 = .ok (.iastore, 1) := by decide +kernel
theorem dX12_readField_135 : decode cX12_readField 135 = .ok (.aload_n 0, 1) := by decide +kernel
theorem dX12_readField_136 : decode cX12_readField 136 = .ok (.getfield 61, 3) := by decide +kernel
theorem dX12_readField_139 : decode cX12_readField 139 = .ok (.iload 5, 2) := by decide +kernel
theorem dX12_readField_141 : decode cX12_readField 141 = .ok (.iload_n 1, 1) := by decide +kernel
theorem dX12_readField_142 : decode cX12_readField 142 = .ok (.iconst (-1), 1) := by decide +kernel
theorem dX12_readField_143 : decode cX12_readField 143 = .ok (.if_icmp .ne 7, 3) := by decide +kernel
theorem dX12_readField_146 : decode cX12_readField 146 = .ok (.iconst 0, 1) := by decide +kernel
theorem dX12_readField_147 : decode cX12_readField 147 = .ok (.goto 12, 3) := by decide +kernel
theorem dX12_readField_150 : decode cX12_readField 150 = .ok (.aload_n 0, 1) := by decide +kernel
theorem dX12_readField_151 : decode cX12_readField 151 = .ok (.getfield 61, 3) := by decide +kernel
theorem dX12_readField_154 : decode cX12_readField 154 = .ok (.bipush 32, 2) := by decide +kernel
theorem dX12_readField_156 : decode cX12_readField 156 = .ok (.iload_n 1, 1) := by decide +kernel
theorem dX12_readField_157 : decode cX12_readField 157 = .ok (.iadd, 1) := by decide +kernel
theorem dX12_readField_158 : decode cX12_readField 158 = .ok (.iaload, 1) := by decide +kernel
theorem dX12_readField_159 : decode cX12_readField 159 = .ok (.iload_n 3, 1) := by decide +kernel
theorem dX12_readField_160 : decode cX12_readField 160 = .ok (.iconst 2, 1) := by decide +kernel
theorem dX12_readField_161 : decode cX12_readField 161 = .ok (.if_icmp .ne 7, 3) := by decide +kernel
theorem dX12_readField_164 : decode cX12_readField 164 = .ok (.iconst 1, 1) := by decide +kernel
theorem dX12_readField_165 : decode cX12_readField 165 = .ok (.goto 4, 3) := by decide +kernel
theorem dX12_readField_168 : decode cX12_readField 168 = .ok (.iconst 0, 1) := by decide +kernel
theorem dX12_readField_169 : decode cX12_readField 169 = .ok (.iadd, 1) := by decide +kernel
theorem dX12_readField_170 : decode cX12_readField 170 = .ok (.iastore, 1) := by decide +kernel
theorem dX12_readField_171 : decode cX12_readField 171 = .ok (.aload_n 0, 1) := by decide +kernel
theorem dX12_readField_172 : decode cX12_readField 172 = .ok (.invokevirtual 195, 3) := by decide +kernel
theorem dX12_readField_175 : decode cX12_readField 175 = .ok (.aload_n 0, 1) := by decide +kernel
theorem dX12_readField_176 : decode cX12_readField 176 = .ok (.iload 5, 2) := by decide +kernel
theorem dX12_readField_178 : decode cX12_readField 178 = .ok (.invokevirtual 217, 3) := by decide +kernel
theorem dX12_readField_181 : decode cX12_readField 181 = .ok (.aload_n 0, 1) := by decide +kernel
theorem dX12_readField_182 : decode cX12_readField 182 = .ok (.getfield 170, 3) := by decide +kernel
theorem dX12_readField_185 : decode cX12_readField 185 = .ok (.ifCond .eq 4, 3) := by decide +kernel
theorem dX12_readField_188 : decode cX12_readField 188 = .ok (.return_, 1) := by decide +kernel
theorem dX12_readField_189 : decode cX12_readField 189 = .ok (.aload_n 0, 1) := by decide +kernel
theorem dX12_readField_190 : decode cX12_readField 190 = .ok (.bipush 123, 2) := by decide +kernel
theorem dX12_readField_192 : decode cX12_readField 192 = .ok (.invokevirtual 188, 3) := by decide +kernel
theorem dX12_readField_195 : decode cX12_readField 195 = .ok (.istore 6, 2) := by decide +kernel
theorem dX12_readField_197 : decode cX12_readField 197 = .ok (.iload 6, 2) := by decide +kernel
theorem dX12_readField_199 : decode cX12_readField 199 = .ok (.ifCond .ne 17, 3) := by decide +kernel
theorem dX12_readField_202 : decode cX12_readField 202 = .ok (.aload_n 0, 1) := by decide +kernel
theorem dX12_readField_203 : decode cX12_readField 203 = .ok (.bipush 59, 2) := by decide +kernel
theorem dX12_readField_205 : decode cX12_readField 205 = .ok (.invokevirtual 188, 3) := by decide +kernel
theorem dX12_readField_208 : decode cX12_readField 208 = .ok (.ifCond .ne 8, 3) := by decide +kernel
theorem dX12_readField_211 : decode cX12_readField 211 = .ok (.aload_n 0, 1) := by decide +kernel
theorem dX12_readField_212 : decode cX12_readField 212 = .ok (.iconst 1, 1) := by decide +kernel
theorem dX12_readField_213 : decode cX12_readField 213 = .ok (.invokevirtual 191, 3) := by decide +kernel
theorem dX12_readField_216 : decode cX12_readField 216 = .ok (.iload 6, 2) := by decide +kernel
theorem dX12_readField_218 : decode cX12_readField 218 = .ok (.ifCond .eq 11, 3) := by decide +kernel
theorem dX12_readField_221 : decode cX12_readField 221 = .ok (.iload_n 2, 1) := by decide +kernel
theorem dX12_readField_222 : decode cX12_readField 222 = .ok (.iconst 3, 1) := by decide +kernel
theorem dX12_readField_223 : decode cX12_readField 223 = .ok (.if_icmp .ne 22, 3) := by decide +kernel
theorem dX12_readField_226 : decode cX12_readField 226 = .ok (.goto 14, 3) := by decide +kernel
theorem dX12_readField_229 : decode cX12_readField 229 = .ok (.aload_n 0, 1) := by decide +kernel
theorem dX12_readField_230 : decode cX12_readField 230 = .ok (.getfield 76, 3) := by decide +kernel
theorem dX12_readField_233 : decode cX12_readField 233 = .ok (.iconst 2, 1) := by decide +kernel
theorem dX12_readField_234 : decode cX12_readField 234 = .ok (.iaload, 1) := by decide +kernel
theorem dX12_readField_235 : decode cX12_readField 235 = .ok (.bipush 8, 2) := by decide +kernel
theorem dX12_readField_237 : decode cX12_readField 237 = .ok (.if_icmp .ne 8, 3) := by decide +kernel
theorem dX12_readField_240 : decode cX12_readField 240 = .ok (.aload_n 0, 1) := by decide +kernel
theorem dX12_readField_241 : decode cX12_readField 241 = .ok (.iconst 2, 1) := by decide +kernel
theorem dX12_readField_242 : decode cX12_readField 242 = .ok (.invokevirtual 191, 3) := by decide +kernel
theorem dX12_readField_245 : decode cX12_readField 245 = .ok (.aload_n 0, 1) := by decide +kernel
theorem dX12_readField_246 : decode cX12_readField 246 = .ok (.getfield 67, 3) := by decide +kernel
theorem dX12_readField_249 : decode cX12_readField 249 = .ok (.iload 5, 2) := by decide +kernel
theorem dX12_readField_251 : decode cX12_readField 251 = .ok (.iaload, 1) := by decide +kernel
theorem dX12_readField_252 : decode cX12_readField 252 = .ok (.iconst (-1), 1) := by decide +kernel
theorem dX12_readField_253 : decode cX12_readField 253 = .ok (.if_icmp .eq 19, 3) := by decide +kernel
theorem dX12_readField_256 : decode cX12_readField 256 = .ok (.aload_n 0, 1) := by decide +kernel
theorem dX12_readField_257 : decode cX12_readField 257 = .ok (.iload 5, 2) := by decide +kernel
theorem dX12_readField_259 : decode cX12_readField 259 = .ok (.invokevirtual 220, 3) := by decide +kernel
theorem dX12_readField_262 : decode cX12_readField 262 = .ok (.iload 6, 2) := by decide +kernel
theorem dX12_readField_264 : decode cX12_readField 264 = .ok (.if_icmp .ne 8, 3) := by decide +kernel
theorem dX12_readField_267 : decode cX12_readField 267 = .ok (.aload_n 0, 1) := by decide +kernel
theorem dX12_readField_268 : decode cX12_readField 268 = .ok (.iconst 3, 1) := by decide +kernel
theorem dX12_readField_269 : decode cX12_readField 269 = .ok (.invokevirtual 191, 3) := by decide +kernel
theorem dX12_readField_272 : decode cX12_readField 272 = .ok (.aload_n 0, 1) := by decide +kernel
theorem dX12_readField_273 : decode cX12_readField 273 = .ok (.getfield 170, 3) := by decide +kernel
theorem dX12_readField_276 : decode cX12_readField 276 = .ok (.ifCond .eq 4, 3) := by decide +kernel
theorem dX12_readField_279 : decode cX12_readField 279 = .ok (.return_, 1) := by decide +kernel
theorem dX12_readField_280 : decode cX12_readField 280 = .ok (.aload_n 0, 1) := by decide +kernel
theorem dX12_readField_281 : decode cX12_readField 281 = .ok (.invokevirtual 195, 3) := by decide +kernel
theorem dX12_readField_284 : decode cX12_readField 284 = .ok (.iload 6, 2) := by decide +kernel
theorem dX12_readField_286 : decode cX12_readField 286 = .ok (.ifCond .ne 27, 3) := by decide +kernel
theorem dX12_readField_289 : decode cX12_readField 289 = .ok (.aload_n 0, 1) := by decide +kernel
theorem dX12_readField_290 : decode cX12_readField 290 = .ok (.getfield 55, 3) := by decide +kernel
theorem dX12_readField_293 : decode cX12_readField 293 = .ok (.iload 5, 2) := by decide +kernel
theorem dX12_readField_295 : decode cX12_readField 295 = .ok (.aload_n 0, 1) := by decide +kernel
theorem dX12_readField_296 : decode cX12_readField 296 = .ok (.getfield 76, 3) := by decide +kernel
theorem dX12_readField_299 : decode cX12_readField 299 = .ok (.iconst 2, 1) := by decide +kernel
theorem dX12_readField_300 : decode cX12_readField 300 = .ok (.iaload, 1) := by decide +kernel
theorem dX12_readField_301 : decode cX12_readField 301 = .ok (.iastore, 1) := by decide +kernel
theorem dX12_readField_302 : decode cX12_readField 302 = .ok (.aload_n 0, 1) := by decide +kernel
theorem dX12_readField_303 : decode cX12_readField 303 = .ok (.getfield 76, 3) := by decide +kernel
theorem dX12_readField_306 : decode cX12_readField 306 = .ok (.iconst 2, 1) := by decide +kernel
theorem dX12_readField_307 : decode cX12_readField 307 = .ok (.dup2, 1) := by decide +kernel
theorem dX12_readField_308 : decode cX12_readField 308 = .ok (.iaload, 1) := by decide +kernel
theorem dX12_readField_309 : decode cX12_readField 309 = .ok (.iconst 1, 1) := by decide +kernel
theorem dX12_readField_310 : decode cX12_readField 310 = .ok (.iadd, 1) := by decide +kernel
theorem dX12_readField_311 : decode cX12_readField 311 = .ok (.iastore, 1) := by decide +kernel
theorem dX12_readField_312 : decode cX12_readField 312 = .ok (.return_, 1) := by decide +kernel
theorem dX12_readField_313 : decode cX12_readField 313 = .ok (.aload_n 0, 1) := by decide +kernel
theorem dX12_readField_314 : decode cX12_readField 314 = .ok (.iload 4, 2) := by decide +kernel
theorem dX12_readField_316 : decode cX12_readField 316 = .ok (.iload_n 2, 1) := by decide +kernel
theorem dX12_readField_317 : decode cX12_readField 317 = .ok (.iconst 1, 1) := by decide +kernel
theorem dX12_readField_318 : decode cX12_readField 318 = .ok (.iadd, 1) := by decide +kernel
theorem dX12_readField_319 : decode cX12_readField 319 = .ok (.invokevirtual 223, 3) := by decide +kernel
theorem dX12_readField_322 : decode cX12_readField 322 = .ok (.aload_n 0, 1) := by decide +kernel
theorem dX12_readField_323 : decode cX12_readField 323 = .ok (.bipush 125, 2) := by decide +kernel
theorem dX12_readField_325 : decode cX12_readField 325 = .ok (.invokevirtual 227, 3) := by decide +kernel
theorem dX12_readField_328 : decode cX12_readField 328 = .ok (.return_, 1) := by decide +kernel
theorem dX12_readFields_0 : decode cX12_readFields 0 = .ok (.aload_n 0, 1) := by decide +kernel
theorem dX12_readFields_1 : decode cX12_readFields 1 = .ok (.iload_n 1, 1) := by decide +kernel
theorem dX12_readFields_2 : decode cX12_readFields 2 = .ok (.iload_n 2, 1) := by decide +kernel
theorem dX12_readFields_3 : decode cX12_readFields 3 = .ok (.invokevirtual 230, 3) := by decide +kernel
theorem dX12_readFields_6 : decode cX12_readFields 6 = .ok (.aload_n 0, 1) := by decide +kernel
theorem dX12_readFields_7 : decode cX12_readFields 7 = .ok (.getfield 170, 3) := by decide +kernel
theorem dX12_readFields_10 : decode cX12_readFields 10 = .ok (.ifCond .ne 36, 3) := by decide +kernel
theorem dX12_readFields_13 : decode cX12_readFields 13 = .ok (.iload_n 1, 1) := by decide +kernel
theorem dX12_readFields_14 : decode cX12_readFields 14 = .ok (.iconst (-1), 1) := by decide +kernel
theorem dX12_readFields_15 : decode cX12_readFields 15 = .ok (.if_icmp .ne 13, 3) := by decide +kernel
theorem dX12_readFields_18 : decode cX12_readFields 18 = .ok (.aload_n 0, 1) := by decide +kernel
theorem dX12_readFields_19 : decode cX12_readFields 19 = .ok (.getfield 144, 3) := by decide +kernel
theorem dX12_readFields_22 : decode cX12_readFields 22 = .ok (.ifCond .eq 24, 3) := by decide +kernel
theorem dX12_readFields_25 : decode cX12_readFields 25 = .ok (.goto 12, 3) := by decide +kernel
theorem dX12_readFields_28 : decode cX12_readFields 28 = .ok (.aload_n 0, 1) := by decide +kernel
theorem dX12_readFields_29 : decode cX12_readFields 29 = .ok (.bipush 125, 2) := by decide +kernel
theorem dX12_readFields_31 : decode cX12_readFields 31 = .ok (.invokevirtual 188, 3) := by decide +kernel
theorem dX12_readFields_34 : decode cX12_readFields 34 = .ok (.ifCond .ne 12, 3) := by decide +kernel
theorem dX12_readFields_37 : decode cX12_readFields 37 = .ok (.aload_n 0, 1) := by decide +kernel
theorem dX12_readFields_38 : decode cX12_readFields 38 = .ok (.iload_n 1, 1) := by decide +kernel
theorem dX12_readFields_39 : decode cX12_readFields 39 = .ok (.iload_n 2, 1) := by decide +kernel
theorem dX12_readFields_40 : decode cX12_readFields 40 = .ok (.invokevirtual 230, 3) := by decide +kernel
theorem dX12_readFields_43 : decode cX12_readFields 43 = .ok (.goto (-37), 3) := by decide +kernel
theorem dX12_readFields_46 : decode cX12_readFields 46 = .ok (.return_, 1) := by decide +kernel
theorem dX12_readSchema_0 : decode cX12_readSchema 0 = .ok (.aload_n 0, 1) := by decide +kernel
theorem dX12_readSchema_1 : decode cX12_readSchema 1 = .ok (.iload_n 1, 1) := by decide +kernel
theorem dX12_readSchema_2 : decode cX12_readSchema 2 = .ok (.putfield 206, 3) := by decide +kernel
theorem dX12_readSchema_5 : decode cX12_readSchema 5 = .ok (.aload_n 0, 1) := by decide +kernel
theorem dX12_readSchema_6 : decode cX12_readSchema 6 = .ok (.getfield 73, 3) := by decide +kernel
theorem dX12_readSchema_9 : decode cX12_readSchema 9 = .ok (.iconst 2, 1) := by decide +kernel
theorem dX12_readSchema_10 : decode cX12_readSchema 10 = .ok (.iconst 0, 1) := by decide +kernel
theorem dX12_readSchema_11 : decode cX12_readSchema 11 = .ok (.iastore, 1) := by decide +kernel
theorem dX12_readSchema_12 : decode cX12_readSchema 12 = .ok (.aload_n 0, 1) := by decide +kernel
theorem dX12_readSchema_13 : decode cX12_readSchema 13 = .ok (.getfield 76, 3) := by decide +kernel
theorem dX12_readSchema_16 : decode cX12_readSchema 16 = .ok (.iconst 2, 1) := by decide +kernel
theorem dX12_readSchema_17 : decode cX12_readSchema 17 = .ok (.iconst 0, 1) := by decide +kernel
theorem dX12_readSchema_18 : decode cX12_readSchema 18 = .ok (.iastore, 1) := by decide +kernel
theorem dX12_readSchema_19 : decode cX12_readSchema 19 = .ok (.aload_n 0, 1) := by decide +kernel
theorem dX12_readSchema_20 : decode cX12_readSchema 20 = .ok (.invokevirtual 195, 3) := by decide +kernel
theorem dX12_readSchema_23 : decode cX12_readSchema 23 = .ok (.aload_n 0, 1) := by decide +kernel
theorem dX12_readSchema_24 : decode cX12_readSchema 24 = .ok (.iconst (-1), 1) := by decide +kernel
theorem dX12_readSchema_25 : decode cX12_readSchema 25 = .ok (.iconst 0, 1) := by decide +kernel
theorem dX12_readSchema_26 : decode cX12_readSchema 26 = .ok (.invokevirtual 223, 3) := by decide +kernel
theorem dX12_readSchema_29 : decode cX12_readSchema 29 = .ok (.return_, 1) := by decide +kernel
