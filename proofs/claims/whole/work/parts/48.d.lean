theorem dX12_tell_0 : decode cX12_tell 0 = .ok (.aload_n 0, 1) := by decide +kernel
theorem dX12_tell_1 : decode cX12_tell 1 = .ok (.iconst 0, 1) := by decide +kernel
theorem dX12_tell_2 : decode cX12_tell 2 = .ok (.putfield 429, 3) := by decide +kernel
theorem dX12_tell_5 : decode cX12_tell 5 = .ok (.aload_n 0, 1) := by decide +kernel
theorem dX12_tell_6 : decode cX12_tell 6 = .ok (.iload 4, 2) := by decide +kernel
theorem dX12_tell_8 : decode cX12_tell 8 = .ok (.putfield 432, 3) := by decide +kernel
theorem dX12_tell_11 : decode cX12_tell 11 = .ok (.iconst 0, 1) := by decide +kernel
theorem dX12_tell_12 : decode cX12_tell 12 = .ok (.istore 5, 2) := by decide +kernel
theorem dX12_tell_14 : decode cX12_tell 14 = .ok (.iload 5, 2) := by decide +kernel
theorem dX12_tell_16 : decode cX12_tell 16 = .ok (.aload_n 0, 1) := by decide +kernel
theorem dX12_tell_17 : decode cX12_tell 17 = .ok (.getfield 76, 3) := by decide +kernel
theorem dX12_tell_20 : decode cX12_tell 20 = .ok (.iconst 0, 1) := by decide +kernel
theorem dX12_tell_21 : decode cX12_tell 21 = .ok (.iaload, 1) := by decide +kernel
theorem dX12_tell_22 : decode cX12_tell 22 = .ok (.if_icmp .ge 43, 3) := by decide +kernel
theorem dX12_tell_25 : decode cX12_tell 25 = .ok (.aload_n 0, 1) := by decide +kernel
theorem dX12_tell_26 : decode cX12_tell 26 = .ok (.getfield 101, 3) := by decide +kernel
theorem dX12_tell_29 : decode cX12_tell 29 = .ok (.iload 5, 2) := by decide +kernel
theorem dX12_tell_31 : decode cX12_tell 31 = .ok (.aload_n 0, 1) := by decide +kernel
theorem dX12_tell_32 : decode cX12_tell 32 = .ok (.iload 5, 2) := by decide +kernel
theorem dX12_tell_34 : decode cX12_tell 34 = .ok (.iload_n 2, 1) := by decide +kernel
theorem dX12_tell_35 : decode cX12_tell 35 = .ok (.invokevirtual 409, 3) := by decide +kernel
theorem dX12_tell_38 : decode cX12_tell 38 = .ok (.iastore, 1) := by decide +kernel
theorem dX12_tell_39 : decode cX12_tell 39 = .ok (.aload_n 0, 1) := by decide +kernel
theorem dX12_tell_40 : decode cX12_tell 40 = .ok (.getfield 104, 3) := by decide +kernel
theorem dX12_tell_43 : decode cX12_tell 43 = .ok (.iload 5, 2) := by decide +kernel
theorem dX12_tell_45 : decode cX12_tell 45 = .ok (.aload_n 0, 1) := by decide +kernel
theorem dX12_tell_46 : decode cX12_tell 46 = .ok (.iload 5, 2) := by decide +kernel
theorem dX12_tell_48 : decode cX12_tell 48 = .ok (.aload_n 0, 1) := by decide +kernel
theorem dX12_tell_49 : decode cX12_tell 49 = .ok (.getfield 101, 3) := by decide +kernel
theorem dX12_tell_52 : decode cX12_tell 52 = .ok (.iload 5, 2) := by decide +kernel
theorem dX12_tell_54 : decode cX12_tell 54 = .ok (.iaload, 1) := by decide +kernel
theorem dX12_tell_55 : decode cX12_tell 55 = .ok (.invokevirtual 412, 3) := by decide +kernel
theorem dX12_tell_58 : decode cX12_tell 58 = .ok (.iastore, 1) := by decide +kernel
theorem dX12_tell_59 : decode cX12_tell 59 = .ok (.iinc 5 1, 3) := by decide +kernel
theorem dX12_tell_62 : decode cX12_tell 62 = .ok (.goto (-48), 3) := by decide +kernel
theorem dX12_tell_65 : decode cX12_tell 65 = .ok (.aload_n 0, 1) := by decide +kernel
theorem dX12_tell_66 : decode cX12_tell 66 = .ok (.iload_n 1, 1) := by decide +kernel
theorem dX12_tell_67 : decode cX12_tell 67 = .ok (.iconst (-1), 1) := by decide +kernel
theorem dX12_tell_68 : decode cX12_tell 68 = .ok (.iload_n 3, 1) := by decide +kernel
theorem dX12_tell_69 : decode cX12_tell 69 = .ok (.iconst 0, 1) := by decide +kernel
theorem dX12_tell_70 : decode cX12_tell 70 = .ok (.invokevirtual 444, 3) := by decide +kernel
theorem dX12_tell_73 : decode cX12_tell 73 = .ok (.aload_n 0, 1) := by decide +kernel
theorem dX12_tell_74 : decode cX12_tell 74 = .ok (.bipush 59, 2) := by decide +kernel
theorem dX12_tell_76 : decode cX12_tell 76 = .ok (.invokevirtual 438, 3) := by decide +kernel
theorem dX12_tell_79 : decode cX12_tell 79 = .ok (.aload_n 0, 1) := by decide +kernel
theorem dX12_tell_80 : decode cX12_tell 80 = .ok (.getfield 429, 3) := by decide +kernel
theorem dX12_tell_83 : decode cX12_tell 83 = .ok (.ireturn, 1) := by decide +kernel
theorem dX12_length_0 : decode cX12_length 0 = .ok (.aload_n 0, 1) := by decide +kernel
theorem dX12_length_1 : decode cX12_length 1 = .ok (.iconst 0, 1) := by decide +kernel
theorem dX12_length_2 : decode cX12_length 2 = .ok (.putfield 125, 3) := by decide +kernel
theorem dX12_length_5 : decode cX12_length 5 = .ok (.aload_n 0, 1) := by decide +kernel
theorem dX12_length_6 : decode cX12_length 6 = .ok (.iload_n 1, 1) := by decide +kernel
theorem dX12_length_7 : decode cX12_length 7 = .ok (.invokevirtual 406, 3) := by decide +kernel
theorem dX12_length_10 : decode cX12_length 10 = .ok (.ifCond .ne 9, 3) := by decide +kernel
theorem dX12_length_13 : decode cX12_length 13 = .ok (.aload_n 0, 1) := by decide +kernel
theorem dX12_length_14 : decode cX12_length 14 = .ok (.iconst 1, 1) := by decide +kernel
theorem dX12_length_15 : decode cX12_length 15 = .ok (.invokevirtual 380, 3) := by decide +kernel
theorem dX12_length_18 : decode cX12_length 18 = .ok (.ireturn, 1) := by decide +kernel
theorem dX12_length_19 : decode cX12_length 19 = .ok (.aload_n 0, 1) := by decide +kernel
theorem dX12_length_20 : decode cX12_length 20 = .ok (.iload_n 2, 1) := by decide +kernel
theorem dX12_length_21 : decode cX12_length 21 = .ok (.invokevirtual 420, 3) := by decide +kernel
theorem dX12_length_24 : decode cX12_length 24 = .ok (.ifCond .ne 9, 3) := by decide +kernel
theorem dX12_length_27 : decode cX12_length 27 = .ok (.aload_n 0, 1) := by decide +kernel
theorem dX12_length_28 : decode cX12_length 28 = .ok (.iconst 2, 1) := by decide +kernel
theorem dX12_length_29 : decode cX12_length 29 = .ok (.invokevirtual 380, 3) := by decide +kernel
theorem dX12_length_32 : decode cX12_length 32 = .ok (.ireturn, 1) := by decide +kernel
theorem dX12_length_33 : decode cX12_length 33 = .ok (.aload_n 0, 1) := by decide +kernel
theorem dX12_length_34 : decode cX12_length 34 = .ok (.invokevirtual 288, 3) := by decide +kernel
theorem dX12_length_37 : decode cX12_length 37 = .ok (.ifCond .eq 7, 3) := by decide +kernel
theorem dX12_length_40 : decode cX12_length 40 = .ok (.iconst (-1), 1) := by decide +kernel
theorem dX12_length_41 : decode cX12_length 41 = .ok (.goto 11, 3) := by decide +kernel
theorem dX12_length_44 : decode cX12_length 44 = .ok (.aload_n 0, 1) := by decide +kernel
theorem dX12_length_45 : decode cX12_length 45 = .ok (.iconst 0, 1) := by decide +kernel
theorem dX12_length_46 : decode cX12_length 46 = .ok (.iload_n 1, 1) := by decide +kernel
theorem dX12_length_47 : decode cX12_length 47 = .ok (.iload_n 2, 1) := by decide +kernel
theorem dX12_length_48 : decode cX12_length 48 = .ok (.iconst (-1), 1) := by decide +kernel
theorem dX12_length_49 : decode cX12_length 49 = .ok (.invokevirtual 462, 3) := by decide +kernel
theorem dX12_length_52 : decode cX12_length 52 = .ok (.ireturn, 1) := by decide +kernel
theorem dX12_sign_0 : decode cX12_sign 0 = .ok (.aload_n 0, 1) := by decide +kernel
theorem dX12_sign_1 : decode cX12_sign 1 = .ok (.iconst 0, 1) := by decide +kernel
theorem dX12_sign_2 : decode cX12_sign 2 = .ok (.putfield 125, 3) := by decide +kernel
theorem dX12_sign_5 : decode cX12_sign 5 = .ok (.aload_n 0, 1) := by decide +kernel
theorem dX12_sign_6 : decode cX12_sign 6 = .ok (.iload_n 1, 1) := by decide +kernel
theorem dX12_sign_7 : decode cX12_sign 7 = .ok (.invokevirtual 406, 3) := by decide +kernel
theorem dX12_sign_10 : decode cX12_sign 10 = .ok (.ifCond .ne 9, 3) := by decide +kernel
theorem dX12_sign_13 : decode cX12_sign 13 = .ok (.aload_n 0, 1) := by decide +kernel
theorem dX12_sign_14 : decode cX12_sign 14 = .ok (.iconst 1, 1) := by decide +kernel
theorem dX12_sign_15 : decode cX12_sign 15 = .ok (.invokevirtual 380, 3) := by decide +kernel
theorem dX12_sign_18 : decode cX12_sign 18 = .ok (.ireturn, 1) := by decide +kernel
theorem dX12_sign_19 : decode cX12_sign 19 = .ok (.aload_n 0, 1) := by decide +kernel
theorem dX12_sign_20 : decode cX12_sign 20 = .ok (.iload_n 2, 1) := by decide +kernel
theorem dX12_sign_21 : decode cX12_sign 21 = .ok (.invokevirtual 420, 3) := by decide +kernel
theorem dX12_sign_24 : decode cX12_sign 24 = .ok (.ifCond .ne 9, 3) := by decide +kernel
theorem dX12_sign_27 : decode cX12_sign 27 = .ok (.aload_n 0, 1) := by decide +kernel
theorem dX12_sign_28 : decode cX12_sign 28 = .ok (.iconst 2, 1) := by decide +kernel
theorem dX12_sign_29 : decode cX12_sign 29 = .ok (.invokevirtual 380, 3) := by decide +kernel
theorem dX12_sign_32 : decode cX12_sign 32 = .ok (.ireturn, 1) := by decide +kernel
theorem dX12_sign_33 : decode cX12_sign 33 = .ok (.aload_n 0, 1) := by decide +kernel
theorem dX12_sign_34 : decode cX12_sign 34 = .ok (.invokevirtual 288, 3) := by decide +kernel
theorem dX12_sign_37 : decode cX12_sign 37 = .ok (.ifCond .ne 26, 3) := by decide +kernel
theorem dX12_sign_40 : decode cX12_sign 40 = .ok (.iload_n 3, 1) := by decide +kernel
theorem dX12_sign_41 : decode cX12_sign 41 = .ok (.ifCond .lt 22, 3) := by decide +kernel
theorem dX12_sign_44 : decode cX12_sign 44 = .ok (.iload_n 3, 1) := by decide +kernel
theorem dX12_sign_45 : decode cX12_sign 45 = .ok (.aload_n 0, 1) := by decide +kernel
theorem dX12_sign_46 : decode cX12_sign 46 = .ok (.iconst 0, 1) := by decide +kernel
theorem dX12_sign_47 : decode cX12_sign 47 = .ok (.iload_n 1, 1) := by decide +kernel
theorem dX12_sign_48 : decode cX12_sign 48 = .ok (.iload_n 2, 1) := by decide +kernel
theorem dX12_sign_49 : decode cX12_sign 49 = .ok (.iload_n 3, 1) := by decide +kernel
theorem dX12_sign_50 : decode cX12_sign 50 = .ok (.invokevirtual 462, 3) := by decide +kernel
theorem dX12_sign_53 : decode cX12_sign 53 = .ok (.if_icmp .ge 10, 3) := by decide +kernel
theorem dX12_sign_56 : decode cX12_sign 56 = .ok (.aload_n 0, 1) := by decide +kernel
theorem dX12_sign_57 : decode cX12_sign 57 = .ok (.getfield 435, 3) := by decide +kernel
theorem dX12_sign_60 : decode cX12_sign 60 = .ok (.goto 8, 3) := by decide +kernel
theorem dX12_sign_63 : decode cX12_sign 63 = .ok (.aload_n 0, 1) := by decide +kernel
theorem dX12_sign_64 : decode cX12_sign 64 = .ok (.iconst 1, 1) := by decide +kernel
theorem dX12_sign_65 : decode cX12_sign 65 = .ok (.invokevirtual 380, 3) := by decide +kernel
theorem dX12_sign_68 : decode cX12_sign 68 = .ok (.ireturn, 1) := by decide +kernel
theorem dX12_isSeen_0 : decode cX12_isSeen 0 = .ok (.aload_n 0, 1) := by decide +kernel
theorem dX12_isSeen_1 : decode cX12_isSeen 1 = .ok (.getfield 73, 3) := by decide +kernel
theorem dX12_isSeen_4 : decode cX12_isSeen 4 = .ok (.iconst 1, 1) := by decide +kernel
theorem dX12_isSeen_5 : decode cX12_isSeen 5 = .ok (.iaload, 1) := by decide +kernel
theorem dX12_isSeen_6 : decode cX12_isSeen 6 = .ok (.ifCond .le 14, 3) := by decide +kernel
theorem dX12_isSeen_9 : decode cX12_isSeen 9 = .ok (.aload_n 0, 1) := by decide +kernel
theorem dX12_isSeen_10 : decode cX12_isSeen 10 = .ok (.invokevirtual 288, 3) := by decide +kernel
theorem dX12_isSeen_13 : decode cX12_isSeen 13 = .ok (.ifCond .ne 7, 3) := by decide +kernel
theorem dX12_isSeen_16 : decode cX12_isSeen 16 = .ok (.iconst 1, 1) := by decide +kernel
theorem dX12_isSeen_17 : decode cX12_isSeen 17 = .ok (.goto 4, 3) := by decide +kernel
theorem dX12_isSeen_20 : decode cX12_isSeen 20 = .ok (.iconst 0, 1) := by decide +kernel
theorem dX12_isSeen_21 : decode cX12_isSeen 21 = .ok (.ireturn, 1) := by decide +kernel
theorem dX12_seen_0 : decode cX12_seen 0 = .ok (.aload_n 0, 1) := by decide +kernel
theorem dX12_seen_1 : decode cX12_seen 1 = .ok (.iconst 0, 1) := by decide +kernel
theorem dX12_seen_2 : decode cX12_seen 2 = .ok (.putfield 125, 3) := by decide +kernel
theorem dX12_seen_5 : decode cX12_seen 5 = .ok (.aload_n 0, 1) := by decide +kernel
theorem dX12_seen_6 : decode cX12_seen 6 = .ok (.iload_n 1, 1) := by decide +kernel
theorem dX12_seen_7 : decode cX12_seen 7 = .ok (.invokevirtual 406, 3) := by decide +kernel
theorem dX12_seen_10 : decode cX12_seen 10 = .ok (.ifCond .ne 9, 3) := by decide +kernel
theorem dX12_seen_13 : decode cX12_seen 13 = .ok (.aload_n 0, 1) := by decide +kernel
theorem dX12_seen_14 : decode cX12_seen 14 = .ok (.iconst 1, 1) := by decide +kernel
theorem dX12_seen_15 : decode cX12_seen 15 = .ok (.invokevirtual 380, 3) := by decide +kernel
theorem dX12_seen_18 : decode cX12_seen 18 = .ok (.ireturn, 1) := by decide +kernel
theorem dX12_seen_19 : decode cX12_seen 19 = .ok (.aload_n 0, 1) := by decide +kernel
theorem dX12_seen_20 : decode cX12_seen 20 = .ok (.invokevirtual 465, 3) := by decide +kernel
theorem dX12_seen_23 : decode cX12_seen 23 = .ok (.ifCond .eq 15, 3) := by decide +kernel
theorem dX12_seen_26 : decode cX12_seen 26 = .ok (.aload_n 0, 1) := by decide +kernel
theorem dX12_seen_27 : decode cX12_seen 27 = .ok (.bipush 16, 2) := by decide +kernel
theorem dX12_seen_29 : decode cX12_seen 29 = .ok (.iload_n 1, 1) := by decide +kernel
theorem dX12_seen_30 : decode cX12_seen 30 = .ok (.iconst 0, 1) := by decide +kernel
theorem dX12_seen_31 : decode cX12_seen 31 = .ok (.iconst (-1), 1) := by decide +kernel
theorem dX12_seen_32 : decode cX12_seen 32 = .ok (.invokevirtual 462, 3) := by decide +kernel
theorem dX12_seen_35 : decode cX12_seen 35 = .ok (.goto 4, 3) := by decide +kernel
theorem dX12_seen_38 : decode cX12_seen 38 = .ok (.iconst (-1), 1) := by decide +kernel
theorem dX12_seen_39 : decode cX12_seen 39 = .ok (.ireturn, 1) := by decide +kernel
theorem dX12_seenSign_0 : decode cX12_seenSign 0 = .ok (.aload_n 0, 1) := by decide +kernel
theorem dX12_seenSign_1 : decode cX12_seenSign 1 = .ok (.iconst 0, 1) := by decide +kernel
theorem dX12_seenSign_2 : decode cX12_seenSign 2 = .ok (.putfield 125, 3) := by decide +kernel
theorem dX12_seenSign_5 : decode cX12_seenSign 5 = .ok (.aload_n 0, 1) := by decide +kernel
theorem dX12_seenSign_6 : decode cX12_seenSign 6 = .ok (.iload_n 1, 1) := by decide +kernel
theorem dX12_seenSign_7 : decode cX12_seenSign 7 = .ok (.invokevirtual 406, 3) := by decide +kernel
theorem dX12_seenSign_10 : decode cX12_seenSign 10 = .ok (.ifCond .eq 34, 3) := by decide +kernel
theorem dX12_seenSign_13 : decode cX12_seenSign 13 = .ok (.aload_n 0, 1) := by decide +kernel
theorem dX12_seenSign_14 : decode cX12_seenSign 14 = .ok (.invokevirtual 465, 3) := by decide +kernel
theorem dX12_seenSign_17 : decode cX12_seenSign 17 = .ok (.ifCond .eq 27, 3) := by decide +kernel
theorem dX12_seenSign_20 : decode cX12_seenSign 20 = .ok (.iload_n 2, 1) := by decide +kernel
theorem dX12_seenSign_21 : decode cX12_seenSign 21 = .ok (.ifCond .lt 23, 3) := by decide +kernel
theorem dX12_seenSign_24 : decode cX12_seenSign 24 = .ok (.iload_n 2, 1) := by decide +kernel
theorem dX12_seenSign_25 : decode cX12_seenSign 25 = .ok (.aload_n 0, 1) := by decide +kernel
theorem dX12_seenSign_26 : decode cX12_seenSign 26 = .ok (.bipush 16, 2) := by decide +kernel
theorem dX12_seenSign_28 : decode cX12_seenSign 28 = .ok (.iload_n 1, 1) := by decide +kernel
theorem dX12_seenSign_29 : decode cX12_seenSign 29 = .ok (.iconst 0, 1) := by decide +kernel
theorem dX12_seenSign_30 : decode cX12_seenSign 30 = .ok (.iload_n 2, 1) := by decide +kernel
theorem dX12_seenSign_31 : decode cX12_seenSign 31 = .ok (.invokevirtual 462, 3) := by decide +kernel
theorem dX12_seenSign_34 : decode cX12_seenSign 34 = .ok (.if_icmp .ge 10, 3) := by decide +kernel
theorem dX12_seenSign_37 : decode cX12_seenSign 37 = .ok (.aload_n 0, 1) := by decide +kernel
theorem dX12_seenSign_38 : decode cX12_seenSign 38 = .ok (.getfield 435, 3) := by decide +kernel
theorem dX12_seenSign_41 : decode cX12_seenSign 41 = .ok (.goto 8, 3) := by decide +kernel
theorem dX12_seenSign_44 : decode cX12_seenSign 44 = .ok (.aload_n 0, 1) := by decide +kernel
theorem dX12_seenSign_45 : decode cX12_seenSign 45 = .ok (.iconst 1, 1) := by decide +kernel
theorem dX12_seenSign_46 : decode cX12_seenSign 46 = .ok (.invokevirtual 380, 3) := by decide +kernel
theorem dX12_seenSign_49 : decode cX12_seenSign 49 = .ok (.ireturn, 1) := by decide +kernel
theorem dX12_isNews_0 : decode cX12_isNews 0 = .ok (.iconst 1, 1) := by decide +kernel
theorem dX12_isNews_1 : decode cX12_isNews 1 = .ok (.istore_n 3, 1) := by decide +kernel
theorem dX12_isNews_2 : decode cX12_isNews 2 = .ok (.iconst 0, 1) := by decide +kernel
theorem dX12_isNews_3 : decode cX12_isNews 3 = .ok (.istore 4, 2) := by decide +kernel
theorem dX12_isNews_5 : decode cX12_isNews 5 = .ok (.iload 4, 2) := by decide +kernel
theorem dX12_isNews_7 : decode cX12_isNews 7 = .ok (.iload_n 2, 1) := by decide +kernel
theorem dX12_isNews_8 : decode cX12_isNews 8 = .ok (.if_icmp .ge 45, 3) := by decide +kernel
theorem dX12_isNews_11 : decode cX12_isNews 11 = .ok (.iload_n 3, 1) := by decide +kernel
theorem dX12_isNews_12 : decode cX12_isNews 12 = .ok (.ifCond .eq 41, 3) := by decide +kernel
theorem dX12_isNews_15 : decode cX12_isNews 15 = .ok (.aload_n 0, 1) := by decide +kernel
theorem dX12_isNews_16 : decode cX12_isNews 16 = .ok (.iload_n 1, 1) := by decide +kernel
theorem dX12_isNews_17 : decode cX12_isNews 17 = .ok (.iload 4, 2) := by decide +kernel
theorem dX12_isNews_19 : decode cX12_isNews 19 = .ok (.invokevirtual 403, 3) := by decide +kernel
theorem dX12_isNews_22 : decode cX12_isNews 22 = .ok (.ifCond .eq 19, 3) := by decide +kernel
theorem dX12_isNews_25 : decode cX12_isNews 25 = .ok (.aload_n 0, 1) := by decide +kernel
theorem dX12_isNews_26 : decode cX12_isNews 26 = .ok (.iload_n 1, 1) := by decide +kernel
theorem dX12_isNews_27 : decode cX12_isNews 27 = .ok (.iload 4, 2) := by decide +kernel
theorem dX12_isNews_29 : decode cX12_isNews 29 = .ok (.invokevirtual 339, 3) := by decide +kernel
theorem dX12_isNews_32 : decode cX12_isNews 32 = .ok (.aload_n 0, 1) := by decide +kernel
theorem dX12_isNews_33 : decode cX12_isNews 33 = .ok (.iload_n 1, 1) := by decide +kernel
theorem dX12_isNews_34 : decode cX12_isNews 34 = .ok (.iload_n 2, 1) := by decide +kernel
theorem dX12_isNews_35 : decode cX12_isNews 35 = .ok (.invokevirtual 339, 3) := by decide +kernel
theorem dX12_isNews_38 : decode cX12_isNews 38 = .ok (.if_icmp .eq 7, 3) := by decide +kernel
theorem dX12_isNews_41 : decode cX12_isNews 41 = .ok (.iconst 1, 1) := by decide +kernel
theorem dX12_isNews_42 : decode cX12_isNews 42 = .ok (.goto 4, 3) := by decide +kernel
theorem dX12_isNews_45 : decode cX12_isNews 45 = .ok (.iconst 0, 1) := by decide +kernel
theorem dX12_isNews_46 : decode cX12_isNews 46 = .ok (.istore_n 3, 1) := by decide +kernel
theorem dX12_isNews_47 : decode cX12_isNews 47 = .ok (.iinc 4 1, 3) := by decide +kernel
theorem dX12_isNews_50 : decode cX12_isNews 50 = .ok (.goto (-45), 3) := by decide +kernel
theorem dX12_isNews_53 : decode cX12_isNews 53 = .ok (.iload_n 3, 1) := by decide +kernel
theorem dX12_isNews_54 : decode cX12_isNews 54 = .ok (.ireturn, 1) := by decide +kernel
theorem dX12_folded_0 : decode cX12_folded 0 = .ok (.aload_n 0, 1) := by decide +kernel
theorem dX12_folded_1 : decode cX12_folded 1 = .ok (.iload 4, 2) := by decide +kernel
theorem dX12_folded_3 : decode cX12_folded 3 = .ok (.iload 5, 2) := by decide +kernel
theorem dX12_folded_5 : decode cX12_folded 5 = .ok (.invokevirtual 339, 3) := by decide +kernel
theorem dX12_folded_8 : decode cX12_folded 8 = .ok (.istore 6, 2) := by decide +kernel
theorem dX12_folded_10 : decode cX12_folded 10 = .ok (.iload_n 1, 1) := by decide +kernel
theorem dX12_folded_11 : decode cX12_folded 11 = .ok (.tableswitch 106 0 6 #[41, 45, 50, 66, 82, 106, 101], 41) := by decide +kernel
theorem dX12_folded_52 : decode cX12_folded 52 = .ok (.iload_n 3, 1) := by decide +kernel
theorem dX12_folded_53 : decode cX12_folded 53 = .ok (.iconst 1, 1) := by decide +kernel
theorem dX12_folded_54 : decode cX12_folded 54 = .ok (.iadd, 1) := by decide +kernel
theorem dX12_folded_55 : decode cX12_folded 55 = .ok (.ireturn, 1) := by decide +kernel
theorem dX12_folded_56 : decode cX12_folded 56 = .ok (.iload_n 3, 1) := by decide +kernel
theorem dX12_folded_57 : decode cX12_folded 57 = .ok (.iload 6, 2) := by decide +kernel
theorem dX12_folded_59 : decode cX12_folded 59 = .ok (.iadd, 1) := by decide +kernel
theorem dX12_folded_60 : decode cX12_folded 60 = .ok (.ireturn, 1) := by decide +kernel
theorem dX12_folded_61 : decode cX12_folded 61 = .ok (.iload_n 2, 1) := by decide +kernel
theorem dX12_folded_62 : decode cX12_folded 62 = .ok (.ifCond .ne 8, 3) := by decide +kernel
theorem dX12_folded_65 : decode cX12_folded 65 = .ok (.iload 6, 2) := by decide +kernel
theorem dX12_folded_67 : decode cX12_folded 67 = .ok (.goto 9, 3) := by decide +kernel
theorem dX12_folded_70 : decode cX12_folded 70 = .ok (.iload_n 3, 1) := by decide +kernel
theorem dX12_folded_71 : decode cX12_folded 71 = .ok (.iload 6, 2) := by decide +kernel
theorem dX12_folded_73 : decode cX12_folded 73 = .ok (.invokestatic 158, 3) := by decide +kernel
theorem dX12_folded_76 : decode cX12_folded 76 = .ok (.ireturn, 1) := by decide +kernel
theorem dX12_folded_77 : decode cX12_folded 77 = .ok (.iload_n 2, 1) := by decide +kernel
theorem dX12_folded_78 : decode cX12_folded 78 = .ok (.ifCond .ne 8, 3) := by decide +kernel
theorem dX12_folded_81 : decode cX12_folded 81 = .ok (.iload 6, 2) := by decide +kernel
theorem dX12_folded_83 : decode cX12_folded 83 = .ok (.goto 9, 3) := by decide +kernel
theorem dX12_folded_86 : decode cX12_folded 86 = .ok (.iload_n 3, 1) := by decide +kernel
theorem dX12_folded_87 : decode cX12_folded 87 = .ok (.iload 6, 2) := by decide +kernel
theorem dX12_folded_89 : decode cX12_folded 89 = .ok (.invokestatic 364, 3) := by decide +kernel
theorem dX12_folded_92 : decode cX12_folded 92 = .ok (.ireturn, 1) := by decide +kernel
theorem dX12_folded_93 : decode cX12_folded 93 = .ok (.iload_n 3, 1) := by decide +kernel
theorem dX12_folded_94 : decode cX12_folded 94 = .ok (.aload_n 0, 1) := by decide +kernel
theorem dX12_folded_95 : decode cX12_folded 95 = .ok (.iload 4, 2) := by decide +kernel
theorem dX12_folded_97 : decode cX12_folded 97 = .ok (.iload 5, 2) := by decide +kernel
theorem dX12_folded_99 : decode cX12_folded 99 = .ok (.invokevirtual 468, 3) := by decide +kernel
theorem dX12_folded_102 : decode cX12_folded 102 = .ok (.ifCond .eq 7, 3) := by decide +kernel
theorem dX12_folded_105 : decode cX12_folded 105 = .ok (.iconst 1, 1) := by decide +kernel
theorem dX12_folded_106 : decode cX12_folded 106 = .ok (.goto 4, 3) := by decide +kernel
theorem dX12_folded_109 : decode cX12_folded 109 = .ok (.iconst 0, 1) := by decide +kernel
theorem dX12_folded_110 : decode cX12_folded 110 = .ok (.iadd, 1) := by decide +kernel
theorem dX12_folded_111 : decode cX12_folded 111 = .ok (.ireturn, 1) := by decide +kernel
theorem dX12_folded_112 : decode cX12_folded 112 = .ok (.iload 6, 2) := by decide +kernel
theorem dX12_folded_114 : decode cX12_folded 114 = .ok (.iload_n 3, 1) := by decide +kernel
theorem dX12_folded_115 : decode cX12_folded 115 = .ok (.isub, 1) := by decide +kernel
theorem dX12_folded_116 : decode cX12_folded 116 = .ok (.ireturn, 1) := by decide +kernel
theorem dX12_folded_117 : decode cX12_folded 117 = .ok (.bipush 7, 2) := by decide +kernel
theorem dX12_folded_119 : decode cX12_folded 119 = .ok (.iload_n 3, 1) := by decide +kernel
theorem dX12_folded_120 : decode cX12_folded 120 = .ok (.imul, 1) := by decide +kernel
theorem dX12_folded_121 : decode cX12_folded 121 = .ok (.iload 6, 2) := by decide +kernel
theorem dX12_folded_123 : decode cX12_folded 123 = .ok (.iadd, 1) := by decide +kernel
theorem dX12_folded_124 : decode cX12_folded 124 = .ok (.sipush 1000, 3) := by decide +kernel
theorem dX12_folded_127 : decode cX12_folded 127 = .ok (.irem, 1) := by decide +kernel
theorem dX12_folded_128 : decode cX12_folded 128 = .ok (.ireturn, 1) := by decide +kernel
theorem dX12_fold_0 : decode cX12_fold 0 = .ok (.aload_n 0, 1) := by decide +kernel
theorem dX12_fold_1 : decode cX12_fold 1 = .ok (.iconst 0, 1) := by decide +kernel
theorem dX12_fold_2 : decode cX12_fold 2 = .ok (.putfield 125, 3) := by decide +kernel
theorem dX12_fold_5 : decode cX12_fold 5 = .ok (.aload_n 0, 1) := by decide +kernel
theorem dX12_fold_6 : decode cX12_fold 6 = .ok (.iload_n 1, 1) := by decide +kernel
theorem dX12_fold_7 : decode cX12_fold 7 = .ok (.invokevirtual 390, 3) := by decide +kernel
theorem dX12_fold_10 : decode cX12_fold 10 = .ok (.ifCond .eq 15, 3) := by decide +kernel
theorem dX12_fold_13 : decode cX12_fold 13 = .ok (.iload_n 2, 1) := by decide +kernel
theorem dX12_fold_14 : decode cX12_fold 14 = .ok (.i2l, 1) := by decide +kernel
theorem dX12_fold_15 : decode cX12_fold 15 = .ok (.lconst 0, 1) := by decide +kernel
theorem dX12_fold_16 : decode cX12_fold 16 = .ok (.ldc2_w 471, 3) := by decide +kernel
theorem dX12_fold_19 : decode cX12_fold 19 = .ok (.invokestatic 383, 3) := by decide +kernel
theorem dX12_fold_22 : decode cX12_fold 22 = .ok (.ifCond .ne 9, 3) := by decide +kernel
theorem dX12_fold_25 : decode cX12_fold 25 = .ok (.aload_n 0, 1) := by decide +kernel
theorem dX12_fold_26 : decode cX12_fold 26 = .ok (.iconst 1, 1) := by decide +kernel
theorem dX12_fold_27 : decode cX12_fold 27 = .ok (.invokevirtual 380, 3) := by decide +kernel
theorem dX12_fold_30 : decode cX12_fold 30 = .ok (.ireturn, 1) := by decide +kernel
theorem dX12_fold_31 : decode cX12_fold 31 = .ok (.iconst 0, 1) := by decide +kernel
theorem dX12_fold_32 : decode cX12_fold 32 = .ok (.istore_n 3, 1) := by decide +kernel
theorem dX12_fold_33 : decode cX12_fold 33 = .ok (.iconst 0, 1) := by decide +kernel
theorem dX12_fold_34 : decode cX12_fold 34 = .ok (.istore 4, 2) := by decide +kernel
theorem dX12_fold_36 : decode cX12_fold 36 = .ok (.iconst 0, 1) := by decide +kernel
theorem dX12_fold_37 : decode cX12_fold 37 = .ok (.istore 5, 2) := by decide +kernel
theorem dX12_fold_39 : decode cX12_fold 39 = .ok (.iload 5, 2) := by decide +kernel
theorem dX12_fold_41 : decode cX12_fold 41 = .ok (.aload_n 0, 1) := by decide +kernel
theorem dX12_fold_42 : decode cX12_fold 42 = .ok (.getfield 85, 3) := by decide +kernel
theorem dX12_fold_45 : decode cX12_fold 45 = .ok (.iload_n 1, 1) := by decide +kernel
theorem dX12_fold_46 : decode cX12_fold 46 = .ok (.iaload, 1) := by decide +kernel
theorem dX12_fold_47 : decode cX12_fold 47 = .ok (.if_icmp .ge 43, 3) := by decide +kernel
theorem dX12_fold_50 : decode cX12_fold 50 = .ok (.aload_n 0, 1) := by decide +kernel
theorem dX12_fold_51 : decode cX12_fold 51 = .ok (.iload_n 1, 1) := by decide +kernel
theorem dX12_fold_52 : decode cX12_fold 52 = .ok (.iload 5, 2) := by decide +kernel
theorem dX12_fold_54 : decode cX12_fold 54 = .ok (.invokevirtual 403, 3) := by decide +kernel
theorem dX12_fold_57 : decode cX12_fold 57 = .ok (.ifCond .ne 6, 3) := by decide +kernel
theorem dX12_fold_60 : decode cX12_fold 60 = .ok (.goto 24, 3) := by decide +kernel
theorem dX12_fold_63 : decode cX12_fold 63 = .ok (.iload_n 2, 1) := by decide +kernel
theorem dX12_fold_64 : decode cX12_fold 64 = .ok (.iconst 5, 1) := by decide +kernel
theorem dX12_fold_65 : decode cX12_fold 65 = .ok (.if_icmp .eq 16, 3) := by decide +kernel
theorem dX12_fold_68 : decode cX12_fold 68 = .ok (.aload_n 0, 1) := by decide +kernel
theorem dX12_fold_69 : decode cX12_fold 69 = .ok (.iload_n 2, 1) := by decide +kernel
theorem dX12_fold_70 : decode cX12_fold 70 = .ok (.iload_n 3, 1) := by decide +kernel
theorem dX12_fold_71 : decode cX12_fold 71 = .ok (.iload 4, 2) := by decide +kernel
theorem dX12_fold_73 : decode cX12_fold 73 = .ok (.iload_n 1, 1) := by decide +kernel
theorem dX12_fold_74 : decode cX12_fold 74 = .ok (.iload 5, 2) := by decide +kernel
theorem dX12_fold_76 : decode cX12_fold 76 = .ok (.invokevirtual 473, 3) := by decide +kernel
theorem dX12_fold_79 : decode cX12_fold 79 = .ok (.istore 4, 2) := by decide +kernel
theorem dX12_fold_81 : decode cX12_fold 81 = .ok (.iinc 3 1, 3) := by decide +kernel
theorem dX12_fold_84 : decode cX12_fold 84 = .ok (.iinc 5 1, 3) := by decide +kernel
theorem dX12_fold_87 : decode cX12_fold 87 = .ok (.goto (-48), 3) := by decide +kernel
theorem dX12_fold_90 : decode cX12_fold 90 = .ok (.iload_n 2, 1) := by decide +kernel
theorem dX12_fold_91 : decode cX12_fold 91 = .ok (.iconst 5, 1) := by decide +kernel
theorem dX12_fold_92 : decode cX12_fold 92 = .ok (.if_icmp .ne 12, 3) := by decide +kernel
theorem dX12_fold_95 : decode cX12_fold 95 = .ok (.aload_n 0, 1) := by decide +kernel
theorem dX12_fold_96 : decode cX12_fold 96 = .ok (.getfield 85, 3) := by decide +kernel
theorem dX12_fold_99 : decode cX12_fold 99 = .ok (.iload_n 1, 1) := by decide +kernel
theorem dX12_fold_100 : decode cX12_fold 100 = .ok (.iaload, 1) := by decide +kernel
theorem dX12_fold_101 : decode cX12_fold 101 = .ok (.iload_n 3, 1) := by decide +kernel
theorem dX12_fold_102 : decode cX12_fold 102 = .ok (.isub, 1) := by decide +kernel
theorem dX12_fold_103 : decode cX12_fold 103 = .ok (.ireturn, 1) := by decide +kernel
theorem dX12_fold_104 : decode cX12_fold 104 = .ok (.iload_n 3, 1) := by decide +kernel
theorem dX12_fold_105 : decode cX12_fold 105 = .ok (.ifCond .ne 17, 3) := by decide +kernel
theorem dX12_fold_108 : decode cX12_fold 108 = .ok (.iload_n 2, 1) := by decide +kernel
theorem dX12_fold_109 : decode cX12_fold 109 = .ok (.iconst 2, 1) := by decide +kernel
theorem dX12_fold_110 : decode cX12_fold 110 = .ok (.if_icmp .eq 8, 3) := by decide +kernel
theorem dX12_fold_113 : decode cX12_fold 113 = .ok (.iload_n 2, 1) := by decide +kernel
theorem dX12_fold_114 : decode cX12_fold 114 = .ok (.iconst 3, 1) := by decide +kernel
theorem dX12_fold_115 : decode cX12_fold 115 = .ok (.if_icmp .ne 7, 3) := by decide +kernel
theorem dX12_fold_118 : decode cX12_fold 118 = .ok (.iconst (-1), 1) := by decide +kernel
theorem dX12_fold_119 : decode cX12_fold 119 = .ok (.goto 5, 3) := by decide +kernel
theorem dX12_fold_122 : decode cX12_fold 122 = .ok (.iload 4, 2) := by decide +kernel
theorem dX12_fold_124 : decode cX12_fold 124 = .ok (.ireturn, 1) := by decide +kernel
theorem dX12_picked_0 : decode cX12_picked 0 = .ok (.aload_n 0, 1) := by decide +kernel
theorem dX12_picked_1 : decode cX12_picked 1 = .ok (.iconst 0, 1) := by decide +kernel
theorem dX12_picked_2 : decode cX12_picked 2 = .ok (.putfield 125, 3) := by decide +kernel
theorem dX12_picked_5 : decode cX12_picked 5 = .ok (.aload_n 0, 1) := by decide +kernel
theorem dX12_picked_6 : decode cX12_picked 6 = .ok (.iload_n 1, 1) := by decide +kernel
theorem dX12_picked_7 : decode cX12_picked 7 = .ok (.invokevirtual 390, 3) := by decide +kernel
theorem dX12_picked_10 : decode cX12_picked 10 = .ok (.ifCond .eq 15, 3) := by decide +kernel
theorem dX12_picked_13 : decode cX12_picked 13 = .ok (.iload_n 2, 1) := by decide +kernel
theorem dX12_picked_14 : decode cX12_picked 14 = .ok (.i2l, 1) := by decide +kernel
theorem dX12_picked_15 : decode cX12_picked 15 = .ok (.lconst 0, 1) := by decide +kernel
theorem dX12_picked_16 : decode cX12_picked 16 = .ok (.ldc2_w 477, 3) := by decide +kernel
theorem dX12_picked_19 : decode cX12_picked 19 = .ok (.invokestatic 383, 3) := by decide +kernel
theorem dX12_picked_22 : decode cX12_picked 22 = .ok (.ifCond .ne 9, 3) := by decide +kernel
theorem dX12_picked_25 : decode cX12_picked 25 = .ok (.aload_n 0, 1) := by decide +kernel
theorem dX12_picked_26 : decode cX12_picked 26 = .ok (.iconst 1, 1) := by decide +kernel
theorem dX12_picked_27 : decode cX12_picked 27 = .ok (.invokevirtual 380, 3) := by decide +kernel
theorem dX12_picked_30 : decode cX12_picked 30 = .ok (.ireturn, 1) := by decide +kernel
theorem dX12_picked_31 : decode cX12_picked 31 = .ok (.iconst 0, 1) := by decide +kernel
theorem dX12_picked_32 : decode cX12_picked 32 = .ok (.istore 4, 2) := by decide +kernel
theorem dX12_picked_34 : decode cX12_picked 34 = .ok (.iconst 0, 1) := by decide +kernel
theorem dX12_picked_35 : decode cX12_picked 35 = .ok (.istore 5, 2) := by decide +kernel
theorem dX12_picked_37 : decode cX12_picked 37 = .ok (.iload 5, 2) := by decide +kernel
theorem dX12_picked_39 : decode cX12_picked 39 = .ok (.aload_n 0, 1) := by decide +kernel
theorem dX12_picked_40 : decode cX12_picked 40 = .ok (.getfield 249, 3) := by decide +kernel
theorem dX12_picked_43 : decode cX12_picked 43 = .ok (.if_icmp .ge 178, 3) := by decide +kernel
theorem dX12_picked_46 : decode cX12_picked 46 = .ok (.aload_n 0, 1) := by decide +kernel
theorem dX12_picked_47 : decode cX12_picked 47 = .ok (.iload_n 1, 1) := by decide +kernel
theorem dX12_picked_48 : decode cX12_picked 48 = .ok (.iload 5, 2) := by decide +kernel
theorem dX12_picked_50 : decode cX12_picked 50 = .ok (.invokevirtual 409, 3) := by decide +kernel
theorem dX12_picked_53 : decode cX12_picked 53 = .ok (.istore 6, 2) := by decide +kernel
theorem dX12_picked_55 : decode cX12_picked 55 = .ok (.iconst 0, 1) := by decide +kernel
theorem dX12_picked_56 : decode cX12_picked 56 = .ok (.istore 7, 2) := by decide +kernel
theorem dX12_picked_58 : decode cX12_picked 58 = .ok (.iconst 0, 1) := by decide +kernel
theorem dX12_picked_59 : decode cX12_picked 59 = .ok (.istore 8, 2) := by decide +kernel
theorem dX12_picked_61 : decode cX12_picked 61 = .ok (.iload 6, 2) := by decide +kernel
theorem dX12_picked_63 : decode cX12_picked 63 = .ok (.istore 9, 2) := by decide +kernel
theorem dX12_picked_65 : decode cX12_picked 65 = .ok (.iload 6, 2) := by decide +kernel
theorem dX12_picked_67 : decode cX12_picked 67 = .ok (.aload_n 0, 1) := by decide +kernel
theorem dX12_picked_68 : decode cX12_picked 68 = .ok (.getfield 85, 3) := by decide +kernel
theorem dX12_picked_71 : decode cX12_picked 71 = .ok (.iload_n 1, 1) := by decide +kernel
theorem dX12_picked_72 : decode cX12_picked 72 = .ok (.iaload, 1) := by decide +kernel
theorem dX12_picked_73 : decode cX12_picked 73 = .ok (.if_icmp .ge 91, 3) := by decide +kernel
theorem dX12_picked_76 : decode cX12_picked 76 = .ok (.iload 9, 2) := by decide +kernel
theorem dX12_picked_78 : decode cX12_picked 78 = .ok (.aload_n 0, 1) := by decide +kernel
theorem dX12_picked_79 : decode cX12_picked 79 = .ok (.iload_n 1, 1) := by decide +kernel
theorem dX12_picked_80 : decode cX12_picked 80 = .ok (.iload 6, 2) := by decide +kernel
theorem dX12_picked_82 : decode cX12_picked 82 = .ok (.invokevirtual 412, 3) := by decide +kernel
theorem dX12_picked_85 : decode cX12_picked 85 = .ok (.if_icmp .ge 79, 3) := by decide +kernel
theorem dX12_picked_88 : decode cX12_picked 88 = .ok (.aload_n 0, 1) := by decide +kernel
theorem dX12_picked_89 : decode cX12_picked 89 = .ok (.iload_n 1, 1) := by decide +kernel
theorem dX12_picked_90 : decode cX12_picked 90 = .ok (.iload 9, 2) := by decide +kernel
theorem dX12_picked_92 : decode cX12_picked 92 = .ok (.invokevirtual 403, 3) := by decide +kernel
theorem dX12_picked_95 : decode cX12_picked 95 = .ok (.ifCond .ne 6, 3) := by decide +kernel
theorem dX12_picked_98 : decode cX12_picked 98 = .ok (.goto 60, 3) := by decide +kernel
theorem dX12_picked_101 : decode cX12_picked 101 = .ok (.aload_n 0, 1) := by decide +kernel
theorem dX12_picked_102 : decode cX12_picked 102 = .ok (.iload_n 1, 1) := by decide +kernel
theorem dX12_picked_103 : decode cX12_picked 103 = .ok (.iload 9, 2) := by decide +kernel
theorem dX12_picked_105 : decode cX12_picked 105 = .ok (.invokevirtual 339, 3) := by decide +kernel
theorem dX12_picked_108 : decode cX12_picked 108 = .ok (.istore 10, 2) := by decide +kernel
theorem dX12_picked_110 : decode cX12_picked 110 = .ok (.iconst 1, 1) := by decide +kernel
theorem dX12_picked_111 : decode cX12_picked 111 = .ok (.istore 7, 2) := by decide +kernel
theorem dX12_picked_113 : decode cX12_picked 113 = .ok (.iload 8, 2) := by decide +kernel
theorem dX12_picked_115 : decode cX12_picked 115 = .ok (.ifCond .ne 36, 3) := by decide +kernel
theorem dX12_picked_118 : decode cX12_picked 118 = .ok (.iload_n 2, 1) := by decide +kernel
theorem dX12_picked_119 : decode cX12_picked 119 = .ok (.ifCond .ne 12, 3) := by decide +kernel
theorem dX12_picked_122 : decode cX12_picked 122 = .ok (.iload 10, 2) := by decide +kernel
theorem dX12_picked_124 : decode cX12_picked 124 = .ok (.iload_n 3, 1) := by decide +kernel
theorem dX12_picked_125 : decode cX12_picked 125 = .ok (.if_icmp .ne 30, 3) := by decide +kernel
theorem dX12_picked_128 : decode cX12_picked 128 = .ok (.goto 23, 3) := by decide +kernel
theorem dX12_picked_131 : decode cX12_picked 131 = .ok (.iload_n 2, 1) := by decide +kernel
theorem dX12_picked_132 : decode cX12_picked 132 = .ok (.iconst 1, 1) := by decide +kernel
theorem dX12_picked_133 : decode cX12_picked 133 = .ok (.if_icmp .ne 12, 3) := by decide +kernel
theorem dX12_picked_136 : decode cX12_picked 136 = .ok (.iload 10, 2) := by decide +kernel
theorem dX12_picked_138 : decode cX12_picked 138 = .ok (.iload_n 3, 1) := by decide +kernel
theorem dX12_picked_139 : decode cX12_picked 139 = .ok (.if_icmp .ge 16, 3) := by decide +kernel
theorem dX12_picked_142 : decode cX12_picked 142 = .ok (.goto 9, 3) := by decide +kernel
theorem dX12_picked_145 : decode cX12_picked 145 = .ok (.iload 10, 2) := by decide +kernel
theorem dX12_picked_147 : decode cX12_picked 147 = .ok (.iload_n 3, 1) := by decide +kernel
theorem dX12_picked_148 : decode cX12_picked 148 = .ok (.if_icmp .le 7, 3) := by decide +kernel
theorem dX12_picked_151 : decode cX12_picked 151 = .ok (.iconst 1, 1) := by decide +kernel
theorem dX12_picked_152 : decode cX12_picked 152 = .ok (.goto 4, 3) := by decide +kernel
theorem dX12_picked_155 : decode cX12_picked 155 = .ok (.iconst 0, 1) := by decide +kernel
theorem dX12_picked_156 : decode cX12_picked 156 = .ok (.istore 8, 2) := by decide +kernel
theorem dX12_picked_158 : decode cX12_picked 158 = .ok (.iinc 9 1, 3) := by decide +kernel
theorem dX12_picked_161 : decode cX12_picked 161 = .ok (.goto (-96), 3) := by decide +kernel
theorem dX12_picked_164 : decode cX12_picked 164 = .ok (.iload_n 2, 1) := by decide +kernel
theorem dX12_picked_165 : decode cX12_picked 165 = .ok (.iconst 3, 1) := by decide +kernel
theorem dX12_picked_166 : decode cX12_picked 166 = .ok (.if_icmp .ne 16, 3) := by decide +kernel
theorem dX12_picked_169 : decode cX12_picked 169 = .ok (.iload 7, 2) := by decide +kernel
theorem dX12_picked_171 : decode cX12_picked 171 = .ok (.ifCond .ne 7, 3) := by decide +kernel
theorem dX12_picked_174 : decode cX12_picked 174 = .ok (.iconst 1, 1) := by decide +kernel
theorem dX12_picked_175 : decode cX12_picked 175 = .ok (.goto 9, 3) := by decide +kernel
theorem dX12_picked_178 : decode cX12_picked 178 = .ok (.iconst 0, 1) := by decide +kernel
theorem dX12_picked_179 : decode cX12_picked 179 = .ok (.goto 5, 3) := by decide +kernel
theorem dX12_picked_182 : decode cX12_picked 182 = .ok (.iload 8, 2) := by decide +kernel
theorem dX12_picked_184 : decode cX12_picked 184 = .ok (.istore 9, 2) := by decide +kernel
theorem dX12_picked_186 : decode cX12_picked 186 = .ok (.iload 4, 2) := by decide +kernel
theorem dX12_picked_188 : decode cX12_picked 188 = .ok (.iload 9, 2) := by decide +kernel
theorem dX12_picked_190 : decode cX12_picked 190 = .ok (.ifCond .eq 21, 3) := by decide +kernel
theorem dX12_picked_193 : decode cX12_picked 193 = .ok (.iload 6, 2) := by decide +kernel
theorem dX12_picked_195 : decode cX12_picked 195 = .ok (.aload_n 0, 1) := by decide +kernel
theorem dX12_picked_196 : decode cX12_picked 196 = .ok (.getfield 85, 3) := by decide +kernel
theorem dX12_picked_199 : decode cX12_picked 199 = .ok (.iload_n 1, 1) := by decide +kernel
theorem dX12_picked_200 : decode cX12_picked 200 = .ok (.iaload, 1) := by decide +kernel
theorem dX12_picked_201 : decode cX12_picked 201 = .ok (.if_icmp .ge 10, 3) := by decide +kernel
theorem dX12_picked_204 : decode cX12_picked 204 = .ok (.iconst 1, 1) := by decide +kernel
theorem dX12_picked_205 : decode cX12_picked 205 = .ok (.iload 5, 2) := by decide +kernel
theorem dX12_picked_207 : decode cX12_picked 207 = .ok (.ishl, 1) := by decide +kernel
theorem dX12_picked_208 : decode cX12_picked 208 = .ok (.goto 4, 3) := by decide +kernel
theorem dX12_picked_211 : decode cX12_picked 211 = .ok (.iconst 0, 1) := by decide +kernel
theorem dX12_picked_212 : decode cX12_picked 212 = .ok (.ior, 1) := by decide +kernel
theorem dX12_picked_213 : decode cX12_picked 213 = .ok (.istore 4, 2) := by decide +kernel
theorem dX12_picked_215 : decode cX12_picked 215 = .ok (.iinc 5 1, 3) := by decide +kernel
theorem dX12_picked_218 : decode cX12_picked 218 = .ok (.goto (-181), 3) := by decide +kernel
theorem dX12_picked_221 : decode cX12_picked 221 = .ok (.iload 4, 2) := by decide +kernel
theorem dX12_picked_223 : decode cX12_picked 223 = .ok (.ireturn, 1) := by decide +kernel
theorem dX12_pages_0 : decode cX12_pages 0 = .ok (.aload_n 0, 1) := by decide +kernel
theorem dX12_pages_1 : decode cX12_pages 1 = .ok (.iconst 0, 1) := by decide +kernel
theorem dX12_pages_2 : decode cX12_pages 2 = .ok (.putfield 125, 3) := by decide +kernel
theorem dX12_pages_5 : decode cX12_pages 5 = .ok (.aload_n 0, 1) := by decide +kernel
theorem dX12_pages_6 : decode cX12_pages 6 = .ok (.iload_n 1, 1) := by decide +kernel
theorem dX12_pages_7 : decode cX12_pages 7 = .ok (.invokevirtual 390, 3) := by decide +kernel
theorem dX12_pages_10 : decode cX12_pages 10 = .ok (.ifCond .ne 9, 3) := by decide +kernel
theorem dX12_pages_13 : decode cX12_pages 13 = .ok (.aload_n 0, 1) := by decide +kernel
theorem dX12_pages_14 : decode cX12_pages 14 = .ok (.iconst 1, 1) := by decide +kernel
theorem dX12_pages_15 : decode cX12_pages 15 = .ok (.invokevirtual 380, 3) := by decide +kernel
theorem dX12_pages_18 : decode cX12_pages 18 = .ok (.ireturn, 1) := by decide +kernel
theorem dX12_pages_19 : decode cX12_pages 19 = .ok (.iload_n 2, 1) := by decide +kernel
theorem dX12_pages_20 : decode cX12_pages 20 = .ok (.i2l, 1) := by decide +kernel
theorem dX12_pages_21 : decode cX12_pages 21 = .ok (.lconst 1, 1) := by decide +kernel
theorem dX12_pages_22 : decode cX12_pages 22 = .ok (.ldc2_w 479, 3) := by decide +kernel
theorem dX12_pages_25 : decode cX12_pages 25 = .ok (.invokestatic 383, 3) := by decide +kernel
theorem dX12_pages_28 : decode cX12_pages 28 = .ok (.ifCond .ne 9, 3) := by decide +kernel
theorem dX12_pages_31 : decode cX12_pages 31 = .ok (.aload_n 0, 1) := by decide +kernel
theorem dX12_pages_32 : decode cX12_pages 32 = .ok (.iconst 2, 1) := by decide +kernel
theorem dX12_pages_33 : decode cX12_pages 33 = .ok (.invokevirtual 380, 3) := by decide +kernel
theorem dX12_pages_36 : decode cX12_pages 36 = .ok (.ireturn, 1) := by decide +kernel
theorem dX12_pages_37 : decode cX12_pages 37 = .ok (.iconst 0, 1) := by decide +kernel
theorem dX12_pages_38 : decode cX12_pages 38 = .ok (.istore_n 3, 1) := by decide +kernel
theorem dX12_pages_39 : decode cX12_pages 39 = .ok (.iconst 0, 1) := by decide +kernel
theorem dX12_pages_40 : decode cX12_pages 40 = .ok (.istore 4, 2) := by decide +kernel
theorem dX12_pages_42 : decode cX12_pages 42 = .ok (.aload_n 0, 1) := by decide +kernel
theorem dX12_pages_43 : decode cX12_pages 43 = .ok (.iload_n 1, 1) := by decide +kernel
theorem dX12_pages_44 : decode cX12_pages 44 = .ok (.iconst 0, 1) := by decide +kernel
theorem dX12_pages_45 : decode cX12_pages 45 = .ok (.iconst 0, 1) := by decide +kernel
theorem dX12_pages_46 : decode cX12_pages 46 = .ok (.invokevirtual 317, 3) := by decide +kernel
theorem dX12_pages_49 : decode cX12_pages 49 = .ok (.istore 5, 2) := by decide +kernel
theorem dX12_pages_51 : decode cX12_pages 51 = .ok (.iload 5, 2) := by decide +kernel
theorem dX12_pages_53 : decode cX12_pages 53 = .ok (.aload_n 0, 1) := by decide +kernel
theorem dX12_pages_54 : decode cX12_pages 54 = .ok (.getfield 85, 3) := by decide +kernel
theorem dX12_pages_57 : decode cX12_pages 57 = .ok (.iload_n 1, 1) := by decide +kernel
theorem dX12_pages_58 : decode cX12_pages 58 = .ok (.iaload, 1) := by decide +kernel
theorem dX12_pages_59 : decode cX12_pages 59 = .ok (.if_icmp .ge 55, 3) := by decide +kernel
theorem dX12_pages_62 : decode cX12_pages 62 = .ok (.aload_n 0, 1) := by decide +kernel
theorem dX12_pages_63 : decode cX12_pages 63 = .ok (.iload_n 1, 1) := by decide +kernel
theorem dX12_pages_64 : decode cX12_pages 64 = .ok (.iload 5, 2) := by decide +kernel
theorem dX12_pages_66 : decode cX12_pages 66 = .ok (.invokevirtual 412, 3) := by decide +kernel
theorem dX12_pages_69 : decode cX12_pages 69 = .ok (.iload 5, 2) := by decide +kernel
theorem dX12_pages_71 : decode cX12_pages 71 = .ok (.isub, 1) := by decide +kernel
theorem dX12_pages_72 : decode cX12_pages 72 = .ok (.istore 6, 2) := by decide +kernel
theorem dX12_pages_74 : decode cX12_pages 74 = .ok (.iload 6, 2) := by decide +kernel
theorem dX12_pages_76 : decode cX12_pages 76 = .ok (.iload_n 2, 1) := by decide +kernel
theorem dX12_pages_77 : decode cX12_pages 77 = .ok (.if_icmp .le 5, 3) := by decide +kernel
theorem dX12_pages_80 : decode cX12_pages 80 = .ok (.iconst (-1), 1) := by decide +kernel
theorem dX12_pages_81 : decode cX12_pages 81 = .ok (.ireturn, 1) := by decide +kernel
theorem dX12_pages_82 : decode cX12_pages 82 = .ok (.iload 6, 2) := by decide +kernel
theorem dX12_pages_84 : decode cX12_pages 84 = .ok (.iload 4, 2) := by decide +kernel
theorem dX12_pages_86 : decode cX12_pages 86 = .ok (.if_icmp .le 9, 3) := by decide +kernel
theorem dX12_pages_89 : decode cX12_pages 89 = .ok (.iinc 3 1, 3) := by decide +kernel
theorem dX12_pages_92 : decode cX12_pages 92 = .ok (.iload_n 2, 1) := by decide +kernel
theorem dX12_pages_93 : decode cX12_pages 93 = .ok (.istore 4, 2) := by decide +kernel
theorem dX12_pages_95 : decode cX12_pages 95 = .ok (.iload 4, 2) := by decide +kernel
theorem dX12_pages_97 : decode cX12_pages 97 = .ok (.iload 6, 2) := by decide +kernel
theorem dX12_pages_99 : decode cX12_pages 99 = .ok (.isub, 1) := by decide +kernel
theorem dX12_pages_100 : decode cX12_pages 100 = .ok (.istore 4, 2) := by decide +kernel
theorem dX12_pages_102 : decode cX12_pages 102 = .ok (.aload_n 0, 1) := by decide +kernel
theorem dX12_pages_103 : decode cX12_pages 103 = .ok (.iload_n 1, 1) := by decide +kernel
theorem dX12_pages_104 : decode cX12_pages 104 = .ok (.iload 5, 2) := by decide +kernel
theorem dX12_pages_106 : decode cX12_pages 106 = .ok (.invokevirtual 412, 3) := by decide +kernel
theorem dX12_pages_109 : decode cX12_pages 109 = .ok (.istore 5, 2) := by decide +kernel
theorem dX12_pages_111 : decode cX12_pages 111 = .ok (.goto (-60), 3) := by decide +kernel
theorem dX12_pages_114 : decode cX12_pages 114 = .ok (.iload_n 3, 1) := by decide +kernel
theorem dX12_pages_115 : decode cX12_pages 115 = .ok (.ireturn, 1) := by decide +kernel
theorem dX12_pipe_0 : decode cX12_pipe 0 = .ok (.aload_n 0, 1) := by decide +kernel
theorem dX12_pipe_1 : decode cX12_pipe 1 = .ok (.iload_n 1, 1) := by decide +kernel
theorem dX12_pipe_2 : decode cX12_pipe 2 = .ok (.invokevirtual 233, 3) := by decide +kernel
theorem dX12_pipe_5 : decode cX12_pipe 5 = .ok (.ifCond .ne 5, 3) := by decide +kernel
theorem dX12_pipe_8 : decode cX12_pipe 8 = .ok (.iconst 0, 1) := by decide +kernel
theorem dX12_pipe_9 : decode cX12_pipe 9 = .ok (.ireturn, 1) := by decide +kernel
theorem dX12_pipe_10 : decode cX12_pipe 10 = .ok (.iconst 0, 1) := by decide +kernel
theorem dX12_pipe_11 : decode cX12_pipe 11 = .ok (.istore_n 2, 1) := by decide +kernel
theorem dX12_pipe_12 : decode cX12_pipe 12 = .ok (.aload_n 0, 1) := by decide +kernel
theorem dX12_pipe_13 : decode cX12_pipe 13 = .ok (.invokevirtual 195, 3) := by decide +kernel
theorem dX12_pipe_16 : decode cX12_pipe 16 = .ok (.aload_n 0, 1) := by decide +kernel
theorem dX12_pipe_17 : decode cX12_pipe 17 = .ok (.getfield 170, 3) := by decide +kernel
theorem dX12_pipe_20 : decode cX12_pipe 20 = .ok (.ifCond .ne 99, 3) := by decide +kernel
theorem dX12_pipe_23 : decode cX12_pipe 23 = .ok (.aload_n 0, 1) := by decide +kernel
theorem dX12_pipe_24 : decode cX12_pipe 24 = .ok (.getfield 144, 3) := by decide +kernel
theorem dX12_pipe_27 : decode cX12_pipe 27 = .ok (.ifCond .eq 92, 3) := by decide +kernel
theorem dX12_pipe_30 : decode cX12_pipe 30 = .ok (.aload_n 0, 1) := by decide +kernel
theorem dX12_pipe_31 : decode cX12_pipe 31 = .ok (.aload_n 0, 1) := by decide +kernel
theorem dX12_pipe_32 : decode cX12_pipe 32 = .ok (.getfield 35, 3) := by decide +kernel
theorem dX12_pipe_35 : decode cX12_pipe 35 = .ok (.invokevirtual 213, 3) := by decide +kernel
theorem dX12_pipe_38 : decode cX12_pipe 38 = .ok (.istore_n 3, 1) := by decide +kernel
theorem dX12_pipe_39 : decode cX12_pipe 39 = .ok (.iload_n 3, 1) := by decide +kernel
theorem dX12_pipe_40 : decode cX12_pipe 40 = .ok (.iconst (-1), 1) := by decide +kernel
theorem dX12_pipe_41 : decode cX12_pipe 41 = .ok (.if_icmp .ne 8, 3) := by decide +kernel
theorem dX12_pipe_44 : decode cX12_pipe 44 = .ok (.aload_n 0, 1) := by decide +kernel
theorem dX12_pipe_45 : decode cX12_pipe 45 = .ok (.iconst 1, 1) := by decide +kernel
theorem dX12_pipe_46 : decode cX12_pipe 46 = .ok (.invokevirtual 191, 3) := by decide +kernel
theorem dX12_pipe_49 : decode cX12_pipe 49 = .ok (.iload_n 2, 1) := by decide +kernel
theorem dX12_pipe_50 : decode cX12_pipe 50 = .ok (.bipush 8, 2) := by decide +kernel
theorem dX12_pipe_52 : decode cX12_pipe 52 = .ok (.if_icmp .ne 8, 3) := by decide +kernel
theorem dX12_pipe_55 : decode cX12_pipe 55 = .ok (.aload_n 0, 1) := by decide +kernel
theorem dX12_pipe_56 : decode cX12_pipe 56 = .ok (.iconst 2, 1) := by decide +kernel
theorem dX12_pipe_57 : decode cX12_pipe 57 = .ok (.invokevirtual 191, 3) := by decide +kernel
theorem dX12_pipe_60 : decode cX12_pipe 60 = .ok (.aload_n 0, 1) := by decide +kernel
theorem dX12_pipe_61 : decode cX12_pipe 61 = .ok (.getfield 170, 3) := by decide +kernel
theorem dX12_pipe_64 : decode cX12_pipe 64 = .ok (.ifCond .eq 6, 3) := by decide +kernel
theorem dX12_pipe_67 : decode cX12_pipe 67 = .ok (.goto 52, 3) := by decide +kernel
theorem dX12_pipe_70 : decode cX12_pipe 70 = .ok (.aload_n 0, 1) := by decide +kernel
theorem dX12_pipe_71 : decode cX12_pipe 71 = .ok (.invokevirtual 195, 3) := by decide +kernel
theorem dX12_pipe_74 : decode cX12_pipe 74 = .ok (.aload_n 0, 1) := by decide +kernel
theorem dX12_pipe_75 : decode cX12_pipe 75 = .ok (.getfield 107, 3) := by decide +kernel
theorem dX12_pipe_78 : decode cX12_pipe 78 = .ok (.bipush 8, 2) := by decide +kernel
theorem dX12_pipe_80 : decode cX12_pipe 80 = .ok (.iload_n 2, 1) := by decide +kernel
theorem dX12_pipe_81 : decode cX12_pipe 81 = .ok (.iadd, 1) := by decide +kernel
theorem dX12_pipe_82 : decode cX12_pipe 82 = .ok (.iload_n 3, 1) := by decide +kernel
theorem dX12_pipe_83 : decode cX12_pipe 83 = .ok (.iastore, 1) := by decide +kernel
theorem dX12_pipe_84 : decode cX12_pipe 84 = .ok (.aload_n 0, 1) := by decide +kernel
theorem dX12_pipe_85 : decode cX12_pipe 85 = .ok (.getfield 110, 3) := by decide +kernel
theorem dX12_pipe_88 : decode cX12_pipe 88 = .ok (.bipush 8, 2) := by decide +kernel
theorem dX12_pipe_90 : decode cX12_pipe 90 = .ok (.iload_n 2, 1) := by decide +kernel
theorem dX12_pipe_91 : decode cX12_pipe 91 = .ok (.iadd, 1) := by decide +kernel
theorem dX12_pipe_92 : decode cX12_pipe 92 = .ok (.aload_n 0, 1) := by decide +kernel
theorem dX12_pipe_93 : decode cX12_pipe 93 = .ok (.iload_n 3, 1) := by decide +kernel
theorem dX12_pipe_94 : decode cX12_pipe 94 = .ok (.iconst 2, 1) := by decide +kernel
theorem dX12_pipe_95 : decode cX12_pipe 95 = .ok (.if_icmp .ne 7, 3) := by decide +kernel
theorem dX12_pipe_98 : decode cX12_pipe 98 = .ok (.iconst 1, 1) := by decide +kernel
theorem dX12_pipe_99 : decode cX12_pipe 99 = .ok (.goto 4, 3) := by decide +kernel
theorem dX12_pipe_102 : decode cX12_pipe 102 = .ok (.iconst 0, 1) := by decide +kernel
theorem dX12_pipe_103 : decode cX12_pipe 103 = .ok (.invokevirtual 272, 3) := by decide +kernel
theorem dX12_pipe_106 : decode cX12_pipe 106 = .ok (.iastore, 1) := by decide +kernel
theorem dX12_pipe_107 : decode cX12_pipe 107 = .ok (.iinc 2 1, 3) := by decide +kernel
theorem dX12_pipe_110 : decode cX12_pipe 110 = .ok (.aload_n 0, 1) := by decide +kernel
theorem dX12_pipe_111 : decode cX12_pipe 111 = .ok (.bipush 59, 2) := by decide +kernel
theorem dX12_pipe_113 : decode cX12_pipe 113 = .ok (.invokevirtual 227, 3) := by decide +kernel
theorem dX12_pipe_116 : decode cX12_pipe 116 = .ok (.goto (-100), 3) := by decide +kernel
theorem dX12_pipe_119 : decode cX12_pipe 119 = .ok (.aload_n 0, 1) := by decide +kernel
theorem dX12_pipe_120 : decode cX12_pipe 120 = .ok (.invokevirtual 240, 3) := by decide +kernel
theorem dX12_pipe_123 : decode cX12_pipe 123 = .ok (.ifCond .eq 8, 3) := by decide +kernel
theorem dX12_pipe_126 : decode cX12_pipe 126 = .ok (.aload_n 0, 1) := by decide +kernel
theorem dX12_pipe_127 : decode cX12_pipe 127 = .ok (.getfield 170, 3) := by decide +kernel
theorem dX12_pipe_130 : decode cX12_pipe 130 = .ok (.ireturn, 1) := by decide +kernel
theorem dX12_pipe_131 : decode cX12_pipe 131 = .ok (.aload_n 0, 1) := by decide +kernel
theorem dX12_pipe_132 : decode cX12_pipe 132 = .ok (.iload_n 2, 1) := by decide +kernel
theorem dX12_pipe_133 : decode cX12_pipe 133 = .ok (.putfield 246, 3) := by decide +kernel
theorem dX12_pipe_136 : decode cX12_pipe 136 = .ok (.iconst 0, 1) := by decide +kernel
theorem dX12_pipe_137 : decode cX12_pipe 137 = .ok (.istore_n 3, 1) := by decide +kernel
theorem dX12_pipe_138 : decode cX12_pipe 138 = .ok (.iload_n 3, 1) := by decide +kernel
theorem dX12_pipe_139 : decode cX12_pipe 139 = .ok (.iload_n 2, 1) := by decide +kernel
theorem dX12_pipe_140 : decode cX12_pipe 140 = .ok (.if_icmp .ge 39, 3) := by decide +kernel
theorem dX12_pipe_143 : decode cX12_pipe 143 = .ok (.aload_n 0, 1) := by decide +kernel
theorem dX12_pipe_144 : decode cX12_pipe 144 = .ok (.getfield 107, 3) := by decide +kernel
theorem dX12_pipe_147 : decode cX12_pipe 147 = .ok (.iload_n 3, 1) := by decide +kernel
theorem dX12_pipe_148 : decode cX12_pipe 148 = .ok (.aload_n 0, 1) := by decide +kernel
theorem dX12_pipe_149 : decode cX12_pipe 149 = .ok (.getfield 107, 3) := by decide +kernel
theorem dX12_pipe_152 : decode cX12_pipe 152 = .ok (.bipush 8, 2) := by decide +kernel
theorem dX12_pipe_154 : decode cX12_pipe 154 = .ok (.iload_n 3, 1) := by decide +kernel
theorem dX12_pipe_155 : decode cX12_pipe 155 = .ok (.iadd, 1) := by decide +kernel
theorem dX12_pipe_156 : decode cX12_pipe 156 = .ok (.iaload, 1) := by decide +kernel
theorem dX12_pipe_157 : decode cX12_pipe 157 = .ok (.iastore, 1) := by decide +kernel
theorem dX12_pipe_158 : decode cX12_pipe 158 = .ok (.aload_n 0, 1) := by decide +kernel
theorem dX12_pipe_159 : decode cX12_pipe 159 = .ok (.getfield 110, 3) := by decide +kernel
theorem dX12_pipe_162 : decode cX12_pipe 162 = .ok (.iload_n 3, 1) := by decide +kernel
theorem dX12_pipe_163 : decode cX12_pipe 163 = .ok (.aload_n 0, 1) := by decide +kernel
theorem dX12_pipe_164 : decode cX12_pipe 164 = .ok (.getfield 110, 3) := by decide +kernel
theorem dX12_pipe_167 : decode cX12_pipe 167 = .ok (.bipush 8, 2) := by decide +kernel
theorem dX12_pipe_169 : decode cX12_pipe 169 = .ok (.iload_n 3, 1) := by decide +kernel
theorem dX12_pipe_170 : decode cX12_pipe 170 = .ok (.iadd, 1) := by decide +kernel
theorem dX12_pipe_171 : decode cX12_pipe 171 = .ok (.iaload, 1) := by decide +kernel
theorem dX12_pipe_172 : decode cX12_pipe 172 = .ok (.iastore, 1) := by decide +kernel
theorem dX12_pipe_173 : decode cX12_pipe 173 = .ok (.iinc 3 1, 3) := by decide +kernel
theorem dX12_pipe_176 : decode cX12_pipe 176 = .ok (.goto (-38), 3) := by decide +kernel
theorem dX12_pipe_179 : decode cX12_pipe 179 = .ok (.iconst 0, 1) := by decide +kernel
theorem dX12_pipe_180 : decode cX12_pipe 180 = .ok (.ireturn, 1) := by decide +kernel
