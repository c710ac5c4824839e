theorem dX8_init_0 : decode cX8_init 0 = .ok (.aload_n 0, 1) := by decide +kernel
theorem dX8_init_1 : decode cX8_init 1 = .ok (.invokespecial 3, 3) := by decide +kernel
theorem dX8_init_4 : decode cX8_init 4 = .ok (.aload_n 0, 1) := by decide +kernel
theorem dX8_init_5 : decode cX8_init 5 = .ok (.bipush 20, 2) := by decide +kernel
theorem dX8_init_7 : decode cX8_init 7 = .ok (.newarray .int, 2) := by decide +kernel
theorem dX8_init_9 : decode cX8_init 9 = .ok (.putfield 11, 3) := by decide +kernel
theorem dX8_init_12 : decode cX8_init 12 = .ok (.aload_n 0, 1) := by decide +kernel
theorem dX8_init_13 : decode cX8_init 13 = .ok (.bipush 20, 2) := by decide +kernel
theorem dX8_init_15 : decode cX8_init 15 = .ok (.newarray .int, 2) := by decide +kernel
theorem dX8_init_17 : decode cX8_init 17 = .ok (.putfield 15, 3) := by decide +kernel
theorem dX8_init_20 : decode cX8_init 20 = .ok (.aload_n 0, 1) := by decide +kernel
theorem dX8_init_21 : decode cX8_init 21 = .ok (.bipush 20, 2) := by decide +kernel
theorem dX8_init_23 : decode cX8_init 23 = .ok (.newarray .int, 2) := by decide +kernel
theorem dX8_init_25 : decode cX8_init 25 = .ok (.putfield 18, 3) := by decide +kernel
theorem dX8_init_28 : decode cX8_init 28 = .ok (.aload_n 0, 1) := by decide +kernel
theorem dX8_init_29 : decode cX8_init 29 = .ok (.bipush 20, 2) := by decide +kernel
theorem dX8_init_31 : decode cX8_init 31 = .ok (.newarray .int, 2) := by decide +kernel
theorem dX8_init_33 : decode cX8_init 33 = .ok (.putfield 21, 3) := by decide +kernel
theorem dX8_init_36 : decode cX8_init 36 = .ok (.aload_n 0, 1) := by decide +kernel
theorem dX8_init_37 : decode cX8_init 37 = .ok (.iconst 0, 1) := by decide +kernel
theorem dX8_init_38 : decode cX8_init 38 = .ok (.putfield 24, 3) := by decide +kernel
theorem dX8_init_41 : decode cX8_init 41 = .ok (.aload_n 0, 1) := by decide +kernel
theorem dX8_init_42 : decode cX8_init 42 = .ok (.iconst 0, 1) := by decide +kernel
theorem dX8_init_43 : decode cX8_init 43 = .ok (.putfield 28, 3) := by decide +kernel
theorem dX8_init_46 : decode cX8_init 46 = .ok (.aload_n 0, 1) := by decide +kernel
theorem dX8_init_47 : decode cX8_init 47 = .ok (.iconst 0, 1) := by decide +kernel
theorem dX8_init_48 : decode cX8_init 48 = .ok (.putfield 31, 3) := by decide +kernel
theorem dX8_init_51 : decode cX8_init 51 = .ok (.aload_n 0, 1) := by decide +kernel
theorem dX8_init_52 : decode cX8_init 52 = .ok (.bipush 40, 2) := by decide +kernel
theorem dX8_init_54 : decode cX8_init 54 = .ok (.newarray .int, 2) := by decide +kernel
theorem dX8_init_56 : decode cX8_init 56 = .ok (.putfield 34, 3) := by decide +kernel
theorem dX8_init_59 : decode cX8_init 59 = .ok (.aload_n 0, 1) := by decide +kernel
theorem dX8_init_60 : decode cX8_init 60 = .ok (.bipush 40, 2) := by decide +kernel
theorem dX8_init_62 : decode cX8_init 62 = .ok (.newarray .int, 2) := by decide +kernel
theorem dX8_init_64 : decode cX8_init 64 = .ok (.putfield 37, 3) := by decide +kernel
theorem dX8_init_67 : decode cX8_init 67 = .ok (.aload_n 0, 1) := by decide +kernel
theorem dX8_init_68 : decode cX8_init 68 = .ok (.iconst 0, 1) := by decide +kernel
theorem dX8_init_69 : decode cX8_init 69 = .ok (.putfield 40, 3) := by decide +kernel
theorem dX8_init_72 : decode cX8_init 72 = .ok (.aload_n 0, 1) := by decide +kernel
theorem dX8_init_73 : decode cX8_init 73 = .ok (.bipush 20, 2) := by decide +kernel
theorem dX8_init_75 : decode cX8_init 75 = .ok (.newarray .int, 2) := by decide +kernel
theorem dX8_init_77 : decode cX8_init 77 = .ok (.putfield 43, 3) := by decide +kernel
theorem dX8_init_80 : decode cX8_init 80 = .ok (.aload_n 0, 1) := by decide +kernel
theorem dX8_init_81 : decode cX8_init 81 = .ok (.bipush 20, 2) := by decide +kernel
theorem dX8_init_83 : decode cX8_init 83 = .ok (.newarray .int, 2) := by decide +kernel
theorem dX8_init_85 : decode cX8_init 85 = .ok (.putfield 46, 3) := by decide +kernel
theorem dX8_init_88 : decode cX8_init 88 = .ok (.aload_n 0, 1) := by decide +kernel
theorem dX8_init_89 : decode cX8_init 89 = .ok (.aload_n 1, 1) := by decide +kernel
theorem dX8_init_90 : decode cX8_init 90 = .ok (.putfield 49, 3) := by decide +kernel
theorem dX8_init_93 : decode cX8_init 93 = .ok (.return_, 1) := by decide +kernel
theorem dX8_addTally_0 : decode cX8_addTally 0 = .ok (.aload_n 0, 1) := by decide +kernel
theorem dX8_addTally_1 : decode cX8_addTally 1 = .ok (.getfield 24, 3) := by decide +kernel
theorem dX8_addTally_4 : decode cX8_addTally 4 = .ok (.bipush 20, 2) := by decide +kernel
theorem dX8_addTally_6 : decode cX8_addTally 6 = .ok (.if_icmp .ge 25, 3) := by decide +kernel
theorem dX8_addTally_9 : decode cX8_addTally 9 = .ok (.iload_n 1, 1) := by decide +kernel
theorem dX8_addTally_10 : decode cX8_addTally 10 = .ok (.ifCond .lt 21, 3) := by decide +kernel
theorem dX8_addTally_13 : decode cX8_addTally 13 = .ok (.iload_n 1, 1) := by decide +kernel
theorem dX8_addTally_14 : decode cX8_addTally 14 = .ok (.bipush 6, 2) := by decide +kernel
theorem dX8_addTally_16 : decode cX8_addTally 16 = .ok (.if_icmp .ge 15, 3) := by decide +kernel
theorem dX8_addTally_19 : decode cX8_addTally 19 = .ok (.iload 4, 2) := by decide +kernel
theorem dX8_addTally_21 : decode cX8_addTally 21 = .ok (.ifCond .lt 10, 3) := by decide +kernel
theorem dX8_addTally_24 : decode cX8_addTally 24 = .ok (.iload 4, 2) := by decide +kernel
theorem dX8_addTally_26 : decode cX8_addTally 26 = .ok (.bipush 30, 2) := by decide +kernel
theorem dX8_addTally_28 : decode cX8_addTally 28 = .ok (.if_icmp .le 5, 3) := by decide +kernel
theorem dX8_addTally_31 : decode cX8_addTally 31 = .ok (.iconst (-1), 1) := by decide +kernel
theorem dX8_addTally_32 : decode cX8_addTally 32 = .ok (.ireturn, 1) := by decide +kernel
theorem dX8_addTally_33 : decode cX8_addTally 33 = .ok (.iload_n 2, 1) := by decide +kernel
theorem dX8_addTally_34 : decode cX8_addTally 34 = .ok (.invokestatic 53, 3) := by decide +kernel
theorem dX8_addTally_37 : decode cX8_addTally 37 = .ok (.ifCond .eq 15, 3) := by decide +kernel
theorem dX8_addTally_40 : decode cX8_addTally 40 = .ok (.iload_n 3, 1) := by decide +kernel
theorem dX8_addTally_41 : decode cX8_addTally 41 = .ok (.invokestatic 53, 3) := by decide +kernel
theorem dX8_addTally_44 : decode cX8_addTally 44 = .ok (.ifCond .eq 8, 3) := by decide +kernel
theorem dX8_addTally_47 : decode cX8_addTally 47 = .ok (.iload_n 2, 1) := by decide +kernel
theorem dX8_addTally_48 : decode cX8_addTally 48 = .ok (.iload_n 3, 1) := by decide +kernel
theorem dX8_addTally_49 : decode cX8_addTally 49 = .ok (.if_icmp .le 5, 3) := by decide +kernel
theorem dX8_addTally_52 : decode cX8_addTally 52 = .ok (.iconst (-1), 1) := by decide +kernel
theorem dX8_addTally_53 : decode cX8_addTally 53 = .ok (.ireturn, 1) := by decide +kernel
theorem dX8_addTally_54 : decode cX8_addTally 54 = .ok (.aload_n 0, 1) := by decide +kernel
theorem dX8_addTally_55 : decode cX8_addTally 55 = .ok (.getfield 11, 3) := by decide +kernel
theorem dX8_addTally_58 : decode cX8_addTally 58 = .ok (.aload_n 0, 1) := by decide +kernel
theorem dX8_addTally_59 : decode cX8_addTally 59 = .ok (.getfield 24, 3) := by decide +kernel
theorem dX8_addTally_62 : decode cX8_addTally 62 = .ok (.iload_n 1, 1) := by decide +kernel
theorem dX8_addTally_63 : decode cX8_addTally 63 = .ok (.iastore, 1) := by decide +kernel
theorem dX8_addTally_64 : decode cX8_addTally 64 = .ok (.aload_n 0, 1) := by decide +kernel
theorem dX8_addTally_65 : decode cX8_addTally 65 = .ok (.getfield 15, 3) := by decide +kernel
theorem dX8_addTally_68 : decode cX8_addTally 68 = .ok (.aload_n 0, 1) := by decide +kernel
theorem dX8_addTally_69 : decode cX8_addTally 69 = .ok (.getfield 24, 3) := by decide +kernel
theorem dX8_addTally_72 : decode cX8_addTally 72 = .ok (.iload_n 2, 1) := by decide +kernel
theorem dX8_addTally_73 : decode cX8_addTally 73 = .ok (.iastore, 1) := by decide +kernel
theorem dX8_addTally_74 : decode cX8_addTally 74 = .ok (.aload_n 0, 1) := by decide +kernel
theorem dX8_addTally_75 : decode cX8_addTally 75 = .ok (.getfield 18, 3) := by decide +kernel
theorem dX8_addTally_78 : decode cX8_addTally 78 = .ok (.aload_n 0, 1) := by decide +kernel
theorem dX8_addTally_79 : decode cX8_addTally 79 = .ok (.getfield 24, 3) := by decide +kernel
theorem dX8_addTally_82 : decode cX8_addTally 82 = .ok (.iload_n 3, 1) := by decide +kernel
theorem dX8_addTally_83 : decode cX8_addTally 83 = .ok (.iastore, 1) := by decide +kernel
theorem dX8_addTally_84 : decode cX8_addTally 84 = .ok (.aload_n 0, 1) := by decide +kernel
theorem dX8_addTally_85 : decode cX8_addTally 85 = .ok (.getfield 21, 3) := by decide +kernel
theorem dX8_addTally_88 : decode cX8_addTally 88 = .ok (.aload_n 0, 1) := by decide +kernel
theorem dX8_addTally_89 : decode cX8_addTally 89 = .ok (.getfield 24, 3) := by decide +kernel
theorem dX8_addTally_92 : decode cX8_addTally 92 = .ok (.iload 4, 2) := by decide +kernel
theorem dX8_addTally_94 : decode cX8_addTally 94 = .ok (.iastore, 1) := by decide +kernel
theorem dX8_addTally_95 : decode cX8_addTally 95 = .ok (.aload_n 0, 1) := by decide +kernel
theorem dX8_addTally_96 : decode cX8_addTally 96 = .ok (.dup, 1) := by decide +kernel
theorem dX8_addTally_97 : decode cX8_addTally 97 = .ok (.getfield 24, 3) := by decide +kernel
theorem dX8_addTally_100 : decode cX8_addTally 100 = .ok (.dup_x1, 1) := by decide +kernel
theorem dX8_addTally_101 : decode cX8_addTally 101 = .ok (.iconst 1, 1) := by decide +kernel
theorem dX8_addTally_102 : decode cX8_addTally 102 = .ok (.iadd, 1) := by decide +kernel
theorem dX8_addTally_103 : decode cX8_addTally 103 = .ok (.putfield 24, 3) := by decide +kernel
theorem dX8_addTally_106 : decode cX8_addTally 106 = .ok (.ireturn, 1) := by decide +kernel
theorem dX8_tellTruth_0 : decode cX8_tellTruth 0 = .ok (.iload_n 1, 1) := by decide +kernel
theorem dX8_tellTruth_1 : decode cX8_tellTruth 1 = .ok (.ifCond .lt 11, 3) := by decide +kernel
theorem dX8_tellTruth_4 : decode cX8_tellTruth 4 = .ok (.iload_n 1, 1) := by decide +kernel
theorem dX8_tellTruth_5 : decode cX8_tellTruth 5 = .ok (.aload_n 0, 1) := by decide +kernel
theorem dX8_tellTruth_6 : decode cX8_tellTruth 6 = .ok (.getfield 24, 3) := by decide +kernel
theorem dX8_tellTruth_9 : decode cX8_tellTruth 9 = .ok (.if_icmp .lt 5, 3) := by decide +kernel
theorem dX8_tellTruth_12 : decode cX8_tellTruth 12 = .ok (.iconst (-1), 1) := by decide +kernel
theorem dX8_tellTruth_13 : decode cX8_tellTruth 13 = .ok (.ireturn, 1) := by decide +kernel
theorem dX8_tellTruth_14 : decode cX8_tellTruth 14 = .ok (.aload_n 0, 1) := by decide +kernel
theorem dX8_tellTruth_15 : decode cX8_tellTruth 15 = .ok (.getfield 49, 3) := by decide +kernel
theorem dX8_tellTruth_18 : decode cX8_tellTruth 18 = .ok (.aload_n 0, 1) := by decide +kernel
theorem dX8_tellTruth_19 : decode cX8_tellTruth 19 = .ok (.getfield 11, 3) := by decide +kernel
theorem dX8_tellTruth_22 : decode cX8_tellTruth 22 = .ok (.iload_n 1, 1) := by decide +kernel
theorem dX8_tellTruth_23 : decode cX8_tellTruth 23 = .ok (.iaload, 1) := by decide +kernel
theorem dX8_tellTruth_24 : decode cX8_tellTruth 24 = .ok (.aload_n 0, 1) := by decide +kernel
theorem dX8_tellTruth_25 : decode cX8_tellTruth 25 = .ok (.getfield 15, 3) := by decide +kernel
theorem dX8_tellTruth_28 : decode cX8_tellTruth 28 = .ok (.iload_n 1, 1) := by decide +kernel
theorem dX8_tellTruth_29 : decode cX8_tellTruth 29 = .ok (.iaload, 1) := by decide +kernel
theorem dX8_tellTruth_30 : decode cX8_tellTruth 30 = .ok (.aload_n 0, 1) := by decide +kernel
theorem dX8_tellTruth_31 : decode cX8_tellTruth 31 = .ok (.getfield 18, 3) := by decide +kernel
theorem dX8_tellTruth_34 : decode cX8_tellTruth 34 = .ok (.iload_n 1, 1) := by decide +kernel
theorem dX8_tellTruth_35 : decode cX8_tellTruth 35 = .ok (.iaload, 1) := by decide +kernel
theorem dX8_tellTruth_36 : decode cX8_tellTruth 36 = .ok (.invokevirtual 57, 3) := by decide +kernel
theorem dX8_tellTruth_39 : decode cX8_tellTruth 39 = .ok (.aload_n 0, 1) := by decide +kernel
theorem dX8_tellTruth_40 : decode cX8_tellTruth 40 = .ok (.getfield 21, 3) := by decide +kernel
theorem dX8_tellTruth_43 : decode cX8_tellTruth 43 = .ok (.iload_n 1, 1) := by decide +kernel
theorem dX8_tellTruth_44 : decode cX8_tellTruth 44 = .ok (.iaload, 1) := by decide +kernel
theorem dX8_tellTruth_45 : decode cX8_tellTruth 45 = .ok (.if_icmp .ne 7, 3) := by decide +kernel
theorem dX8_tellTruth_48 : decode cX8_tellTruth 48 = .ok (.iconst 1, 1) := by decide +kernel
theorem dX8_tellTruth_49 : decode cX8_tellTruth 49 = .ok (.goto 4, 3) := by decide +kernel
theorem dX8_tellTruth_52 : decode cX8_tellTruth 52 = .ok (.iconst 0, 1) := by decide +kernel
theorem dX8_tellTruth_53 : decode cX8_tellTruth 53 = .ok (.ireturn, 1) := by decide +kernel
theorem dX8_quarrelSize_0 : decode cX8_quarrelSize 0 = .ok (.aload_n 0, 1) := by decide +kernel
theorem dX8_quarrelSize_1 : decode cX8_quarrelSize 1 = .ok (.invokevirtual 63, 3) := by decide +kernel
theorem dX8_quarrelSize_4 : decode cX8_quarrelSize 4 = .ok (.aload_n 0, 1) := by decide +kernel
theorem dX8_quarrelSize_5 : decode cX8_quarrelSize 5 = .ok (.getfield 28, 3) := by decide +kernel
theorem dX8_quarrelSize_8 : decode cX8_quarrelSize 8 = .ok (.invokestatic 66, 3) := by decide +kernel
theorem dX8_quarrelSize_11 : decode cX8_quarrelSize 11 = .ok (.ireturn, 1) := by decide +kernel
theorem dX8_quarrelMember_0 : decode cX8_quarrelMember 0 = .ok (.aload_n 0, 1) := by decide +kernel
theorem dX8_quarrelMember_1 : decode cX8_quarrelMember 1 = .ok (.invokevirtual 63, 3) := by decide +kernel
theorem dX8_quarrelMember_4 : decode cX8_quarrelMember 4 = .ok (.iconst 0, 1) := by decide +kernel
theorem dX8_quarrelMember_5 : decode cX8_quarrelMember 5 = .ok (.istore_n 2, 1) := by decide +kernel
theorem dX8_quarrelMember_6 : decode cX8_quarrelMember 6 = .ok (.iconst 0, 1) := by decide +kernel
theorem dX8_quarrelMember_7 : decode cX8_quarrelMember 7 = .ok (.istore_n 3, 1) := by decide +kernel
theorem dX8_quarrelMember_8 : decode cX8_quarrelMember 8 = .ok (.iload_n 3, 1) := by decide +kernel
theorem dX8_quarrelMember_9 : decode cX8_quarrelMember 9 = .ok (.aload_n 0, 1) := by decide +kernel
theorem dX8_quarrelMember_10 : decode cX8_quarrelMember 10 = .ok (.getfield 24, 3) := by decide +kernel
theorem dX8_quarrelMember_13 : decode cX8_quarrelMember 13 = .ok (.if_icmp .ge 33, 3) := by decide +kernel
theorem dX8_quarrelMember_16 : decode cX8_quarrelMember 16 = .ok (.aload_n 0, 1) := by decide +kernel
theorem dX8_quarrelMember_17 : decode cX8_quarrelMember 17 = .ok (.getfield 28, 3) := by decide +kernel
theorem dX8_quarrelMember_20 : decode cX8_quarrelMember 20 = .ok (.iconst 1, 1) := by decide +kernel
theorem dX8_quarrelMember_21 : decode cX8_quarrelMember 21 = .ok (.iload_n 3, 1) := by decide +kernel
theorem dX8_quarrelMember_22 : decode cX8_quarrelMember 22 = .ok (.ishl, 1) := by decide +kernel
theorem dX8_quarrelMember_23 : decode cX8_quarrelMember 23 = .ok (.iand, 1) := by decide +kernel
theorem dX8_quarrelMember_24 : decode cX8_quarrelMember 24 = .ok (.ifCond .ne 6, 3) := by decide +kernel
theorem dX8_quarrelMember_27 : decode cX8_quarrelMember 27 = .ok (.goto 13, 3) := by decide +kernel
theorem dX8_quarrelMember_30 : decode cX8_quarrelMember 30 = .ok (.iload_n 2, 1) := by decide +kernel
theorem dX8_quarrelMember_31 : decode cX8_quarrelMember 31 = .ok (.iload_n 1, 1) := by decide +kernel
theorem dX8_quarrelMember_32 : decode cX8_quarrelMember 32 = .ok (.if_icmp .ne 5, 3) := by decide +kernel
theorem dX8_quarrelMember_35 : decode cX8_quarrelMember 35 = .ok (.iload_n 3, 1) := by decide +kernel
theorem dX8_quarrelMember_36 : decode cX8_quarrelMember 36 = .ok (.ireturn, 1) := by decide +kernel
theorem dX8_quarrelMember_37 : decode cX8_quarrelMember 37 = .ok (.iinc 2 1, 3) := by decide +kernel
theorem dX8_quarrelMember_40 : decode cX8_quarrelMember 40 = .ok (.iinc 3 1, 3) := by decide +kernel
theorem dX8_quarrelMember_43 : decode cX8_quarrelMember 43 = .ok (.goto (-35), 3) := by decide +kernel
theorem dX8_quarrelMember_46 : decode cX8_quarrelMember 46 = .ok (.iconst (-1), 1) := by decide +kernel
theorem dX8_quarrelMember_47 : decode cX8_quarrelMember 47 = .ok (.ireturn, 1) := by decide +kernel
theorem dX8_judge_0 : decode cX8_judge 0 = .ok (.aload_n 0, 1) := by decide +kernel
theorem dX8_judge_1 : decode cX8_judge 1 = .ok (.getfield 31, 3) := by decide +kernel
theorem dX8_judge_4 : decode cX8_judge 4 = .ok (.aload_n 0, 1) := by decide +kernel
theorem dX8_judge_5 : decode cX8_judge 5 = .ok (.getfield 24, 3) := by decide +kernel
theorem dX8_judge_8 : decode cX8_judge 8 = .ok (.if_icmp .ne 4, 3) := by decide +kernel
theorem dX8_judge_11 : decode cX8_judge 11 = .ok (.return_, 1) := by decide +kernel
theorem dX8_judge_12 : decode cX8_judge 12 = .ok (.aload_n 0, 1) := by decide +kernel
theorem dX8_judge_13 : decode cX8_judge 13 = .ok (.aload_n 0, 1) := by decide +kernel
theorem dX8_judge_14 : decode cX8_judge 14 = .ok (.getfield 24, 3) := by decide +kernel
theorem dX8_judge_17 : decode cX8_judge 17 = .ok (.putfield 31, 3) := by decide +kernel
theorem dX8_judge_20 : decode cX8_judge 20 = .ok (.aload_n 0, 1) := by decide +kernel
theorem dX8_judge_21 : decode cX8_judge 21 = .ok (.iconst 0, 1) := by decide +kernel
theorem dX8_judge_22 : decode cX8_judge 22 = .ok (.putfield 28, 3) := by decide +kernel
theorem dX8_judge_25 : decode cX8_judge 25 = .ok (.iconst 1, 1) := by decide +kernel
theorem dX8_judge_26 : decode cX8_judge 26 = .ok (.aload_n 0, 1) := by decide +kernel
theorem dX8_judge_27 : decode cX8_judge 27 = .ok (.getfield 24, 3) := by decide +kernel
theorem dX8_judge_30 : decode cX8_judge 30 = .ok (.ishl, 1) := by decide +kernel
theorem dX8_judge_31 : decode cX8_judge 31 = .ok (.iconst 1, 1) := by decide +kernel
theorem dX8_judge_32 : decode cX8_judge 32 = .ok (.isub, 1) := by decide +kernel
theorem dX8_judge_33 : decode cX8_judge 33 = .ok (.istore_n 1, 1) := by decide +kernel
theorem dX8_judge_34 : decode cX8_judge 34 = .ok (.aload_n 0, 1) := by decide +kernel
theorem dX8_judge_35 : decode cX8_judge 35 = .ok (.iload_n 1, 1) := by decide +kernel
theorem dX8_judge_36 : decode cX8_judge 36 = .ok (.invokevirtual 72, 3) := by decide +kernel
theorem dX8_judge_39 : decode cX8_judge 39 = .ok (.ifCond .eq 4, 3) := by decide +kernel
theorem dX8_judge_42 : decode cX8_judge 42 = .ok (.return_, 1) := by decide +kernel
theorem dX8_judge_43 : decode cX8_judge 43 = .ok (.aload_n 0, 1) := by decide +kernel
theorem dX8_judge_44 : decode cX8_judge 44 = .ok (.getfield 24, 3) := by decide +kernel
theorem dX8_judge_47 : decode cX8_judge 47 = .ok (.iconst 1, 1) := by decide +kernel
theorem dX8_judge_48 : decode cX8_judge 48 = .ok (.isub, 1) := by decide +kernel
theorem dX8_judge_49 : decode cX8_judge 49 = .ok (.istore_n 2, 1) := by decide +kernel
theorem dX8_judge_50 : decode cX8_judge 50 = .ok (.iload_n 2, 1) := by decide +kernel
theorem dX8_judge_51 : decode cX8_judge 51 = .ok (.ifCond .lt 27, 3) := by decide +kernel
theorem dX8_judge_54 : decode cX8_judge 54 = .ok (.iload_n 1, 1) := by decide +kernel
theorem dX8_judge_55 : decode cX8_judge 55 = .ok (.iconst 1, 1) := by decide +kernel
theorem dX8_judge_56 : decode cX8_judge 56 = .ok (.iload_n 2, 1) := by decide +kernel
theorem dX8_judge_57 : decode cX8_judge 57 = .ok (.ishl, 1) := by decide +kernel
theorem dX8_judge_58 : decode cX8_judge 58 = .ok (.iconst (-1), 1) := by decide +kernel
theorem dX8_judge_59 : decode cX8_judge 59 = .ok (.ixor, 1) := by decide +kernel
theorem dX8_judge_60 : decode cX8_judge 60 = .ok (.iand, 1) := by decide +kernel
theorem dX8_judge_61 : decode cX8_judge 61 = .ok (.istore_n 3, 1) := by decide +kernel
theorem dX8_judge_62 : decode cX8_judge 62 = .ok (.aload_n 0, 1) := by decide +kernel
theorem dX8_judge_63 : decode cX8_judge 63 = .ok (.iload_n 3, 1) := by decide +kernel
theorem dX8_judge_64 : decode cX8_judge 64 = .ok (.invokevirtual 72, 3) := by decide +kernel
theorem dX8_judge_67 : decode cX8_judge 67 = .ok (.ifCond .ne 5, 3) := by decide +kernel
theorem dX8_judge_70 : decode cX8_judge 70 = .ok (.iload_n 3, 1) := by decide +kernel
theorem dX8_judge_71 : decode cX8_judge 71 = .ok (.istore_n 1, 1) := by decide +kernel
theorem dX8_judge_72 : decode cX8_judge 72 = .ok (.iinc 2 (-1), 3) := by decide +kernel
theorem dX8_judge_75 : decode cX8_judge 75 = .ok (.goto (-25), 3) := by decide +kernel
theorem dX8_judge_78 : decode cX8_judge 78 = .ok (.aload_n 0, 1) := by decide +kernel
theorem dX8_judge_79 : decode cX8_judge 79 = .ok (.iload_n 1, 1) := by decide +kernel
theorem dX8_judge_80 : decode cX8_judge 80 = .ok (.putfield 28, 3) := by decide +kernel
theorem dX8_judge_83 : decode cX8_judge 83 = .ok (.return_, 1) := by decide +kernel
theorem dX8_agree_0 : decode cX8_agree 0 = .ok (.iconst 0, 1) := by decide +kernel
theorem dX8_agree_1 : decode cX8_agree 1 = .ok (.istore_n 2, 1) := by decide +kernel
theorem dX8_agree_2 : decode cX8_agree 2 = .ok (.iload_n 2, 1) := by decide +kernel
theorem dX8_agree_3 : decode cX8_agree 3 = .ok (.bipush 6, 2) := by decide +kernel
theorem dX8_agree_5 : decode cX8_agree 5 = .ok (.if_icmp .ge 20, 3) := by decide +kernel
theorem dX8_agree_8 : decode cX8_agree 8 = .ok (.aload_n 0, 1) := by decide +kernel
theorem dX8_agree_9 : decode cX8_agree 9 = .ok (.iload_n 1, 1) := by decide +kernel
theorem dX8_agree_10 : decode cX8_agree 10 = .ok (.iload_n 2, 1) := by decide +kernel
theorem dX8_agree_11 : decode cX8_agree 11 = .ok (.invokevirtual 75, 3) := by decide +kernel
theorem dX8_agree_14 : decode cX8_agree 14 = .ok (.ifCond .ne 5, 3) := by decide +kernel
theorem dX8_agree_17 : decode cX8_agree 17 = .ok (.iconst 0, 1) := by decide +kernel
theorem dX8_agree_18 : decode cX8_agree 18 = .ok (.ireturn, 1) := by decide +kernel
theorem dX8_agree_19 : decode cX8_agree 19 = .ok (.iinc 2 1, 3) := by decide +kernel
theorem dX8_agree_22 : decode cX8_agree 22 = .ok (.goto (-20), 3) := by decide +kernel
theorem dX8_agree_25 : decode cX8_agree 25 = .ok (.iconst 1, 1) := by decide +kernel
theorem dX8_agree_26 : decode cX8_agree 26 = .ok (.ireturn, 1) := by decide +kernel
theorem dX8_agreeOnGang_0 : decode cX8_agreeOnGang 0 = .ok (.iconst 0, 1) := by decide +kernel
theorem dX8_agreeOnGang_1 : decode cX8_agreeOnGang 1 = .ok (.istore_n 3, 1) := by decide +kernel
theorem dX8_agreeOnGang_2 : decode cX8_agreeOnGang 2 = .ok (.aload_n 0, 1) := by decide +kernel
theorem dX8_agreeOnGang_3 : decode cX8_agreeOnGang 3 = .ok (.iconst 0, 1) := by decide +kernel
theorem dX8_agreeOnGang_4 : decode cX8_agreeOnGang 4 = .ok (.putfield 40, 3) := by decide +kernel
theorem dX8_agreeOnGang_7 : decode cX8_agreeOnGang 7 = .ok (.iconst 0, 1) := by decide +kernel
theorem dX8_agreeOnGang_8 : decode cX8_agreeOnGang 8 = .ok (.istore 4, 2) := by decide +kernel
theorem dX8_agreeOnGang_10 : decode cX8_agreeOnGang 10 = .ok (.iload 4, 2) := by decide +kernel
theorem dX8_agreeOnGang_12 : decode cX8_agreeOnGang 12 = .ok (.aload_n 0, 1) := by decide +kernel
theorem dX8_agreeOnGang_13 : decode cX8_agreeOnGang 13 = .ok (.getfield 24, 3) := by decide +kernel
theorem dX8_agreeOnGang_16 : decode cX8_agreeOnGang 16 = .ok (.if_icmp .ge 60, 3) := by decide +kernel
theorem dX8_agreeOnGang_19 : decode cX8_agreeOnGang 19 = .ok (.iload_n 1, 1) := by decide +kernel
theorem dX8_agreeOnGang_20 : decode cX8_agreeOnGang 20 = .ok (.iconst 1, 1) := by decide +kernel
theorem dX8_agreeOnGang_21 : decode cX8_agreeOnGang 21 = .ok (.iload 4, 2) := by decide +kernel
theorem dX8_agreeOnGang_23 : decode cX8_agreeOnGang 23 = .ok (.ishl, 1) := by decide +kernel
theorem dX8_agreeOnGang_24 : decode cX8_agreeOnGang 24 = .ok (.iand, 1) := by decide +kernel
theorem dX8_agreeOnGang_25 : decode cX8_agreeOnGang 25 = .ok (.ifCond .eq 45, 3) := by decide +kernel
theorem dX8_agreeOnGang_28 : decode cX8_agreeOnGang 28 = .ok (.aload_n 0, 1) := by decide +kernel
theorem dX8_agreeOnGang_29 : decode cX8_agreeOnGang 29 = .ok (.getfield 11, 3) := by decide +kernel
theorem dX8_agreeOnGang_32 : decode cX8_agreeOnGang 32 = .ok (.iload 4, 2) := by decide +kernel
theorem dX8_agreeOnGang_34 : decode cX8_agreeOnGang 34 = .ok (.iaload, 1) := by decide +kernel
theorem dX8_agreeOnGang_35 : decode cX8_agreeOnGang 35 = .ok (.iload_n 2, 1) := by decide +kernel
theorem dX8_agreeOnGang_36 : decode cX8_agreeOnGang 36 = .ok (.if_icmp .ne 34, 3) := by decide +kernel
theorem dX8_agreeOnGang_39 : decode cX8_agreeOnGang 39 = .ok (.iload_n 3, 1) := by decide +kernel
theorem dX8_agreeOnGang_40 : decode cX8_agreeOnGang 40 = .ok (.iconst 1, 1) := by decide +kernel
theorem dX8_agreeOnGang_41 : decode cX8_agreeOnGang 41 = .ok (.iload 4, 2) := by decide +kernel
theorem dX8_agreeOnGang_43 : decode cX8_agreeOnGang 43 = .ok (.ishl, 1) := by decide +kernel
theorem dX8_agreeOnGang_44 : decode cX8_agreeOnGang 44 = .ok (.ior, 1) := by decide +kernel
theorem dX8_agreeOnGang_45 : decode cX8_agreeOnGang 45 = .ok (.istore_n 3, 1) := by decide +kernel
theorem dX8_agreeOnGang_46 : decode cX8_agreeOnGang 46 = .ok (.aload_n 0, 1) := by decide +kernel
theorem dX8_agreeOnGang_47 : decode cX8_agreeOnGang 47 = .ok (.aload_n 0, 1) := by decide +kernel
theorem dX8_agreeOnGang_48 : decode cX8_agreeOnGang 48 = .ok (.getfield 15, 3) := by decide +kernel
theorem dX8_agreeOnGang_51 : decode cX8_agreeOnGang 51 = .ok (.iload 4, 2) := by decide +kernel
theorem dX8_agreeOnGang_53 : decode cX8_agreeOnGang 53 = .ok (.iaload, 1) := by decide +kernel
theorem dX8_agreeOnGang_54 : decode cX8_agreeOnGang 54 = .ok (.invokevirtual 79, 3) := by decide +kernel
theorem dX8_agreeOnGang_57 : decode cX8_agreeOnGang 57 = .ok (.aload_n 0, 1) := by decide +kernel
theorem dX8_agreeOnGang_58 : decode cX8_agreeOnGang 58 = .ok (.aload_n 0, 1) := by decide +kernel
theorem dX8_agreeOnGang_59 : decode cX8_agreeOnGang 59 = .ok (.getfield 18, 3) := by decide +kernel
theorem dX8_agreeOnGang_62 : decode cX8_agreeOnGang 62 = .ok (.iload 4, 2) := by decide +kernel
theorem dX8_agreeOnGang_64 : decode cX8_agreeOnGang 64 = .ok (.iaload, 1) := by decide +kernel
theorem dX8_agreeOnGang_65 : decode cX8_agreeOnGang 65 = .ok (.iconst 1, 1) := by decide +kernel
theorem dX8_agreeOnGang_66 : decode cX8_agreeOnGang 66 = .ok (.iadd, 1) := by decide +kernel
theorem dX8_agreeOnGang_67 : decode cX8_agreeOnGang 67 = .ok (.invokevirtual 79, 3) := by decide +kernel
theorem dX8_agreeOnGang_70 : decode cX8_agreeOnGang 70 = .ok (.iinc 4 1, 3) := by decide +kernel
theorem dX8_agreeOnGang_73 : decode cX8_agreeOnGang 73 = .ok (.goto (-63), 3) := by decide +kernel
theorem dX8_agreeOnGang_76 : decode cX8_agreeOnGang 76 = .ok (.aload_n 0, 1) := by decide +kernel
theorem dX8_agreeOnGang_77 : decode cX8_agreeOnGang 77 = .ok (.iload_n 3, 1) := by decide +kernel
theorem dX8_agreeOnGang_78 : decode cX8_agreeOnGang 78 = .ok (.invokevirtual 83, 3) := by decide +kernel
theorem dX8_agreeOnGang_81 : decode cX8_agreeOnGang 81 = .ok (.iconst 0, 1) := by decide +kernel
theorem dX8_agreeOnGang_82 : decode cX8_agreeOnGang 82 = .ok (.istore 4, 2) := by decide +kernel
theorem dX8_agreeOnGang_84 : decode cX8_agreeOnGang 84 = .ok (.iload 4, 2) := by decide +kernel
theorem dX8_agreeOnGang_86 : decode cX8_agreeOnGang 86 = .ok (.aload_n 0, 1) := by decide +kernel
theorem dX8_agreeOnGang_87 : decode cX8_agreeOnGang 87 = .ok (.getfield 40, 3) := by decide +kernel
theorem dX8_agreeOnGang_90 : decode cX8_agreeOnGang 90 = .ok (.if_icmp .gt 19, 3) := by decide +kernel
theorem dX8_agreeOnGang_93 : decode cX8_agreeOnGang 93 = .ok (.aload_n 0, 1) := by decide +kernel
theorem dX8_agreeOnGang_94 : decode cX8_agreeOnGang 94 = .ok (.iload_n 3, 1) := by decide +kernel
theorem dX8_agreeOnGang_95 : decode cX8_agreeOnGang 95 = .ok (.invokevirtual 86, 3) := by decide +kernel
theorem dX8_agreeOnGang_98 : decode cX8_agreeOnGang 98 = .ok (.ifCond .ne 5, 3) := by decide +kernel
theorem dX8_agreeOnGang_101 : decode cX8_agreeOnGang 101 = .ok (.iconst 1, 1) := by decide +kernel
theorem dX8_agreeOnGang_102 : decode cX8_agreeOnGang 102 = .ok (.ireturn, 1) := by decide +kernel
theorem dX8_agreeOnGang_103 : decode cX8_agreeOnGang 103 = .ok (.iinc 4 1, 3) := by decide +kernel
theorem dX8_agreeOnGang_106 : decode cX8_agreeOnGang 106 = .ok (.goto (-22), 3) := by decide +kernel
theorem dX8_agreeOnGang_109 : decode cX8_agreeOnGang 109 = .ok (.iconst 0, 1) := by decide +kernel
theorem dX8_agreeOnGang_110 : decode cX8_agreeOnGang 110 = .ok (.ireturn, 1) := by decide +kernel
theorem dX8_addBorder_0 : decode cX8_addBorder 0 = .ok (.aload_n 0, 1) := by decide +kernel
theorem dX8_addBorder_1 : decode cX8_addBorder 1 = .ok (.iload_n 1, 1) := by decide +kernel
theorem dX8_addBorder_2 : decode cX8_addBorder 2 = .ok (.invokevirtual 89, 3) := by decide +kernel
theorem dX8_addBorder_5 : decode cX8_addBorder 5 = .ok (.iconst (-1), 1) := by decide +kernel
theorem dX8_addBorder_6 : decode cX8_addBorder 6 = .ok (.if_icmp .ne 15, 3) := by decide +kernel
theorem dX8_addBorder_9 : decode cX8_addBorder 9 = .ok (.aload_n 0, 1) := by decide +kernel
theorem dX8_addBorder_10 : decode cX8_addBorder 10 = .ok (.getfield 40, 3) := by decide +kernel
theorem dX8_addBorder_13 : decode cX8_addBorder 13 = .ok (.aload_n 0, 1) := by decide +kernel
theorem dX8_addBorder_14 : decode cX8_addBorder 14 = .ok (.getfield 34, 3) := by decide +kernel
theorem dX8_addBorder_17 : decode cX8_addBorder 17 = .ok (.arraylength, 1) := by decide +kernel
theorem dX8_addBorder_18 : decode cX8_addBorder 18 = .ok (.if_icmp .lt 4, 3) := by decide +kernel
theorem dX8_addBorder_21 : decode cX8_addBorder 21 = .ok (.return_, 1) := by decide +kernel
theorem dX8_addBorder_22 : decode cX8_addBorder 22 = .ok (.aload_n 0, 1) := by decide +kernel
theorem dX8_addBorder_23 : decode cX8_addBorder 23 = .ok (.getfield 40, 3) := by decide +kernel
theorem dX8_addBorder_26 : decode cX8_addBorder 26 = .ok (.istore_n 2, 1) := by decide +kernel
theorem dX8_addBorder_27 : decode cX8_addBorder 27 = .ok (.iload_n 2, 1) := by decide +kernel
theorem dX8_addBorder_28 : decode cX8_addBorder 28 = .ok (.ifCond .le 35, 3) := by decide +kernel
theorem dX8_addBorder_31 : decode cX8_addBorder 31 = .ok (.aload_n 0, 1) := by decide +kernel
theorem dX8_addBorder_32 : decode cX8_addBorder 32 = .ok (.getfield 34, 3) := by decide +kernel
theorem dX8_addBorder_35 : decode cX8_addBorder 35 = .ok (.iload_n 2, 1) := by decide +kernel
theorem dX8_addBorder_36 : decode cX8_addBorder 36 = .ok (.iconst 1, 1) := by decide +kernel
theorem dX8_addBorder_37 : decode cX8_addBorder 37 = .ok (.isub, 1) := by decide +kernel
theorem dX8_addBorder_38 : decode cX8_addBorder 38 = .ok (.iaload, 1) := by decide +kernel
theorem dX8_addBorder_39 : decode cX8_addBorder 39 = .ok (.iload_n 1, 1) := by decide +kernel
theorem dX8_addBorder_40 : decode cX8_addBorder 40 = .ok (.if_icmp .le 23, 3) := by decide +kernel
theorem dX8_addBorder_43 : decode cX8_addBorder 43 = .ok (.aload_n 0, 1) := by decide +kernel
theorem dX8_addBorder_44 : decode cX8_addBorder 44 = .ok (.getfield 34, 3) := by decide +kernel
theorem dX8_addBorder_47 : decode cX8_addBorder 47 = .ok (.iload_n 2, 1) := by decide +kernel
theorem dX8_addBorder_48 : decode cX8_addBorder 48 = .ok (.aload_n 0, 1) := by decide +kernel
theorem dX8_addBorder_49 : decode cX8_addBorder 49 = .ok (.getfield 34, 3) := by decide +kernel
theorem dX8_addBorder_52 : decode cX8_addBorder 52 = .ok (.iload_n 2, 1) := by decide +kernel
theorem dX8_addBorder_53 : decode cX8_addBorder 53 = .ok (.iconst 1, 1) := by decide +kernel
theorem dX8_addBorder_54 : decode cX8_addBorder 54 = .ok (.isub, 1) := by decide +kernel
theorem dX8_addBorder_55 : decode cX8_addBorder 55 = .ok (.iaload, 1) := by decide +kernel
theorem dX8_addBorder_56 : decode cX8_addBorder 56 = .ok (.iastore, 1) := by decide +kernel
theorem dX8_addBorder_57 : decode cX8_addBorder 57 = .ok (.iinc 2 (-1), 3) := by decide +kernel
theorem dX8_addBorder_60 : decode cX8_addBorder 60 = .ok (.goto (-33), 3) := by decide +kernel
theorem dX8_addBorder_63 : decode cX8_addBorder 63 = .ok (.aload_n 0, 1) := by decide +kernel
theorem dX8_addBorder_64 : decode cX8_addBorder 64 = .ok (.getfield 34, 3) := by decide +kernel
theorem dX8_addBorder_67 : decode cX8_addBorder 67 = .ok (.iload_n 2, 1) := by decide +kernel
theorem dX8_addBorder_68 : decode cX8_addBorder 68 = .ok (.iload_n 1, 1) := by decide +kernel
theorem dX8_addBorder_69 : decode cX8_addBorder 69 = .ok (.iastore, 1) := by decide +kernel
theorem dX8_addBorder_70 : decode cX8_addBorder 70 = .ok (.aload_n 0, 1) := by decide +kernel
theorem dX8_addBorder_71 : decode cX8_addBorder 71 = .ok (.dup, 1) := by decide +kernel
theorem dX8_addBorder_72 : decode cX8_addBorder 72 = .ok (.getfield 40, 3) := by decide +kernel
theorem dX8_addBorder_75 : decode cX8_addBorder 75 = .ok (.iconst 1, 1) := by decide +kernel
theorem dX8_addBorder_76 : decode cX8_addBorder 76 = .ok (.iadd, 1) := by decide +kernel
theorem dX8_addBorder_77 : decode cX8_addBorder 77 = .ok (.putfield 40, 3) := by decide +kernel
theorem dX8_addBorder_80 : decode cX8_addBorder 80 = .ok (.return_, 1) := by decide +kernel
theorem dX8_borderAt_0 : decode cX8_borderAt 0 = .ok (.iconst 0, 1) := by decide +kernel
theorem dX8_borderAt_1 : decode cX8_borderAt 1 = .ok (.istore_n 2, 1) := by decide +kernel
theorem dX8_borderAt_2 : decode cX8_borderAt 2 = .ok (.iload_n 2, 1) := by decide +kernel
theorem dX8_borderAt_3 : decode cX8_borderAt 3 = .ok (.aload_n 0, 1) := by decide +kernel
theorem dX8_borderAt_4 : decode cX8_borderAt 4 = .ok (.getfield 40, 3) := by decide +kernel
theorem dX8_borderAt_7 : decode cX8_borderAt 7 = .ok (.if_icmp .ge 21, 3) := by decide +kernel
theorem dX8_borderAt_10 : decode cX8_borderAt 10 = .ok (.aload_n 0, 1) := by decide +kernel
theorem dX8_borderAt_11 : decode cX8_borderAt 11 = .ok (.getfield 34, 3) := by decide +kernel
theorem dX8_borderAt_14 : decode cX8_borderAt 14 = .ok (.iload_n 2, 1) := by decide +kernel
theorem dX8_borderAt_15 : decode cX8_borderAt 15 = .ok (.iaload, 1) := by decide +kernel
theorem dX8_borderAt_16 : decode cX8_borderAt 16 = .ok (.iload_n 1, 1) := by decide +kernel
theorem dX8_borderAt_17 : decode cX8_borderAt 17 = .ok (.if_icmp .ne 5, 3) := by decide +kernel
theorem dX8_borderAt_20 : decode cX8_borderAt 20 = .ok (.iload_n 2, 1) := by decide +kernel
theorem dX8_borderAt_21 : decode cX8_borderAt 21 = .ok (.ireturn, 1) := by decide +kernel
theorem dX8_borderAt_22 : decode cX8_borderAt 22 = .ok (.iinc 2 1, 3) := by decide +kernel
theorem dX8_borderAt_25 : decode cX8_borderAt 25 = .ok (.goto (-23), 3) := by decide +kernel
theorem dX8_borderAt_28 : decode cX8_borderAt 28 = .ok (.iconst (-1), 1) := by decide +kernel
theorem dX8_borderAt_29 : decode cX8_borderAt 29 = .ok (.ireturn, 1) := by decide +kernel
theorem dX8_findBorders_0 : decode cX8_findBorders 0 = .ok (.iconst 0, 1) := by decide +kernel
theorem dX8_findBorders_1 : decode cX8_findBorders 1 = .ok (.istore_n 2, 1) := by decide +kernel
theorem dX8_findBorders_2 : decode cX8_findBorders 2 = .ok (.iload_n 2, 1) := by decide +kernel
theorem dX8_findBorders_3 : decode cX8_findBorders 3 = .ok (.aload_n 0, 1) := by decide +kernel
theorem dX8_findBorders_4 : decode cX8_findBorders 4 = .ok (.getfield 40, 3) := by decide +kernel
theorem dX8_findBorders_7 : decode cX8_findBorders 7 = .ok (.if_icmp .ge 16, 3) := by decide +kernel
theorem dX8_findBorders_10 : decode cX8_findBorders 10 = .ok (.aload_n 0, 1) := by decide +kernel
theorem dX8_findBorders_11 : decode cX8_findBorders 11 = .ok (.getfield 37, 3) := by decide +kernel
theorem dX8_findBorders_14 : decode cX8_findBorders 14 = .ok (.iload_n 2, 1) := by decide +kernel
theorem dX8_findBorders_15 : decode cX8_findBorders 15 = .ok (.iconst 0, 1) := by decide +kernel
theorem dX8_findBorders_16 : decode cX8_findBorders 16 = .ok (.iastore, 1) := by decide +kernel
theorem dX8_findBorders_17 : decode cX8_findBorders 17 = .ok (.iinc 2 1, 3) := by decide +kernel
theorem dX8_findBorders_20 : decode cX8_findBorders 20 = .ok (.goto (-18), 3) := by decide +kernel
theorem dX8_findBorders_23 : decode cX8_findBorders 23 = .ok (.iconst 0, 1) := by decide +kernel
theorem dX8_findBorders_24 : decode cX8_findBorders 24 = .ok (.istore_n 2, 1) := by decide +kernel
theorem dX8_findBorders_25 : decode cX8_findBorders 25 = .ok (.iload_n 2, 1) := by decide +kernel
theorem dX8_findBorders_26 : decode cX8_findBorders 26 = .ok (.aload_n 0, 1) := by decide +kernel
theorem dX8_findBorders_27 : decode cX8_findBorders 27 = .ok (.getfield 24, 3) := by decide +kernel
theorem dX8_findBorders_30 : decode cX8_findBorders 30 = .ok (.if_icmp .ge 59, 3) := by decide +kernel
theorem dX8_findBorders_33 : decode cX8_findBorders 33 = .ok (.iload_n 1, 1) := by decide +kernel
theorem dX8_findBorders_34 : decode cX8_findBorders 34 = .ok (.iconst 1, 1) := by decide +kernel
theorem dX8_findBorders_35 : decode cX8_findBorders 35 = .ok (.iload_n 2, 1) := by decide +kernel
theorem dX8_findBorders_36 : decode cX8_findBorders 36 = .ok (.ishl, 1) := by decide +kernel
theorem dX8_findBorders_37 : decode cX8_findBorders 37 = .ok (.iand, 1) := by decide +kernel
theorem dX8_findBorders_38 : decode cX8_findBorders 38 = .ok (.ifCond .eq 45, 3) := by decide +kernel
theorem dX8_findBorders_41 : decode cX8_findBorders 41 = .ok (.aload_n 0, 1) := by decide +kernel
theorem dX8_findBorders_42 : decode cX8_findBorders 42 = .ok (.getfield 43, 3) := by decide +kernel
theorem dX8_findBorders_45 : decode cX8_findBorders 45 = .ok (.iload_n 2, 1) := by decide +kernel
theorem dX8_findBorders_46 : decode cX8_findBorders 46 = .ok (.iconst 0, 1) := by decide +kernel
theorem dX8_findBorders_47 : decode cX8_findBorders 47 = .ok (.aload_n 0, 1) := by decide +kernel
theorem dX8_findBorders_48 : decode cX8_findBorders 48 = .ok (.aload_n 0, 1) := by decide +kernel
theorem dX8_findBorders_49 : decode cX8_findBorders 49 = .ok (.getfield 15, 3) := by decide +kernel
theorem dX8_findBorders_52 : decode cX8_findBorders 52 = .ok (.iload_n 2, 1) := by decide +kernel
theorem dX8_findBorders_53 : decode cX8_findBorders 53 = .ok (.iaload, 1) := by decide +kernel
theorem dX8_findBorders_54 : decode cX8_findBorders 54 = .ok (.invokevirtual 89, 3) := by decide +kernel
theorem dX8_findBorders_57 : decode cX8_findBorders 57 = .ok (.invokestatic 92, 3) := by decide +kernel
theorem dX8_findBorders_60 : decode cX8_findBorders 60 = .ok (.iastore, 1) := by decide +kernel
theorem dX8_findBorders_61 : decode cX8_findBorders 61 = .ok (.aload_n 0, 1) := by decide +kernel
theorem dX8_findBorders_62 : decode cX8_findBorders 62 = .ok (.getfield 46, 3) := by decide +kernel
theorem dX8_findBorders_65 : decode cX8_findBorders 65 = .ok (.iload_n 2, 1) := by decide +kernel
theorem dX8_findBorders_66 : decode cX8_findBorders 66 = .ok (.iconst 0, 1) := by decide +kernel
theorem dX8_findBorders_67 : decode cX8_findBorders 67 = .ok (.aload_n 0, 1) := by decide +kernel
theorem dX8_findBorders_68 : decode cX8_findBorders 68 = .ok (.aload_n 0, 1) := by decide +kernel
theorem dX8_findBorders_69 : decode cX8_findBorders 69 = .ok (.getfield 18, 3) := by decide +kernel
theorem dX8_findBorders_72 : decode cX8_findBorders 72 = .ok (.iload_n 2, 1) := by decide +kernel
theorem dX8_findBorders_73 : decode cX8_findBorders 73 = .ok (.iaload, 1) := by decide +kernel
theorem dX8_findBorders_74 : decode cX8_findBorders 74 = .ok (.iconst 1, 1) := by decide +kernel
theorem dX8_findBorders_75 : decode cX8_findBorders 75 = .ok (.iadd, 1) := by decide +kernel
theorem dX8_findBorders_76 : decode cX8_findBorders 76 = .ok (.invokevirtual 89, 3) := by decide +kernel
theorem dX8_findBorders_79 : decode cX8_findBorders 79 = .ok (.invokestatic 92, 3) := by decide +kernel
theorem dX8_findBorders_82 : decode cX8_findBorders 82 = .ok (.iastore, 1) := by decide +kernel
theorem dX8_findBorders_83 : decode cX8_findBorders 83 = .ok (.iinc 2 1, 3) := by decide +kernel
theorem dX8_findBorders_86 : decode cX8_findBorders 86 = .ok (.goto (-61), 3) := by decide +kernel
theorem dX8_findBorders_89 : decode cX8_findBorders 89 = .ok (.return_, 1) := by decide +kernel
theorem dX8_raiseNumbers_0 : decode cX8_raiseNumbers 0 = .ok (.iconst 0, 1) := by decide +kernel
theorem dX8_raiseNumbers_1 : decode cX8_raiseNumbers 1 = .ok (.istore_n 2, 1) := by decide +kernel
theorem dX8_raiseNumbers_2 : decode cX8_raiseNumbers 2 = .ok (.iconst 1, 1) := by decide +kernel
theorem dX8_raiseNumbers_3 : decode cX8_raiseNumbers 3 = .ok (.istore_n 3, 1) := by decide +kernel
theorem dX8_raiseNumbers_4 : decode cX8_raiseNumbers 4 = .ok (.iload_n 3, 1) := by decide +kernel
theorem dX8_raiseNumbers_5 : decode cX8_raiseNumbers 5 = .ok (.aload_n 0, 1) := by decide +kernel
theorem dX8_raiseNumbers_6 : decode cX8_raiseNumbers 6 = .ok (.getfield 40, 3) := by decide +kernel
theorem dX8_raiseNumbers_9 : decode cX8_raiseNumbers 9 = .ok (.if_icmp .ge 25, 3) := by decide +kernel
theorem dX8_raiseNumbers_12 : decode cX8_raiseNumbers 12 = .ok (.iload_n 2, 1) := by decide +kernel
theorem dX8_raiseNumbers_13 : decode cX8_raiseNumbers 13 = .ok (.aload_n 0, 1) := by decide +kernel
theorem dX8_raiseNumbers_14 : decode cX8_raiseNumbers 14 = .ok (.iload_n 3, 1) := by decide +kernel
theorem dX8_raiseNumbers_15 : decode cX8_raiseNumbers 15 = .ok (.aload_n 0, 1) := by decide +kernel
theorem dX8_raiseNumbers_16 : decode cX8_raiseNumbers 16 = .ok (.getfield 37, 3) := by decide +kernel
theorem dX8_raiseNumbers_19 : decode cX8_raiseNumbers 19 = .ok (.iload_n 3, 1) := by decide +kernel
theorem dX8_raiseNumbers_20 : decode cX8_raiseNumbers 20 = .ok (.iconst 1, 1) := by decide +kernel
theorem dX8_raiseNumbers_21 : decode cX8_raiseNumbers 21 = .ok (.isub, 1) := by decide +kernel
theorem dX8_raiseNumbers_22 : decode cX8_raiseNumbers 22 = .ok (.iaload, 1) := by decide +kernel
theorem dX8_raiseNumbers_23 : decode cX8_raiseNumbers 23 = .ok (.invokevirtual 98, 3) := by decide +kernel
theorem dX8_raiseNumbers_26 : decode cX8_raiseNumbers 26 = .ok (.ior, 1) := by decide +kernel
theorem dX8_raiseNumbers_27 : decode cX8_raiseNumbers 27 = .ok (.istore_n 2, 1) := by decide +kernel
theorem dX8_raiseNumbers_28 : decode cX8_raiseNumbers 28 = .ok (.iinc 3 1, 3) := by decide +kernel
theorem dX8_raiseNumbers_31 : decode cX8_raiseNumbers 31 = .ok (.goto (-27), 3) := by decide +kernel
theorem dX8_raiseNumbers_34 : decode cX8_raiseNumbers 34 = .ok (.iconst 0, 1) := by decide +kernel
theorem dX8_raiseNumbers_35 : decode cX8_raiseNumbers 35 = .ok (.istore_n 3, 1) := by decide +kernel
theorem dX8_raiseNumbers_36 : decode cX8_raiseNumbers 36 = .ok (.iload_n 3, 1) := by decide +kernel
theorem dX8_raiseNumbers_37 : decode cX8_raiseNumbers 37 = .ok (.aload_n 0, 1) := by decide +kernel
theorem dX8_raiseNumbers_38 : decode cX8_raiseNumbers 38 = .ok (.getfield 24, 3) := by decide +kernel
theorem dX8_raiseNumbers_41 : decode cX8_raiseNumbers 41 = .ok (.if_icmp .ge 79, 3) := by decide +kernel
theorem dX8_raiseNumbers_44 : decode cX8_raiseNumbers 44 = .ok (.iload_n 1, 1) := by decide +kernel
theorem dX8_raiseNumbers_45 : decode cX8_raiseNumbers 45 = .ok (.iconst 1, 1) := by decide +kernel
theorem dX8_raiseNumbers_46 : decode cX8_raiseNumbers 46 = .ok (.iload_n 3, 1) := by decide +kernel
theorem dX8_raiseNumbers_47 : decode cX8_raiseNumbers 47 = .ok (.ishl, 1) := by decide +kernel
theorem dX8_raiseNumbers_48 : decode cX8_raiseNumbers 48 = .ok (.iand, 1) := by decide +kernel
theorem dX8_raiseNumbers_49 : decode cX8_raiseNumbers 49 = .ok (.ifCond .eq 65, 3) := by decide +kernel
theorem dX8_raiseNumbers_52 : decode cX8_raiseNumbers 52 = .ok (.iload_n 2, 1) := by decide +kernel
theorem dX8_raiseNumbers_53 : decode cX8_raiseNumbers 53 = .ok (.aload_n 0, 1) := by decide +kernel
theorem dX8_raiseNumbers_54 : decode cX8_raiseNumbers 54 = .ok (.aload_n 0, 1) := by decide +kernel
theorem dX8_raiseNumbers_55 : decode cX8_raiseNumbers 55 = .ok (.getfield 46, 3) := by decide +kernel
theorem dX8_raiseNumbers_58 : decode cX8_raiseNumbers 58 = .ok (.iload_n 3, 1) := by decide +kernel
theorem dX8_raiseNumbers_59 : decode cX8_raiseNumbers 59 = .ok (.iaload, 1) := by decide +kernel
theorem dX8_raiseNumbers_60 : decode cX8_raiseNumbers 60 = .ok (.aload_n 0, 1) := by decide +kernel
theorem dX8_raiseNumbers_61 : decode cX8_raiseNumbers 61 = .ok (.getfield 37, 3) := by decide +kernel
theorem dX8_raiseNumbers_64 : decode cX8_raiseNumbers 64 = .ok (.aload_n 0, 1) := by decide +kernel
theorem dX8_raiseNumbers_65 : decode cX8_raiseNumbers 65 = .ok (.getfield 43, 3) := by decide +kernel
theorem dX8_raiseNumbers_68 : decode cX8_raiseNumbers 68 = .ok (.iload_n 3, 1) := by decide +kernel
theorem dX8_raiseNumbers_69 : decode cX8_raiseNumbers 69 = .ok (.iaload, 1) := by decide +kernel
theorem dX8_raiseNumbers_70 : decode cX8_raiseNumbers 70 = .ok (.iaload, 1) := by decide +kernel
theorem dX8_raiseNumbers_71 : decode cX8_raiseNumbers 71 = .ok (.aload_n 0, 1) := by decide +kernel
theorem dX8_raiseNumbers_72 : decode cX8_raiseNumbers 72 = .ok (.getfield 21, 3) := by decide +kernel
theorem dX8_raiseNumbers_75 : decode cX8_raiseNumbers 75 = .ok (.iload_n 3, 1) := by decide +kernel
theorem dX8_raiseNumbers_76 : decode cX8_raiseNumbers 76 = .ok (.iaload, 1) := by decide +kernel
theorem dX8_raiseNumbers_77 : decode cX8_raiseNumbers 77 = .ok (.iadd, 1) := by decide +kernel
theorem dX8_raiseNumbers_78 : decode cX8_raiseNumbers 78 = .ok (.invokevirtual 98, 3) := by decide +kernel
theorem dX8_raiseNumbers_81 : decode cX8_raiseNumbers 81 = .ok (.ior, 1) := by decide +kernel
theorem dX8_raiseNumbers_82 : decode cX8_raiseNumbers 82 = .ok (.istore_n 2, 1) := by decide +kernel
theorem dX8_raiseNumbers_83 : decode cX8_raiseNumbers 83 = .ok (.iload_n 2, 1) := by decide +kernel
theorem dX8_raiseNumbers_84 : decode cX8_raiseNumbers 84 = .ok (.aload_n 0, 1) := by decide +kernel
theorem dX8_raiseNumbers_85 : decode cX8_raiseNumbers 85 = .ok (.aload_n 0, 1) := by decide +kernel
theorem dX8_raiseNumbers_86 : decode cX8_raiseNumbers 86 = .ok (.getfield 43, 3) := by decide +kernel
theorem dX8_raiseNumbers_89 : decode cX8_raiseNumbers 89 = .ok (.iload_n 3, 1) := by decide +kernel
theorem dX8_raiseNumbers_90 : decode cX8_raiseNumbers 90 = .ok (.iaload, 1) := by decide +kernel
theorem dX8_raiseNumbers_91 : decode cX8_raiseNumbers 91 = .ok (.aload_n 0, 1) := by decide +kernel
theorem dX8_raiseNumbers_92 : decode cX8_raiseNumbers 92 = .ok (.getfield 37, 3) := by decide +kernel
theorem dX8_raiseNumbers_95 : decode cX8_raiseNumbers 95 = .ok (.aload_n 0, 1) := by decide +kernel
theorem dX8_raiseNumbers_96 : decode cX8_raiseNumbers 96 = .ok (.getfield 46, 3) := by decide +kernel
theorem dX8_raiseNumbers_99 : decode cX8_raiseNumbers 99 = .ok (.iload_n 3, 1) := by decide +kernel
theorem dX8_raiseNumbers_100 : decode cX8_raiseNumbers 100 = .ok (.iaload, 1) := by decide +kernel
theorem dX8_raiseNumbers_101 : decode cX8_raiseNumbers 101 = .ok (.iaload, 1) := by decide +kernel
theorem dX8_raiseNumbers_102 : decode cX8_raiseNumbers 102 = .ok (.aload_n 0, 1) := by decide +kernel
theorem dX8_raiseNumbers_103 : decode cX8_raiseNumbers 103 = .ok (.getfield 21, 3) := by decide +kernel
theorem dX8_raiseNumbers_106 : decode cX8_raiseNumbers 106 = .ok (.iload_n 3, 1) := by decide +kernel
theorem dX8_raiseNumbers_107 : decode cX8_raiseNumbers 107 = .ok (.iaload, 1) := by decide +kernel
theorem dX8_raiseNumbers_108 : decode cX8_raiseNumbers 108 = .ok (.isub, 1) := by decide +kernel
theorem dX8_raiseNumbers_109 : decode cX8_raiseNumbers 109 = .ok (.invokevirtual 98, 3) := by decide +kernel
theorem dX8_raiseNumbers_112 : decode cX8_raiseNumbers 112 = .ok (.ior, 1) := by decide +kernel
theorem dX8_raiseNumbers_113 : decode cX8_raiseNumbers 113 = .ok (.istore_n 2, 1) := by decide +kernel
theorem dX8_raiseNumbers_114 : decode cX8_raiseNumbers 114 = .ok (.iinc 3 1, 3) := by decide +kernel
theorem dX8_raiseNumbers_117 : decode cX8_raiseNumbers 117 = .ok (.goto (-81), 3) := by decide +kernel
theorem dX8_raiseNumbers_120 : decode cX8_raiseNumbers 120 = .ok (.iload_n 2, 1) := by decide +kernel
theorem dX8_raiseNumbers_121 : decode cX8_raiseNumbers 121 = .ok (.ireturn, 1) := by decide +kernel
theorem dX8_raiseTo_0 : decode cX8_raiseTo 0 = .ok (.aload_n 0, 1) := by decide +kernel
theorem dX8_raiseTo_1 : decode cX8_raiseTo 1 = .ok (.getfield 37, 3) := by decide +kernel
theorem dX8_raiseTo_4 : decode cX8_raiseTo 4 = .ok (.iload_n 1, 1) := by decide +kernel
theorem dX8_raiseTo_5 : decode cX8_raiseTo 5 = .ok (.iaload, 1) := by decide +kernel
theorem dX8_raiseTo_6 : decode cX8_raiseTo 6 = .ok (.iload_n 2, 1) := by decide +kernel
theorem dX8_raiseTo_7 : decode cX8_raiseTo 7 = .ok (.if_icmp .lt 5, 3) := by decide +kernel
theorem dX8_raiseTo_10 : decode cX8_raiseTo 10 = .ok (.iconst 0, 1) := by decide +kernel
theorem dX8_raiseTo_11 : decode cX8_raiseTo 11 = .ok (.ireturn, 1) := by decide +kernel
theorem dX8_raiseTo_12 : decode cX8_raiseTo 12 = .ok (.aload_n 0, 1) := by decide +kernel
theorem dX8_raiseTo_13 : decode cX8_raiseTo 13 = .ok (.getfield 37, 3) := by decide +kernel
theorem dX8_raiseTo_16 : decode cX8_raiseTo 16 = .ok (.iload_n 1, 1) := by decide +kernel
theorem dX8_raiseTo_17 : decode cX8_raiseTo 17 = .ok (.iload_n 2, 1) := by decide +kernel
theorem dX8_raiseTo_18 : decode cX8_raiseTo 18 = .ok (.iastore, 1) := by decide +kernel
theorem dX8_raiseTo_19 : decode cX8_raiseTo 19 = .ok (.iconst 1, 1) := by decide +kernel
theorem dX8_raiseTo_20 : decode cX8_raiseTo 20 = .ok (.ireturn, 1) := by decide +kernel
