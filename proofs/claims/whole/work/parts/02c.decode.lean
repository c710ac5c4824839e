theorem dX1_init_0 : decode cX1_init 0 = .ok (.aload_n 0, 1) := by decide +kernel
theorem dX1_init_1 : decode cX1_init 1 = .ok (.invokespecial 3, 3) := by decide +kernel
theorem dX1_init_4 : decode cX1_init 4 = .ok (.aload_n 0, 1) := by decide +kernel
theorem dX1_init_5 : decode cX1_init 5 = .ok (.iconst 5, 1) := by decide +kernel
theorem dX1_init_6 : decode cX1_init 6 = .ok (.anewarray 11, 3) := by decide +kernel
theorem dX1_init_9 : decode cX1_init 9 = .ok (.putfield 13, 3) := by decide +kernel
theorem dX1_init_12 : decode cX1_init 12 = .ok (.aload_n 0, 1) := by decide +kernel
theorem dX1_init_13 : decode cX1_init 13 = .ok (.iconst 5, 1) := by decide +kernel
theorem dX1_init_14 : decode cX1_init 14 = .ok (.newarray .int, 2) := by decide +kernel
theorem dX1_init_16 : decode cX1_init 16 = .ok (.putfield 17, 3) := by decide +kernel
theorem dX1_init_19 : decode cX1_init 19 = .ok (.aload_n 0, 1) := by decide +kernel
theorem dX1_init_20 : decode cX1_init 20 = .ok (.iconst 0, 1) := by decide +kernel
theorem dX1_init_21 : decode cX1_init 21 = .ok (.putfield 21, 3) := by decide +kernel
theorem dX1_init_24 : decode cX1_init 24 = .ok (.aload_n 0, 1) := by decide +kernel
theorem dX1_init_25 : decode cX1_init 25 = .ok (.iconst 5, 1) := by decide +kernel
theorem dX1_init_26 : decode cX1_init 26 = .ok (.bipush 6, 2) := by decide +kernel
theorem dX1_init_28 : decode cX1_init 28 = .ok (.multianewarray 25 2, 4) := by decide +kernel
theorem dX1_init_32 : decode cX1_init 32 = .ok (.putfield 27, 3) := by decide +kernel
theorem dX1_init_35 : decode cX1_init 35 = .ok (.aload_n 0, 1) := by decide +kernel
theorem dX1_init_36 : decode cX1_init 36 = .ok (.iconst 5, 1) := by decide +kernel
theorem dX1_init_37 : decode cX1_init 37 = .ok (.newarray .int, 2) := by decide +kernel
theorem dX1_init_39 : decode cX1_init 39 = .ok (.putfield 30, 3) := by decide +kernel
theorem dX1_init_42 : decode cX1_init 42 = .ok (.aload_n 0, 1) := by decide +kernel
theorem dX1_init_43 : decode cX1_init 43 = .ok (.iconst 5, 1) := by decide +kernel
theorem dX1_init_44 : decode cX1_init 44 = .ok (.newarray .int, 2) := by decide +kernel
theorem dX1_init_46 : decode cX1_init 46 = .ok (.putfield 33, 3) := by decide +kernel
theorem dX1_init_49 : decode cX1_init 49 = .ok (.aload_n 0, 1) := by decide +kernel
theorem dX1_init_50 : decode cX1_init 50 = .ok (.iconst 5, 1) := by decide +kernel
theorem dX1_init_51 : decode cX1_init 51 = .ok (.newarray .int, 2) := by decide +kernel
theorem dX1_init_53 : decode cX1_init 53 = .ok (.putfield 36, 3) := by decide +kernel
theorem dX1_init_56 : decode cX1_init 56 = .ok (.aload_n 0, 1) := by decide +kernel
theorem dX1_init_57 : decode cX1_init 57 = .ok (.iconst 5, 1) := by decide +kernel
theorem dX1_init_58 : decode cX1_init 58 = .ok (.newarray .int, 2) := by decide +kernel
theorem dX1_init_60 : decode cX1_init 60 = .ok (.putfield 39, 3) := by decide +kernel
theorem dX1_init_63 : decode cX1_init 63 = .ok (.aload_n 0, 1) := by decide +kernel
theorem dX1_init_64 : decode cX1_init 64 = .ok (.iconst 5, 1) := by decide +kernel
theorem dX1_init_65 : decode cX1_init 65 = .ok (.newarray .int, 2) := by decide +kernel
theorem dX1_init_67 : decode cX1_init 67 = .ok (.putfield 42, 3) := by decide +kernel
theorem dX1_init_70 : decode cX1_init 70 = .ok (.aload_n 0, 1) := by decide +kernel
theorem dX1_init_71 : decode cX1_init 71 = .ok (.iconst 5, 1) := by decide +kernel
theorem dX1_init_72 : decode cX1_init 72 = .ok (.newarray .int, 2) := by decide +kernel
theorem dX1_init_74 : decode cX1_init 74 = .ok (.putfield 45, 3) := by decide +kernel
theorem dX1_init_77 : decode cX1_init 77 = .ok (.aload_n 0, 1) := by decide +kernel
theorem dX1_init_78 : decode cX1_init 78 = .ok (.bipush 6, 2) := by decide +kernel
theorem dX1_init_80 : decode cX1_init 80 = .ok (.newarray .int, 2) := by decide +kernel
theorem dX1_init_82 : decode cX1_init 82 = .ok (.putfield 48, 3) := by decide +kernel
theorem dX1_init_85 : decode cX1_init 85 = .ok (.aload_n 0, 1) := by decide +kernel
theorem dX1_init_86 : decode cX1_init 86 = .ok (.iconst 0, 1) := by decide +kernel
theorem dX1_init_87 : decode cX1_init 87 = .ok (.putfield 51, 3) := by decide +kernel
theorem dX1_init_90 : decode cX1_init 90 = .ok (.aload_n 0, 1) := by decide +kernel
theorem dX1_init_91 : decode cX1_init 91 = .ok (.iconst 0, 1) := by decide +kernel
theorem dX1_init_92 : decode cX1_init 92 = .ok (.putfield 54, 3) := by decide +kernel
theorem dX1_init_95 : decode cX1_init 95 = .ok (.aload_n 0, 1) := by decide +kernel
theorem dX1_init_96 : decode cX1_init 96 = .ok (.iconst 5, 1) := by decide +kernel
theorem dX1_init_97 : decode cX1_init 97 = .ok (.iconst 4, 1) := by decide +kernel
theorem dX1_init_98 : decode cX1_init 98 = .ok (.multianewarray 25 2, 4) := by decide +kernel
theorem dX1_init_102 : decode cX1_init 102 = .ok (.putfield 57, 3) := by decide +kernel
theorem dX1_init_105 : decode cX1_init 105 = .ok (.aload_n 0, 1) := by decide +kernel
theorem dX1_init_106 : decode cX1_init 106 = .ok (.iconst 0, 1) := by decide +kernel
theorem dX1_init_107 : decode cX1_init 107 = .ok (.putfield 60, 3) := by decide +kernel
theorem dX1_init_110 : decode cX1_init 110 = .ok (.aload_n 0, 1) := by decide +kernel
theorem dX1_init_111 : decode cX1_init 111 = .ok (.aload_n 1, 1) := by decide +kernel
theorem dX1_init_112 : decode cX1_init 112 = .ok (.putfield 63, 3) := by decide +kernel
theorem dX1_init_115 : decode cX1_init 115 = .ok (.aload_n 0, 1) := by decide +kernel
theorem dX1_init_116 : decode cX1_init 116 = .ok (.aload_n 2, 1) := by decide +kernel
theorem dX1_init_117 : decode cX1_init 117 = .ok (.putfield 67, 3) := by decide +kernel
theorem dX1_init_120 : decode cX1_init 120 = .ok (.aload_n 0, 1) := by decide +kernel
theorem dX1_init_121 : decode cX1_init 121 = .ok (.aload_n 3, 1) := by decide +kernel
theorem dX1_init_122 : decode cX1_init 122 = .ok (.putfield 71, 3) := by decide +kernel
theorem dX1_init_125 : decode cX1_init 125 = .ok (.return_, 1) := by decide +kernel
theorem dX1_tell_0 : decode cX1_tell 0 = .ok (.iload_n 1, 1) := by decide +kernel
theorem dX1_tell_1 : decode cX1_tell 1 = .ok (.ifCond .lt 20, 3) := by decide +kernel
theorem dX1_tell_4 : decode cX1_tell 4 = .ok (.iload_n 1, 1) := by decide +kernel
theorem dX1_tell_5 : decode cX1_tell 5 = .ok (.aload_n 0, 1) := by decide +kernel
theorem dX1_tell_6 : decode cX1_tell 6 = .ok (.getfield 60, 3) := by decide +kernel
theorem dX1_tell_9 : decode cX1_tell 9 = .ok (.if_icmp .ge 12, 3) := by decide +kernel
theorem dX1_tell_12 : decode cX1_tell 12 = .ok (.iload_n 2, 1) := by decide +kernel
theorem dX1_tell_13 : decode cX1_tell 13 = .ok (.ifCond .lt 8, 3) := by decide +kernel
theorem dX1_tell_16 : decode cX1_tell 16 = .ok (.iload_n 2, 1) := by decide +kernel
theorem dX1_tell_17 : decode cX1_tell 17 = .ok (.iconst 4, 1) := by decide +kernel
theorem dX1_tell_18 : decode cX1_tell 18 = .ok (.if_icmp .lt 5, 3) := by decide +kernel
theorem dX1_tell_21 : decode cX1_tell 21 = .ok (.iconst (-1), 1) := by decide +kernel
theorem dX1_tell_22 : decode cX1_tell 22 = .ok (.ireturn, 1) := by decide +kernel
theorem dX1_tell_23 : decode cX1_tell 23 = .ok (.aload_n 0, 1) := by decide +kernel
theorem dX1_tell_24 : decode cX1_tell 24 = .ok (.getfield 57, 3) := by decide +kernel
theorem dX1_tell_27 : decode cX1_tell 27 = .ok (.iload_n 1, 1) := by decide +kernel
theorem dX1_tell_28 : decode cX1_tell 28 = .ok (.aaload, 1) := by decide +kernel
theorem dX1_tell_29 : decode cX1_tell 29 = .ok (.iload_n 2, 1) := by decide +kernel
theorem dX1_tell_30 : decode cX1_tell 30 = .ok (.iaload, 1) := by decide +kernel
theorem dX1_tell_31 : decode cX1_tell 31 = .ok (.ireturn, 1) := by decide +kernel
theorem dX1_makePlan_0 : decode cX1_makePlan 0 = .ok (.aload_n 0, 1) := by decide +kernel
theorem dX1_makePlan_1 : decode cX1_makePlan 1 = .ok (.invokevirtual 75, 3) := by decide +kernel
theorem dX1_makePlan_4 : decode cX1_makePlan 4 = .ok (.ifCond .ne 5, 3) := by decide +kernel
theorem dX1_makePlan_7 : decode cX1_makePlan 7 = .ok (.iconst (-1), 1) := by decide +kernel
theorem dX1_makePlan_8 : decode cX1_makePlan 8 = .ok (.ireturn, 1) := by decide +kernel
theorem dX1_makePlan_9 : decode cX1_makePlan 9 = .ok (.aload_n 0, 1) := by decide +kernel
theorem dX1_makePlan_10 : decode cX1_makePlan 10 = .ok (.getfield 21, 3) := by decide +kernel
theorem dX1_makePlan_13 : decode cX1_makePlan 13 = .ok (.ifCond .ne 18, 3) := by decide +kernel
theorem dX1_makePlan_16 : decode cX1_makePlan 16 = .ok (.aload_n 0, 1) := by decide +kernel
theorem dX1_makePlan_17 : decode cX1_makePlan 17 = .ok (.iconst 0, 1) := by decide +kernel
theorem dX1_makePlan_18 : decode cX1_makePlan 18 = .ok (.putfield 60, 3) := by decide +kernel
theorem dX1_makePlan_21 : decode cX1_makePlan 21 = .ok (.aload_n 0, 1) := by decide +kernel
theorem dX1_makePlan_22 : decode cX1_makePlan 22 = .ok (.getfield 63, 3) := by decide +kernel
theorem dX1_makePlan_25 : decode cX1_makePlan 25 = .ok (.getfield 79, 3) := by decide +kernel
theorem dX1_makePlan_28 : decode cX1_makePlan 28 = .ok (.iconst 1, 1) := by decide +kernel
theorem dX1_makePlan_29 : decode cX1_makePlan 29 = .ok (.isub, 1) := by decide +kernel
theorem dX1_makePlan_30 : decode cX1_makePlan 30 = .ok (.ireturn, 1) := by decide +kernel
theorem dX1_makePlan_31 : decode cX1_makePlan 31 = .ok (.aload_n 0, 1) := by decide +kernel
theorem dX1_makePlan_32 : decode cX1_makePlan 32 = .ok (.invokevirtual 84, 3) := by decide +kernel
theorem dX1_makePlan_35 : decode cX1_makePlan 35 = .ok (.aload_n 0, 1) := by decide +kernel
theorem dX1_makePlan_36 : decode cX1_makePlan 36 = .ok (.sipush 3001, 3) := by decide +kernel
theorem dX1_makePlan_39 : decode cX1_makePlan 39 = .ok (.putfield 51, 3) := by decide +kernel
theorem dX1_makePlan_42 : decode cX1_makePlan 42 = .ok (.aload_n 0, 1) := by decide +kernel
theorem dX1_makePlan_43 : decode cX1_makePlan 43 = .ok (.invokevirtual 87, 3) := by decide +kernel
theorem dX1_makePlan_46 : decode cX1_makePlan 46 = .ok (.ifCond .ne 5, 3) := by decide +kernel
theorem dX1_makePlan_49 : decode cX1_makePlan 49 = .ok (.iconst (-1), 1) := by decide +kernel
theorem dX1_makePlan_50 : decode cX1_makePlan 50 = .ok (.ireturn, 1) := by decide +kernel
theorem dX1_makePlan_51 : decode cX1_makePlan 51 = .ok (.aload_n 0, 1) := by decide +kernel
theorem dX1_makePlan_52 : decode cX1_makePlan 52 = .ok (.iconst 0, 1) := by decide +kernel
theorem dX1_makePlan_53 : decode cX1_makePlan 53 = .ok (.iconst 0, 1) := by decide +kernel
theorem dX1_makePlan_54 : decode cX1_makePlan 54 = .ok (.iconst (-1), 1) := by decide +kernel
theorem dX1_makePlan_55 : decode cX1_makePlan 55 = .ok (.invokevirtual 90, 3) := by decide +kernel
theorem dX1_makePlan_58 : decode cX1_makePlan 58 = .ok (.aload_n 0, 1) := by decide +kernel
theorem dX1_makePlan_59 : decode cX1_makePlan 59 = .ok (.getfield 51, 3) := by decide +kernel
theorem dX1_makePlan_62 : decode cX1_makePlan 62 = .ok (.sipush 3000, 3) := by decide +kernel
theorem dX1_makePlan_65 : decode cX1_makePlan 65 = .ok (.if_icmp .gt 12, 3) := by decide +kernel
theorem dX1_makePlan_68 : decode cX1_makePlan 68 = .ok (.aload_n 0, 1) := by decide +kernel
theorem dX1_makePlan_69 : decode cX1_makePlan 69 = .ok (.iconst 0, 1) := by decide +kernel
theorem dX1_makePlan_70 : decode cX1_makePlan 70 = .ok (.iconst 0, 1) := by decide +kernel
theorem dX1_makePlan_71 : decode cX1_makePlan 71 = .ok (.invokevirtual 94, 3) := by decide +kernel
theorem dX1_makePlan_74 : decode cX1_makePlan 74 = .ok (.ifCond .ne 5, 3) := by decide +kernel
theorem dX1_makePlan_77 : decode cX1_makePlan 77 = .ok (.iconst (-1), 1) := by decide +kernel
theorem dX1_makePlan_78 : decode cX1_makePlan 78 = .ok (.ireturn, 1) := by decide +kernel
theorem dX1_makePlan_79 : decode cX1_makePlan 79 = .ok (.aload_n 0, 1) := by decide +kernel
theorem dX1_makePlan_80 : decode cX1_makePlan 80 = .ok (.invokevirtual 98, 3) := by decide +kernel
theorem dX1_makePlan_83 : decode cX1_makePlan 83 = .ok (.aload_n 0, 1) := by decide +kernel
theorem dX1_makePlan_84 : decode cX1_makePlan 84 = .ok (.getfield 51, 3) := by decide +kernel
theorem dX1_makePlan_87 : decode cX1_makePlan 87 = .ok (.ireturn, 1) := by decide +kernel
theorem dX1_gatherStones_0 : decode cX1_gatherStones 0 = .ok (.aload_n 0, 1) := by decide +kernel
theorem dX1_gatherStones_1 : decode cX1_gatherStones 1 = .ok (.iconst 0, 1) := by decide +kernel
theorem dX1_gatherStones_2 : decode cX1_gatherStones 2 = .ok (.putfield 21, 3) := by decide +kernel
theorem dX1_gatherStones_5 : decode cX1_gatherStones 5 = .ok (.iconst 0, 1) := by decide +kernel
theorem dX1_gatherStones_6 : decode cX1_gatherStones 6 = .ok (.istore_n 1, 1) := by decide +kernel
theorem dX1_gatherStones_7 : decode cX1_gatherStones 7 = .ok (.iload_n 1, 1) := by decide +kernel
theorem dX1_gatherStones_8 : decode cX1_gatherStones 8 = .ok (.aload_n 0, 1) := by decide +kernel
theorem dX1_gatherStones_9 : decode cX1_gatherStones 9 = .ok (.getfield 63, 3) := by decide +kernel
theorem dX1_gatherStones_12 : decode cX1_gatherStones 12 = .ok (.getfield 101, 3) := by decide +kernel
theorem dX1_gatherStones_15 : decode cX1_gatherStones 15 = .ok (.if_icmp .ge 80, 3) := by decide +kernel
theorem dX1_gatherStones_18 : decode cX1_gatherStones 18 = .ok (.aload_n 0, 1) := by decide +kernel
theorem dX1_gatherStones_19 : decode cX1_gatherStones 19 = .ok (.getfield 63, 3) := by decide +kernel
theorem dX1_gatherStones_22 : decode cX1_gatherStones 22 = .ok (.iload_n 1, 1) := by decide +kernel
theorem dX1_gatherStones_23 : decode cX1_gatherStones 23 = .ok (.invokevirtual 104, 3) := by decide +kernel
theorem dX1_gatherStones_26 : decode cX1_gatherStones 26 = .ok (.astore_n 2, 1) := by decide +kernel
theorem dX1_gatherStones_27 : decode cX1_gatherStones 27 = .ok (.aload_n 2, 1) := by decide +kernel
theorem dX1_gatherStones_28 : decode cX1_gatherStones 28 = .ok (.ifnull 61, 3) := by decide +kernel
theorem dX1_gatherStones_31 : decode cX1_gatherStones 31 = .ok (.aload_n 2, 1) := by decide +kernel
theorem dX1_gatherStones_32 : decode cX1_gatherStones 32 = .ok (.invokevirtual 108, 3) := by decide +kernel
theorem dX1_gatherStones_35 : decode cX1_gatherStones 35 = .ok (.ifCond .eq 6, 3) := by decide +kernel
theorem dX1_gatherStones_38 : decode cX1_gatherStones 38 = .ok (.goto 51, 3) := by decide +kernel
theorem dX1_gatherStones_41 : decode cX1_gatherStones 41 = .ok (.aload_n 2, 1) := by decide +kernel
theorem dX1_gatherStones_42 : decode cX1_gatherStones 42 = .ok (.getfield 111, 3) := by decide +kernel
theorem dX1_gatherStones_45 : decode cX1_gatherStones 45 = .ok (.iconst (-1), 1) := by decide +kernel
theorem dX1_gatherStones_46 : decode cX1_gatherStones 46 = .ok (.if_icmp .ne 11, 3) := by decide +kernel
theorem dX1_gatherStones_49 : decode cX1_gatherStones 49 = .ok (.aload_n 0, 1) := by decide +kernel
theorem dX1_gatherStones_50 : decode cX1_gatherStones 50 = .ok (.getfield 21, 3) := by decide +kernel
theorem dX1_gatherStones_53 : decode cX1_gatherStones 53 = .ok (.iconst 5, 1) := by decide +kernel
theorem dX1_gatherStones_54 : decode cX1_gatherStones 54 = .ok (.if_icmp .lt 5, 3) := by decide +kernel
theorem dX1_gatherStones_57 : decode cX1_gatherStones 57 = .ok (.iconst 0, 1) := by decide +kernel
theorem dX1_gatherStones_58 : decode cX1_gatherStones 58 = .ok (.ireturn, 1) := by decide +kernel
theorem dX1_gatherStones_59 : decode cX1_gatherStones 59 = .ok (.aload_n 0, 1) := by decide +kernel
theorem dX1_gatherStones_60 : decode cX1_gatherStones 60 = .ok (.getfield 13, 3) := by decide +kernel
theorem dX1_gatherStones_63 : decode cX1_gatherStones 63 = .ok (.aload_n 0, 1) := by decide +kernel
theorem dX1_gatherStones_64 : decode cX1_gatherStones 64 = .ok (.getfield 21, 3) := by decide +kernel
theorem dX1_gatherStones_67 : decode cX1_gatherStones 67 = .ok (.aload_n 2, 1) := by decide +kernel
theorem dX1_gatherStones_68 : decode cX1_gatherStones 68 = .ok (.aastore, 1) := by decide +kernel
theorem dX1_gatherStones_69 : decode cX1_gatherStones 69 = .ok (.aload_n 0, 1) := by decide +kernel
theorem dX1_gatherStones_70 : decode cX1_gatherStones 70 = .ok (.getfield 17, 3) := by decide +kernel
theorem dX1_gatherStones_73 : decode cX1_gatherStones 73 = .ok (.aload_n 0, 1) := by decide +kernel
theorem dX1_gatherStones_74 : decode cX1_gatherStones 74 = .ok (.getfield 21, 3) := by decide +kernel
theorem dX1_gatherStones_77 : decode cX1_gatherStones 77 = .ok (.iload_n 1, 1) := by decide +kernel
theorem dX1_gatherStones_78 : decode cX1_gatherStones 78 = .ok (.iastore, 1) := by decide +kernel
theorem dX1_gatherStones_79 : decode cX1_gatherStones 79 = .ok (.aload_n 0, 1) := by decide +kernel
theorem dX1_gatherStones_80 : decode cX1_gatherStones 80 = .ok (.dup, 1) := by decide +kernel
theorem dX1_gatherStones_81 : decode cX1_gatherStones 81 = .ok (.getfield 21, 3) := by decide +kernel
theorem dX1_gatherStones_84 : decode cX1_gatherStones 84 = .ok (.iconst 1, 1) := by decide +kernel
theorem dX1_gatherStones_85 : decode cX1_gatherStones 85 = .ok (.iadd, 1) := by decide +kernel
theorem dX1_gatherStones_86 : decode cX1_gatherStones 86 = .ok (.putfield 21, 3) := by decide +kernel
theorem dX1_gatherStones_89 : decode cX1_gatherStones 89 = .ok (.iinc 1 1, 3) := by decide +kernel
theorem dX1_gatherStones_92 : decode cX1_gatherStones 92 = .ok (.goto (-85), 3) := by decide +kernel
theorem dX1_gatherStones_95 : decode cX1_gatherStones 95 = .ok (.iconst 1, 1) := by decide +kernel
theorem dX1_gatherStones_96 : decode cX1_gatherStones 96 = .ok (.ireturn, 1) := by decide +kernel
theorem dX1_prepareWorks_0 : decode cX1_prepareWorks 0 = .ok (.iconst 0, 1) := by decide +kernel
theorem dX1_prepareWorks_1 : decode cX1_prepareWorks 1 = .ok (.istore_n 1, 1) := by decide +kernel
theorem dX1_prepareWorks_2 : decode cX1_prepareWorks 2 = .ok (.iload_n 1, 1) := by decide +kernel
theorem dX1_prepareWorks_3 : decode cX1_prepareWorks 3 = .ok (.bipush 6, 2) := by decide +kernel
theorem dX1_prepareWorks_5 : decode cX1_prepareWorks 5 = .ok (.if_icmp .ge 22, 3) := by decide +kernel
theorem dX1_prepareWorks_8 : decode cX1_prepareWorks 8 = .ok (.aload_n 0, 1) := by decide +kernel
theorem dX1_prepareWorks_9 : decode cX1_prepareWorks 9 = .ok (.getfield 48, 3) := by decide +kernel
theorem dX1_prepareWorks_12 : decode cX1_prepareWorks 12 = .ok (.iload_n 1, 1) := by decide +kernel
theorem dX1_prepareWorks_13 : decode cX1_prepareWorks 13 = .ok (.aload_n 0, 1) := by decide +kernel
theorem dX1_prepareWorks_14 : decode cX1_prepareWorks 14 = .ok (.getfield 63, 3) := by decide +kernel
theorem dX1_prepareWorks_17 : decode cX1_prepareWorks 17 = .ok (.getfield 79, 3) := by decide +kernel
theorem dX1_prepareWorks_20 : decode cX1_prepareWorks 20 = .ok (.iastore, 1) := by decide +kernel
theorem dX1_prepareWorks_21 : decode cX1_prepareWorks 21 = .ok (.iinc 1 1, 3) := by decide +kernel
theorem dX1_prepareWorks_24 : decode cX1_prepareWorks 24 = .ok (.goto (-22), 3) := by decide +kernel
theorem dX1_prepareWorks_27 : decode cX1_prepareWorks 27 = .ok (.iconst 0, 1) := by decide +kernel
theorem dX1_prepareWorks_28 : decode cX1_prepareWorks 28 = .ok (.istore_n 1, 1) := by decide +kernel
theorem dX1_prepareWorks_29 : decode cX1_prepareWorks 29 = .ok (.iload_n 1, 1) := by decide +kernel
theorem dX1_prepareWorks_30 : decode cX1_prepareWorks 30 = .ok (.aload_n 0, 1) := by decide +kernel
theorem dX1_prepareWorks_31 : decode cX1_prepareWorks 31 = .ok (.getfield 21, 3) := by decide +kernel
theorem dX1_prepareWorks_34 : decode cX1_prepareWorks 34 = .ok (.if_icmp .ge 133, 3) := by decide +kernel
theorem dX1_prepareWorks_37 : decode cX1_prepareWorks 37 = .ok (.aload_n 0, 1) := by decide +kernel
theorem dX1_prepareWorks_38 : decode cX1_prepareWorks 38 = .ok (.getfield 13, 3) := by decide +kernel
theorem dX1_prepareWorks_41 : decode cX1_prepareWorks 41 = .ok (.iload_n 1, 1) := by decide +kernel
theorem dX1_prepareWorks_42 : decode cX1_prepareWorks 42 = .ok (.aaload, 1) := by decide +kernel
theorem dX1_prepareWorks_43 : decode cX1_prepareWorks 43 = .ok (.astore_n 2, 1) := by decide +kernel
theorem dX1_prepareWorks_44 : decode cX1_prepareWorks 44 = .ok (.aload_n 0, 1) := by decide +kernel
theorem dX1_prepareWorks_45 : decode cX1_prepareWorks 45 = .ok (.getfield 30, 3) := by decide +kernel
theorem dX1_prepareWorks_48 : decode cX1_prepareWorks 48 = .ok (.iload_n 1, 1) := by decide +kernel
theorem dX1_prepareWorks_49 : decode cX1_prepareWorks 49 = .ok (.aload_n 2, 1) := by decide +kernel
theorem dX1_prepareWorks_50 : decode cX1_prepareWorks 50 = .ok (.getfield 114, 3) := by decide +kernel
theorem dX1_prepareWorks_53 : decode cX1_prepareWorks 53 = .ok (.iconst 3, 1) := by decide +kernel
theorem dX1_prepareWorks_54 : decode cX1_prepareWorks 54 = .ok (.if_icmp .gt 12, 3) := by decide +kernel
theorem dX1_prepareWorks_57 : decode cX1_prepareWorks 57 = .ok (.aload_n 2, 1) := by decide +kernel
theorem dX1_prepareWorks_58 : decode cX1_prepareWorks 58 = .ok (.getfield 117, 3) := by decide +kernel
theorem dX1_prepareWorks_61 : decode cX1_prepareWorks 61 = .ok (.iconst 1, 1) := by decide +kernel
theorem dX1_prepareWorks_62 : decode cX1_prepareWorks 62 = .ok (.iadd, 1) := by decide +kernel
theorem dX1_prepareWorks_63 : decode cX1_prepareWorks 63 = .ok (.goto 4, 3) := by decide +kernel
theorem dX1_prepareWorks_66 : decode cX1_prepareWorks 66 = .ok (.iconst 0, 1) := by decide +kernel
theorem dX1_prepareWorks_67 : decode cX1_prepareWorks 67 = .ok (.iastore, 1) := by decide +kernel
theorem dX1_prepareWorks_68 : decode cX1_prepareWorks 68 = .ok (.aload_n 0, 1) := by decide +kernel
theorem dX1_prepareWorks_69 : decode cX1_prepareWorks 69 = .ok (.getfield 45, 3) := by decide +kernel
theorem dX1_prepareWorks_72 : decode cX1_prepareWorks 72 = .ok (.iload_n 1, 1) := by decide +kernel
theorem dX1_prepareWorks_73 : decode cX1_prepareWorks 73 = .ok (.iconst (-1), 1) := by decide +kernel
theorem dX1_prepareWorks_74 : decode cX1_prepareWorks 74 = .ok (.iastore, 1) := by decide +kernel
theorem dX1_prepareWorks_75 : decode cX1_prepareWorks 75 = .ok (.aload_n 0, 1) := by decide +kernel
theorem dX1_prepareWorks_76 : decode cX1_prepareWorks 76 = .ok (.getfield 33, 3) := by decide +kernel
theorem dX1_prepareWorks_79 : decode cX1_prepareWorks 79 = .ok (.iload_n 1, 1) := by decide +kernel
theorem dX1_prepareWorks_80 : decode cX1_prepareWorks 80 = .ok (.iconst 0, 1) := by decide +kernel
theorem dX1_prepareWorks_81 : decode cX1_prepareWorks 81 = .ok (.iastore, 1) := by decide +kernel
theorem dX1_prepareWorks_82 : decode cX1_prepareWorks 82 = .ok (.iconst 0, 1) := by decide +kernel
theorem dX1_prepareWorks_83 : decode cX1_prepareWorks 83 = .ok (.istore_n 3, 1) := by decide +kernel
theorem dX1_prepareWorks_84 : decode cX1_prepareWorks 84 = .ok (.iload_n 3, 1) := by decide +kernel
theorem dX1_prepareWorks_85 : decode cX1_prepareWorks 85 = .ok (.aload_n 0, 1) := by decide +kernel
theorem dX1_prepareWorks_86 : decode cX1_prepareWorks 86 = .ok (.getfield 21, 3) := by decide +kernel
theorem dX1_prepareWorks_89 : decode cX1_prepareWorks 89 = .ok (.if_icmp .ge 37, 3) := by decide +kernel
theorem dX1_prepareWorks_92 : decode cX1_prepareWorks 92 = .ok (.aload_n 0, 1) := by decide +kernel
theorem dX1_prepareWorks_93 : decode cX1_prepareWorks 93 = .ok (.getfield 13, 3) := by decide +kernel
theorem dX1_prepareWorks_96 : decode cX1_prepareWorks 96 = .ok (.iload_n 3, 1) := by decide +kernel
theorem dX1_prepareWorks_97 : decode cX1_prepareWorks 97 = .ok (.aaload, 1) := by decide +kernel
theorem dX1_prepareWorks_98 : decode cX1_prepareWorks 98 = .ok (.getfield 117, 3) := by decide +kernel
theorem dX1_prepareWorks_101 : decode cX1_prepareWorks 101 = .ok (.aload_n 2, 1) := by decide +kernel
theorem dX1_prepareWorks_102 : decode cX1_prepareWorks 102 = .ok (.getfield 117, 3) := by decide +kernel
theorem dX1_prepareWorks_105 : decode cX1_prepareWorks 105 = .ok (.if_icmp .ge 15, 3) := by decide +kernel
theorem dX1_prepareWorks_108 : decode cX1_prepareWorks 108 = .ok (.aload_n 0, 1) := by decide +kernel
theorem dX1_prepareWorks_109 : decode cX1_prepareWorks 109 = .ok (.getfield 33, 3) := by decide +kernel
theorem dX1_prepareWorks_112 : decode cX1_prepareWorks 112 = .ok (.iload_n 1, 1) := by decide +kernel
theorem dX1_prepareWorks_113 : decode cX1_prepareWorks 113 = .ok (.dup2, 1) := by decide +kernel
theorem dX1_prepareWorks_114 : decode cX1_prepareWorks 114 = .ok (.iaload, 1) := by decide +kernel
theorem dX1_prepareWorks_115 : decode cX1_prepareWorks 115 = .ok (.iconst 1, 1) := by decide +kernel
theorem dX1_prepareWorks_116 : decode cX1_prepareWorks 116 = .ok (.iload_n 3, 1) := by decide +kernel
theorem dX1_prepareWorks_117 : decode cX1_prepareWorks 117 = .ok (.ishl, 1) := by decide +kernel
theorem dX1_prepareWorks_118 : decode cX1_prepareWorks 118 = .ok (.ior, 1) := by decide +kernel
theorem dX1_prepareWorks_119 : decode cX1_prepareWorks 119 = .ok (.iastore, 1) := by decide +kernel
theorem dX1_prepareWorks_120 : decode cX1_prepareWorks 120 = .ok (.iinc 3 1, 3) := by decide +kernel
theorem dX1_prepareWorks_123 : decode cX1_prepareWorks 123 = .ok (.goto (-39), 3) := by decide +kernel
theorem dX1_prepareWorks_126 : decode cX1_prepareWorks 126 = .ok (.iconst 0, 1) := by decide +kernel
theorem dX1_prepareWorks_127 : decode cX1_prepareWorks 127 = .ok (.istore_n 3, 1) := by decide +kernel
theorem dX1_prepareWorks_128 : decode cX1_prepareWorks 128 = .ok (.iload_n 3, 1) := by decide +kernel
theorem dX1_prepareWorks_129 : decode cX1_prepareWorks 129 = .ok (.bipush 6, 2) := by decide +kernel
theorem dX1_prepareWorks_131 : decode cX1_prepareWorks 131 = .ok (.if_icmp .ge 30, 3) := by decide +kernel
theorem dX1_prepareWorks_134 : decode cX1_prepareWorks 134 = .ok (.aload_n 0, 1) := by decide +kernel
theorem dX1_prepareWorks_135 : decode cX1_prepareWorks 135 = .ok (.getfield 27, 3) := by decide +kernel
theorem dX1_prepareWorks_138 : decode cX1_prepareWorks 138 = .ok (.iload_n 1, 1) := by decide +kernel
theorem dX1_prepareWorks_139 : decode cX1_prepareWorks 139 = .ok (.aaload, 1) := by decide +kernel
theorem dX1_prepareWorks_140 : decode cX1_prepareWorks 140 = .ok (.iload_n 3, 1) := by decide +kernel
theorem dX1_prepareWorks_141 : decode cX1_prepareWorks 141 = .ok (.aload_n 0, 1) := by decide +kernel
theorem dX1_prepareWorks_142 : decode cX1_prepareWorks 142 = .ok (.aload_n 2, 1) := by decide +kernel
theorem dX1_prepareWorks_143 : decode cX1_prepareWorks 143 = .ok (.aload_n 0, 1) := by decide +kernel
theorem dX1_prepareWorks_144 : decode cX1_prepareWorks 144 = .ok (.getfield 63, 3) := by decide +kernel
theorem dX1_prepareWorks_147 : decode cX1_prepareWorks 147 = .ok (.iload_n 3, 1) := by decide +kernel
theorem dX1_prepareWorks_148 : decode cX1_prepareWorks 148 = .ok (.invokevirtual 120, 3) := by decide +kernel
theorem dX1_prepareWorks_151 : decode cX1_prepareWorks 151 = .ok (.invokevirtual 124, 3) := by decide +kernel
theorem dX1_prepareWorks_154 : decode cX1_prepareWorks 154 = .ok (.iastore, 1) := by decide +kernel
theorem dX1_prepareWorks_155 : decode cX1_prepareWorks 155 = .ok (.iinc 3 1, 3) := by decide +kernel
theorem dX1_prepareWorks_158 : decode cX1_prepareWorks 158 = .ok (.goto (-30), 3) := by decide +kernel
theorem dX1_prepareWorks_161 : decode cX1_prepareWorks 161 = .ok (.iinc 1 1, 3) := by decide +kernel
theorem dX1_prepareWorks_164 : decode cX1_prepareWorks 164 = .ok (.goto (-135), 3) := by decide +kernel
theorem dX1_prepareWorks_167 : decode cX1_prepareWorks 167 = .ok (.return_, 1) := by decide +kernel
theorem dX1_leadOf_0 : decode cX1_leadOf 0 = .ok (.aload_n 2, 1) := by decide +kernel
theorem dX1_leadOf_1 : decode cX1_leadOf 1 = .ok (.ifnull 23, 3) := by decide +kernel
theorem dX1_leadOf_4 : decode cX1_leadOf 4 = .ok (.aload_n 2, 1) := by decide +kernel
theorem dX1_leadOf_5 : decode cX1_leadOf 5 = .ok (.getfield 128, 3) := by decide +kernel
theorem dX1_leadOf_8 : decode cX1_leadOf 8 = .ok (.iconst (-1), 1) := by decide +kernel
theorem dX1_leadOf_9 : decode cX1_leadOf 9 = .ok (.if_icmp .ne 15, 3) := by decide +kernel
theorem dX1_leadOf_12 : decode cX1_leadOf 12 = .ok (.aload_n 0, 1) := by decide +kernel
theorem dX1_leadOf_13 : decode cX1_leadOf 13 = .ok (.aload_n 1, 1) := by decide +kernel
theorem dX1_leadOf_14 : decode cX1_leadOf 14 = .ok (.invokevirtual 133, 3) := by decide +kernel
theorem dX1_leadOf_17 : decode cX1_leadOf 17 = .ok (.aload_n 2, 1) := by decide +kernel
theorem dX1_leadOf_18 : decode cX1_leadOf 18 = .ok (.getfield 137, 3) := by decide +kernel
theorem dX1_leadOf_21 : decode cX1_leadOf 21 = .ok (.if_icmp .le 5, 3) := by decide +kernel
theorem dX1_leadOf_24 : decode cX1_leadOf 24 = .ok (.iconst (-1), 1) := by decide +kernel
theorem dX1_leadOf_25 : decode cX1_leadOf 25 = .ok (.ireturn, 1) := by decide +kernel
theorem dX1_leadOf_26 : decode cX1_leadOf 26 = .ok (.aload_n 1, 1) := by decide +kernel
theorem dX1_leadOf_27 : decode cX1_leadOf 27 = .ok (.getfield 114, 3) := by decide +kernel
theorem dX1_leadOf_30 : decode cX1_leadOf 30 = .ok (.iconst 3, 1) := by decide +kernel
theorem dX1_leadOf_31 : decode cX1_leadOf 31 = .ok (.if_icmp .gt 19, 3) := by decide +kernel
theorem dX1_leadOf_34 : decode cX1_leadOf 34 = .ok (.aload_n 0, 1) := by decide +kernel
theorem dX1_leadOf_35 : decode cX1_leadOf 35 = .ok (.getfield 63, 3) := by decide +kernel
theorem dX1_leadOf_38 : decode cX1_leadOf 38 = .ok (.getfield 140, 3) := by decide +kernel
theorem dX1_leadOf_41 : decode cX1_leadOf 41 = .ok (.aload_n 1, 1) := by decide +kernel
theorem dX1_leadOf_42 : decode cX1_leadOf 42 = .ok (.getfield 117, 3) := by decide +kernel
theorem dX1_leadOf_45 : decode cX1_leadOf 45 = .ok (.if_icmp .gt 5, 3) := by decide +kernel
theorem dX1_leadOf_48 : decode cX1_leadOf 48 = .ok (.iconst (-1), 1) := by decide +kernel
theorem dX1_leadOf_49 : decode cX1_leadOf 49 = .ok (.ireturn, 1) := by decide +kernel
theorem dX1_leadOf_50 : decode cX1_leadOf 50 = .ok (.iconst 0, 1) := by decide +kernel
theorem dX1_leadOf_51 : decode cX1_leadOf 51 = .ok (.istore_n 3, 1) := by decide +kernel
theorem dX1_leadOf_52 : decode cX1_leadOf 52 = .ok (.aload_n 1, 1) := by decide +kernel
theorem dX1_leadOf_53 : decode cX1_leadOf 53 = .ok (.getfield 114, 3) := by decide +kernel
theorem dX1_leadOf_56 : decode cX1_leadOf 56 = .ok (.ifCond .gt 26, 3) := by decide +kernel
theorem dX1_leadOf_59 : decode cX1_leadOf 59 = .ok (.iload_n 3, 1) := by decide +kernel
theorem dX1_leadOf_60 : decode cX1_leadOf 60 = .ok (.aload_n 1, 1) := by decide +kernel
theorem dX1_leadOf_61 : decode cX1_leadOf 61 = .ok (.getfield 143, 3) := by decide +kernel
theorem dX1_leadOf_64 : decode cX1_leadOf 64 = .ok (.aload_n 0, 1) := by decide +kernel
theorem dX1_leadOf_65 : decode cX1_leadOf 65 = .ok (.getfield 67, 3) := by decide +kernel
theorem dX1_leadOf_68 : decode cX1_leadOf 68 = .ok (.iconst 4, 1) := by decide +kernel
theorem dX1_leadOf_69 : decode cX1_leadOf 69 = .ok (.invokevirtual 146, 3) := by decide +kernel
theorem dX1_leadOf_72 : decode cX1_leadOf 72 = .ok (.imul, 1) := by decide +kernel
theorem dX1_leadOf_73 : decode cX1_leadOf 73 = .ok (.aload_n 2, 1) := by decide +kernel
theorem dX1_leadOf_74 : decode cX1_leadOf 74 = .ok (.getfield 137, 3) := by decide +kernel
theorem dX1_leadOf_77 : decode cX1_leadOf 77 = .ok (.invokestatic 152, 3) := by decide +kernel
theorem dX1_leadOf_80 : decode cX1_leadOf 80 = .ok (.iadd, 1) := by decide +kernel
theorem dX1_leadOf_81 : decode cX1_leadOf 81 = .ok (.istore_n 3, 1) := by decide +kernel
theorem dX1_leadOf_82 : decode cX1_leadOf 82 = .ok (.aload_n 1, 1) := by decide +kernel
theorem dX1_leadOf_83 : decode cX1_leadOf 83 = .ok (.getfield 114, 3) := by decide +kernel
theorem dX1_leadOf_86 : decode cX1_leadOf 86 = .ok (.iconst 1, 1) := by decide +kernel
theorem dX1_leadOf_87 : decode cX1_leadOf 87 = .ok (.if_icmp .gt 14, 3) := by decide +kernel
theorem dX1_leadOf_90 : decode cX1_leadOf 90 = .ok (.iload_n 3, 1) := by decide +kernel
theorem dX1_leadOf_91 : decode cX1_leadOf 91 = .ok (.aload_n 0, 1) := by decide +kernel
theorem dX1_leadOf_92 : decode cX1_leadOf 92 = .ok (.getfield 67, 3) := by decide +kernel
theorem dX1_leadOf_95 : decode cX1_leadOf 95 = .ok (.iconst 5, 1) := by decide +kernel
theorem dX1_leadOf_96 : decode cX1_leadOf 96 = .ok (.invokevirtual 146, 3) := by decide +kernel
theorem dX1_leadOf_99 : decode cX1_leadOf 99 = .ok (.iadd, 1) := by decide +kernel
theorem dX1_leadOf_100 : decode cX1_leadOf 100 = .ok (.istore_n 3, 1) := by decide +kernel
theorem dX1_leadOf_101 : decode cX1_leadOf 101 = .ok (.iload_n 3, 1) := by decide +kernel
theorem dX1_leadOf_102 : decode cX1_leadOf 102 = .ok (.ireturn, 1) := by decide +kernel
theorem dX1_menWanted_0 : decode cX1_menWanted 0 = .ok (.aload_n 0, 1) := by decide +kernel
theorem dX1_menWanted_1 : decode cX1_menWanted 1 = .ok (.getfield 67, 3) := by decide +kernel
theorem dX1_menWanted_4 : decode cX1_menWanted 4 = .ok (.aload_n 1, 1) := by decide +kernel
theorem dX1_menWanted_5 : decode cX1_menWanted 5 = .ok (.getfield 143, 3) := by decide +kernel
theorem dX1_menWanted_8 : decode cX1_menWanted 8 = .ok (.iconst 0, 1) := by decide +kernel
theorem dX1_menWanted_9 : decode cX1_menWanted 9 = .ok (.invokevirtual 156, 3) := by decide +kernel
theorem dX1_menWanted_12 : decode cX1_menWanted 12 = .ok (.istore_n 2, 1) := by decide +kernel
theorem dX1_menWanted_13 : decode cX1_menWanted 13 = .ok (.aload_n 1, 1) := by decide +kernel
theorem dX1_menWanted_14 : decode cX1_menWanted 14 = .ok (.getfield 114, 3) := by decide +kernel
theorem dX1_menWanted_17 : decode cX1_menWanted 17 = .ok (.iconst 3, 1) := by decide +kernel
theorem dX1_menWanted_18 : decode cX1_menWanted 18 = .ok (.if_icmp .gt 18, 3) := by decide +kernel
theorem dX1_menWanted_21 : decode cX1_menWanted 21 = .ok (.aload_n 0, 1) := by decide +kernel
theorem dX1_menWanted_22 : decode cX1_menWanted 22 = .ok (.getfield 67, 3) := by decide +kernel
theorem dX1_menWanted_25 : decode cX1_menWanted 25 = .ok (.aload_n 1, 1) := by decide +kernel
theorem dX1_menWanted_26 : decode cX1_menWanted 26 = .ok (.getfield 143, 3) := by decide +kernel
theorem dX1_menWanted_29 : decode cX1_menWanted 29 = .ok (.iconst 2, 1) := by decide +kernel
theorem dX1_menWanted_30 : decode cX1_menWanted 30 = .ok (.invokevirtual 156, 3) := by decide +kernel
theorem dX1_menWanted_33 : decode cX1_menWanted 33 = .ok (.goto 4, 3) := by decide +kernel
theorem dX1_menWanted_36 : decode cX1_menWanted 36 = .ok (.iconst 0, 1) := by decide +kernel
theorem dX1_menWanted_37 : decode cX1_menWanted 37 = .ok (.istore_n 3, 1) := by decide +kernel
theorem dX1_menWanted_38 : decode cX1_menWanted 38 = .ok (.iload_n 2, 1) := by decide +kernel
theorem dX1_menWanted_39 : decode cX1_menWanted 39 = .ok (.iload_n 3, 1) := by decide +kernel
theorem dX1_menWanted_40 : decode cX1_menWanted 40 = .ok (.invokestatic 159, 3) := by decide +kernel
theorem dX1_menWanted_43 : decode cX1_menWanted 43 = .ok (.ireturn, 1) := by decide +kernel
theorem dX1_readyDay_0 : decode cX1_readyDay 0 = .ok (.aload_n 0, 1) := by decide +kernel
theorem dX1_readyDay_1 : decode cX1_readyDay 1 = .ok (.getfield 27, 3) := by decide +kernel
theorem dX1_readyDay_4 : decode cX1_readyDay 4 = .ok (.iload_n 1, 1) := by decide +kernel
theorem dX1_readyDay_5 : decode cX1_readyDay 5 = .ok (.aaload, 1) := by decide +kernel
theorem dX1_readyDay_6 : decode cX1_readyDay 6 = .ok (.iload_n 2, 1) := by decide +kernel
theorem dX1_readyDay_7 : decode cX1_readyDay 7 = .ok (.iaload, 1) := by decide +kernel
theorem dX1_readyDay_8 : decode cX1_readyDay 8 = .ok (.iconst (-1), 1) := by decide +kernel
theorem dX1_readyDay_9 : decode cX1_readyDay 9 = .ok (.if_icmp .ne 5, 3) := by decide +kernel
theorem dX1_readyDay_12 : decode cX1_readyDay 12 = .ok (.iconst (-1), 1) := by decide +kernel
theorem dX1_readyDay_13 : decode cX1_readyDay 13 = .ok (.ireturn, 1) := by decide +kernel
theorem dX1_readyDay_14 : decode cX1_readyDay 14 = .ok (.aload_n 0, 1) := by decide +kernel
theorem dX1_readyDay_15 : decode cX1_readyDay 15 = .ok (.getfield 48, 3) := by decide +kernel
theorem dX1_readyDay_18 : decode cX1_readyDay 18 = .ok (.iload_n 2, 1) := by decide +kernel
theorem dX1_readyDay_19 : decode cX1_readyDay 19 = .ok (.iaload, 1) := by decide +kernel
theorem dX1_readyDay_20 : decode cX1_readyDay 20 = .ok (.aload_n 0, 1) := by decide +kernel
theorem dX1_readyDay_21 : decode cX1_readyDay 21 = .ok (.getfield 27, 3) := by decide +kernel
theorem dX1_readyDay_24 : decode cX1_readyDay 24 = .ok (.iload_n 1, 1) := by decide +kernel
theorem dX1_readyDay_25 : decode cX1_readyDay 25 = .ok (.aaload, 1) := by decide +kernel
theorem dX1_readyDay_26 : decode cX1_readyDay 26 = .ok (.iload_n 2, 1) := by decide +kernel
theorem dX1_readyDay_27 : decode cX1_readyDay 27 = .ok (.iaload, 1) := by decide +kernel
theorem dX1_readyDay_28 : decode cX1_readyDay 28 = .ok (.iadd, 1) := by decide +kernel
theorem dX1_readyDay_29 : decode cX1_readyDay 29 = .ok (.istore_n 3, 1) := by decide +kernel
theorem dX1_readyDay_30 : decode cX1_readyDay 30 = .ok (.aload_n 0, 1) := by decide +kernel
theorem dX1_readyDay_31 : decode cX1_readyDay 31 = .ok (.getfield 13, 3) := by decide +kernel
theorem dX1_readyDay_34 : decode cX1_readyDay 34 = .ok (.iload_n 1, 1) := by decide +kernel
theorem dX1_readyDay_35 : decode cX1_readyDay 35 = .ok (.aaload, 1) := by decide +kernel
theorem dX1_readyDay_36 : decode cX1_readyDay 36 = .ok (.getfield 114, 3) := by decide +kernel
theorem dX1_readyDay_39 : decode cX1_readyDay 39 = .ok (.iconst 2, 1) := by decide +kernel
theorem dX1_readyDay_40 : decode cX1_readyDay 40 = .ok (.if_icmp .gt 40, 3) := by decide +kernel
theorem dX1_readyDay_43 : decode cX1_readyDay 43 = .ok (.aload_n 0, 1) := by decide +kernel
theorem dX1_readyDay_44 : decode cX1_readyDay 44 = .ok (.getfield 67, 3) := by decide +kernel
theorem dX1_readyDay_47 : decode cX1_readyDay 47 = .ok (.bipush 6, 2) := by decide +kernel
theorem dX1_readyDay_49 : decode cX1_readyDay 49 = .ok (.invokevirtual 146, 3) := by decide +kernel
theorem dX1_readyDay_52 : decode cX1_readyDay 52 = .ok (.istore 4, 2) := by decide +kernel
theorem dX1_readyDay_54 : decode cX1_readyDay 54 = .ok (.aload_n 0, 1) := by decide +kernel
theorem dX1_readyDay_55 : decode cX1_readyDay 55 = .ok (.getfield 71, 3) := by decide +kernel
theorem dX1_readyDay_58 : decode cX1_readyDay 58 = .ok (.iload_n 3, 1) := by decide +kernel
theorem dX1_readyDay_59 : decode cX1_readyDay 59 = .ok (.iload 4, 2) := by decide +kernel
theorem dX1_readyDay_61 : decode cX1_readyDay 61 = .ok (.invokevirtual 164, 3) := by decide +kernel
theorem dX1_readyDay_64 : decode cX1_readyDay 64 = .ok (.istore 5, 2) := by decide +kernel
theorem dX1_readyDay_66 : decode cX1_readyDay 66 = .ok (.iload 5, 2) := by decide +kernel
theorem dX1_readyDay_68 : decode cX1_readyDay 68 = .ok (.iconst (-1), 1) := by decide +kernel
theorem dX1_readyDay_69 : decode cX1_readyDay 69 = .ok (.if_icmp .ne 5, 3) := by decide +kernel
theorem dX1_readyDay_72 : decode cX1_readyDay 72 = .ok (.iconst (-1), 1) := by decide +kernel
theorem dX1_readyDay_73 : decode cX1_readyDay 73 = .ok (.ireturn, 1) := by decide +kernel
theorem dX1_readyDay_74 : decode cX1_readyDay 74 = .ok (.iload 5, 2) := by decide +kernel
theorem dX1_readyDay_76 : decode cX1_readyDay 76 = .ok (.iload 4, 2) := by decide +kernel
theorem dX1_readyDay_78 : decode cX1_readyDay 78 = .ok (.iadd, 1) := by decide +kernel
theorem dX1_readyDay_79 : decode cX1_readyDay 79 = .ok (.istore_n 3, 1) := by decide +kernel
theorem dX1_readyDay_80 : decode cX1_readyDay 80 = .ok (.iload_n 3, 1) := by decide +kernel
theorem dX1_readyDay_81 : decode cX1_readyDay 81 = .ok (.aload_n 0, 1) := by decide +kernel
theorem dX1_readyDay_82 : decode cX1_readyDay 82 = .ok (.getfield 30, 3) := by decide +kernel
theorem dX1_readyDay_85 : decode cX1_readyDay 85 = .ok (.iload_n 1, 1) := by decide +kernel
theorem dX1_readyDay_86 : decode cX1_readyDay 86 = .ok (.iaload, 1) := by decide +kernel
theorem dX1_readyDay_87 : decode cX1_readyDay 87 = .ok (.iadd, 1) := by decide +kernel
theorem dX1_readyDay_88 : decode cX1_readyDay 88 = .ok (.istore_n 3, 1) := by decide +kernel
theorem dX1_readyDay_89 : decode cX1_readyDay 89 = .ok (.iload_n 3, 1) := by decide +kernel
theorem dX1_readyDay_90 : decode cX1_readyDay 90 = .ok (.sipush 3000, 3) := by decide +kernel
theorem dX1_readyDay_93 : decode cX1_readyDay 93 = .ok (.if_icmp .le 7, 3) := by decide +kernel
theorem dX1_readyDay_96 : decode cX1_readyDay 96 = .ok (.iconst (-1), 1) := by decide +kernel
theorem dX1_readyDay_97 : decode cX1_readyDay 97 = .ok (.goto 4, 3) := by decide +kernel
theorem dX1_readyDay_100 : decode cX1_readyDay 100 = .ok (.iload_n 3, 1) := by decide +kernel
theorem dX1_readyDay_101 : decode cX1_readyDay 101 = .ok (.ireturn, 1) := by decide +kernel
theorem dX1_layDay_0 : decode cX1_layDay 0 = .ok (.aload_n 0, 1) := by decide +kernel
theorem dX1_layDay_1 : decode cX1_layDay 1 = .ok (.iload_n 1, 1) := by decide +kernel
theorem dX1_layDay_2 : decode cX1_layDay 2 = .ok (.iload_n 2, 1) := by decide +kernel
theorem dX1_layDay_3 : decode cX1_layDay 3 = .ok (.invokevirtual 169, 3) := by decide +kernel
theorem dX1_layDay_6 : decode cX1_layDay 6 = .ok (.istore_n 3, 1) := by decide +kernel
theorem dX1_layDay_7 : decode cX1_layDay 7 = .ok (.iconst 0, 1) := by decide +kernel
theorem dX1_layDay_8 : decode cX1_layDay 8 = .ok (.istore 4, 2) := by decide +kernel
theorem dX1_layDay_10 : decode cX1_layDay 10 = .ok (.iload 4, 2) := by decide +kernel
theorem dX1_layDay_12 : decode cX1_layDay 12 = .ok (.aload_n 0, 1) := by decide +kernel
theorem dX1_layDay_13 : decode cX1_layDay 13 = .ok (.getfield 21, 3) := by decide +kernel
theorem dX1_layDay_16 : decode cX1_layDay 16 = .ok (.if_icmp .ge 71, 3) := by decide +kernel
theorem dX1_layDay_19 : decode cX1_layDay 19 = .ok (.iload_n 3, 1) := by decide +kernel
theorem dX1_layDay_20 : decode cX1_layDay 20 = .ok (.iconst (-1), 1) := by decide +kernel
theorem dX1_layDay_21 : decode cX1_layDay 21 = .ok (.if_icmp .eq 66, 3) := by decide +kernel
theorem dX1_layDay_24 : decode cX1_layDay 24 = .ok (.aload_n 0, 1) := by decide +kernel
theorem dX1_layDay_25 : decode cX1_layDay 25 = .ok (.getfield 33, 3) := by decide +kernel
theorem dX1_layDay_28 : decode cX1_layDay 28 = .ok (.iload_n 1, 1) := by decide +kernel
theorem dX1_layDay_29 : decode cX1_layDay 29 = .ok (.iaload, 1) := by decide +kernel
theorem dX1_layDay_30 : decode cX1_layDay 30 = .ok (.iconst 1, 1) := by decide +kernel
theorem dX1_layDay_31 : decode cX1_layDay 31 = .ok (.iload 4, 2) := by decide +kernel
theorem dX1_layDay_33 : decode cX1_layDay 33 = .ok (.ishl, 1) := by decide +kernel
theorem dX1_layDay_34 : decode cX1_layDay 34 = .ok (.iand, 1) := by decide +kernel
theorem dX1_layDay_35 : decode cX1_layDay 35 = .ok (.ifCond .ne 6, 3) := by decide +kernel
theorem dX1_layDay_38 : decode cX1_layDay 38 = .ok (.goto 43, 3) := by decide +kernel
theorem dX1_layDay_41 : decode cX1_layDay 41 = .ok (.aload_n 0, 1) := by decide +kernel
theorem dX1_layDay_42 : decode cX1_layDay 42 = .ok (.getfield 45, 3) := by decide +kernel
theorem dX1_layDay_45 : decode cX1_layDay 45 = .ok (.iload 4, 2) := by decide +kernel
theorem dX1_layDay_47 : decode cX1_layDay 47 = .ok (.iaload, 1) := by decide +kernel
theorem dX1_layDay_48 : decode cX1_layDay 48 = .ok (.iconst (-1), 1) := by decide +kernel
theorem dX1_layDay_49 : decode cX1_layDay 49 = .ok (.if_icmp .eq 16, 3) := by decide +kernel
theorem dX1_layDay_52 : decode cX1_layDay 52 = .ok (.aload_n 0, 1) := by decide +kernel
theorem dX1_layDay_53 : decode cX1_layDay 53 = .ok (.getfield 45, 3) := by decide +kernel
theorem dX1_layDay_56 : decode cX1_layDay 56 = .ok (.iload 4, 2) := by decide +kernel
theorem dX1_layDay_58 : decode cX1_layDay 58 = .ok (.iaload, 1) := by decide +kernel
theorem dX1_layDay_59 : decode cX1_layDay 59 = .ok (.sipush 3000, 3) := by decide +kernel
theorem dX1_layDay_62 : decode cX1_layDay 62 = .ok (.if_icmp .lt 5, 3) := by decide +kernel
theorem dX1_layDay_65 : decode cX1_layDay 65 = .ok (.iconst (-1), 1) := by decide +kernel
theorem dX1_layDay_66 : decode cX1_layDay 66 = .ok (.ireturn, 1) := by decide +kernel
theorem dX1_layDay_67 : decode cX1_layDay 67 = .ok (.iload_n 3, 1) := by decide +kernel
theorem dX1_layDay_68 : decode cX1_layDay 68 = .ok (.aload_n 0, 1) := by decide +kernel
theorem dX1_layDay_69 : decode cX1_layDay 69 = .ok (.getfield 45, 3) := by decide +kernel
theorem dX1_layDay_72 : decode cX1_layDay 72 = .ok (.iload 4, 2) := by decide +kernel
theorem dX1_layDay_74 : decode cX1_layDay 74 = .ok (.iaload, 1) := by decide +kernel
theorem dX1_layDay_75 : decode cX1_layDay 75 = .ok (.iconst 1, 1) := by decide +kernel
theorem dX1_layDay_76 : decode cX1_layDay 76 = .ok (.iadd, 1) := by decide +kernel
theorem dX1_layDay_77 : decode cX1_layDay 77 = .ok (.invokestatic 159, 3) := by decide +kernel
theorem dX1_layDay_80 : decode cX1_layDay 80 = .ok (.istore_n 3, 1) := by decide +kernel
theorem dX1_layDay_81 : decode cX1_layDay 81 = .ok (.iinc 4 1, 3) := by decide +kernel
theorem dX1_layDay_84 : decode cX1_layDay 84 = .ok (.goto (-74), 3) := by decide +kernel
theorem dX1_layDay_87 : decode cX1_layDay 87 = .ok (.iload_n 3, 1) := by decide +kernel
theorem dX1_layDay_88 : decode cX1_layDay 88 = .ok (.ireturn, 1) := by decide +kernel
theorem dX1_findFloor_0 : decode cX1_findFloor 0 = .ok (.aload_n 0, 1) := by decide +kernel
theorem dX1_findFloor_1 : decode cX1_findFloor 1 = .ok (.iconst 0, 1) := by decide +kernel
theorem dX1_findFloor_2 : decode cX1_findFloor 2 = .ok (.putfield 54, 3) := by decide +kernel
theorem dX1_findFloor_5 : decode cX1_findFloor 5 = .ok (.iconst 0, 1) := by decide +kernel
theorem dX1_findFloor_6 : decode cX1_findFloor 6 = .ok (.istore_n 1, 1) := by decide +kernel
theorem dX1_findFloor_7 : decode cX1_findFloor 7 = .ok (.iload_n 1, 1) := by decide +kernel
theorem dX1_findFloor_8 : decode cX1_findFloor 8 = .ok (.aload_n 0, 1) := by decide +kernel
theorem dX1_findFloor_9 : decode cX1_findFloor 9 = .ok (.getfield 21, 3) := by decide +kernel
theorem dX1_findFloor_12 : decode cX1_findFloor 12 = .ok (.if_icmp .ge 60, 3) := by decide +kernel
theorem dX1_findFloor_15 : decode cX1_findFloor 15 = .ok (.sipush 3001, 3) := by decide +kernel
theorem dX1_findFloor_18 : decode cX1_findFloor 18 = .ok (.istore_n 2, 1) := by decide +kernel
theorem dX1_findFloor_19 : decode cX1_findFloor 19 = .ok (.iconst 0, 1) := by decide +kernel
theorem dX1_findFloor_20 : decode cX1_findFloor 20 = .ok (.istore_n 3, 1) := by decide +kernel
theorem dX1_findFloor_21 : decode cX1_findFloor 21 = .ok (.iload_n 3, 1) := by decide +kernel
theorem dX1_findFloor_22 : decode cX1_findFloor 22 = .ok (.bipush 6, 2) := by decide +kernel
theorem dX1_findFloor_24 : decode cX1_findFloor 24 = .ok (.if_icmp .ge 30, 3) := by decide +kernel
theorem dX1_findFloor_27 : decode cX1_findFloor 27 = .ok (.aload_n 0, 1) := by decide +kernel
theorem dX1_findFloor_28 : decode cX1_findFloor 28 = .ok (.iload_n 1, 1) := by decide +kernel
theorem dX1_findFloor_29 : decode cX1_findFloor 29 = .ok (.iload_n 3, 1) := by decide +kernel
theorem dX1_findFloor_30 : decode cX1_findFloor 30 = .ok (.invokevirtual 169, 3) := by decide +kernel
theorem dX1_findFloor_33 : decode cX1_findFloor 33 = .ok (.istore 4, 2) := by decide +kernel
theorem dX1_findFloor_35 : decode cX1_findFloor 35 = .ok (.iload 4, 2) := by decide +kernel
theorem dX1_findFloor_37 : decode cX1_findFloor 37 = .ok (.iconst (-1), 1) := by decide +kernel
theorem dX1_findFloor_38 : decode cX1_findFloor 38 = .ok (.if_icmp .eq 10, 3) := by decide +kernel
theorem dX1_findFloor_41 : decode cX1_findFloor 41 = .ok (.iload_n 2, 1) := by decide +kernel
theorem dX1_findFloor_42 : decode cX1_findFloor 42 = .ok (.iload 4, 2) := by decide +kernel
theorem dX1_findFloor_44 : decode cX1_findFloor 44 = .ok (.invokestatic 172, 3) := by decide +kernel
theorem dX1_findFloor_47 : decode cX1_findFloor 47 = .ok (.istore_n 2, 1) := by decide +kernel
theorem dX1_findFloor_48 : decode cX1_findFloor 48 = .ok (.iinc 3 1, 3) := by decide +kernel
theorem dX1_findFloor_51 : decode cX1_findFloor 51 = .ok (.goto (-30), 3) := by decide +kernel
theorem dX1_findFloor_54 : decode cX1_findFloor 54 = .ok (.aload_n 0, 1) := by decide +kernel
theorem dX1_findFloor_55 : decode cX1_findFloor 55 = .ok (.aload_n 0, 1) := by decide +kernel
theorem dX1_findFloor_56 : decode cX1_findFloor 56 = .ok (.getfield 54, 3) := by decide +kernel
theorem dX1_findFloor_59 : decode cX1_findFloor 59 = .ok (.iload_n 2, 1) := by decide +kernel
theorem dX1_findFloor_60 : decode cX1_findFloor 60 = .ok (.invokestatic 159, 3) := by decide +kernel
theorem dX1_findFloor_63 : decode cX1_findFloor 63 = .ok (.putfield 54, 3) := by decide +kernel
theorem dX1_findFloor_66 : decode cX1_findFloor 66 = .ok (.iinc 1 1, 3) := by decide +kernel
theorem dX1_findFloor_69 : decode cX1_findFloor 69 = .ok (.goto (-62), 3) := by decide +kernel
theorem dX1_findFloor_72 : decode cX1_findFloor 72 = .ok (.aload_n 0, 1) := by decide +kernel
theorem dX1_findFloor_73 : decode cX1_findFloor 73 = .ok (.getfield 54, 3) := by decide +kernel
theorem dX1_findFloor_76 : decode cX1_findFloor 76 = .ok (.sipush 3000, 3) := by decide +kernel
theorem dX1_findFloor_79 : decode cX1_findFloor 79 = .ok (.if_icmp .gt 7, 3) := by decide +kernel
theorem dX1_findFloor_82 : decode cX1_findFloor 82 = .ok (.iconst 1, 1) := by decide +kernel
theorem dX1_findFloor_83 : decode cX1_findFloor 83 = .ok (.goto 4, 3) := by decide +kernel
theorem dX1_findFloor_86 : decode cX1_findFloor 86 = .ok (.iconst 0, 1) := by decide +kernel
theorem dX1_findFloor_87 : decode cX1_findFloor 87 = .ok (.ireturn, 1) := by decide +kernel
theorem dX1_place_0 : decode cX1_place 0 = .ok (.aload_n 0, 1) := by decide +kernel
theorem dX1_place_1 : decode cX1_place 1 = .ok (.getfield 39, 3) := by decide +kernel
theorem dX1_place_4 : decode cX1_place 4 = .ok (.iload_n 1, 1) := by decide +kernel
theorem dX1_place_5 : decode cX1_place 5 = .ok (.iload_n 2, 1) := by decide +kernel
theorem dX1_place_6 : decode cX1_place 6 = .ok (.iastore, 1) := by decide +kernel
theorem dX1_place_7 : decode cX1_place 7 = .ok (.aload_n 0, 1) := by decide +kernel
theorem dX1_place_8 : decode cX1_place 8 = .ok (.getfield 42, 3) := by decide +kernel
theorem dX1_place_11 : decode cX1_place 11 = .ok (.iload_n 1, 1) := by decide +kernel
theorem dX1_place_12 : decode cX1_place 12 = .ok (.aload_n 0, 1) := by decide +kernel
theorem dX1_place_13 : decode cX1_place 13 = .ok (.getfield 48, 3) := by decide +kernel
theorem dX1_place_16 : decode cX1_place 16 = .ok (.iload_n 2, 1) := by decide +kernel
theorem dX1_place_17 : decode cX1_place 17 = .ok (.iaload, 1) := by decide +kernel
theorem dX1_place_18 : decode cX1_place 18 = .ok (.iastore, 1) := by decide +kernel
theorem dX1_place_19 : decode cX1_place 19 = .ok (.aload_n 0, 1) := by decide +kernel
theorem dX1_place_20 : decode cX1_place 20 = .ok (.getfield 45, 3) := by decide +kernel
theorem dX1_place_23 : decode cX1_place 23 = .ok (.iload_n 1, 1) := by decide +kernel
theorem dX1_place_24 : decode cX1_place 24 = .ok (.iload_n 3, 1) := by decide +kernel
theorem dX1_place_25 : decode cX1_place 25 = .ok (.iastore, 1) := by decide +kernel
theorem dX1_place_26 : decode cX1_place 26 = .ok (.aload_n 0, 1) := by decide +kernel
theorem dX1_place_27 : decode cX1_place 27 = .ok (.getfield 48, 3) := by decide +kernel
theorem dX1_place_30 : decode cX1_place 30 = .ok (.iload_n 2, 1) := by decide +kernel
theorem dX1_place_31 : decode cX1_place 31 = .ok (.iload_n 3, 1) := by decide +kernel
theorem dX1_place_32 : decode cX1_place 32 = .ok (.iconst 1, 1) := by decide +kernel
theorem dX1_place_33 : decode cX1_place 33 = .ok (.iadd, 1) := by decide +kernel
theorem dX1_place_34 : decode cX1_place 34 = .ok (.iastore, 1) := by decide +kernel
theorem dX1_place_35 : decode cX1_place 35 = .ok (.return_, 1) := by decide +kernel
theorem dX1_takeBack_0 : decode cX1_takeBack 0 = .ok (.aload_n 0, 1) := by decide +kernel
theorem dX1_takeBack_1 : decode cX1_takeBack 1 = .ok (.getfield 48, 3) := by decide +kernel
theorem dX1_takeBack_4 : decode cX1_takeBack 4 = .ok (.iload_n 2, 1) := by decide +kernel
theorem dX1_takeBack_5 : decode cX1_takeBack 5 = .ok (.aload_n 0, 1) := by decide +kernel
theorem dX1_takeBack_6 : decode cX1_takeBack 6 = .ok (.getfield 42, 3) := by decide +kernel
theorem dX1_takeBack_9 : decode cX1_takeBack 9 = .ok (.iload_n 1, 1) := by decide +kernel
theorem dX1_takeBack_10 : decode cX1_takeBack 10 = .ok (.iaload, 1) := by decide +kernel
theorem dX1_takeBack_11 : decode cX1_takeBack 11 = .ok (.iastore, 1) := by decide +kernel
theorem dX1_takeBack_12 : decode cX1_takeBack 12 = .ok (.aload_n 0, 1) := by decide +kernel
theorem dX1_takeBack_13 : decode cX1_takeBack 13 = .ok (.getfield 45, 3) := by decide +kernel
theorem dX1_takeBack_16 : decode cX1_takeBack 16 = .ok (.iload_n 1, 1) := by decide +kernel
theorem dX1_takeBack_17 : decode cX1_takeBack 17 = .ok (.iconst (-1), 1) := by decide +kernel
theorem dX1_takeBack_18 : decode cX1_takeBack 18 = .ok (.iastore, 1) := by decide +kernel
theorem dX1_takeBack_19 : decode cX1_takeBack 19 = .ok (.return_, 1) := by decide +kernel
theorem dX1_seekLeast_0 : decode cX1_seekLeast 0 = .ok (.iload_n 1, 1) := by decide +kernel
theorem dX1_seekLeast_1 : decode cX1_seekLeast 1 = .ok (.aload_n 0, 1) := by decide +kernel
theorem dX1_seekLeast_2 : decode cX1_seekLeast 2 = .ok (.getfield 21, 3) := by decide +kernel
theorem dX1_seekLeast_5 : decode cX1_seekLeast 5 = .ok (.if_icmp .lt 9, 3) := by decide +kernel
theorem dX1_seekLeast_8 : decode cX1_seekLeast 8 = .ok (.aload_n 0, 1) := by decide +kernel
theorem dX1_seekLeast_9 : decode cX1_seekLeast 9 = .ok (.iload_n 3, 1) := by decide +kernel
theorem dX1_seekLeast_10 : decode cX1_seekLeast 10 = .ok (.putfield 51, 3) := by decide +kernel
theorem dX1_seekLeast_13 : decode cX1_seekLeast 13 = .ok (.return_, 1) := by decide +kernel
theorem dX1_seekLeast_14 : decode cX1_seekLeast 14 = .ok (.iconst 0, 1) := by decide +kernel
theorem dX1_seekLeast_15 : decode cX1_seekLeast 15 = .ok (.istore 4, 2) := by decide +kernel
theorem dX1_seekLeast_17 : decode cX1_seekLeast 17 = .ok (.iload 4, 2) := by decide +kernel
theorem dX1_seekLeast_19 : decode cX1_seekLeast 19 = .ok (.aload_n 0, 1) := by decide +kernel
theorem dX1_seekLeast_20 : decode cX1_seekLeast 20 = .ok (.getfield 21, 3) := by decide +kernel
theorem dX1_seekLeast_23 : decode cX1_seekLeast 23 = .ok (.if_icmp .ge 128, 3) := by decide +kernel
theorem dX1_seekLeast_26 : decode cX1_seekLeast 26 = .ok (.aload_n 0, 1) := by decide +kernel
theorem dX1_seekLeast_27 : decode cX1_seekLeast 27 = .ok (.iload 4, 2) := by decide +kernel
theorem dX1_seekLeast_29 : decode cX1_seekLeast 29 = .ok (.iload_n 2, 1) := by decide +kernel
theorem dX1_seekLeast_30 : decode cX1_seekLeast 30 = .ok (.invokevirtual 175, 3) := by decide +kernel
theorem dX1_seekLeast_33 : decode cX1_seekLeast 33 = .ok (.ifCond .ne 6, 3) := by decide +kernel
theorem dX1_seekLeast_36 : decode cX1_seekLeast 36 = .ok (.goto 109, 3) := by decide +kernel
theorem dX1_seekLeast_39 : decode cX1_seekLeast 39 = .ok (.aload_n 0, 1) := by decide +kernel
theorem dX1_seekLeast_40 : decode cX1_seekLeast 40 = .ok (.iload 4, 2) := by decide +kernel
theorem dX1_seekLeast_42 : decode cX1_seekLeast 42 = .ok (.iload_n 1, 1) := by decide +kernel
theorem dX1_seekLeast_43 : decode cX1_seekLeast 43 = .ok (.invokevirtual 178, 3) := by decide +kernel
theorem dX1_seekLeast_46 : decode cX1_seekLeast 46 = .ok (.istore 5, 2) := by decide +kernel
theorem dX1_seekLeast_48 : decode cX1_seekLeast 48 = .ok (.iload 5, 2) := by decide +kernel
theorem dX1_seekLeast_50 : decode cX1_seekLeast 50 = .ok (.bipush 6, 2) := by decide +kernel
theorem dX1_seekLeast_52 : decode cX1_seekLeast 52 = .ok (.if_icmp .ge 93, 3) := by decide +kernel
theorem dX1_seekLeast_55 : decode cX1_seekLeast 55 = .ok (.aload_n 0, 1) := by decide +kernel
theorem dX1_seekLeast_56 : decode cX1_seekLeast 56 = .ok (.getfield 51, 3) := by decide +kernel
theorem dX1_seekLeast_59 : decode cX1_seekLeast 59 = .ok (.aload_n 0, 1) := by decide +kernel
theorem dX1_seekLeast_60 : decode cX1_seekLeast 60 = .ok (.getfield 54, 3) := by decide +kernel
theorem dX1_seekLeast_63 : decode cX1_seekLeast 63 = .ok (.if_icmp .le 82, 3) := by decide +kernel
theorem dX1_seekLeast_66 : decode cX1_seekLeast 66 = .ok (.aload_n 0, 1) := by decide +kernel
theorem dX1_seekLeast_67 : decode cX1_seekLeast 67 = .ok (.iload 4, 2) := by decide +kernel
theorem dX1_seekLeast_69 : decode cX1_seekLeast 69 = .ok (.iload 5, 2) := by decide +kernel
theorem dX1_seekLeast_71 : decode cX1_seekLeast 71 = .ok (.invokevirtual 181, 3) := by decide +kernel
theorem dX1_seekLeast_74 : decode cX1_seekLeast 74 = .ok (.istore 6, 2) := by decide +kernel
theorem dX1_seekLeast_76 : decode cX1_seekLeast 76 = .ok (.iload 6, 2) := by decide +kernel
theorem dX1_seekLeast_78 : decode cX1_seekLeast 78 = .ok (.iconst (-1), 1) := by decide +kernel
theorem dX1_seekLeast_79 : decode cX1_seekLeast 79 = .ok (.if_icmp .eq 60, 3) := by decide +kernel
theorem dX1_seekLeast_82 : decode cX1_seekLeast 82 = .ok (.iload 6, 2) := by decide +kernel
theorem dX1_seekLeast_84 : decode cX1_seekLeast 84 = .ok (.aload_n 0, 1) := by decide +kernel
theorem dX1_seekLeast_85 : decode cX1_seekLeast 85 = .ok (.getfield 51, 3) := by decide +kernel
theorem dX1_seekLeast_88 : decode cX1_seekLeast 88 = .ok (.if_icmp .lt 6, 3) := by decide +kernel
theorem dX1_seekLeast_91 : decode cX1_seekLeast 91 = .ok (.goto 48, 3) := by decide +kernel
theorem dX1_seekLeast_94 : decode cX1_seekLeast 94 = .ok (.aload_n 0, 1) := by decide +kernel
theorem dX1_seekLeast_95 : decode cX1_seekLeast 95 = .ok (.getfield 36, 3) := by decide +kernel
theorem dX1_seekLeast_98 : decode cX1_seekLeast 98 = .ok (.iload_n 1, 1) := by decide +kernel
theorem dX1_seekLeast_99 : decode cX1_seekLeast 99 = .ok (.iload 4, 2) := by decide +kernel
theorem dX1_seekLeast_101 : decode cX1_seekLeast 101 = .ok (.iastore, 1) := by decide +kernel
theorem dX1_seekLeast_102 : decode cX1_seekLeast 102 = .ok (.aload_n 0, 1) := by decide +kernel
theorem dX1_seekLeast_103 : decode cX1_seekLeast 103 = .ok (.iload 4, 2) := by decide +kernel
theorem dX1_seekLeast_105 : decode cX1_seekLeast 105 = .ok (.iload 5, 2) := by decide +kernel
theorem dX1_seekLeast_107 : decode cX1_seekLeast 107 = .ok (.iload 6, 2) := by decide +kernel
theorem dX1_seekLeast_109 : decode cX1_seekLeast 109 = .ok (.invokevirtual 184, 3) := by decide +kernel
theorem dX1_seekLeast_112 : decode cX1_seekLeast 112 = .ok (.aload_n 0, 1) := by decide +kernel
theorem dX1_seekLeast_113 : decode cX1_seekLeast 113 = .ok (.iload_n 1, 1) := by decide +kernel
theorem dX1_seekLeast_114 : decode cX1_seekLeast 114 = .ok (.iconst 1, 1) := by decide +kernel
theorem dX1_seekLeast_115 : decode cX1_seekLeast 115 = .ok (.iadd, 1) := by decide +kernel
theorem dX1_seekLeast_116 : decode cX1_seekLeast 116 = .ok (.iload_n 2, 1) := by decide +kernel
theorem dX1_seekLeast_117 : decode cX1_seekLeast 117 = .ok (.iconst 1, 1) := by decide +kernel
theorem dX1_seekLeast_118 : decode cX1_seekLeast 118 = .ok (.iload 4, 2) := by decide +kernel
theorem dX1_seekLeast_120 : decode cX1_seekLeast 120 = .ok (.ishl, 1) := by decide +kernel
theorem dX1_seekLeast_121 : decode cX1_seekLeast 121 = .ok (.ior, 1) := by decide +kernel
theorem dX1_seekLeast_122 : decode cX1_seekLeast 122 = .ok (.iload_n 3, 1) := by decide +kernel
theorem dX1_seekLeast_123 : decode cX1_seekLeast 123 = .ok (.iload 6, 2) := by decide +kernel
theorem dX1_seekLeast_125 : decode cX1_seekLeast 125 = .ok (.invokestatic 159, 3) := by decide +kernel
theorem dX1_seekLeast_128 : decode cX1_seekLeast 128 = .ok (.invokevirtual 90, 3) := by decide +kernel
theorem dX1_seekLeast_131 : decode cX1_seekLeast 131 = .ok (.aload_n 0, 1) := by decide +kernel
theorem dX1_seekLeast_132 : decode cX1_seekLeast 132 = .ok (.iload 4, 2) := by decide +kernel
theorem dX1_seekLeast_134 : decode cX1_seekLeast 134 = .ok (.iload 5, 2) := by decide +kernel
theorem dX1_seekLeast_136 : decode cX1_seekLeast 136 = .ok (.invokevirtual 187, 3) := by decide +kernel
theorem dX1_seekLeast_139 : decode cX1_seekLeast 139 = .ok (.iinc 5 1, 3) := by decide +kernel
theorem dX1_seekLeast_142 : decode cX1_seekLeast 142 = .ok (.goto (-94), 3) := by decide +kernel
theorem dX1_seekLeast_145 : decode cX1_seekLeast 145 = .ok (.iinc 4 1, 3) := by decide +kernel
theorem dX1_seekLeast_148 : decode cX1_seekLeast 148 = .ok (.goto (-131), 3) := by decide +kernel
theorem dX1_seekLeast_151 : decode cX1_seekLeast 151 = .ok (.return_, 1) := by decide +kernel
theorem dX1_mayComeNext_0 : decode cX1_mayComeNext 0 = .ok (.iload_n 2, 1) := by decide +kernel
theorem dX1_mayComeNext_1 : decode cX1_mayComeNext 1 = .ok (.iconst 1, 1) := by decide +kernel
theorem dX1_mayComeNext_2 : decode cX1_mayComeNext 2 = .ok (.iload_n 1, 1) := by decide +kernel
theorem dX1_mayComeNext_3 : decode cX1_mayComeNext 3 = .ok (.ishl, 1) := by decide +kernel
theorem dX1_mayComeNext_4 : decode cX1_mayComeNext 4 = .ok (.iand, 1) := by decide +kernel
theorem dX1_mayComeNext_5 : decode cX1_mayComeNext 5 = .ok (.ifCond .ne 20, 3) := by decide +kernel
theorem dX1_mayComeNext_8 : decode cX1_mayComeNext 8 = .ok (.aload_n 0, 1) := by decide +kernel
theorem dX1_mayComeNext_9 : decode cX1_mayComeNext 9 = .ok (.getfield 33, 3) := by decide +kernel
theorem dX1_mayComeNext_12 : decode cX1_mayComeNext 12 = .ok (.iload_n 1, 1) := by decide +kernel
theorem dX1_mayComeNext_13 : decode cX1_mayComeNext 13 = .ok (.iaload, 1) := by decide +kernel
theorem dX1_mayComeNext_14 : decode cX1_mayComeNext 14 = .ok (.iload_n 2, 1) := by decide +kernel
theorem dX1_mayComeNext_15 : decode cX1_mayComeNext 15 = .ok (.iconst (-1), 1) := by decide +kernel
theorem dX1_mayComeNext_16 : decode cX1_mayComeNext 16 = .ok (.ixor, 1) := by decide +kernel
theorem dX1_mayComeNext_17 : decode cX1_mayComeNext 17 = .ok (.iand, 1) := by decide +kernel
theorem dX1_mayComeNext_18 : decode cX1_mayComeNext 18 = .ok (.ifCond .ne 7, 3) := by decide +kernel
theorem dX1_mayComeNext_21 : decode cX1_mayComeNext 21 = .ok (.iconst 1, 1) := by decide +kernel
theorem dX1_mayComeNext_22 : decode cX1_mayComeNext 22 = .ok (.goto 4, 3) := by decide +kernel
theorem dX1_mayComeNext_25 : decode cX1_mayComeNext 25 = .ok (.iconst 0, 1) := by decide +kernel
theorem dX1_mayComeNext_26 : decode cX1_mayComeNext 26 = .ok (.ireturn, 1) := by decide +kernel
theorem dX1_leastTaker_0 : decode cX1_leastTaker 0 = .ok (.iload_n 2, 1) := by decide +kernel
theorem dX1_leastTaker_1 : decode cX1_leastTaker 1 = .ok (.iconst 1, 1) := by decide +kernel
theorem dX1_leastTaker_2 : decode cX1_leastTaker 2 = .ok (.if_icmp .lt 11, 3) := by decide +kernel
theorem dX1_leastTaker_5 : decode cX1_leastTaker 5 = .ok (.iload_n 2, 1) := by decide +kernel
theorem dX1_leastTaker_6 : decode cX1_leastTaker 6 = .ok (.aload_n 0, 1) := by decide +kernel
theorem dX1_leastTaker_7 : decode cX1_leastTaker 7 = .ok (.getfield 21, 3) := by decide +kernel
theorem dX1_leastTaker_10 : decode cX1_leastTaker 10 = .ok (.if_icmp .le 5, 3) := by decide +kernel
theorem dX1_leastTaker_13 : decode cX1_leastTaker 13 = .ok (.iconst 0, 1) := by decide +kernel
theorem dX1_leastTaker_14 : decode cX1_leastTaker 14 = .ok (.ireturn, 1) := by decide +kernel
theorem dX1_leastTaker_15 : decode cX1_leastTaker 15 = .ok (.aload_n 0, 1) := by decide +kernel
theorem dX1_leastTaker_16 : decode cX1_leastTaker 16 = .ok (.getfield 36, 3) := by decide +kernel
theorem dX1_leastTaker_19 : decode cX1_leastTaker 19 = .ok (.iload_n 2, 1) := by decide +kernel
theorem dX1_leastTaker_20 : decode cX1_leastTaker 20 = .ok (.iconst 1, 1) := by decide +kernel
theorem dX1_leastTaker_21 : decode cX1_leastTaker 21 = .ok (.isub, 1) := by decide +kernel
theorem dX1_leastTaker_22 : decode cX1_leastTaker 22 = .ok (.iaload, 1) := by decide +kernel
theorem dX1_leastTaker_23 : decode cX1_leastTaker 23 = .ok (.istore_n 3, 1) := by decide +kernel
theorem dX1_leastTaker_24 : decode cX1_leastTaker 24 = .ok (.aload_n 0, 1) := by decide +kernel
theorem dX1_leastTaker_25 : decode cX1_leastTaker 25 = .ok (.getfield 13, 3) := by decide +kernel
theorem dX1_leastTaker_28 : decode cX1_leastTaker 28 = .ok (.iload_n 3, 1) := by decide +kernel
theorem dX1_leastTaker_29 : decode cX1_leastTaker 29 = .ok (.aaload, 1) := by decide +kernel
theorem dX1_leastTaker_30 : decode cX1_leastTaker 30 = .ok (.getfield 117, 3) := by decide +kernel
theorem dX1_leastTaker_33 : decode cX1_leastTaker 33 = .ok (.aload_n 0, 1) := by decide +kernel
theorem dX1_leastTaker_34 : decode cX1_leastTaker 34 = .ok (.getfield 13, 3) := by decide +kernel
theorem dX1_leastTaker_37 : decode cX1_leastTaker 37 = .ok (.iload_n 1, 1) := by decide +kernel
theorem dX1_leastTaker_38 : decode cX1_leastTaker 38 = .ok (.aaload, 1) := by decide +kernel
theorem dX1_leastTaker_39 : decode cX1_leastTaker 39 = .ok (.getfield 117, 3) := by decide +kernel
theorem dX1_leastTaker_42 : decode cX1_leastTaker 42 = .ok (.if_icmp .ne 12, 3) := by decide +kernel
theorem dX1_leastTaker_45 : decode cX1_leastTaker 45 = .ok (.aload_n 0, 1) := by decide +kernel
theorem dX1_leastTaker_46 : decode cX1_leastTaker 46 = .ok (.getfield 39, 3) := by decide +kernel
theorem dX1_leastTaker_49 : decode cX1_leastTaker 49 = .ok (.iload_n 3, 1) := by decide +kernel
theorem dX1_leastTaker_50 : decode cX1_leastTaker 50 = .ok (.iaload, 1) := by decide +kernel
theorem dX1_leastTaker_51 : decode cX1_leastTaker 51 = .ok (.goto 4, 3) := by decide +kernel
theorem dX1_leastTaker_54 : decode cX1_leastTaker 54 = .ok (.iconst 0, 1) := by decide +kernel
theorem dX1_leastTaker_55 : decode cX1_leastTaker 55 = .ok (.ireturn, 1) := by decide +kernel
theorem dX1_seekOrder_0 : decode cX1_seekOrder 0 = .ok (.iload_n 1, 1) := by decide +kernel
theorem dX1_seekOrder_1 : decode cX1_seekOrder 1 = .ok (.aload_n 0, 1) := by decide +kernel
theorem dX1_seekOrder_2 : decode cX1_seekOrder 2 = .ok (.getfield 21, 3) := by decide +kernel
theorem dX1_seekOrder_5 : decode cX1_seekOrder 5 = .ok (.if_icmp .lt 9, 3) := by decide +kernel
theorem dX1_seekOrder_8 : decode cX1_seekOrder 8 = .ok (.aload_n 0, 1) := by decide +kernel
theorem dX1_seekOrder_9 : decode cX1_seekOrder 9 = .ok (.iconst 0, 1) := by decide +kernel
theorem dX1_seekOrder_10 : decode cX1_seekOrder 10 = .ok (.invokevirtual 191, 3) := by decide +kernel
theorem dX1_seekOrder_13 : decode cX1_seekOrder 13 = .ok (.ireturn, 1) := by decide +kernel
theorem dX1_seekOrder_14 : decode cX1_seekOrder 14 = .ok (.iconst 0, 1) := by decide +kernel
theorem dX1_seekOrder_15 : decode cX1_seekOrder 15 = .ok (.istore_n 3, 1) := by decide +kernel
theorem dX1_seekOrder_16 : decode cX1_seekOrder 16 = .ok (.iload_n 3, 1) := by decide +kernel
theorem dX1_seekOrder_17 : decode cX1_seekOrder 17 = .ok (.aload_n 0, 1) := by decide +kernel
theorem dX1_seekOrder_18 : decode cX1_seekOrder 18 = .ok (.getfield 21, 3) := by decide +kernel
theorem dX1_seekOrder_21 : decode cX1_seekOrder 21 = .ok (.if_icmp .ge 45, 3) := by decide +kernel
theorem dX1_seekOrder_24 : decode cX1_seekOrder 24 = .ok (.aload_n 0, 1) := by decide +kernel
theorem dX1_seekOrder_25 : decode cX1_seekOrder 25 = .ok (.iload_n 3, 1) := by decide +kernel
theorem dX1_seekOrder_26 : decode cX1_seekOrder 26 = .ok (.iload_n 2, 1) := by decide +kernel
theorem dX1_seekOrder_27 : decode cX1_seekOrder 27 = .ok (.invokevirtual 175, 3) := by decide +kernel
theorem dX1_seekOrder_30 : decode cX1_seekOrder 30 = .ok (.ifCond .ne 6, 3) := by decide +kernel
theorem dX1_seekOrder_33 : decode cX1_seekOrder 33 = .ok (.goto 27, 3) := by decide +kernel
theorem dX1_seekOrder_36 : decode cX1_seekOrder 36 = .ok (.aload_n 0, 1) := by decide +kernel
theorem dX1_seekOrder_37 : decode cX1_seekOrder 37 = .ok (.getfield 36, 3) := by decide +kernel
theorem dX1_seekOrder_40 : decode cX1_seekOrder 40 = .ok (.iload_n 1, 1) := by decide +kernel
theorem dX1_seekOrder_41 : decode cX1_seekOrder 41 = .ok (.iload_n 3, 1) := by decide +kernel
theorem dX1_seekOrder_42 : decode cX1_seekOrder 42 = .ok (.iastore, 1) := by decide +kernel
theorem dX1_seekOrder_43 : decode cX1_seekOrder 43 = .ok (.aload_n 0, 1) := by decide +kernel
theorem dX1_seekOrder_44 : decode cX1_seekOrder 44 = .ok (.iload_n 1, 1) := by decide +kernel
theorem dX1_seekOrder_45 : decode cX1_seekOrder 45 = .ok (.iconst 1, 1) := by decide +kernel
theorem dX1_seekOrder_46 : decode cX1_seekOrder 46 = .ok (.iadd, 1) := by decide +kernel
theorem dX1_seekOrder_47 : decode cX1_seekOrder 47 = .ok (.iload_n 2, 1) := by decide +kernel
theorem dX1_seekOrder_48 : decode cX1_seekOrder 48 = .ok (.iconst 1, 1) := by decide +kernel
theorem dX1_seekOrder_49 : decode cX1_seekOrder 49 = .ok (.iload_n 3, 1) := by decide +kernel
theorem dX1_seekOrder_50 : decode cX1_seekOrder 50 = .ok (.ishl, 1) := by decide +kernel
theorem dX1_seekOrder_51 : decode cX1_seekOrder 51 = .ok (.ior, 1) := by decide +kernel
theorem dX1_seekOrder_52 : decode cX1_seekOrder 52 = .ok (.invokevirtual 94, 3) := by decide +kernel
theorem dX1_seekOrder_55 : decode cX1_seekOrder 55 = .ok (.ifCond .eq 5, 3) := by decide +kernel
theorem dX1_seekOrder_58 : decode cX1_seekOrder 58 = .ok (.iconst 1, 1) := by decide +kernel
theorem dX1_seekOrder_59 : decode cX1_seekOrder 59 = .ok (.ireturn, 1) := by decide +kernel
theorem dX1_seekOrder_60 : decode cX1_seekOrder 60 = .ok (.iinc 3 1, 3) := by decide +kernel
theorem dX1_seekOrder_63 : decode cX1_seekOrder 63 = .ok (.goto (-47), 3) := by decide +kernel
theorem dX1_seekOrder_66 : decode cX1_seekOrder 66 = .ok (.iconst 0, 1) := by decide +kernel
theorem dX1_seekOrder_67 : decode cX1_seekOrder 67 = .ok (.ireturn, 1) := by decide +kernel
theorem dX1_seekGangs_0 : decode cX1_seekGangs 0 = .ok (.iload_n 1, 1) := by decide +kernel
theorem dX1_seekGangs_1 : decode cX1_seekGangs 1 = .ok (.aload_n 0, 1) := by decide +kernel
theorem dX1_seekGangs_2 : decode cX1_seekGangs 2 = .ok (.getfield 21, 3) := by decide +kernel
theorem dX1_seekGangs_5 : decode cX1_seekGangs 5 = .ok (.if_icmp .lt 5, 3) := by decide +kernel
theorem dX1_seekGangs_8 : decode cX1_seekGangs 8 = .ok (.iconst 1, 1) := by decide +kernel
theorem dX1_seekGangs_9 : decode cX1_seekGangs 9 = .ok (.ireturn, 1) := by decide +kernel
theorem dX1_seekGangs_10 : decode cX1_seekGangs 10 = .ok (.aload_n 0, 1) := by decide +kernel
theorem dX1_seekGangs_11 : decode cX1_seekGangs 11 = .ok (.getfield 36, 3) := by decide +kernel
theorem dX1_seekGangs_14 : decode cX1_seekGangs 14 = .ok (.iload_n 1, 1) := by decide +kernel
theorem dX1_seekGangs_15 : decode cX1_seekGangs 15 = .ok (.iaload, 1) := by decide +kernel
theorem dX1_seekGangs_16 : decode cX1_seekGangs 16 = .ok (.istore_n 2, 1) := by decide +kernel
theorem dX1_seekGangs_17 : decode cX1_seekGangs 17 = .ok (.iconst 0, 1) := by decide +kernel
theorem dX1_seekGangs_18 : decode cX1_seekGangs 18 = .ok (.istore_n 3, 1) := by decide +kernel
theorem dX1_seekGangs_19 : decode cX1_seekGangs 19 = .ok (.iload_n 3, 1) := by decide +kernel
theorem dX1_seekGangs_20 : decode cX1_seekGangs 20 = .ok (.bipush 6, 2) := by decide +kernel
theorem dX1_seekGangs_22 : decode cX1_seekGangs 22 = .ok (.if_icmp .ge 61, 3) := by decide +kernel
theorem dX1_seekGangs_25 : decode cX1_seekGangs 25 = .ok (.aload_n 0, 1) := by decide +kernel
theorem dX1_seekGangs_26 : decode cX1_seekGangs 26 = .ok (.iload_n 2, 1) := by decide +kernel
theorem dX1_seekGangs_27 : decode cX1_seekGangs 27 = .ok (.iload_n 3, 1) := by decide +kernel
theorem dX1_seekGangs_28 : decode cX1_seekGangs 28 = .ok (.invokevirtual 181, 3) := by decide +kernel
theorem dX1_seekGangs_31 : decode cX1_seekGangs 31 = .ok (.istore 4, 2) := by decide +kernel
theorem dX1_seekGangs_33 : decode cX1_seekGangs 33 = .ok (.iload 4, 2) := by decide +kernel
theorem dX1_seekGangs_35 : decode cX1_seekGangs 35 = .ok (.iconst (-1), 1) := by decide +kernel
theorem dX1_seekGangs_36 : decode cX1_seekGangs 36 = .ok (.if_icmp .eq 41, 3) := by decide +kernel
theorem dX1_seekGangs_39 : decode cX1_seekGangs 39 = .ok (.iload 4, 2) := by decide +kernel
theorem dX1_seekGangs_41 : decode cX1_seekGangs 41 = .ok (.aload_n 0, 1) := by decide +kernel
theorem dX1_seekGangs_42 : decode cX1_seekGangs 42 = .ok (.getfield 51, 3) := by decide +kernel
theorem dX1_seekGangs_45 : decode cX1_seekGangs 45 = .ok (.if_icmp .le 6, 3) := by decide +kernel
theorem dX1_seekGangs_48 : decode cX1_seekGangs 48 = .ok (.goto 29, 3) := by decide +kernel
theorem dX1_seekGangs_51 : decode cX1_seekGangs 51 = .ok (.aload_n 0, 1) := by decide +kernel
theorem dX1_seekGangs_52 : decode cX1_seekGangs 52 = .ok (.iload_n 2, 1) := by decide +kernel
theorem dX1_seekGangs_53 : decode cX1_seekGangs 53 = .ok (.iload_n 3, 1) := by decide +kernel
theorem dX1_seekGangs_54 : decode cX1_seekGangs 54 = .ok (.iload 4, 2) := by decide +kernel
theorem dX1_seekGangs_56 : decode cX1_seekGangs 56 = .ok (.invokevirtual 184, 3) := by decide +kernel
theorem dX1_seekGangs_59 : decode cX1_seekGangs 59 = .ok (.aload_n 0, 1) := by decide +kernel
theorem dX1_seekGangs_60 : decode cX1_seekGangs 60 = .ok (.iload_n 1, 1) := by decide +kernel
theorem dX1_seekGangs_61 : decode cX1_seekGangs 61 = .ok (.iconst 1, 1) := by decide +kernel
theorem dX1_seekGangs_62 : decode cX1_seekGangs 62 = .ok (.iadd, 1) := by decide +kernel
theorem dX1_seekGangs_63 : decode cX1_seekGangs 63 = .ok (.invokevirtual 191, 3) := by decide +kernel
theorem dX1_seekGangs_66 : decode cX1_seekGangs 66 = .ok (.ifCond .eq 5, 3) := by decide +kernel
theorem dX1_seekGangs_69 : decode cX1_seekGangs 69 = .ok (.iconst 1, 1) := by decide +kernel
theorem dX1_seekGangs_70 : decode cX1_seekGangs 70 = .ok (.ireturn, 1) := by decide +kernel
theorem dX1_seekGangs_71 : decode cX1_seekGangs 71 = .ok (.aload_n 0, 1) := by decide +kernel
theorem dX1_seekGangs_72 : decode cX1_seekGangs 72 = .ok (.iload_n 2, 1) := by decide +kernel
theorem dX1_seekGangs_73 : decode cX1_seekGangs 73 = .ok (.iload_n 3, 1) := by decide +kernel
theorem dX1_seekGangs_74 : decode cX1_seekGangs 74 = .ok (.invokevirtual 187, 3) := by decide +kernel
theorem dX1_seekGangs_77 : decode cX1_seekGangs 77 = .ok (.iinc 3 1, 3) := by decide +kernel
theorem dX1_seekGangs_80 : decode cX1_seekGangs 80 = .ok (.goto (-61), 3) := by decide +kernel
theorem dX1_seekGangs_83 : decode cX1_seekGangs 83 = .ok (.iconst 0, 1) := by decide +kernel
theorem dX1_seekGangs_84 : decode cX1_seekGangs 84 = .ok (.ireturn, 1) := by decide +kernel
theorem dX1_keepPlan_0 : decode cX1_keepPlan 0 = .ok (.aload_n 0, 1) := by decide +kernel
theorem dX1_keepPlan_1 : decode cX1_keepPlan 1 = .ok (.aload_n 0, 1) := by decide +kernel
theorem dX1_keepPlan_2 : decode cX1_keepPlan 2 = .ok (.getfield 21, 3) := by decide +kernel
theorem dX1_keepPlan_5 : decode cX1_keepPlan 5 = .ok (.putfield 60, 3) := by decide +kernel
theorem dX1_keepPlan_8 : decode cX1_keepPlan 8 = .ok (.iconst 0, 1) := by decide +kernel
theorem dX1_keepPlan_9 : decode cX1_keepPlan 9 = .ok (.istore_n 1, 1) := by decide +kernel
theorem dX1_keepPlan_10 : decode cX1_keepPlan 10 = .ok (.iload_n 1, 1) := by decide +kernel
theorem dX1_keepPlan_11 : decode cX1_keepPlan 11 = .ok (.aload_n 0, 1) := by decide +kernel
theorem dX1_keepPlan_12 : decode cX1_keepPlan 12 = .ok (.getfield 21, 3) := by decide +kernel
theorem dX1_keepPlan_15 : decode cX1_keepPlan 15 = .ok (.if_icmp .ge 72, 3) := by decide +kernel
theorem dX1_keepPlan_18 : decode cX1_keepPlan 18 = .ok (.aload_n 0, 1) := by decide +kernel
theorem dX1_keepPlan_19 : decode cX1_keepPlan 19 = .ok (.getfield 36, 3) := by decide +kernel
theorem dX1_keepPlan_22 : decode cX1_keepPlan 22 = .ok (.iload_n 1, 1) := by decide +kernel
theorem dX1_keepPlan_23 : decode cX1_keepPlan 23 = .ok (.iaload, 1) := by decide +kernel
theorem dX1_keepPlan_24 : decode cX1_keepPlan 24 = .ok (.istore_n 2, 1) := by decide +kernel
theorem dX1_keepPlan_25 : decode cX1_keepPlan 25 = .ok (.aload_n 0, 1) := by decide +kernel
theorem dX1_keepPlan_26 : decode cX1_keepPlan 26 = .ok (.getfield 57, 3) := by decide +kernel
theorem dX1_keepPlan_29 : decode cX1_keepPlan 29 = .ok (.iload_n 1, 1) := by decide +kernel
theorem dX1_keepPlan_30 : decode cX1_keepPlan 30 = .ok (.aaload, 1) := by decide +kernel
theorem dX1_keepPlan_31 : decode cX1_keepPlan 31 = .ok (.iconst 0, 1) := by decide +kernel
theorem dX1_keepPlan_32 : decode cX1_keepPlan 32 = .ok (.aload_n 0, 1) := by decide +kernel
theorem dX1_keepPlan_33 : decode cX1_keepPlan 33 = .ok (.getfield 17, 3) := by decide +kernel
theorem dX1_keepPlan_36 : decode cX1_keepPlan 36 = .ok (.iload_n 2, 1) := by decide +kernel
theorem dX1_keepPlan_37 : decode cX1_keepPlan 37 = .ok (.iaload, 1) := by decide +kernel
theorem dX1_keepPlan_38 : decode cX1_keepPlan 38 = .ok (.iastore, 1) := by decide +kernel
theorem dX1_keepPlan_39 : decode cX1_keepPlan 39 = .ok (.aload_n 0, 1) := by decide +kernel
theorem dX1_keepPlan_40 : decode cX1_keepPlan 40 = .ok (.getfield 57, 3) := by decide +kernel
theorem dX1_keepPlan_43 : decode cX1_keepPlan 43 = .ok (.iload_n 1, 1) := by decide +kernel
theorem dX1_keepPlan_44 : decode cX1_keepPlan 44 = .ok (.aaload, 1) := by decide +kernel
theorem dX1_keepPlan_45 : decode cX1_keepPlan 45 = .ok (.iconst 1, 1) := by decide +kernel
theorem dX1_keepPlan_46 : decode cX1_keepPlan 46 = .ok (.aload_n 0, 1) := by decide +kernel
theorem dX1_keepPlan_47 : decode cX1_keepPlan 47 = .ok (.getfield 39, 3) := by decide +kernel
theorem dX1_keepPlan_50 : decode cX1_keepPlan 50 = .ok (.iload_n 2, 1) := by decide +kernel
theorem dX1_keepPlan_51 : decode cX1_keepPlan 51 = .ok (.iaload, 1) := by decide +kernel
theorem dX1_keepPlan_52 : decode cX1_keepPlan 52 = .ok (.iastore, 1) := by decide +kernel
theorem dX1_keepPlan_53 : decode cX1_keepPlan 53 = .ok (.aload_n 0, 1) := by decide +kernel
theorem dX1_keepPlan_54 : decode cX1_keepPlan 54 = .ok (.getfield 57, 3) := by decide +kernel
theorem dX1_keepPlan_57 : decode cX1_keepPlan 57 = .ok (.iload_n 1, 1) := by decide +kernel
theorem dX1_keepPlan_58 : decode cX1_keepPlan 58 = .ok (.aaload, 1) := by decide +kernel
theorem dX1_keepPlan_59 : decode cX1_keepPlan 59 = .ok (.iconst 2, 1) := by decide +kernel
theorem dX1_keepPlan_60 : decode cX1_keepPlan 60 = .ok (.aload_n 0, 1) := by decide +kernel
theorem dX1_keepPlan_61 : decode cX1_keepPlan 61 = .ok (.getfield 42, 3) := by decide +kernel
theorem dX1_keepPlan_64 : decode cX1_keepPlan 64 = .ok (.iload_n 2, 1) := by decide +kernel
theorem dX1_keepPlan_65 : decode cX1_keepPlan 65 = .ok (.iaload, 1) := by decide +kernel
theorem dX1_keepPlan_66 : decode cX1_keepPlan 66 = .ok (.iastore, 1) := by decide +kernel
theorem dX1_keepPlan_67 : decode cX1_keepPlan 67 = .ok (.aload_n 0, 1) := by decide +kernel
theorem dX1_keepPlan_68 : decode cX1_keepPlan 68 = .ok (.getfield 57, 3) := by decide +kernel
theorem dX1_keepPlan_71 : decode cX1_keepPlan 71 = .ok (.iload_n 1, 1) := by decide +kernel
theorem dX1_keepPlan_72 : decode cX1_keepPlan 72 = .ok (.aaload, 1) := by decide +kernel
theorem dX1_keepPlan_73 : decode cX1_keepPlan 73 = .ok (.iconst 3, 1) := by decide +kernel
theorem dX1_keepPlan_74 : decode cX1_keepPlan 74 = .ok (.aload_n 0, 1) := by decide +kernel
theorem dX1_keepPlan_75 : decode cX1_keepPlan 75 = .ok (.getfield 45, 3) := by decide +kernel
theorem dX1_keepPlan_78 : decode cX1_keepPlan 78 = .ok (.iload_n 2, 1) := by decide +kernel
theorem dX1_keepPlan_79 : decode cX1_keepPlan 79 = .ok (.iaload, 1) := by decide +kernel
theorem dX1_keepPlan_80 : decode cX1_keepPlan 80 = .ok (.iastore, 1) := by decide +kernel
theorem dX1_keepPlan_81 : decode cX1_keepPlan 81 = .ok (.iinc 1 1, 3) := by decide +kernel
theorem dX1_keepPlan_84 : decode cX1_keepPlan 84 = .ok (.goto (-74), 3) := by decide +kernel
theorem dX1_keepPlan_87 : decode cX1_keepPlan 87 = .ok (.return_, 1) := by decide +kernel
