theorem dX0_init_0 : decode cX0_init 0 = .ok (.aload_n 0, 1) := by decide +kernel
theorem dX0_init_1 : decode cX0_init 1 = .ok (.invokespecial 3, 3) := by decide +kernel
theorem dX0_init_4 : decode cX0_init 4 = .ok (.aload_n 0, 1) := by decide +kernel
theorem dX0_init_5 : decode cX0_init 5 = .ok (.iconst (-1), 1) := by decide +kernel
theorem dX0_init_6 : decode cX0_init 6 = .ok (.putfield 9, 3) := by decide +kernel
theorem dX0_init_9 : decode cX0_init 9 = .ok (.aload_n 0, 1) := by decide +kernel
theorem dX0_init_10 : decode cX0_init 10 = .ok (.iconst 0, 1) := by decide +kernel
theorem dX0_init_11 : decode cX0_init 11 = .ok (.putfield 15, 3) := by decide +kernel
theorem dX0_init_14 : decode cX0_init 14 = .ok (.aload_n 0, 1) := by decide +kernel
theorem dX0_init_15 : decode cX0_init 15 = .ok (.iconst 0, 1) := by decide +kernel
theorem dX0_init_16 : decode cX0_init 16 = .ok (.putfield 18, 3) := by decide +kernel
theorem dX0_init_19 : decode cX0_init 19 = .ok (.aload_n 0, 1) := by decide +kernel
theorem dX0_init_20 : decode cX0_init 20 = .ok (.iconst 0, 1) := by decide +kernel
theorem dX0_init_21 : decode cX0_init 21 = .ok (.putfield 21, 3) := by decide +kernel
theorem dX0_init_24 : decode cX0_init 24 = .ok (.aload_n 0, 1) := by decide +kernel
theorem dX0_init_25 : decode cX0_init 25 = .ok (.iload_n 1, 1) := by decide +kernel
theorem dX0_init_26 : decode cX0_init 26 = .ok (.putfield 24, 3) := by decide +kernel
theorem dX0_init_29 : decode cX0_init 29 = .ok (.return_, 1) := by decide +kernel
theorem dX0_takeWork_0 : decode cX0_takeWork 0 = .ok (.aload_n 0, 1) := by decide +kernel
theorem dX0_takeWork_1 : decode cX0_takeWork 1 = .ok (.iload_n 1, 1) := by decide +kernel
theorem dX0_takeWork_2 : decode cX0_takeWork 2 = .ok (.putfield 9, 3) := by decide +kernel
theorem dX0_takeWork_5 : decode cX0_takeWork 5 = .ok (.aload_n 0, 1) := by decide +kernel
theorem dX0_takeWork_6 : decode cX0_takeWork 6 = .ok (.iload_n 2, 1) := by decide +kernel
theorem dX0_takeWork_7 : decode cX0_takeWork 7 = .ok (.putfield 15, 3) := by decide +kernel
theorem dX0_takeWork_10 : decode cX0_takeWork 10 = .ok (.return_, 1) := by decide +kernel
theorem dX0_dropWork_0 : decode cX0_dropWork 0 = .ok (.aload_n 0, 1) := by decide +kernel
theorem dX0_dropWork_1 : decode cX0_dropWork 1 = .ok (.iconst (-1), 1) := by decide +kernel
theorem dX0_dropWork_2 : decode cX0_dropWork 2 = .ok (.putfield 9, 3) := by decide +kernel
theorem dX0_dropWork_5 : decode cX0_dropWork 5 = .ok (.aload_n 0, 1) := by decide +kernel
theorem dX0_dropWork_6 : decode cX0_dropWork 6 = .ok (.iconst 0, 1) := by decide +kernel
theorem dX0_dropWork_7 : decode cX0_dropWork 7 = .ok (.putfield 15, 3) := by decide +kernel
theorem dX0_dropWork_10 : decode cX0_dropWork 10 = .ok (.return_, 1) := by decide +kernel
theorem dX2_init_0 : decode cX2_init 0 = .ok (.aload_n 0, 1) := by decide +kernel
theorem dX2_init_1 : decode cX2_init 1 = .ok (.invokespecial 3, 3) := by decide +kernel
theorem dX2_init_4 : decode cX2_init 4 = .ok (.aload_n 0, 1) := by decide +kernel
theorem dX2_init_5 : decode cX2_init 5 = .ok (.bipush 40, 2) := by decide +kernel
theorem dX2_init_7 : decode cX2_init 7 = .ok (.newarray .int, 2) := by decide +kernel
theorem dX2_init_9 : decode cX2_init 9 = .ok (.putfield 11, 3) := by decide +kernel
theorem dX2_init_12 : decode cX2_init 12 = .ok (.aload_n 0, 1) := by decide +kernel
theorem dX2_init_13 : decode cX2_init 13 = .ok (.bipush 40, 2) := by decide +kernel
theorem dX2_init_15 : decode cX2_init 15 = .ok (.newarray .int, 2) := by decide +kernel
theorem dX2_init_17 : decode cX2_init 17 = .ok (.putfield 15, 3) := by decide +kernel
theorem dX2_init_20 : decode cX2_init 20 = .ok (.aload_n 0, 1) := by decide +kernel
theorem dX2_init_21 : decode cX2_init 21 = .ok (.bipush 40, 2) := by decide +kernel
theorem dX2_init_23 : decode cX2_init 23 = .ok (.newarray .int, 2) := by decide +kernel
theorem dX2_init_25 : decode cX2_init 25 = .ok (.putfield 18, 3) := by decide +kernel
theorem dX2_init_28 : decode cX2_init 28 = .ok (.aload_n 0, 1) := by decide +kernel
theorem dX2_init_29 : decode cX2_init 29 = .ok (.iconst 0, 1) := by decide +kernel
theorem dX2_init_30 : decode cX2_init 30 = .ok (.putfield 21, 3) := by decide +kernel
theorem dX2_init_33 : decode cX2_init 33 = .ok (.aload_n 0, 1) := by decide +kernel
theorem dX2_init_34 : decode cX2_init 34 = .ok (.bipush 40, 2) := by decide +kernel
theorem dX2_init_36 : decode cX2_init 36 = .ok (.newarray .int, 2) := by decide +kernel
theorem dX2_init_38 : decode cX2_init 38 = .ok (.putfield 25, 3) := by decide +kernel
theorem dX2_init_41 : decode cX2_init 41 = .ok (.aload_n 0, 1) := by decide +kernel
theorem dX2_init_42 : decode cX2_init 42 = .ok (.bipush 40, 2) := by decide +kernel
theorem dX2_init_44 : decode cX2_init 44 = .ok (.newarray .int, 2) := by decide +kernel
theorem dX2_init_46 : decode cX2_init 46 = .ok (.putfield 28, 3) := by decide +kernel
theorem dX2_init_49 : decode cX2_init 49 = .ok (.aload_n 0, 1) := by decide +kernel
theorem dX2_init_50 : decode cX2_init 50 = .ok (.iconst 0, 1) := by decide +kernel
theorem dX2_init_51 : decode cX2_init 51 = .ok (.putfield 31, 3) := by decide +kernel
theorem dX2_init_54 : decode cX2_init 54 = .ok (.return_, 1) := by decide +kernel
theorem dX2_addSpell_0 : decode cX2_addSpell 0 = .ok (.aload_n 0, 1) := by decide +kernel
theorem dX2_addSpell_1 : decode cX2_addSpell 1 = .ok (.getfield 21, 3) := by decide +kernel
theorem dX2_addSpell_4 : decode cX2_addSpell 4 = .ok (.bipush 40, 2) := by decide +kernel
theorem dX2_addSpell_6 : decode cX2_addSpell 6 = .ok (.if_icmp .ge 12, 3) := by decide +kernel
theorem dX2_addSpell_9 : decode cX2_addSpell 9 = .ok (.iload_n 1, 1) := by decide +kernel
theorem dX2_addSpell_10 : decode cX2_addSpell 10 = .ok (.ifCond .lt 8, 3) := by decide +kernel
theorem dX2_addSpell_13 : decode cX2_addSpell 13 = .ok (.iload_n 1, 1) := by decide +kernel
theorem dX2_addSpell_14 : decode cX2_addSpell 14 = .ok (.iconst 2, 1) := by decide +kernel
theorem dX2_addSpell_15 : decode cX2_addSpell 15 = .ok (.if_icmp .le 5, 3) := by decide +kernel
theorem dX2_addSpell_18 : decode cX2_addSpell 18 = .ok (.iconst (-1), 1) := by decide +kernel
theorem dX2_addSpell_19 : decode cX2_addSpell 19 = .ok (.ireturn, 1) := by decide +kernel
theorem dX2_addSpell_20 : decode cX2_addSpell 20 = .ok (.iload_n 2, 1) := by decide +kernel
theorem dX2_addSpell_21 : decode cX2_addSpell 21 = .ok (.invokestatic 34, 3) := by decide +kernel
theorem dX2_addSpell_24 : decode cX2_addSpell 24 = .ok (.ifCond .eq 15, 3) := by decide +kernel
theorem dX2_addSpell_27 : decode cX2_addSpell 27 = .ok (.iload_n 3, 1) := by decide +kernel
theorem dX2_addSpell_28 : decode cX2_addSpell 28 = .ok (.invokestatic 34, 3) := by decide +kernel
theorem dX2_addSpell_31 : decode cX2_addSpell 31 = .ok (.ifCond .eq 8, 3) := by decide +kernel
theorem dX2_addSpell_34 : decode cX2_addSpell 34 = .ok (.iload_n 2, 1) := by decide +kernel
theorem dX2_addSpell_35 : decode cX2_addSpell 35 = .ok (.iload_n 3, 1) := by decide +kernel
theorem dX2_addSpell_36 : decode cX2_addSpell 36 = .ok (.if_icmp .le 5, 3) := by decide +kernel
theorem dX2_addSpell_39 : decode cX2_addSpell 39 = .ok (.iconst (-1), 1) := by decide +kernel
theorem dX2_addSpell_40 : decode cX2_addSpell 40 = .ok (.ireturn, 1) := by decide +kernel
theorem dX2_addSpell_41 : decode cX2_addSpell 41 = .ok (.aload_n 0, 1) := by decide +kernel
theorem dX2_addSpell_42 : decode cX2_addSpell 42 = .ok (.getfield 11, 3) := by decide +kernel
theorem dX2_addSpell_45 : decode cX2_addSpell 45 = .ok (.aload_n 0, 1) := by decide +kernel
theorem dX2_addSpell_46 : decode cX2_addSpell 46 = .ok (.getfield 21, 3) := by decide +kernel
theorem dX2_addSpell_49 : decode cX2_addSpell 49 = .ok (.iload_n 1, 1) := by decide +kernel
theorem dX2_addSpell_50 : decode cX2_addSpell 50 = .ok (.iastore, 1) := by decide +kernel
theorem dX2_addSpell_51 : decode cX2_addSpell 51 = .ok (.aload_n 0, 1) := by decide +kernel
theorem dX2_addSpell_52 : decode cX2_addSpell 52 = .ok (.getfield 15, 3) := by decide +kernel
theorem dX2_addSpell_55 : decode cX2_addSpell 55 = .ok (.aload_n 0, 1) := by decide +kernel
theorem dX2_addSpell_56 : decode cX2_addSpell 56 = .ok (.getfield 21, 3) := by decide +kernel
theorem dX2_addSpell_59 : decode cX2_addSpell 59 = .ok (.iload_n 2, 1) := by decide +kernel
theorem dX2_addSpell_60 : decode cX2_addSpell 60 = .ok (.iastore, 1) := by decide +kernel
theorem dX2_addSpell_61 : decode cX2_addSpell 61 = .ok (.aload_n 0, 1) := by decide +kernel
theorem dX2_addSpell_62 : decode cX2_addSpell 62 = .ok (.getfield 18, 3) := by decide +kernel
theorem dX2_addSpell_65 : decode cX2_addSpell 65 = .ok (.aload_n 0, 1) := by decide +kernel
theorem dX2_addSpell_66 : decode cX2_addSpell 66 = .ok (.getfield 21, 3) := by decide +kernel
theorem dX2_addSpell_69 : decode cX2_addSpell 69 = .ok (.iload_n 3, 1) := by decide +kernel
theorem dX2_addSpell_70 : decode cX2_addSpell 70 = .ok (.iastore, 1) := by decide +kernel
theorem dX2_addSpell_71 : decode cX2_addSpell 71 = .ok (.aload_n 0, 1) := by decide +kernel
theorem dX2_addSpell_72 : decode cX2_addSpell 72 = .ok (.dup, 1) := by decide +kernel
theorem dX2_addSpell_73 : decode cX2_addSpell 73 = .ok (.getfield 21, 3) := by decide +kernel
theorem dX2_addSpell_76 : decode cX2_addSpell 76 = .ok (.iconst 1, 1) := by decide +kernel
theorem dX2_addSpell_77 : decode cX2_addSpell 77 = .ok (.iadd, 1) := by decide +kernel
theorem dX2_addSpell_78 : decode cX2_addSpell 78 = .ok (.putfield 21, 3) := by decide +kernel
theorem dX2_addSpell_81 : decode cX2_addSpell 81 = .ok (.iload_n 1, 1) := by decide +kernel
theorem dX2_addSpell_82 : decode cX2_addSpell 82 = .ok (.ifCond .ne 9, 3) := by decide +kernel
theorem dX2_addSpell_85 : decode cX2_addSpell 85 = .ok (.aload_n 0, 1) := by decide +kernel
theorem dX2_addSpell_86 : decode cX2_addSpell 86 = .ok (.iload_n 2, 1) := by decide +kernel
theorem dX2_addSpell_87 : decode cX2_addSpell 87 = .ok (.iload_n 3, 1) := by decide +kernel
theorem dX2_addSpell_88 : decode cX2_addSpell 88 = .ok (.invokevirtual 38, 3) := by decide +kernel
theorem dX2_addSpell_91 : decode cX2_addSpell 91 = .ok (.aload_n 0, 1) := by decide +kernel
theorem dX2_addSpell_92 : decode cX2_addSpell 92 = .ok (.getfield 21, 3) := by decide +kernel
theorem dX2_addSpell_95 : decode cX2_addSpell 95 = .ok (.ireturn, 1) := by decide +kernel
theorem dX2_addRun_0 : decode cX2_addRun 0 = .ok (.iload_n 1, 1) := by decide +kernel
theorem dX2_addRun_1 : decode cX2_addRun 1 = .ok (.istore_n 3, 1) := by decide +kernel
theorem dX2_addRun_2 : decode cX2_addRun 2 = .ok (.iload_n 2, 1) := by decide +kernel
theorem dX2_addRun_3 : decode cX2_addRun 3 = .ok (.istore 4, 2) := by decide +kernel
theorem dX2_addRun_5 : decode cX2_addRun 5 = .ok (.iconst 0, 1) := by decide +kernel
theorem dX2_addRun_6 : decode cX2_addRun 6 = .ok (.istore 5, 2) := by decide +kernel
theorem dX2_addRun_8 : decode cX2_addRun 8 = .ok (.iconst 0, 1) := by decide +kernel
theorem dX2_addRun_9 : decode cX2_addRun 9 = .ok (.istore 6, 2) := by decide +kernel
theorem dX2_addRun_11 : decode cX2_addRun 11 = .ok (.iload 6, 2) := by decide +kernel
theorem dX2_addRun_13 : decode cX2_addRun 13 = .ok (.aload_n 0, 1) := by decide +kernel
theorem dX2_addRun_14 : decode cX2_addRun 14 = .ok (.getfield 31, 3) := by decide +kernel
theorem dX2_addRun_17 : decode cX2_addRun 17 = .ok (.if_icmp .ge 95, 3) := by decide +kernel
theorem dX2_addRun_20 : decode cX2_addRun 20 = .ok (.aload_n 0, 1) := by decide +kernel
theorem dX2_addRun_21 : decode cX2_addRun 21 = .ok (.getfield 28, 3) := by decide +kernel
theorem dX2_addRun_24 : decode cX2_addRun 24 = .ok (.iload 6, 2) := by decide +kernel
theorem dX2_addRun_26 : decode cX2_addRun 26 = .ok (.iaload, 1) := by decide +kernel
theorem dX2_addRun_27 : decode cX2_addRun 27 = .ok (.iload_n 1, 1) := by decide +kernel
theorem dX2_addRun_28 : decode cX2_addRun 28 = .ok (.iconst 1, 1) := by decide +kernel
theorem dX2_addRun_29 : decode cX2_addRun 29 = .ok (.isub, 1) := by decide +kernel
theorem dX2_addRun_30 : decode cX2_addRun 30 = .ok (.if_icmp .lt 16, 3) := by decide +kernel
theorem dX2_addRun_33 : decode cX2_addRun 33 = .ok (.aload_n 0, 1) := by decide +kernel
theorem dX2_addRun_34 : decode cX2_addRun 34 = .ok (.getfield 25, 3) := by decide +kernel
theorem dX2_addRun_37 : decode cX2_addRun 37 = .ok (.iload 6, 2) := by decide +kernel
theorem dX2_addRun_39 : decode cX2_addRun 39 = .ok (.iaload, 1) := by decide +kernel
theorem dX2_addRun_40 : decode cX2_addRun 40 = .ok (.iload_n 2, 1) := by decide +kernel
theorem dX2_addRun_41 : decode cX2_addRun 41 = .ok (.iconst 1, 1) := by decide +kernel
theorem dX2_addRun_42 : decode cX2_addRun 42 = .ok (.iadd, 1) := by decide +kernel
theorem dX2_addRun_43 : decode cX2_addRun 43 = .ok (.if_icmp .le 37, 3) := by decide +kernel
theorem dX2_addRun_46 : decode cX2_addRun 46 = .ok (.aload_n 0, 1) := by decide +kernel
theorem dX2_addRun_47 : decode cX2_addRun 47 = .ok (.getfield 25, 3) := by decide +kernel
theorem dX2_addRun_50 : decode cX2_addRun 50 = .ok (.iload 5, 2) := by decide +kernel
theorem dX2_addRun_52 : decode cX2_addRun 52 = .ok (.aload_n 0, 1) := by decide +kernel
theorem dX2_addRun_53 : decode cX2_addRun 53 = .ok (.getfield 25, 3) := by decide +kernel
theorem dX2_addRun_56 : decode cX2_addRun 56 = .ok (.iload 6, 2) := by decide +kernel
theorem dX2_addRun_58 : decode cX2_addRun 58 = .ok (.iaload, 1) := by decide +kernel
theorem dX2_addRun_59 : decode cX2_addRun 59 = .ok (.iastore, 1) := by decide +kernel
theorem dX2_addRun_60 : decode cX2_addRun 60 = .ok (.aload_n 0, 1) := by decide +kernel
theorem dX2_addRun_61 : decode cX2_addRun 61 = .ok (.getfield 28, 3) := by decide +kernel
theorem dX2_addRun_64 : decode cX2_addRun 64 = .ok (.iload 5, 2) := by decide +kernel
theorem dX2_addRun_66 : decode cX2_addRun 66 = .ok (.aload_n 0, 1) := by decide +kernel
theorem dX2_addRun_67 : decode cX2_addRun 67 = .ok (.getfield 28, 3) := by decide +kernel
theorem dX2_addRun_70 : decode cX2_addRun 70 = .ok (.iload 6, 2) := by decide +kernel
theorem dX2_addRun_72 : decode cX2_addRun 72 = .ok (.iaload, 1) := by decide +kernel
theorem dX2_addRun_73 : decode cX2_addRun 73 = .ok (.iastore, 1) := by decide +kernel
theorem dX2_addRun_74 : decode cX2_addRun 74 = .ok (.iinc 5 1, 3) := by decide +kernel
theorem dX2_addRun_77 : decode cX2_addRun 77 = .ok (.goto 29, 3) := by decide +kernel
theorem dX2_addRun_80 : decode cX2_addRun 80 = .ok (.iload_n 3, 1) := by decide +kernel
theorem dX2_addRun_81 : decode cX2_addRun 81 = .ok (.aload_n 0, 1) := by decide +kernel
theorem dX2_addRun_82 : decode cX2_addRun 82 = .ok (.getfield 25, 3) := by decide +kernel
theorem dX2_addRun_85 : decode cX2_addRun 85 = .ok (.iload 6, 2) := by decide +kernel
theorem dX2_addRun_87 : decode cX2_addRun 87 = .ok (.iaload, 1) := by decide +kernel
theorem dX2_addRun_88 : decode cX2_addRun 88 = .ok (.invokestatic 42, 3) := by decide +kernel
theorem dX2_addRun_91 : decode cX2_addRun 91 = .ok (.istore_n 3, 1) := by decide +kernel
theorem dX2_addRun_92 : decode cX2_addRun 92 = .ok (.iload 4, 2) := by decide +kernel
theorem dX2_addRun_94 : decode cX2_addRun 94 = .ok (.aload_n 0, 1) := by decide +kernel
theorem dX2_addRun_95 : decode cX2_addRun 95 = .ok (.getfield 28, 3) := by decide +kernel
theorem dX2_addRun_98 : decode cX2_addRun 98 = .ok (.iload 6, 2) := by decide +kernel
theorem dX2_addRun_100 : decode cX2_addRun 100 = .ok (.iaload, 1) := by decide +kernel
theorem dX2_addRun_101 : decode cX2_addRun 101 = .ok (.invokestatic 48, 3) := by decide +kernel
theorem dX2_addRun_104 : decode cX2_addRun 104 = .ok (.istore 4, 2) := by decide +kernel
theorem dX2_addRun_106 : decode cX2_addRun 106 = .ok (.iinc 6 1, 3) := by decide +kernel
theorem dX2_addRun_109 : decode cX2_addRun 109 = .ok (.goto (-98), 3) := by decide +kernel
theorem dX2_addRun_112 : decode cX2_addRun 112 = .ok (.iload 5, 2) := by decide +kernel
theorem dX2_addRun_114 : decode cX2_addRun 114 = .ok (.bipush 40, 2) := by decide +kernel
theorem dX2_addRun_116 : decode cX2_addRun 116 = .ok (.if_icmp .lt 4, 3) := by decide +kernel
theorem dX2_addRun_119 : decode cX2_addRun 119 = .ok (.return_, 1) := by decide +kernel
theorem dX2_addRun_120 : decode cX2_addRun 120 = .ok (.iload 5, 2) := by decide +kernel
theorem dX2_addRun_122 : decode cX2_addRun 122 = .ok (.istore 6, 2) := by decide +kernel
theorem dX2_addRun_124 : decode cX2_addRun 124 = .ok (.iload 6, 2) := by decide +kernel
theorem dX2_addRun_126 : decode cX2_addRun 126 = .ok (.ifCond .le 54, 3) := by decide +kernel
theorem dX2_addRun_129 : decode cX2_addRun 129 = .ok (.aload_n 0, 1) := by decide +kernel
theorem dX2_addRun_130 : decode cX2_addRun 130 = .ok (.getfield 25, 3) := by decide +kernel
theorem dX2_addRun_133 : decode cX2_addRun 133 = .ok (.iload 6, 2) := by decide +kernel
theorem dX2_addRun_135 : decode cX2_addRun 135 = .ok (.iconst 1, 1) := by decide +kernel
theorem dX2_addRun_136 : decode cX2_addRun 136 = .ok (.isub, 1) := by decide +kernel
theorem dX2_addRun_137 : decode cX2_addRun 137 = .ok (.iaload, 1) := by decide +kernel
theorem dX2_addRun_138 : decode cX2_addRun 138 = .ok (.iload_n 3, 1) := by decide +kernel
theorem dX2_addRun_139 : decode cX2_addRun 139 = .ok (.if_icmp .le 41, 3) := by decide +kernel
theorem dX2_addRun_142 : decode cX2_addRun 142 = .ok (.aload_n 0, 1) := by decide +kernel
theorem dX2_addRun_143 : decode cX2_addRun 143 = .ok (.getfield 25, 3) := by decide +kernel
theorem dX2_addRun_146 : decode cX2_addRun 146 = .ok (.iload 6, 2) := by decide +kernel
theorem dX2_addRun_148 : decode cX2_addRun 148 = .ok (.aload_n 0, 1) := by decide +kernel
theorem dX2_addRun_149 : decode cX2_addRun 149 = .ok (.getfield 25, 3) := by decide +kernel
theorem dX2_addRun_152 : decode cX2_addRun 152 = .ok (.iload 6, 2) := by decide +kernel
theorem dX2_addRun_154 : decode cX2_addRun 154 = .ok (.iconst 1, 1) := by decide +kernel
theorem dX2_addRun_155 : decode cX2_addRun 155 = .ok (.isub, 1) := by decide +kernel
theorem dX2_addRun_156 : decode cX2_addRun 156 = .ok (.iaload, 1) := by decide +kernel
theorem dX2_addRun_157 : decode cX2_addRun 157 = .ok (.iastore, 1) := by decide +kernel
theorem dX2_addRun_158 : decode cX2_addRun 158 = .ok (.aload_n 0, 1) := by decide +kernel
theorem dX2_addRun_159 : decode cX2_addRun 159 = .ok (.getfield 28, 3) := by decide +kernel
theorem dX2_addRun_162 : decode cX2_addRun 162 = .ok (.iload 6, 2) := by decide +kernel
theorem dX2_addRun_164 : decode cX2_addRun 164 = .ok (.aload_n 0, 1) := by decide +kernel
theorem dX2_addRun_165 : decode cX2_addRun 165 = .ok (.getfield 28, 3) := by decide +kernel
theorem dX2_addRun_168 : decode cX2_addRun 168 = .ok (.iload 6, 2) := by decide +kernel
theorem dX2_addRun_170 : decode cX2_addRun 170 = .ok (.iconst 1, 1) := by decide +kernel
theorem dX2_addRun_171 : decode cX2_addRun 171 = .ok (.isub, 1) := by decide +kernel
theorem dX2_addRun_172 : decode cX2_addRun 172 = .ok (.iaload, 1) := by decide +kernel
theorem dX2_addRun_173 : decode cX2_addRun 173 = .ok (.iastore, 1) := by decide +kernel
theorem dX2_addRun_174 : decode cX2_addRun 174 = .ok (.iinc 6 (-1), 3) := by decide +kernel
theorem dX2_addRun_177 : decode cX2_addRun 177 = .ok (.goto (-53), 3) := by decide +kernel
theorem dX2_addRun_180 : decode cX2_addRun 180 = .ok (.aload_n 0, 1) := by decide +kernel
theorem dX2_addRun_181 : decode cX2_addRun 181 = .ok (.getfield 25, 3) := by decide +kernel
theorem dX2_addRun_184 : decode cX2_addRun 184 = .ok (.iload 6, 2) := by decide +kernel
theorem dX2_addRun_186 : decode cX2_addRun 186 = .ok (.iload_n 3, 1) := by decide +kernel
theorem dX2_addRun_187 : decode cX2_addRun 187 = .ok (.iastore, 1) := by decide +kernel
theorem dX2_addRun_188 : decode cX2_addRun 188 = .ok (.aload_n 0, 1) := by decide +kernel
theorem dX2_addRun_189 : decode cX2_addRun 189 = .ok (.getfield 28, 3) := by decide +kernel
theorem dX2_addRun_192 : decode cX2_addRun 192 = .ok (.iload 6, 2) := by decide +kernel
theorem dX2_addRun_194 : decode cX2_addRun 194 = .ok (.iload 4, 2) := by decide +kernel
theorem dX2_addRun_196 : decode cX2_addRun 196 = .ok (.iastore, 1) := by decide +kernel
theorem dX2_addRun_197 : decode cX2_addRun 197 = .ok (.aload_n 0, 1) := by decide +kernel
theorem dX2_addRun_198 : decode cX2_addRun 198 = .ok (.iload 5, 2) := by decide +kernel
theorem dX2_addRun_200 : decode cX2_addRun 200 = .ok (.iconst 1, 1) := by decide +kernel
theorem dX2_addRun_201 : decode cX2_addRun 201 = .ok (.iadd, 1) := by decide +kernel
theorem dX2_addRun_202 : decode cX2_addRun 202 = .ok (.putfield 31, 3) := by decide +kernel
theorem dX2_addRun_205 : decode cX2_addRun 205 = .ok (.return_, 1) := by decide +kernel
theorem dX2_isOn_0 : decode cX2_isOn 0 = .ok (.iconst 0, 1) := by decide +kernel
theorem dX2_isOn_1 : decode cX2_isOn 1 = .ok (.istore_n 3, 1) := by decide +kernel
theorem dX2_isOn_2 : decode cX2_isOn 2 = .ok (.iload_n 3, 1) := by decide +kernel
theorem dX2_isOn_3 : decode cX2_isOn 3 = .ok (.aload_n 0, 1) := by decide +kernel
theorem dX2_isOn_4 : decode cX2_isOn 4 = .ok (.getfield 21, 3) := by decide +kernel
theorem dX2_isOn_7 : decode cX2_isOn 7 = .ok (.if_icmp .ge 41, 3) := by decide +kernel
theorem dX2_isOn_10 : decode cX2_isOn 10 = .ok (.aload_n 0, 1) := by decide +kernel
theorem dX2_isOn_11 : decode cX2_isOn 11 = .ok (.getfield 11, 3) := by decide +kernel
theorem dX2_isOn_14 : decode cX2_isOn 14 = .ok (.iload_n 3, 1) := by decide +kernel
theorem dX2_isOn_15 : decode cX2_isOn 15 = .ok (.iaload, 1) := by decide +kernel
theorem dX2_isOn_16 : decode cX2_isOn 16 = .ok (.iload_n 1, 1) := by decide +kernel
theorem dX2_isOn_17 : decode cX2_isOn 17 = .ok (.if_icmp .ne 25, 3) := by decide +kernel
theorem dX2_isOn_20 : decode cX2_isOn 20 = .ok (.aload_n 0, 1) := by decide +kernel
theorem dX2_isOn_21 : decode cX2_isOn 21 = .ok (.getfield 15, 3) := by decide +kernel
theorem dX2_isOn_24 : decode cX2_isOn 24 = .ok (.iload_n 3, 1) := by decide +kernel
theorem dX2_isOn_25 : decode cX2_isOn 25 = .ok (.iaload, 1) := by decide +kernel
theorem dX2_isOn_26 : decode cX2_isOn 26 = .ok (.iload_n 2, 1) := by decide +kernel
theorem dX2_isOn_27 : decode cX2_isOn 27 = .ok (.if_icmp .gt 15, 3) := by decide +kernel
theorem dX2_isOn_30 : decode cX2_isOn 30 = .ok (.iload_n 2, 1) := by decide +kernel
theorem dX2_isOn_31 : decode cX2_isOn 31 = .ok (.aload_n 0, 1) := by decide +kernel
theorem dX2_isOn_32 : decode cX2_isOn 32 = .ok (.getfield 18, 3) := by decide +kernel
theorem dX2_isOn_35 : decode cX2_isOn 35 = .ok (.iload_n 3, 1) := by decide +kernel
theorem dX2_isOn_36 : decode cX2_isOn 36 = .ok (.iaload, 1) := by decide +kernel
theorem dX2_isOn_37 : decode cX2_isOn 37 = .ok (.if_icmp .gt 5, 3) := by decide +kernel
theorem dX2_isOn_40 : decode cX2_isOn 40 = .ok (.iconst 1, 1) := by decide +kernel
theorem dX2_isOn_41 : decode cX2_isOn 41 = .ok (.ireturn, 1) := by decide +kernel
theorem dX2_isOn_42 : decode cX2_isOn 42 = .ok (.iinc 3 1, 3) := by decide +kernel
theorem dX2_isOn_45 : decode cX2_isOn 45 = .ok (.goto (-43), 3) := by decide +kernel
theorem dX2_isOn_48 : decode cX2_isOn 48 = .ok (.iconst 0, 1) := by decide +kernel
theorem dX2_isOn_49 : decode cX2_isOn 49 = .ok (.ireturn, 1) := by decide +kernel
theorem dX2_firstRaftDay_0 : decode cX2_firstRaftDay 0 = .ok (.iconst 0, 1) := by decide +kernel
theorem dX2_firstRaftDay_1 : decode cX2_firstRaftDay 1 = .ok (.istore_n 3, 1) := by decide +kernel
theorem dX2_firstRaftDay_2 : decode cX2_firstRaftDay 2 = .ok (.iload_n 3, 1) := by decide +kernel
theorem dX2_firstRaftDay_3 : decode cX2_firstRaftDay 3 = .ok (.aload_n 0, 1) := by decide +kernel
theorem dX2_firstRaftDay_4 : decode cX2_firstRaftDay 4 = .ok (.getfield 31, 3) := by decide +kernel
theorem dX2_firstRaftDay_7 : decode cX2_firstRaftDay 7 = .ok (.if_icmp .ge 39, 3) := by decide +kernel
theorem dX2_firstRaftDay_10 : decode cX2_firstRaftDay 10 = .ok (.iload_n 1, 1) := by decide +kernel
theorem dX2_firstRaftDay_11 : decode cX2_firstRaftDay 11 = .ok (.aload_n 0, 1) := by decide +kernel
theorem dX2_firstRaftDay_12 : decode cX2_firstRaftDay 12 = .ok (.getfield 25, 3) := by decide +kernel
theorem dX2_firstRaftDay_15 : decode cX2_firstRaftDay 15 = .ok (.iload_n 3, 1) := by decide +kernel
theorem dX2_firstRaftDay_16 : decode cX2_firstRaftDay 16 = .ok (.iaload, 1) := by decide +kernel
theorem dX2_firstRaftDay_17 : decode cX2_firstRaftDay 17 = .ok (.invokestatic 48, 3) := by decide +kernel
theorem dX2_firstRaftDay_20 : decode cX2_firstRaftDay 20 = .ok (.istore 4, 2) := by decide +kernel
theorem dX2_firstRaftDay_22 : decode cX2_firstRaftDay 22 = .ok (.iload 4, 2) := by decide +kernel
theorem dX2_firstRaftDay_24 : decode cX2_firstRaftDay 24 = .ok (.iload_n 2, 1) := by decide +kernel
theorem dX2_firstRaftDay_25 : decode cX2_firstRaftDay 25 = .ok (.iadd, 1) := by decide +kernel
theorem dX2_firstRaftDay_26 : decode cX2_firstRaftDay 26 = .ok (.iconst 1, 1) := by decide +kernel
theorem dX2_firstRaftDay_27 : decode cX2_firstRaftDay 27 = .ok (.isub, 1) := by decide +kernel
theorem dX2_firstRaftDay_28 : decode cX2_firstRaftDay 28 = .ok (.aload_n 0, 1) := by decide +kernel
theorem dX2_firstRaftDay_29 : decode cX2_firstRaftDay 29 = .ok (.getfield 28, 3) := by decide +kernel
theorem dX2_firstRaftDay_32 : decode cX2_firstRaftDay 32 = .ok (.iload_n 3, 1) := by decide +kernel
theorem dX2_firstRaftDay_33 : decode cX2_firstRaftDay 33 = .ok (.iaload, 1) := by decide +kernel
theorem dX2_firstRaftDay_34 : decode cX2_firstRaftDay 34 = .ok (.if_icmp .gt 6, 3) := by decide +kernel
theorem dX2_firstRaftDay_37 : decode cX2_firstRaftDay 37 = .ok (.iload 4, 2) := by decide +kernel
theorem dX2_firstRaftDay_39 : decode cX2_firstRaftDay 39 = .ok (.ireturn, 1) := by decide +kernel
theorem dX2_firstRaftDay_40 : decode cX2_firstRaftDay 40 = .ok (.iinc 3 1, 3) := by decide +kernel
theorem dX2_firstRaftDay_43 : decode cX2_firstRaftDay 43 = .ok (.goto (-41), 3) := by decide +kernel
theorem dX2_firstRaftDay_46 : decode cX2_firstRaftDay 46 = .ok (.iconst (-1), 1) := by decide +kernel
theorem dX2_firstRaftDay_47 : decode cX2_firstRaftDay 47 = .ok (.ireturn, 1) := by decide +kernel
theorem dX4_init_0 : decode cX4_init 0 = .ok (.aload_n 0, 1) := by decide +kernel
theorem dX4_init_1 : decode cX4_init 1 = .ok (.invokespecial 3, 3) := by decide +kernel
theorem dX4_init_4 : decode cX4_init 4 = .ok (.aload_n 0, 1) := by decide +kernel
theorem dX4_init_5 : decode cX4_init 5 = .ok (.iconst 0, 1) := by decide +kernel
theorem dX4_init_6 : decode cX4_init 6 = .ok (.putfield 9, 3) := by decide +kernel
theorem dX4_init_9 : decode cX4_init 9 = .ok (.aload_n 0, 1) := by decide +kernel
theorem dX4_init_10 : decode cX4_init 10 = .ok (.iconst (-1), 1) := by decide +kernel
theorem dX4_init_11 : decode cX4_init 11 = .ok (.putfield 15, 3) := by decide +kernel
theorem dX4_init_14 : decode cX4_init 14 = .ok (.aload_n 0, 1) := by decide +kernel
theorem dX4_init_15 : decode cX4_init 15 = .ok (.iconst (-1), 1) := by decide +kernel
theorem dX4_init_16 : decode cX4_init 16 = .ok (.putfield 18, 3) := by decide +kernel
theorem dX4_init_19 : decode cX4_init 19 = .ok (.aload_n 0, 1) := by decide +kernel
theorem dX4_init_20 : decode cX4_init 20 = .ok (.iconst (-1), 1) := by decide +kernel
theorem dX4_init_21 : decode cX4_init 21 = .ok (.putfield 21, 3) := by decide +kernel
theorem dX4_init_24 : decode cX4_init 24 = .ok (.aload_n 0, 1) := by decide +kernel
theorem dX4_init_25 : decode cX4_init 25 = .ok (.iload_n 1, 1) := by decide +kernel
theorem dX4_init_26 : decode cX4_init 26 = .ok (.putfield 24, 3) := by decide +kernel
theorem dX4_init_29 : decode cX4_init 29 = .ok (.aload_n 0, 1) := by decide +kernel
theorem dX4_init_30 : decode cX4_init 30 = .ok (.iload_n 2, 1) := by decide +kernel
theorem dX4_init_31 : decode cX4_init 31 = .ok (.putfield 27, 3) := by decide +kernel
theorem dX4_init_34 : decode cX4_init 34 = .ok (.return_, 1) := by decide +kernel
theorem dX4_isDone_0 : decode cX4_isDone 0 = .ok (.aload_n 0, 1) := by decide +kernel
theorem dX4_isDone_1 : decode cX4_isDone 1 = .ok (.getfield 9, 3) := by decide +kernel
theorem dX4_isDone_4 : decode cX4_isDone 4 = .ok (.iconst 5, 1) := by decide +kernel
theorem dX4_isDone_5 : decode cX4_isDone 5 = .ok (.if_icmp .eq 12, 3) := by decide +kernel
theorem dX4_isDone_8 : decode cX4_isDone 8 = .ok (.aload_n 0, 1) := by decide +kernel
theorem dX4_isDone_9 : decode cX4_isDone 9 = .ok (.getfield 9, 3) := by decide +kernel
theorem dX4_isDone_12 : decode cX4_isDone 12 = .ok (.bipush 6, 2) := by decide +kernel
theorem dX4_isDone_14 : decode cX4_isDone 14 = .ok (.if_icmp .ne 7, 3) := by decide +kernel
theorem dX4_isDone_17 : decode cX4_isDone 17 = .ok (.iconst 1, 1) := by decide +kernel
theorem dX4_isDone_18 : decode cX4_isDone 18 = .ok (.goto 4, 3) := by decide +kernel
theorem dX4_isDone_21 : decode cX4_isDone 21 = .ok (.iconst 0, 1) := by decide +kernel
theorem dX4_isDone_22 : decode cX4_isDone 22 = .ok (.ireturn, 1) := by decide +kernel
theorem dX4_wantsHaul_0 : decode cX4_wantsHaul 0 = .ok (.aload_n 0, 1) := by decide +kernel
theorem dX4_wantsHaul_1 : decode cX4_wantsHaul 1 = .ok (.getfield 9, 3) := by decide +kernel
theorem dX4_wantsHaul_4 : decode cX4_wantsHaul 4 = .ok (.iconst 1, 1) := by decide +kernel
theorem dX4_wantsHaul_5 : decode cX4_wantsHaul 5 = .ok (.if_icmp .eq 19, 3) := by decide +kernel
theorem dX4_wantsHaul_8 : decode cX4_wantsHaul 8 = .ok (.aload_n 0, 1) := by decide +kernel
theorem dX4_wantsHaul_9 : decode cX4_wantsHaul 9 = .ok (.getfield 9, 3) := by decide +kernel
theorem dX4_wantsHaul_12 : decode cX4_wantsHaul 12 = .ok (.iconst 3, 1) := by decide +kernel
theorem dX4_wantsHaul_13 : decode cX4_wantsHaul 13 = .ok (.if_icmp .eq 11, 3) := by decide +kernel
theorem dX4_wantsHaul_16 : decode cX4_wantsHaul 16 = .ok (.aload_n 0, 1) := by decide +kernel
theorem dX4_wantsHaul_17 : decode cX4_wantsHaul 17 = .ok (.getfield 9, 3) := by decide +kernel
theorem dX4_wantsHaul_20 : decode cX4_wantsHaul 20 = .ok (.iconst 4, 1) := by decide +kernel
theorem dX4_wantsHaul_21 : decode cX4_wantsHaul 21 = .ok (.if_icmp .ne 7, 3) := by decide +kernel
theorem dX4_wantsHaul_24 : decode cX4_wantsHaul 24 = .ok (.iconst 1, 1) := by decide +kernel
theorem dX4_wantsHaul_25 : decode cX4_wantsHaul 25 = .ok (.goto 4, 3) := by decide +kernel
theorem dX4_wantsHaul_28 : decode cX4_wantsHaul 28 = .ok (.iconst 0, 1) := by decide +kernel
theorem dX4_wantsHaul_29 : decode cX4_wantsHaul 29 = .ok (.ireturn, 1) := by decide +kernel
theorem dX5_init_0 : decode cX5_init 0 = .ok (.aload_n 0, 1) := by decide +kernel
theorem dX5_init_1 : decode cX5_init 1 = .ok (.invokespecial 3, 3) := by decide +kernel
theorem dX5_init_4 : decode cX5_init 4 = .ok (.aload_n 0, 1) := by decide +kernel
theorem dX5_init_5 : decode cX5_init 5 = .ok (.bipush 40, 2) := by decide +kernel
theorem dX5_init_7 : decode cX5_init 7 = .ok (.newarray .int, 2) := by decide +kernel
theorem dX5_init_9 : decode cX5_init 9 = .ok (.putfield 11, 3) := by decide +kernel
theorem dX5_init_12 : decode cX5_init 12 = .ok (.aload_n 0, 1) := by decide +kernel
theorem dX5_init_13 : decode cX5_init 13 = .ok (.bipush 40, 2) := by decide +kernel
theorem dX5_init_15 : decode cX5_init 15 = .ok (.newarray .int, 2) := by decide +kernel
theorem dX5_init_17 : decode cX5_init 17 = .ok (.putfield 15, 3) := by decide +kernel
theorem dX5_init_20 : decode cX5_init 20 = .ok (.aload_n 0, 1) := by decide +kernel
theorem dX5_init_21 : decode cX5_init 21 = .ok (.iconst 0, 1) := by decide +kernel
theorem dX5_init_22 : decode cX5_init 22 = .ok (.putfield 18, 3) := by decide +kernel
theorem dX5_init_25 : decode cX5_init 25 = .ok (.aload_n 0, 1) := by decide +kernel
theorem dX5_init_26 : decode cX5_init 26 = .ok (.iconst 0, 1) := by decide +kernel
theorem dX5_init_27 : decode cX5_init 27 = .ok (.putfield 22, 3) := by decide +kernel
theorem dX5_init_30 : decode cX5_init 30 = .ok (.return_, 1) := by decide +kernel
theorem dX5_addBoat_0 : decode cX5_addBoat 0 = .ok (.aload_n 0, 1) := by decide +kernel
theorem dX5_addBoat_1 : decode cX5_addBoat 1 = .ok (.getfield 18, 3) := by decide +kernel
theorem dX5_addBoat_4 : decode cX5_addBoat 4 = .ok (.bipush 40, 2) := by decide +kernel
theorem dX5_addBoat_6 : decode cX5_addBoat 6 = .ok (.if_icmp .ge 21, 3) := by decide +kernel
theorem dX5_addBoat_9 : decode cX5_addBoat 9 = .ok (.iload_n 1, 1) := by decide +kernel
theorem dX5_addBoat_10 : decode cX5_addBoat 10 = .ok (.invokestatic 25, 3) := by decide +kernel
theorem dX5_addBoat_13 : decode cX5_addBoat 13 = .ok (.ifCond .eq 14, 3) := by decide +kernel
theorem dX5_addBoat_16 : decode cX5_addBoat 16 = .ok (.iload_n 2, 1) := by decide +kernel
theorem dX5_addBoat_17 : decode cX5_addBoat 17 = .ok (.iconst 1, 1) := by decide +kernel
theorem dX5_addBoat_18 : decode cX5_addBoat 18 = .ok (.if_icmp .lt 9, 3) := by decide +kernel
theorem dX5_addBoat_21 : decode cX5_addBoat 21 = .ok (.iload_n 2, 1) := by decide +kernel
theorem dX5_addBoat_22 : decode cX5_addBoat 22 = .ok (.ldc 29, 2) := by decide +kernel
theorem dX5_addBoat_24 : decode cX5_addBoat 24 = .ok (.if_icmp .le 5, 3) := by decide +kernel
theorem dX5_addBoat_27 : decode cX5_addBoat 27 = .ok (.iconst (-1), 1) := by decide +kernel
theorem dX5_addBoat_28 : decode cX5_addBoat 28 = .ok (.ireturn, 1) := by decide +kernel
theorem dX5_addBoat_29 : decode cX5_addBoat 29 = .ok (.aload_n 0, 1) := by decide +kernel
theorem dX5_addBoat_30 : decode cX5_addBoat 30 = .ok (.getfield 11, 3) := by decide +kernel
theorem dX5_addBoat_33 : decode cX5_addBoat 33 = .ok (.aload_n 0, 1) := by decide +kernel
theorem dX5_addBoat_34 : decode cX5_addBoat 34 = .ok (.getfield 18, 3) := by decide +kernel
theorem dX5_addBoat_37 : decode cX5_addBoat 37 = .ok (.iload_n 1, 1) := by decide +kernel
theorem dX5_addBoat_38 : decode cX5_addBoat 38 = .ok (.iastore, 1) := by decide +kernel
theorem dX5_addBoat_39 : decode cX5_addBoat 39 = .ok (.aload_n 0, 1) := by decide +kernel
theorem dX5_addBoat_40 : decode cX5_addBoat 40 = .ok (.getfield 15, 3) := by decide +kernel
theorem dX5_addBoat_43 : decode cX5_addBoat 43 = .ok (.aload_n 0, 1) := by decide +kernel
theorem dX5_addBoat_44 : decode cX5_addBoat 44 = .ok (.getfield 18, 3) := by decide +kernel
theorem dX5_addBoat_47 : decode cX5_addBoat 47 = .ok (.iload_n 2, 1) := by decide +kernel
theorem dX5_addBoat_48 : decode cX5_addBoat 48 = .ok (.iastore, 1) := by decide +kernel
theorem dX5_addBoat_49 : decode cX5_addBoat 49 = .ok (.aload_n 0, 1) := by decide +kernel
theorem dX5_addBoat_50 : decode cX5_addBoat 50 = .ok (.dup, 1) := by decide +kernel
theorem dX5_addBoat_51 : decode cX5_addBoat 51 = .ok (.getfield 18, 3) := by decide +kernel
theorem dX5_addBoat_54 : decode cX5_addBoat 54 = .ok (.iconst 1, 1) := by decide +kernel
theorem dX5_addBoat_55 : decode cX5_addBoat 55 = .ok (.iadd, 1) := by decide +kernel
theorem dX5_addBoat_56 : decode cX5_addBoat 56 = .ok (.putfield 18, 3) := by decide +kernel
theorem dX5_addBoat_59 : decode cX5_addBoat 59 = .ok (.aload_n 0, 1) := by decide +kernel
theorem dX5_addBoat_60 : decode cX5_addBoat 60 = .ok (.getfield 18, 3) := by decide +kernel
theorem dX5_addBoat_63 : decode cX5_addBoat 63 = .ok (.ireturn, 1) := by decide +kernel
theorem dX5_landBoats_0 : decode cX5_landBoats 0 = .ok (.iconst 0, 1) := by decide +kernel
theorem dX5_landBoats_1 : decode cX5_landBoats 1 = .ok (.istore_n 2, 1) := by decide +kernel
theorem dX5_landBoats_2 : decode cX5_landBoats 2 = .ok (.iload_n 2, 1) := by decide +kernel
theorem dX5_landBoats_3 : decode cX5_landBoats 3 = .ok (.aload_n 0, 1) := by decide +kernel
theorem dX5_landBoats_4 : decode cX5_landBoats 4 = .ok (.getfield 18, 3) := by decide +kernel
theorem dX5_landBoats_7 : decode cX5_landBoats 7 = .ok (.if_icmp .ge 39, 3) := by decide +kernel
theorem dX5_landBoats_10 : decode cX5_landBoats 10 = .ok (.aload_n 0, 1) := by decide +kernel
theorem dX5_landBoats_11 : decode cX5_landBoats 11 = .ok (.getfield 11, 3) := by decide +kernel
theorem dX5_landBoats_14 : decode cX5_landBoats 14 = .ok (.iload_n 2, 1) := by decide +kernel
theorem dX5_landBoats_15 : decode cX5_landBoats 15 = .ok (.iaload, 1) := by decide +kernel
theorem dX5_landBoats_16 : decode cX5_landBoats 16 = .ok (.iload_n 1, 1) := by decide +kernel
theorem dX5_landBoats_17 : decode cX5_landBoats 17 = .ok (.if_icmp .ne 23, 3) := by decide +kernel
theorem dX5_landBoats_20 : decode cX5_landBoats 20 = .ok (.aload_n 0, 1) := by decide +kernel
theorem dX5_landBoats_21 : decode cX5_landBoats 21 = .ok (.ldc 30, 2) := by decide +kernel
theorem dX5_landBoats_23 : decode cX5_landBoats 23 = .ok (.aload_n 0, 1) := by decide +kernel
theorem dX5_landBoats_24 : decode cX5_landBoats 24 = .ok (.getfield 22, 3) := by decide +kernel
theorem dX5_landBoats_27 : decode cX5_landBoats 27 = .ok (.aload_n 0, 1) := by decide +kernel
theorem dX5_landBoats_28 : decode cX5_landBoats 28 = .ok (.getfield 15, 3) := by decide +kernel
theorem dX5_landBoats_31 : decode cX5_landBoats 31 = .ok (.iload_n 2, 1) := by decide +kernel
theorem dX5_landBoats_32 : decode cX5_landBoats 32 = .ok (.iaload, 1) := by decide +kernel
theorem dX5_landBoats_33 : decode cX5_landBoats 33 = .ok (.iadd, 1) := by decide +kernel
theorem dX5_landBoats_34 : decode cX5_landBoats 34 = .ok (.invokestatic 31, 3) := by decide +kernel
theorem dX5_landBoats_37 : decode cX5_landBoats 37 = .ok (.putfield 22, 3) := by decide +kernel
theorem dX5_landBoats_40 : decode cX5_landBoats 40 = .ok (.iinc 2 1, 3) := by decide +kernel
theorem dX5_landBoats_43 : decode cX5_landBoats 43 = .ok (.goto (-41), 3) := by decide +kernel
theorem dX5_landBoats_46 : decode cX5_landBoats 46 = .ok (.return_, 1) := by decide +kernel
theorem dX6_init_0 : decode cX6_init 0 = .ok (.aload_n 0, 1) := by decide +kernel
theorem dX6_init_1 : decode cX6_init 1 = .ok (.invokespecial 3, 3) := by decide +kernel
theorem dX6_init_4 : decode cX6_init 4 = .ok (.aload_n 0, 1) := by decide +kernel
theorem dX6_init_5 : decode cX6_init 5 = .ok (.bipush 9, 2) := by decide +kernel
theorem dX6_init_7 : decode cX6_init 7 = .ok (.newarray .int, 2) := by decide +kernel
theorem dX6_init_9 : decode cX6_init 9 = .ok (.putfield 9, 3) := by decide +kernel
theorem dX6_init_12 : decode cX6_init 12 = .ok (.aload_n 0, 1) := by decide +kernel
theorem dX6_init_13 : decode cX6_init 13 = .ok (.getstatic 15, 3) := by decide +kernel
theorem dX6_init_16 : decode cX6_init 16 = .ok (.invokevirtual 18, 3) := by decide +kernel
theorem dX6_init_19 : decode cX6_init 19 = .ok (.return_, 1) := by decide +kernel
theorem dX6_takeNumbers_0 : decode cX6_takeNumbers 0 = .ok (.iconst 0, 1) := by decide +kernel
theorem dX6_takeNumbers_1 : decode cX6_takeNumbers 1 = .ok (.istore_n 2, 1) := by decide +kernel
theorem dX6_takeNumbers_2 : decode cX6_takeNumbers 2 = .ok (.iload_n 2, 1) := by decide +kernel
theorem dX6_takeNumbers_3 : decode cX6_takeNumbers 3 = .ok (.aload_n 0, 1) := by decide +kernel
theorem dX6_takeNumbers_4 : decode cX6_takeNumbers 4 = .ok (.getfield 9, 3) := by decide +kernel
theorem dX6_takeNumbers_7 : decode cX6_takeNumbers 7 = .ok (.arraylength, 1) := by decide +kernel
theorem dX6_takeNumbers_8 : decode cX6_takeNumbers 8 = .ok (.if_icmp .ge 24, 3) := by decide +kernel
theorem dX6_takeNumbers_11 : decode cX6_takeNumbers 11 = .ok (.iload_n 2, 1) := by decide +kernel
theorem dX6_takeNumbers_12 : decode cX6_takeNumbers 12 = .ok (.aload_n 1, 1) := by decide +kernel
theorem dX6_takeNumbers_13 : decode cX6_takeNumbers 13 = .ok (.arraylength, 1) := by decide +kernel
theorem dX6_takeNumbers_14 : decode cX6_takeNumbers 14 = .ok (.if_icmp .ge 18, 3) := by decide +kernel
theorem dX6_takeNumbers_17 : decode cX6_takeNumbers 17 = .ok (.aload_n 0, 1) := by decide +kernel
theorem dX6_takeNumbers_18 : decode cX6_takeNumbers 18 = .ok (.getfield 9, 3) := by decide +kernel
theorem dX6_takeNumbers_21 : decode cX6_takeNumbers 21 = .ok (.iload_n 2, 1) := by decide +kernel
theorem dX6_takeNumbers_22 : decode cX6_takeNumbers 22 = .ok (.aload_n 1, 1) := by decide +kernel
theorem dX6_takeNumbers_23 : decode cX6_takeNumbers 23 = .ok (.iload_n 2, 1) := by decide +kernel
theorem dX6_takeNumbers_24 : decode cX6_takeNumbers 24 = .ok (.iaload, 1) := by decide +kernel
theorem dX6_takeNumbers_25 : decode cX6_takeNumbers 25 = .ok (.iastore, 1) := by decide +kernel
theorem dX6_takeNumbers_26 : decode cX6_takeNumbers 26 = .ok (.iinc 2 1, 3) := by decide +kernel
theorem dX6_takeNumbers_29 : decode cX6_takeNumbers 29 = .ok (.goto (-27), 3) := by decide +kernel
theorem dX6_takeNumbers_32 : decode cX6_takeNumbers 32 = .ok (.return_, 1) := by decide +kernel
theorem dX6_numberAt_0 : decode cX6_numberAt 0 = .ok (.iload_n 1, 1) := by decide +kernel
theorem dX6_numberAt_1 : decode cX6_numberAt 1 = .ok (.ifCond .lt 12, 3) := by decide +kernel
theorem dX6_numberAt_4 : decode cX6_numberAt 4 = .ok (.iload_n 1, 1) := by decide +kernel
theorem dX6_numberAt_5 : decode cX6_numberAt 5 = .ok (.aload_n 0, 1) := by decide +kernel
theorem dX6_numberAt_6 : decode cX6_numberAt 6 = .ok (.getfield 9, 3) := by decide +kernel
theorem dX6_numberAt_9 : decode cX6_numberAt 9 = .ok (.arraylength, 1) := by decide +kernel
theorem dX6_numberAt_10 : decode cX6_numberAt 10 = .ok (.if_icmp .lt 7, 3) := by decide +kernel
theorem dX6_numberAt_13 : decode cX6_numberAt 13 = .ok (.iconst (-1), 1) := by decide +kernel
theorem dX6_numberAt_14 : decode cX6_numberAt 14 = .ok (.goto 9, 3) := by decide +kernel
theorem dX6_numberAt_17 : decode cX6_numberAt 17 = .ok (.aload_n 0, 1) := by decide +kernel
theorem dX6_numberAt_18 : decode cX6_numberAt 18 = .ok (.getfield 9, 3) := by decide +kernel
theorem dX6_numberAt_21 : decode cX6_numberAt 21 = .ok (.iload_n 1, 1) := by decide +kernel
theorem dX6_numberAt_22 : decode cX6_numberAt 22 = .ok (.iaload, 1) := by decide +kernel
theorem dX6_numberAt_23 : decode cX6_numberAt 23 = .ok (.ireturn, 1) := by decide +kernel
theorem dX6_pullOf_0 : decode cX6_pullOf 0 = .ok (.aload_n 1, 1) := by decide +kernel
theorem dX6_pullOf_1 : decode cX6_pullOf 1 = .ok (.invokevirtual 22, 3) := by decide +kernel
theorem dX6_pullOf_4 : decode cX6_pullOf 4 = .ok (.ifCond .ne 5, 3) := by decide +kernel
theorem dX6_pullOf_7 : decode cX6_pullOf 7 = .ok (.iconst 0, 1) := by decide +kernel
theorem dX6_pullOf_8 : decode cX6_pullOf 8 = .ok (.ireturn, 1) := by decide +kernel
theorem dX6_pullOf_9 : decode cX6_pullOf 9 = .ok (.aload_n 1, 1) := by decide +kernel
theorem dX6_pullOf_10 : decode cX6_pullOf 10 = .ok (.getfield 28, 3) := by decide +kernel
theorem dX6_pullOf_13 : decode cX6_pullOf 13 = .ok (.iconst 3, 1) := by decide +kernel
theorem dX6_pullOf_14 : decode cX6_pullOf 14 = .ok (.if_icmp .ne 21, 3) := by decide +kernel
theorem dX6_pullOf_17 : decode cX6_pullOf 17 = .ok (.aload_n 0, 1) := by decide +kernel
theorem dX6_pullOf_18 : decode cX6_pullOf 18 = .ok (.aload_n 1, 1) := by decide +kernel
theorem dX6_pullOf_19 : decode cX6_pullOf 19 = .ok (.getfield 32, 3) := by decide +kernel
theorem dX6_pullOf_22 : decode cX6_pullOf 22 = .ok (.iload_n 2, 1) := by decide +kernel
theorem dX6_pullOf_23 : decode cX6_pullOf 23 = .ok (.ifCond .eq 7, 3) := by decide +kernel
theorem dX6_pullOf_26 : decode cX6_pullOf 26 = .ok (.iconst 3, 1) := by decide +kernel
theorem dX6_pullOf_27 : decode cX6_pullOf 27 = .ok (.goto 4, 3) := by decide +kernel
theorem dX6_pullOf_30 : decode cX6_pullOf 30 = .ok (.iconst 2, 1) := by decide +kernel
theorem dX6_pullOf_31 : decode cX6_pullOf 31 = .ok (.invokevirtual 35, 3) := by decide +kernel
theorem dX6_pullOf_34 : decode cX6_pullOf 34 = .ok (.ireturn, 1) := by decide +kernel
theorem dX6_pullOf_35 : decode cX6_pullOf 35 = .ok (.aload_n 0, 1) := by decide +kernel
theorem dX6_pullOf_36 : decode cX6_pullOf 36 = .ok (.aload_n 1, 1) := by decide +kernel
theorem dX6_pullOf_37 : decode cX6_pullOf 37 = .ok (.getfield 32, 3) := by decide +kernel
theorem dX6_pullOf_40 : decode cX6_pullOf 40 = .ok (.iload_n 2, 1) := by decide +kernel
theorem dX6_pullOf_41 : decode cX6_pullOf 41 = .ok (.ifCond .eq 7, 3) := by decide +kernel
theorem dX6_pullOf_44 : decode cX6_pullOf 44 = .ok (.iconst 1, 1) := by decide +kernel
theorem dX6_pullOf_45 : decode cX6_pullOf 45 = .ok (.goto 4, 3) := by decide +kernel
theorem dX6_pullOf_48 : decode cX6_pullOf 48 = .ok (.iconst 0, 1) := by decide +kernel
theorem dX6_pullOf_49 : decode cX6_pullOf 49 = .ok (.invokevirtual 35, 3) := by decide +kernel
theorem dX6_pullOf_52 : decode cX6_pullOf 52 = .ok (.ireturn, 1) := by decide +kernel
theorem dX6_pullOfWeight_0 : decode cX6_pullOfWeight 0 = .ok (.iload_n 1, 1) := by decide +kernel
theorem dX6_pullOfWeight_1 : decode cX6_pullOfWeight 1 = .ok (.aload_n 0, 1) := by decide +kernel
theorem dX6_pullOfWeight_2 : decode cX6_pullOfWeight 2 = .ok (.iload_n 2, 1) := by decide +kernel
theorem dX6_pullOfWeight_3 : decode cX6_pullOfWeight 3 = .ok (.invokevirtual 39, 3) := by decide +kernel
theorem dX6_pullOfWeight_6 : decode cX6_pullOfWeight 6 = .ok (.imul, 1) := by decide +kernel
theorem dX6_pullOfWeight_7 : decode cX6_pullOfWeight 7 = .ok (.bipush 10, 2) := by decide +kernel
theorem dX6_pullOfWeight_9 : decode cX6_pullOfWeight 9 = .ok (.invokestatic 43, 3) := by decide +kernel
theorem dX6_pullOfWeight_12 : decode cX6_pullOfWeight 12 = .ok (.ireturn, 1) := by decide +kernel
theorem dX6_lengthOfNext_0 : decode cX6_lengthOfNext 0 = .ok (.aload_n 1, 1) := by decide +kernel
theorem dX6_lengthOfNext_1 : decode cX6_lengthOfNext 1 = .ok (.getfield 28, 3) := by decide +kernel
theorem dX6_lengthOfNext_4 : decode cX6_lengthOfNext 4 = .ok (.tableswitch 63 0 3 #[32, 43, 49, 56], 32) := by decide +kernel
theorem dX6_lengthOfNext_36 : decode cX6_lengthOfNext 36 = .ok (.aload_n 1, 1) := by decide +kernel
theorem dX6_lengthOfNext_37 : decode cX6_lengthOfNext 37 = .ok (.getfield 32, 3) := by decide +kernel
theorem dX6_lengthOfNext_40 : decode cX6_lengthOfNext 40 = .ok (.aload_n 0, 1) := by decide +kernel
theorem dX6_lengthOfNext_41 : decode cX6_lengthOfNext 41 = .ok (.iconst 4, 1) := by decide +kernel
theorem dX6_lengthOfNext_42 : decode cX6_lengthOfNext 42 = .ok (.invokevirtual 39, 3) := by decide +kernel
theorem dX6_lengthOfNext_45 : decode cX6_lengthOfNext 45 = .ok (.imul, 1) := by decide +kernel
theorem dX6_lengthOfNext_46 : decode cX6_lengthOfNext 46 = .ok (.ireturn, 1) := by decide +kernel
theorem dX6_lengthOfNext_47 : decode cX6_lengthOfNext 47 = .ok (.aload_n 0, 1) := by decide +kernel
theorem dX6_lengthOfNext_48 : decode cX6_lengthOfNext 48 = .ok (.iconst 5, 1) := by decide +kernel
theorem dX6_lengthOfNext_49 : decode cX6_lengthOfNext 49 = .ok (.invokevirtual 39, 3) := by decide +kernel
theorem dX6_lengthOfNext_52 : decode cX6_lengthOfNext 52 = .ok (.ireturn, 1) := by decide +kernel
theorem dX6_lengthOfNext_53 : decode cX6_lengthOfNext 53 = .ok (.aload_n 0, 1) := by decide +kernel
theorem dX6_lengthOfNext_54 : decode cX6_lengthOfNext 54 = .ok (.bipush 6, 2) := by decide +kernel
theorem dX6_lengthOfNext_56 : decode cX6_lengthOfNext 56 = .ok (.invokevirtual 39, 3) := by decide +kernel
theorem dX6_lengthOfNext_59 : decode cX6_lengthOfNext 59 = .ok (.ireturn, 1) := by decide +kernel
theorem dX6_lengthOfNext_60 : decode cX6_lengthOfNext 60 = .ok (.aload_n 1, 1) := by decide +kernel
theorem dX6_lengthOfNext_61 : decode cX6_lengthOfNext 61 = .ok (.getfield 46, 3) := by decide +kernel
theorem dX6_lengthOfNext_64 : decode cX6_lengthOfNext 64 = .ok (.iconst 1, 1) := by decide +kernel
theorem dX6_lengthOfNext_65 : decode cX6_lengthOfNext 65 = .ok (.iadd, 1) := by decide +kernel
theorem dX6_lengthOfNext_66 : decode cX6_lengthOfNext 66 = .ok (.ireturn, 1) := by decide +kernel
theorem dX6_lengthOfNext_67 : decode cX6_lengthOfNext 67 = .ok (.iconst 1, 1) := by decide +kernel
theorem dX6_lengthOfNext_68 : decode cX6_lengthOfNext 68 = .ok (.ireturn, 1) := by decide +kernel
theorem dX9_init_0 : decode cX9_init 0 = .ok (.aload_n 0, 1) := by decide +kernel
theorem dX9_init_1 : decode cX9_init 1 = .ok (.invokespecial 3, 3) := by decide +kernel
theorem dX9_init_4 : decode cX9_init 4 = .ok (.aload_n 0, 1) := by decide +kernel
theorem dX9_init_5 : decode cX9_init 5 = .ok (.sipush 200, 3) := by decide +kernel
theorem dX9_init_8 : decode cX9_init 8 = .ok (.newarray .byte, 2) := by decide +kernel
theorem dX9_init_10 : decode cX9_init 10 = .ok (.putfield 11, 3) := by decide +kernel
theorem dX9_init_13 : decode cX9_init 13 = .ok (.aload_n 0, 1) := by decide +kernel
theorem dX9_init_14 : decode cX9_init 14 = .ok (.iconst 0, 1) := by decide +kernel
theorem dX9_init_15 : decode cX9_init 15 = .ok (.putfield 15, 3) := by decide +kernel
theorem dX9_init_18 : decode cX9_init 18 = .ok (.return_, 1) := by decide +kernel
theorem dX9_hasRoom_0 : decode cX9_hasRoom 0 = .ok (.aload_n 0, 1) := by decide +kernel
theorem dX9_hasRoom_1 : decode cX9_hasRoom 1 = .ok (.getfield 15, 3) := by decide +kernel
theorem dX9_hasRoom_4 : decode cX9_hasRoom 4 = .ok (.bipush 20, 2) := by decide +kernel
theorem dX9_hasRoom_6 : decode cX9_hasRoom 6 = .ok (.iadd, 1) := by decide +kernel
theorem dX9_hasRoom_7 : decode cX9_hasRoom 7 = .ok (.sipush 200, 3) := by decide +kernel
theorem dX9_hasRoom_10 : decode cX9_hasRoom 10 = .ok (.if_icmp .gt 7, 3) := by decide +kernel
theorem dX9_hasRoom_13 : decode cX9_hasRoom 13 = .ok (.iconst 1, 1) := by decide +kernel
theorem dX9_hasRoom_14 : decode cX9_hasRoom 14 = .ok (.goto 4, 3) := by decide +kernel
theorem dX9_hasRoom_17 : decode cX9_hasRoom 17 = .ok (.iconst 0, 1) := by decide +kernel
theorem dX9_hasRoom_18 : decode cX9_hasRoom 18 = .ok (.ireturn, 1) := by decide +kernel
theorem dX9_putNumber_0 : decode cX9_putNumber 0 = .ok (.bipush 24, 2) := by decide +kernel
theorem dX9_putNumber_2 : decode cX9_putNumber 2 = .ok (.istore_n 2, 1) := by decide +kernel
theorem dX9_putNumber_3 : decode cX9_putNumber 3 = .ok (.iload_n 2, 1) := by decide +kernel
theorem dX9_putNumber_4 : decode cX9_putNumber 4 = .ok (.ifCond .lt 42, 3) := by decide +kernel
theorem dX9_putNumber_7 : decode cX9_putNumber 7 = .ok (.aload_n 0, 1) := by decide +kernel
theorem dX9_putNumber_8 : decode cX9_putNumber 8 = .ok (.getfield 15, 3) := by decide +kernel
theorem dX9_putNumber_11 : decode cX9_putNumber 11 = .ok (.sipush 200, 3) := by decide +kernel
theorem dX9_putNumber_14 : decode cX9_putNumber 14 = .ok (.if_icmp .ge 26, 3) := by decide +kernel
theorem dX9_putNumber_17 : decode cX9_putNumber 17 = .ok (.aload_n 0, 1) := by decide +kernel
theorem dX9_putNumber_18 : decode cX9_putNumber 18 = .ok (.getfield 11, 3) := by decide +kernel
theorem dX9_putNumber_21 : decode cX9_putNumber 21 = .ok (.aload_n 0, 1) := by decide +kernel
theorem dX9_putNumber_22 : decode cX9_putNumber 22 = .ok (.getfield 15, 3) := by decide +kernel
theorem dX9_putNumber_25 : decode cX9_putNumber 25 = .ok (.iload_n 1, 1) := by decide +kernel
theorem dX9_putNumber_26 : decode cX9_putNumber 26 = .ok (.iload_n 2, 1) := by decide +kernel
theorem dX9_putNumber_27 : decode cX9_putNumber 27 = .ok (.iushr, 1) := by decide +kernel
theorem dX9_putNumber_28 : decode cX9_putNumber 28 = .ok (.i2b, 1) := by decide +kernel
theorem dX9_putNumber_29 : decode cX9_putNumber 29 = .ok (.bastore, 1) := by decide +kernel
theorem dX9_putNumber_30 : decode cX9_putNumber 30 = .ok (.aload_n 0, 1) := by decide +kernel
theorem dX9_putNumber_31 : decode cX9_putNumber 31 = .ok (.dup, 1) := by decide +kernel
theorem dX9_putNumber_32 : decode cX9_putNumber 32 = .ok (.getfield 15, 3) := by decide +kernel
theorem dX9_putNumber_35 : decode cX9_putNumber 35 = .ok (.iconst 1, 1) := by decide +kernel
theorem dX9_putNumber_36 : decode cX9_putNumber 36 = .ok (.iadd, 1) := by decide +kernel
theorem dX9_putNumber_37 : decode cX9_putNumber 37 = .ok (.putfield 15, 3) := by decide +kernel
theorem dX9_putNumber_40 : decode cX9_putNumber 40 = .ok (.iinc 2 (-8), 3) := by decide +kernel
theorem dX9_putNumber_43 : decode cX9_putNumber 43 = .ok (.goto (-40), 3) := by decide +kernel
theorem dX9_putNumber_46 : decode cX9_putNumber 46 = .ok (.return_, 1) := by decide +kernel
theorem dX9_keepFirst_0 : decode cX9_keepFirst 0 = .ok (.iload_n 1, 1) := by decide +kernel
theorem dX9_keepFirst_1 : decode cX9_keepFirst 1 = .ok (.ifCond .lt 11, 3) := by decide +kernel
theorem dX9_keepFirst_4 : decode cX9_keepFirst 4 = .ok (.iload_n 1, 1) := by decide +kernel
theorem dX9_keepFirst_5 : decode cX9_keepFirst 5 = .ok (.aload_n 0, 1) := by decide +kernel
theorem dX9_keepFirst_6 : decode cX9_keepFirst 6 = .ok (.getfield 15, 3) := by decide +kernel
theorem dX9_keepFirst_9 : decode cX9_keepFirst 9 = .ok (.if_icmp .le 5, 3) := by decide +kernel
theorem dX9_keepFirst_12 : decode cX9_keepFirst 12 = .ok (.iconst (-1), 1) := by decide +kernel
theorem dX9_keepFirst_13 : decode cX9_keepFirst 13 = .ok (.ireturn, 1) := by decide +kernel
theorem dX9_keepFirst_14 : decode cX9_keepFirst 14 = .ok (.aload_n 0, 1) := by decide +kernel
theorem dX9_keepFirst_15 : decode cX9_keepFirst 15 = .ok (.iload_n 1, 1) := by decide +kernel
theorem dX9_keepFirst_16 : decode cX9_keepFirst 16 = .ok (.putfield 15, 3) := by decide +kernel
theorem dX9_keepFirst_19 : decode cX9_keepFirst 19 = .ok (.iload_n 1, 1) := by decide +kernel
theorem dX9_keepFirst_20 : decode cX9_keepFirst 20 = .ok (.ireturn, 1) := by decide +kernel
theorem dX9_byteAt_0 : decode cX9_byteAt 0 = .ok (.iload_n 1, 1) := by decide +kernel
theorem dX9_byteAt_1 : decode cX9_byteAt 1 = .ok (.ifCond .lt 11, 3) := by decide +kernel
theorem dX9_byteAt_4 : decode cX9_byteAt 4 = .ok (.iload_n 1, 1) := by decide +kernel
theorem dX9_byteAt_5 : decode cX9_byteAt 5 = .ok (.aload_n 0, 1) := by decide +kernel
theorem dX9_byteAt_6 : decode cX9_byteAt 6 = .ok (.getfield 15, 3) := by decide +kernel
theorem dX9_byteAt_9 : decode cX9_byteAt 9 = .ok (.if_icmp .lt 7, 3) := by decide +kernel
theorem dX9_byteAt_12 : decode cX9_byteAt 12 = .ok (.iconst (-1), 1) := by decide +kernel
theorem dX9_byteAt_13 : decode cX9_byteAt 13 = .ok (.goto 13, 3) := by decide +kernel
theorem dX9_byteAt_16 : decode cX9_byteAt 16 = .ok (.aload_n 0, 1) := by decide +kernel
theorem dX9_byteAt_17 : decode cX9_byteAt 17 = .ok (.getfield 11, 3) := by decide +kernel
theorem dX9_byteAt_20 : decode cX9_byteAt 20 = .ok (.iload_n 1, 1) := by decide +kernel
theorem dX9_byteAt_21 : decode cX9_byteAt 21 = .ok (.baload, 1) := by decide +kernel
theorem dX9_byteAt_22 : decode cX9_byteAt 22 = .ok (.sipush 255, 3) := by decide +kernel
theorem dX9_byteAt_25 : decode cX9_byteAt 25 = .ok (.iand, 1) := by decide +kernel
theorem dX9_byteAt_26 : decode cX9_byteAt 26 = .ok (.ireturn, 1) := by decide +kernel
theorem dX9_isLetter_0 : decode cX9_isLetter 0 = .ok (.aload_n 0, 1) := by decide +kernel
theorem dX9_isLetter_1 : decode cX9_isLetter 1 = .ok (.iload_n 1, 1) := by decide +kernel
theorem dX9_isLetter_2 : decode cX9_isLetter 2 = .ok (.invokevirtual 19, 3) := by decide +kernel
theorem dX9_isLetter_5 : decode cX9_isLetter 5 = .ok (.bipush 97, 2) := by decide +kernel
theorem dX9_isLetter_7 : decode cX9_isLetter 7 = .ok (.if_icmp .lt 17, 3) := by decide +kernel
theorem dX9_isLetter_10 : decode cX9_isLetter 10 = .ok (.aload_n 0, 1) := by decide +kernel
theorem dX9_isLetter_11 : decode cX9_isLetter 11 = .ok (.iload_n 1, 1) := by decide +kernel
theorem dX9_isLetter_12 : decode cX9_isLetter 12 = .ok (.invokevirtual 19, 3) := by decide +kernel
theorem dX9_isLetter_15 : decode cX9_isLetter 15 = .ok (.bipush 122, 2) := by decide +kernel
theorem dX9_isLetter_17 : decode cX9_isLetter 17 = .ok (.if_icmp .gt 7, 3) := by decide +kernel
theorem dX9_isLetter_20 : decode cX9_isLetter 20 = .ok (.iconst 1, 1) := by decide +kernel
theorem dX9_isLetter_21 : decode cX9_isLetter 21 = .ok (.goto 4, 3) := by decide +kernel
theorem dX9_isLetter_24 : decode cX9_isLetter 24 = .ok (.iconst 0, 1) := by decide +kernel
theorem dX9_isLetter_25 : decode cX9_isLetter 25 = .ok (.ireturn, 1) := by decide +kernel
theorem dX9_isDigit_0 : decode cX9_isDigit 0 = .ok (.aload_n 0, 1) := by decide +kernel
theorem dX9_isDigit_1 : decode cX9_isDigit 1 = .ok (.iload_n 1, 1) := by decide +kernel
theorem dX9_isDigit_2 : decode cX9_isDigit 2 = .ok (.invokevirtual 19, 3) := by decide +kernel
theorem dX9_isDigit_5 : decode cX9_isDigit 5 = .ok (.bipush 48, 2) := by decide +kernel
theorem dX9_isDigit_7 : decode cX9_isDigit 7 = .ok (.if_icmp .lt 17, 3) := by decide +kernel
theorem dX9_isDigit_10 : decode cX9_isDigit 10 = .ok (.aload_n 0, 1) := by decide +kernel
theorem dX9_isDigit_11 : decode cX9_isDigit 11 = .ok (.iload_n 1, 1) := by decide +kernel
theorem dX9_isDigit_12 : decode cX9_isDigit 12 = .ok (.invokevirtual 19, 3) := by decide +kernel
theorem dX9_isDigit_15 : decode cX9_isDigit 15 = .ok (.bipush 57, 2) := by decide +kernel
theorem dX9_isDigit_17 : decode cX9_isDigit 17 = .ok (.if_icmp .gt 7, 3) := by decide +kernel
theorem dX9_isDigit_20 : decode cX9_isDigit 20 = .ok (.iconst 1, 1) := by decide +kernel
theorem dX9_isDigit_21 : decode cX9_isDigit 21 = .ok (.goto 4, 3) := by decide +kernel
theorem dX9_isDigit_24 : decode cX9_isDigit 24 = .ok (.iconst 0, 1) := by decide +kernel
theorem dX9_isDigit_25 : decode cX9_isDigit 25 = .ok (.ireturn, 1) := by decide +kernel
theorem dX9_hasWord_0 : decode cX9_hasWord 0 = .ok (.iload_n 2, 1) := by decide +kernel
theorem dX9_hasWord_1 : decode cX9_hasWord 1 = .ok (.iload_n 1, 1) := by decide +kernel
theorem dX9_hasWord_2 : decode cX9_hasWord 2 = .ok (.isub, 1) := by decide +kernel
theorem dX9_hasWord_3 : decode cX9_hasWord 3 = .ok (.aload_n 3, 1) := by decide +kernel
theorem dX9_hasWord_4 : decode cX9_hasWord 4 = .ok (.invokevirtual 23, 3) := by decide +kernel
theorem dX9_hasWord_7 : decode cX9_hasWord 7 = .ok (.if_icmp .eq 5, 3) := by decide +kernel
theorem dX9_hasWord_10 : decode cX9_hasWord 10 = .ok (.iconst 0, 1) := by decide +kernel
theorem dX9_hasWord_11 : decode cX9_hasWord 11 = .ok (.ireturn, 1) := by decide +kernel
theorem dX9_hasWord_12 : decode cX9_hasWord 12 = .ok (.iconst 0, 1) := by decide +kernel
theorem dX9_hasWord_13 : decode cX9_hasWord 13 = .ok (.istore 4, 2) := by decide +kernel
theorem dX9_hasWord_15 : decode cX9_hasWord 15 = .ok (.iload 4, 2) := by decide +kernel
theorem dX9_hasWord_17 : decode cX9_hasWord 17 = .ok (.aload_n 3, 1) := by decide +kernel
theorem dX9_hasWord_18 : decode cX9_hasWord 18 = .ok (.invokevirtual 23, 3) := by decide +kernel
theorem dX9_hasWord_21 : decode cX9_hasWord 21 = .ok (.if_icmp .ge 28, 3) := by decide +kernel
theorem dX9_hasWord_24 : decode cX9_hasWord 24 = .ok (.aload_n 0, 1) := by decide +kernel
theorem dX9_hasWord_25 : decode cX9_hasWord 25 = .ok (.iload_n 1, 1) := by decide +kernel
theorem dX9_hasWord_26 : decode cX9_hasWord 26 = .ok (.iload 4, 2) := by decide +kernel
theorem dX9_hasWord_28 : decode cX9_hasWord 28 = .ok (.iadd, 1) := by decide +kernel
theorem dX9_hasWord_29 : decode cX9_hasWord 29 = .ok (.invokevirtual 19, 3) := by decide +kernel
theorem dX9_hasWord_32 : decode cX9_hasWord 32 = .ok (.aload_n 3, 1) := by decide +kernel
theorem dX9_hasWord_33 : decode cX9_hasWord 33 = .ok (.iload 4, 2) := by decide +kernel
theorem dX9_hasWord_35 : decode cX9_hasWord 35 = .ok (.invokevirtual 28, 3) := by decide +kernel
theorem dX9_hasWord_38 : decode cX9_hasWord 38 = .ok (.if_icmp .eq 5, 3) := by decide +kernel
theorem dX9_hasWord_41 : decode cX9_hasWord 41 = .ok (.iconst 0, 1) := by decide +kernel
theorem dX9_hasWord_42 : decode cX9_hasWord 42 = .ok (.ireturn, 1) := by decide +kernel
theorem dX9_hasWord_43 : decode cX9_hasWord 43 = .ok (.iinc 4 1, 3) := by decide +kernel
theorem dX9_hasWord_46 : decode cX9_hasWord 46 = .ok (.goto (-31), 3) := by decide +kernel
theorem dX9_hasWord_49 : decode cX9_hasWord 49 = .ok (.iconst 1, 1) := by decide +kernel
theorem dX9_hasWord_50 : decode cX9_hasWord 50 = .ok (.ireturn, 1) := by decide +kernel
theorem dX10_init_0 : decode cX10_init 0 = .ok (.aload_n 0, 1) := by decide +kernel
theorem dX10_init_1 : decode cX10_init 1 = .ok (.invokespecial 3, 3) := by decide +kernel
theorem dX10_init_4 : decode cX10_init 4 = .ok (.aload_n 0, 1) := by decide +kernel
theorem dX10_init_5 : decode cX10_init 5 = .ok (.new 9, 3) := by decide +kernel
theorem dX10_init_8 : decode cX10_init 8 = .ok (.dup, 1) := by decide +kernel
theorem dX10_init_9 : decode cX10_init 9 = .ok (.invokespecial 11, 3) := by decide +kernel
theorem dX10_init_12 : decode cX10_init 12 = .ok (.putfield 12, 3) := by decide +kernel
theorem dX10_init_15 : decode cX10_init 15 = .ok (.aload_n 0, 1) := by decide +kernel
theorem dX10_init_16 : decode cX10_init 16 = .ok (.new 16, 3) := by decide +kernel
theorem dX10_init_19 : decode cX10_init 19 = .ok (.dup, 1) := by decide +kernel
theorem dX10_init_20 : decode cX10_init 20 = .ok (.invokespecial 18, 3) := by decide +kernel
theorem dX10_init_23 : decode cX10_init 23 = .ok (.putfield 19, 3) := by decide +kernel
theorem dX10_init_26 : decode cX10_init 26 = .ok (.aload_n 0, 1) := by decide +kernel
theorem dX10_init_27 : decode cX10_init 27 = .ok (.new 23, 3) := by decide +kernel
theorem dX10_init_30 : decode cX10_init 30 = .ok (.dup, 1) := by decide +kernel
theorem dX10_init_31 : decode cX10_init 31 = .ok (.invokespecial 25, 3) := by decide +kernel
theorem dX10_init_34 : decode cX10_init 34 = .ok (.putfield 26, 3) := by decide +kernel
theorem dX10_init_37 : decode cX10_init 37 = .ok (.aload_n 0, 1) := by decide +kernel
theorem dX10_init_38 : decode cX10_init 38 = .ok (.new 30, 3) := by decide +kernel
theorem dX10_init_41 : decode cX10_init 41 = .ok (.dup, 1) := by decide +kernel
theorem dX10_init_42 : decode cX10_init 42 = .ok (.invokespecial 32, 3) := by decide +kernel
theorem dX10_init_45 : decode cX10_init 45 = .ok (.putfield 33, 3) := by decide +kernel
theorem dX10_init_48 : decode cX10_init 48 = .ok (.aload_n 0, 1) := by decide +kernel
theorem dX10_init_49 : decode cX10_init 49 = .ok (.new 37, 3) := by decide +kernel
theorem dX10_init_52 : decode cX10_init 52 = .ok (.dup, 1) := by decide +kernel
theorem dX10_init_53 : decode cX10_init 53 = .ok (.aload_n 0, 1) := by decide +kernel
theorem dX10_init_54 : decode cX10_init 54 = .ok (.getfield 26, 3) := by decide +kernel
theorem dX10_init_57 : decode cX10_init 57 = .ok (.invokespecial 39, 3) := by decide +kernel
theorem dX10_init_60 : decode cX10_init 60 = .ok (.putfield 42, 3) := by decide +kernel
theorem dX10_init_63 : decode cX10_init 63 = .ok (.aload_n 0, 1) := by decide +kernel
theorem dX10_init_64 : decode cX10_init 64 = .ok (.new 46, 3) := by decide +kernel
theorem dX10_init_67 : decode cX10_init 67 = .ok (.dup, 1) := by decide +kernel
theorem dX10_init_68 : decode cX10_init 68 = .ok (.aload_n 0, 1) := by decide +kernel
theorem dX10_init_69 : decode cX10_init 69 = .ok (.getfield 33, 3) := by decide +kernel
theorem dX10_init_72 : decode cX10_init 72 = .ok (.aload_n 0, 1) := by decide +kernel
theorem dX10_init_73 : decode cX10_init 73 = .ok (.getfield 12, 3) := by decide +kernel
theorem dX10_init_76 : decode cX10_init 76 = .ok (.aload_n 0, 1) := by decide +kernel
theorem dX10_init_77 : decode cX10_init 77 = .ok (.getfield 19, 3) := by decide +kernel
theorem dX10_init_80 : decode cX10_init 80 = .ok (.invokespecial 48, 3) := by decide +kernel
theorem dX10_init_83 : decode cX10_init 83 = .ok (.putfield 51, 3) := by decide +kernel
theorem dX10_init_86 : decode cX10_init 86 = .ok (.aload_n 0, 1) := by decide +kernel
theorem dX10_init_87 : decode cX10_init 87 = .ok (.new 55, 3) := by decide +kernel
theorem dX10_init_90 : decode cX10_init 90 = .ok (.dup, 1) := by decide +kernel
theorem dX10_init_91 : decode cX10_init 91 = .ok (.aload_n 0, 1) := by decide +kernel
theorem dX10_init_92 : decode cX10_init 92 = .ok (.getfield 51, 3) := by decide +kernel
theorem dX10_init_95 : decode cX10_init 95 = .ok (.aload_n 0, 1) := by decide +kernel
theorem dX10_init_96 : decode cX10_init 96 = .ok (.getfield 33, 3) := by decide +kernel
theorem dX10_init_99 : decode cX10_init 99 = .ok (.aload_n 0, 1) := by decide +kernel
theorem dX10_init_100 : decode cX10_init 100 = .ok (.getfield 12, 3) := by decide +kernel
theorem dX10_init_103 : decode cX10_init 103 = .ok (.invokespecial 57, 3) := by decide +kernel
theorem dX10_init_106 : decode cX10_init 106 = .ok (.putfield 60, 3) := by decide +kernel
theorem dX10_init_109 : decode cX10_init 109 = .ok (.aload_n 0, 1) := by decide +kernel
theorem dX10_init_110 : decode cX10_init 110 = .ok (.new 64, 3) := by decide +kernel
theorem dX10_init_113 : decode cX10_init 113 = .ok (.dup, 1) := by decide +kernel
theorem dX10_init_114 : decode cX10_init 114 = .ok (.aload_n 0, 1) := by decide +kernel
theorem dX10_init_115 : decode cX10_init 115 = .ok (.getfield 51, 3) := by decide +kernel
theorem dX10_init_118 : decode cX10_init 118 = .ok (.invokespecial 66, 3) := by decide +kernel
theorem dX10_init_121 : decode cX10_init 121 = .ok (.putfield 69, 3) := by decide +kernel
theorem dX10_init_124 : decode cX10_init 124 = .ok (.return_, 1) := by decide +kernel
theorem dX10_gang_0 : decode cX10_gang 0 = .ok (.aload_n 0, 1) := by decide +kernel
theorem dX10_gang_1 : decode cX10_gang 1 = .ok (.getfield 51, 3) := by decide +kernel
theorem dX10_gang_4 : decode cX10_gang 4 = .ok (.iload_n 1, 1) := by decide +kernel
theorem dX10_gang_5 : decode cX10_gang 5 = .ok (.invokevirtual 73, 3) := by decide +kernel
theorem dX10_gang_8 : decode cX10_gang 8 = .ok (.ireturn, 1) := by decide +kernel
theorem dX10_boat_0 : decode cX10_boat 0 = .ok (.iload_n 1, 1) := by decide +kernel
theorem dX10_boat_1 : decode cX10_boat 1 = .ok (.aload_n 0, 1) := by decide +kernel
theorem dX10_boat_2 : decode cX10_boat 2 = .ok (.getfield 51, 3) := by decide +kernel
theorem dX10_boat_5 : decode cX10_boat 5 = .ok (.getfield 77, 3) := by decide +kernel
theorem dX10_boat_8 : decode cX10_boat 8 = .ok (.if_icmp .ge 5, 3) := by decide +kernel
theorem dX10_boat_11 : decode cX10_boat 11 = .ok (.iconst (-1), 1) := by decide +kernel
theorem dX10_boat_12 : decode cX10_boat 12 = .ok (.ireturn, 1) := by decide +kernel
theorem dX10_boat_13 : decode cX10_boat 13 = .ok (.aload_n 0, 1) := by decide +kernel
theorem dX10_boat_14 : decode cX10_boat 14 = .ok (.getfield 19, 3) := by decide +kernel
theorem dX10_boat_17 : decode cX10_boat 17 = .ok (.iload_n 1, 1) := by decide +kernel
theorem dX10_boat_18 : decode cX10_boat 18 = .ok (.iload_n 2, 1) := by decide +kernel
theorem dX10_boat_19 : decode cX10_boat 19 = .ok (.invokevirtual 81, 3) := by decide +kernel
theorem dX10_boat_22 : decode cX10_boat 22 = .ok (.ireturn, 1) := by decide +kernel
theorem dX10_spell_0 : decode cX10_spell 0 = .ok (.aload_n 0, 1) := by decide +kernel
theorem dX10_spell_1 : decode cX10_spell 1 = .ok (.getfield 12, 3) := by decide +kernel
theorem dX10_spell_4 : decode cX10_spell 4 = .ok (.iload_n 1, 1) := by decide +kernel
theorem dX10_spell_5 : decode cX10_spell 5 = .ok (.iload_n 2, 1) := by decide +kernel
theorem dX10_spell_6 : decode cX10_spell 6 = .ok (.iload_n 3, 1) := by decide +kernel
theorem dX10_spell_7 : decode cX10_spell 7 = .ok (.invokevirtual 85, 3) := by decide +kernel
theorem dX10_spell_10 : decode cX10_spell 10 = .ok (.ireturn, 1) := by decide +kernel
theorem dX10_feed_0 : decode cX10_feed 0 = .ok (.aload_n 0, 1) := by decide +kernel
theorem dX10_feed_1 : decode cX10_feed 1 = .ok (.getfield 26, 3) := by decide +kernel
theorem dX10_feed_4 : decode cX10_feed 4 = .ok (.invokevirtual 89, 3) := by decide +kernel
theorem dX10_feed_7 : decode cX10_feed 7 = .ok (.ifCond .ne 5, 3) := by decide +kernel
theorem dX10_feed_10 : decode cX10_feed 10 = .ok (.iconst (-1), 1) := by decide +kernel
theorem dX10_feed_11 : decode cX10_feed 11 = .ok (.ireturn, 1) := by decide +kernel
theorem dX10_feed_12 : decode cX10_feed 12 = .ok (.aload_n 0, 1) := by decide +kernel
theorem dX10_feed_13 : decode cX10_feed 13 = .ok (.getfield 26, 3) := by decide +kernel
theorem dX10_feed_16 : decode cX10_feed 16 = .ok (.iload_n 1, 1) := by decide +kernel
theorem dX10_feed_17 : decode cX10_feed 17 = .ok (.invokevirtual 93, 3) := by decide +kernel
theorem dX10_feed_20 : decode cX10_feed 20 = .ok (.aload_n 0, 1) := by decide +kernel
theorem dX10_feed_21 : decode cX10_feed 21 = .ok (.getfield 26, 3) := by decide +kernel
theorem dX10_feed_24 : decode cX10_feed 24 = .ok (.iload_n 2, 1) := by decide +kernel
theorem dX10_feed_25 : decode cX10_feed 25 = .ok (.invokevirtual 93, 3) := by decide +kernel
theorem dX10_feed_28 : decode cX10_feed 28 = .ok (.aload_n 0, 1) := by decide +kernel
theorem dX10_feed_29 : decode cX10_feed 29 = .ok (.getfield 26, 3) := by decide +kernel
theorem dX10_feed_32 : decode cX10_feed 32 = .ok (.iload_n 3, 1) := by decide +kernel
theorem dX10_feed_33 : decode cX10_feed 33 = .ok (.invokevirtual 93, 3) := by decide +kernel
theorem dX10_feed_36 : decode cX10_feed 36 = .ok (.aload_n 0, 1) := by decide +kernel
theorem dX10_feed_37 : decode cX10_feed 37 = .ok (.getfield 26, 3) := by decide +kernel
theorem dX10_feed_40 : decode cX10_feed 40 = .ok (.iload 4, 2) := by decide +kernel
theorem dX10_feed_42 : decode cX10_feed 42 = .ok (.invokevirtual 93, 3) := by decide +kernel
theorem dX10_feed_45 : decode cX10_feed 45 = .ok (.aload_n 0, 1) := by decide +kernel
theorem dX10_feed_46 : decode cX10_feed 46 = .ok (.getfield 26, 3) := by decide +kernel
theorem dX10_feed_49 : decode cX10_feed 49 = .ok (.iload 5, 2) := by decide +kernel
theorem dX10_feed_51 : decode cX10_feed 51 = .ok (.invokevirtual 93, 3) := by decide +kernel
theorem dX10_feed_54 : decode cX10_feed 54 = .ok (.aload_n 0, 1) := by decide +kernel
theorem dX10_feed_55 : decode cX10_feed 55 = .ok (.getfield 26, 3) := by decide +kernel
theorem dX10_feed_58 : decode cX10_feed 58 = .ok (.getfield 97, 3) := by decide +kernel
theorem dX10_feed_61 : decode cX10_feed 61 = .ok (.ireturn, 1) := by decide +kernel
theorem dX10_end_0 : decode cX10_end 0 = .ok (.aload_n 0, 1) := by decide +kernel
theorem dX10_end_1 : decode cX10_end 1 = .ok (.getfield 26, 3) := by decide +kernel
theorem dX10_end_4 : decode cX10_end 4 = .ok (.iload_n 1, 1) := by decide +kernel
theorem dX10_end_5 : decode cX10_end 5 = .ok (.invokevirtual 100, 3) := by decide +kernel
theorem dX10_end_8 : decode cX10_end 8 = .ok (.ireturn, 1) := by decide +kernel
theorem dX10_table_0 : decode cX10_table 0 = .ok (.aload_n 0, 1) := by decide +kernel
theorem dX10_table_1 : decode cX10_table 1 = .ok (.getfield 42, 3) := by decide +kernel
theorem dX10_table_4 : decode cX10_table 4 = .ok (.invokevirtual 103, 3) := by decide +kernel
theorem dX10_table_7 : decode cX10_table 7 = .ok (.istore_n 1, 1) := by decide +kernel
theorem dX10_table_8 : decode cX10_table 8 = .ok (.aload_n 0, 1) := by decide +kernel
theorem dX10_table_9 : decode cX10_table 9 = .ok (.getfield 26, 3) := by decide +kernel
theorem dX10_table_12 : decode cX10_table 12 = .ok (.iconst 0, 1) := by decide +kernel
theorem dX10_table_13 : decode cX10_table 13 = .ok (.invokevirtual 100, 3) := by decide +kernel
theorem dX10_table_16 : decode cX10_table 16 = .ok (.pop, 1) := by decide +kernel
theorem dX10_table_17 : decode cX10_table 17 = .ok (.iload_n 1, 1) := by decide +kernel
theorem dX10_table_18 : decode cX10_table 18 = .ok (.iconst (-1), 1) := by decide +kernel
theorem dX10_table_19 : decode cX10_table 19 = .ok (.if_icmp .eq 8, 3) := by decide +kernel
theorem dX10_table_22 : decode cX10_table 22 = .ok (.bipush (-2), 2) := by decide +kernel
theorem dX10_table_24 : decode cX10_table 24 = .ok (.iload_n 1, 1) := by decide +kernel
theorem dX10_table_25 : decode cX10_table 25 = .ok (.isub, 1) := by decide +kernel
theorem dX10_table_26 : decode cX10_table 26 = .ok (.ireturn, 1) := by decide +kernel
theorem dX10_table_27 : decode cX10_table 27 = .ok (.aload_n 0, 1) := by decide +kernel
theorem dX10_table_28 : decode cX10_table 28 = .ok (.getfield 33, 3) := by decide +kernel
theorem dX10_table_31 : decode cX10_table 31 = .ok (.aload_n 0, 1) := by decide +kernel
theorem dX10_table_32 : decode cX10_table 32 = .ok (.getfield 42, 3) := by decide +kernel
theorem dX10_table_35 : decode cX10_table 35 = .ok (.getfield 107, 3) := by decide +kernel
theorem dX10_table_38 : decode cX10_table 38 = .ok (.invokevirtual 111, 3) := by decide +kernel
theorem dX10_table_41 : decode cX10_table 41 = .ok (.aload_n 0, 1) := by decide +kernel
theorem dX10_table_42 : decode cX10_table 42 = .ok (.getfield 42, 3) := by decide +kernel
theorem dX10_table_45 : decode cX10_table 45 = .ok (.getfield 115, 3) := by decide +kernel
theorem dX10_table_48 : decode cX10_table 48 = .ok (.ireturn, 1) := by decide +kernel
theorem dX10_stone_0 : decode cX10_stone 0 = .ok (.aload_n 0, 1) := by decide +kernel
theorem dX10_stone_1 : decode cX10_stone 1 = .ok (.getfield 51, 3) := by decide +kernel
theorem dX10_stone_4 : decode cX10_stone 4 = .ok (.iload_n 1, 1) := by decide +kernel
theorem dX10_stone_5 : decode cX10_stone 5 = .ok (.iload_n 2, 1) := by decide +kernel
theorem dX10_stone_6 : decode cX10_stone 6 = .ok (.invokevirtual 118, 3) := by decide +kernel
theorem dX10_stone_9 : decode cX10_stone 9 = .ok (.ireturn, 1) := by decide +kernel
theorem dX10_send_0 : decode cX10_send 0 = .ok (.aload_n 0, 1) := by decide +kernel
theorem dX10_send_1 : decode cX10_send 1 = .ok (.getfield 51, 3) := by decide +kernel
theorem dX10_send_4 : decode cX10_send 4 = .ok (.iload_n 1, 1) := by decide +kernel
theorem dX10_send_5 : decode cX10_send 5 = .ok (.iload_n 2, 1) := by decide +kernel
theorem dX10_send_6 : decode cX10_send 6 = .ok (.invokevirtual 121, 3) := by decide +kernel
theorem dX10_send_9 : decode cX10_send 9 = .ok (.ireturn, 1) := by decide +kernel
theorem dX10_raise_0 : decode cX10_raise 0 = .ok (.aload_n 0, 1) := by decide +kernel
theorem dX10_raise_1 : decode cX10_raise 1 = .ok (.getfield 51, 3) := by decide +kernel
theorem dX10_raise_4 : decode cX10_raise 4 = .ok (.iload_n 1, 1) := by decide +kernel
theorem dX10_raise_5 : decode cX10_raise 5 = .ok (.invokevirtual 124, 3) := by decide +kernel
theorem dX10_raise_8 : decode cX10_raise 8 = .ok (.ireturn, 1) := by decide +kernel
theorem dX10_callOff_0 : decode cX10_callOff 0 = .ok (.aload_n 0, 1) := by decide +kernel
theorem dX10_callOff_1 : decode cX10_callOff 1 = .ok (.getfield 51, 3) := by decide +kernel
theorem dX10_callOff_4 : decode cX10_callOff 4 = .ok (.iload_n 1, 1) := by decide +kernel
theorem dX10_callOff_5 : decode cX10_callOff 5 = .ok (.invokevirtual 127, 3) := by decide +kernel
theorem dX10_callOff_8 : decode cX10_callOff 8 = .ok (.ireturn, 1) := by decide +kernel
theorem dX10_pass_0 : decode cX10_pass 0 = .ok (.iload_n 1, 1) := by decide +kernel
theorem dX10_pass_1 : decode cX10_pass 1 = .ok (.iconst 1, 1) := by decide +kernel
theorem dX10_pass_2 : decode cX10_pass 2 = .ok (.if_icmp .lt 25, 3) := by decide +kernel
theorem dX10_pass_5 : decode cX10_pass 5 = .ok (.iload_n 1, 1) := by decide +kernel
theorem dX10_pass_6 : decode cX10_pass 6 = .ok (.sipush 400, 3) := by decide +kernel
theorem dX10_pass_9 : decode cX10_pass 9 = .ok (.if_icmp .gt 18, 3) := by decide +kernel
theorem dX10_pass_12 : decode cX10_pass 12 = .ok (.iload_n 1, 1) := by decide +kernel
theorem dX10_pass_13 : decode cX10_pass 13 = .ok (.sipush 3001, 3) := by decide +kernel
theorem dX10_pass_16 : decode cX10_pass 16 = .ok (.aload_n 0, 1) := by decide +kernel
theorem dX10_pass_17 : decode cX10_pass 17 = .ok (.getfield 51, 3) := by decide +kernel
theorem dX10_pass_20 : decode cX10_pass 20 = .ok (.getfield 77, 3) := by decide +kernel
theorem dX10_pass_23 : decode cX10_pass 23 = .ok (.isub, 1) := by decide +kernel
theorem dX10_pass_24 : decode cX10_pass 24 = .ok (.if_icmp .le 5, 3) := by decide +kernel
theorem dX10_pass_27 : decode cX10_pass 27 = .ok (.iconst (-1), 1) := by decide +kernel
theorem dX10_pass_28 : decode cX10_pass 28 = .ok (.ireturn, 1) := by decide +kernel
theorem dX10_pass_29 : decode cX10_pass 29 = .ok (.iconst 0, 1) := by decide +kernel
theorem dX10_pass_30 : decode cX10_pass 30 = .ok (.istore_n 2, 1) := by decide +kernel
theorem dX10_pass_31 : decode cX10_pass 31 = .ok (.iload_n 2, 1) := by decide +kernel
theorem dX10_pass_32 : decode cX10_pass 32 = .ok (.iload_n 1, 1) := by decide +kernel
theorem dX10_pass_33 : decode cX10_pass 33 = .ok (.if_icmp .ge 16, 3) := by decide +kernel
theorem dX10_pass_36 : decode cX10_pass 36 = .ok (.aload_n 0, 1) := by decide +kernel
theorem dX10_pass_37 : decode cX10_pass 37 = .ok (.getfield 51, 3) := by decide +kernel
theorem dX10_pass_40 : decode cX10_pass 40 = .ok (.invokevirtual 131, 3) := by decide +kernel
theorem dX10_pass_43 : decode cX10_pass 43 = .ok (.iinc 2 1, 3) := by decide +kernel
theorem dX10_pass_46 : decode cX10_pass 46 = .ok (.goto (-15), 3) := by decide +kernel
theorem dX10_pass_49 : decode cX10_pass 49 = .ok (.aload_n 0, 1) := by decide +kernel
theorem dX10_pass_50 : decode cX10_pass 50 = .ok (.getfield 51, 3) := by decide +kernel
theorem dX10_pass_53 : decode cX10_pass 53 = .ok (.getfield 77, 3) := by decide +kernel
theorem dX10_pass_56 : decode cX10_pass 56 = .ok (.ireturn, 1) := by decide +kernel
theorem dX10_about_0 : decode cX10_about 0 = .ok (.aload_n 0, 1) := by decide +kernel
theorem dX10_about_1 : decode cX10_about 1 = .ok (.getfield 51, 3) := by decide +kernel
theorem dX10_about_4 : decode cX10_about 4 = .ok (.iload_n 1, 1) := by decide +kernel
theorem dX10_about_5 : decode cX10_about 5 = .ok (.invokevirtual 134, 3) := by decide +kernel
theorem dX10_about_8 : decode cX10_about 8 = .ok (.astore_n 3, 1) := by decide +kernel
theorem dX10_about_9 : decode cX10_about 9 = .ok (.aload_n 3, 1) := by decide +kernel
theorem dX10_about_10 : decode cX10_about 10 = .ok (.ifnonnull 5, 3) := by decide +kernel
theorem dX10_about_13 : decode cX10_about 13 = .ok (.iconst (-1), 1) := by decide +kernel
theorem dX10_about_14 : decode cX10_about 14 = .ok (.ireturn, 1) := by decide +kernel
theorem dX10_about_15 : decode cX10_about 15 = .ok (.iload_n 2, 1) := by decide +kernel
theorem dX10_about_16 : decode cX10_about 16 = .ok (.tableswitch 66 0 4 #[36, 41, 46, 51, 56], 36) := by decide +kernel
theorem dX10_about_52 : decode cX10_about 52 = .ok (.aload_n 3, 1) := by decide +kernel
theorem dX10_about_53 : decode cX10_about 53 = .ok (.getfield 138, 3) := by decide +kernel
theorem dX10_about_56 : decode cX10_about 56 = .ok (.ireturn, 1) := by decide +kernel
theorem dX10_about_57 : decode cX10_about 57 = .ok (.aload_n 3, 1) := by decide +kernel
theorem dX10_about_58 : decode cX10_about 58 = .ok (.getfield 143, 3) := by decide +kernel
theorem dX10_about_61 : decode cX10_about 61 = .ok (.ireturn, 1) := by decide +kernel
theorem dX10_about_62 : decode cX10_about 62 = .ok (.aload_n 3, 1) := by decide +kernel
theorem dX10_about_63 : decode cX10_about 63 = .ok (.getfield 146, 3) := by decide +kernel
theorem dX10_about_66 : decode cX10_about 66 = .ok (.ireturn, 1) := by decide +kernel
theorem dX10_about_67 : decode cX10_about 67 = .ok (.aload_n 3, 1) := by decide +kernel
theorem dX10_about_68 : decode cX10_about 68 = .ok (.getfield 149, 3) := by decide +kernel
theorem dX10_about_71 : decode cX10_about 71 = .ok (.ireturn, 1) := by decide +kernel
theorem dX10_about_72 : decode cX10_about 72 = .ok (.aload_n 0, 1) := by decide +kernel
theorem dX10_about_73 : decode cX10_about 73 = .ok (.getfield 33, 3) := by decide +kernel
theorem dX10_about_76 : decode cX10_about 76 = .ok (.aload_n 3, 1) := by decide +kernel
theorem dX10_about_77 : decode cX10_about 77 = .ok (.iconst 0, 1) := by decide +kernel
theorem dX10_about_78 : decode cX10_about 78 = .ok (.invokevirtual 152, 3) := by decide +kernel
theorem dX10_about_81 : decode cX10_about 81 = .ok (.ireturn, 1) := by decide +kernel
theorem dX10_about_82 : decode cX10_about 82 = .ok (.iconst (-1), 1) := by decide +kernel
theorem dX10_about_83 : decode cX10_about 83 = .ok (.ireturn, 1) := by decide +kernel
theorem dX10_gangs_0 : decode cX10_gangs 0 = .ok (.aload_n 0, 1) := by decide +kernel
theorem dX10_gangs_1 : decode cX10_gangs 1 = .ok (.getfield 51, 3) := by decide +kernel
theorem dX10_gangs_4 : decode cX10_gangs 4 = .ok (.iload_n 1, 1) := by decide +kernel
theorem dX10_gangs_5 : decode cX10_gangs 5 = .ok (.invokevirtual 156, 3) := by decide +kernel
theorem dX10_gangs_8 : decode cX10_gangs 8 = .ok (.astore_n 3, 1) := by decide +kernel
theorem dX10_gangs_9 : decode cX10_gangs 9 = .ok (.aload_n 3, 1) := by decide +kernel
theorem dX10_gangs_10 : decode cX10_gangs 10 = .ok (.ifnonnull 5, 3) := by decide +kernel
theorem dX10_gangs_13 : decode cX10_gangs 13 = .ok (.iconst (-1), 1) := by decide +kernel
theorem dX10_gangs_14 : decode cX10_gangs 14 = .ok (.ireturn, 1) := by decide +kernel
theorem dX10_gangs_15 : decode cX10_gangs 15 = .ok (.iload_n 2, 1) := by decide +kernel
theorem dX10_gangs_16 : decode cX10_gangs 16 = .ok (.tableswitch 61 0 4 #[36, 41, 46, 51, 56], 36) := by decide +kernel
theorem dX10_gangs_52 : decode cX10_gangs 52 = .ok (.aload_n 3, 1) := by decide +kernel
theorem dX10_gangs_53 : decode cX10_gangs 53 = .ok (.getfield 160, 3) := by decide +kernel
theorem dX10_gangs_56 : decode cX10_gangs 56 = .ok (.ireturn, 1) := by decide +kernel
theorem dX10_gangs_57 : decode cX10_gangs 57 = .ok (.aload_n 3, 1) := by decide +kernel
theorem dX10_gangs_58 : decode cX10_gangs 58 = .ok (.getfield 165, 3) := by decide +kernel
theorem dX10_gangs_61 : decode cX10_gangs 61 = .ok (.ireturn, 1) := by decide +kernel
theorem dX10_gangs_62 : decode cX10_gangs 62 = .ok (.aload_n 3, 1) := by decide +kernel
theorem dX10_gangs_63 : decode cX10_gangs 63 = .ok (.getfield 168, 3) := by decide +kernel
theorem dX10_gangs_66 : decode cX10_gangs 66 = .ok (.ireturn, 1) := by decide +kernel
theorem dX10_gangs_67 : decode cX10_gangs 67 = .ok (.aload_n 3, 1) := by decide +kernel
theorem dX10_gangs_68 : decode cX10_gangs 68 = .ok (.getfield 171, 3) := by decide +kernel
theorem dX10_gangs_71 : decode cX10_gangs 71 = .ok (.ireturn, 1) := by decide +kernel
theorem dX10_gangs_72 : decode cX10_gangs 72 = .ok (.aload_n 3, 1) := by decide +kernel
theorem dX10_gangs_73 : decode cX10_gangs 73 = .ok (.getfield 174, 3) := by decide +kernel
theorem dX10_gangs_76 : decode cX10_gangs 76 = .ok (.ireturn, 1) := by decide +kernel
theorem dX10_gangs_77 : decode cX10_gangs 77 = .ok (.iconst (-1), 1) := by decide +kernel
theorem dX10_gangs_78 : decode cX10_gangs 78 = .ok (.ireturn, 1) := by decide +kernel
theorem dX10_plan_0 : decode cX10_plan 0 = .ok (.aload_n 0, 1) := by decide +kernel
theorem dX10_plan_1 : decode cX10_plan 1 = .ok (.getfield 60, 3) := by decide +kernel
theorem dX10_plan_4 : decode cX10_plan 4 = .ok (.invokevirtual 177, 3) := by decide +kernel
theorem dX10_plan_7 : decode cX10_plan 7 = .ok (.ireturn, 1) := by decide +kernel
theorem dX10_planned_0 : decode cX10_planned 0 = .ok (.aload_n 0, 1) := by decide +kernel
theorem dX10_planned_1 : decode cX10_planned 1 = .ok (.getfield 60, 3) := by decide +kernel
theorem dX10_planned_4 : decode cX10_planned 4 = .ok (.iload_n 1, 1) := by decide +kernel
theorem dX10_planned_5 : decode cX10_planned 5 = .ok (.iload_n 2, 1) := by decide +kernel
theorem dX10_planned_6 : decode cX10_planned 6 = .ok (.invokevirtual 180, 3) := by decide +kernel
theorem dX10_planned_9 : decode cX10_planned 9 = .ok (.ireturn, 1) := by decide +kernel
theorem dX10_tally_0 : decode cX10_tally 0 = .ok (.aload_n 0, 1) := by decide +kernel
theorem dX10_tally_1 : decode cX10_tally 1 = .ok (.getfield 69, 3) := by decide +kernel
theorem dX10_tally_4 : decode cX10_tally 4 = .ok (.iload_n 1, 1) := by decide +kernel
theorem dX10_tally_5 : decode cX10_tally 5 = .ok (.iload_n 2, 1) := by decide +kernel
theorem dX10_tally_6 : decode cX10_tally 6 = .ok (.iload_n 3, 1) := by decide +kernel
theorem dX10_tally_7 : decode cX10_tally 7 = .ok (.iload 4, 2) := by decide +kernel
theorem dX10_tally_9 : decode cX10_tally 9 = .ok (.invokevirtual 183, 3) := by decide +kernel
theorem dX10_tally_12 : decode cX10_tally 12 = .ok (.ireturn, 1) := by decide +kernel
theorem dX10_isTrue_0 : decode cX10_isTrue 0 = .ok (.aload_n 0, 1) := by decide +kernel
theorem dX10_isTrue_1 : decode cX10_isTrue 1 = .ok (.getfield 69, 3) := by decide +kernel
theorem dX10_isTrue_4 : decode cX10_isTrue 4 = .ok (.iload_n 1, 1) := by decide +kernel
theorem dX10_isTrue_5 : decode cX10_isTrue 5 = .ok (.invokevirtual 187, 3) := by decide +kernel
theorem dX10_isTrue_8 : decode cX10_isTrue 8 = .ok (.ireturn, 1) := by decide +kernel
theorem dX10_quarrel_0 : decode cX10_quarrel 0 = .ok (.aload_n 0, 1) := by decide +kernel
theorem dX10_quarrel_1 : decode cX10_quarrel 1 = .ok (.getfield 69, 3) := by decide +kernel
theorem dX10_quarrel_4 : decode cX10_quarrel 4 = .ok (.invokevirtual 190, 3) := by decide +kernel
theorem dX10_quarrel_7 : decode cX10_quarrel 7 = .ok (.ireturn, 1) := by decide +kernel
theorem dX10_quarrels_0 : decode cX10_quarrels 0 = .ok (.aload_n 0, 1) := by decide +kernel
theorem dX10_quarrels_1 : decode cX10_quarrels 1 = .ok (.getfield 69, 3) := by decide +kernel
theorem dX10_quarrels_4 : decode cX10_quarrels 4 = .ok (.iload_n 1, 1) := by decide +kernel
theorem dX10_quarrels_5 : decode cX10_quarrels 5 = .ok (.invokevirtual 193, 3) := by decide +kernel
theorem dX10_quarrels_8 : decode cX10_quarrels 8 = .ok (.ireturn, 1) := by decide +kernel
theorem dX10_count_0 : decode cX10_count 0 = .ok (.iload_n 1, 1) := by decide +kernel
theorem dX10_count_1 : decode cX10_count 1 = .ok (.tableswitch 162 0 11 #[63, 71, 79, 87, 95, 103, 112, 122, 130, 138, 146, 154], 63) := by decide +kernel
theorem dX10_count_64 : decode cX10_count 64 = .ok (.aload_n 0, 1) := by decide +kernel
theorem dX10_count_65 : decode cX10_count 65 = .ok (.getfield 51, 3) := by decide +kernel
theorem dX10_count_68 : decode cX10_count 68 = .ok (.getfield 77, 3) := by decide +kernel
theorem dX10_count_71 : decode cX10_count 71 = .ok (.ireturn, 1) := by decide +kernel
theorem dX10_count_72 : decode cX10_count 72 = .ok (.aload_n 0, 1) := by decide +kernel
theorem dX10_count_73 : decode cX10_count 73 = .ok (.getfield 51, 3) := by decide +kernel
theorem dX10_count_76 : decode cX10_count 76 = .ok (.getfield 196, 3) := by decide +kernel
theorem dX10_count_79 : decode cX10_count 79 = .ok (.ireturn, 1) := by decide +kernel
theorem dX10_count_80 : decode cX10_count 80 = .ok (.aload_n 0, 1) := by decide +kernel
theorem dX10_count_81 : decode cX10_count 81 = .ok (.getfield 51, 3) := by decide +kernel
theorem dX10_count_84 : decode cX10_count 84 = .ok (.getfield 199, 3) := by decide +kernel
theorem dX10_count_87 : decode cX10_count 87 = .ok (.ireturn, 1) := by decide +kernel
theorem dX10_count_88 : decode cX10_count 88 = .ok (.aload_n 0, 1) := by decide +kernel
theorem dX10_count_89 : decode cX10_count 89 = .ok (.getfield 19, 3) := by decide +kernel
theorem dX10_count_92 : decode cX10_count 92 = .ok (.getfield 202, 3) := by decide +kernel
theorem dX10_count_95 : decode cX10_count 95 = .ok (.ireturn, 1) := by decide +kernel
theorem dX10_count_96 : decode cX10_count 96 = .ok (.aload_n 0, 1) := by decide +kernel
theorem dX10_count_97 : decode cX10_count 97 = .ok (.getfield 51, 3) := by decide +kernel
theorem dX10_count_100 : decode cX10_count 100 = .ok (.getfield 205, 3) := by decide +kernel
theorem dX10_count_103 : decode cX10_count 103 = .ok (.ireturn, 1) := by decide +kernel
theorem dX10_count_104 : decode cX10_count 104 = .ok (.aload_n 0, 1) := by decide +kernel
theorem dX10_count_105 : decode cX10_count 105 = .ok (.getfield 51, 3) := by decide +kernel
theorem dX10_count_108 : decode cX10_count 108 = .ok (.iconst 5, 1) := by decide +kernel
theorem dX10_count_109 : decode cX10_count 109 = .ok (.invokevirtual 208, 3) := by decide +kernel
theorem dX10_count_112 : decode cX10_count 112 = .ok (.ireturn, 1) := by decide +kernel
theorem dX10_count_113 : decode cX10_count 113 = .ok (.aload_n 0, 1) := by decide +kernel
theorem dX10_count_114 : decode cX10_count 114 = .ok (.getfield 51, 3) := by decide +kernel
theorem dX10_count_117 : decode cX10_count 117 = .ok (.bipush 6, 2) := by decide +kernel
theorem dX10_count_119 : decode cX10_count 119 = .ok (.invokevirtual 208, 3) := by decide +kernel
theorem dX10_count_122 : decode cX10_count 122 = .ok (.ireturn, 1) := by decide +kernel
theorem dX10_count_123 : decode cX10_count 123 = .ok (.aload_n 0, 1) := by decide +kernel
theorem dX10_count_124 : decode cX10_count 124 = .ok (.getfield 19, 3) := by decide +kernel
theorem dX10_count_127 : decode cX10_count 127 = .ok (.getfield 211, 3) := by decide +kernel
theorem dX10_count_130 : decode cX10_count 130 = .ok (.ireturn, 1) := by decide +kernel
theorem dX10_count_131 : decode cX10_count 131 = .ok (.aload_n 0, 1) := by decide +kernel
theorem dX10_count_132 : decode cX10_count 132 = .ok (.getfield 12, 3) := by decide +kernel
theorem dX10_count_135 : decode cX10_count 135 = .ok (.getfield 214, 3) := by decide +kernel
theorem dX10_count_138 : decode cX10_count 138 = .ok (.ireturn, 1) := by decide +kernel
theorem dX10_count_139 : decode cX10_count 139 = .ok (.aload_n 0, 1) := by decide +kernel
theorem dX10_count_140 : decode cX10_count 140 = .ok (.getfield 26, 3) := by decide +kernel
theorem dX10_count_143 : decode cX10_count 143 = .ok (.getfield 97, 3) := by decide +kernel
theorem dX10_count_146 : decode cX10_count 146 = .ok (.ireturn, 1) := by decide +kernel
theorem dX10_count_147 : decode cX10_count 147 = .ok (.aload_n 0, 1) := by decide +kernel
theorem dX10_count_148 : decode cX10_count 148 = .ok (.getfield 69, 3) := by decide +kernel
theorem dX10_count_151 : decode cX10_count 151 = .ok (.getfield 217, 3) := by decide +kernel
theorem dX10_count_154 : decode cX10_count 154 = .ok (.ireturn, 1) := by decide +kernel
theorem dX10_count_155 : decode cX10_count 155 = .ok (.aload_n 0, 1) := by decide +kernel
theorem dX10_count_156 : decode cX10_count 156 = .ok (.getfield 51, 3) := by decide +kernel
theorem dX10_count_159 : decode cX10_count 159 = .ok (.getfield 220, 3) := by decide +kernel
theorem dX10_count_162 : decode cX10_count 162 = .ok (.ireturn, 1) := by decide +kernel
theorem dX10_count_163 : decode cX10_count 163 = .ok (.aload_n 0, 1) := by decide +kernel
theorem dX10_count_164 : decode cX10_count 164 = .ok (.getfield 33, 3) := by decide +kernel
theorem dX10_count_167 : decode cX10_count 167 = .ok (.iload_n 1, 1) := by decide +kernel
theorem dX10_count_168 : decode cX10_count 168 = .ok (.bipush 20, 2) := by decide +kernel
theorem dX10_count_170 : decode cX10_count 170 = .ok (.if_icmp .ge 7, 3) := by decide +kernel
theorem dX10_count_173 : decode cX10_count 173 = .ok (.iconst (-1), 1) := by decide +kernel
theorem dX10_count_174 : decode cX10_count 174 = .ok (.goto 7, 3) := by decide +kernel
theorem dX10_count_177 : decode cX10_count 177 = .ok (.iload_n 1, 1) := by decide +kernel
theorem dX10_count_178 : decode cX10_count 178 = .ok (.bipush 20, 2) := by decide +kernel
theorem dX10_count_180 : decode cX10_count 180 = .ok (.isub, 1) := by decide +kernel
theorem dX10_count_181 : decode cX10_count 181 = .ok (.invokevirtual 223, 3) := by decide +kernel
theorem dX10_count_184 : decode cX10_count 184 = .ok (.ireturn, 1) := by decide +kernel
theorem dX10_isDay_0 : decode cX10_isDay 0 = .ok (.iload_n 0, 1) := by decide +kernel
theorem dX10_isDay_1 : decode cX10_isDay 1 = .ok (.ifCond .lt 14, 3) := by decide +kernel
theorem dX10_isDay_4 : decode cX10_isDay 4 = .ok (.iload_n 0, 1) := by decide +kernel
theorem dX10_isDay_5 : decode cX10_isDay 5 = .ok (.sipush 3000, 3) := by decide +kernel
theorem dX10_isDay_8 : decode cX10_isDay 8 = .ok (.if_icmp .gt 7, 3) := by decide +kernel
theorem dX10_isDay_11 : decode cX10_isDay 11 = .ok (.iconst 1, 1) := by decide +kernel
theorem dX10_isDay_12 : decode cX10_isDay 12 = .ok (.goto 4, 3) := by decide +kernel
theorem dX10_isDay_15 : decode cX10_isDay 15 = .ok (.iconst 0, 1) := by decide +kernel
theorem dX10_isDay_16 : decode cX10_isDay 16 = .ok (.ireturn, 1) := by decide +kernel
theorem dX10_upwards_0 : decode cX10_upwards 0 = .ok (.iload_n 1, 1) := by decide +kernel
theorem dX10_upwards_1 : decode cX10_upwards 1 = .ok (.iconst 1, 1) := by decide +kernel
theorem dX10_upwards_2 : decode cX10_upwards 2 = .ok (.if_icmp .ge 7, 3) := by decide +kernel
theorem dX10_upwards_5 : decode cX10_upwards 5 = .ok (.iconst (-1), 1) := by decide +kernel
theorem dX10_upwards_6 : decode cX10_upwards 6 = .ok (.goto 10, 3) := by decide +kernel
theorem dX10_upwards_9 : decode cX10_upwards 9 = .ok (.iload_n 0, 1) := by decide +kernel
theorem dX10_upwards_10 : decode cX10_upwards 10 = .ok (.iload_n 1, 1) := by decide +kernel
theorem dX10_upwards_11 : decode cX10_upwards 11 = .ok (.iadd, 1) := by decide +kernel
theorem dX10_upwards_12 : decode cX10_upwards 12 = .ok (.iconst 1, 1) := by decide +kernel
theorem dX10_upwards_13 : decode cX10_upwards 13 = .ok (.isub, 1) := by decide +kernel
theorem dX10_upwards_14 : decode cX10_upwards 14 = .ok (.iload_n 1, 1) := by decide +kernel
theorem dX10_upwards_15 : decode cX10_upwards 15 = .ok (.idiv, 1) := by decide +kernel
theorem dX10_upwards_16 : decode cX10_upwards 16 = .ok (.ireturn, 1) := by decide +kernel
theorem dJ6_bitCount_0f7a4_0 : decode cJ6_bitCount_0f7a4 0 = .ok (.iload_n 0, 1) := by decide +kernel
theorem dJ6_bitCount_0f7a4_1 : decode cJ6_bitCount_0f7a4 1 = .ok (.iload_n 0, 1) := by decide +kernel
theorem dJ6_bitCount_0f7a4_2 : decode cJ6_bitCount_0f7a4 2 = .ok (.iconst 1, 1) := by decide +kernel
theorem dJ6_bitCount_0f7a4_3 : decode cJ6_bitCount_0f7a4 3 = .ok (.iushr, 1) := by decide +kernel
theorem dJ6_bitCount_0f7a4_4 : decode cJ6_bitCount_0f7a4 4 = .ok (.ldc_w 265, 3) := by decide +kernel
theorem dJ6_bitCount_0f7a4_7 : decode cJ6_bitCount_0f7a4 7 = .ok (.iand, 1) := by decide +kernel
theorem dJ6_bitCount_0f7a4_8 : decode cJ6_bitCount_0f7a4 8 = .ok (.isub, 1) := by decide +kernel
theorem dJ6_bitCount_0f7a4_9 : decode cJ6_bitCount_0f7a4 9 = .ok (.istore_n 0, 1) := by decide +kernel
theorem dJ6_bitCount_0f7a4_10 : decode cJ6_bitCount_0f7a4 10 = .ok (.iload_n 0, 1) := by decide +kernel
theorem dJ6_bitCount_0f7a4_11 : decode cJ6_bitCount_0f7a4 11 = .ok (.ldc_w 266, 3) := by decide +kernel
theorem dJ6_bitCount_0f7a4_14 : decode cJ6_bitCount_0f7a4 14 = .ok (.iand, 1) := by decide +kernel
theorem dJ6_bitCount_0f7a4_15 : decode cJ6_bitCount_0f7a4 15 = .ok (.iload_n 0, 1) := by decide +kernel
theorem dJ6_bitCount_0f7a4_16 : decode cJ6_bitCount_0f7a4 16 = .ok (.iconst 2, 1) := by decide +kernel
theorem dJ6_bitCount_0f7a4_17 : decode cJ6_bitCount_0f7a4 17 = .ok (.iushr, 1) := by decide +kernel
theorem dJ6_bitCount_0f7a4_18 : decode cJ6_bitCount_0f7a4 18 = .ok (.ldc_w 266, 3) := by decide +kernel
theorem dJ6_bitCount_0f7a4_21 : decode cJ6_bitCount_0f7a4 21 = .ok (.iand, 1) := by decide +kernel
theorem dJ6_bitCount_0f7a4_22 : decode cJ6_bitCount_0f7a4 22 = .ok (.iadd, 1) := by decide +kernel
theorem dJ6_bitCount_0f7a4_23 : decode cJ6_bitCount_0f7a4 23 = .ok (.istore_n 0, 1) := by decide +kernel
theorem dJ6_bitCount_0f7a4_24 : decode cJ6_bitCount_0f7a4 24 = .ok (.iload_n 0, 1) := by decide +kernel
theorem dJ6_bitCount_0f7a4_25 : decode cJ6_bitCount_0f7a4 25 = .ok (.iload_n 0, 1) := by decide +kernel
theorem dJ6_bitCount_0f7a4_26 : decode cJ6_bitCount_0f7a4 26 = .ok (.iconst 4, 1) := by decide +kernel
theorem dJ6_bitCount_0f7a4_27 : decode cJ6_bitCount_0f7a4 27 = .ok (.iushr, 1) := by decide +kernel
theorem dJ6_bitCount_0f7a4_28 : decode cJ6_bitCount_0f7a4 28 = .ok (.iadd, 1) := by decide +kernel
theorem dJ6_bitCount_0f7a4_29 : decode cJ6_bitCount_0f7a4 29 = .ok (.ldc_w 267, 3) := by decide +kernel
theorem dJ6_bitCount_0f7a4_32 : decode cJ6_bitCount_0f7a4 32 = .ok (.iand, 1) := by decide +kernel
theorem dJ6_bitCount_0f7a4_33 : decode cJ6_bitCount_0f7a4 33 = .ok (.istore_n 0, 1) := by decide +kernel
theorem dJ6_bitCount_0f7a4_34 : decode cJ6_bitCount_0f7a4 34 = .ok (.iload_n 0, 1) := by decide +kernel
theorem dJ6_bitCount_0f7a4_35 : decode cJ6_bitCount_0f7a4 35 = .ok (.iload_n 0, 1) := by decide +kernel
theorem dJ6_bitCount_0f7a4_36 : decode cJ6_bitCount_0f7a4 36 = .ok (.bipush 8, 2) := by decide +kernel
theorem dJ6_bitCount_0f7a4_38 : decode cJ6_bitCount_0f7a4 38 = .ok (.iushr, 1) := by decide +kernel
theorem dJ6_bitCount_0f7a4_39 : decode cJ6_bitCount_0f7a4 39 = .ok (.iadd, 1) := by decide +kernel
theorem dJ6_bitCount_0f7a4_40 : decode cJ6_bitCount_0f7a4 40 = .ok (.istore_n 0, 1) := by decide +kernel
theorem dJ6_bitCount_0f7a4_41 : decode cJ6_bitCount_0f7a4 41 = .ok (.iload_n 0, 1) := by decide +kernel
theorem dJ6_bitCount_0f7a4_42 : decode cJ6_bitCount_0f7a4 42 = .ok (.iload_n 0, 1) := by decide +kernel
theorem dJ6_bitCount_0f7a4_43 : decode cJ6_bitCount_0f7a4 43 = .ok (.bipush 16, 2) := by decide +kernel
theorem dJ6_bitCount_0f7a4_45 : decode cJ6_bitCount_0f7a4 45 = .ok (.iushr, 1) := by decide +kernel
theorem dJ6_bitCount_0f7a4_46 : decode cJ6_bitCount_0f7a4 46 = .ok (.iadd, 1) := by decide +kernel
theorem dJ6_bitCount_0f7a4_47 : decode cJ6_bitCount_0f7a4 47 = .ok (.istore_n 0, 1) := by decide +kernel
theorem dJ6_bitCount_0f7a4_48 : decode cJ6_bitCount_0f7a4 48 = .ok (.iload_n 0, 1) := by decide +kernel
theorem dJ6_bitCount_0f7a4_49 : decode cJ6_bitCount_0f7a4 49 = .ok (.bipush 63, 2) := by decide +kernel
theorem dJ6_bitCount_0f7a4_51 : decode cJ6_bitCount_0f7a4 51 = .ok (.iand, 1) := by decide +kernel
theorem dJ6_bitCount_0f7a4_52 : decode cJ6_bitCount_0f7a4 52 = .ok (.ireturn, 1) := by decide +kernel
theorem dJ9_max_7cf53_0 : decode cJ9_max_7cf53 0 = .ok (.iload_n 0, 1) := by decide +kernel
theorem dJ9_max_7cf53_1 : decode cJ9_max_7cf53 1 = .ok (.iload_n 1, 1) := by decide +kernel
theorem dJ9_max_7cf53_2 : decode cJ9_max_7cf53 2 = .ok (.if_icmp .lt 7, 3) := by decide +kernel
theorem dJ9_max_7cf53_5 : decode cJ9_max_7cf53 5 = .ok (.iload_n 0, 1) := by decide +kernel
theorem dJ9_max_7cf53_6 : decode cJ9_max_7cf53 6 = .ok (.goto 4, 3) := by decide +kernel
theorem dJ9_max_7cf53_9 : decode cJ9_max_7cf53 9 = .ok (.iload_n 1, 1) := by decide +kernel
theorem dJ9_max_7cf53_10 : decode cJ9_max_7cf53 10 = .ok (.ireturn, 1) := by decide +kernel
theorem dJ9_min_7cf53_0 : decode cJ9_min_7cf53 0 = .ok (.iload_n 0, 1) := by decide +kernel
theorem dJ9_min_7cf53_1 : decode cJ9_min_7cf53 1 = .ok (.iload_n 1, 1) := by decide +kernel
theorem dJ9_min_7cf53_2 : decode cJ9_min_7cf53 2 = .ok (.if_icmp .gt 7, 3) := by decide +kernel
theorem dJ9_min_7cf53_5 : decode cJ9_min_7cf53 5 = .ok (.iload_n 0, 1) := by decide +kernel
theorem dJ9_min_7cf53_6 : decode cJ9_min_7cf53 6 = .ok (.goto 4, 3) := by decide +kernel
theorem dJ9_min_7cf53_9 : decode cJ9_min_7cf53 9 = .ok (.iload_n 1, 1) := by decide +kernel
theorem dJ9_min_7cf53_10 : decode cJ9_min_7cf53 10 = .ok (.ireturn, 1) := by decide +kernel
theorem dJ0_length_8abf5_0 : decode cJ0_length_8abf5 0 = .ok (.aload_n 0, 1) := by decide +kernel
theorem dJ0_length_8abf5_1 : decode cJ0_length_8abf5 1 = .ok (.getfield 9, 3) := by decide +kernel
theorem dJ0_length_8abf5_4 : decode cJ0_length_8abf5 4 = .ok (.arraylength, 1) := by decide +kernel
theorem dJ0_length_8abf5_5 : decode cJ0_length_8abf5 5 = .ok (.aload_n 0, 1) := by decide +kernel
theorem dJ0_length_8abf5_6 : decode cJ0_length_8abf5 6 = .ok (.invokevirtual 335, 3) := by decide +kernel
theorem dJ0_length_8abf5_9 : decode cJ0_length_8abf5 9 = .ok (.ishr, 1) := by decide +kernel
theorem dJ0_length_8abf5_10 : decode cJ0_length_8abf5 10 = .ok (.ireturn, 1) := by decide +kernel
theorem dJ0_charAt_5068e_0 : decode cJ0_charAt_5068e 0 = .ok (.aload_n 0, 1) := by decide +kernel
theorem dJ0_charAt_5068e_1 : decode cJ0_charAt_5068e 1 = .ok (.invokevirtual 492, 3) := by decide +kernel
theorem dJ0_charAt_5068e_4 : decode cJ0_charAt_5068e 4 = .ok (.ifCond .eq 12, 3) := by decide +kernel
theorem dJ0_charAt_5068e_7 : decode cJ0_charAt_5068e 7 = .ok (.aload_n 0, 1) := by decide +kernel
theorem dJ0_charAt_5068e_8 : decode cJ0_charAt_5068e 8 = .ok (.getfield 9, 3) := by decide +kernel
theorem dJ0_charAt_5068e_11 : decode cJ0_charAt_5068e 11 = .ok (.iload_n 1, 1) := by decide +kernel
theorem dJ0_charAt_5068e_12 : decode cJ0_charAt_5068e 12 = .ok (.invokestatic 495, 3) := by decide +kernel
theorem dJ0_charAt_5068e_15 : decode cJ0_charAt_5068e 15 = .ok (.ireturn, 1) := by decide +kernel
theorem dJ0_charAt_5068e_16 : decode cJ0_charAt_5068e 16 = .ok (.aload_n 0, 1) := by decide +kernel
theorem dJ0_charAt_5068e_17 : decode cJ0_charAt_5068e 17 = .ok (.getfield 9, 3) := by decide +kernel
theorem dJ0_charAt_5068e_20 : decode cJ0_charAt_5068e 20 = .ok (.iload_n 1, 1) := by decide +kernel
theorem dJ0_charAt_5068e_21 : decode cJ0_charAt_5068e 21 = .ok (.invokestatic 498, 3) := by decide +kernel
theorem dJ0_charAt_5068e_24 : decode cJ0_charAt_5068e 24 = .ok (.ireturn, 1) := by decide +kernel
theorem dJ0_coder_7d493_0 : decode cJ0_coder_7d493 0 = .ok (.getstatic 38, 3) := by decide +kernel
theorem dJ0_coder_7d493_3 : decode cJ0_coder_7d493 3 = .ok (.ifCond .eq 10, 3) := by decide +kernel
theorem dJ0_coder_7d493_6 : decode cJ0_coder_7d493 6 = .ok (.aload_n 0, 1) := by decide +kernel
theorem dJ0_coder_7d493_7 : decode cJ0_coder_7d493 7 = .ok (.getfield 15, 3) := by decide +kernel
theorem dJ0_coder_7d493_10 : decode cJ0_coder_7d493 10 = .ok (.goto 4, 3) := by decide +kernel
theorem dJ0_coder_7d493_13 : decode cJ0_coder_7d493 13 = .ok (.iconst 1, 1) := by decide +kernel
theorem dJ0_coder_7d493_14 : decode cJ0_coder_7d493 14 = .ok (.ireturn, 1) := by decide +kernel
theorem dJ0_isLatin1_aae02_0 : decode cJ0_isLatin1_aae02 0 = .ok (.getstatic 38, 3) := by decide +kernel
theorem dJ0_isLatin1_aae02_3 : decode cJ0_isLatin1_aae02 3 = .ok (.ifCond .eq 14, 3) := by decide +kernel
theorem dJ0_isLatin1_aae02_6 : decode cJ0_isLatin1_aae02 6 = .ok (.aload_n 0, 1) := by decide +kernel
theorem dJ0_isLatin1_aae02_7 : decode cJ0_isLatin1_aae02 7 = .ok (.getfield 15, 3) := by decide +kernel
theorem dJ0_isLatin1_aae02_10 : decode cJ0_isLatin1_aae02 10 = .ok (.ifCond .ne 7, 3) := by decide +kernel
theorem dJ0_isLatin1_aae02_13 : decode cJ0_isLatin1_aae02 13 = .ok (.iconst 1, 1) := by decide +kernel
theorem dJ0_isLatin1_aae02_14 : decode cJ0_isLatin1_aae02 14 = .ok (.goto 4, 3) := by decide +kernel
theorem dJ0_isLatin1_aae02_17 : decode cJ0_isLatin1_aae02 17 = .ok (.iconst 0, 1) := by decide +kernel
theorem dJ0_isLatin1_aae02_18 : decode cJ0_isLatin1_aae02 18 = .ok (.ireturn, 1) := by decide +kernel
theorem dJ0_checkIndex_df160_0 : decode cJ0_checkIndex_df160 0 = .ok (.iload_n 0, 1) := by decide +kernel
theorem dJ0_checkIndex_df160_1 : decode cJ0_checkIndex_df160 1 = .ok (.iload_n 1, 1) := by decide +kernel
theorem dJ0_checkIndex_df160_2 : decode cJ0_checkIndex_df160 2 = .ok (.getstatic 1053, 3) := by decide +kernel
theorem dJ0_checkIndex_df160_5 : decode cJ0_checkIndex_df160 5 = .ok (.invokestatic 1059, 3) := by decide +kernel
theorem dJ0_checkIndex_df160_8 : decode cJ0_checkIndex_df160 8 = .ok (.pop, 1) := by decide +kernel
theorem dJ0_checkIndex_df160_9 : decode cJ0_checkIndex_df160 9 = .ok (.return_, 1) := by decide +kernel
theorem dJ1_charAt_3b067_0 : decode cJ1_charAt_3b067 0 = .ok (.iload_n 1, 1) := by decide +kernel
theorem dJ1_charAt_3b067_1 : decode cJ1_charAt_3b067 1 = .ok (.aload_n 0, 1) := by decide +kernel
theorem dJ1_charAt_3b067_2 : decode cJ1_charAt_3b067 2 = .ok (.arraylength, 1) := by decide +kernel
theorem dJ1_charAt_3b067_3 : decode cJ1_charAt_3b067 3 = .ok (.invokestatic 9, 3) := by decide +kernel
theorem dJ1_charAt_3b067_6 : decode cJ1_charAt_3b067 6 = .ok (.aload_n 0, 1) := by decide +kernel
theorem dJ1_charAt_3b067_7 : decode cJ1_charAt_3b067 7 = .ok (.iload_n 1, 1) := by decide +kernel
theorem dJ1_charAt_3b067_8 : decode cJ1_charAt_3b067 8 = .ok (.baload, 1) := by decide +kernel
theorem dJ1_charAt_3b067_9 : decode cJ1_charAt_3b067 9 = .ok (.sipush 255, 3) := by decide +kernel
theorem dJ1_charAt_3b067_12 : decode cJ1_charAt_3b067 12 = .ok (.iand, 1) := by decide +kernel
theorem dJ1_charAt_3b067_13 : decode cJ1_charAt_3b067 13 = .ok (.i2c, 1) := by decide +kernel
theorem dJ1_charAt_3b067_14 : decode cJ1_charAt_3b067 14 = .ok (.ireturn, 1) := by decide +kernel
theorem dJ2_getChar_3b067_0 : decode cJ2_getChar_3b067 0 = .ok (.getstatic 44, 3) := by decide +kernel
theorem dJ2_getChar_3b067_3 : decode cJ2_getChar_3b067 3 = .ok (.ifCond .ne 25, 3) := by decide +kernel
theorem dJ2_getChar_3b067_6 : decode cJ2_getChar_3b067 6 = .ok (.iload_n 1, 1) := by decide +kernel
theorem dJ2_getChar_3b067_7 : decode cJ2_getChar_3b067 7 = .ok (.ifCond .lt 11, 3) := by decide +kernel
theorem dJ2_getChar_3b067_10 : decode cJ2_getChar_3b067 10 = .ok (.iload_n 1, 1) := by decide +kernel
theorem dJ2_getChar_3b067_11 : decode cJ2_getChar_3b067 11 = .ok (.aload_n 0, 1) := by decide +kernel
theorem dJ2_getChar_3b067_12 : decode cJ2_getChar_3b067 12 = .ok (.invokestatic 48, 3) := by decide +kernel
theorem dJ2_getChar_3b067_15 : decode cJ2_getChar_3b067 15 = .ok (.if_icmp .lt 13, 3) := by decide +kernel
theorem dJ2_getChar_3b067_18 : decode cJ2_getChar_3b067 18 = .ok (.new 52, 3) := by decide +kernel
theorem dJ2_getChar_3b067_21 : decode cJ2_getChar_3b067 21 = .ok (.dup, 1) := by decide +kernel
theorem dJ2_getChar_3b067_22 : decode cJ2_getChar_3b067 22 = .ok (.ldc 54, 2) := by decide +kernel
theorem dJ2_getChar_3b067_24 : decode cJ2_getChar_3b067 24 = .ok (.invokespecial 56, 3) := by decide +kernel
theorem dJ2_getChar_3b067_27 : decode cJ2_getChar_3b067 27 = .ok (.athrow, 1) := by decide +kernel
theorem dJ2_getChar_3b067_28 : decode cJ2_getChar_3b067 28 = .ok (.iload_n 1, 1) := by decide +kernel
theorem dJ2_getChar_3b067_29 : decode cJ2_getChar_3b067 29 = .ok (.iconst 1, 1) := by decide +kernel
theorem dJ2_getChar_3b067_30 : decode cJ2_getChar_3b067 30 = .ok (.ishl, 1) := by decide +kernel
theorem dJ2_getChar_3b067_31 : decode cJ2_getChar_3b067 31 = .ok (.istore_n 1, 1) := by decide +kernel
theorem dJ2_getChar_3b067_32 : decode cJ2_getChar_3b067 32 = .ok (.aload_n 0, 1) := by decide +kernel
theorem dJ2_getChar_3b067_33 : decode cJ2_getChar_3b067 33 = .ok (.iload_n 1, 1) := by decide +kernel
theorem dJ2_getChar_3b067_34 : decode cJ2_getChar_3b067 34 = .ok (.iinc 1 1, 3) := by decide +kernel
theorem dJ2_getChar_3b067_37 : decode cJ2_getChar_3b067 37 = .ok (.baload, 1) := by decide +kernel
theorem dJ2_getChar_3b067_38 : decode cJ2_getChar_3b067 38 = .ok (.sipush 255, 3) := by decide +kernel
theorem dJ2_getChar_3b067_41 : decode cJ2_getChar_3b067 41 = .ok (.iand, 1) := by decide +kernel
theorem dJ2_getChar_3b067_42 : decode cJ2_getChar_3b067 42 = .ok (.getstatic 59, 3) := by decide +kernel
theorem dJ2_getChar_3b067_45 : decode cJ2_getChar_3b067 45 = .ok (.ishl, 1) := by decide +kernel
theorem dJ2_getChar_3b067_46 : decode cJ2_getChar_3b067 46 = .ok (.aload_n 0, 1) := by decide +kernel
theorem dJ2_getChar_3b067_47 : decode cJ2_getChar_3b067 47 = .ok (.iload_n 1, 1) := by decide +kernel
theorem dJ2_getChar_3b067_48 : decode cJ2_getChar_3b067 48 = .ok (.baload, 1) := by decide +kernel
theorem dJ2_getChar_3b067_49 : decode cJ2_getChar_3b067 49 = .ok (.sipush 255, 3) := by decide +kernel
theorem dJ2_getChar_3b067_52 : decode cJ2_getChar_3b067 52 = .ok (.iand, 1) := by decide +kernel
theorem dJ2_getChar_3b067_53 : decode cJ2_getChar_3b067 53 = .ok (.getstatic 63, 3) := by decide +kernel
theorem dJ2_getChar_3b067_56 : decode cJ2_getChar_3b067 56 = .ok (.ishl, 1) := by decide +kernel
theorem dJ2_getChar_3b067_57 : decode cJ2_getChar_3b067 57 = .ok (.ior, 1) := by decide +kernel
theorem dJ2_getChar_3b067_58 : decode cJ2_getChar_3b067 58 = .ok (.i2c, 1) := by decide +kernel
theorem dJ2_getChar_3b067_59 : decode cJ2_getChar_3b067 59 = .ok (.ireturn, 1) := by decide +kernel
theorem dJ2_length_9d52b_0 : decode cJ2_length_9d52b 0 = .ok (.aload_n 0, 1) := by decide +kernel
theorem dJ2_length_9d52b_1 : decode cJ2_length_9d52b 1 = .ok (.arraylength, 1) := by decide +kernel
theorem dJ2_length_9d52b_2 : decode cJ2_length_9d52b 2 = .ok (.iconst 1, 1) := by decide +kernel
theorem dJ2_length_9d52b_3 : decode cJ2_length_9d52b 3 = .ok (.ishr, 1) := by decide +kernel
theorem dJ2_length_9d52b_4 : decode cJ2_length_9d52b 4 = .ok (.ireturn, 1) := by decide +kernel
theorem dJ2_charAt_3b067_0 : decode cJ2_charAt_3b067 0 = .ok (.iload_n 1, 1) := by decide +kernel
theorem dJ2_charAt_3b067_1 : decode cJ2_charAt_3b067 1 = .ok (.aload_n 0, 1) := by decide +kernel
theorem dJ2_charAt_3b067_2 : decode cJ2_charAt_3b067 2 = .ok (.invokestatic 67, 3) := by decide +kernel
theorem dJ2_charAt_3b067_5 : decode cJ2_charAt_3b067 5 = .ok (.aload_n 0, 1) := by decide +kernel
theorem dJ2_charAt_3b067_6 : decode cJ2_charAt_3b067 6 = .ok (.iload_n 1, 1) := by decide +kernel
theorem dJ2_charAt_3b067_7 : decode cJ2_charAt_3b067 7 = .ok (.invokestatic 71, 3) := by decide +kernel
theorem dJ2_charAt_3b067_10 : decode cJ2_charAt_3b067 10 = .ok (.ireturn, 1) := by decide +kernel
theorem dJ2_checkIndex_2214a_0 : decode cJ2_checkIndex_2214a 0 = .ok (.iload_n 0, 1) := by decide +kernel
theorem dJ2_checkIndex_2214a_1 : decode cJ2_checkIndex_2214a 1 = .ok (.aload_n 1, 1) := by decide +kernel
theorem dJ2_checkIndex_2214a_2 : decode cJ2_checkIndex_2214a 2 = .ok (.invokestatic 48, 3) := by decide +kernel
theorem dJ2_checkIndex_2214a_5 : decode cJ2_checkIndex_2214a 5 = .ok (.invokestatic 414, 3) := by decide +kernel
theorem dJ2_checkIndex_2214a_8 : decode cJ2_checkIndex_2214a 8 = .ok (.return_, 1) := by decide +kernel
theorem dJ3_checkIndex_8e157_0 : decode cJ3_checkIndex_8e157 0 = .ok (.iload_n 0, 1) := by decide +kernel
theorem dJ3_checkIndex_8e157_1 : decode cJ3_checkIndex_8e157 1 = .ok (.ifCond .lt 8, 3) := by decide +kernel
theorem dJ3_checkIndex_8e157_4 : decode cJ3_checkIndex_8e157 4 = .ok (.iload_n 0, 1) := by decide +kernel
theorem dJ3_checkIndex_8e157_5 : decode cJ3_checkIndex_8e157 5 = .ok (.iload_n 1, 1) := by decide +kernel
theorem dJ3_checkIndex_8e157_6 : decode cJ3_checkIndex_8e157 6 = .ok (.if_icmp .lt 10, 3) := by decide +kernel
theorem dJ3_checkIndex_8e157_9 : decode cJ3_checkIndex_8e157 9 = .ok (.aload_n 2, 1) := by decide +kernel
theorem dJ3_checkIndex_8e157_10 : decode cJ3_checkIndex_8e157 10 = .ok (.iload_n 0, 1) := by decide +kernel
theorem dJ3_checkIndex_8e157_11 : decode cJ3_checkIndex_8e157 11 = .ok (.iload_n 1, 1) := by decide +kernel
theorem dJ3_checkIndex_8e157_12 : decode cJ3_checkIndex_8e157 12 = .ok (.invokestatic 95, 3) := by decide +kernel
theorem dJ3_checkIndex_8e157_15 : decode cJ3_checkIndex_8e157 15 = .ok (.athrow, 1) := by decide +kernel
theorem dJ3_checkIndex_8e157_16 : decode cJ3_checkIndex_8e157 16 = .ok (.iload_n 0, 1) := by decide +kernel
theorem dJ3_checkIndex_8e157_17 : decode cJ3_checkIndex_8e157 17 = .ok (.ireturn, 1) := by decide +kernel
