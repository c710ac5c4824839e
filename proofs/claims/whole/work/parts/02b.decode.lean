theorem dX3_init_0 : decode cX3_init 0 = .ok (.aload_n 0, 1) := by decide +kernel
theorem dX3_init_1 : decode cX3_init 1 = .ok (.invokespecial 3, 3) := by decide +kernel
theorem dX3_init_4 : decode cX3_init 4 = .ok (.aload_n 0, 1) := by decide +kernel
theorem dX3_init_5 : decode cX3_init 5 = .ok (.bipush 6, 2) := by decide +kernel
theorem dX3_init_7 : decode cX3_init 7 = .ok (.anewarray 9, 3) := by decide +kernel
theorem dX3_init_10 : decode cX3_init 10 = .ok (.putfield 11, 3) := by decide +kernel
theorem dX3_init_13 : decode cX3_init 13 = .ok (.aload_n 0, 1) := by decide +kernel
theorem dX3_init_14 : decode cX3_init 14 = .ok (.bipush 30, 2) := by decide +kernel
theorem dX3_init_16 : decode cX3_init 16 = .ok (.anewarray 17, 3) := by decide +kernel
theorem dX3_init_19 : decode cX3_init 19 = .ok (.putfield 19, 3) := by decide +kernel
theorem dX3_init_22 : decode cX3_init 22 = .ok (.aload_n 0, 1) := by decide +kernel
theorem dX3_init_23 : decode cX3_init 23 = .ok (.iconst 0, 1) := by decide +kernel
theorem dX3_init_24 : decode cX3_init 24 = .ok (.putfield 23, 3) := by decide +kernel
theorem dX3_init_27 : decode cX3_init 27 = .ok (.aload_n 0, 1) := by decide +kernel
theorem dX3_init_28 : decode cX3_init 28 = .ok (.iconst 0, 1) := by decide +kernel
theorem dX3_init_29 : decode cX3_init 29 = .ok (.putfield 27, 3) := by decide +kernel
theorem dX3_init_32 : decode cX3_init 32 = .ok (.aload_n 0, 1) := by decide +kernel
theorem dX3_init_33 : decode cX3_init 33 = .ok (.iconst 0, 1) := by decide +kernel
theorem dX3_init_34 : decode cX3_init 34 = .ok (.putfield 30, 3) := by decide +kernel
theorem dX3_init_37 : decode cX3_init 37 = .ok (.aload_n 0, 1) := by decide +kernel
theorem dX3_init_38 : decode cX3_init 38 = .ok (.iconst 0, 1) := by decide +kernel
theorem dX3_init_39 : decode cX3_init 39 = .ok (.putfield 33, 3) := by decide +kernel
theorem dX3_init_42 : decode cX3_init 42 = .ok (.aload_n 0, 1) := by decide +kernel
theorem dX3_init_43 : decode cX3_init 43 = .ok (.iconst 0, 1) := by decide +kernel
theorem dX3_init_44 : decode cX3_init 44 = .ok (.putfield 36, 3) := by decide +kernel
theorem dX3_init_47 : decode cX3_init 47 = .ok (.aload_n 0, 1) := by decide +kernel
theorem dX3_init_48 : decode cX3_init 48 = .ok (.iconst 0, 1) := by decide +kernel
theorem dX3_init_49 : decode cX3_init 49 = .ok (.putfield 39, 3) := by decide +kernel
theorem dX3_init_52 : decode cX3_init 52 = .ok (.aload_n 0, 1) := by decide +kernel
theorem dX3_init_53 : decode cX3_init 53 = .ok (.aload_n 1, 1) := by decide +kernel
theorem dX3_init_54 : decode cX3_init 54 = .ok (.putfield 42, 3) := by decide +kernel
theorem dX3_init_57 : decode cX3_init 57 = .ok (.aload_n 0, 1) := by decide +kernel
theorem dX3_init_58 : decode cX3_init 58 = .ok (.aload_n 2, 1) := by decide +kernel
theorem dX3_init_59 : decode cX3_init 59 = .ok (.putfield 46, 3) := by decide +kernel
theorem dX3_init_62 : decode cX3_init 62 = .ok (.aload_n 0, 1) := by decide +kernel
theorem dX3_init_63 : decode cX3_init 63 = .ok (.aload_n 3, 1) := by decide +kernel
theorem dX3_init_64 : decode cX3_init 64 = .ok (.putfield 50, 3) := by decide +kernel
theorem dX3_init_67 : decode cX3_init 67 = .ok (.return_, 1) := by decide +kernel
theorem dX3_addGang_0 : decode cX3_addGang 0 = .ok (.aload_n 0, 1) := by decide +kernel
theorem dX3_addGang_1 : decode cX3_addGang 1 = .ok (.getfield 23, 3) := by decide +kernel
theorem dX3_addGang_4 : decode cX3_addGang 4 = .ok (.bipush 6, 2) := by decide +kernel
theorem dX3_addGang_6 : decode cX3_addGang 6 = .ok (.if_icmp .ge 15, 3) := by decide +kernel
theorem dX3_addGang_9 : decode cX3_addGang 9 = .ok (.iload_n 1, 1) := by decide +kernel
theorem dX3_addGang_10 : decode cX3_addGang 10 = .ok (.iconst 1, 1) := by decide +kernel
theorem dX3_addGang_11 : decode cX3_addGang 11 = .ok (.if_icmp .lt 10, 3) := by decide +kernel
theorem dX3_addGang_14 : decode cX3_addGang 14 = .ok (.iload_n 1, 1) := by decide +kernel
theorem dX3_addGang_15 : decode cX3_addGang 15 = .ok (.sipush 200, 3) := by decide +kernel
theorem dX3_addGang_18 : decode cX3_addGang 18 = .ok (.if_icmp .le 5, 3) := by decide +kernel
theorem dX3_addGang_21 : decode cX3_addGang 21 = .ok (.iconst (-1), 1) := by decide +kernel
theorem dX3_addGang_22 : decode cX3_addGang 22 = .ok (.ireturn, 1) := by decide +kernel
theorem dX3_addGang_23 : decode cX3_addGang 23 = .ok (.aload_n 0, 1) := by decide +kernel
theorem dX3_addGang_24 : decode cX3_addGang 24 = .ok (.getfield 11, 3) := by decide +kernel
theorem dX3_addGang_27 : decode cX3_addGang 27 = .ok (.aload_n 0, 1) := by decide +kernel
theorem dX3_addGang_28 : decode cX3_addGang 28 = .ok (.getfield 23, 3) := by decide +kernel
theorem dX3_addGang_31 : decode cX3_addGang 31 = .ok (.new 9, 3) := by decide +kernel
theorem dX3_addGang_34 : decode cX3_addGang 34 = .ok (.dup, 1) := by decide +kernel
theorem dX3_addGang_35 : decode cX3_addGang 35 = .ok (.iload_n 1, 1) := by decide +kernel
theorem dX3_addGang_36 : decode cX3_addGang 36 = .ok (.invokespecial 54, 3) := by decide +kernel
theorem dX3_addGang_39 : decode cX3_addGang 39 = .ok (.aastore, 1) := by decide +kernel
theorem dX3_addGang_40 : decode cX3_addGang 40 = .ok (.aload_n 0, 1) := by decide +kernel
theorem dX3_addGang_41 : decode cX3_addGang 41 = .ok (.dup, 1) := by decide +kernel
theorem dX3_addGang_42 : decode cX3_addGang 42 = .ok (.getfield 30, 3) := by decide +kernel
theorem dX3_addGang_45 : decode cX3_addGang 45 = .ok (.iload_n 1, 1) := by decide +kernel
theorem dX3_addGang_46 : decode cX3_addGang 46 = .ok (.iadd, 1) := by decide +kernel
theorem dX3_addGang_47 : decode cX3_addGang 47 = .ok (.putfield 30, 3) := by decide +kernel
theorem dX3_addGang_50 : decode cX3_addGang 50 = .ok (.aload_n 0, 1) := by decide +kernel
theorem dX3_addGang_51 : decode cX3_addGang 51 = .ok (.dup, 1) := by decide +kernel
theorem dX3_addGang_52 : decode cX3_addGang 52 = .ok (.getfield 23, 3) := by decide +kernel
theorem dX3_addGang_55 : decode cX3_addGang 55 = .ok (.dup_x1, 1) := by decide +kernel
theorem dX3_addGang_56 : decode cX3_addGang 56 = .ok (.iconst 1, 1) := by decide +kernel
theorem dX3_addGang_57 : decode cX3_addGang 57 = .ok (.iadd, 1) := by decide +kernel
theorem dX3_addGang_58 : decode cX3_addGang 58 = .ok (.putfield 23, 3) := by decide +kernel
theorem dX3_addGang_61 : decode cX3_addGang 61 = .ok (.ireturn, 1) := by decide +kernel
theorem dX3_addStone_0 : decode cX3_addStone 0 = .ok (.aload_n 0, 1) := by decide +kernel
theorem dX3_addStone_1 : decode cX3_addStone 1 = .ok (.getfield 27, 3) := by decide +kernel
theorem dX3_addStone_4 : decode cX3_addStone 4 = .ok (.bipush 30, 2) := by decide +kernel
theorem dX3_addStone_6 : decode cX3_addStone 6 = .ok (.if_icmp .ge 14, 3) := by decide +kernel
theorem dX3_addStone_9 : decode cX3_addStone 9 = .ok (.iload_n 1, 1) := by decide +kernel
theorem dX3_addStone_10 : decode cX3_addStone 10 = .ok (.iconst 1, 1) := by decide +kernel
theorem dX3_addStone_11 : decode cX3_addStone 11 = .ok (.if_icmp .lt 9, 3) := by decide +kernel
theorem dX3_addStone_14 : decode cX3_addStone 14 = .ok (.iload_n 1, 1) := by decide +kernel
theorem dX3_addStone_15 : decode cX3_addStone 15 = .ok (.bipush 99, 2) := by decide +kernel
theorem dX3_addStone_17 : decode cX3_addStone 17 = .ok (.if_icmp .le 5, 3) := by decide +kernel
theorem dX3_addStone_20 : decode cX3_addStone 20 = .ok (.iconst (-1), 1) := by decide +kernel
theorem dX3_addStone_21 : decode cX3_addStone 21 = .ok (.ireturn, 1) := by decide +kernel
theorem dX3_addStone_22 : decode cX3_addStone 22 = .ok (.iload_n 2, 1) := by decide +kernel
theorem dX3_addStone_23 : decode cX3_addStone 23 = .ok (.ifCond .lt 9, 3) := by decide +kernel
theorem dX3_addStone_26 : decode cX3_addStone 26 = .ok (.iload_n 2, 1) := by decide +kernel
theorem dX3_addStone_27 : decode cX3_addStone 27 = .ok (.bipush 10, 2) := by decide +kernel
theorem dX3_addStone_29 : decode cX3_addStone 29 = .ok (.if_icmp .lt 5, 3) := by decide +kernel
theorem dX3_addStone_32 : decode cX3_addStone 32 = .ok (.iconst (-1), 1) := by decide +kernel
theorem dX3_addStone_33 : decode cX3_addStone 33 = .ok (.ireturn, 1) := by decide +kernel
theorem dX3_addStone_34 : decode cX3_addStone 34 = .ok (.aload_n 0, 1) := by decide +kernel
theorem dX3_addStone_35 : decode cX3_addStone 35 = .ok (.getfield 19, 3) := by decide +kernel
theorem dX3_addStone_38 : decode cX3_addStone 38 = .ok (.aload_n 0, 1) := by decide +kernel
theorem dX3_addStone_39 : decode cX3_addStone 39 = .ok (.getfield 27, 3) := by decide +kernel
theorem dX3_addStone_42 : decode cX3_addStone 42 = .ok (.new 17, 3) := by decide +kernel
theorem dX3_addStone_45 : decode cX3_addStone 45 = .ok (.dup, 1) := by decide +kernel
theorem dX3_addStone_46 : decode cX3_addStone 46 = .ok (.iload_n 1, 1) := by decide +kernel
theorem dX3_addStone_47 : decode cX3_addStone 47 = .ok (.iload_n 2, 1) := by decide +kernel
theorem dX3_addStone_48 : decode cX3_addStone 48 = .ok (.invokespecial 57, 3) := by decide +kernel
theorem dX3_addStone_51 : decode cX3_addStone 51 = .ok (.aastore, 1) := by decide +kernel
theorem dX3_addStone_52 : decode cX3_addStone 52 = .ok (.aload_n 0, 1) := by decide +kernel
theorem dX3_addStone_53 : decode cX3_addStone 53 = .ok (.dup, 1) := by decide +kernel
theorem dX3_addStone_54 : decode cX3_addStone 54 = .ok (.getfield 27, 3) := by decide +kernel
theorem dX3_addStone_57 : decode cX3_addStone 57 = .ok (.dup_x1, 1) := by decide +kernel
theorem dX3_addStone_58 : decode cX3_addStone 58 = .ok (.iconst 1, 1) := by decide +kernel
theorem dX3_addStone_59 : decode cX3_addStone 59 = .ok (.iadd, 1) := by decide +kernel
theorem dX3_addStone_60 : decode cX3_addStone 60 = .ok (.putfield 27, 3) := by decide +kernel
theorem dX3_addStone_63 : decode cX3_addStone 63 = .ok (.ireturn, 1) := by decide +kernel
theorem dX3_gangAt_0 : decode cX3_gangAt 0 = .ok (.iload_n 1, 1) := by decide +kernel
theorem dX3_gangAt_1 : decode cX3_gangAt 1 = .ok (.ifCond .lt 11, 3) := by decide +kernel
theorem dX3_gangAt_4 : decode cX3_gangAt 4 = .ok (.iload_n 1, 1) := by decide +kernel
theorem dX3_gangAt_5 : decode cX3_gangAt 5 = .ok (.aload_n 0, 1) := by decide +kernel
theorem dX3_gangAt_6 : decode cX3_gangAt 6 = .ok (.getfield 23, 3) := by decide +kernel
theorem dX3_gangAt_9 : decode cX3_gangAt 9 = .ok (.if_icmp .lt 7, 3) := by decide +kernel
theorem dX3_gangAt_12 : decode cX3_gangAt 12 = .ok (.aconst_null, 1) := by decide +kernel
theorem dX3_gangAt_13 : decode cX3_gangAt 13 = .ok (.goto 9, 3) := by decide +kernel
theorem dX3_gangAt_16 : decode cX3_gangAt 16 = .ok (.aload_n 0, 1) := by decide +kernel
theorem dX3_gangAt_17 : decode cX3_gangAt 17 = .ok (.getfield 11, 3) := by decide +kernel
theorem dX3_gangAt_20 : decode cX3_gangAt 20 = .ok (.iload_n 1, 1) := by decide +kernel
theorem dX3_gangAt_21 : decode cX3_gangAt 21 = .ok (.aaload, 1) := by decide +kernel
theorem dX3_gangAt_22 : decode cX3_gangAt 22 = .ok (.areturn, 1) := by decide +kernel
theorem dX3_stoneAt_0 : decode cX3_stoneAt 0 = .ok (.iload_n 1, 1) := by decide +kernel
theorem dX3_stoneAt_1 : decode cX3_stoneAt 1 = .ok (.ifCond .lt 11, 3) := by decide +kernel
theorem dX3_stoneAt_4 : decode cX3_stoneAt 4 = .ok (.iload_n 1, 1) := by decide +kernel
theorem dX3_stoneAt_5 : decode cX3_stoneAt 5 = .ok (.aload_n 0, 1) := by decide +kernel
theorem dX3_stoneAt_6 : decode cX3_stoneAt 6 = .ok (.getfield 27, 3) := by decide +kernel
theorem dX3_stoneAt_9 : decode cX3_stoneAt 9 = .ok (.if_icmp .lt 7, 3) := by decide +kernel
theorem dX3_stoneAt_12 : decode cX3_stoneAt 12 = .ok (.aconst_null, 1) := by decide +kernel
theorem dX3_stoneAt_13 : decode cX3_stoneAt 13 = .ok (.goto 9, 3) := by decide +kernel
theorem dX3_stoneAt_16 : decode cX3_stoneAt 16 = .ok (.aload_n 0, 1) := by decide +kernel
theorem dX3_stoneAt_17 : decode cX3_stoneAt 17 = .ok (.getfield 19, 3) := by decide +kernel
theorem dX3_stoneAt_20 : decode cX3_stoneAt 20 = .ok (.iload_n 1, 1) := by decide +kernel
theorem dX3_stoneAt_21 : decode cX3_stoneAt 21 = .ok (.aaload, 1) := by decide +kernel
theorem dX3_stoneAt_22 : decode cX3_stoneAt 22 = .ok (.areturn, 1) := by decide +kernel
theorem dX3_stonesThatAre_0 : decode cX3_stonesThatAre 0 = .ok (.iconst 0, 1) := by decide +kernel
theorem dX3_stonesThatAre_1 : decode cX3_stonesThatAre 1 = .ok (.istore_n 2, 1) := by decide +kernel
theorem dX3_stonesThatAre_2 : decode cX3_stonesThatAre 2 = .ok (.iconst 0, 1) := by decide +kernel
theorem dX3_stonesThatAre_3 : decode cX3_stonesThatAre 3 = .ok (.istore_n 3, 1) := by decide +kernel
theorem dX3_stonesThatAre_4 : decode cX3_stonesThatAre 4 = .ok (.iload_n 3, 1) := by decide +kernel
theorem dX3_stonesThatAre_5 : decode cX3_stonesThatAre 5 = .ok (.aload_n 0, 1) := by decide +kernel
theorem dX3_stonesThatAre_6 : decode cX3_stonesThatAre 6 = .ok (.getfield 27, 3) := by decide +kernel
theorem dX3_stonesThatAre_9 : decode cX3_stonesThatAre 9 = .ok (.if_icmp .ge 25, 3) := by decide +kernel
theorem dX3_stonesThatAre_12 : decode cX3_stonesThatAre 12 = .ok (.aload_n 0, 1) := by decide +kernel
theorem dX3_stonesThatAre_13 : decode cX3_stonesThatAre 13 = .ok (.getfield 19, 3) := by decide +kernel
theorem dX3_stonesThatAre_16 : decode cX3_stonesThatAre 16 = .ok (.iload_n 3, 1) := by decide +kernel
theorem dX3_stonesThatAre_17 : decode cX3_stonesThatAre 17 = .ok (.aaload, 1) := by decide +kernel
theorem dX3_stonesThatAre_18 : decode cX3_stonesThatAre 18 = .ok (.getfield 60, 3) := by decide +kernel
theorem dX3_stonesThatAre_21 : decode cX3_stonesThatAre 21 = .ok (.iload_n 1, 1) := by decide +kernel
theorem dX3_stonesThatAre_22 : decode cX3_stonesThatAre 22 = .ok (.if_icmp .ne 6, 3) := by decide +kernel
theorem dX3_stonesThatAre_25 : decode cX3_stonesThatAre 25 = .ok (.iinc 2 1, 3) := by decide +kernel
theorem dX3_stonesThatAre_28 : decode cX3_stonesThatAre 28 = .ok (.iinc 3 1, 3) := by decide +kernel
theorem dX3_stonesThatAre_31 : decode cX3_stonesThatAre 31 = .ok (.goto (-27), 3) := by decide +kernel
theorem dX3_stonesThatAre_34 : decode cX3_stonesThatAre 34 = .ok (.iload_n 2, 1) := by decide +kernel
theorem dX3_stonesThatAre_35 : decode cX3_stonesThatAre 35 = .ok (.ireturn, 1) := by decide +kernel
theorem dX3_stonesLaidBy_0 : decode cX3_stonesLaidBy 0 = .ok (.iconst 0, 1) := by decide +kernel
theorem dX3_stonesLaidBy_1 : decode cX3_stonesLaidBy 1 = .ok (.istore 4, 2) := by decide +kernel
theorem dX3_stonesLaidBy_3 : decode cX3_stonesLaidBy 3 = .ok (.iconst 0, 1) := by decide +kernel
theorem dX3_stonesLaidBy_4 : decode cX3_stonesLaidBy 4 = .ok (.istore 5, 2) := by decide +kernel
theorem dX3_stonesLaidBy_6 : decode cX3_stonesLaidBy 6 = .ok (.iload 5, 2) := by decide +kernel
theorem dX3_stonesLaidBy_8 : decode cX3_stonesLaidBy 8 = .ok (.aload_n 0, 1) := by decide +kernel
theorem dX3_stonesLaidBy_9 : decode cX3_stonesLaidBy 9 = .ok (.getfield 27, 3) := by decide +kernel
theorem dX3_stonesLaidBy_12 : decode cX3_stonesLaidBy 12 = .ok (.if_icmp .ge 48, 3) := by decide +kernel
theorem dX3_stonesLaidBy_15 : decode cX3_stonesLaidBy 15 = .ok (.aload_n 0, 1) := by decide +kernel
theorem dX3_stonesLaidBy_16 : decode cX3_stonesLaidBy 16 = .ok (.getfield 19, 3) := by decide +kernel
theorem dX3_stonesLaidBy_19 : decode cX3_stonesLaidBy 19 = .ok (.iload 5, 2) := by decide +kernel
theorem dX3_stonesLaidBy_21 : decode cX3_stonesLaidBy 21 = .ok (.aaload, 1) := by decide +kernel
theorem dX3_stonesLaidBy_22 : decode cX3_stonesLaidBy 22 = .ok (.astore 6, 2) := by decide +kernel
theorem dX3_stonesLaidBy_24 : decode cX3_stonesLaidBy 24 = .ok (.aload 6, 2) := by decide +kernel
theorem dX3_stonesLaidBy_26 : decode cX3_stonesLaidBy 26 = .ok (.getfield 63, 3) := by decide +kernel
theorem dX3_stonesLaidBy_29 : decode cX3_stonesLaidBy 29 = .ok (.iload_n 1, 1) := by decide +kernel
theorem dX3_stonesLaidBy_30 : decode cX3_stonesLaidBy 30 = .ok (.if_icmp .ne 24, 3) := by decide +kernel
theorem dX3_stonesLaidBy_33 : decode cX3_stonesLaidBy 33 = .ok (.aload 6, 2) := by decide +kernel
theorem dX3_stonesLaidBy_35 : decode cX3_stonesLaidBy 35 = .ok (.getfield 66, 3) := by decide +kernel
theorem dX3_stonesLaidBy_38 : decode cX3_stonesLaidBy 38 = .ok (.iload_n 2, 1) := by decide +kernel
theorem dX3_stonesLaidBy_39 : decode cX3_stonesLaidBy 39 = .ok (.if_icmp .lt 15, 3) := by decide +kernel
theorem dX3_stonesLaidBy_42 : decode cX3_stonesLaidBy 42 = .ok (.aload 6, 2) := by decide +kernel
theorem dX3_stonesLaidBy_44 : decode cX3_stonesLaidBy 44 = .ok (.getfield 66, 3) := by decide +kernel
theorem dX3_stonesLaidBy_47 : decode cX3_stonesLaidBy 47 = .ok (.iload_n 3, 1) := by decide +kernel
theorem dX3_stonesLaidBy_48 : decode cX3_stonesLaidBy 48 = .ok (.if_icmp .gt 6, 3) := by decide +kernel
theorem dX3_stonesLaidBy_51 : decode cX3_stonesLaidBy 51 = .ok (.iinc 4 1, 3) := by decide +kernel
theorem dX3_stonesLaidBy_54 : decode cX3_stonesLaidBy 54 = .ok (.iinc 5 1, 3) := by decide +kernel
theorem dX3_stonesLaidBy_57 : decode cX3_stonesLaidBy 57 = .ok (.goto (-51), 3) := by decide +kernel
theorem dX3_stonesLaidBy_60 : decode cX3_stonesLaidBy 60 = .ok (.iload 4, 2) := by decide +kernel
theorem dX3_stonesLaidBy_62 : decode cX3_stonesLaidBy 62 = .ok (.ireturn, 1) := by decide +kernel
theorem dX3_sendToStone_0 : decode cX3_sendToStone 0 = .ok (.aload_n 0, 1) := by decide +kernel
theorem dX3_sendToStone_1 : decode cX3_sendToStone 1 = .ok (.iload_n 1, 1) := by decide +kernel
theorem dX3_sendToStone_2 : decode cX3_sendToStone 2 = .ok (.invokevirtual 69, 3) := by decide +kernel
theorem dX3_sendToStone_5 : decode cX3_sendToStone 5 = .ok (.astore_n 3, 1) := by decide +kernel
theorem dX3_sendToStone_6 : decode cX3_sendToStone 6 = .ok (.aload_n 0, 1) := by decide +kernel
theorem dX3_sendToStone_7 : decode cX3_sendToStone 7 = .ok (.iload_n 2, 1) := by decide +kernel
theorem dX3_sendToStone_8 : decode cX3_sendToStone 8 = .ok (.invokevirtual 73, 3) := by decide +kernel
theorem dX3_sendToStone_11 : decode cX3_sendToStone 11 = .ok (.astore 4, 2) := by decide +kernel
theorem dX3_sendToStone_13 : decode cX3_sendToStone 13 = .ok (.aload_n 3, 1) := by decide +kernel
theorem dX3_sendToStone_14 : decode cX3_sendToStone 14 = .ok (.ifnull 18, 3) := by decide +kernel
theorem dX3_sendToStone_17 : decode cX3_sendToStone 17 = .ok (.aload 4, 2) := by decide +kernel
theorem dX3_sendToStone_19 : decode cX3_sendToStone 19 = .ok (.ifnull 13, 3) := by decide +kernel
theorem dX3_sendToStone_22 : decode cX3_sendToStone 22 = .ok (.aload_n 0, 1) := by decide +kernel
theorem dX3_sendToStone_23 : decode cX3_sendToStone 23 = .ok (.getfield 36, 3) := by decide +kernel
theorem dX3_sendToStone_26 : decode cX3_sendToStone 26 = .ok (.sipush 3000, 3) := by decide +kernel
theorem dX3_sendToStone_29 : decode cX3_sendToStone 29 = .ok (.if_icmp .le 5, 3) := by decide +kernel
theorem dX3_sendToStone_32 : decode cX3_sendToStone 32 = .ok (.iconst 1, 1) := by decide +kernel
theorem dX3_sendToStone_33 : decode cX3_sendToStone 33 = .ok (.ireturn, 1) := by decide +kernel
theorem dX3_sendToStone_34 : decode cX3_sendToStone 34 = .ok (.aload_n 3, 1) := by decide +kernel
theorem dX3_sendToStone_35 : decode cX3_sendToStone 35 = .ok (.getfield 77, 3) := by decide +kernel
theorem dX3_sendToStone_38 : decode cX3_sendToStone 38 = .ok (.iconst (-1), 1) := by decide +kernel
theorem dX3_sendToStone_39 : decode cX3_sendToStone 39 = .ok (.if_icmp .eq 5, 3) := by decide +kernel
theorem dX3_sendToStone_42 : decode cX3_sendToStone 42 = .ok (.iconst 2, 1) := by decide +kernel
theorem dX3_sendToStone_43 : decode cX3_sendToStone 43 = .ok (.ireturn, 1) := by decide +kernel
theorem dX3_sendToStone_44 : decode cX3_sendToStone 44 = .ok (.aload 4, 2) := by decide +kernel
theorem dX3_sendToStone_46 : decode cX3_sendToStone 46 = .ok (.getfield 80, 3) := by decide +kernel
theorem dX3_sendToStone_49 : decode cX3_sendToStone 49 = .ok (.iconst (-1), 1) := by decide +kernel
theorem dX3_sendToStone_50 : decode cX3_sendToStone 50 = .ok (.if_icmp .eq 5, 3) := by decide +kernel
theorem dX3_sendToStone_53 : decode cX3_sendToStone 53 = .ok (.iconst 3, 1) := by decide +kernel
theorem dX3_sendToStone_54 : decode cX3_sendToStone 54 = .ok (.ireturn, 1) := by decide +kernel
theorem dX3_sendToStone_55 : decode cX3_sendToStone 55 = .ok (.aload 4, 2) := by decide +kernel
theorem dX3_sendToStone_57 : decode cX3_sendToStone 57 = .ok (.invokevirtual 83, 3) := by decide +kernel
theorem dX3_sendToStone_60 : decode cX3_sendToStone 60 = .ok (.ifCond .eq 7, 3) := by decide +kernel
theorem dX3_sendToStone_63 : decode cX3_sendToStone 63 = .ok (.iconst 4, 1) := by decide +kernel
theorem dX3_sendToStone_64 : decode cX3_sendToStone 64 = .ok (.goto 10, 3) := by decide +kernel
theorem dX3_sendToStone_67 : decode cX3_sendToStone 67 = .ok (.aload_n 0, 1) := by decide +kernel
theorem dX3_sendToStone_68 : decode cX3_sendToStone 68 = .ok (.aload_n 3, 1) := by decide +kernel
theorem dX3_sendToStone_69 : decode cX3_sendToStone 69 = .ok (.aload 4, 2) := by decide +kernel
theorem dX3_sendToStone_71 : decode cX3_sendToStone 71 = .ok (.invokevirtual 87, 3) := by decide +kernel
theorem dX3_sendToStone_74 : decode cX3_sendToStone 74 = .ok (.istore 5, 2) := by decide +kernel
theorem dX3_sendToStone_76 : decode cX3_sendToStone 76 = .ok (.iload 5, 2) := by decide +kernel
theorem dX3_sendToStone_78 : decode cX3_sendToStone 78 = .ok (.ifCond .ne 23, 3) := by decide +kernel
theorem dX3_sendToStone_81 : decode cX3_sendToStone 81 = .ok (.aload_n 3, 1) := by decide +kernel
theorem dX3_sendToStone_82 : decode cX3_sendToStone 82 = .ok (.iload_n 2, 1) := by decide +kernel
theorem dX3_sendToStone_83 : decode cX3_sendToStone 83 = .ok (.aload_n 0, 1) := by decide +kernel
theorem dX3_sendToStone_84 : decode cX3_sendToStone 84 = .ok (.getfield 42, 3) := by decide +kernel
theorem dX3_sendToStone_87 : decode cX3_sendToStone 87 = .ok (.aload 4, 2) := by decide +kernel
theorem dX3_sendToStone_89 : decode cX3_sendToStone 89 = .ok (.invokevirtual 91, 3) := by decide +kernel
theorem dX3_sendToStone_92 : decode cX3_sendToStone 92 = .ok (.invokevirtual 97, 3) := by decide +kernel
theorem dX3_sendToStone_95 : decode cX3_sendToStone 95 = .ok (.aload 4, 2) := by decide +kernel
theorem dX3_sendToStone_97 : decode cX3_sendToStone 97 = .ok (.iload_n 1, 1) := by decide +kernel
theorem dX3_sendToStone_98 : decode cX3_sendToStone 98 = .ok (.putfield 80, 3) := by decide +kernel
theorem dX3_sendToStone_101 : decode cX3_sendToStone 101 = .ok (.iload 5, 2) := by decide +kernel
theorem dX3_sendToStone_103 : decode cX3_sendToStone 103 = .ok (.ireturn, 1) := by decide +kernel
theorem dX3_hindranceOfNext_0 : decode cX3_hindranceOfNext 0 = .ok (.aload_n 0, 1) := by decide +kernel
theorem dX3_hindranceOfNext_1 : decode cX3_hindranceOfNext 1 = .ok (.getfield 42, 3) := by decide +kernel
theorem dX3_hindranceOfNext_4 : decode cX3_hindranceOfNext 4 = .ok (.aload_n 2, 1) := by decide +kernel
theorem dX3_hindranceOfNext_5 : decode cX3_hindranceOfNext 5 = .ok (.aload_n 0, 1) := by decide +kernel
theorem dX3_hindranceOfNext_6 : decode cX3_hindranceOfNext 6 = .ok (.getfield 46, 3) := by decide +kernel
theorem dX3_hindranceOfNext_9 : decode cX3_hindranceOfNext 9 = .ok (.iconst 1, 1) := by decide +kernel
theorem dX3_hindranceOfNext_10 : decode cX3_hindranceOfNext 10 = .ok (.aload_n 0, 1) := by decide +kernel
theorem dX3_hindranceOfNext_11 : decode cX3_hindranceOfNext 11 = .ok (.getfield 36, 3) := by decide +kernel
theorem dX3_hindranceOfNext_14 : decode cX3_hindranceOfNext 14 = .ok (.invokevirtual 100, 3) := by decide +kernel
theorem dX3_hindranceOfNext_17 : decode cX3_hindranceOfNext 17 = .ok (.invokevirtual 106, 3) := by decide +kernel
theorem dX3_hindranceOfNext_20 : decode cX3_hindranceOfNext 20 = .ok (.istore_n 3, 1) := by decide +kernel
theorem dX3_hindranceOfNext_21 : decode cX3_hindranceOfNext 21 = .ok (.iload_n 3, 1) := by decide +kernel
theorem dX3_hindranceOfNext_22 : decode cX3_hindranceOfNext 22 = .ok (.aload_n 0, 1) := by decide +kernel
theorem dX3_hindranceOfNext_23 : decode cX3_hindranceOfNext 23 = .ok (.getfield 42, 3) := by decide +kernel
theorem dX3_hindranceOfNext_26 : decode cX3_hindranceOfNext 26 = .ok (.bipush 7, 2) := by decide +kernel
theorem dX3_hindranceOfNext_28 : decode cX3_hindranceOfNext 28 = .ok (.invokevirtual 110, 3) := by decide +kernel
theorem dX3_hindranceOfNext_31 : decode cX3_hindranceOfNext 31 = .ok (.if_icmp .le 5, 3) := by decide +kernel
theorem dX3_hindranceOfNext_34 : decode cX3_hindranceOfNext 34 = .ok (.iconst 5, 1) := by decide +kernel
theorem dX3_hindranceOfNext_35 : decode cX3_hindranceOfNext 35 = .ok (.ireturn, 1) := by decide +kernel
theorem dX3_hindranceOfNext_36 : decode cX3_hindranceOfNext 36 = .ok (.iload_n 3, 1) := by decide +kernel
theorem dX3_hindranceOfNext_37 : decode cX3_hindranceOfNext 37 = .ok (.aload_n 1, 1) := by decide +kernel
theorem dX3_hindranceOfNext_38 : decode cX3_hindranceOfNext 38 = .ok (.getfield 114, 3) := by decide +kernel
theorem dX3_hindranceOfNext_41 : decode cX3_hindranceOfNext 41 = .ok (.if_icmp .le 6, 3) := by decide +kernel
theorem dX3_hindranceOfNext_44 : decode cX3_hindranceOfNext 44 = .ok (.bipush 6, 2) := by decide +kernel
theorem dX3_hindranceOfNext_46 : decode cX3_hindranceOfNext 46 = .ok (.ireturn, 1) := by decide +kernel
theorem dX3_hindranceOfNext_47 : decode cX3_hindranceOfNext 47 = .ok (.aload_n 2, 1) := by decide +kernel
theorem dX3_hindranceOfNext_48 : decode cX3_hindranceOfNext 48 = .ok (.getfield 60, 3) := by decide +kernel
theorem dX3_hindranceOfNext_51 : decode cX3_hindranceOfNext 51 = .ok (.iconst 2, 1) := by decide +kernel
theorem dX3_hindranceOfNext_52 : decode cX3_hindranceOfNext 52 = .ok (.if_icmp .ne 21, 3) := by decide +kernel
theorem dX3_hindranceOfNext_55 : decode cX3_hindranceOfNext 55 = .ok (.aload_n 0, 1) := by decide +kernel
theorem dX3_hindranceOfNext_56 : decode cX3_hindranceOfNext 56 = .ok (.getfield 46, 3) := by decide +kernel
theorem dX3_hindranceOfNext_59 : decode cX3_hindranceOfNext 59 = .ok (.iconst 0, 1) := by decide +kernel
theorem dX3_hindranceOfNext_60 : decode cX3_hindranceOfNext 60 = .ok (.aload_n 0, 1) := by decide +kernel
theorem dX3_hindranceOfNext_61 : decode cX3_hindranceOfNext 61 = .ok (.getfield 36, 3) := by decide +kernel
theorem dX3_hindranceOfNext_64 : decode cX3_hindranceOfNext 64 = .ok (.invokevirtual 100, 3) := by decide +kernel
theorem dX3_hindranceOfNext_67 : decode cX3_hindranceOfNext 67 = .ok (.ifCond .ne 6, 3) := by decide +kernel
theorem dX3_hindranceOfNext_70 : decode cX3_hindranceOfNext 70 = .ok (.bipush 7, 2) := by decide +kernel
theorem dX3_hindranceOfNext_72 : decode cX3_hindranceOfNext 72 = .ok (.ireturn, 1) := by decide +kernel
theorem dX3_hindranceOfNext_73 : decode cX3_hindranceOfNext 73 = .ok (.aload_n 2, 1) := by decide +kernel
theorem dX3_hindranceOfNext_74 : decode cX3_hindranceOfNext 74 = .ok (.getfield 60, 3) := by decide +kernel
theorem dX3_hindranceOfNext_77 : decode cX3_hindranceOfNext 77 = .ok (.iconst 3, 1) := by decide +kernel
theorem dX3_hindranceOfNext_78 : decode cX3_hindranceOfNext 78 = .ok (.if_icmp .ne 17, 3) := by decide +kernel
theorem dX3_hindranceOfNext_81 : decode cX3_hindranceOfNext 81 = .ok (.aload_n 0, 1) := by decide +kernel
theorem dX3_hindranceOfNext_82 : decode cX3_hindranceOfNext 82 = .ok (.getfield 33, 3) := by decide +kernel
theorem dX3_hindranceOfNext_85 : decode cX3_hindranceOfNext 85 = .ok (.aload_n 2, 1) := by decide +kernel
theorem dX3_hindranceOfNext_86 : decode cX3_hindranceOfNext 86 = .ok (.getfield 117, 3) := by decide +kernel
theorem dX3_hindranceOfNext_89 : decode cX3_hindranceOfNext 89 = .ok (.if_icmp .gt 6, 3) := by decide +kernel
theorem dX3_hindranceOfNext_92 : decode cX3_hindranceOfNext 92 = .ok (.bipush 8, 2) := by decide +kernel
theorem dX3_hindranceOfNext_94 : decode cX3_hindranceOfNext 94 = .ok (.ireturn, 1) := by decide +kernel
theorem dX3_hindranceOfNext_95 : decode cX3_hindranceOfNext 95 = .ok (.aload_n 2, 1) := by decide +kernel
theorem dX3_hindranceOfNext_96 : decode cX3_hindranceOfNext 96 = .ok (.getfield 60, 3) := by decide +kernel
theorem dX3_hindranceOfNext_99 : decode cX3_hindranceOfNext 99 = .ok (.iconst 4, 1) := by decide +kernel
theorem dX3_hindranceOfNext_100 : decode cX3_hindranceOfNext 100 = .ok (.if_icmp .ne 16, 3) := by decide +kernel
theorem dX3_hindranceOfNext_103 : decode cX3_hindranceOfNext 103 = .ok (.aload_n 0, 1) := by decide +kernel
theorem dX3_hindranceOfNext_104 : decode cX3_hindranceOfNext 104 = .ok (.aload_n 2, 1) := by decide +kernel
theorem dX3_hindranceOfNext_105 : decode cX3_hindranceOfNext 105 = .ok (.invokevirtual 120, 3) := by decide +kernel
theorem dX3_hindranceOfNext_108 : decode cX3_hindranceOfNext 108 = .ok (.ifCond .eq 8, 3) := by decide +kernel
theorem dX3_hindranceOfNext_111 : decode cX3_hindranceOfNext 111 = .ok (.bipush 9, 2) := by decide +kernel
theorem dX3_hindranceOfNext_113 : decode cX3_hindranceOfNext 113 = .ok (.goto 4, 3) := by decide +kernel
theorem dX3_hindranceOfNext_116 : decode cX3_hindranceOfNext 116 = .ok (.iconst 0, 1) := by decide +kernel
theorem dX3_hindranceOfNext_117 : decode cX3_hindranceOfNext 117 = .ok (.ireturn, 1) := by decide +kernel
theorem dX3_waitsForLesser_0 : decode cX3_waitsForLesser 0 = .ok (.iconst 0, 1) := by decide +kernel
theorem dX3_waitsForLesser_1 : decode cX3_waitsForLesser 1 = .ok (.istore_n 2, 1) := by decide +kernel
theorem dX3_waitsForLesser_2 : decode cX3_waitsForLesser 2 = .ok (.iload_n 2, 1) := by decide +kernel
theorem dX3_waitsForLesser_3 : decode cX3_waitsForLesser 3 = .ok (.aload_n 0, 1) := by decide +kernel
theorem dX3_waitsForLesser_4 : decode cX3_waitsForLesser 4 = .ok (.getfield 27, 3) := by decide +kernel
theorem dX3_waitsForLesser_7 : decode cX3_waitsForLesser 7 = .ok (.if_icmp .ge 39, 3) := by decide +kernel
theorem dX3_waitsForLesser_10 : decode cX3_waitsForLesser 10 = .ok (.aload_n 0, 1) := by decide +kernel
theorem dX3_waitsForLesser_11 : decode cX3_waitsForLesser 11 = .ok (.getfield 19, 3) := by decide +kernel
theorem dX3_waitsForLesser_14 : decode cX3_waitsForLesser 14 = .ok (.iload_n 2, 1) := by decide +kernel
theorem dX3_waitsForLesser_15 : decode cX3_waitsForLesser 15 = .ok (.aaload, 1) := by decide +kernel
theorem dX3_waitsForLesser_16 : decode cX3_waitsForLesser 16 = .ok (.getfield 117, 3) := by decide +kernel
theorem dX3_waitsForLesser_19 : decode cX3_waitsForLesser 19 = .ok (.aload_n 1, 1) := by decide +kernel
theorem dX3_waitsForLesser_20 : decode cX3_waitsForLesser 20 = .ok (.getfield 117, 3) := by decide +kernel
theorem dX3_waitsForLesser_23 : decode cX3_waitsForLesser 23 = .ok (.if_icmp .ge 17, 3) := by decide +kernel
theorem dX3_waitsForLesser_26 : decode cX3_waitsForLesser 26 = .ok (.aload_n 0, 1) := by decide +kernel
theorem dX3_waitsForLesser_27 : decode cX3_waitsForLesser 27 = .ok (.getfield 19, 3) := by decide +kernel
theorem dX3_waitsForLesser_30 : decode cX3_waitsForLesser 30 = .ok (.iload_n 2, 1) := by decide +kernel
theorem dX3_waitsForLesser_31 : decode cX3_waitsForLesser 31 = .ok (.aaload, 1) := by decide +kernel
theorem dX3_waitsForLesser_32 : decode cX3_waitsForLesser 32 = .ok (.invokevirtual 83, 3) := by decide +kernel
theorem dX3_waitsForLesser_35 : decode cX3_waitsForLesser 35 = .ok (.ifCond .ne 5, 3) := by decide +kernel
theorem dX3_waitsForLesser_38 : decode cX3_waitsForLesser 38 = .ok (.iconst 1, 1) := by decide +kernel
theorem dX3_waitsForLesser_39 : decode cX3_waitsForLesser 39 = .ok (.ireturn, 1) := by decide +kernel
theorem dX3_waitsForLesser_40 : decode cX3_waitsForLesser 40 = .ok (.iinc 2 1, 3) := by decide +kernel
theorem dX3_waitsForLesser_43 : decode cX3_waitsForLesser 43 = .ok (.goto (-41), 3) := by decide +kernel
theorem dX3_waitsForLesser_46 : decode cX3_waitsForLesser 46 = .ok (.iconst 0, 1) := by decide +kernel
theorem dX3_waitsForLesser_47 : decode cX3_waitsForLesser 47 = .ok (.ireturn, 1) := by decide +kernel
theorem dX3_sendToRamp_0 : decode cX3_sendToRamp 0 = .ok (.aload_n 0, 1) := by decide +kernel
theorem dX3_sendToRamp_1 : decode cX3_sendToRamp 1 = .ok (.iload_n 1, 1) := by decide +kernel
theorem dX3_sendToRamp_2 : decode cX3_sendToRamp 2 = .ok (.invokevirtual 69, 3) := by decide +kernel
theorem dX3_sendToRamp_5 : decode cX3_sendToRamp 5 = .ok (.astore_n 2, 1) := by decide +kernel
theorem dX3_sendToRamp_6 : decode cX3_sendToRamp 6 = .ok (.aload_n 2, 1) := by decide +kernel
theorem dX3_sendToRamp_7 : decode cX3_sendToRamp 7 = .ok (.ifnull 13, 3) := by decide +kernel
theorem dX3_sendToRamp_10 : decode cX3_sendToRamp 10 = .ok (.aload_n 0, 1) := by decide +kernel
theorem dX3_sendToRamp_11 : decode cX3_sendToRamp 11 = .ok (.getfield 36, 3) := by decide +kernel
theorem dX3_sendToRamp_14 : decode cX3_sendToRamp 14 = .ok (.sipush 3000, 3) := by decide +kernel
theorem dX3_sendToRamp_17 : decode cX3_sendToRamp 17 = .ok (.if_icmp .le 5, 3) := by decide +kernel
theorem dX3_sendToRamp_20 : decode cX3_sendToRamp 20 = .ok (.iconst 1, 1) := by decide +kernel
theorem dX3_sendToRamp_21 : decode cX3_sendToRamp 21 = .ok (.ireturn, 1) := by decide +kernel
theorem dX3_sendToRamp_22 : decode cX3_sendToRamp 22 = .ok (.aload_n 2, 1) := by decide +kernel
theorem dX3_sendToRamp_23 : decode cX3_sendToRamp 23 = .ok (.getfield 77, 3) := by decide +kernel
theorem dX3_sendToRamp_26 : decode cX3_sendToRamp 26 = .ok (.iconst (-1), 1) := by decide +kernel
theorem dX3_sendToRamp_27 : decode cX3_sendToRamp 27 = .ok (.if_icmp .eq 5, 3) := by decide +kernel
theorem dX3_sendToRamp_30 : decode cX3_sendToRamp 30 = .ok (.iconst 2, 1) := by decide +kernel
theorem dX3_sendToRamp_31 : decode cX3_sendToRamp 31 = .ok (.ireturn, 1) := by decide +kernel
theorem dX3_sendToRamp_32 : decode cX3_sendToRamp 32 = .ok (.aload_n 0, 1) := by decide +kernel
theorem dX3_sendToRamp_33 : decode cX3_sendToRamp 33 = .ok (.invokevirtual 124, 3) := by decide +kernel
theorem dX3_sendToRamp_36 : decode cX3_sendToRamp 36 = .ok (.ifCond .eq 5, 3) := by decide +kernel
theorem dX3_sendToRamp_39 : decode cX3_sendToRamp 39 = .ok (.iconst 3, 1) := by decide +kernel
theorem dX3_sendToRamp_40 : decode cX3_sendToRamp 40 = .ok (.ireturn, 1) := by decide +kernel
theorem dX3_sendToRamp_41 : decode cX3_sendToRamp 41 = .ok (.aload_n 0, 1) := by decide +kernel
theorem dX3_sendToRamp_42 : decode cX3_sendToRamp 42 = .ok (.getfield 33, 3) := by decide +kernel
theorem dX3_sendToRamp_45 : decode cX3_sendToRamp 45 = .ok (.bipush 10, 2) := by decide +kernel
theorem dX3_sendToRamp_47 : decode cX3_sendToRamp 47 = .ok (.if_icmp .lt 5, 3) := by decide +kernel
theorem dX3_sendToRamp_50 : decode cX3_sendToRamp 50 = .ok (.iconst 4, 1) := by decide +kernel
theorem dX3_sendToRamp_51 : decode cX3_sendToRamp 51 = .ok (.ireturn, 1) := by decide +kernel
theorem dX3_sendToRamp_52 : decode cX3_sendToRamp 52 = .ok (.aload_n 2, 1) := by decide +kernel
theorem dX3_sendToRamp_53 : decode cX3_sendToRamp 53 = .ok (.bipush 30, 2) := by decide +kernel
theorem dX3_sendToRamp_55 : decode cX3_sendToRamp 55 = .ok (.aload_n 0, 1) := by decide +kernel
theorem dX3_sendToRamp_56 : decode cX3_sendToRamp 56 = .ok (.getfield 42, 3) := by decide +kernel
theorem dX3_sendToRamp_59 : decode cX3_sendToRamp 59 = .ok (.bipush 8, 2) := by decide +kernel
theorem dX3_sendToRamp_61 : decode cX3_sendToRamp 61 = .ok (.invokevirtual 110, 3) := by decide +kernel
theorem dX3_sendToRamp_64 : decode cX3_sendToRamp 64 = .ok (.aload_n 0, 1) := by decide +kernel
theorem dX3_sendToRamp_65 : decode cX3_sendToRamp 65 = .ok (.getfield 33, 3) := by decide +kernel
theorem dX3_sendToRamp_68 : decode cX3_sendToRamp 68 = .ok (.iconst 1, 1) := by decide +kernel
theorem dX3_sendToRamp_69 : decode cX3_sendToRamp 69 = .ok (.iadd, 1) := by decide +kernel
theorem dX3_sendToRamp_70 : decode cX3_sendToRamp 70 = .ok (.imul, 1) := by decide +kernel
theorem dX3_sendToRamp_71 : decode cX3_sendToRamp 71 = .ok (.invokevirtual 97, 3) := by decide +kernel
theorem dX3_sendToRamp_74 : decode cX3_sendToRamp 74 = .ok (.iconst 0, 1) := by decide +kernel
theorem dX3_sendToRamp_75 : decode cX3_sendToRamp 75 = .ok (.ireturn, 1) := by decide +kernel
theorem dX3_isRampRaised_0 : decode cX3_isRampRaised 0 = .ok (.iconst 0, 1) := by decide +kernel
theorem dX3_isRampRaised_1 : decode cX3_isRampRaised 1 = .ok (.istore_n 1, 1) := by decide +kernel
theorem dX3_isRampRaised_2 : decode cX3_isRampRaised 2 = .ok (.iload_n 1, 1) := by decide +kernel
theorem dX3_isRampRaised_3 : decode cX3_isRampRaised 3 = .ok (.aload_n 0, 1) := by decide +kernel
theorem dX3_isRampRaised_4 : decode cX3_isRampRaised 4 = .ok (.getfield 23, 3) := by decide +kernel
theorem dX3_isRampRaised_7 : decode cX3_isRampRaised 7 = .ok (.if_icmp .ge 25, 3) := by decide +kernel
theorem dX3_isRampRaised_10 : decode cX3_isRampRaised 10 = .ok (.aload_n 0, 1) := by decide +kernel
theorem dX3_isRampRaised_11 : decode cX3_isRampRaised 11 = .ok (.getfield 11, 3) := by decide +kernel
theorem dX3_isRampRaised_14 : decode cX3_isRampRaised 14 = .ok (.iload_n 1, 1) := by decide +kernel
theorem dX3_isRampRaised_15 : decode cX3_isRampRaised 15 = .ok (.aaload, 1) := by decide +kernel
theorem dX3_isRampRaised_16 : decode cX3_isRampRaised 16 = .ok (.getfield 77, 3) := by decide +kernel
theorem dX3_isRampRaised_19 : decode cX3_isRampRaised 19 = .ok (.bipush 30, 2) := by decide +kernel
theorem dX3_isRampRaised_21 : decode cX3_isRampRaised 21 = .ok (.if_icmp .ne 5, 3) := by decide +kernel
theorem dX3_isRampRaised_24 : decode cX3_isRampRaised 24 = .ok (.iconst 1, 1) := by decide +kernel
theorem dX3_isRampRaised_25 : decode cX3_isRampRaised 25 = .ok (.ireturn, 1) := by decide +kernel
theorem dX3_isRampRaised_26 : decode cX3_isRampRaised 26 = .ok (.iinc 1 1, 3) := by decide +kernel
theorem dX3_isRampRaised_29 : decode cX3_isRampRaised 29 = .ok (.goto (-27), 3) := by decide +kernel
theorem dX3_isRampRaised_32 : decode cX3_isRampRaised 32 = .ok (.iconst 0, 1) := by decide +kernel
theorem dX3_isRampRaised_33 : decode cX3_isRampRaised 33 = .ok (.ireturn, 1) := by decide +kernel
theorem dX3_stopWork_0 : decode cX3_stopWork 0 = .ok (.aload_n 0, 1) := by decide +kernel
theorem dX3_stopWork_1 : decode cX3_stopWork 1 = .ok (.iload_n 1, 1) := by decide +kernel
theorem dX3_stopWork_2 : decode cX3_stopWork 2 = .ok (.invokevirtual 69, 3) := by decide +kernel
theorem dX3_stopWork_5 : decode cX3_stopWork 5 = .ok (.astore_n 2, 1) := by decide +kernel
theorem dX3_stopWork_6 : decode cX3_stopWork 6 = .ok (.aload_n 2, 1) := by decide +kernel
theorem dX3_stopWork_7 : decode cX3_stopWork 7 = .ok (.ifnull 11, 3) := by decide +kernel
theorem dX3_stopWork_10 : decode cX3_stopWork 10 = .ok (.aload_n 2, 1) := by decide +kernel
theorem dX3_stopWork_11 : decode cX3_stopWork 11 = .ok (.getfield 77, 3) := by decide +kernel
theorem dX3_stopWork_14 : decode cX3_stopWork 14 = .ok (.iconst (-1), 1) := by decide +kernel
theorem dX3_stopWork_15 : decode cX3_stopWork 15 = .ok (.if_icmp .ne 5, 3) := by decide +kernel
theorem dX3_stopWork_18 : decode cX3_stopWork 18 = .ok (.iconst 0, 1) := by decide +kernel
theorem dX3_stopWork_19 : decode cX3_stopWork 19 = .ok (.ireturn, 1) := by decide +kernel
theorem dX3_stopWork_20 : decode cX3_stopWork 20 = .ok (.aload_n 0, 1) := by decide +kernel
theorem dX3_stopWork_21 : decode cX3_stopWork 21 = .ok (.aload_n 2, 1) := by decide +kernel
theorem dX3_stopWork_22 : decode cX3_stopWork 22 = .ok (.invokevirtual 127, 3) := by decide +kernel
theorem dX3_stopWork_25 : decode cX3_stopWork 25 = .ok (.iconst 1, 1) := by decide +kernel
theorem dX3_stopWork_26 : decode cX3_stopWork 26 = .ok (.ireturn, 1) := by decide +kernel
theorem dX3_leaveWork_0 : decode cX3_leaveWork 0 = .ok (.aload_n 0, 1) := by decide +kernel
theorem dX3_leaveWork_1 : decode cX3_leaveWork 1 = .ok (.aload_n 1, 1) := by decide +kernel
theorem dX3_leaveWork_2 : decode cX3_leaveWork 2 = .ok (.getfield 77, 3) := by decide +kernel
theorem dX3_leaveWork_5 : decode cX3_leaveWork 5 = .ok (.invokevirtual 73, 3) := by decide +kernel
theorem dX3_leaveWork_8 : decode cX3_leaveWork 8 = .ok (.astore_n 2, 1) := by decide +kernel
theorem dX3_leaveWork_9 : decode cX3_leaveWork 9 = .ok (.aload_n 2, 1) := by decide +kernel
theorem dX3_leaveWork_10 : decode cX3_leaveWork 10 = .ok (.ifnull 22, 3) := by decide +kernel
theorem dX3_leaveWork_13 : decode cX3_leaveWork 13 = .ok (.aload_n 2, 1) := by decide +kernel
theorem dX3_leaveWork_14 : decode cX3_leaveWork 14 = .ok (.iconst (-1), 1) := by decide +kernel
theorem dX3_leaveWork_15 : decode cX3_leaveWork 15 = .ok (.putfield 80, 3) := by decide +kernel
theorem dX3_leaveWork_18 : decode cX3_leaveWork 18 = .ok (.aload_n 2, 1) := by decide +kernel
theorem dX3_leaveWork_19 : decode cX3_leaveWork 19 = .ok (.getfield 60, 3) := by decide +kernel
theorem dX3_leaveWork_22 : decode cX3_leaveWork 22 = .ok (.iconst 2, 1) := by decide +kernel
theorem dX3_leaveWork_23 : decode cX3_leaveWork 23 = .ok (.if_icmp .ne 9, 3) := by decide +kernel
theorem dX3_leaveWork_26 : decode cX3_leaveWork 26 = .ok (.aload_n 2, 1) := by decide +kernel
theorem dX3_leaveWork_27 : decode cX3_leaveWork 27 = .ok (.bipush 6, 2) := by decide +kernel
theorem dX3_leaveWork_29 : decode cX3_leaveWork 29 = .ok (.putfield 60, 3) := by decide +kernel
theorem dX3_leaveWork_32 : decode cX3_leaveWork 32 = .ok (.aload_n 1, 1) := by decide +kernel
theorem dX3_leaveWork_33 : decode cX3_leaveWork 33 = .ok (.invokevirtual 131, 3) := by decide +kernel
theorem dX3_leaveWork_36 : decode cX3_leaveWork 36 = .ok (.return_, 1) := by decide +kernel
theorem dX3_liveDay_0 : decode cX3_liveDay 0 = .ok (.aload_n 0, 1) := by decide +kernel
theorem dX3_liveDay_1 : decode cX3_liveDay 1 = .ok (.getfield 50, 3) := by decide +kernel
theorem dX3_liveDay_4 : decode cX3_liveDay 4 = .ok (.aload_n 0, 1) := by decide +kernel
theorem dX3_liveDay_5 : decode cX3_liveDay 5 = .ok (.getfield 36, 3) := by decide +kernel
theorem dX3_liveDay_8 : decode cX3_liveDay 8 = .ok (.invokevirtual 134, 3) := by decide +kernel
theorem dX3_liveDay_11 : decode cX3_liveDay 11 = .ok (.aload_n 0, 1) := by decide +kernel
theorem dX3_liveDay_12 : decode cX3_liveDay 12 = .ok (.getfield 46, 3) := by decide +kernel
theorem dX3_liveDay_15 : decode cX3_liveDay 15 = .ok (.iconst 2, 1) := by decide +kernel
theorem dX3_liveDay_16 : decode cX3_liveDay 16 = .ok (.aload_n 0, 1) := by decide +kernel
theorem dX3_liveDay_17 : decode cX3_liveDay 17 = .ok (.getfield 36, 3) := by decide +kernel
theorem dX3_liveDay_20 : decode cX3_liveDay 20 = .ok (.invokevirtual 100, 3) := by decide +kernel
theorem dX3_liveDay_23 : decode cX3_liveDay 23 = .ok (.istore_n 1, 1) := by decide +kernel
theorem dX3_liveDay_24 : decode cX3_liveDay 24 = .ok (.aload_n 0, 1) := by decide +kernel
theorem dX3_liveDay_25 : decode cX3_liveDay 25 = .ok (.getfield 50, 3) := by decide +kernel
theorem dX3_liveDay_28 : decode cX3_liveDay 28 = .ok (.getfield 139, 3) := by decide +kernel
theorem dX3_liveDay_31 : decode cX3_liveDay 31 = .ok (.aload_n 0, 1) := by decide +kernel
theorem dX3_liveDay_32 : decode cX3_liveDay 32 = .ok (.getfield 30, 3) := by decide +kernel
theorem dX3_liveDay_35 : decode cX3_liveDay 35 = .ok (.if_icmp .ge 18, 3) := by decide +kernel
theorem dX3_liveDay_38 : decode cX3_liveDay 38 = .ok (.aload_n 0, 1) := by decide +kernel
theorem dX3_liveDay_39 : decode cX3_liveDay 39 = .ok (.dup, 1) := by decide +kernel
theorem dX3_liveDay_40 : decode cX3_liveDay 40 = .ok (.getfield 39, 3) := by decide +kernel
theorem dX3_liveDay_43 : decode cX3_liveDay 43 = .ok (.iconst 1, 1) := by decide +kernel
theorem dX3_liveDay_44 : decode cX3_liveDay 44 = .ok (.iadd, 1) := by decide +kernel
theorem dX3_liveDay_45 : decode cX3_liveDay 45 = .ok (.putfield 39, 3) := by decide +kernel
theorem dX3_liveDay_48 : decode cX3_liveDay 48 = .ok (.iconst 1, 1) := by decide +kernel
theorem dX3_liveDay_49 : decode cX3_liveDay 49 = .ok (.istore_n 1, 1) := by decide +kernel
theorem dX3_liveDay_50 : decode cX3_liveDay 50 = .ok (.goto 19, 3) := by decide +kernel
theorem dX3_liveDay_53 : decode cX3_liveDay 53 = .ok (.aload_n 0, 1) := by decide +kernel
theorem dX3_liveDay_54 : decode cX3_liveDay 54 = .ok (.getfield 50, 3) := by decide +kernel
theorem dX3_liveDay_57 : decode cX3_liveDay 57 = .ok (.dup, 1) := by decide +kernel
theorem dX3_liveDay_58 : decode cX3_liveDay 58 = .ok (.getfield 139, 3) := by decide +kernel
theorem dX3_liveDay_61 : decode cX3_liveDay 61 = .ok (.aload_n 0, 1) := by decide +kernel
theorem dX3_liveDay_62 : decode cX3_liveDay 62 = .ok (.getfield 30, 3) := by decide +kernel
theorem dX3_liveDay_65 : decode cX3_liveDay 65 = .ok (.isub, 1) := by decide +kernel
theorem dX3_liveDay_66 : decode cX3_liveDay 66 = .ok (.putfield 139, 3) := by decide +kernel
theorem dX3_liveDay_69 : decode cX3_liveDay 69 = .ok (.iload_n 1, 1) := by decide +kernel
theorem dX3_liveDay_70 : decode cX3_liveDay 70 = .ok (.ifCond .ne 22, 3) := by decide +kernel
theorem dX3_liveDay_73 : decode cX3_liveDay 73 = .ok (.aload_n 0, 1) := by decide +kernel
theorem dX3_liveDay_74 : decode cX3_liveDay 74 = .ok (.getfield 46, 3) := by decide +kernel
theorem dX3_liveDay_77 : decode cX3_liveDay 77 = .ok (.iconst 0, 1) := by decide +kernel
theorem dX3_liveDay_78 : decode cX3_liveDay 78 = .ok (.aload_n 0, 1) := by decide +kernel
theorem dX3_liveDay_79 : decode cX3_liveDay 79 = .ok (.getfield 36, 3) := by decide +kernel
theorem dX3_liveDay_82 : decode cX3_liveDay 82 = .ok (.invokevirtual 100, 3) := by decide +kernel
theorem dX3_liveDay_85 : decode cX3_liveDay 85 = .ok (.ifCond .eq 7, 3) := by decide +kernel
theorem dX3_liveDay_88 : decode cX3_liveDay 88 = .ok (.iconst 1, 1) := by decide +kernel
theorem dX3_liveDay_89 : decode cX3_liveDay 89 = .ok (.goto 4, 3) := by decide +kernel
theorem dX3_liveDay_92 : decode cX3_liveDay 92 = .ok (.iconst 0, 1) := by decide +kernel
theorem dX3_liveDay_93 : decode cX3_liveDay 93 = .ok (.istore_n 2, 1) := by decide +kernel
theorem dX3_liveDay_94 : decode cX3_liveDay 94 = .ok (.iload_n 1, 1) := by decide +kernel
theorem dX3_liveDay_95 : decode cX3_liveDay 95 = .ok (.ifCond .ne 22, 3) := by decide +kernel
theorem dX3_liveDay_98 : decode cX3_liveDay 98 = .ok (.aload_n 0, 1) := by decide +kernel
theorem dX3_liveDay_99 : decode cX3_liveDay 99 = .ok (.getfield 46, 3) := by decide +kernel
theorem dX3_liveDay_102 : decode cX3_liveDay 102 = .ok (.iconst 1, 1) := by decide +kernel
theorem dX3_liveDay_103 : decode cX3_liveDay 103 = .ok (.aload_n 0, 1) := by decide +kernel
theorem dX3_liveDay_104 : decode cX3_liveDay 104 = .ok (.getfield 36, 3) := by decide +kernel
theorem dX3_liveDay_107 : decode cX3_liveDay 107 = .ok (.invokevirtual 100, 3) := by decide +kernel
theorem dX3_liveDay_110 : decode cX3_liveDay 110 = .ok (.ifCond .eq 7, 3) := by decide +kernel
theorem dX3_liveDay_113 : decode cX3_liveDay 113 = .ok (.iconst 1, 1) := by decide +kernel
theorem dX3_liveDay_114 : decode cX3_liveDay 114 = .ok (.goto 4, 3) := by decide +kernel
theorem dX3_liveDay_117 : decode cX3_liveDay 117 = .ok (.iconst 0, 1) := by decide +kernel
theorem dX3_liveDay_118 : decode cX3_liveDay 118 = .ok (.istore_n 3, 1) := by decide +kernel
theorem dX3_liveDay_119 : decode cX3_liveDay 119 = .ok (.iconst 0, 1) := by decide +kernel
theorem dX3_liveDay_120 : decode cX3_liveDay 120 = .ok (.istore 4, 2) := by decide +kernel
theorem dX3_liveDay_122 : decode cX3_liveDay 122 = .ok (.iload 4, 2) := by decide +kernel
theorem dX3_liveDay_124 : decode cX3_liveDay 124 = .ok (.aload_n 0, 1) := by decide +kernel
theorem dX3_liveDay_125 : decode cX3_liveDay 125 = .ok (.getfield 23, 3) := by decide +kernel
theorem dX3_liveDay_128 : decode cX3_liveDay 128 = .ok (.if_icmp .ge 52, 3) := by decide +kernel
theorem dX3_liveDay_131 : decode cX3_liveDay 131 = .ok (.aload_n 0, 1) := by decide +kernel
theorem dX3_liveDay_132 : decode cX3_liveDay 132 = .ok (.aload_n 0, 1) := by decide +kernel
theorem dX3_liveDay_133 : decode cX3_liveDay 133 = .ok (.getfield 11, 3) := by decide +kernel
theorem dX3_liveDay_136 : decode cX3_liveDay 136 = .ok (.iload 4, 2) := by decide +kernel
theorem dX3_liveDay_138 : decode cX3_liveDay 138 = .ok (.aaload, 1) := by decide +kernel
theorem dX3_liveDay_139 : decode cX3_liveDay 139 = .ok (.invokevirtual 142, 3) := by decide +kernel
theorem dX3_liveDay_142 : decode cX3_liveDay 142 = .ok (.ifCond .eq 21, 3) := by decide +kernel
theorem dX3_liveDay_145 : decode cX3_liveDay 145 = .ok (.iload_n 2, 1) := by decide +kernel
theorem dX3_liveDay_146 : decode cX3_liveDay 146 = .ok (.ifCond .ne 17, 3) := by decide +kernel
theorem dX3_liveDay_149 : decode cX3_liveDay 149 = .ok (.aload_n 0, 1) := by decide +kernel
theorem dX3_liveDay_150 : decode cX3_liveDay 150 = .ok (.aload_n 0, 1) := by decide +kernel
theorem dX3_liveDay_151 : decode cX3_liveDay 151 = .ok (.getfield 11, 3) := by decide +kernel
theorem dX3_liveDay_154 : decode cX3_liveDay 154 = .ok (.iload 4, 2) := by decide +kernel
theorem dX3_liveDay_156 : decode cX3_liveDay 156 = .ok (.aaload, 1) := by decide +kernel
theorem dX3_liveDay_157 : decode cX3_liveDay 157 = .ok (.invokevirtual 127, 3) := by decide +kernel
theorem dX3_liveDay_160 : decode cX3_liveDay 160 = .ok (.goto 14, 3) := by decide +kernel
theorem dX3_liveDay_163 : decode cX3_liveDay 163 = .ok (.iload_n 1, 1) := by decide +kernel
theorem dX3_liveDay_164 : decode cX3_liveDay 164 = .ok (.ifCond .ne 10, 3) := by decide +kernel
theorem dX3_liveDay_167 : decode cX3_liveDay 167 = .ok (.aload_n 0, 1) := by decide +kernel
theorem dX3_liveDay_168 : decode cX3_liveDay 168 = .ok (.iload 4, 2) := by decide +kernel
theorem dX3_liveDay_170 : decode cX3_liveDay 170 = .ok (.iload_n 3, 1) := by decide +kernel
theorem dX3_liveDay_171 : decode cX3_liveDay 171 = .ok (.invokevirtual 146, 3) := by decide +kernel
theorem dX3_liveDay_174 : decode cX3_liveDay 174 = .ok (.iinc 4 1, 3) := by decide +kernel
theorem dX3_liveDay_177 : decode cX3_liveDay 177 = .ok (.goto (-55), 3) := by decide +kernel
theorem dX3_liveDay_180 : decode cX3_liveDay 180 = .ok (.aload_n 0, 1) := by decide +kernel
theorem dX3_liveDay_181 : decode cX3_liveDay 181 = .ok (.dup, 1) := by decide +kernel
theorem dX3_liveDay_182 : decode cX3_liveDay 182 = .ok (.getfield 36, 3) := by decide +kernel
theorem dX3_liveDay_185 : decode cX3_liveDay 185 = .ok (.iconst 1, 1) := by decide +kernel
theorem dX3_liveDay_186 : decode cX3_liveDay 186 = .ok (.iadd, 1) := by decide +kernel
theorem dX3_liveDay_187 : decode cX3_liveDay 187 = .ok (.putfield 36, 3) := by decide +kernel
theorem dX3_liveDay_190 : decode cX3_liveDay 190 = .ok (.return_, 1) := by decide +kernel
theorem dX3_isRafting_0 : decode cX3_isRafting 0 = .ok (.aload_n 0, 1) := by decide +kernel
theorem dX3_isRafting_1 : decode cX3_isRafting 1 = .ok (.aload_n 1, 1) := by decide +kernel
theorem dX3_isRafting_2 : decode cX3_isRafting 2 = .ok (.getfield 77, 3) := by decide +kernel
theorem dX3_isRafting_5 : decode cX3_isRafting 5 = .ok (.invokevirtual 73, 3) := by decide +kernel
theorem dX3_isRafting_8 : decode cX3_isRafting 8 = .ok (.astore_n 2, 1) := by decide +kernel
theorem dX3_isRafting_9 : decode cX3_isRafting 9 = .ok (.aload_n 2, 1) := by decide +kernel
theorem dX3_isRafting_10 : decode cX3_isRafting 10 = .ok (.ifnull 15, 3) := by decide +kernel
theorem dX3_isRafting_13 : decode cX3_isRafting 13 = .ok (.aload_n 2, 1) := by decide +kernel
theorem dX3_isRafting_14 : decode cX3_isRafting 14 = .ok (.getfield 60, 3) := by decide +kernel
theorem dX3_isRafting_17 : decode cX3_isRafting 17 = .ok (.iconst 2, 1) := by decide +kernel
theorem dX3_isRafting_18 : decode cX3_isRafting 18 = .ok (.if_icmp .ne 7, 3) := by decide +kernel
theorem dX3_isRafting_21 : decode cX3_isRafting 21 = .ok (.iconst 1, 1) := by decide +kernel
theorem dX3_isRafting_22 : decode cX3_isRafting 22 = .ok (.goto 4, 3) := by decide +kernel
theorem dX3_isRafting_25 : decode cX3_isRafting 25 = .ok (.iconst 0, 1) := by decide +kernel
theorem dX3_isRafting_26 : decode cX3_isRafting 26 = .ok (.ireturn, 1) := by decide +kernel
theorem dX3_workOneDay_0 : decode cX3_workOneDay 0 = .ok (.aload_n 0, 1) := by decide +kernel
theorem dX3_workOneDay_1 : decode cX3_workOneDay 1 = .ok (.getfield 11, 3) := by decide +kernel
theorem dX3_workOneDay_4 : decode cX3_workOneDay 4 = .ok (.iload_n 1, 1) := by decide +kernel
theorem dX3_workOneDay_5 : decode cX3_workOneDay 5 = .ok (.aaload, 1) := by decide +kernel
theorem dX3_workOneDay_6 : decode cX3_workOneDay 6 = .ok (.astore_n 3, 1) := by decide +kernel
theorem dX3_workOneDay_7 : decode cX3_workOneDay 7 = .ok (.aload_n 0, 1) := by decide +kernel
theorem dX3_workOneDay_8 : decode cX3_workOneDay 8 = .ok (.aload_n 3, 1) := by decide +kernel
theorem dX3_workOneDay_9 : decode cX3_workOneDay 9 = .ok (.getfield 77, 3) := by decide +kernel
theorem dX3_workOneDay_12 : decode cX3_workOneDay 12 = .ok (.invokevirtual 73, 3) := by decide +kernel
theorem dX3_workOneDay_15 : decode cX3_workOneDay 15 = .ok (.astore 4, 2) := by decide +kernel
theorem dX3_workOneDay_17 : decode cX3_workOneDay 17 = .ok (.aload_n 3, 1) := by decide +kernel
theorem dX3_workOneDay_18 : decode cX3_workOneDay 18 = .ok (.getfield 77, 3) := by decide +kernel
theorem dX3_workOneDay_21 : decode cX3_workOneDay 21 = .ok (.iconst (-1), 1) := by decide +kernel
theorem dX3_workOneDay_22 : decode cX3_workOneDay 22 = .ok (.if_icmp .ne 4, 3) := by decide +kernel
theorem dX3_workOneDay_25 : decode cX3_workOneDay 25 = .ok (.return_, 1) := by decide +kernel
theorem dX3_workOneDay_26 : decode cX3_workOneDay 26 = .ok (.aload 4, 2) := by decide +kernel
theorem dX3_workOneDay_28 : decode cX3_workOneDay 28 = .ok (.ifnull 40, 3) := by decide +kernel
theorem dX3_workOneDay_31 : decode cX3_workOneDay 31 = .ok (.aload 4, 2) := by decide +kernel
theorem dX3_workOneDay_33 : decode cX3_workOneDay 33 = .ok (.invokevirtual 150, 3) := by decide +kernel
theorem dX3_workOneDay_36 : decode cX3_workOneDay 36 = .ok (.ifCond .eq 32, 3) := by decide +kernel
theorem dX3_workOneDay_39 : decode cX3_workOneDay 39 = .ok (.aload_n 0, 1) := by decide +kernel
theorem dX3_workOneDay_40 : decode cX3_workOneDay 40 = .ok (.aload_n 0, 1) := by decide +kernel
theorem dX3_workOneDay_41 : decode cX3_workOneDay 41 = .ok (.getfield 42, 3) := by decide +kernel
theorem dX3_workOneDay_44 : decode cX3_workOneDay 44 = .ok (.aload 4, 2) := by decide +kernel
theorem dX3_workOneDay_46 : decode cX3_workOneDay 46 = .ok (.iload_n 2, 1) := by decide +kernel
theorem dX3_workOneDay_47 : decode cX3_workOneDay 47 = .ok (.invokevirtual 106, 3) := by decide +kernel
theorem dX3_workOneDay_50 : decode cX3_workOneDay 50 = .ok (.aload_n 3, 1) := by decide +kernel
theorem dX3_workOneDay_51 : decode cX3_workOneDay 51 = .ok (.invokevirtual 153, 3) := by decide +kernel
theorem dX3_workOneDay_54 : decode cX3_workOneDay 54 = .ok (.ifCond .eq 14, 3) := by decide +kernel
theorem dX3_workOneDay_57 : decode cX3_workOneDay 57 = .ok (.aload_n 3, 1) := by decide +kernel
theorem dX3_workOneDay_58 : decode cX3_workOneDay 58 = .ok (.dup, 1) := by decide +kernel
theorem dX3_workOneDay_59 : decode cX3_workOneDay 59 = .ok (.getfield 157, 3) := by decide +kernel
theorem dX3_workOneDay_62 : decode cX3_workOneDay 62 = .ok (.iconst 1, 1) := by decide +kernel
theorem dX3_workOneDay_63 : decode cX3_workOneDay 63 = .ok (.iadd, 1) := by decide +kernel
theorem dX3_workOneDay_64 : decode cX3_workOneDay 64 = .ok (.putfield 157, 3) := by decide +kernel
theorem dX3_workOneDay_67 : decode cX3_workOneDay 67 = .ok (.return_, 1) := by decide +kernel
theorem dX3_workOneDay_68 : decode cX3_workOneDay 68 = .ok (.aload 4, 2) := by decide +kernel
theorem dX3_workOneDay_70 : decode cX3_workOneDay 70 = .ok (.ifnull 11, 3) := by decide +kernel
theorem dX3_workOneDay_73 : decode cX3_workOneDay 73 = .ok (.aload 4, 2) := by decide +kernel
theorem dX3_workOneDay_75 : decode cX3_workOneDay 75 = .ok (.getfield 60, 3) := by decide +kernel
theorem dX3_workOneDay_78 : decode cX3_workOneDay 78 = .ok (.ifCond .ne 7, 3) := by decide +kernel
theorem dX3_workOneDay_81 : decode cX3_workOneDay 81 = .ok (.iconst 1, 1) := by decide +kernel
theorem dX3_workOneDay_82 : decode cX3_workOneDay 82 = .ok (.goto 4, 3) := by decide +kernel
theorem dX3_workOneDay_85 : decode cX3_workOneDay 85 = .ok (.iconst 0, 1) := by decide +kernel
theorem dX3_workOneDay_86 : decode cX3_workOneDay 86 = .ok (.istore 5, 2) := by decide +kernel
theorem dX3_workOneDay_88 : decode cX3_workOneDay 88 = .ok (.aload_n 3, 1) := by decide +kernel
theorem dX3_workOneDay_89 : decode cX3_workOneDay 89 = .ok (.dup, 1) := by decide +kernel
theorem dX3_workOneDay_90 : decode cX3_workOneDay 90 = .ok (.getfield 160, 3) := by decide +kernel
theorem dX3_workOneDay_93 : decode cX3_workOneDay 93 = .ok (.iload 5, 2) := by decide +kernel
theorem dX3_workOneDay_95 : decode cX3_workOneDay 95 = .ok (.ifCond .eq 10, 3) := by decide +kernel
theorem dX3_workOneDay_98 : decode cX3_workOneDay 98 = .ok (.aload_n 3, 1) := by decide +kernel
theorem dX3_workOneDay_99 : decode cX3_workOneDay 99 = .ok (.getfield 114, 3) := by decide +kernel
theorem dX3_workOneDay_102 : decode cX3_workOneDay 102 = .ok (.goto 4, 3) := by decide +kernel
theorem dX3_workOneDay_105 : decode cX3_workOneDay 105 = .ok (.iconst 1, 1) := by decide +kernel
theorem dX3_workOneDay_106 : decode cX3_workOneDay 106 = .ok (.isub, 1) := by decide +kernel
theorem dX3_workOneDay_107 : decode cX3_workOneDay 107 = .ok (.putfield 160, 3) := by decide +kernel
theorem dX3_workOneDay_110 : decode cX3_workOneDay 110 = .ok (.aload_n 3, 1) := by decide +kernel
theorem dX3_workOneDay_111 : decode cX3_workOneDay 111 = .ok (.getfield 160, 3) := by decide +kernel
theorem dX3_workOneDay_114 : decode cX3_workOneDay 114 = .ok (.ifCond .le 4, 3) := by decide +kernel
theorem dX3_workOneDay_117 : decode cX3_workOneDay 117 = .ok (.return_, 1) := by decide +kernel
theorem dX3_workOneDay_118 : decode cX3_workOneDay 118 = .ok (.aload_n 3, 1) := by decide +kernel
theorem dX3_workOneDay_119 : decode cX3_workOneDay 119 = .ok (.invokevirtual 131, 3) := by decide +kernel
theorem dX3_workOneDay_122 : decode cX3_workOneDay 122 = .ok (.aload 4, 2) := by decide +kernel
theorem dX3_workOneDay_124 : decode cX3_workOneDay 124 = .ok (.ifnonnull 16, 3) := by decide +kernel
theorem dX3_workOneDay_127 : decode cX3_workOneDay 127 = .ok (.aload_n 0, 1) := by decide +kernel
theorem dX3_workOneDay_128 : decode cX3_workOneDay 128 = .ok (.dup, 1) := by decide +kernel
theorem dX3_workOneDay_129 : decode cX3_workOneDay 129 = .ok (.getfield 33, 3) := by decide +kernel
theorem dX3_workOneDay_132 : decode cX3_workOneDay 132 = .ok (.iconst 1, 1) := by decide +kernel
theorem dX3_workOneDay_133 : decode cX3_workOneDay 133 = .ok (.iadd, 1) := by decide +kernel
theorem dX3_workOneDay_134 : decode cX3_workOneDay 134 = .ok (.putfield 33, 3) := by decide +kernel
theorem dX3_workOneDay_137 : decode cX3_workOneDay 137 = .ok (.goto 10, 3) := by decide +kernel
theorem dX3_workOneDay_140 : decode cX3_workOneDay 140 = .ok (.aload_n 0, 1) := by decide +kernel
theorem dX3_workOneDay_141 : decode cX3_workOneDay 141 = .ok (.aload 4, 2) := by decide +kernel
theorem dX3_workOneDay_143 : decode cX3_workOneDay 143 = .ok (.iload_n 1, 1) := by decide +kernel
theorem dX3_workOneDay_144 : decode cX3_workOneDay 144 = .ok (.invokevirtual 163, 3) := by decide +kernel
theorem dX3_workOneDay_147 : decode cX3_workOneDay 147 = .ok (.return_, 1) := by decide +kernel
theorem dX3_isTooHeavy_0 : decode cX3_isTooHeavy 0 = .ok (.iload_n 1, 1) := by decide +kernel
theorem dX3_isTooHeavy_1 : decode cX3_isTooHeavy 1 = .ok (.aload_n 0, 1) := by decide +kernel
theorem dX3_isTooHeavy_2 : decode cX3_isTooHeavy 2 = .ok (.getfield 42, 3) := by decide +kernel
theorem dX3_isTooHeavy_5 : decode cX3_isTooHeavy 5 = .ok (.bipush 7, 2) := by decide +kernel
theorem dX3_isTooHeavy_7 : decode cX3_isTooHeavy 7 = .ok (.invokevirtual 110, 3) := by decide +kernel
theorem dX3_isTooHeavy_10 : decode cX3_isTooHeavy 10 = .ok (.if_icmp .gt 11, 3) := by decide +kernel
theorem dX3_isTooHeavy_13 : decode cX3_isTooHeavy 13 = .ok (.iload_n 1, 1) := by decide +kernel
theorem dX3_isTooHeavy_14 : decode cX3_isTooHeavy 14 = .ok (.aload_n 2, 1) := by decide +kernel
theorem dX3_isTooHeavy_15 : decode cX3_isTooHeavy 15 = .ok (.getfield 114, 3) := by decide +kernel
theorem dX3_isTooHeavy_18 : decode cX3_isTooHeavy 18 = .ok (.if_icmp .le 7, 3) := by decide +kernel
theorem dX3_isTooHeavy_21 : decode cX3_isTooHeavy 21 = .ok (.iconst 1, 1) := by decide +kernel
theorem dX3_isTooHeavy_22 : decode cX3_isTooHeavy 22 = .ok (.goto 4, 3) := by decide +kernel
theorem dX3_isTooHeavy_25 : decode cX3_isTooHeavy 25 = .ok (.iconst 0, 1) := by decide +kernel
theorem dX3_isTooHeavy_26 : decode cX3_isTooHeavy 26 = .ok (.ireturn, 1) := by decide +kernel
theorem dX3_bringFurther_0 : decode cX3_bringFurther 0 = .ok (.aload_n 1, 1) := by decide +kernel
theorem dX3_bringFurther_1 : decode cX3_bringFurther 1 = .ok (.dup, 1) := by decide +kernel
theorem dX3_bringFurther_2 : decode cX3_bringFurther 2 = .ok (.getfield 60, 3) := by decide +kernel
theorem dX3_bringFurther_5 : decode cX3_bringFurther 5 = .ok (.iconst 1, 1) := by decide +kernel
theorem dX3_bringFurther_6 : decode cX3_bringFurther 6 = .ok (.iadd, 1) := by decide +kernel
theorem dX3_bringFurther_7 : decode cX3_bringFurther 7 = .ok (.putfield 60, 3) := by decide +kernel
theorem dX3_bringFurther_10 : decode cX3_bringFurther 10 = .ok (.aload_n 1, 1) := by decide +kernel
theorem dX3_bringFurther_11 : decode cX3_bringFurther 11 = .ok (.iconst (-1), 1) := by decide +kernel
theorem dX3_bringFurther_12 : decode cX3_bringFurther 12 = .ok (.putfield 80, 3) := by decide +kernel
theorem dX3_bringFurther_15 : decode cX3_bringFurther 15 = .ok (.aload_n 1, 1) := by decide +kernel
theorem dX3_bringFurther_16 : decode cX3_bringFurther 16 = .ok (.getfield 60, 3) := by decide +kernel
theorem dX3_bringFurther_19 : decode cX3_bringFurther 19 = .ok (.iconst 5, 1) := by decide +kernel
theorem dX3_bringFurther_20 : decode cX3_bringFurther 20 = .ok (.if_icmp .ne 31, 3) := by decide +kernel
theorem dX3_bringFurther_23 : decode cX3_bringFurther 23 = .ok (.aload_n 1, 1) := by decide +kernel
theorem dX3_bringFurther_24 : decode cX3_bringFurther 24 = .ok (.iload_n 2, 1) := by decide +kernel
theorem dX3_bringFurther_25 : decode cX3_bringFurther 25 = .ok (.putfield 63, 3) := by decide +kernel
theorem dX3_bringFurther_28 : decode cX3_bringFurther 28 = .ok (.aload_n 1, 1) := by decide +kernel
theorem dX3_bringFurther_29 : decode cX3_bringFurther 29 = .ok (.aload_n 0, 1) := by decide +kernel
theorem dX3_bringFurther_30 : decode cX3_bringFurther 30 = .ok (.getfield 36, 3) := by decide +kernel
theorem dX3_bringFurther_33 : decode cX3_bringFurther 33 = .ok (.putfield 66, 3) := by decide +kernel
theorem dX3_bringFurther_36 : decode cX3_bringFurther 36 = .ok (.aload_n 0, 1) := by decide +kernel
theorem dX3_bringFurther_37 : decode cX3_bringFurther 37 = .ok (.getfield 11, 3) := by decide +kernel
theorem dX3_bringFurther_40 : decode cX3_bringFurther 40 = .ok (.iload_n 2, 1) := by decide +kernel
theorem dX3_bringFurther_41 : decode cX3_bringFurther 41 = .ok (.aaload, 1) := by decide +kernel
theorem dX3_bringFurther_42 : decode cX3_bringFurther 42 = .ok (.dup, 1) := by decide +kernel
theorem dX3_bringFurther_43 : decode cX3_bringFurther 43 = .ok (.getfield 167, 3) := by decide +kernel
theorem dX3_bringFurther_46 : decode cX3_bringFurther 46 = .ok (.iconst 1, 1) := by decide +kernel
theorem dX3_bringFurther_47 : decode cX3_bringFurther 47 = .ok (.iadd, 1) := by decide +kernel
theorem dX3_bringFurther_48 : decode cX3_bringFurther 48 = .ok (.putfield 167, 3) := by decide +kernel
theorem dX3_bringFurther_51 : decode cX3_bringFurther 51 = .ok (.return_, 1) := by decide +kernel
theorem dX7_init_0 : decode cX7_init 0 = .ok (.aload_n 0, 1) := by decide +kernel
theorem dX7_init_1 : decode cX7_init 1 = .ok (.invokespecial 3, 3) := by decide +kernel
theorem dX7_init_4 : decode cX7_init 4 = .ok (.aload_n 0, 1) := by decide +kernel
theorem dX7_init_5 : decode cX7_init 5 = .ok (.bipush 9, 2) := by decide +kernel
theorem dX7_init_7 : decode cX7_init 7 = .ok (.newarray .int, 2) := by decide +kernel
theorem dX7_init_9 : decode cX7_init 9 = .ok (.putfield 9, 3) := by decide +kernel
theorem dX7_init_12 : decode cX7_init 12 = .ok (.aload_n 0, 1) := by decide +kernel
theorem dX7_init_13 : decode cX7_init 13 = .ok (.iconst 0, 1) := by decide +kernel
theorem dX7_init_14 : decode cX7_init 14 = .ok (.putfield 15, 3) := by decide +kernel
theorem dX7_init_17 : decode cX7_init 17 = .ok (.aload_n 0, 1) := by decide +kernel
theorem dX7_init_18 : decode cX7_init 18 = .ok (.iconst 0, 1) := by decide +kernel
theorem dX7_init_19 : decode cX7_init 19 = .ok (.putfield 19, 3) := by decide +kernel
theorem dX7_init_22 : decode cX7_init 22 = .ok (.aload_n 0, 1) := by decide +kernel
theorem dX7_init_23 : decode cX7_init 23 = .ok (.iconst 0, 1) := by decide +kernel
theorem dX7_init_24 : decode cX7_init 24 = .ok (.putfield 22, 3) := by decide +kernel
theorem dX7_init_27 : decode cX7_init 27 = .ok (.aload_n 0, 1) := by decide +kernel
theorem dX7_init_28 : decode cX7_init 28 = .ok (.iconst (-1), 1) := by decide +kernel
theorem dX7_init_29 : decode cX7_init 29 = .ok (.putfield 25, 3) := by decide +kernel
theorem dX7_init_32 : decode cX7_init 32 = .ok (.aload_n 0, 1) := by decide +kernel
theorem dX7_init_33 : decode cX7_init 33 = .ok (.aload_n 1, 1) := by decide +kernel
theorem dX7_init_34 : decode cX7_init 34 = .ok (.putfield 28, 3) := by decide +kernel
theorem dX7_init_37 : decode cX7_init 37 = .ok (.return_, 1) := by decide +kernel
theorem dX7_readTape_0 : decode cX7_readTape 0 = .ok (.aload_n 0, 1) := by decide +kernel
theorem dX7_readTape_1 : decode cX7_readTape 1 = .ok (.invokevirtual 32, 3) := by decide +kernel
theorem dX7_readTape_4 : decode cX7_readTape 4 = .ok (.aload_n 0, 1) := by decide +kernel
theorem dX7_readTape_5 : decode cX7_readTape 5 = .ok (.invokevirtual 35, 3) := by decide +kernel
theorem dX7_readTape_8 : decode cX7_readTape 8 = .ok (.aload_n 0, 1) := by decide +kernel
theorem dX7_readTape_9 : decode cX7_readTape 9 = .ok (.getfield 22, 3) := by decide +kernel
theorem dX7_readTape_12 : decode cX7_readTape 12 = .ok (.aload_n 0, 1) := by decide +kernel
theorem dX7_readTape_13 : decode cX7_readTape 13 = .ok (.getfield 28, 3) := by decide +kernel
theorem dX7_readTape_16 : decode cX7_readTape 16 = .ok (.getfield 38, 3) := by decide +kernel
theorem dX7_readTape_19 : decode cX7_readTape 19 = .ok (.if_icmp .ge 7, 3) := by decide +kernel
theorem dX7_readTape_22 : decode cX7_readTape 22 = .ok (.iconst 1, 1) := by decide +kernel
theorem dX7_readTape_23 : decode cX7_readTape 23 = .ok (.goto 4, 3) := by decide +kernel
theorem dX7_readTape_26 : decode cX7_readTape 26 = .ok (.iconst 0, 1) := by decide +kernel
theorem dX7_readTape_27 : decode cX7_readTape 27 = .ok (.istore_n 1, 1) := by decide +kernel
theorem dX7_readTape_28 : decode cX7_readTape 28 = .ok (.iconst 0, 1) := by decide +kernel
theorem dX7_readTape_29 : decode cX7_readTape 29 = .ok (.istore_n 2, 1) := by decide +kernel
theorem dX7_readTape_30 : decode cX7_readTape 30 = .ok (.iload_n 1, 1) := by decide +kernel
theorem dX7_readTape_31 : decode cX7_readTape 31 = .ok (.ifCond .eq 20, 3) := by decide +kernel
theorem dX7_readTape_34 : decode cX7_readTape 34 = .ok (.iload_n 2, 1) := by decide +kernel
theorem dX7_readTape_35 : decode cX7_readTape 35 = .ok (.bipush 7, 2) := by decide +kernel
theorem dX7_readTape_37 : decode cX7_readTape 37 = .ok (.if_icmp .gt 14, 3) := by decide +kernel
theorem dX7_readTape_40 : decode cX7_readTape 40 = .ok (.aload_n 0, 1) := by decide +kernel
theorem dX7_readTape_41 : decode cX7_readTape 41 = .ok (.invokevirtual 43, 3) := by decide +kernel
theorem dX7_readTape_44 : decode cX7_readTape 44 = .ok (.istore_n 1, 1) := by decide +kernel
theorem dX7_readTape_45 : decode cX7_readTape 45 = .ok (.iinc 2 1, 3) := by decide +kernel
theorem dX7_readTape_48 : decode cX7_readTape 48 = .ok (.goto (-18), 3) := by decide +kernel
theorem dX7_readTape_51 : decode cX7_readTape 51 = .ok (.aload_n 0, 1) := by decide +kernel
theorem dX7_readTape_52 : decode cX7_readTape 52 = .ok (.getfield 25, 3) := by decide +kernel
theorem dX7_readTape_55 : decode cX7_readTape 55 = .ok (.ireturn, 1) := by decide +kernel
theorem dX7_begin_0 : decode cX7_begin 0 = .ok (.iconst 0, 1) := by decide +kernel
theorem dX7_begin_1 : decode cX7_begin 1 = .ok (.istore_n 1, 1) := by decide +kernel
theorem dX7_begin_2 : decode cX7_begin 2 = .ok (.iload_n 1, 1) := by decide +kernel
theorem dX7_begin_3 : decode cX7_begin 3 = .ok (.aload_n 0, 1) := by decide +kernel
theorem dX7_begin_4 : decode cX7_begin 4 = .ok (.getfield 9, 3) := by decide +kernel
theorem dX7_begin_7 : decode cX7_begin 7 = .ok (.arraylength, 1) := by decide +kernel
theorem dX7_begin_8 : decode cX7_begin 8 = .ok (.if_icmp .ge 28, 3) := by decide +kernel
theorem dX7_begin_11 : decode cX7_begin 11 = .ok (.iload_n 1, 1) := by decide +kernel
theorem dX7_begin_12 : decode cX7_begin 12 = .ok (.getstatic 47, 3) := by decide +kernel
theorem dX7_begin_15 : decode cX7_begin 15 = .ok (.arraylength, 1) := by decide +kernel
theorem dX7_begin_16 : decode cX7_begin 16 = .ok (.if_icmp .ge 20, 3) := by decide +kernel
theorem dX7_begin_19 : decode cX7_begin 19 = .ok (.aload_n 0, 1) := by decide +kernel
theorem dX7_begin_20 : decode cX7_begin 20 = .ok (.getfield 9, 3) := by decide +kernel
theorem dX7_begin_23 : decode cX7_begin 23 = .ok (.iload_n 1, 1) := by decide +kernel
theorem dX7_begin_24 : decode cX7_begin 24 = .ok (.getstatic 47, 3) := by decide +kernel
theorem dX7_begin_27 : decode cX7_begin 27 = .ok (.iload_n 1, 1) := by decide +kernel
theorem dX7_begin_28 : decode cX7_begin 28 = .ok (.iaload, 1) := by decide +kernel
theorem dX7_begin_29 : decode cX7_begin 29 = .ok (.iastore, 1) := by decide +kernel
theorem dX7_begin_30 : decode cX7_begin 30 = .ok (.iinc 1 1, 3) := by decide +kernel
theorem dX7_begin_33 : decode cX7_begin 33 = .ok (.goto (-31), 3) := by decide +kernel
theorem dX7_begin_36 : decode cX7_begin 36 = .ok (.aload_n 0, 1) := by decide +kernel
theorem dX7_begin_37 : decode cX7_begin 37 = .ok (.iconst 0, 1) := by decide +kernel
theorem dX7_begin_38 : decode cX7_begin 38 = .ok (.putfield 15, 3) := by decide +kernel
theorem dX7_begin_41 : decode cX7_begin 41 = .ok (.aload_n 0, 1) := by decide +kernel
theorem dX7_begin_42 : decode cX7_begin 42 = .ok (.iconst 0, 1) := by decide +kernel
theorem dX7_begin_43 : decode cX7_begin 43 = .ok (.putfield 19, 3) := by decide +kernel
theorem dX7_begin_46 : decode cX7_begin 46 = .ok (.aload_n 0, 1) := by decide +kernel
theorem dX7_begin_47 : decode cX7_begin 47 = .ok (.iconst 0, 1) := by decide +kernel
theorem dX7_begin_48 : decode cX7_begin 48 = .ok (.putfield 22, 3) := by decide +kernel
theorem dX7_begin_51 : decode cX7_begin 51 = .ok (.aload_n 0, 1) := by decide +kernel
theorem dX7_begin_52 : decode cX7_begin 52 = .ok (.iconst (-1), 1) := by decide +kernel
theorem dX7_begin_53 : decode cX7_begin 53 = .ok (.putfield 25, 3) := by decide +kernel
theorem dX7_begin_56 : decode cX7_begin 56 = .ok (.return_, 1) := by decide +kernel
theorem dX7_readClause_0 : decode cX7_readClause 0 = .ok (.aload_n 0, 1) := by decide +kernel
theorem dX7_readClause_1 : decode cX7_readClause 1 = .ok (.invokevirtual 52, 3) := by decide +kernel
theorem dX7_readClause_4 : decode cX7_readClause 4 = .ok (.istore_n 1, 1) := by decide +kernel
theorem dX7_readClause_5 : decode cX7_readClause 5 = .ok (.iload_n 1, 1) := by decide +kernel
theorem dX7_readClause_6 : decode cX7_readClause 6 = .ok (.iconst (-1), 1) := by decide +kernel
theorem dX7_readClause_7 : decode cX7_readClause 7 = .ok (.if_icmp .ne 5, 3) := by decide +kernel
theorem dX7_readClause_10 : decode cX7_readClause 10 = .ok (.iconst 0, 1) := by decide +kernel
theorem dX7_readClause_11 : decode cX7_readClause 11 = .ok (.ireturn, 1) := by decide +kernel
theorem dX7_readClause_12 : decode cX7_readClause 12 = .ok (.getstatic 56, 3) := by decide +kernel
theorem dX7_readClause_15 : decode cX7_readClause 15 = .ok (.iload_n 1, 1) := by decide +kernel
theorem dX7_readClause_16 : decode cX7_readClause 16 = .ok (.iaload, 1) := by decide +kernel
theorem dX7_readClause_17 : decode cX7_readClause 17 = .ok (.istore_n 2, 1) := by decide +kernel
theorem dX7_readClause_18 : decode cX7_readClause 18 = .ok (.iload_n 2, 1) := by decide +kernel
theorem dX7_readClause_19 : decode cX7_readClause 19 = .ok (.getstatic 56, 3) := by decide +kernel
theorem dX7_readClause_22 : decode cX7_readClause 22 = .ok (.iload_n 1, 1) := by decide +kernel
theorem dX7_readClause_23 : decode cX7_readClause 23 = .ok (.iconst 1, 1) := by decide +kernel
theorem dX7_readClause_24 : decode cX7_readClause 24 = .ok (.iadd, 1) := by decide +kernel
theorem dX7_readClause_25 : decode cX7_readClause 25 = .ok (.iaload, 1) := by decide +kernel
theorem dX7_readClause_26 : decode cX7_readClause 26 = .ok (.if_icmp .ge 19, 3) := by decide +kernel
theorem dX7_readClause_29 : decode cX7_readClause 29 = .ok (.aload_n 0, 1) := by decide +kernel
theorem dX7_readClause_30 : decode cX7_readClause 30 = .ok (.iload_n 2, 1) := by decide +kernel
theorem dX7_readClause_31 : decode cX7_readClause 31 = .ok (.invokevirtual 59, 3) := by decide +kernel
theorem dX7_readClause_34 : decode cX7_readClause 34 = .ok (.ifCond .ne 5, 3) := by decide +kernel
theorem dX7_readClause_37 : decode cX7_readClause 37 = .ok (.iconst 0, 1) := by decide +kernel
theorem dX7_readClause_38 : decode cX7_readClause 38 = .ok (.ireturn, 1) := by decide +kernel
theorem dX7_readClause_39 : decode cX7_readClause 39 = .ok (.iinc 2 1, 3) := by decide +kernel
theorem dX7_readClause_42 : decode cX7_readClause 42 = .ok (.goto (-24), 3) := by decide +kernel
theorem dX7_readClause_45 : decode cX7_readClause 45 = .ok (.aload_n 0, 1) := by decide +kernel
theorem dX7_readClause_46 : decode cX7_readClause 46 = .ok (.dup, 1) := by decide +kernel
theorem dX7_readClause_47 : decode cX7_readClause 47 = .ok (.getfield 15, 3) := by decide +kernel
theorem dX7_readClause_50 : decode cX7_readClause 50 = .ok (.iconst 1, 1) := by decide +kernel
theorem dX7_readClause_51 : decode cX7_readClause 51 = .ok (.iadd, 1) := by decide +kernel
theorem dX7_readClause_52 : decode cX7_readClause 52 = .ok (.putfield 15, 3) := by decide +kernel
theorem dX7_readClause_55 : decode cX7_readClause 55 = .ok (.aload_n 0, 1) := by decide +kernel
theorem dX7_readClause_56 : decode cX7_readClause 56 = .ok (.invokevirtual 35, 3) := by decide +kernel
theorem dX7_readClause_59 : decode cX7_readClause 59 = .ok (.aload_n 0, 1) := by decide +kernel
theorem dX7_readClause_60 : decode cX7_readClause 60 = .ok (.getfield 22, 3) := by decide +kernel
theorem dX7_readClause_63 : decode cX7_readClause 63 = .ok (.aload_n 0, 1) := by decide +kernel
theorem dX7_readClause_64 : decode cX7_readClause 64 = .ok (.getfield 28, 3) := by decide +kernel
theorem dX7_readClause_67 : decode cX7_readClause 67 = .ok (.getfield 38, 3) := by decide +kernel
theorem dX7_readClause_70 : decode cX7_readClause 70 = .ok (.if_icmp .lt 5, 3) := by decide +kernel
theorem dX7_readClause_73 : decode cX7_readClause 73 = .ok (.iconst 0, 1) := by decide +kernel
theorem dX7_readClause_74 : decode cX7_readClause 74 = .ok (.ireturn, 1) := by decide +kernel
theorem dX7_readClause_75 : decode cX7_readClause 75 = .ok (.aload_n 0, 1) := by decide +kernel
theorem dX7_readClause_76 : decode cX7_readClause 76 = .ok (.getfield 28, 3) := by decide +kernel
theorem dX7_readClause_79 : decode cX7_readClause 79 = .ok (.aload_n 0, 1) := by decide +kernel
theorem dX7_readClause_80 : decode cX7_readClause 80 = .ok (.getfield 22, 3) := by decide +kernel
theorem dX7_readClause_83 : decode cX7_readClause 83 = .ok (.invokevirtual 63, 3) := by decide +kernel
theorem dX7_readClause_86 : decode cX7_readClause 86 = .ok (.bipush 59, 2) := by decide +kernel
theorem dX7_readClause_88 : decode cX7_readClause 88 = .ok (.if_icmp .eq 13, 3) := by decide +kernel
theorem dX7_readClause_91 : decode cX7_readClause 91 = .ok (.aload_n 0, 1) := by decide +kernel
theorem dX7_readClause_92 : decode cX7_readClause 92 = .ok (.aload_n 0, 1) := by decide +kernel
theorem dX7_readClause_93 : decode cX7_readClause 93 = .ok (.getfield 22, 3) := by decide +kernel
theorem dX7_readClause_96 : decode cX7_readClause 96 = .ok (.iconst 0, 1) := by decide +kernel
theorem dX7_readClause_97 : decode cX7_readClause 97 = .ok (.invokevirtual 67, 3) := by decide +kernel
theorem dX7_readClause_100 : decode cX7_readClause 100 = .ok (.ireturn, 1) := by decide +kernel
theorem dX7_readClause_101 : decode cX7_readClause 101 = .ok (.aload_n 0, 1) := by decide +kernel
theorem dX7_readClause_102 : decode cX7_readClause 102 = .ok (.dup, 1) := by decide +kernel
theorem dX7_readClause_103 : decode cX7_readClause 103 = .ok (.getfield 22, 3) := by decide +kernel
theorem dX7_readClause_106 : decode cX7_readClause 106 = .ok (.iconst 1, 1) := by decide +kernel
theorem dX7_readClause_107 : decode cX7_readClause 107 = .ok (.iadd, 1) := by decide +kernel
theorem dX7_readClause_108 : decode cX7_readClause 108 = .ok (.putfield 22, 3) := by decide +kernel
theorem dX7_readClause_111 : decode cX7_readClause 111 = .ok (.iconst 1, 1) := by decide +kernel
theorem dX7_readClause_112 : decode cX7_readClause 112 = .ok (.ireturn, 1) := by decide +kernel
theorem dX7_readWord_0 : decode cX7_readWord 0 = .ok (.aload_n 0, 1) := by decide +kernel
theorem dX7_readWord_1 : decode cX7_readWord 1 = .ok (.invokevirtual 35, 3) := by decide +kernel
theorem dX7_readWord_4 : decode cX7_readWord 4 = .ok (.aload_n 0, 1) := by decide +kernel
theorem dX7_readWord_5 : decode cX7_readWord 5 = .ok (.getfield 22, 3) := by decide +kernel
theorem dX7_readWord_8 : decode cX7_readWord 8 = .ok (.istore_n 1, 1) := by decide +kernel
theorem dX7_readWord_9 : decode cX7_readWord 9 = .ok (.aload_n 0, 1) := by decide +kernel
theorem dX7_readWord_10 : decode cX7_readWord 10 = .ok (.getfield 22, 3) := by decide +kernel
theorem dX7_readWord_13 : decode cX7_readWord 13 = .ok (.aload_n 0, 1) := by decide +kernel
theorem dX7_readWord_14 : decode cX7_readWord 14 = .ok (.getfield 28, 3) := by decide +kernel
theorem dX7_readWord_17 : decode cX7_readWord 17 = .ok (.getfield 38, 3) := by decide +kernel
theorem dX7_readWord_20 : decode cX7_readWord 20 = .ok (.if_icmp .ge 30, 3) := by decide +kernel
theorem dX7_readWord_23 : decode cX7_readWord 23 = .ok (.aload_n 0, 1) := by decide +kernel
theorem dX7_readWord_24 : decode cX7_readWord 24 = .ok (.getfield 28, 3) := by decide +kernel
theorem dX7_readWord_27 : decode cX7_readWord 27 = .ok (.aload_n 0, 1) := by decide +kernel
theorem dX7_readWord_28 : decode cX7_readWord 28 = .ok (.getfield 22, 3) := by decide +kernel
theorem dX7_readWord_31 : decode cX7_readWord 31 = .ok (.invokevirtual 71, 3) := by decide +kernel
theorem dX7_readWord_34 : decode cX7_readWord 34 = .ok (.ifCond .eq 16, 3) := by decide +kernel
theorem dX7_readWord_37 : decode cX7_readWord 37 = .ok (.aload_n 0, 1) := by decide +kernel
theorem dX7_readWord_38 : decode cX7_readWord 38 = .ok (.dup, 1) := by decide +kernel
theorem dX7_readWord_39 : decode cX7_readWord 39 = .ok (.getfield 22, 3) := by decide +kernel
theorem dX7_readWord_42 : decode cX7_readWord 42 = .ok (.iconst 1, 1) := by decide +kernel
theorem dX7_readWord_43 : decode cX7_readWord 43 = .ok (.iadd, 1) := by decide +kernel
theorem dX7_readWord_44 : decode cX7_readWord 44 = .ok (.putfield 22, 3) := by decide +kernel
theorem dX7_readWord_47 : decode cX7_readWord 47 = .ok (.goto (-38), 3) := by decide +kernel
theorem dX7_readWord_50 : decode cX7_readWord 50 = .ok (.aload_n 0, 1) := by decide +kernel
theorem dX7_readWord_51 : decode cX7_readWord 51 = .ok (.iload_n 1, 1) := by decide +kernel
theorem dX7_readWord_52 : decode cX7_readWord 52 = .ok (.invokevirtual 74, 3) := by decide +kernel
theorem dX7_readWord_55 : decode cX7_readWord 55 = .ok (.istore_n 2, 1) := by decide +kernel
theorem dX7_readWord_56 : decode cX7_readWord 56 = .ok (.iload_n 2, 1) := by decide +kernel
theorem dX7_readWord_57 : decode cX7_readWord 57 = .ok (.iconst (-1), 1) := by decide +kernel
theorem dX7_readWord_58 : decode cX7_readWord 58 = .ok (.if_icmp .ne 12, 3) := by decide +kernel
theorem dX7_readWord_61 : decode cX7_readWord 61 = .ok (.aload_n 0, 1) := by decide +kernel
theorem dX7_readWord_62 : decode cX7_readWord 62 = .ok (.iload_n 1, 1) := by decide +kernel
theorem dX7_readWord_63 : decode cX7_readWord 63 = .ok (.iconst 0, 1) := by decide +kernel
theorem dX7_readWord_64 : decode cX7_readWord 64 = .ok (.invokevirtual 67, 3) := by decide +kernel
theorem dX7_readWord_67 : decode cX7_readWord 67 = .ok (.pop, 1) := by decide +kernel
theorem dX7_readWord_68 : decode cX7_readWord 68 = .ok (.iconst (-1), 1) := by decide +kernel
theorem dX7_readWord_69 : decode cX7_readWord 69 = .ok (.ireturn, 1) := by decide +kernel
theorem dX7_readWord_70 : decode cX7_readWord 70 = .ok (.aload_n 0, 1) := by decide +kernel
theorem dX7_readWord_71 : decode cX7_readWord 71 = .ok (.getfield 19, 3) := by decide +kernel
theorem dX7_readWord_74 : decode cX7_readWord 74 = .ok (.iconst 1, 1) := by decide +kernel
theorem dX7_readWord_75 : decode cX7_readWord 75 = .ok (.iload_n 2, 1) := by decide +kernel
theorem dX7_readWord_76 : decode cX7_readWord 76 = .ok (.ishl, 1) := by decide +kernel
theorem dX7_readWord_77 : decode cX7_readWord 77 = .ok (.iand, 1) := by decide +kernel
theorem dX7_readWord_78 : decode cX7_readWord 78 = .ok (.ifCond .eq 12, 3) := by decide +kernel
theorem dX7_readWord_81 : decode cX7_readWord 81 = .ok (.aload_n 0, 1) := by decide +kernel
theorem dX7_readWord_82 : decode cX7_readWord 82 = .ok (.iload_n 1, 1) := by decide +kernel
theorem dX7_readWord_83 : decode cX7_readWord 83 = .ok (.iconst 2, 1) := by decide +kernel
theorem dX7_readWord_84 : decode cX7_readWord 84 = .ok (.invokevirtual 67, 3) := by decide +kernel
theorem dX7_readWord_87 : decode cX7_readWord 87 = .ok (.pop, 1) := by decide +kernel
theorem dX7_readWord_88 : decode cX7_readWord 88 = .ok (.iconst (-1), 1) := by decide +kernel
theorem dX7_readWord_89 : decode cX7_readWord 89 = .ok (.ireturn, 1) := by decide +kernel
theorem dX7_readWord_90 : decode cX7_readWord 90 = .ok (.aload_n 0, 1) := by decide +kernel
theorem dX7_readWord_91 : decode cX7_readWord 91 = .ok (.dup, 1) := by decide +kernel
theorem dX7_readWord_92 : decode cX7_readWord 92 = .ok (.getfield 19, 3) := by decide +kernel
theorem dX7_readWord_95 : decode cX7_readWord 95 = .ok (.iconst 1, 1) := by decide +kernel
theorem dX7_readWord_96 : decode cX7_readWord 96 = .ok (.iload_n 2, 1) := by decide +kernel
theorem dX7_readWord_97 : decode cX7_readWord 97 = .ok (.ishl, 1) := by decide +kernel
theorem dX7_readWord_98 : decode cX7_readWord 98 = .ok (.ior, 1) := by decide +kernel
theorem dX7_readWord_99 : decode cX7_readWord 99 = .ok (.putfield 19, 3) := by decide +kernel
theorem dX7_readWord_102 : decode cX7_readWord 102 = .ok (.iload_n 2, 1) := by decide +kernel
theorem dX7_readWord_103 : decode cX7_readWord 103 = .ok (.ireturn, 1) := by decide +kernel
theorem dX7_clauseAt_0 : decode cX7_clauseAt 0 = .ok (.iconst 0, 1) := by decide +kernel
theorem dX7_clauseAt_1 : decode cX7_clauseAt 1 = .ok (.istore_n 2, 1) := by decide +kernel
theorem dX7_clauseAt_2 : decode cX7_clauseAt 2 = .ok (.iload_n 2, 1) := by decide +kernel
theorem dX7_clauseAt_3 : decode cX7_clauseAt 3 = .ok (.bipush 7, 2) := by decide +kernel
theorem dX7_clauseAt_5 : decode cX7_clauseAt 5 = .ok (.if_icmp .ge 30, 3) := by decide +kernel
theorem dX7_clauseAt_8 : decode cX7_clauseAt 8 = .ok (.aload_n 0, 1) := by decide +kernel
theorem dX7_clauseAt_9 : decode cX7_clauseAt 9 = .ok (.getfield 28, 3) := by decide +kernel
theorem dX7_clauseAt_12 : decode cX7_clauseAt 12 = .ok (.iload_n 1, 1) := by decide +kernel
theorem dX7_clauseAt_13 : decode cX7_clauseAt 13 = .ok (.aload_n 0, 1) := by decide +kernel
theorem dX7_clauseAt_14 : decode cX7_clauseAt 14 = .ok (.getfield 22, 3) := by decide +kernel
theorem dX7_clauseAt_17 : decode cX7_clauseAt 17 = .ok (.iload_n 2, 1) := by decide +kernel
theorem dX7_clauseAt_18 : decode cX7_clauseAt 18 = .ok (.invokestatic 77, 3) := by decide +kernel
theorem dX7_clauseAt_21 : decode cX7_clauseAt 21 = .ok (.invokevirtual 81, 3) := by decide +kernel
theorem dX7_clauseAt_24 : decode cX7_clauseAt 24 = .ok (.ifCond .eq 5, 3) := by decide +kernel
theorem dX7_clauseAt_27 : decode cX7_clauseAt 27 = .ok (.iload_n 2, 1) := by decide +kernel
theorem dX7_clauseAt_28 : decode cX7_clauseAt 28 = .ok (.ireturn, 1) := by decide +kernel
theorem dX7_clauseAt_29 : decode cX7_clauseAt 29 = .ok (.iinc 2 1, 3) := by decide +kernel
theorem dX7_clauseAt_32 : decode cX7_clauseAt 32 = .ok (.goto (-30), 3) := by decide +kernel
theorem dX7_clauseAt_35 : decode cX7_clauseAt 35 = .ok (.iconst (-1), 1) := by decide +kernel
theorem dX7_clauseAt_36 : decode cX7_clauseAt 36 = .ok (.ireturn, 1) := by decide +kernel
theorem dX7_wordOf_0 : decode cX7_wordOf 0 = .ok (.iload_n 0, 1) := by decide +kernel
theorem dX7_wordOf_1 : decode cX7_wordOf 1 = .ok (.tableswitch 57 0 5 #[39, 42, 45, 48, 51, 54], 39) := by decide +kernel
theorem dX7_wordOf_40 : decode cX7_wordOf 40 = .ok (.ldc 85, 2) := by decide +kernel
theorem dX7_wordOf_42 : decode cX7_wordOf 42 = .ok (.areturn, 1) := by decide +kernel
theorem dX7_wordOf_43 : decode cX7_wordOf 43 = .ok (.ldc 87, 2) := by decide +kernel
theorem dX7_wordOf_45 : decode cX7_wordOf 45 = .ok (.areturn, 1) := by decide +kernel
theorem dX7_wordOf_46 : decode cX7_wordOf 46 = .ok (.ldc 89, 2) := by decide +kernel
theorem dX7_wordOf_48 : decode cX7_wordOf 48 = .ok (.areturn, 1) := by decide +kernel
theorem dX7_wordOf_49 : decode cX7_wordOf 49 = .ok (.ldc 91, 2) := by decide +kernel
theorem dX7_wordOf_51 : decode cX7_wordOf 51 = .ok (.areturn, 1) := by decide +kernel
theorem dX7_wordOf_52 : decode cX7_wordOf 52 = .ok (.ldc 93, 2) := by decide +kernel
theorem dX7_wordOf_54 : decode cX7_wordOf 54 = .ok (.areturn, 1) := by decide +kernel
theorem dX7_wordOf_55 : decode cX7_wordOf 55 = .ok (.ldc 95, 2) := by decide +kernel
theorem dX7_wordOf_57 : decode cX7_wordOf 57 = .ok (.areturn, 1) := by decide +kernel
theorem dX7_wordOf_58 : decode cX7_wordOf 58 = .ok (.ldc 97, 2) := by decide +kernel
theorem dX7_wordOf_60 : decode cX7_wordOf 60 = .ok (.areturn, 1) := by decide +kernel
theorem dX7_readNumber_0 : decode cX7_readNumber 0 = .ok (.aload_n 0, 1) := by decide +kernel
theorem dX7_readNumber_1 : decode cX7_readNumber 1 = .ok (.invokevirtual 35, 3) := by decide +kernel
theorem dX7_readNumber_4 : decode cX7_readNumber 4 = .ok (.aload_n 0, 1) := by decide +kernel
theorem dX7_readNumber_5 : decode cX7_readNumber 5 = .ok (.getfield 22, 3) := by decide +kernel
theorem dX7_readNumber_8 : decode cX7_readNumber 8 = .ok (.istore_n 2, 1) := by decide +kernel
theorem dX7_readNumber_9 : decode cX7_readNumber 9 = .ok (.iconst 0, 1) := by decide +kernel
theorem dX7_readNumber_10 : decode cX7_readNumber 10 = .ok (.istore_n 3, 1) := by decide +kernel
theorem dX7_readNumber_11 : decode cX7_readNumber 11 = .ok (.aload_n 0, 1) := by decide +kernel
theorem dX7_readNumber_12 : decode cX7_readNumber 12 = .ok (.getfield 22, 3) := by decide +kernel
theorem dX7_readNumber_15 : decode cX7_readNumber 15 = .ok (.aload_n 0, 1) := by decide +kernel
theorem dX7_readNumber_16 : decode cX7_readNumber 16 = .ok (.getfield 28, 3) := by decide +kernel
theorem dX7_readNumber_19 : decode cX7_readNumber 19 = .ok (.getfield 38, 3) := by decide +kernel
theorem dX7_readNumber_22 : decode cX7_readNumber 22 = .ok (.if_icmp .ge 60, 3) := by decide +kernel
theorem dX7_readNumber_25 : decode cX7_readNumber 25 = .ok (.aload_n 0, 1) := by decide +kernel
theorem dX7_readNumber_26 : decode cX7_readNumber 26 = .ok (.getfield 28, 3) := by decide +kernel
theorem dX7_readNumber_29 : decode cX7_readNumber 29 = .ok (.aload_n 0, 1) := by decide +kernel
theorem dX7_readNumber_30 : decode cX7_readNumber 30 = .ok (.getfield 22, 3) := by decide +kernel
theorem dX7_readNumber_33 : decode cX7_readNumber 33 = .ok (.invokevirtual 99, 3) := by decide +kernel
theorem dX7_readNumber_36 : decode cX7_readNumber 36 = .ok (.ifCond .eq 46, 3) := by decide +kernel
theorem dX7_readNumber_39 : decode cX7_readNumber 39 = .ok (.aload_n 0, 1) := by decide +kernel
theorem dX7_readNumber_40 : decode cX7_readNumber 40 = .ok (.getfield 22, 3) := by decide +kernel
theorem dX7_readNumber_43 : decode cX7_readNumber 43 = .ok (.iload_n 2, 1) := by decide +kernel
theorem dX7_readNumber_44 : decode cX7_readNumber 44 = .ok (.isub, 1) := by decide +kernel
theorem dX7_readNumber_45 : decode cX7_readNumber 45 = .ok (.iconst 3, 1) := by decide +kernel
theorem dX7_readNumber_46 : decode cX7_readNumber 46 = .ok (.if_icmp .ge 23, 3) := by decide +kernel
theorem dX7_readNumber_49 : decode cX7_readNumber 49 = .ok (.iload_n 3, 1) := by decide +kernel
theorem dX7_readNumber_50 : decode cX7_readNumber 50 = .ok (.bipush 10, 2) := by decide +kernel
theorem dX7_readNumber_52 : decode cX7_readNumber 52 = .ok (.imul, 1) := by decide +kernel
theorem dX7_readNumber_53 : decode cX7_readNumber 53 = .ok (.aload_n 0, 1) := by decide +kernel
theorem dX7_readNumber_54 : decode cX7_readNumber 54 = .ok (.getfield 28, 3) := by decide +kernel
theorem dX7_readNumber_57 : decode cX7_readNumber 57 = .ok (.aload_n 0, 1) := by decide +kernel
theorem dX7_readNumber_58 : decode cX7_readNumber 58 = .ok (.getfield 22, 3) := by decide +kernel
theorem dX7_readNumber_61 : decode cX7_readNumber 61 = .ok (.invokevirtual 63, 3) := by decide +kernel
theorem dX7_readNumber_64 : decode cX7_readNumber 64 = .ok (.iadd, 1) := by decide +kernel
theorem dX7_readNumber_65 : decode cX7_readNumber 65 = .ok (.bipush 48, 2) := by decide +kernel
theorem dX7_readNumber_67 : decode cX7_readNumber 67 = .ok (.isub, 1) := by decide +kernel
theorem dX7_readNumber_68 : decode cX7_readNumber 68 = .ok (.istore_n 3, 1) := by decide +kernel
theorem dX7_readNumber_69 : decode cX7_readNumber 69 = .ok (.aload_n 0, 1) := by decide +kernel
theorem dX7_readNumber_70 : decode cX7_readNumber 70 = .ok (.dup, 1) := by decide +kernel
theorem dX7_readNumber_71 : decode cX7_readNumber 71 = .ok (.getfield 22, 3) := by decide +kernel
theorem dX7_readNumber_74 : decode cX7_readNumber 74 = .ok (.iconst 1, 1) := by decide +kernel
theorem dX7_readNumber_75 : decode cX7_readNumber 75 = .ok (.iadd, 1) := by decide +kernel
theorem dX7_readNumber_76 : decode cX7_readNumber 76 = .ok (.putfield 22, 3) := by decide +kernel
theorem dX7_readNumber_79 : decode cX7_readNumber 79 = .ok (.goto (-68), 3) := by decide +kernel
theorem dX7_readNumber_82 : decode cX7_readNumber 82 = .ok (.aload_n 0, 1) := by decide +kernel
theorem dX7_readNumber_83 : decode cX7_readNumber 83 = .ok (.getfield 22, 3) := by decide +kernel
theorem dX7_readNumber_86 : decode cX7_readNumber 86 = .ok (.iload_n 2, 1) := by decide +kernel
theorem dX7_readNumber_87 : decode cX7_readNumber 87 = .ok (.if_icmp .eq 13, 3) := by decide +kernel
theorem dX7_readNumber_90 : decode cX7_readNumber 90 = .ok (.iload_n 1, 1) := by decide +kernel
theorem dX7_readNumber_91 : decode cX7_readNumber 91 = .ok (.ifCond .lt 9, 3) := by decide +kernel
theorem dX7_readNumber_94 : decode cX7_readNumber 94 = .ok (.iload_n 1, 1) := by decide +kernel
theorem dX7_readNumber_95 : decode cX7_readNumber 95 = .ok (.bipush 9, 2) := by decide +kernel
theorem dX7_readNumber_97 : decode cX7_readNumber 97 = .ok (.if_icmp .lt 10, 3) := by decide +kernel
theorem dX7_readNumber_100 : decode cX7_readNumber 100 = .ok (.aload_n 0, 1) := by decide +kernel
theorem dX7_readNumber_101 : decode cX7_readNumber 101 = .ok (.iload_n 2, 1) := by decide +kernel
theorem dX7_readNumber_102 : decode cX7_readNumber 102 = .ok (.iconst 0, 1) := by decide +kernel
theorem dX7_readNumber_103 : decode cX7_readNumber 103 = .ok (.invokevirtual 67, 3) := by decide +kernel
theorem dX7_readNumber_106 : decode cX7_readNumber 106 = .ok (.ireturn, 1) := by decide +kernel
theorem dX7_readNumber_107 : decode cX7_readNumber 107 = .ok (.aload_n 0, 1) := by decide +kernel
theorem dX7_readNumber_108 : decode cX7_readNumber 108 = .ok (.getfield 22, 3) := by decide +kernel
theorem dX7_readNumber_111 : decode cX7_readNumber 111 = .ok (.iload_n 2, 1) := by decide +kernel
theorem dX7_readNumber_112 : decode cX7_readNumber 112 = .ok (.isub, 1) := by decide +kernel
theorem dX7_readNumber_113 : decode cX7_readNumber 113 = .ok (.iconst 3, 1) := by decide +kernel
theorem dX7_readNumber_114 : decode cX7_readNumber 114 = .ok (.if_icmp .gt 17, 3) := by decide +kernel
theorem dX7_readNumber_117 : decode cX7_readNumber 117 = .ok (.iload_n 3, 1) := by decide +kernel
theorem dX7_readNumber_118 : decode cX7_readNumber 118 = .ok (.iconst 1, 1) := by decide +kernel
theorem dX7_readNumber_119 : decode cX7_readNumber 119 = .ok (.if_icmp .lt 12, 3) := by decide +kernel
theorem dX7_readNumber_122 : decode cX7_readNumber 122 = .ok (.iload_n 3, 1) := by decide +kernel
theorem dX7_readNumber_123 : decode cX7_readNumber 123 = .ok (.getstatic 102, 3) := by decide +kernel
theorem dX7_readNumber_126 : decode cX7_readNumber 126 = .ok (.iload_n 1, 1) := by decide +kernel
theorem dX7_readNumber_127 : decode cX7_readNumber 127 = .ok (.iaload, 1) := by decide +kernel
theorem dX7_readNumber_128 : decode cX7_readNumber 128 = .ok (.if_icmp .le 10, 3) := by decide +kernel
theorem dX7_readNumber_131 : decode cX7_readNumber 131 = .ok (.aload_n 0, 1) := by decide +kernel
theorem dX7_readNumber_132 : decode cX7_readNumber 132 = .ok (.iload_n 2, 1) := by decide +kernel
theorem dX7_readNumber_133 : decode cX7_readNumber 133 = .ok (.iconst 1, 1) := by decide +kernel
theorem dX7_readNumber_134 : decode cX7_readNumber 134 = .ok (.invokevirtual 67, 3) := by decide +kernel
theorem dX7_readNumber_137 : decode cX7_readNumber 137 = .ok (.ireturn, 1) := by decide +kernel
theorem dX7_readNumber_138 : decode cX7_readNumber 138 = .ok (.aload_n 0, 1) := by decide +kernel
theorem dX7_readNumber_139 : decode cX7_readNumber 139 = .ok (.getfield 9, 3) := by decide +kernel
theorem dX7_readNumber_142 : decode cX7_readNumber 142 = .ok (.iload_n 1, 1) := by decide +kernel
theorem dX7_readNumber_143 : decode cX7_readNumber 143 = .ok (.iload_n 3, 1) := by decide +kernel
theorem dX7_readNumber_144 : decode cX7_readNumber 144 = .ok (.iastore, 1) := by decide +kernel
theorem dX7_readNumber_145 : decode cX7_readNumber 145 = .ok (.iconst 1, 1) := by decide +kernel
theorem dX7_readNumber_146 : decode cX7_readNumber 146 = .ok (.ireturn, 1) := by decide +kernel
theorem dX7_skipBlanks_0 : decode cX7_skipBlanks 0 = .ok (.aload_n 0, 1) := by decide +kernel
theorem dX7_skipBlanks_1 : decode cX7_skipBlanks 1 = .ok (.getfield 22, 3) := by decide +kernel
theorem dX7_skipBlanks_4 : decode cX7_skipBlanks 4 = .ok (.aload_n 0, 1) := by decide +kernel
theorem dX7_skipBlanks_5 : decode cX7_skipBlanks 5 = .ok (.getfield 28, 3) := by decide +kernel
theorem dX7_skipBlanks_8 : decode cX7_skipBlanks 8 = .ok (.getfield 38, 3) := by decide +kernel
theorem dX7_skipBlanks_11 : decode cX7_skipBlanks 11 = .ok (.if_icmp .ge 32, 3) := by decide +kernel
theorem dX7_skipBlanks_14 : decode cX7_skipBlanks 14 = .ok (.aload_n 0, 1) := by decide +kernel
theorem dX7_skipBlanks_15 : decode cX7_skipBlanks 15 = .ok (.getfield 28, 3) := by decide +kernel
theorem dX7_skipBlanks_18 : decode cX7_skipBlanks 18 = .ok (.aload_n 0, 1) := by decide +kernel
theorem dX7_skipBlanks_19 : decode cX7_skipBlanks 19 = .ok (.getfield 22, 3) := by decide +kernel
theorem dX7_skipBlanks_22 : decode cX7_skipBlanks 22 = .ok (.invokevirtual 63, 3) := by decide +kernel
theorem dX7_skipBlanks_25 : decode cX7_skipBlanks 25 = .ok (.bipush 32, 2) := by decide +kernel
theorem dX7_skipBlanks_27 : decode cX7_skipBlanks 27 = .ok (.if_icmp .ne 16, 3) := by decide +kernel
theorem dX7_skipBlanks_30 : decode cX7_skipBlanks 30 = .ok (.aload_n 0, 1) := by decide +kernel
theorem dX7_skipBlanks_31 : decode cX7_skipBlanks 31 = .ok (.dup, 1) := by decide +kernel
theorem dX7_skipBlanks_32 : decode cX7_skipBlanks 32 = .ok (.getfield 22, 3) := by decide +kernel
theorem dX7_skipBlanks_35 : decode cX7_skipBlanks 35 = .ok (.iconst 1, 1) := by decide +kernel
theorem dX7_skipBlanks_36 : decode cX7_skipBlanks 36 = .ok (.iadd, 1) := by decide +kernel
theorem dX7_skipBlanks_37 : decode cX7_skipBlanks 37 = .ok (.putfield 22, 3) := by decide +kernel
theorem dX7_skipBlanks_40 : decode cX7_skipBlanks 40 = .ok (.goto (-40), 3) := by decide +kernel
theorem dX7_skipBlanks_43 : decode cX7_skipBlanks 43 = .ok (.return_, 1) := by decide +kernel
theorem dX7_fail_0 : decode cX7_fail 0 = .ok (.aload_n 0, 1) := by decide +kernel
theorem dX7_fail_1 : decode cX7_fail 1 = .ok (.iconst 1, 1) := by decide +kernel
theorem dX7_fail_2 : decode cX7_fail 2 = .ok (.iconst 4, 1) := by decide +kernel
theorem dX7_fail_3 : decode cX7_fail 3 = .ok (.iload_n 1, 1) := by decide +kernel
theorem dX7_fail_4 : decode cX7_fail 4 = .ok (.imul, 1) := by decide +kernel
theorem dX7_fail_5 : decode cX7_fail 5 = .ok (.iadd, 1) := by decide +kernel
theorem dX7_fail_6 : decode cX7_fail 6 = .ok (.iload_n 2, 1) := by decide +kernel
theorem dX7_fail_7 : decode cX7_fail 7 = .ok (.iadd, 1) := by decide +kernel
theorem dX7_fail_8 : decode cX7_fail 8 = .ok (.putfield 25, 3) := by decide +kernel
theorem dX7_fail_11 : decode cX7_fail 11 = .ok (.iconst 0, 1) := by decide +kernel
theorem dX7_fail_12 : decode cX7_fail 12 = .ok (.ireturn, 1) := by decide +kernel
