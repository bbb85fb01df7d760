theorem dX0_init_0 : decode cX0_init 0 = .ok (.aload_n 0, 1) := by decide +kernel
theorem dX0_init_1 : decode cX0_init 1 = .ok (.invokespecial 3, 3) := by decide +kernel
theorem dX0_init_4 : decode cX0_init 4 = .ok (.aload_n 0, 1) := by decide +kernel
theorem dX0_init_5 : decode cX0_init 5 = .ok (.bipush 8, 2) := by decide +kernel
theorem dX0_init_7 : decode cX0_init 7 = .ok (.newarray .int, 2) := by decide +kernel
theorem dX0_init_9 : decode cX0_init 9 = .ok (.putfield 9, 3) := by decide +kernel
theorem dX0_init_12 : decode cX0_init 12 = .ok (.aload_n 0, 1) := by decide +kernel
theorem dX0_init_13 : decode cX0_init 13 = .ok (.bipush 8, 2) := by decide +kernel
theorem dX0_init_15 : decode cX0_init 15 = .ok (.newarray .int, 2) := by decide +kernel
theorem dX0_init_17 : decode cX0_init 17 = .ok (.putfield 15, 3) := by decide +kernel
theorem dX0_init_20 : decode cX0_init 20 = .ok (.aload_n 0, 1) := by decide +kernel
theorem dX0_init_21 : decode cX0_init 21 = .ok (.bipush 8, 2) := by decide +kernel
theorem dX0_init_23 : decode cX0_init 23 = .ok (.newarray .int, 2) := by decide +kernel
theorem dX0_init_25 : decode cX0_init 25 = .ok (.putfield 18, 3) := by decide +kernel
theorem dX0_init_28 : decode cX0_init 28 = .ok (.aload_n 0, 1) := by decide +kernel
theorem dX0_init_29 : decode cX0_init 29 = .ok (.bipush 8, 2) := by decide +kernel
theorem dX0_init_31 : decode cX0_init 31 = .ok (.newarray .int, 2) := by decide +kernel
theorem dX0_init_33 : decode cX0_init 33 = .ok (.putfield 21, 3) := by decide +kernel
theorem dX0_init_36 : decode cX0_init 36 = .ok (.aload_n 0, 1) := by decide +kernel
theorem dX0_init_37 : decode cX0_init 37 = .ok (.bipush 8, 2) := by decide +kernel
theorem dX0_init_39 : decode cX0_init 39 = .ok (.newarray .int, 2) := by decide +kernel
theorem dX0_init_41 : decode cX0_init 41 = .ok (.putfield 24, 3) := by decide +kernel
theorem dX0_init_44 : decode cX0_init 44 = .ok (.aload_n 0, 1) := by decide +kernel
theorem dX0_init_45 : decode cX0_init 45 = .ok (.iconst 2, 1) := by decide +kernel
theorem dX0_init_46 : decode cX0_init 46 = .ok (.newarray .int, 2) := by decide +kernel
theorem dX0_init_48 : decode cX0_init 48 = .ok (.putfield 27, 3) := by decide +kernel
theorem dX0_init_51 : decode cX0_init 51 = .ok (.aload_n 0, 1) := by decide +kernel
theorem dX0_init_52 : decode cX0_init 52 = .ok (.bipush 40, 2) := by decide +kernel
theorem dX0_init_54 : decode cX0_init 54 = .ok (.newarray .int, 2) := by decide +kernel
theorem dX0_init_56 : decode cX0_init 56 = .ok (.putfield 30, 3) := by decide +kernel
theorem dX0_init_59 : decode cX0_init 59 = .ok (.aload_n 0, 1) := by decide +kernel
theorem dX0_init_60 : decode cX0_init 60 = .ok (.bipush 40, 2) := by decide +kernel
theorem dX0_init_62 : decode cX0_init 62 = .ok (.newarray .int, 2) := by decide +kernel
theorem dX0_init_64 : decode cX0_init 64 = .ok (.putfield 33, 3) := by decide +kernel
theorem dX0_init_67 : decode cX0_init 67 = .ok (.aload_n 0, 1) := by decide +kernel
theorem dX0_init_68 : decode cX0_init 68 = .ok (.iload_n 1, 1) := by decide +kernel
theorem dX0_init_69 : decode cX0_init 69 = .ok (.putfield 36, 3) := by decide +kernel
theorem dX0_init_72 : decode cX0_init 72 = .ok (.iconst 0, 1) := by decide +kernel
theorem dX0_init_73 : decode cX0_init 73 = .ok (.istore_n 2, 1) := by decide +kernel
theorem dX0_init_74 : decode cX0_init 74 = .ok (.iload_n 2, 1) := by decide +kernel
theorem dX0_init_75 : decode cX0_init 75 = .ok (.bipush 8, 2) := by decide +kernel
theorem dX0_init_77 : decode cX0_init 77 = .ok (.if_icmp .ge 17, 3) := by decide +kernel
theorem dX0_init_80 : decode cX0_init 80 = .ok (.aload_n 0, 1) := by decide +kernel
theorem dX0_init_81 : decode cX0_init 81 = .ok (.getfield 18, 3) := by decide +kernel
theorem dX0_init_84 : decode cX0_init 84 = .ok (.iload_n 2, 1) := by decide +kernel
theorem dX0_init_85 : decode cX0_init 85 = .ok (.bipush 10, 2) := by decide +kernel
theorem dX0_init_87 : decode cX0_init 87 = .ok (.iastore, 1) := by decide +kernel
theorem dX0_init_88 : decode cX0_init 88 = .ok (.iinc 2 1, 3) := by decide +kernel
theorem dX0_init_91 : decode cX0_init 91 = .ok (.goto (-17), 3) := by decide +kernel
theorem dX0_init_94 : decode cX0_init 94 = .ok (.return_, 1) := by decide +kernel
theorem dX0_addWant_0 : decode cX0_addWant 0 = .ok (.aload_n 0, 1) := by decide +kernel
theorem dX0_addWant_1 : decode cX0_addWant 1 = .ok (.getfield 40, 3) := by decide +kernel
theorem dX0_addWant_4 : decode cX0_addWant 4 = .ok (.iconst 2, 1) := by decide +kernel
theorem dX0_addWant_5 : decode cX0_addWant 5 = .ok (.if_icmp .lt 5, 3) := by decide +kernel
theorem dX0_addWant_8 : decode cX0_addWant 8 = .ok (.iconst (-1), 1) := by decide +kernel
theorem dX0_addWant_9 : decode cX0_addWant 9 = .ok (.ireturn, 1) := by decide +kernel
theorem dX0_addWant_10 : decode cX0_addWant 10 = .ok (.iconst 0, 1) := by decide +kernel
theorem dX0_addWant_11 : decode cX0_addWant 11 = .ok (.istore_n 2, 1) := by decide +kernel
theorem dX0_addWant_12 : decode cX0_addWant 12 = .ok (.iload_n 2, 1) := by decide +kernel
theorem dX0_addWant_13 : decode cX0_addWant 13 = .ok (.aload_n 0, 1) := by decide +kernel
theorem dX0_addWant_14 : decode cX0_addWant 14 = .ok (.getfield 40, 3) := by decide +kernel
theorem dX0_addWant_17 : decode cX0_addWant 17 = .ok (.if_icmp .ge 21, 3) := by decide +kernel
theorem dX0_addWant_20 : decode cX0_addWant 20 = .ok (.aload_n 0, 1) := by decide +kernel
theorem dX0_addWant_21 : decode cX0_addWant 21 = .ok (.getfield 27, 3) := by decide +kernel
theorem dX0_addWant_24 : decode cX0_addWant 24 = .ok (.iload_n 2, 1) := by decide +kernel
theorem dX0_addWant_25 : decode cX0_addWant 25 = .ok (.iaload, 1) := by decide +kernel
theorem dX0_addWant_26 : decode cX0_addWant 26 = .ok (.iload_n 1, 1) := by decide +kernel
theorem dX0_addWant_27 : decode cX0_addWant 27 = .ok (.if_icmp .ne 5, 3) := by decide +kernel
theorem dX0_addWant_30 : decode cX0_addWant 30 = .ok (.iconst (-1), 1) := by decide +kernel
theorem dX0_addWant_31 : decode cX0_addWant 31 = .ok (.ireturn, 1) := by decide +kernel
theorem dX0_addWant_32 : decode cX0_addWant 32 = .ok (.iinc 2 1, 3) := by decide +kernel
theorem dX0_addWant_35 : decode cX0_addWant 35 = .ok (.goto (-23), 3) := by decide +kernel
theorem dX0_addWant_38 : decode cX0_addWant 38 = .ok (.aload_n 0, 1) := by decide +kernel
theorem dX0_addWant_39 : decode cX0_addWant 39 = .ok (.getfield 27, 3) := by decide +kernel
theorem dX0_addWant_42 : decode cX0_addWant 42 = .ok (.aload_n 0, 1) := by decide +kernel
theorem dX0_addWant_43 : decode cX0_addWant 43 = .ok (.getfield 40, 3) := by decide +kernel
theorem dX0_addWant_46 : decode cX0_addWant 46 = .ok (.iload_n 1, 1) := by decide +kernel
theorem dX0_addWant_47 : decode cX0_addWant 47 = .ok (.iastore, 1) := by decide +kernel
theorem dX0_addWant_48 : decode cX0_addWant 48 = .ok (.aload_n 0, 1) := by decide +kernel
theorem dX0_addWant_49 : decode cX0_addWant 49 = .ok (.dup, 1) := by decide +kernel
theorem dX0_addWant_50 : decode cX0_addWant 50 = .ok (.getfield 40, 3) := by decide +kernel
theorem dX0_addWant_53 : decode cX0_addWant 53 = .ok (.iconst 1, 1) := by decide +kernel
theorem dX0_addWant_54 : decode cX0_addWant 54 = .ok (.iadd, 1) := by decide +kernel
theorem dX0_addWant_55 : decode cX0_addWant 55 = .ok (.putfield 40, 3) := by decide +kernel
theorem dX0_addWant_58 : decode cX0_addWant 58 = .ok (.aload_n 0, 1) := by decide +kernel
theorem dX0_addWant_59 : decode cX0_addWant 59 = .ok (.getfield 40, 3) := by decide +kernel
theorem dX0_addWant_62 : decode cX0_addWant 62 = .ok (.ireturn, 1) := by decide +kernel
theorem dX0_isBarred_0 : decode cX0_isBarred 0 = .ok (.aload_n 0, 1) := by decide +kernel
theorem dX0_isBarred_1 : decode cX0_isBarred 1 = .ok (.getfield 43, 3) := by decide +kernel
theorem dX0_isBarred_4 : decode cX0_isBarred 4 = .ok (.iload_n 1, 1) := by decide +kernel
theorem dX0_isBarred_5 : decode cX0_isBarred 5 = .ok (.ishr, 1) := by decide +kernel
theorem dX0_isBarred_6 : decode cX0_isBarred 6 = .ok (.iconst 1, 1) := by decide +kernel
theorem dX0_isBarred_7 : decode cX0_isBarred 7 = .ok (.iand, 1) := by decide +kernel
theorem dX0_isBarred_8 : decode cX0_isBarred 8 = .ok (.ifCond .eq 7, 3) := by decide +kernel
theorem dX0_isBarred_11 : decode cX0_isBarred 11 = .ok (.iconst 1, 1) := by decide +kernel
theorem dX0_isBarred_12 : decode cX0_isBarred 12 = .ok (.goto 4, 3) := by decide +kernel
theorem dX0_isBarred_15 : decode cX0_isBarred 15 = .ok (.iconst 0, 1) := by decide +kernel
theorem dX0_isBarred_16 : decode cX0_isBarred 16 = .ok (.ireturn, 1) := by decide +kernel
theorem dX0_setBar_0 : decode cX0_setBar 0 = .ok (.aload_n 0, 1) := by decide +kernel
theorem dX0_setBar_1 : decode cX0_setBar 1 = .ok (.iload_n 2, 1) := by decide +kernel
theorem dX0_setBar_2 : decode cX0_setBar 2 = .ok (.ifCond .eq 14, 3) := by decide +kernel
theorem dX0_setBar_5 : decode cX0_setBar 5 = .ok (.aload_n 0, 1) := by decide +kernel
theorem dX0_setBar_6 : decode cX0_setBar 6 = .ok (.getfield 43, 3) := by decide +kernel
theorem dX0_setBar_9 : decode cX0_setBar 9 = .ok (.iconst 1, 1) := by decide +kernel
theorem dX0_setBar_10 : decode cX0_setBar 10 = .ok (.iload_n 1, 1) := by decide +kernel
theorem dX0_setBar_11 : decode cX0_setBar 11 = .ok (.ishl, 1) := by decide +kernel
theorem dX0_setBar_12 : decode cX0_setBar 12 = .ok (.ior, 1) := by decide +kernel
theorem dX0_setBar_13 : decode cX0_setBar 13 = .ok (.goto 13, 3) := by decide +kernel
theorem dX0_setBar_16 : decode cX0_setBar 16 = .ok (.aload_n 0, 1) := by decide +kernel
theorem dX0_setBar_17 : decode cX0_setBar 17 = .ok (.getfield 43, 3) := by decide +kernel
theorem dX0_setBar_20 : decode cX0_setBar 20 = .ok (.iconst 1, 1) := by decide +kernel
theorem dX0_setBar_21 : decode cX0_setBar 21 = .ok (.iload_n 1, 1) := by decide +kernel
theorem dX0_setBar_22 : decode cX0_setBar 22 = .ok (.ishl, 1) := by decide +kernel
theorem dX0_setBar_23 : decode cX0_setBar 23 = .ok (.iconst (-1), 1) := by decide +kernel
theorem dX0_setBar_24 : decode cX0_setBar 24 = .ok (.ixor, 1) := by decide +kernel
theorem dX0_setBar_25 : decode cX0_setBar 25 = .ok (.iand, 1) := by decide +kernel
theorem dX0_setBar_26 : decode cX0_setBar 26 = .ok (.putfield 43, 3) := by decide +kernel
theorem dX0_setBar_29 : decode cX0_setBar 29 = .ok (.return_, 1) := by decide +kernel
theorem dX0_takeTest_0 : decode cX0_takeTest 0 = .ok (.iload_n 3, 1) := by decide +kernel
theorem dX0_takeTest_1 : decode cX0_takeTest 1 = .ok (.ifCond .eq 18, 3) := by decide +kernel
theorem dX0_takeTest_4 : decode cX0_takeTest 4 = .ok (.aload_n 0, 1) := by decide +kernel
theorem dX0_takeTest_5 : decode cX0_takeTest 5 = .ok (.getfield 15, 3) := by decide +kernel
theorem dX0_takeTest_8 : decode cX0_takeTest 8 = .ok (.iload_n 1, 1) := by decide +kernel
theorem dX0_takeTest_9 : decode cX0_takeTest 9 = .ok (.iaload, 1) := by decide +kernel
theorem dX0_takeTest_10 : decode cX0_takeTest 10 = .ok (.iload_n 2, 1) := by decide +kernel
theorem dX0_takeTest_11 : decode cX0_takeTest 11 = .ok (.iconst 1, 1) := by decide +kernel
theorem dX0_takeTest_12 : decode cX0_takeTest 12 = .ok (.isub, 1) := by decide +kernel
theorem dX0_takeTest_13 : decode cX0_takeTest 13 = .ok (.invokestatic 46, 3) := by decide +kernel
theorem dX0_takeTest_16 : decode cX0_takeTest 16 = .ok (.goto 9, 3) := by decide +kernel
theorem dX0_takeTest_19 : decode cX0_takeTest 19 = .ok (.aload_n 0, 1) := by decide +kernel
theorem dX0_takeTest_20 : decode cX0_takeTest 20 = .ok (.getfield 15, 3) := by decide +kernel
theorem dX0_takeTest_23 : decode cX0_takeTest 23 = .ok (.iload_n 1, 1) := by decide +kernel
theorem dX0_takeTest_24 : decode cX0_takeTest 24 = .ok (.iaload, 1) := by decide +kernel
theorem dX0_takeTest_25 : decode cX0_takeTest 25 = .ok (.istore 4, 2) := by decide +kernel
theorem dX0_takeTest_27 : decode cX0_takeTest 27 = .ok (.iload_n 3, 1) := by decide +kernel
theorem dX0_takeTest_28 : decode cX0_takeTest 28 = .ok (.ifCond .eq 12, 3) := by decide +kernel
theorem dX0_takeTest_31 : decode cX0_takeTest 31 = .ok (.aload_n 0, 1) := by decide +kernel
theorem dX0_takeTest_32 : decode cX0_takeTest 32 = .ok (.getfield 18, 3) := by decide +kernel
theorem dX0_takeTest_35 : decode cX0_takeTest 35 = .ok (.iload_n 1, 1) := by decide +kernel
theorem dX0_takeTest_36 : decode cX0_takeTest 36 = .ok (.iaload, 1) := by decide +kernel
theorem dX0_takeTest_37 : decode cX0_takeTest 37 = .ok (.goto 13, 3) := by decide +kernel
theorem dX0_takeTest_40 : decode cX0_takeTest 40 = .ok (.aload_n 0, 1) := by decide +kernel
theorem dX0_takeTest_41 : decode cX0_takeTest 41 = .ok (.getfield 18, 3) := by decide +kernel
theorem dX0_takeTest_44 : decode cX0_takeTest 44 = .ok (.iload_n 1, 1) := by decide +kernel
theorem dX0_takeTest_45 : decode cX0_takeTest 45 = .ok (.iaload, 1) := by decide +kernel
theorem dX0_takeTest_46 : decode cX0_takeTest 46 = .ok (.iload_n 2, 1) := by decide +kernel
theorem dX0_takeTest_47 : decode cX0_takeTest 47 = .ok (.invokestatic 52, 3) := by decide +kernel
theorem dX0_takeTest_50 : decode cX0_takeTest 50 = .ok (.istore 5, 2) := by decide +kernel
theorem dX0_takeTest_52 : decode cX0_takeTest 52 = .ok (.iload 4, 2) := by decide +kernel
theorem dX0_takeTest_54 : decode cX0_takeTest 54 = .ok (.iload 5, 2) := by decide +kernel
theorem dX0_takeTest_56 : decode cX0_takeTest 56 = .ok (.if_icmp .le 15, 3) := by decide +kernel
theorem dX0_takeTest_59 : decode cX0_takeTest 59 = .ok (.aload_n 0, 1) := by decide +kernel
theorem dX0_takeTest_60 : decode cX0_takeTest 60 = .ok (.getfield 24, 3) := by decide +kernel
theorem dX0_takeTest_63 : decode cX0_takeTest 63 = .ok (.iload_n 1, 1) := by decide +kernel
theorem dX0_takeTest_64 : decode cX0_takeTest 64 = .ok (.dup2, 1) := by decide +kernel
theorem dX0_takeTest_65 : decode cX0_takeTest 65 = .ok (.iaload, 1) := by decide +kernel
theorem dX0_takeTest_66 : decode cX0_takeTest 66 = .ok (.iconst 1, 1) := by decide +kernel
theorem dX0_takeTest_67 : decode cX0_takeTest 67 = .ok (.iadd, 1) := by decide +kernel
theorem dX0_takeTest_68 : decode cX0_takeTest 68 = .ok (.iastore, 1) := by decide +kernel
theorem dX0_takeTest_69 : decode cX0_takeTest 69 = .ok (.iconst 0, 1) := by decide +kernel
theorem dX0_takeTest_70 : decode cX0_takeTest 70 = .ok (.ireturn, 1) := by decide +kernel
theorem dX0_takeTest_71 : decode cX0_takeTest 71 = .ok (.aload_n 0, 1) := by decide +kernel
theorem dX0_takeTest_72 : decode cX0_takeTest 72 = .ok (.getfield 15, 3) := by decide +kernel
theorem dX0_takeTest_75 : decode cX0_takeTest 75 = .ok (.iload_n 1, 1) := by decide +kernel
theorem dX0_takeTest_76 : decode cX0_takeTest 76 = .ok (.iload 4, 2) := by decide +kernel
theorem dX0_takeTest_78 : decode cX0_takeTest 78 = .ok (.iastore, 1) := by decide +kernel
theorem dX0_takeTest_79 : decode cX0_takeTest 79 = .ok (.aload_n 0, 1) := by decide +kernel
theorem dX0_takeTest_80 : decode cX0_takeTest 80 = .ok (.getfield 18, 3) := by decide +kernel
theorem dX0_takeTest_83 : decode cX0_takeTest 83 = .ok (.iload_n 1, 1) := by decide +kernel
theorem dX0_takeTest_84 : decode cX0_takeTest 84 = .ok (.iload 5, 2) := by decide +kernel
theorem dX0_takeTest_86 : decode cX0_takeTest 86 = .ok (.iastore, 1) := by decide +kernel
theorem dX0_takeTest_87 : decode cX0_takeTest 87 = .ok (.aload_n 0, 1) := by decide +kernel
theorem dX0_takeTest_88 : decode cX0_takeTest 88 = .ok (.getfield 21, 3) := by decide +kernel
theorem dX0_takeTest_91 : decode cX0_takeTest 91 = .ok (.iload_n 1, 1) := by decide +kernel
theorem dX0_takeTest_92 : decode cX0_takeTest 92 = .ok (.dup2, 1) := by decide +kernel
theorem dX0_takeTest_93 : decode cX0_takeTest 93 = .ok (.iaload, 1) := by decide +kernel
theorem dX0_takeTest_94 : decode cX0_takeTest 94 = .ok (.iconst 1, 1) := by decide +kernel
theorem dX0_takeTest_95 : decode cX0_takeTest 95 = .ok (.iadd, 1) := by decide +kernel
theorem dX0_takeTest_96 : decode cX0_takeTest 96 = .ok (.iastore, 1) := by decide +kernel
theorem dX0_takeTest_97 : decode cX0_takeTest 97 = .ok (.iconst 1, 1) := by decide +kernel
theorem dX0_takeTest_98 : decode cX0_takeTest 98 = .ok (.ireturn, 1) := by decide +kernel
theorem dX0_has_0 : decode cX0_has 0 = .ok (.aload_n 0, 1) := by decide +kernel
theorem dX0_has_1 : decode cX0_has 1 = .ok (.getfield 15, 3) := by decide +kernel
theorem dX0_has_4 : decode cX0_has 4 = .ok (.iload_n 1, 1) := by decide +kernel
theorem dX0_has_5 : decode cX0_has 5 = .ok (.iaload, 1) := by decide +kernel
theorem dX0_has_6 : decode cX0_has 6 = .ok (.bipush 7, 2) := by decide +kernel
theorem dX0_has_8 : decode cX0_has 8 = .ok (.if_icmp .ge 23, 3) := by decide +kernel
theorem dX0_has_11 : decode cX0_has 11 = .ok (.aload_n 0, 1) := by decide +kernel
theorem dX0_has_12 : decode cX0_has 12 = .ok (.getfield 21, 3) := by decide +kernel
theorem dX0_has_15 : decode cX0_has 15 = .ok (.iload_n 1, 1) := by decide +kernel
theorem dX0_has_16 : decode cX0_has 16 = .ok (.iaload, 1) := by decide +kernel
theorem dX0_has_17 : decode cX0_has 17 = .ok (.ifCond .ne 18, 3) := by decide +kernel
theorem dX0_has_20 : decode cX0_has 20 = .ok (.aload_n 0, 1) := by decide +kernel
theorem dX0_has_21 : decode cX0_has 21 = .ok (.getfield 9, 3) := by decide +kernel
theorem dX0_has_24 : decode cX0_has 24 = .ok (.iload_n 1, 1) := by decide +kernel
theorem dX0_has_25 : decode cX0_has 25 = .ok (.iaload, 1) := by decide +kernel
theorem dX0_has_26 : decode cX0_has 26 = .ok (.bipush 8, 2) := by decide +kernel
theorem dX0_has_28 : decode cX0_has 28 = .ok (.if_icmp .lt 7, 3) := by decide +kernel
theorem dX0_has_31 : decode cX0_has 31 = .ok (.iconst 1, 1) := by decide +kernel
theorem dX0_has_32 : decode cX0_has 32 = .ok (.goto 4, 3) := by decide +kernel
theorem dX0_has_35 : decode cX0_has 35 = .ok (.iconst 0, 1) := by decide +kernel
theorem dX0_has_36 : decode cX0_has 36 = .ok (.ireturn, 1) := by decide +kernel
theorem dX0_giftTo_0 : decode cX0_giftTo 0 = .ok (.iconst 0, 1) := by decide +kernel
theorem dX0_giftTo_1 : decode cX0_giftTo 1 = .ok (.istore_n 2, 1) := by decide +kernel
theorem dX0_giftTo_2 : decode cX0_giftTo 2 = .ok (.iload_n 2, 1) := by decide +kernel
theorem dX0_giftTo_3 : decode cX0_giftTo 3 = .ok (.aload_n 1, 1) := by decide +kernel
theorem dX0_giftTo_4 : decode cX0_giftTo 4 = .ok (.getfield 40, 3) := by decide +kernel
theorem dX0_giftTo_7 : decode cX0_giftTo 7 = .ok (.if_icmp .ge 29, 3) := by decide +kernel
theorem dX0_giftTo_10 : decode cX0_giftTo 10 = .ok (.aload_n 0, 1) := by decide +kernel
theorem dX0_giftTo_11 : decode cX0_giftTo 11 = .ok (.aload_n 1, 1) := by decide +kernel
theorem dX0_giftTo_12 : decode cX0_giftTo 12 = .ok (.getfield 27, 3) := by decide +kernel
theorem dX0_giftTo_15 : decode cX0_giftTo 15 = .ok (.iload_n 2, 1) := by decide +kernel
theorem dX0_giftTo_16 : decode cX0_giftTo 16 = .ok (.iaload, 1) := by decide +kernel
theorem dX0_giftTo_17 : decode cX0_giftTo 17 = .ok (.invokevirtual 55, 3) := by decide +kernel
theorem dX0_giftTo_20 : decode cX0_giftTo 20 = .ok (.ifCond .eq 10, 3) := by decide +kernel
theorem dX0_giftTo_23 : decode cX0_giftTo 23 = .ok (.aload_n 1, 1) := by decide +kernel
theorem dX0_giftTo_24 : decode cX0_giftTo 24 = .ok (.getfield 27, 3) := by decide +kernel
theorem dX0_giftTo_27 : decode cX0_giftTo 27 = .ok (.iload_n 2, 1) := by decide +kernel
theorem dX0_giftTo_28 : decode cX0_giftTo 28 = .ok (.iaload, 1) := by decide +kernel
theorem dX0_giftTo_29 : decode cX0_giftTo 29 = .ok (.ireturn, 1) := by decide +kernel
theorem dX0_giftTo_30 : decode cX0_giftTo 30 = .ok (.iinc 2 1, 3) := by decide +kernel
theorem dX0_giftTo_33 : decode cX0_giftTo 33 = .ok (.goto (-31), 3) := by decide +kernel
theorem dX0_giftTo_36 : decode cX0_giftTo 36 = .ok (.iconst (-1), 1) := by decide +kernel
theorem dX0_giftTo_37 : decode cX0_giftTo 37 = .ok (.ireturn, 1) := by decide +kernel
theorem dX0_waitLonger_0 : decode cX0_waitLonger 0 = .ok (.aload_n 0, 1) := by decide +kernel
theorem dX0_waitLonger_1 : decode cX0_waitLonger 1 = .ok (.bipush 20, 2) := by decide +kernel
theorem dX0_waitLonger_3 : decode cX0_waitLonger 3 = .ok (.aload_n 0, 1) := by decide +kernel
theorem dX0_waitLonger_4 : decode cX0_waitLonger 4 = .ok (.getfield 59, 3) := by decide +kernel
theorem dX0_waitLonger_7 : decode cX0_waitLonger 7 = .ok (.iload_n 1, 1) := by decide +kernel
theorem dX0_waitLonger_8 : decode cX0_waitLonger 8 = .ok (.iadd, 1) := by decide +kernel
theorem dX0_waitLonger_9 : decode cX0_waitLonger 9 = .ok (.invokestatic 52, 3) := by decide +kernel
theorem dX0_waitLonger_12 : decode cX0_waitLonger 12 = .ok (.putfield 59, 3) := by decide +kernel
theorem dX0_waitLonger_15 : decode cX0_waitLonger 15 = .ok (.return_, 1) := by decide +kernel
theorem dX0_addWord_0 : decode cX0_addWord 0 = .ok (.aload_n 0, 1) := by decide +kernel
theorem dX0_addWord_1 : decode cX0_addWord 1 = .ok (.getfield 62, 3) := by decide +kernel
theorem dX0_addWord_4 : decode cX0_addWord 4 = .ok (.bipush 40, 2) := by decide +kernel
theorem dX0_addWord_6 : decode cX0_addWord 6 = .ok (.if_icmp .lt 5, 3) := by decide +kernel
theorem dX0_addWord_9 : decode cX0_addWord 9 = .ok (.iconst (-1), 1) := by decide +kernel
theorem dX0_addWord_10 : decode cX0_addWord 10 = .ok (.ireturn, 1) := by decide +kernel
theorem dX0_addWord_11 : decode cX0_addWord 11 = .ok (.aload_n 0, 1) := by decide +kernel
theorem dX0_addWord_12 : decode cX0_addWord 12 = .ok (.getfield 30, 3) := by decide +kernel
theorem dX0_addWord_15 : decode cX0_addWord 15 = .ok (.aload_n 0, 1) := by decide +kernel
theorem dX0_addWord_16 : decode cX0_addWord 16 = .ok (.getfield 62, 3) := by decide +kernel
theorem dX0_addWord_19 : decode cX0_addWord 19 = .ok (.iconst 0, 1) := by decide +kernel
theorem dX0_addWord_20 : decode cX0_addWord 20 = .ok (.iastore, 1) := by decide +kernel
theorem dX0_addWord_21 : decode cX0_addWord 21 = .ok (.aload_n 0, 1) := by decide +kernel
theorem dX0_addWord_22 : decode cX0_addWord 22 = .ok (.getfield 33, 3) := by decide +kernel
theorem dX0_addWord_25 : decode cX0_addWord 25 = .ok (.aload_n 0, 1) := by decide +kernel
theorem dX0_addWord_26 : decode cX0_addWord 26 = .ok (.getfield 62, 3) := by decide +kernel
theorem dX0_addWord_29 : decode cX0_addWord 29 = .ok (.iload_n 1, 1) := by decide +kernel
theorem dX0_addWord_30 : decode cX0_addWord 30 = .ok (.iastore, 1) := by decide +kernel
theorem dX0_addWord_31 : decode cX0_addWord 31 = .ok (.aload_n 0, 1) := by decide +kernel
theorem dX0_addWord_32 : decode cX0_addWord 32 = .ok (.dup, 1) := by decide +kernel
theorem dX0_addWord_33 : decode cX0_addWord 33 = .ok (.getfield 62, 3) := by decide +kernel
theorem dX0_addWord_36 : decode cX0_addWord 36 = .ok (.iconst 1, 1) := by decide +kernel
theorem dX0_addWord_37 : decode cX0_addWord 37 = .ok (.iadd, 1) := by decide +kernel
theorem dX0_addWord_38 : decode cX0_addWord 38 = .ok (.putfield 62, 3) := by decide +kernel
theorem dX0_addWord_41 : decode cX0_addWord 41 = .ok (.aload_n 0, 1) := by decide +kernel
theorem dX0_addWord_42 : decode cX0_addWord 42 = .ok (.getfield 62, 3) := by decide +kernel
theorem dX0_addWord_45 : decode cX0_addWord 45 = .ok (.iconst 1, 1) := by decide +kernel
theorem dX0_addWord_46 : decode cX0_addWord 46 = .ok (.isub, 1) := by decide +kernel
theorem dX0_addWord_47 : decode cX0_addWord 47 = .ok (.ireturn, 1) := by decide +kernel
theorem dX0_answerWord_0 : decode cX0_answerWord 0 = .ok (.aload_n 0, 1) := by decide +kernel
theorem dX0_answerWord_1 : decode cX0_answerWord 1 = .ok (.getfield 33, 3) := by decide +kernel
theorem dX0_answerWord_4 : decode cX0_answerWord 4 = .ok (.iload_n 1, 1) := by decide +kernel
theorem dX0_answerWord_5 : decode cX0_answerWord 5 = .ok (.iaload, 1) := by decide +kernel
theorem dX0_answerWord_6 : decode cX0_answerWord 6 = .ok (.iload_n 3, 1) := by decide +kernel
theorem dX0_answerWord_7 : decode cX0_answerWord 7 = .ok (.if_icmp .le 5, 3) := by decide +kernel
theorem dX0_answerWord_10 : decode cX0_answerWord 10 = .ok (.iconst 0, 1) := by decide +kernel
theorem dX0_answerWord_11 : decode cX0_answerWord 11 = .ok (.ireturn, 1) := by decide +kernel
theorem dX0_answerWord_12 : decode cX0_answerWord 12 = .ok (.aload_n 0, 1) := by decide +kernel
theorem dX0_answerWord_13 : decode cX0_answerWord 13 = .ok (.getfield 30, 3) := by decide +kernel
theorem dX0_answerWord_16 : decode cX0_answerWord 16 = .ok (.iload_n 1, 1) := by decide +kernel
theorem dX0_answerWord_17 : decode cX0_answerWord 17 = .ok (.iload_n 2, 1) := by decide +kernel
theorem dX0_answerWord_18 : decode cX0_answerWord 18 = .ok (.ifCond .eq 18, 3) := by decide +kernel
theorem dX0_answerWord_21 : decode cX0_answerWord 21 = .ok (.iconst 5, 1) := by decide +kernel
theorem dX0_answerWord_22 : decode cX0_answerWord 22 = .ok (.aload_n 0, 1) := by decide +kernel
theorem dX0_answerWord_23 : decode cX0_answerWord 23 = .ok (.getfield 30, 3) := by decide +kernel
theorem dX0_answerWord_26 : decode cX0_answerWord 26 = .ok (.iload_n 1, 1) := by decide +kernel
theorem dX0_answerWord_27 : decode cX0_answerWord 27 = .ok (.iaload, 1) := by decide +kernel
theorem dX0_answerWord_28 : decode cX0_answerWord 28 = .ok (.iconst 1, 1) := by decide +kernel
theorem dX0_answerWord_29 : decode cX0_answerWord 29 = .ok (.iadd, 1) := by decide +kernel
theorem dX0_answerWord_30 : decode cX0_answerWord 30 = .ok (.invokestatic 52, 3) := by decide +kernel
theorem dX0_answerWord_33 : decode cX0_answerWord 33 = .ok (.goto 4, 3) := by decide +kernel
theorem dX0_answerWord_36 : decode cX0_answerWord 36 = .ok (.iconst 0, 1) := by decide +kernel
theorem dX0_answerWord_37 : decode cX0_answerWord 37 = .ok (.iastore, 1) := by decide +kernel
theorem dX0_answerWord_38 : decode cX0_answerWord 38 = .ok (.aload_n 0, 1) := by decide +kernel
theorem dX0_answerWord_39 : decode cX0_answerWord 39 = .ok (.getfield 33, 3) := by decide +kernel
theorem dX0_answerWord_42 : decode cX0_answerWord 42 = .ok (.iload_n 1, 1) := by decide +kernel
theorem dX0_answerWord_43 : decode cX0_answerWord 43 = .ok (.iload_n 3, 1) := by decide +kernel
theorem dX0_answerWord_44 : decode cX0_answerWord 44 = .ok (.iconst 1, 1) := by decide +kernel
theorem dX0_answerWord_45 : decode cX0_answerWord 45 = .ok (.aload_n 0, 1) := by decide +kernel
theorem dX0_answerWord_46 : decode cX0_answerWord 46 = .ok (.getfield 30, 3) := by decide +kernel
theorem dX0_answerWord_49 : decode cX0_answerWord 49 = .ok (.iload_n 1, 1) := by decide +kernel
theorem dX0_answerWord_50 : decode cX0_answerWord 50 = .ok (.iaload, 1) := by decide +kernel
theorem dX0_answerWord_51 : decode cX0_answerWord 51 = .ok (.ishl, 1) := by decide +kernel
theorem dX0_answerWord_52 : decode cX0_answerWord 52 = .ok (.iadd, 1) := by decide +kernel
theorem dX0_answerWord_53 : decode cX0_answerWord 53 = .ok (.iastore, 1) := by decide +kernel
theorem dX0_answerWord_54 : decode cX0_answerWord 54 = .ok (.iconst 1, 1) := by decide +kernel
theorem dX0_answerWord_55 : decode cX0_answerWord 55 = .ok (.ireturn, 1) := by decide +kernel
theorem dX0_firstDue_0 : decode cX0_firstDue 0 = .ok (.iconst (-1), 1) := by decide +kernel
theorem dX0_firstDue_1 : decode cX0_firstDue 1 = .ok (.istore_n 2, 1) := by decide +kernel
theorem dX0_firstDue_2 : decode cX0_firstDue 2 = .ok (.iconst 0, 1) := by decide +kernel
theorem dX0_firstDue_3 : decode cX0_firstDue 3 = .ok (.istore_n 3, 1) := by decide +kernel
theorem dX0_firstDue_4 : decode cX0_firstDue 4 = .ok (.iload_n 3, 1) := by decide +kernel
theorem dX0_firstDue_5 : decode cX0_firstDue 5 = .ok (.aload_n 0, 1) := by decide +kernel
theorem dX0_firstDue_6 : decode cX0_firstDue 6 = .ok (.getfield 62, 3) := by decide +kernel
theorem dX0_firstDue_9 : decode cX0_firstDue 9 = .ok (.if_icmp .ge 41, 3) := by decide +kernel
theorem dX0_firstDue_12 : decode cX0_firstDue 12 = .ok (.aload_n 0, 1) := by decide +kernel
theorem dX0_firstDue_13 : decode cX0_firstDue 13 = .ok (.getfield 33, 3) := by decide +kernel
theorem dX0_firstDue_16 : decode cX0_firstDue 16 = .ok (.iload_n 3, 1) := by decide +kernel
theorem dX0_firstDue_17 : decode cX0_firstDue 17 = .ok (.iaload, 1) := by decide +kernel
theorem dX0_firstDue_18 : decode cX0_firstDue 18 = .ok (.iload_n 1, 1) := by decide +kernel
theorem dX0_firstDue_19 : decode cX0_firstDue 19 = .ok (.if_icmp .gt 25, 3) := by decide +kernel
theorem dX0_firstDue_22 : decode cX0_firstDue 22 = .ok (.iload_n 2, 1) := by decide +kernel
theorem dX0_firstDue_23 : decode cX0_firstDue 23 = .ok (.iconst (-1), 1) := by decide +kernel
theorem dX0_firstDue_24 : decode cX0_firstDue 24 = .ok (.if_icmp .eq 18, 3) := by decide +kernel
theorem dX0_firstDue_27 : decode cX0_firstDue 27 = .ok (.aload_n 0, 1) := by decide +kernel
theorem dX0_firstDue_28 : decode cX0_firstDue 28 = .ok (.getfield 33, 3) := by decide +kernel
theorem dX0_firstDue_31 : decode cX0_firstDue 31 = .ok (.iload_n 3, 1) := by decide +kernel
theorem dX0_firstDue_32 : decode cX0_firstDue 32 = .ok (.iaload, 1) := by decide +kernel
theorem dX0_firstDue_33 : decode cX0_firstDue 33 = .ok (.aload_n 0, 1) := by decide +kernel
theorem dX0_firstDue_34 : decode cX0_firstDue 34 = .ok (.getfield 33, 3) := by decide +kernel
theorem dX0_firstDue_37 : decode cX0_firstDue 37 = .ok (.iload_n 2, 1) := by decide +kernel
theorem dX0_firstDue_38 : decode cX0_firstDue 38 = .ok (.iaload, 1) := by decide +kernel
theorem dX0_firstDue_39 : decode cX0_firstDue 39 = .ok (.if_icmp .ge 5, 3) := by decide +kernel
theorem dX0_firstDue_42 : decode cX0_firstDue 42 = .ok (.iload_n 3, 1) := by decide +kernel
theorem dX0_firstDue_43 : decode cX0_firstDue 43 = .ok (.istore_n 2, 1) := by decide +kernel
theorem dX0_firstDue_44 : decode cX0_firstDue 44 = .ok (.iinc 3 1, 3) := by decide +kernel
theorem dX0_firstDue_47 : decode cX0_firstDue 47 = .ok (.goto (-43), 3) := by decide +kernel
theorem dX0_firstDue_50 : decode cX0_firstDue 50 = .ok (.iload_n 2, 1) := by decide +kernel
theorem dX0_firstDue_51 : decode cX0_firstDue 51 = .ok (.ireturn, 1) := by decide +kernel
theorem dX1_init_0 : decode cX1_init 0 = .ok (.aload_n 0, 1) := by decide +kernel
theorem dX1_init_1 : decode cX1_init 1 = .ok (.invokespecial 5, 3) := by decide +kernel
theorem dX1_init_4 : decode cX1_init 4 = .ok (.aload_n 0, 1) := by decide +kernel
theorem dX1_init_5 : decode cX1_init 5 = .ok (.sipush 455, 3) := by decide +kernel
theorem dX1_init_8 : decode cX1_init 8 = .ok (.newarray .int, 2) := by decide +kernel
theorem dX1_init_10 : decode cX1_init 10 = .ok (.putfield 11, 3) := by decide +kernel
theorem dX1_init_13 : decode cX1_init 13 = .ok (.aload_n 0, 1) := by decide +kernel
theorem dX1_init_14 : decode cX1_init 14 = .ok (.sipush 455, 3) := by decide +kernel
theorem dX1_init_17 : decode cX1_init 17 = .ok (.newarray .int, 2) := by decide +kernel
theorem dX1_init_19 : decode cX1_init 19 = .ok (.putfield 15, 3) := by decide +kernel
theorem dX1_init_22 : decode cX1_init 22 = .ok (.aload_n 0, 1) := by decide +kernel
theorem dX1_init_23 : decode cX1_init 23 = .ok (.sipush 455, 3) := by decide +kernel
theorem dX1_init_26 : decode cX1_init 26 = .ok (.newarray .int, 2) := by decide +kernel
theorem dX1_init_28 : decode cX1_init 28 = .ok (.putfield 18, 3) := by decide +kernel
theorem dX1_init_31 : decode cX1_init 31 = .ok (.aload_n 0, 1) := by decide +kernel
theorem dX1_init_32 : decode cX1_init 32 = .ok (.sipush 455, 3) := by decide +kernel
theorem dX1_init_35 : decode cX1_init 35 = .ok (.newarray .int, 2) := by decide +kernel
theorem dX1_init_37 : decode cX1_init 37 = .ok (.putfield 21, 3) := by decide +kernel
theorem dX1_init_40 : decode cX1_init 40 = .ok (.aload_n 0, 1) := by decide +kernel
theorem dX1_init_41 : decode cX1_init 41 = .ok (.bipush 15, 2) := by decide +kernel
theorem dX1_init_43 : decode cX1_init 43 = .ok (.newarray .int, 2) := by decide +kernel
theorem dX1_init_45 : decode cX1_init 45 = .ok (.putfield 24, 3) := by decide +kernel
theorem dX1_init_48 : decode cX1_init 48 = .ok (.aload_n 0, 1) := by decide +kernel
theorem dX1_init_49 : decode cX1_init 49 = .ok (.bipush 14, 2) := by decide +kernel
theorem dX1_init_51 : decode cX1_init 51 = .ok (.newarray .int, 2) := by decide +kernel
theorem dX1_init_53 : decode cX1_init 53 = .ok (.putfield 27, 3) := by decide +kernel
theorem dX1_init_56 : decode cX1_init 56 = .ok (.aload_n 0, 1) := by decide +kernel
theorem dX1_init_57 : decode cX1_init 57 = .ok (.iconst 0, 1) := by decide +kernel
theorem dX1_init_58 : decode cX1_init 58 = .ok (.newarray .long, 2) := by decide +kernel
theorem dX1_init_60 : decode cX1_init 60 = .ok (.putfield 30, 3) := by decide +kernel
theorem dX1_init_63 : decode cX1_init 63 = .ok (.return_, 1) := by decide +kernel
theorem dX1_begin_0 : decode cX1_begin 0 = .ok (.aload_n 0, 1) := by decide +kernel
theorem dX1_begin_1 : decode cX1_begin 1 = .ok (.iconst 0, 1) := by decide +kernel
theorem dX1_begin_2 : decode cX1_begin 2 = .ok (.bipush 14, 2) := by decide +kernel
theorem dX1_begin_4 : decode cX1_begin 4 = .ok (.iload_n 1, 1) := by decide +kernel
theorem dX1_begin_5 : decode cX1_begin 5 = .ok (.invokestatic 34, 3) := by decide +kernel
theorem dX1_begin_8 : decode cX1_begin 8 = .ok (.invokestatic 40, 3) := by decide +kernel
theorem dX1_begin_11 : decode cX1_begin 11 = .ok (.putfield 43, 3) := by decide +kernel
theorem dX1_begin_14 : decode cX1_begin 14 = .ok (.aload_n 0, 1) := by decide +kernel
theorem dX1_begin_15 : decode cX1_begin 15 = .ok (.iconst 0, 1) := by decide +kernel
theorem dX1_begin_16 : decode cX1_begin 16 = .ok (.putfield 47, 3) := by decide +kernel
theorem dX1_begin_19 : decode cX1_begin 19 = .ok (.aload_n 0, 1) := by decide +kernel
theorem dX1_begin_20 : decode cX1_begin 20 = .ok (.dup, 1) := by decide +kernel
theorem dX1_begin_21 : decode cX1_begin 21 = .ok (.getfield 50, 3) := by decide +kernel
theorem dX1_begin_24 : decode cX1_begin 24 = .ok (.lconst 1, 1) := by decide +kernel
theorem dX1_begin_25 : decode cX1_begin 25 = .ok (.ladd, 1) := by decide +kernel
theorem dX1_begin_26 : decode cX1_begin 26 = .ok (.putfield 50, 3) := by decide +kernel
theorem dX1_begin_29 : decode cX1_begin 29 = .ok (.aload_n 0, 1) := by decide +kernel
theorem dX1_begin_30 : decode cX1_begin 30 = .ok (.getfield 30, 3) := by decide +kernel
theorem dX1_begin_33 : decode cX1_begin 33 = .ok (.arraylength, 1) := by decide +kernel
theorem dX1_begin_34 : decode cX1_begin 34 = .ok (.iconst 1, 1) := by decide +kernel
theorem dX1_begin_35 : decode cX1_begin 35 = .ok (.aload_n 0, 1) := by decide +kernel
theorem dX1_begin_36 : decode cX1_begin 36 = .ok (.getfield 43, 3) := by decide +kernel
theorem dX1_begin_39 : decode cX1_begin 39 = .ok (.ishl, 1) := by decide +kernel
theorem dX1_begin_40 : decode cX1_begin 40 = .ok (.if_icmp .ge 15, 3) := by decide +kernel
theorem dX1_begin_43 : decode cX1_begin 43 = .ok (.aload_n 0, 1) := by decide +kernel
theorem dX1_begin_44 : decode cX1_begin 44 = .ok (.iconst 1, 1) := by decide +kernel
theorem dX1_begin_45 : decode cX1_begin 45 = .ok (.aload_n 0, 1) := by decide +kernel
theorem dX1_begin_46 : decode cX1_begin 46 = .ok (.getfield 43, 3) := by decide +kernel
theorem dX1_begin_49 : decode cX1_begin 49 = .ok (.ishl, 1) := by decide +kernel
theorem dX1_begin_50 : decode cX1_begin 50 = .ok (.newarray .long, 2) := by decide +kernel
theorem dX1_begin_52 : decode cX1_begin 52 = .ok (.putfield 30, 3) := by decide +kernel
theorem dX1_begin_55 : decode cX1_begin 55 = .ok (.return_, 1) := by decide +kernel
theorem dX1_setWeight_0 : decode cX1_setWeight 0 = .ok (.aload_n 0, 1) := by decide +kernel
theorem dX1_setWeight_1 : decode cX1_setWeight 1 = .ok (.getfield 27, 3) := by decide +kernel
theorem dX1_setWeight_4 : decode cX1_setWeight 4 = .ok (.iload_n 1, 1) := by decide +kernel
theorem dX1_setWeight_5 : decode cX1_setWeight 5 = .ok (.iload_n 2, 1) := by decide +kernel
theorem dX1_setWeight_6 : decode cX1_setWeight 6 = .ok (.iastore, 1) := by decide +kernel
theorem dX1_setWeight_7 : decode cX1_setWeight 7 = .ok (.return_, 1) := by decide +kernel
theorem dX1_gather_0 : decode cX1_gather 0 = .ok (.iconst 0, 1) := by decide +kernel
theorem dX1_gather_1 : decode cX1_gather 1 = .ok (.istore_n 2, 1) := by decide +kernel
theorem dX1_gather_2 : decode cX1_gather 2 = .ok (.iload_n 2, 1) := by decide +kernel
theorem dX1_gather_3 : decode cX1_gather 3 = .ok (.aload_n 0, 1) := by decide +kernel
theorem dX1_gather_4 : decode cX1_gather 4 = .ok (.getfield 43, 3) := by decide +kernel
theorem dX1_gather_7 : decode cX1_gather 7 = .ok (.if_icmp .ge 74, 3) := by decide +kernel
theorem dX1_gather_10 : decode cX1_gather 10 = .ok (.aload_n 0, 1) := by decide +kernel
theorem dX1_gather_11 : decode cX1_gather 11 = .ok (.getfield 24, 3) := by decide +kernel
theorem dX1_gather_14 : decode cX1_gather 14 = .ok (.iload_n 2, 1) := by decide +kernel
theorem dX1_gather_15 : decode cX1_gather 15 = .ok (.aload_n 0, 1) := by decide +kernel
theorem dX1_gather_16 : decode cX1_gather 16 = .ok (.getfield 47, 3) := by decide +kernel
theorem dX1_gather_19 : decode cX1_gather 19 = .ok (.iastore, 1) := by decide +kernel
theorem dX1_gather_20 : decode cX1_gather 20 = .ok (.iload_n 2, 1) := by decide +kernel
theorem dX1_gather_21 : decode cX1_gather 21 = .ok (.iconst 1, 1) := by decide +kernel
theorem dX1_gather_22 : decode cX1_gather 22 = .ok (.iadd, 1) := by decide +kernel
theorem dX1_gather_23 : decode cX1_gather 23 = .ok (.istore_n 3, 1) := by decide +kernel
theorem dX1_gather_24 : decode cX1_gather 24 = .ok (.iload_n 3, 1) := by decide +kernel
theorem dX1_gather_25 : decode cX1_gather 25 = .ok (.aload_n 0, 1) := by decide +kernel
theorem dX1_gather_26 : decode cX1_gather 26 = .ok (.getfield 43, 3) := by decide +kernel
theorem dX1_gather_29 : decode cX1_gather 29 = .ok (.if_icmp .ge 46, 3) := by decide +kernel
theorem dX1_gather_32 : decode cX1_gather 32 = .ok (.aload_n 0, 1) := by decide +kernel
theorem dX1_gather_33 : decode cX1_gather 33 = .ok (.aload_n 1, 1) := by decide +kernel
theorem dX1_gather_34 : decode cX1_gather 34 = .ok (.iload_n 2, 1) := by decide +kernel
theorem dX1_gather_35 : decode cX1_gather 35 = .ok (.iload_n 3, 1) := by decide +kernel
theorem dX1_gather_36 : decode cX1_gather 36 = .ok (.iconst (-1), 1) := by decide +kernel
theorem dX1_gather_37 : decode cX1_gather 37 = .ok (.invokevirtual 54, 3) := by decide +kernel
theorem dX1_gather_40 : decode cX1_gather 40 = .ok (.iload_n 2, 1) := by decide +kernel
theorem dX1_gather_41 : decode cX1_gather 41 = .ok (.iconst 1, 1) := by decide +kernel
theorem dX1_gather_42 : decode cX1_gather 42 = .ok (.iadd, 1) := by decide +kernel
theorem dX1_gather_43 : decode cX1_gather 43 = .ok (.istore 4, 2) := by decide +kernel
theorem dX1_gather_45 : decode cX1_gather 45 = .ok (.iload 4, 2) := by decide +kernel
theorem dX1_gather_47 : decode cX1_gather 47 = .ok (.aload_n 0, 1) := by decide +kernel
theorem dX1_gather_48 : decode cX1_gather 48 = .ok (.getfield 43, 3) := by decide +kernel
theorem dX1_gather_51 : decode cX1_gather 51 = .ok (.if_icmp .ge 18, 3) := by decide +kernel
theorem dX1_gather_54 : decode cX1_gather 54 = .ok (.aload_n 0, 1) := by decide +kernel
theorem dX1_gather_55 : decode cX1_gather 55 = .ok (.aload_n 1, 1) := by decide +kernel
theorem dX1_gather_56 : decode cX1_gather 56 = .ok (.iload_n 2, 1) := by decide +kernel
theorem dX1_gather_57 : decode cX1_gather 57 = .ok (.iload_n 3, 1) := by decide +kernel
theorem dX1_gather_58 : decode cX1_gather 58 = .ok (.iload 4, 2) := by decide +kernel
theorem dX1_gather_60 : decode cX1_gather 60 = .ok (.invokevirtual 54, 3) := by decide +kernel
theorem dX1_gather_63 : decode cX1_gather 63 = .ok (.iinc 4 1, 3) := by decide +kernel
theorem dX1_gather_66 : decode cX1_gather 66 = .ok (.goto (-21), 3) := by decide +kernel
theorem dX1_gather_69 : decode cX1_gather 69 = .ok (.iinc 3 1, 3) := by decide +kernel
theorem dX1_gather_72 : decode cX1_gather 72 = .ok (.goto (-48), 3) := by decide +kernel
theorem dX1_gather_75 : decode cX1_gather 75 = .ok (.iinc 2 1, 3) := by decide +kernel
theorem dX1_gather_78 : decode cX1_gather 78 = .ok (.goto (-76), 3) := by decide +kernel
theorem dX1_gather_81 : decode cX1_gather 81 = .ok (.aload_n 0, 1) := by decide +kernel
theorem dX1_gather_82 : decode cX1_gather 82 = .ok (.getfield 24, 3) := by decide +kernel
theorem dX1_gather_85 : decode cX1_gather 85 = .ok (.aload_n 0, 1) := by decide +kernel
theorem dX1_gather_86 : decode cX1_gather 86 = .ok (.getfield 43, 3) := by decide +kernel
theorem dX1_gather_89 : decode cX1_gather 89 = .ok (.aload_n 0, 1) := by decide +kernel
theorem dX1_gather_90 : decode cX1_gather 90 = .ok (.getfield 47, 3) := by decide +kernel
theorem dX1_gather_93 : decode cX1_gather 93 = .ok (.iastore, 1) := by decide +kernel
theorem dX1_gather_94 : decode cX1_gather 94 = .ok (.return_, 1) := by decide +kernel
theorem dX1_addIfRing_0 : decode cX1_addIfRing 0 = .ok (.aload_n 0, 1) := by decide +kernel
theorem dX1_addIfRing_1 : decode cX1_addIfRing 1 = .ok (.getfield 47, 3) := by decide +kernel
theorem dX1_addIfRing_4 : decode cX1_addIfRing 4 = .ok (.sipush 455, 3) := by decide +kernel
theorem dX1_addIfRing_7 : decode cX1_addIfRing 7 = .ok (.if_icmp .ge 24, 3) := by decide +kernel
theorem dX1_addIfRing_10 : decode cX1_addIfRing 10 = .ok (.aload_n 1, 1) := by decide +kernel
theorem dX1_addIfRing_11 : decode cX1_addIfRing 11 = .ok (.iload_n 2, 1) := by decide +kernel
theorem dX1_addIfRing_12 : decode cX1_addIfRing 12 = .ok (.iload_n 3, 1) := by decide +kernel
theorem dX1_addIfRing_13 : decode cX1_addIfRing 13 = .ok (.invokevirtual 58, 3) := by decide +kernel
theorem dX1_addIfRing_16 : decode cX1_addIfRing 16 = .ok (.ifCond .eq 15, 3) := by decide +kernel
theorem dX1_addIfRing_19 : decode cX1_addIfRing 19 = .ok (.aload_n 1, 1) := by decide +kernel
theorem dX1_addIfRing_20 : decode cX1_addIfRing 20 = .ok (.iload_n 2, 1) := by decide +kernel
theorem dX1_addIfRing_21 : decode cX1_addIfRing 21 = .ok (.iload_n 3, 1) := by decide +kernel
theorem dX1_addIfRing_22 : decode cX1_addIfRing 22 = .ok (.iload 4, 2) := by decide +kernel
theorem dX1_addIfRing_24 : decode cX1_addIfRing 24 = .ok (.invokevirtual 64, 3) := by decide +kernel
theorem dX1_addIfRing_27 : decode cX1_addIfRing 27 = .ok (.iconst (-1), 1) := by decide +kernel
theorem dX1_addIfRing_28 : decode cX1_addIfRing 28 = .ok (.if_icmp .ne 4, 3) := by decide +kernel
theorem dX1_addIfRing_31 : decode cX1_addIfRing 31 = .ok (.return_, 1) := by decide +kernel
theorem dX1_addIfRing_32 : decode cX1_addIfRing 32 = .ok (.iload 4, 2) := by decide +kernel
theorem dX1_addIfRing_34 : decode cX1_addIfRing 34 = .ok (.iconst (-1), 1) := by decide +kernel
theorem dX1_addIfRing_35 : decode cX1_addIfRing 35 = .ok (.if_icmp .eq 22, 3) := by decide +kernel
theorem dX1_addIfRing_38 : decode cX1_addIfRing 38 = .ok (.iload 4, 2) := by decide +kernel
theorem dX1_addIfRing_40 : decode cX1_addIfRing 40 = .ok (.iload_n 3, 1) := by decide +kernel
theorem dX1_addIfRing_41 : decode cX1_addIfRing 41 = .ok (.if_icmp .ge 16, 3) := by decide +kernel
theorem dX1_addIfRing_44 : decode cX1_addIfRing 44 = .ok (.aload_n 1, 1) := by decide +kernel
theorem dX1_addIfRing_45 : decode cX1_addIfRing 45 = .ok (.iload_n 2, 1) := by decide +kernel
theorem dX1_addIfRing_46 : decode cX1_addIfRing 46 = .ok (.iload 4, 2) := by decide +kernel
theorem dX1_addIfRing_48 : decode cX1_addIfRing 48 = .ok (.iload_n 3, 1) := by decide +kernel
theorem dX1_addIfRing_49 : decode cX1_addIfRing 49 = .ok (.invokevirtual 64, 3) := by decide +kernel
theorem dX1_addIfRing_52 : decode cX1_addIfRing 52 = .ok (.iconst (-1), 1) := by decide +kernel
theorem dX1_addIfRing_53 : decode cX1_addIfRing 53 = .ok (.if_icmp .eq 4, 3) := by decide +kernel
theorem dX1_addIfRing_56 : decode cX1_addIfRing 56 = .ok (.return_, 1) := by decide +kernel
theorem dX1_addIfRing_57 : decode cX1_addIfRing 57 = .ok (.aload_n 0, 1) := by decide +kernel
theorem dX1_addIfRing_58 : decode cX1_addIfRing 58 = .ok (.getfield 27, 3) := by decide +kernel
theorem dX1_addIfRing_61 : decode cX1_addIfRing 61 = .ok (.iload_n 2, 1) := by decide +kernel
theorem dX1_addIfRing_62 : decode cX1_addIfRing 62 = .ok (.iaload, 1) := by decide +kernel
theorem dX1_addIfRing_63 : decode cX1_addIfRing 63 = .ok (.aload_n 0, 1) := by decide +kernel
theorem dX1_addIfRing_64 : decode cX1_addIfRing 64 = .ok (.getfield 27, 3) := by decide +kernel
theorem dX1_addIfRing_67 : decode cX1_addIfRing 67 = .ok (.iload_n 3, 1) := by decide +kernel
theorem dX1_addIfRing_68 : decode cX1_addIfRing 68 = .ok (.iaload, 1) := by decide +kernel
theorem dX1_addIfRing_69 : decode cX1_addIfRing 69 = .ok (.iadd, 1) := by decide +kernel
theorem dX1_addIfRing_70 : decode cX1_addIfRing 70 = .ok (.istore 5, 2) := by decide +kernel
theorem dX1_addIfRing_72 : decode cX1_addIfRing 72 = .ok (.aload_n 0, 1) := by decide +kernel
theorem dX1_addIfRing_73 : decode cX1_addIfRing 73 = .ok (.getfield 11, 3) := by decide +kernel
theorem dX1_addIfRing_76 : decode cX1_addIfRing 76 = .ok (.aload_n 0, 1) := by decide +kernel
theorem dX1_addIfRing_77 : decode cX1_addIfRing 77 = .ok (.getfield 47, 3) := by decide +kernel
theorem dX1_addIfRing_80 : decode cX1_addIfRing 80 = .ok (.iconst 1, 1) := by decide +kernel
theorem dX1_addIfRing_81 : decode cX1_addIfRing 81 = .ok (.iload_n 2, 1) := by decide +kernel
theorem dX1_addIfRing_82 : decode cX1_addIfRing 82 = .ok (.ishl, 1) := by decide +kernel
theorem dX1_addIfRing_83 : decode cX1_addIfRing 83 = .ok (.iconst 1, 1) := by decide +kernel
theorem dX1_addIfRing_84 : decode cX1_addIfRing 84 = .ok (.iload_n 3, 1) := by decide +kernel
theorem dX1_addIfRing_85 : decode cX1_addIfRing 85 = .ok (.ishl, 1) := by decide +kernel
theorem dX1_addIfRing_86 : decode cX1_addIfRing 86 = .ok (.ior, 1) := by decide +kernel
theorem dX1_addIfRing_87 : decode cX1_addIfRing 87 = .ok (.iastore, 1) := by decide +kernel
theorem dX1_addIfRing_88 : decode cX1_addIfRing 88 = .ok (.aload_n 0, 1) := by decide +kernel
theorem dX1_addIfRing_89 : decode cX1_addIfRing 89 = .ok (.getfield 21, 3) := by decide +kernel
theorem dX1_addIfRing_92 : decode cX1_addIfRing 92 = .ok (.aload_n 0, 1) := by decide +kernel
theorem dX1_addIfRing_93 : decode cX1_addIfRing 93 = .ok (.getfield 47, 3) := by decide +kernel
theorem dX1_addIfRing_96 : decode cX1_addIfRing 96 = .ok (.iload 5, 2) := by decide +kernel
theorem dX1_addIfRing_98 : decode cX1_addIfRing 98 = .ok (.bipush 8, 2) := by decide +kernel
theorem dX1_addIfRing_100 : decode cX1_addIfRing 100 = .ok (.imul, 1) := by decide +kernel
theorem dX1_addIfRing_101 : decode cX1_addIfRing 101 = .ok (.iastore, 1) := by decide +kernel
theorem dX1_addIfRing_102 : decode cX1_addIfRing 102 = .ok (.iload 4, 2) := by decide +kernel
theorem dX1_addIfRing_104 : decode cX1_addIfRing 104 = .ok (.iconst (-1), 1) := by decide +kernel
theorem dX1_addIfRing_105 : decode cX1_addIfRing 105 = .ok (.if_icmp .eq 43, 3) := by decide +kernel
theorem dX1_addIfRing_108 : decode cX1_addIfRing 108 = .ok (.aload_n 0, 1) := by decide +kernel
theorem dX1_addIfRing_109 : decode cX1_addIfRing 109 = .ok (.getfield 11, 3) := by decide +kernel
theorem dX1_addIfRing_112 : decode cX1_addIfRing 112 = .ok (.aload_n 0, 1) := by decide +kernel
theorem dX1_addIfRing_113 : decode cX1_addIfRing 113 = .ok (.getfield 47, 3) := by decide +kernel
theorem dX1_addIfRing_116 : decode cX1_addIfRing 116 = .ok (.dup2, 1) := by decide +kernel
theorem dX1_addIfRing_117 : decode cX1_addIfRing 117 = .ok (.iaload, 1) := by decide +kernel
theorem dX1_addIfRing_118 : decode cX1_addIfRing 118 = .ok (.iconst 1, 1) := by decide +kernel
theorem dX1_addIfRing_119 : decode cX1_addIfRing 119 = .ok (.iload 4, 2) := by decide +kernel
theorem dX1_addIfRing_121 : decode cX1_addIfRing 121 = .ok (.ishl, 1) := by decide +kernel
theorem dX1_addIfRing_122 : decode cX1_addIfRing 122 = .ok (.ior, 1) := by decide +kernel
theorem dX1_addIfRing_123 : decode cX1_addIfRing 123 = .ok (.iastore, 1) := by decide +kernel
theorem dX1_addIfRing_124 : decode cX1_addIfRing 124 = .ok (.aload_n 0, 1) := by decide +kernel
theorem dX1_addIfRing_125 : decode cX1_addIfRing 125 = .ok (.getfield 21, 3) := by decide +kernel
theorem dX1_addIfRing_128 : decode cX1_addIfRing 128 = .ok (.aload_n 0, 1) := by decide +kernel
theorem dX1_addIfRing_129 : decode cX1_addIfRing 129 = .ok (.getfield 47, 3) := by decide +kernel
theorem dX1_addIfRing_132 : decode cX1_addIfRing 132 = .ok (.iload 5, 2) := by decide +kernel
theorem dX1_addIfRing_134 : decode cX1_addIfRing 134 = .ok (.aload_n 0, 1) := by decide +kernel
theorem dX1_addIfRing_135 : decode cX1_addIfRing 135 = .ok (.getfield 27, 3) := by decide +kernel
theorem dX1_addIfRing_138 : decode cX1_addIfRing 138 = .ok (.iload 4, 2) := by decide +kernel
theorem dX1_addIfRing_140 : decode cX1_addIfRing 140 = .ok (.iaload, 1) := by decide +kernel
theorem dX1_addIfRing_141 : decode cX1_addIfRing 141 = .ok (.iadd, 1) := by decide +kernel
theorem dX1_addIfRing_142 : decode cX1_addIfRing 142 = .ok (.bipush 8, 2) := by decide +kernel
theorem dX1_addIfRing_144 : decode cX1_addIfRing 144 = .ok (.imul, 1) := by decide +kernel
theorem dX1_addIfRing_145 : decode cX1_addIfRing 145 = .ok (.iconst 1, 1) := by decide +kernel
theorem dX1_addIfRing_146 : decode cX1_addIfRing 146 = .ok (.isub, 1) := by decide +kernel
theorem dX1_addIfRing_147 : decode cX1_addIfRing 147 = .ok (.iastore, 1) := by decide +kernel
theorem dX1_addIfRing_148 : decode cX1_addIfRing 148 = .ok (.aload_n 0, 1) := by decide +kernel
theorem dX1_addIfRing_149 : decode cX1_addIfRing 149 = .ok (.getfield 15, 3) := by decide +kernel
theorem dX1_addIfRing_152 : decode cX1_addIfRing 152 = .ok (.aload_n 0, 1) := by decide +kernel
theorem dX1_addIfRing_153 : decode cX1_addIfRing 153 = .ok (.getfield 47, 3) := by decide +kernel
theorem dX1_addIfRing_156 : decode cX1_addIfRing 156 = .ok (.iload_n 3, 1) := by decide +kernel
theorem dX1_addIfRing_157 : decode cX1_addIfRing 157 = .ok (.iastore, 1) := by decide +kernel
theorem dX1_addIfRing_158 : decode cX1_addIfRing 158 = .ok (.aload_n 0, 1) := by decide +kernel
theorem dX1_addIfRing_159 : decode cX1_addIfRing 159 = .ok (.getfield 18, 3) := by decide +kernel
theorem dX1_addIfRing_162 : decode cX1_addIfRing 162 = .ok (.aload_n 0, 1) := by decide +kernel
theorem dX1_addIfRing_163 : decode cX1_addIfRing 163 = .ok (.getfield 47, 3) := by decide +kernel
theorem dX1_addIfRing_166 : decode cX1_addIfRing 166 = .ok (.iload 4, 2) := by decide +kernel
theorem dX1_addIfRing_168 : decode cX1_addIfRing 168 = .ok (.iastore, 1) := by decide +kernel
theorem dX1_addIfRing_169 : decode cX1_addIfRing 169 = .ok (.aload_n 0, 1) := by decide +kernel
theorem dX1_addIfRing_170 : decode cX1_addIfRing 170 = .ok (.dup, 1) := by decide +kernel
theorem dX1_addIfRing_171 : decode cX1_addIfRing 171 = .ok (.getfield 47, 3) := by decide +kernel
theorem dX1_addIfRing_174 : decode cX1_addIfRing 174 = .ok (.iconst 1, 1) := by decide +kernel
theorem dX1_addIfRing_175 : decode cX1_addIfRing 175 = .ok (.iadd, 1) := by decide +kernel
theorem dX1_addIfRing_176 : decode cX1_addIfRing 176 = .ok (.putfield 47, 3) := by decide +kernel
theorem dX1_addIfRing_179 : decode cX1_addIfRing 179 = .ok (.return_, 1) := by decide +kernel
theorem dX1_choose_0 : decode cX1_choose 0 = .ok (.aload_n 0, 1) := by decide +kernel
theorem dX1_choose_1 : decode cX1_choose 1 = .ok (.iconst 1, 1) := by decide +kernel
theorem dX1_choose_2 : decode cX1_choose 2 = .ok (.aload_n 0, 1) := by decide +kernel
theorem dX1_choose_3 : decode cX1_choose 3 = .ok (.getfield 43, 3) := by decide +kernel
theorem dX1_choose_6 : decode cX1_choose 6 = .ok (.ishl, 1) := by decide +kernel
theorem dX1_choose_7 : decode cX1_choose 7 = .ok (.iconst 1, 1) := by decide +kernel
theorem dX1_choose_8 : decode cX1_choose 8 = .ok (.isub, 1) := by decide +kernel
theorem dX1_choose_9 : decode cX1_choose 9 = .ok (.iconst 0, 1) := by decide +kernel
theorem dX1_choose_10 : decode cX1_choose 10 = .ok (.invokevirtual 68, 3) := by decide +kernel
theorem dX1_choose_13 : decode cX1_choose 13 = .ok (.pop, 1) := by decide +kernel
theorem dX1_choose_14 : decode cX1_choose 14 = .ok (.return_, 1) := by decide +kernel
theorem dX1_choiceAt_0 : decode cX1_choiceAt 0 = .ok (.aload_n 0, 1) := by decide +kernel
theorem dX1_choiceAt_1 : decode cX1_choiceAt 1 = .ok (.iload_n 1, 1) := by decide +kernel
theorem dX1_choiceAt_2 : decode cX1_choiceAt 2 = .ok (.invokevirtual 71, 3) := by decide +kernel
theorem dX1_choiceAt_5 : decode cX1_choiceAt 5 = .ok (.ifCond .ne 5, 3) := by decide +kernel
theorem dX1_choiceAt_8 : decode cX1_choiceAt 8 = .ok (.iconst (-1), 1) := by decide +kernel
theorem dX1_choiceAt_9 : decode cX1_choiceAt 9 = .ok (.ireturn, 1) := by decide +kernel
theorem dX1_choiceAt_10 : decode cX1_choiceAt 10 = .ok (.aload_n 0, 1) := by decide +kernel
theorem dX1_choiceAt_11 : decode cX1_choiceAt 11 = .ok (.getfield 30, 3) := by decide +kernel
theorem dX1_choiceAt_14 : decode cX1_choiceAt 14 = .ok (.iload_n 1, 1) := by decide +kernel
theorem dX1_choiceAt_15 : decode cX1_choiceAt 15 = .ok (.laload, 1) := by decide +kernel
theorem dX1_choiceAt_16 : decode cX1_choiceAt 16 = .ok (.l2i, 1) := by decide +kernel
theorem dX1_choiceAt_17 : decode cX1_choiceAt 17 = .ok (.bipush 16, 2) := by decide +kernel
theorem dX1_choiceAt_19 : decode cX1_choiceAt 19 = .ok (.ishr, 1) := by decide +kernel
theorem dX1_choiceAt_20 : decode cX1_choiceAt 20 = .ok (.ldc 75, 2) := by decide +kernel
theorem dX1_choiceAt_22 : decode cX1_choiceAt 22 = .ok (.iand, 1) := by decide +kernel
theorem dX1_choiceAt_23 : decode cX1_choiceAt 23 = .ok (.iconst 1, 1) := by decide +kernel
theorem dX1_choiceAt_24 : decode cX1_choiceAt 24 = .ok (.isub, 1) := by decide +kernel
theorem dX1_choiceAt_25 : decode cX1_choiceAt 25 = .ok (.istore_n 2, 1) := by decide +kernel
theorem dX1_choiceAt_26 : decode cX1_choiceAt 26 = .ok (.iload_n 2, 1) := by decide +kernel
theorem dX1_choiceAt_27 : decode cX1_choiceAt 27 = .ok (.ifCond .lt 15, 3) := by decide +kernel
theorem dX1_choiceAt_30 : decode cX1_choiceAt 30 = .ok (.iload_n 2, 1) := by decide +kernel
theorem dX1_choiceAt_31 : decode cX1_choiceAt 31 = .ok (.aload_n 0, 1) := by decide +kernel
theorem dX1_choiceAt_32 : decode cX1_choiceAt 32 = .ok (.getfield 47, 3) := by decide +kernel
theorem dX1_choiceAt_35 : decode cX1_choiceAt 35 = .ok (.if_icmp .ge 7, 3) := by decide +kernel
theorem dX1_choiceAt_38 : decode cX1_choiceAt 38 = .ok (.iload_n 2, 1) := by decide +kernel
theorem dX1_choiceAt_39 : decode cX1_choiceAt 39 = .ok (.goto 4, 3) := by decide +kernel
theorem dX1_choiceAt_42 : decode cX1_choiceAt 42 = .ok (.iconst (-1), 1) := by decide +kernel
theorem dX1_choiceAt_43 : decode cX1_choiceAt 43 = .ok (.ireturn, 1) := by decide +kernel
theorem dX1_isKnown_0 : decode cX1_isKnown 0 = .ok (.iload_n 1, 1) := by decide +kernel
theorem dX1_isKnown_1 : decode cX1_isKnown 1 = .ok (.ifCond .lt 33, 3) := by decide +kernel
theorem dX1_isKnown_4 : decode cX1_isKnown 4 = .ok (.iload_n 1, 1) := by decide +kernel
theorem dX1_isKnown_5 : decode cX1_isKnown 5 = .ok (.aload_n 0, 1) := by decide +kernel
theorem dX1_isKnown_6 : decode cX1_isKnown 6 = .ok (.getfield 30, 3) := by decide +kernel
theorem dX1_isKnown_9 : decode cX1_isKnown 9 = .ok (.arraylength, 1) := by decide +kernel
theorem dX1_isKnown_10 : decode cX1_isKnown 10 = .ok (.if_icmp .ge 24, 3) := by decide +kernel
theorem dX1_isKnown_13 : decode cX1_isKnown 13 = .ok (.aload_n 0, 1) := by decide +kernel
theorem dX1_isKnown_14 : decode cX1_isKnown 14 = .ok (.getfield 30, 3) := by decide +kernel
theorem dX1_isKnown_17 : decode cX1_isKnown 17 = .ok (.iload_n 1, 1) := by decide +kernel
theorem dX1_isKnown_18 : decode cX1_isKnown 18 = .ok (.laload, 1) := by decide +kernel
theorem dX1_isKnown_19 : decode cX1_isKnown 19 = .ok (.bipush 32, 2) := by decide +kernel
theorem dX1_isKnown_21 : decode cX1_isKnown 21 = .ok (.lshr, 1) := by decide +kernel
theorem dX1_isKnown_22 : decode cX1_isKnown 22 = .ok (.aload_n 0, 1) := by decide +kernel
theorem dX1_isKnown_23 : decode cX1_isKnown 23 = .ok (.getfield 50, 3) := by decide +kernel
theorem dX1_isKnown_26 : decode cX1_isKnown 26 = .ok (.lcmp, 1) := by decide +kernel
theorem dX1_isKnown_27 : decode cX1_isKnown 27 = .ok (.ifCond .ne 7, 3) := by decide +kernel
theorem dX1_isKnown_30 : decode cX1_isKnown 30 = .ok (.iconst 1, 1) := by decide +kernel
theorem dX1_isKnown_31 : decode cX1_isKnown 31 = .ok (.goto 4, 3) := by decide +kernel
theorem dX1_isKnown_34 : decode cX1_isKnown 34 = .ok (.iconst 0, 1) := by decide +kernel
theorem dX1_isKnown_35 : decode cX1_isKnown 35 = .ok (.ireturn, 1) := by decide +kernel
theorem dX1_bestWorth_0 : decode cX1_bestWorth 0 = .ok (.iload_n 1, 1) := by decide +kernel
theorem dX1_bestWorth_1 : decode cX1_bestWorth 1 = .ok (.ifCond .le 18, 3) := by decide +kernel
theorem dX1_bestWorth_4 : decode cX1_bestWorth 4 = .ok (.iload_n 1, 1) := by decide +kernel
theorem dX1_bestWorth_5 : decode cX1_bestWorth 5 = .ok (.aload_n 0, 1) := by decide +kernel
theorem dX1_bestWorth_6 : decode cX1_bestWorth 6 = .ok (.getfield 30, 3) := by decide +kernel
theorem dX1_bestWorth_9 : decode cX1_bestWorth 9 = .ok (.arraylength, 1) := by decide +kernel
theorem dX1_bestWorth_10 : decode cX1_bestWorth 10 = .ok (.if_icmp .ge 9, 3) := by decide +kernel
theorem dX1_bestWorth_13 : decode cX1_bestWorth 13 = .ok (.iload_n 2, 1) := by decide +kernel
theorem dX1_bestWorth_14 : decode cX1_bestWorth 14 = .ok (.bipush 14, 2) := by decide +kernel
theorem dX1_bestWorth_16 : decode cX1_bestWorth 16 = .ok (.if_icmp .lt 5, 3) := by decide +kernel
theorem dX1_bestWorth_19 : decode cX1_bestWorth 19 = .ok (.iconst 0, 1) := by decide +kernel
theorem dX1_bestWorth_20 : decode cX1_bestWorth 20 = .ok (.ireturn, 1) := by decide +kernel
theorem dX1_bestWorth_21 : decode cX1_bestWorth 21 = .ok (.aload_n 0, 1) := by decide +kernel
theorem dX1_bestWorth_22 : decode cX1_bestWorth 22 = .ok (.iload_n 1, 1) := by decide +kernel
theorem dX1_bestWorth_23 : decode cX1_bestWorth 23 = .ok (.invokevirtual 71, 3) := by decide +kernel
theorem dX1_bestWorth_26 : decode cX1_bestWorth 26 = .ok (.ifCond .eq 14, 3) := by decide +kernel
theorem dX1_bestWorth_29 : decode cX1_bestWorth 29 = .ok (.aload_n 0, 1) := by decide +kernel
theorem dX1_bestWorth_30 : decode cX1_bestWorth 30 = .ok (.getfield 30, 3) := by decide +kernel
theorem dX1_bestWorth_33 : decode cX1_bestWorth 33 = .ok (.iload_n 1, 1) := by decide +kernel
theorem dX1_bestWorth_34 : decode cX1_bestWorth 34 = .ok (.laload, 1) := by decide +kernel
theorem dX1_bestWorth_35 : decode cX1_bestWorth 35 = .ok (.l2i, 1) := by decide +kernel
theorem dX1_bestWorth_36 : decode cX1_bestWorth 36 = .ok (.ldc 75, 2) := by decide +kernel
theorem dX1_bestWorth_38 : decode cX1_bestWorth 38 = .ok (.iand, 1) := by decide +kernel
theorem dX1_bestWorth_39 : decode cX1_bestWorth 39 = .ok (.ireturn, 1) := by decide +kernel
theorem dX1_bestWorth_40 : decode cX1_bestWorth 40 = .ok (.iload_n 1, 1) := by decide +kernel
theorem dX1_bestWorth_41 : decode cX1_bestWorth 41 = .ok (.invokestatic 76, 3) := by decide +kernel
theorem dX1_bestWorth_44 : decode cX1_bestWorth 44 = .ok (.istore_n 3, 1) := by decide +kernel
theorem dX1_bestWorth_45 : decode cX1_bestWorth 45 = .ok (.iload_n 3, 1) := by decide +kernel
theorem dX1_bestWorth_46 : decode cX1_bestWorth 46 = .ok (.aload_n 0, 1) := by decide +kernel
theorem dX1_bestWorth_47 : decode cX1_bestWorth 47 = .ok (.getfield 43, 3) := by decide +kernel
theorem dX1_bestWorth_50 : decode cX1_bestWorth 50 = .ok (.if_icmp .lt 5, 3) := by decide +kernel
theorem dX1_bestWorth_53 : decode cX1_bestWorth 53 = .ok (.iconst 0, 1) := by decide +kernel
theorem dX1_bestWorth_54 : decode cX1_bestWorth 54 = .ok (.ireturn, 1) := by decide +kernel
theorem dX1_bestWorth_55 : decode cX1_bestWorth 55 = .ok (.aload_n 0, 1) := by decide +kernel
theorem dX1_bestWorth_56 : decode cX1_bestWorth 56 = .ok (.iload_n 1, 1) := by decide +kernel
theorem dX1_bestWorth_57 : decode cX1_bestWorth 57 = .ok (.invokevirtual 82, 3) := by decide +kernel
theorem dX1_bestWorth_60 : decode cX1_bestWorth 60 = .ok (.istore 4, 2) := by decide +kernel
theorem dX1_bestWorth_62 : decode cX1_bestWorth 62 = .ok (.iload 4, 2) := by decide +kernel
theorem dX1_bestWorth_64 : decode cX1_bestWorth 64 = .ok (.bipush 8, 2) := by decide +kernel
theorem dX1_bestWorth_66 : decode cX1_bestWorth 66 = .ok (.imul, 1) := by decide +kernel
theorem dX1_bestWorth_67 : decode cX1_bestWorth 67 = .ok (.iload_n 1, 1) := by decide +kernel
theorem dX1_bestWorth_68 : decode cX1_bestWorth 68 = .ok (.invokestatic 85, 3) := by decide +kernel
theorem dX1_bestWorth_71 : decode cX1_bestWorth 71 = .ok (.iconst 1, 1) := by decide +kernel
theorem dX1_bestWorth_72 : decode cX1_bestWorth 72 = .ok (.iand, 1) := by decide +kernel
theorem dX1_bestWorth_73 : decode cX1_bestWorth 73 = .ok (.isub, 1) := by decide +kernel
theorem dX1_bestWorth_74 : decode cX1_bestWorth 74 = .ok (.istore 5, 2) := by decide +kernel
theorem dX1_bestWorth_76 : decode cX1_bestWorth 76 = .ok (.iconst (-1), 1) := by decide +kernel
theorem dX1_bestWorth_77 : decode cX1_bestWorth 77 = .ok (.istore 6, 2) := by decide +kernel
theorem dX1_bestWorth_79 : decode cX1_bestWorth 79 = .ok (.iconst (-1), 1) := by decide +kernel
theorem dX1_bestWorth_80 : decode cX1_bestWorth 80 = .ok (.istore 7, 2) := by decide +kernel
theorem dX1_bestWorth_82 : decode cX1_bestWorth 82 = .ok (.aload_n 0, 1) := by decide +kernel
theorem dX1_bestWorth_83 : decode cX1_bestWorth 83 = .ok (.getfield 24, 3) := by decide +kernel
theorem dX1_bestWorth_86 : decode cX1_bestWorth 86 = .ok (.iload_n 3, 1) := by decide +kernel
theorem dX1_bestWorth_87 : decode cX1_bestWorth 87 = .ok (.iaload, 1) := by decide +kernel
theorem dX1_bestWorth_88 : decode cX1_bestWorth 88 = .ok (.istore 8, 2) := by decide +kernel
theorem dX1_bestWorth_90 : decode cX1_bestWorth 90 = .ok (.iload 8, 2) := by decide +kernel
theorem dX1_bestWorth_92 : decode cX1_bestWorth 92 = .ok (.aload_n 0, 1) := by decide +kernel
theorem dX1_bestWorth_93 : decode cX1_bestWorth 93 = .ok (.getfield 24, 3) := by decide +kernel
theorem dX1_bestWorth_96 : decode cX1_bestWorth 96 = .ok (.iload_n 3, 1) := by decide +kernel
theorem dX1_bestWorth_97 : decode cX1_bestWorth 97 = .ok (.iconst 1, 1) := by decide +kernel
theorem dX1_bestWorth_98 : decode cX1_bestWorth 98 = .ok (.iadd, 1) := by decide +kernel
theorem dX1_bestWorth_99 : decode cX1_bestWorth 99 = .ok (.iaload, 1) := by decide +kernel
theorem dX1_bestWorth_100 : decode cX1_bestWorth 100 = .ok (.if_icmp .ge 73, 3) := by decide +kernel
theorem dX1_bestWorth_103 : decode cX1_bestWorth 103 = .ok (.iload 6, 2) := by decide +kernel
theorem dX1_bestWorth_105 : decode cX1_bestWorth 105 = .ok (.iload 5, 2) := by decide +kernel
theorem dX1_bestWorth_107 : decode cX1_bestWorth 107 = .ok (.if_icmp .ge 66, 3) := by decide +kernel
theorem dX1_bestWorth_110 : decode cX1_bestWorth 110 = .ok (.aload_n 0, 1) := by decide +kernel
theorem dX1_bestWorth_111 : decode cX1_bestWorth 111 = .ok (.getfield 11, 3) := by decide +kernel
theorem dX1_bestWorth_114 : decode cX1_bestWorth 114 = .ok (.iload 8, 2) := by decide +kernel
theorem dX1_bestWorth_116 : decode cX1_bestWorth 116 = .ok (.iaload, 1) := by decide +kernel
theorem dX1_bestWorth_117 : decode cX1_bestWorth 117 = .ok (.iload_n 1, 1) := by decide +kernel
theorem dX1_bestWorth_118 : decode cX1_bestWorth 118 = .ok (.iconst (-1), 1) := by decide +kernel
theorem dX1_bestWorth_119 : decode cX1_bestWorth 119 = .ok (.ixor, 1) := by decide +kernel
theorem dX1_bestWorth_120 : decode cX1_bestWorth 120 = .ok (.iand, 1) := by decide +kernel
theorem dX1_bestWorth_121 : decode cX1_bestWorth 121 = .ok (.ifCond .ne 46, 3) := by decide +kernel
theorem dX1_bestWorth_124 : decode cX1_bestWorth 124 = .ok (.aload_n 0, 1) := by decide +kernel
theorem dX1_bestWorth_125 : decode cX1_bestWorth 125 = .ok (.getfield 21, 3) := by decide +kernel
theorem dX1_bestWorth_128 : decode cX1_bestWorth 128 = .ok (.iload 8, 2) := by decide +kernel
theorem dX1_bestWorth_130 : decode cX1_bestWorth 130 = .ok (.iaload, 1) := by decide +kernel
theorem dX1_bestWorth_131 : decode cX1_bestWorth 131 = .ok (.aload_n 0, 1) := by decide +kernel
theorem dX1_bestWorth_132 : decode cX1_bestWorth 132 = .ok (.iload_n 1, 1) := by decide +kernel
theorem dX1_bestWorth_133 : decode cX1_bestWorth 133 = .ok (.aload_n 0, 1) := by decide +kernel
theorem dX1_bestWorth_134 : decode cX1_bestWorth 134 = .ok (.getfield 11, 3) := by decide +kernel
theorem dX1_bestWorth_137 : decode cX1_bestWorth 137 = .ok (.iload 8, 2) := by decide +kernel
theorem dX1_bestWorth_139 : decode cX1_bestWorth 139 = .ok (.iaload, 1) := by decide +kernel
theorem dX1_bestWorth_140 : decode cX1_bestWorth 140 = .ok (.iconst (-1), 1) := by decide +kernel
theorem dX1_bestWorth_141 : decode cX1_bestWorth 141 = .ok (.ixor, 1) := by decide +kernel
theorem dX1_bestWorth_142 : decode cX1_bestWorth 142 = .ok (.iand, 1) := by decide +kernel
theorem dX1_bestWorth_143 : decode cX1_bestWorth 143 = .ok (.iload_n 2, 1) := by decide +kernel
theorem dX1_bestWorth_144 : decode cX1_bestWorth 144 = .ok (.iconst 1, 1) := by decide +kernel
theorem dX1_bestWorth_145 : decode cX1_bestWorth 145 = .ok (.iadd, 1) := by decide +kernel
theorem dX1_bestWorth_146 : decode cX1_bestWorth 146 = .ok (.invokevirtual 68, 3) := by decide +kernel
theorem dX1_bestWorth_149 : decode cX1_bestWorth 149 = .ok (.iadd, 1) := by decide +kernel
theorem dX1_bestWorth_150 : decode cX1_bestWorth 150 = .ok (.istore 9, 2) := by decide +kernel
theorem dX1_bestWorth_152 : decode cX1_bestWorth 152 = .ok (.iload 9, 2) := by decide +kernel
theorem dX1_bestWorth_154 : decode cX1_bestWorth 154 = .ok (.iload 6, 2) := by decide +kernel
theorem dX1_bestWorth_156 : decode cX1_bestWorth 156 = .ok (.if_icmp .le 11, 3) := by decide +kernel
theorem dX1_bestWorth_159 : decode cX1_bestWorth 159 = .ok (.iload 9, 2) := by decide +kernel
theorem dX1_bestWorth_161 : decode cX1_bestWorth 161 = .ok (.istore 6, 2) := by decide +kernel
theorem dX1_bestWorth_163 : decode cX1_bestWorth 163 = .ok (.iload 8, 2) := by decide +kernel
theorem dX1_bestWorth_165 : decode cX1_bestWorth 165 = .ok (.istore 7, 2) := by decide +kernel
theorem dX1_bestWorth_167 : decode cX1_bestWorth 167 = .ok (.iinc 8 1, 3) := by decide +kernel
theorem dX1_bestWorth_170 : decode cX1_bestWorth 170 = .ok (.goto (-80), 3) := by decide +kernel
theorem dX1_bestWorth_173 : decode cX1_bestWorth 173 = .ok (.iload 6, 2) := by decide +kernel
theorem dX1_bestWorth_175 : decode cX1_bestWorth 175 = .ok (.iload 4, 2) := by decide +kernel
theorem dX1_bestWorth_177 : decode cX1_bestWorth 177 = .ok (.aload_n 0, 1) := by decide +kernel
theorem dX1_bestWorth_178 : decode cX1_bestWorth 178 = .ok (.getfield 27, 3) := by decide +kernel
theorem dX1_bestWorth_181 : decode cX1_bestWorth 181 = .ok (.iload_n 3, 1) := by decide +kernel
theorem dX1_bestWorth_182 : decode cX1_bestWorth 182 = .ok (.iaload, 1) := by decide +kernel
theorem dX1_bestWorth_183 : decode cX1_bestWorth 183 = .ok (.isub, 1) := by decide +kernel
theorem dX1_bestWorth_184 : decode cX1_bestWorth 184 = .ok (.bipush 8, 2) := by decide +kernel
theorem dX1_bestWorth_186 : decode cX1_bestWorth 186 = .ok (.imul, 1) := by decide +kernel
theorem dX1_bestWorth_187 : decode cX1_bestWorth 187 = .ok (.if_icmp .ge 31, 3) := by decide +kernel
theorem dX1_bestWorth_190 : decode cX1_bestWorth 190 = .ok (.aload_n 0, 1) := by decide +kernel
theorem dX1_bestWorth_191 : decode cX1_bestWorth 191 = .ok (.iload_n 1, 1) := by decide +kernel
theorem dX1_bestWorth_192 : decode cX1_bestWorth 192 = .ok (.iload_n 1, 1) := by decide +kernel
theorem dX1_bestWorth_193 : decode cX1_bestWorth 193 = .ok (.iconst 1, 1) := by decide +kernel
theorem dX1_bestWorth_194 : decode cX1_bestWorth 194 = .ok (.isub, 1) := by decide +kernel
theorem dX1_bestWorth_195 : decode cX1_bestWorth 195 = .ok (.iand, 1) := by decide +kernel
theorem dX1_bestWorth_196 : decode cX1_bestWorth 196 = .ok (.iload_n 2, 1) := by decide +kernel
theorem dX1_bestWorth_197 : decode cX1_bestWorth 197 = .ok (.iconst 1, 1) := by decide +kernel
theorem dX1_bestWorth_198 : decode cX1_bestWorth 198 = .ok (.iadd, 1) := by decide +kernel
theorem dX1_bestWorth_199 : decode cX1_bestWorth 199 = .ok (.invokevirtual 68, 3) := by decide +kernel
theorem dX1_bestWorth_202 : decode cX1_bestWorth 202 = .ok (.istore 8, 2) := by decide +kernel
theorem dX1_bestWorth_204 : decode cX1_bestWorth 204 = .ok (.iload 8, 2) := by decide +kernel
theorem dX1_bestWorth_206 : decode cX1_bestWorth 206 = .ok (.iload 6, 2) := by decide +kernel
theorem dX1_bestWorth_208 : decode cX1_bestWorth 208 = .ok (.if_icmp .le 10, 3) := by decide +kernel
theorem dX1_bestWorth_211 : decode cX1_bestWorth 211 = .ok (.iload 8, 2) := by decide +kernel
theorem dX1_bestWorth_213 : decode cX1_bestWorth 213 = .ok (.istore 6, 2) := by decide +kernel
theorem dX1_bestWorth_215 : decode cX1_bestWorth 215 = .ok (.iconst (-1), 1) := by decide +kernel
theorem dX1_bestWorth_216 : decode cX1_bestWorth 216 = .ok (.istore 7, 2) := by decide +kernel
theorem dX1_bestWorth_218 : decode cX1_bestWorth 218 = .ok (.aload_n 0, 1) := by decide +kernel
theorem dX1_bestWorth_219 : decode cX1_bestWorth 219 = .ok (.getfield 30, 3) := by decide +kernel
theorem dX1_bestWorth_222 : decode cX1_bestWorth 222 = .ok (.iload_n 1, 1) := by decide +kernel
theorem dX1_bestWorth_223 : decode cX1_bestWorth 223 = .ok (.aload_n 0, 1) := by decide +kernel
theorem dX1_bestWorth_224 : decode cX1_bestWorth 224 = .ok (.getfield 50, 3) := by decide +kernel
theorem dX1_bestWorth_227 : decode cX1_bestWorth 227 = .ok (.bipush 32, 2) := by decide +kernel
theorem dX1_bestWorth_229 : decode cX1_bestWorth 229 = .ok (.lshl, 1) := by decide +kernel
theorem dX1_bestWorth_230 : decode cX1_bestWorth 230 = .ok (.iload 7, 2) := by decide +kernel
theorem dX1_bestWorth_232 : decode cX1_bestWorth 232 = .ok (.iconst 1, 1) := by decide +kernel
theorem dX1_bestWorth_233 : decode cX1_bestWorth 233 = .ok (.iadd, 1) := by decide +kernel
theorem dX1_bestWorth_234 : decode cX1_bestWorth 234 = .ok (.i2l, 1) := by decide +kernel
theorem dX1_bestWorth_235 : decode cX1_bestWorth 235 = .ok (.bipush 16, 2) := by decide +kernel
theorem dX1_bestWorth_237 : decode cX1_bestWorth 237 = .ok (.lshl, 1) := by decide +kernel
theorem dX1_bestWorth_238 : decode cX1_bestWorth 238 = .ok (.lor, 1) := by decide +kernel
theorem dX1_bestWorth_239 : decode cX1_bestWorth 239 = .ok (.iload 6, 2) := by decide +kernel
theorem dX1_bestWorth_241 : decode cX1_bestWorth 241 = .ok (.ldc 75, 2) := by decide +kernel
theorem dX1_bestWorth_243 : decode cX1_bestWorth 243 = .ok (.iand, 1) := by decide +kernel
theorem dX1_bestWorth_244 : decode cX1_bestWorth 244 = .ok (.i2l, 1) := by decide +kernel
theorem dX1_bestWorth_245 : decode cX1_bestWorth 245 = .ok (.lor, 1) := by decide +kernel
theorem dX1_bestWorth_246 : decode cX1_bestWorth 246 = .ok (.lastore, 1) := by decide +kernel
theorem dX1_bestWorth_247 : decode cX1_bestWorth 247 = .ok (.iload 6, 2) := by decide +kernel
theorem dX1_bestWorth_249 : decode cX1_bestWorth 249 = .ok (.ireturn, 1) := by decide +kernel
theorem dX1_weightOf_0 : decode cX1_weightOf 0 = .ok (.iconst 0, 1) := by decide +kernel
theorem dX1_weightOf_1 : decode cX1_weightOf 1 = .ok (.istore_n 2, 1) := by decide +kernel
theorem dX1_weightOf_2 : decode cX1_weightOf 2 = .ok (.iconst 0, 1) := by decide +kernel
theorem dX1_weightOf_3 : decode cX1_weightOf 3 = .ok (.istore_n 3, 1) := by decide +kernel
theorem dX1_weightOf_4 : decode cX1_weightOf 4 = .ok (.iload_n 3, 1) := by decide +kernel
theorem dX1_weightOf_5 : decode cX1_weightOf 5 = .ok (.aload_n 0, 1) := by decide +kernel
theorem dX1_weightOf_6 : decode cX1_weightOf 6 = .ok (.getfield 43, 3) := by decide +kernel
theorem dX1_weightOf_9 : decode cX1_weightOf 9 = .ok (.if_icmp .ge 26, 3) := by decide +kernel
theorem dX1_weightOf_12 : decode cX1_weightOf 12 = .ok (.iload_n 1, 1) := by decide +kernel
theorem dX1_weightOf_13 : decode cX1_weightOf 13 = .ok (.iload_n 3, 1) := by decide +kernel
theorem dX1_weightOf_14 : decode cX1_weightOf 14 = .ok (.ishr, 1) := by decide +kernel
theorem dX1_weightOf_15 : decode cX1_weightOf 15 = .ok (.iconst 1, 1) := by decide +kernel
theorem dX1_weightOf_16 : decode cX1_weightOf 16 = .ok (.iand, 1) := by decide +kernel
theorem dX1_weightOf_17 : decode cX1_weightOf 17 = .ok (.ifCond .eq 12, 3) := by decide +kernel
theorem dX1_weightOf_20 : decode cX1_weightOf 20 = .ok (.iload_n 2, 1) := by decide +kernel
theorem dX1_weightOf_21 : decode cX1_weightOf 21 = .ok (.aload_n 0, 1) := by decide +kernel
theorem dX1_weightOf_22 : decode cX1_weightOf 22 = .ok (.getfield 27, 3) := by decide +kernel
theorem dX1_weightOf_25 : decode cX1_weightOf 25 = .ok (.iload_n 3, 1) := by decide +kernel
theorem dX1_weightOf_26 : decode cX1_weightOf 26 = .ok (.iaload, 1) := by decide +kernel
theorem dX1_weightOf_27 : decode cX1_weightOf 27 = .ok (.iadd, 1) := by decide +kernel
theorem dX1_weightOf_28 : decode cX1_weightOf 28 = .ok (.istore_n 2, 1) := by decide +kernel
theorem dX1_weightOf_29 : decode cX1_weightOf 29 = .ok (.iinc 3 1, 3) := by decide +kernel
theorem dX1_weightOf_32 : decode cX1_weightOf 32 = .ok (.goto (-28), 3) := by decide +kernel
theorem dX1_weightOf_35 : decode cX1_weightOf 35 = .ok (.iload_n 2, 1) := by decide +kernel
theorem dX1_weightOf_36 : decode cX1_weightOf 36 = .ok (.ireturn, 1) := by decide +kernel
theorem dX2_init_0 : decode cX2_init 0 = .ok (.aload_n 0, 1) := by decide +kernel
theorem dX2_init_1 : decode cX2_init 1 = .ok (.invokespecial 3, 3) := by decide +kernel
theorem dX2_init_4 : decode cX2_init 4 = .ok (.aload_n 0, 1) := by decide +kernel
theorem dX2_init_5 : decode cX2_init 5 = .ok (.bipush 80, 2) := by decide +kernel
theorem dX2_init_7 : decode cX2_init 7 = .ok (.newarray .int, 2) := by decide +kernel
theorem dX2_init_9 : decode cX2_init 9 = .ok (.putfield 9, 3) := by decide +kernel
theorem dX2_init_12 : decode cX2_init 12 = .ok (.aload_n 0, 1) := by decide +kernel
theorem dX2_init_13 : decode cX2_init 13 = .ok (.sipush 1681, 3) := by decide +kernel
theorem dX2_init_16 : decode cX2_init 16 = .ok (.newarray .int, 2) := by decide +kernel
theorem dX2_init_18 : decode cX2_init 18 = .ok (.putfield 13, 3) := by decide +kernel
theorem dX2_init_21 : decode cX2_init 21 = .ok (.aload_n 0, 1) := by decide +kernel
theorem dX2_init_22 : decode cX2_init 22 = .ok (.bipush 80, 2) := by decide +kernel
theorem dX2_init_24 : decode cX2_init 24 = .ok (.newarray .int, 2) := by decide +kernel
theorem dX2_init_26 : decode cX2_init 26 = .ok (.putfield 16, 3) := by decide +kernel
theorem dX2_init_29 : decode cX2_init 29 = .ok (.aload_n 0, 1) := by decide +kernel
theorem dX2_init_30 : decode cX2_init 30 = .ok (.iconst 5, 1) := by decide +kernel
theorem dX2_init_31 : decode cX2_init 31 = .ok (.newarray .int, 2) := by decide +kernel
theorem dX2_init_33 : decode cX2_init 33 = .ok (.putfield 19, 3) := by decide +kernel
theorem dX2_init_36 : decode cX2_init 36 = .ok (.return_, 1) := by decide +kernel
theorem dX2_hasRoom_0 : decode cX2_hasRoom 0 = .ok (.aload_n 0, 1) := by decide +kernel
theorem dX2_hasRoom_1 : decode cX2_hasRoom 1 = .ok (.getfield 22, 3) := by decide +kernel
theorem dX2_hasRoom_4 : decode cX2_hasRoom 4 = .ok (.bipush 20, 2) := by decide +kernel
theorem dX2_hasRoom_6 : decode cX2_hasRoom 6 = .ok (.iadd, 1) := by decide +kernel
theorem dX2_hasRoom_7 : decode cX2_hasRoom 7 = .ok (.bipush 80, 2) := by decide +kernel
theorem dX2_hasRoom_9 : decode cX2_hasRoom 9 = .ok (.if_icmp .gt 7, 3) := by decide +kernel
theorem dX2_hasRoom_12 : decode cX2_hasRoom 12 = .ok (.iconst 1, 1) := by decide +kernel
theorem dX2_hasRoom_13 : decode cX2_hasRoom 13 = .ok (.goto 4, 3) := by decide +kernel
theorem dX2_hasRoom_16 : decode cX2_hasRoom 16 = .ok (.iconst 0, 1) := by decide +kernel
theorem dX2_hasRoom_17 : decode cX2_hasRoom 17 = .ok (.ireturn, 1) := by decide +kernel
theorem dX2_append_0 : decode cX2_append 0 = .ok (.bipush 24, 2) := by decide +kernel
theorem dX2_append_2 : decode cX2_append 2 = .ok (.istore_n 2, 1) := by decide +kernel
theorem dX2_append_3 : decode cX2_append 3 = .ok (.iload_n 2, 1) := by decide +kernel
theorem dX2_append_4 : decode cX2_append 4 = .ok (.ifCond .lt 44, 3) := by decide +kernel
theorem dX2_append_7 : decode cX2_append 7 = .ok (.aload_n 0, 1) := by decide +kernel
theorem dX2_append_8 : decode cX2_append 8 = .ok (.getfield 22, 3) := by decide +kernel
theorem dX2_append_11 : decode cX2_append 11 = .ok (.bipush 80, 2) := by decide +kernel
theorem dX2_append_13 : decode cX2_append 13 = .ok (.if_icmp .ge 35, 3) := by decide +kernel
theorem dX2_append_16 : decode cX2_append 16 = .ok (.aload_n 0, 1) := by decide +kernel
theorem dX2_append_17 : decode cX2_append 17 = .ok (.getfield 9, 3) := by decide +kernel
theorem dX2_append_20 : decode cX2_append 20 = .ok (.aload_n 0, 1) := by decide +kernel
theorem dX2_append_21 : decode cX2_append 21 = .ok (.getfield 22, 3) := by decide +kernel
theorem dX2_append_24 : decode cX2_append 24 = .ok (.iload_n 1, 1) := by decide +kernel
theorem dX2_append_25 : decode cX2_append 25 = .ok (.iload_n 2, 1) := by decide +kernel
theorem dX2_append_26 : decode cX2_append 26 = .ok (.iushr, 1) := by decide +kernel
theorem dX2_append_27 : decode cX2_append 27 = .ok (.sipush 255, 3) := by decide +kernel
theorem dX2_append_30 : decode cX2_append 30 = .ok (.iand, 1) := by decide +kernel
theorem dX2_append_31 : decode cX2_append 31 = .ok (.iastore, 1) := by decide +kernel
theorem dX2_append_32 : decode cX2_append 32 = .ok (.aload_n 0, 1) := by decide +kernel
theorem dX2_append_33 : decode cX2_append 33 = .ok (.dup, 1) := by decide +kernel
theorem dX2_append_34 : decode cX2_append 34 = .ok (.getfield 22, 3) := by decide +kernel
theorem dX2_append_37 : decode cX2_append 37 = .ok (.iconst 1, 1) := by decide +kernel
theorem dX2_append_38 : decode cX2_append 38 = .ok (.iadd, 1) := by decide +kernel
theorem dX2_append_39 : decode cX2_append 39 = .ok (.putfield 22, 3) := by decide +kernel
theorem dX2_append_42 : decode cX2_append 42 = .ok (.iinc 2 (-8), 3) := by decide +kernel
theorem dX2_append_45 : decode cX2_append 45 = .ok (.goto (-42), 3) := by decide +kernel
theorem dX2_append_48 : decode cX2_append 48 = .ok (.return_, 1) := by decide +kernel
theorem dX2_compare_0 : decode cX2_compare 0 = .ok (.aload_n 0, 1) := by decide +kernel
theorem dX2_compare_1 : decode cX2_compare 1 = .ok (.iload_n 1, 1) := by decide +kernel
theorem dX2_compare_2 : decode cX2_compare 2 = .ok (.putfield 26, 3) := by decide +kernel
theorem dX2_compare_5 : decode cX2_compare 5 = .ok (.aload_n 0, 1) := by decide +kernel
theorem dX2_compare_6 : decode cX2_compare 6 = .ok (.iload_n 2, 1) := by decide +kernel
theorem dX2_compare_7 : decode cX2_compare 7 = .ok (.putfield 29, 3) := by decide +kernel
theorem dX2_compare_10 : decode cX2_compare 10 = .ok (.aload_n 0, 1) := by decide +kernel
theorem dX2_compare_11 : decode cX2_compare 11 = .ok (.invokevirtual 32, 3) := by decide +kernel
theorem dX2_compare_14 : decode cX2_compare 14 = .ok (.aload_n 0, 1) := by decide +kernel
theorem dX2_compare_15 : decode cX2_compare 15 = .ok (.invokevirtual 35, 3) := by decide +kernel
theorem dX2_compare_18 : decode cX2_compare 18 = .ok (.aload_n 0, 1) := by decide +kernel
theorem dX2_compare_19 : decode cX2_compare 19 = .ok (.iconst 0, 1) := by decide +kernel
theorem dX2_compare_20 : decode cX2_compare 20 = .ok (.putfield 22, 3) := by decide +kernel
theorem dX2_compare_23 : decode cX2_compare 23 = .ok (.aload_n 0, 1) := by decide +kernel
theorem dX2_compare_24 : decode cX2_compare 24 = .ok (.getfield 13, 3) := by decide +kernel
theorem dX2_compare_27 : decode cX2_compare 27 = .ok (.iconst 0, 1) := by decide +kernel
theorem dX2_compare_28 : decode cX2_compare 28 = .ok (.iaload, 1) := by decide +kernel
theorem dX2_compare_29 : decode cX2_compare 29 = .ok (.ireturn, 1) := by decide +kernel
theorem dX2_fillCosts_0 : decode cX2_fillCosts 0 = .ok (.aload_n 0, 1) := by decide +kernel
theorem dX2_fillCosts_1 : decode cX2_fillCosts 1 = .ok (.getfield 26, 3) := by decide +kernel
theorem dX2_fillCosts_4 : decode cX2_fillCosts 4 = .ok (.istore_n 1, 1) := by decide +kernel
theorem dX2_fillCosts_5 : decode cX2_fillCosts 5 = .ok (.iload_n 1, 1) := by decide +kernel
theorem dX2_fillCosts_6 : decode cX2_fillCosts 6 = .ok (.ifCond .lt 41, 3) := by decide +kernel
theorem dX2_fillCosts_9 : decode cX2_fillCosts 9 = .ok (.aload_n 0, 1) := by decide +kernel
theorem dX2_fillCosts_10 : decode cX2_fillCosts 10 = .ok (.getfield 29, 3) := by decide +kernel
theorem dX2_fillCosts_13 : decode cX2_fillCosts 13 = .ok (.istore_n 2, 1) := by decide +kernel
theorem dX2_fillCosts_14 : decode cX2_fillCosts 14 = .ok (.iload_n 2, 1) := by decide +kernel
theorem dX2_fillCosts_15 : decode cX2_fillCosts 15 = .ok (.ifCond .lt 26, 3) := by decide +kernel
theorem dX2_fillCosts_18 : decode cX2_fillCosts 18 = .ok (.aload_n 0, 1) := by decide +kernel
theorem dX2_fillCosts_19 : decode cX2_fillCosts 19 = .ok (.getfield 13, 3) := by decide +kernel
theorem dX2_fillCosts_22 : decode cX2_fillCosts 22 = .ok (.iload_n 1, 1) := by decide +kernel
theorem dX2_fillCosts_23 : decode cX2_fillCosts 23 = .ok (.bipush 41, 2) := by decide +kernel
theorem dX2_fillCosts_25 : decode cX2_fillCosts 25 = .ok (.imul, 1) := by decide +kernel
theorem dX2_fillCosts_26 : decode cX2_fillCosts 26 = .ok (.iload_n 2, 1) := by decide +kernel
theorem dX2_fillCosts_27 : decode cX2_fillCosts 27 = .ok (.iadd, 1) := by decide +kernel
theorem dX2_fillCosts_28 : decode cX2_fillCosts 28 = .ok (.aload_n 0, 1) := by decide +kernel
theorem dX2_fillCosts_29 : decode cX2_fillCosts 29 = .ok (.iload_n 1, 1) := by decide +kernel
theorem dX2_fillCosts_30 : decode cX2_fillCosts 30 = .ok (.iload_n 2, 1) := by decide +kernel
theorem dX2_fillCosts_31 : decode cX2_fillCosts 31 = .ok (.invokevirtual 38, 3) := by decide +kernel
theorem dX2_fillCosts_34 : decode cX2_fillCosts 34 = .ok (.iastore, 1) := by decide +kernel
theorem dX2_fillCosts_35 : decode cX2_fillCosts 35 = .ok (.iinc 2 (-1), 3) := by decide +kernel
theorem dX2_fillCosts_38 : decode cX2_fillCosts 38 = .ok (.goto (-24), 3) := by decide +kernel
theorem dX2_fillCosts_41 : decode cX2_fillCosts 41 = .ok (.iinc 1 (-1), 3) := by decide +kernel
theorem dX2_fillCosts_44 : decode cX2_fillCosts 44 = .ok (.goto (-39), 3) := by decide +kernel
theorem dX2_fillCosts_47 : decode cX2_fillCosts 47 = .ok (.return_, 1) := by decide +kernel
theorem dX2_leastCost_0 : decode cX2_leastCost 0 = .ok (.iload_n 1, 1) := by decide +kernel
theorem dX2_leastCost_1 : decode cX2_leastCost 1 = .ok (.aload_n 0, 1) := by decide +kernel
theorem dX2_leastCost_2 : decode cX2_leastCost 2 = .ok (.getfield 26, 3) := by decide +kernel
theorem dX2_leastCost_5 : decode cX2_leastCost 5 = .ok (.if_icmp .ne 13, 3) := by decide +kernel
theorem dX2_leastCost_8 : decode cX2_leastCost 8 = .ok (.iload_n 2, 1) := by decide +kernel
theorem dX2_leastCost_9 : decode cX2_leastCost 9 = .ok (.aload_n 0, 1) := by decide +kernel
theorem dX2_leastCost_10 : decode cX2_leastCost 10 = .ok (.getfield 29, 3) := by decide +kernel
theorem dX2_leastCost_13 : decode cX2_leastCost 13 = .ok (.if_icmp .ne 5, 3) := by decide +kernel
theorem dX2_leastCost_16 : decode cX2_leastCost 16 = .ok (.iconst 0, 1) := by decide +kernel
theorem dX2_leastCost_17 : decode cX2_leastCost 17 = .ok (.ireturn, 1) := by decide +kernel
theorem dX2_leastCost_18 : decode cX2_leastCost 18 = .ok (.ldc 42, 2) := by decide +kernel
theorem dX2_leastCost_20 : decode cX2_leastCost 20 = .ok (.istore_n 3, 1) := by decide +kernel
theorem dX2_leastCost_21 : decode cX2_leastCost 21 = .ok (.iconst 0, 1) := by decide +kernel
theorem dX2_leastCost_22 : decode cX2_leastCost 22 = .ok (.istore 4, 2) := by decide +kernel
theorem dX2_leastCost_24 : decode cX2_leastCost 24 = .ok (.iload 4, 2) := by decide +kernel
theorem dX2_leastCost_26 : decode cX2_leastCost 26 = .ok (.iconst 5, 1) := by decide +kernel
theorem dX2_leastCost_27 : decode cX2_leastCost 27 = .ok (.if_icmp .ge 22, 3) := by decide +kernel
theorem dX2_leastCost_30 : decode cX2_leastCost 30 = .ok (.iload_n 3, 1) := by decide +kernel
theorem dX2_leastCost_31 : decode cX2_leastCost 31 = .ok (.aload_n 0, 1) := by decide +kernel
theorem dX2_leastCost_32 : decode cX2_leastCost 32 = .ok (.iload 4, 2) := by decide +kernel
theorem dX2_leastCost_34 : decode cX2_leastCost 34 = .ok (.iload_n 1, 1) := by decide +kernel
theorem dX2_leastCost_35 : decode cX2_leastCost 35 = .ok (.iload_n 2, 1) := by decide +kernel
theorem dX2_leastCost_36 : decode cX2_leastCost 36 = .ok (.invokevirtual 43, 3) := by decide +kernel
theorem dX2_leastCost_39 : decode cX2_leastCost 39 = .ok (.invokestatic 47, 3) := by decide +kernel
theorem dX2_leastCost_42 : decode cX2_leastCost 42 = .ok (.istore_n 3, 1) := by decide +kernel
theorem dX2_leastCost_43 : decode cX2_leastCost 43 = .ok (.iinc 4 1, 3) := by decide +kernel
theorem dX2_leastCost_46 : decode cX2_leastCost 46 = .ok (.goto (-22), 3) := by decide +kernel
theorem dX2_leastCost_49 : decode cX2_leastCost 49 = .ok (.iload_n 3, 1) := by decide +kernel
theorem dX2_leastCost_50 : decode cX2_leastCost 50 = .ok (.ireturn, 1) := by decide +kernel
theorem dX2_writeMarks_0 : decode cX2_writeMarks 0 = .ok (.aload_n 0, 1) := by decide +kernel
theorem dX2_writeMarks_1 : decode cX2_writeMarks 1 = .ok (.iconst 0, 1) := by decide +kernel
theorem dX2_writeMarks_2 : decode cX2_writeMarks 2 = .ok (.putfield 52, 3) := by decide +kernel
theorem dX2_writeMarks_5 : decode cX2_writeMarks 5 = .ok (.iconst 0, 1) := by decide +kernel
theorem dX2_writeMarks_6 : decode cX2_writeMarks 6 = .ok (.istore_n 1, 1) := by decide +kernel
theorem dX2_writeMarks_7 : decode cX2_writeMarks 7 = .ok (.iload_n 1, 1) := by decide +kernel
theorem dX2_writeMarks_8 : decode cX2_writeMarks 8 = .ok (.iconst 5, 1) := by decide +kernel
theorem dX2_writeMarks_9 : decode cX2_writeMarks 9 = .ok (.if_icmp .ge 16, 3) := by decide +kernel
theorem dX2_writeMarks_12 : decode cX2_writeMarks 12 = .ok (.aload_n 0, 1) := by decide +kernel
theorem dX2_writeMarks_13 : decode cX2_writeMarks 13 = .ok (.getfield 19, 3) := by decide +kernel
theorem dX2_writeMarks_16 : decode cX2_writeMarks 16 = .ok (.iload_n 1, 1) := by decide +kernel
theorem dX2_writeMarks_17 : decode cX2_writeMarks 17 = .ok (.iconst 0, 1) := by decide +kernel
theorem dX2_writeMarks_18 : decode cX2_writeMarks 18 = .ok (.iastore, 1) := by decide +kernel
theorem dX2_writeMarks_19 : decode cX2_writeMarks 19 = .ok (.iinc 1 1, 3) := by decide +kernel
theorem dX2_writeMarks_22 : decode cX2_writeMarks 22 = .ok (.goto (-15), 3) := by decide +kernel
theorem dX2_writeMarks_25 : decode cX2_writeMarks 25 = .ok (.iconst 0, 1) := by decide +kernel
theorem dX2_writeMarks_26 : decode cX2_writeMarks 26 = .ok (.istore_n 1, 1) := by decide +kernel
theorem dX2_writeMarks_27 : decode cX2_writeMarks 27 = .ok (.iconst 0, 1) := by decide +kernel
theorem dX2_writeMarks_28 : decode cX2_writeMarks 28 = .ok (.istore_n 2, 1) := by decide +kernel
theorem dX2_writeMarks_29 : decode cX2_writeMarks 29 = .ok (.aload_n 0, 1) := by decide +kernel
theorem dX2_writeMarks_30 : decode cX2_writeMarks 30 = .ok (.getfield 52, 3) := by decide +kernel
theorem dX2_writeMarks_33 : decode cX2_writeMarks 33 = .ok (.bipush 80, 2) := by decide +kernel
theorem dX2_writeMarks_35 : decode cX2_writeMarks 35 = .ok (.if_icmp .ge 75, 3) := by decide +kernel
theorem dX2_writeMarks_38 : decode cX2_writeMarks 38 = .ok (.iload_n 1, 1) := by decide +kernel
theorem dX2_writeMarks_39 : decode cX2_writeMarks 39 = .ok (.aload_n 0, 1) := by decide +kernel
theorem dX2_writeMarks_40 : decode cX2_writeMarks 40 = .ok (.getfield 26, 3) := by decide +kernel
theorem dX2_writeMarks_43 : decode cX2_writeMarks 43 = .ok (.if_icmp .lt 11, 3) := by decide +kernel
theorem dX2_writeMarks_46 : decode cX2_writeMarks 46 = .ok (.iload_n 2, 1) := by decide +kernel
theorem dX2_writeMarks_47 : decode cX2_writeMarks 47 = .ok (.aload_n 0, 1) := by decide +kernel
theorem dX2_writeMarks_48 : decode cX2_writeMarks 48 = .ok (.getfield 29, 3) := by decide +kernel
theorem dX2_writeMarks_51 : decode cX2_writeMarks 51 = .ok (.if_icmp .ge 59, 3) := by decide +kernel
theorem dX2_writeMarks_54 : decode cX2_writeMarks 54 = .ok (.aload_n 0, 1) := by decide +kernel
theorem dX2_writeMarks_55 : decode cX2_writeMarks 55 = .ok (.iload_n 1, 1) := by decide +kernel
theorem dX2_writeMarks_56 : decode cX2_writeMarks 56 = .ok (.iload_n 2, 1) := by decide +kernel
theorem dX2_writeMarks_57 : decode cX2_writeMarks 57 = .ok (.invokevirtual 55, 3) := by decide +kernel
theorem dX2_writeMarks_60 : decode cX2_writeMarks 60 = .ok (.istore_n 3, 1) := by decide +kernel
theorem dX2_writeMarks_61 : decode cX2_writeMarks 61 = .ok (.aload_n 0, 1) := by decide +kernel
theorem dX2_writeMarks_62 : decode cX2_writeMarks 62 = .ok (.getfield 16, 3) := by decide +kernel
theorem dX2_writeMarks_65 : decode cX2_writeMarks 65 = .ok (.aload_n 0, 1) := by decide +kernel
theorem dX2_writeMarks_66 : decode cX2_writeMarks 66 = .ok (.getfield 52, 3) := by decide +kernel
theorem dX2_writeMarks_69 : decode cX2_writeMarks 69 = .ok (.iload_n 3, 1) := by decide +kernel
theorem dX2_writeMarks_70 : decode cX2_writeMarks 70 = .ok (.iastore, 1) := by decide +kernel
theorem dX2_writeMarks_71 : decode cX2_writeMarks 71 = .ok (.aload_n 0, 1) := by decide +kernel
theorem dX2_writeMarks_72 : decode cX2_writeMarks 72 = .ok (.dup, 1) := by decide +kernel
theorem dX2_writeMarks_73 : decode cX2_writeMarks 73 = .ok (.getfield 52, 3) := by decide +kernel
theorem dX2_writeMarks_76 : decode cX2_writeMarks 76 = .ok (.iconst 1, 1) := by decide +kernel
theorem dX2_writeMarks_77 : decode cX2_writeMarks 77 = .ok (.iadd, 1) := by decide +kernel
theorem dX2_writeMarks_78 : decode cX2_writeMarks 78 = .ok (.putfield 52, 3) := by decide +kernel
theorem dX2_writeMarks_81 : decode cX2_writeMarks 81 = .ok (.aload_n 0, 1) := by decide +kernel
theorem dX2_writeMarks_82 : decode cX2_writeMarks 82 = .ok (.getfield 19, 3) := by decide +kernel
theorem dX2_writeMarks_85 : decode cX2_writeMarks 85 = .ok (.iload_n 3, 1) := by decide +kernel
theorem dX2_writeMarks_86 : decode cX2_writeMarks 86 = .ok (.dup2, 1) := by decide +kernel
theorem dX2_writeMarks_87 : decode cX2_writeMarks 87 = .ok (.iaload, 1) := by decide +kernel
theorem dX2_writeMarks_88 : decode cX2_writeMarks 88 = .ok (.iconst 1, 1) := by decide +kernel
theorem dX2_writeMarks_89 : decode cX2_writeMarks 89 = .ok (.iadd, 1) := by decide +kernel
theorem dX2_writeMarks_90 : decode cX2_writeMarks 90 = .ok (.iastore, 1) := by decide +kernel
theorem dX2_writeMarks_91 : decode cX2_writeMarks 91 = .ok (.iload_n 1, 1) := by decide +kernel
theorem dX2_writeMarks_92 : decode cX2_writeMarks 92 = .ok (.getstatic 58, 3) := by decide +kernel
theorem dX2_writeMarks_95 : decode cX2_writeMarks 95 = .ok (.iload_n 3, 1) := by decide +kernel
theorem dX2_writeMarks_96 : decode cX2_writeMarks 96 = .ok (.iaload, 1) := by decide +kernel
theorem dX2_writeMarks_97 : decode cX2_writeMarks 97 = .ok (.iadd, 1) := by decide +kernel
theorem dX2_writeMarks_98 : decode cX2_writeMarks 98 = .ok (.istore_n 1, 1) := by decide +kernel
theorem dX2_writeMarks_99 : decode cX2_writeMarks 99 = .ok (.iload_n 2, 1) := by decide +kernel
theorem dX2_writeMarks_100 : decode cX2_writeMarks 100 = .ok (.getstatic 61, 3) := by decide +kernel
theorem dX2_writeMarks_103 : decode cX2_writeMarks 103 = .ok (.iload_n 3, 1) := by decide +kernel
theorem dX2_writeMarks_104 : decode cX2_writeMarks 104 = .ok (.iaload, 1) := by decide +kernel
theorem dX2_writeMarks_105 : decode cX2_writeMarks 105 = .ok (.iadd, 1) := by decide +kernel
theorem dX2_writeMarks_106 : decode cX2_writeMarks 106 = .ok (.istore_n 2, 1) := by decide +kernel
theorem dX2_writeMarks_107 : decode cX2_writeMarks 107 = .ok (.goto (-78), 3) := by decide +kernel
theorem dX2_writeMarks_110 : decode cX2_writeMarks 110 = .ok (.return_, 1) := by decide +kernel
theorem dX2_firstKind_0 : decode cX2_firstKind 0 = .ok (.aload_n 0, 1) := by decide +kernel
theorem dX2_firstKind_1 : decode cX2_firstKind 1 = .ok (.getfield 13, 3) := by decide +kernel
theorem dX2_firstKind_4 : decode cX2_firstKind 4 = .ok (.iload_n 1, 1) := by decide +kernel
theorem dX2_firstKind_5 : decode cX2_firstKind 5 = .ok (.bipush 41, 2) := by decide +kernel
theorem dX2_firstKind_7 : decode cX2_firstKind 7 = .ok (.imul, 1) := by decide +kernel
theorem dX2_firstKind_8 : decode cX2_firstKind 8 = .ok (.iload_n 2, 1) := by decide +kernel
theorem dX2_firstKind_9 : decode cX2_firstKind 9 = .ok (.iadd, 1) := by decide +kernel
theorem dX2_firstKind_10 : decode cX2_firstKind 10 = .ok (.iaload, 1) := by decide +kernel
theorem dX2_firstKind_11 : decode cX2_firstKind 11 = .ok (.istore_n 3, 1) := by decide +kernel
theorem dX2_firstKind_12 : decode cX2_firstKind 12 = .ok (.iconst 0, 1) := by decide +kernel
theorem dX2_firstKind_13 : decode cX2_firstKind 13 = .ok (.istore 4, 2) := by decide +kernel
theorem dX2_firstKind_15 : decode cX2_firstKind 15 = .ok (.iload 4, 2) := by decide +kernel
theorem dX2_firstKind_17 : decode cX2_firstKind 17 = .ok (.iconst 4, 1) := by decide +kernel
theorem dX2_firstKind_18 : decode cX2_firstKind 18 = .ok (.if_icmp .ge 21, 3) := by decide +kernel
theorem dX2_firstKind_21 : decode cX2_firstKind 21 = .ok (.aload_n 0, 1) := by decide +kernel
theorem dX2_firstKind_22 : decode cX2_firstKind 22 = .ok (.iload 4, 2) := by decide +kernel
theorem dX2_firstKind_24 : decode cX2_firstKind 24 = .ok (.iload_n 1, 1) := by decide +kernel
theorem dX2_firstKind_25 : decode cX2_firstKind 25 = .ok (.iload_n 2, 1) := by decide +kernel
theorem dX2_firstKind_26 : decode cX2_firstKind 26 = .ok (.invokevirtual 43, 3) := by decide +kernel
theorem dX2_firstKind_29 : decode cX2_firstKind 29 = .ok (.iload_n 3, 1) := by decide +kernel
theorem dX2_firstKind_30 : decode cX2_firstKind 30 = .ok (.if_icmp .eq 9, 3) := by decide +kernel
theorem dX2_firstKind_33 : decode cX2_firstKind 33 = .ok (.iinc 4 1, 3) := by decide +kernel
theorem dX2_firstKind_36 : decode cX2_firstKind 36 = .ok (.goto (-21), 3) := by decide +kernel
theorem dX2_firstKind_39 : decode cX2_firstKind 39 = .ok (.iload 4, 2) := by decide +kernel
theorem dX2_firstKind_41 : decode cX2_firstKind 41 = .ok (.ireturn, 1) := by decide +kernel
theorem dX2_costBy_0 : decode cX2_costBy 0 = .ok (.iload_n 2, 1) := by decide +kernel
theorem dX2_costBy_1 : decode cX2_costBy 1 = .ok (.getstatic 58, 3) := by decide +kernel
theorem dX2_costBy_4 : decode cX2_costBy 4 = .ok (.iload_n 1, 1) := by decide +kernel
theorem dX2_costBy_5 : decode cX2_costBy 5 = .ok (.iaload, 1) := by decide +kernel
theorem dX2_costBy_6 : decode cX2_costBy 6 = .ok (.iadd, 1) := by decide +kernel
theorem dX2_costBy_7 : decode cX2_costBy 7 = .ok (.istore 4, 2) := by decide +kernel
theorem dX2_costBy_9 : decode cX2_costBy 9 = .ok (.iload_n 3, 1) := by decide +kernel
theorem dX2_costBy_10 : decode cX2_costBy 10 = .ok (.getstatic 61, 3) := by decide +kernel
theorem dX2_costBy_13 : decode cX2_costBy 13 = .ok (.iload_n 1, 1) := by decide +kernel
theorem dX2_costBy_14 : decode cX2_costBy 14 = .ok (.iaload, 1) := by decide +kernel
theorem dX2_costBy_15 : decode cX2_costBy 15 = .ok (.iadd, 1) := by decide +kernel
theorem dX2_costBy_16 : decode cX2_costBy 16 = .ok (.istore 5, 2) := by decide +kernel
theorem dX2_costBy_18 : decode cX2_costBy 18 = .ok (.iload 4, 2) := by decide +kernel
theorem dX2_costBy_20 : decode cX2_costBy 20 = .ok (.aload_n 0, 1) := by decide +kernel
theorem dX2_costBy_21 : decode cX2_costBy 21 = .ok (.getfield 26, 3) := by decide +kernel
theorem dX2_costBy_24 : decode cX2_costBy 24 = .ok (.if_icmp .gt 27, 3) := by decide +kernel
theorem dX2_costBy_27 : decode cX2_costBy 27 = .ok (.iload 5, 2) := by decide +kernel
theorem dX2_costBy_29 : decode cX2_costBy 29 = .ok (.aload_n 0, 1) := by decide +kernel
theorem dX2_costBy_30 : decode cX2_costBy 30 = .ok (.getfield 29, 3) := by decide +kernel
theorem dX2_costBy_33 : decode cX2_costBy 33 = .ok (.if_icmp .gt 18, 3) := by decide +kernel
theorem dX2_costBy_36 : decode cX2_costBy 36 = .ok (.aload_n 0, 1) := by decide +kernel
theorem dX2_costBy_37 : decode cX2_costBy 37 = .ok (.iload_n 1, 1) := by decide +kernel
theorem dX2_costBy_38 : decode cX2_costBy 38 = .ok (.iload_n 2, 1) := by decide +kernel
theorem dX2_costBy_39 : decode cX2_costBy 39 = .ok (.aload_n 0, 1) := by decide +kernel
theorem dX2_costBy_40 : decode cX2_costBy 40 = .ok (.getfield 26, 3) := by decide +kernel
theorem dX2_costBy_43 : decode cX2_costBy 43 = .ok (.iload_n 3, 1) := by decide +kernel
theorem dX2_costBy_44 : decode cX2_costBy 44 = .ok (.iadd, 1) := by decide +kernel
theorem dX2_costBy_45 : decode cX2_costBy 45 = .ok (.invokevirtual 64, 3) := by decide +kernel
theorem dX2_costBy_48 : decode cX2_costBy 48 = .ok (.ifCond .ne 6, 3) := by decide +kernel
theorem dX2_costBy_51 : decode cX2_costBy 51 = .ok (.ldc 42, 2) := by decide +kernel
theorem dX2_costBy_53 : decode cX2_costBy 53 = .ok (.ireturn, 1) := by decide +kernel
theorem dX2_costBy_54 : decode cX2_costBy 54 = .ok (.getstatic 68, 3) := by decide +kernel
theorem dX2_costBy_57 : decode cX2_costBy 57 = .ok (.iload_n 1, 1) := by decide +kernel
theorem dX2_costBy_58 : decode cX2_costBy 58 = .ok (.iaload, 1) := by decide +kernel
theorem dX2_costBy_59 : decode cX2_costBy 59 = .ok (.aload_n 0, 1) := by decide +kernel
theorem dX2_costBy_60 : decode cX2_costBy 60 = .ok (.getfield 13, 3) := by decide +kernel
theorem dX2_costBy_63 : decode cX2_costBy 63 = .ok (.iload 4, 2) := by decide +kernel
theorem dX2_costBy_65 : decode cX2_costBy 65 = .ok (.bipush 41, 2) := by decide +kernel
theorem dX2_costBy_67 : decode cX2_costBy 67 = .ok (.imul, 1) := by decide +kernel
theorem dX2_costBy_68 : decode cX2_costBy 68 = .ok (.iload 5, 2) := by decide +kernel
theorem dX2_costBy_70 : decode cX2_costBy 70 = .ok (.iadd, 1) := by decide +kernel
theorem dX2_costBy_71 : decode cX2_costBy 71 = .ok (.iaload, 1) := by decide +kernel
theorem dX2_costBy_72 : decode cX2_costBy 72 = .ok (.iadd, 1) := by decide +kernel
theorem dX2_costBy_73 : decode cX2_costBy 73 = .ok (.ireturn, 1) := by decide +kernel
theorem dX2_fits_0 : decode cX2_fits 0 = .ok (.iload_n 1, 1) := by decide +kernel
theorem dX2_fits_1 : decode cX2_fits 1 = .ok (.tableswitch 134 0 4 #[35, 56, 134, 134, 77], 35) := by decide +kernel
theorem dX2_fits_36 : decode cX2_fits 36 = .ok (.aload_n 0, 1) := by decide +kernel
theorem dX2_fits_37 : decode cX2_fits 37 = .ok (.getfield 9, 3) := by decide +kernel
theorem dX2_fits_40 : decode cX2_fits 40 = .ok (.iload_n 2, 1) := by decide +kernel
theorem dX2_fits_41 : decode cX2_fits 41 = .ok (.iaload, 1) := by decide +kernel
theorem dX2_fits_42 : decode cX2_fits 42 = .ok (.aload_n 0, 1) := by decide +kernel
theorem dX2_fits_43 : decode cX2_fits 43 = .ok (.getfield 9, 3) := by decide +kernel
theorem dX2_fits_46 : decode cX2_fits 46 = .ok (.iload_n 3, 1) := by decide +kernel
theorem dX2_fits_47 : decode cX2_fits 47 = .ok (.iaload, 1) := by decide +kernel
theorem dX2_fits_48 : decode cX2_fits 48 = .ok (.if_icmp .ne 7, 3) := by decide +kernel
theorem dX2_fits_51 : decode cX2_fits 51 = .ok (.iconst 1, 1) := by decide +kernel
theorem dX2_fits_52 : decode cX2_fits 52 = .ok (.goto 4, 3) := by decide +kernel
theorem dX2_fits_55 : decode cX2_fits 55 = .ok (.iconst 0, 1) := by decide +kernel
theorem dX2_fits_56 : decode cX2_fits 56 = .ok (.ireturn, 1) := by decide +kernel
theorem dX2_fits_57 : decode cX2_fits 57 = .ok (.aload_n 0, 1) := by decide +kernel
theorem dX2_fits_58 : decode cX2_fits 58 = .ok (.getfield 9, 3) := by decide +kernel
theorem dX2_fits_61 : decode cX2_fits 61 = .ok (.iload_n 2, 1) := by decide +kernel
theorem dX2_fits_62 : decode cX2_fits 62 = .ok (.iaload, 1) := by decide +kernel
theorem dX2_fits_63 : decode cX2_fits 63 = .ok (.aload_n 0, 1) := by decide +kernel
theorem dX2_fits_64 : decode cX2_fits 64 = .ok (.getfield 9, 3) := by decide +kernel
theorem dX2_fits_67 : decode cX2_fits 67 = .ok (.iload_n 3, 1) := by decide +kernel
theorem dX2_fits_68 : decode cX2_fits 68 = .ok (.iaload, 1) := by decide +kernel
theorem dX2_fits_69 : decode cX2_fits 69 = .ok (.if_icmp .eq 7, 3) := by decide +kernel
theorem dX2_fits_72 : decode cX2_fits 72 = .ok (.iconst 1, 1) := by decide +kernel
theorem dX2_fits_73 : decode cX2_fits 73 = .ok (.goto 4, 3) := by decide +kernel
theorem dX2_fits_76 : decode cX2_fits 76 = .ok (.iconst 0, 1) := by decide +kernel
theorem dX2_fits_77 : decode cX2_fits 77 = .ok (.ireturn, 1) := by decide +kernel
theorem dX2_fits_78 : decode cX2_fits 78 = .ok (.aload_n 0, 1) := by decide +kernel
theorem dX2_fits_79 : decode cX2_fits 79 = .ok (.getfield 9, 3) := by decide +kernel
theorem dX2_fits_82 : decode cX2_fits 82 = .ok (.iload_n 2, 1) := by decide +kernel
theorem dX2_fits_83 : decode cX2_fits 83 = .ok (.iaload, 1) := by decide +kernel
theorem dX2_fits_84 : decode cX2_fits 84 = .ok (.aload_n 0, 1) := by decide +kernel
theorem dX2_fits_85 : decode cX2_fits 85 = .ok (.getfield 9, 3) := by decide +kernel
theorem dX2_fits_88 : decode cX2_fits 88 = .ok (.iload_n 3, 1) := by decide +kernel
theorem dX2_fits_89 : decode cX2_fits 89 = .ok (.iconst 1, 1) := by decide +kernel
theorem dX2_fits_90 : decode cX2_fits 90 = .ok (.iadd, 1) := by decide +kernel
theorem dX2_fits_91 : decode cX2_fits 91 = .ok (.iaload, 1) := by decide +kernel
theorem dX2_fits_92 : decode cX2_fits 92 = .ok (.if_icmp .ne 41, 3) := by decide +kernel
theorem dX2_fits_95 : decode cX2_fits 95 = .ok (.aload_n 0, 1) := by decide +kernel
theorem dX2_fits_96 : decode cX2_fits 96 = .ok (.getfield 9, 3) := by decide +kernel
theorem dX2_fits_99 : decode cX2_fits 99 = .ok (.iload_n 2, 1) := by decide +kernel
theorem dX2_fits_100 : decode cX2_fits 100 = .ok (.iconst 1, 1) := by decide +kernel
theorem dX2_fits_101 : decode cX2_fits 101 = .ok (.iadd, 1) := by decide +kernel
theorem dX2_fits_102 : decode cX2_fits 102 = .ok (.iaload, 1) := by decide +kernel
theorem dX2_fits_103 : decode cX2_fits 103 = .ok (.aload_n 0, 1) := by decide +kernel
theorem dX2_fits_104 : decode cX2_fits 104 = .ok (.getfield 9, 3) := by decide +kernel
theorem dX2_fits_107 : decode cX2_fits 107 = .ok (.iload_n 3, 1) := by decide +kernel
theorem dX2_fits_108 : decode cX2_fits 108 = .ok (.iaload, 1) := by decide +kernel
theorem dX2_fits_109 : decode cX2_fits 109 = .ok (.if_icmp .ne 24, 3) := by decide +kernel
theorem dX2_fits_112 : decode cX2_fits 112 = .ok (.aload_n 0, 1) := by decide +kernel
theorem dX2_fits_113 : decode cX2_fits 113 = .ok (.getfield 9, 3) := by decide +kernel
theorem dX2_fits_116 : decode cX2_fits 116 = .ok (.iload_n 2, 1) := by decide +kernel
theorem dX2_fits_117 : decode cX2_fits 117 = .ok (.iaload, 1) := by decide +kernel
theorem dX2_fits_118 : decode cX2_fits 118 = .ok (.aload_n 0, 1) := by decide +kernel
theorem dX2_fits_119 : decode cX2_fits 119 = .ok (.getfield 9, 3) := by decide +kernel
theorem dX2_fits_122 : decode cX2_fits 122 = .ok (.iload_n 2, 1) := by decide +kernel
theorem dX2_fits_123 : decode cX2_fits 123 = .ok (.iconst 1, 1) := by decide +kernel
theorem dX2_fits_124 : decode cX2_fits 124 = .ok (.iadd, 1) := by decide +kernel
theorem dX2_fits_125 : decode cX2_fits 125 = .ok (.iaload, 1) := by decide +kernel
theorem dX2_fits_126 : decode cX2_fits 126 = .ok (.if_icmp .eq 7, 3) := by decide +kernel
theorem dX2_fits_129 : decode cX2_fits 129 = .ok (.iconst 1, 1) := by decide +kernel
theorem dX2_fits_130 : decode cX2_fits 130 = .ok (.goto 4, 3) := by decide +kernel
theorem dX2_fits_133 : decode cX2_fits 133 = .ok (.iconst 0, 1) := by decide +kernel
theorem dX2_fits_134 : decode cX2_fits 134 = .ok (.ireturn, 1) := by decide +kernel
theorem dX2_fits_135 : decode cX2_fits 135 = .ok (.iconst 1, 1) := by decide +kernel
theorem dX2_fits_136 : decode cX2_fits 136 = .ok (.ireturn, 1) := by decide +kernel
theorem dX3_init_0 : decode cX3_init 0 = .ok (.aload_n 0, 1) := by decide +kernel
theorem dX3_init_1 : decode cX3_init 1 = .ok (.invokespecial 3, 3) := by decide +kernel
theorem dX3_init_4 : decode cX3_init 4 = .ok (.aload_n 0, 1) := by decide +kernel
theorem dX3_init_5 : decode cX3_init 5 = .ok (.bipush 14, 2) := by decide +kernel
theorem dX3_init_7 : decode cX3_init 7 = .ok (.newarray .int, 2) := by decide +kernel
theorem dX3_init_9 : decode cX3_init 9 = .ok (.putfield 9, 3) := by decide +kernel
theorem dX3_init_12 : decode cX3_init 12 = .ok (.aload_n 0, 1) := by decide +kernel
theorem dX3_init_13 : decode cX3_init 13 = .ok (.sipush 196, 3) := by decide +kernel
theorem dX3_init_16 : decode cX3_init 16 = .ok (.newarray .int, 2) := by decide +kernel
theorem dX3_init_18 : decode cX3_init 18 = .ok (.putfield 15, 3) := by decide +kernel
theorem dX3_init_21 : decode cX3_init 21 = .ok (.return_, 1) := by decide +kernel
theorem dX3_setTie_0 : decode cX3_setTie 0 = .ok (.aload_n 0, 1) := by decide +kernel
theorem dX3_setTie_1 : decode cX3_setTie 1 = .ok (.getfield 9, 3) := by decide +kernel
theorem dX3_setTie_4 : decode cX3_setTie 4 = .ok (.iload_n 1, 1) := by decide +kernel
theorem dX3_setTie_5 : decode cX3_setTie 5 = .ok (.iload_n 3, 1) := by decide +kernel
theorem dX3_setTie_6 : decode cX3_setTie 6 = .ok (.ifCond .eq 16, 3) := by decide +kernel
theorem dX3_setTie_9 : decode cX3_setTie 9 = .ok (.aload_n 0, 1) := by decide +kernel
theorem dX3_setTie_10 : decode cX3_setTie 10 = .ok (.getfield 9, 3) := by decide +kernel
theorem dX3_setTie_13 : decode cX3_setTie 13 = .ok (.iload_n 1, 1) := by decide +kernel
theorem dX3_setTie_14 : decode cX3_setTie 14 = .ok (.iaload, 1) := by decide +kernel
theorem dX3_setTie_15 : decode cX3_setTie 15 = .ok (.iconst 1, 1) := by decide +kernel
theorem dX3_setTie_16 : decode cX3_setTie 16 = .ok (.iload_n 2, 1) := by decide +kernel
theorem dX3_setTie_17 : decode cX3_setTie 17 = .ok (.ishl, 1) := by decide +kernel
theorem dX3_setTie_18 : decode cX3_setTie 18 = .ok (.ior, 1) := by decide +kernel
theorem dX3_setTie_19 : decode cX3_setTie 19 = .ok (.goto 15, 3) := by decide +kernel
theorem dX3_setTie_22 : decode cX3_setTie 22 = .ok (.aload_n 0, 1) := by decide +kernel
theorem dX3_setTie_23 : decode cX3_setTie 23 = .ok (.getfield 9, 3) := by decide +kernel
theorem dX3_setTie_26 : decode cX3_setTie 26 = .ok (.iload_n 1, 1) := by decide +kernel
theorem dX3_setTie_27 : decode cX3_setTie 27 = .ok (.iaload, 1) := by decide +kernel
theorem dX3_setTie_28 : decode cX3_setTie 28 = .ok (.iconst 1, 1) := by decide +kernel
theorem dX3_setTie_29 : decode cX3_setTie 29 = .ok (.iload_n 2, 1) := by decide +kernel
theorem dX3_setTie_30 : decode cX3_setTie 30 = .ok (.ishl, 1) := by decide +kernel
theorem dX3_setTie_31 : decode cX3_setTie 31 = .ok (.iconst (-1), 1) := by decide +kernel
theorem dX3_setTie_32 : decode cX3_setTie 32 = .ok (.ixor, 1) := by decide +kernel
theorem dX3_setTie_33 : decode cX3_setTie 33 = .ok (.iand, 1) := by decide +kernel
theorem dX3_setTie_34 : decode cX3_setTie 34 = .ok (.iastore, 1) := by decide +kernel
theorem dX3_setTie_35 : decode cX3_setTie 35 = .ok (.aload_n 0, 1) := by decide +kernel
theorem dX3_setTie_36 : decode cX3_setTie 36 = .ok (.getfield 15, 3) := by decide +kernel
theorem dX3_setTie_39 : decode cX3_setTie 39 = .ok (.iload_n 1, 1) := by decide +kernel
theorem dX3_setTie_40 : decode cX3_setTie 40 = .ok (.bipush 14, 2) := by decide +kernel
theorem dX3_setTie_42 : decode cX3_setTie 42 = .ok (.imul, 1) := by decide +kernel
theorem dX3_setTie_43 : decode cX3_setTie 43 = .ok (.iload_n 2, 1) := by decide +kernel
theorem dX3_setTie_44 : decode cX3_setTie 44 = .ok (.iadd, 1) := by decide +kernel
theorem dX3_setTie_45 : decode cX3_setTie 45 = .ok (.iload 4, 2) := by decide +kernel
theorem dX3_setTie_47 : decode cX3_setTie 47 = .ok (.iastore, 1) := by decide +kernel
theorem dX3_setTie_48 : decode cX3_setTie 48 = .ok (.return_, 1) := by decide +kernel
theorem dX3_gives_0 : decode cX3_gives 0 = .ok (.aload_n 0, 1) := by decide +kernel
theorem dX3_gives_1 : decode cX3_gives 1 = .ok (.getfield 9, 3) := by decide +kernel
theorem dX3_gives_4 : decode cX3_gives 4 = .ok (.iload_n 1, 1) := by decide +kernel
theorem dX3_gives_5 : decode cX3_gives 5 = .ok (.iaload, 1) := by decide +kernel
theorem dX3_gives_6 : decode cX3_gives 6 = .ok (.iload_n 2, 1) := by decide +kernel
theorem dX3_gives_7 : decode cX3_gives 7 = .ok (.ishr, 1) := by decide +kernel
theorem dX3_gives_8 : decode cX3_gives 8 = .ok (.iconst 1, 1) := by decide +kernel
theorem dX3_gives_9 : decode cX3_gives 9 = .ok (.iand, 1) := by decide +kernel
theorem dX3_gives_10 : decode cX3_gives 10 = .ok (.ifCond .eq 7, 3) := by decide +kernel
theorem dX3_gives_13 : decode cX3_gives 13 = .ok (.iconst 1, 1) := by decide +kernel
theorem dX3_gives_14 : decode cX3_gives 14 = .ok (.goto 4, 3) := by decide +kernel
theorem dX3_gives_17 : decode cX3_gives 17 = .ok (.iconst 0, 1) := by decide +kernel
theorem dX3_gives_18 : decode cX3_gives 18 = .ok (.ireturn, 1) := by decide +kernel
theorem dX3_ringHours_0 : decode cX3_ringHours 0 = .ok (.iload_n 3, 1) := by decide +kernel
theorem dX3_ringHours_1 : decode cX3_ringHours 1 = .ok (.iconst (-1), 1) := by decide +kernel
theorem dX3_ringHours_2 : decode cX3_ringHours 2 = .ok (.if_icmp .ne 12, 3) := by decide +kernel
theorem dX3_ringHours_5 : decode cX3_ringHours 5 = .ok (.aload_n 0, 1) := by decide +kernel
theorem dX3_ringHours_6 : decode cX3_ringHours 6 = .ok (.iload_n 1, 1) := by decide +kernel
theorem dX3_ringHours_7 : decode cX3_ringHours 7 = .ok (.iload_n 2, 1) := by decide +kernel
theorem dX3_ringHours_8 : decode cX3_ringHours 8 = .ok (.invokevirtual 18, 3) := by decide +kernel
theorem dX3_ringHours_11 : decode cX3_ringHours 11 = .ok (.goto 10, 3) := by decide +kernel
theorem dX3_ringHours_14 : decode cX3_ringHours 14 = .ok (.aload_n 0, 1) := by decide +kernel
theorem dX3_ringHours_15 : decode cX3_ringHours 15 = .ok (.iload_n 1, 1) := by decide +kernel
theorem dX3_ringHours_16 : decode cX3_ringHours 16 = .ok (.iload_n 2, 1) := by decide +kernel
theorem dX3_ringHours_17 : decode cX3_ringHours 17 = .ok (.iload_n 3, 1) := by decide +kernel
theorem dX3_ringHours_18 : decode cX3_ringHours 18 = .ok (.invokevirtual 22, 3) := by decide +kernel
theorem dX3_ringHours_21 : decode cX3_ringHours 21 = .ok (.ireturn, 1) := by decide +kernel
theorem dX3_pairHours_0 : decode cX3_pairHours 0 = .ok (.iload_n 2, 1) := by decide +kernel
theorem dX3_pairHours_1 : decode cX3_pairHours 1 = .ok (.iload_n 1, 1) := by decide +kernel
theorem dX3_pairHours_2 : decode cX3_pairHours 2 = .ok (.if_icmp .le 21, 3) := by decide +kernel
theorem dX3_pairHours_5 : decode cX3_pairHours 5 = .ok (.aload_n 0, 1) := by decide +kernel
theorem dX3_pairHours_6 : decode cX3_pairHours 6 = .ok (.iload_n 1, 1) := by decide +kernel
theorem dX3_pairHours_7 : decode cX3_pairHours 7 = .ok (.iload_n 2, 1) := by decide +kernel
theorem dX3_pairHours_8 : decode cX3_pairHours 8 = .ok (.invokevirtual 26, 3) := by decide +kernel
theorem dX3_pairHours_11 : decode cX3_pairHours 11 = .ok (.ifCond .eq 12, 3) := by decide +kernel
theorem dX3_pairHours_14 : decode cX3_pairHours 14 = .ok (.aload_n 0, 1) := by decide +kernel
theorem dX3_pairHours_15 : decode cX3_pairHours 15 = .ok (.iload_n 2, 1) := by decide +kernel
theorem dX3_pairHours_16 : decode cX3_pairHours 16 = .ok (.iload_n 1, 1) := by decide +kernel
theorem dX3_pairHours_17 : decode cX3_pairHours 17 = .ok (.invokevirtual 26, 3) := by decide +kernel
theorem dX3_pairHours_20 : decode cX3_pairHours 20 = .ok (.ifCond .ne 5, 3) := by decide +kernel
theorem dX3_pairHours_23 : decode cX3_pairHours 23 = .ok (.iconst (-1), 1) := by decide +kernel
theorem dX3_pairHours_24 : decode cX3_pairHours 24 = .ok (.ireturn, 1) := by decide +kernel
theorem dX3_pairHours_25 : decode cX3_pairHours 25 = .ok (.aload_n 0, 1) := by decide +kernel
theorem dX3_pairHours_26 : decode cX3_pairHours 26 = .ok (.iload_n 1, 1) := by decide +kernel
theorem dX3_pairHours_27 : decode cX3_pairHours 27 = .ok (.iload_n 2, 1) := by decide +kernel
theorem dX3_pairHours_28 : decode cX3_pairHours 28 = .ok (.invokevirtual 30, 3) := by decide +kernel
theorem dX3_pairHours_31 : decode cX3_pairHours 31 = .ok (.invokestatic 33, 3) := by decide +kernel
theorem dX3_pairHours_34 : decode cX3_pairHours 34 = .ok (.ireturn, 1) := by decide +kernel
theorem dX3_tripleHours_0 : decode cX3_tripleHours 0 = .ok (.iload_n 2, 1) := by decide +kernel
theorem dX3_tripleHours_1 : decode cX3_tripleHours 1 = .ok (.iload_n 1, 1) := by decide +kernel
theorem dX3_tripleHours_2 : decode cX3_tripleHours 2 = .ok (.if_icmp .le 13, 3) := by decide +kernel
theorem dX3_tripleHours_5 : decode cX3_tripleHours 5 = .ok (.iload_n 3, 1) := by decide +kernel
theorem dX3_tripleHours_6 : decode cX3_tripleHours 6 = .ok (.iload_n 1, 1) := by decide +kernel
theorem dX3_tripleHours_7 : decode cX3_tripleHours 7 = .ok (.if_icmp .le 8, 3) := by decide +kernel
theorem dX3_tripleHours_10 : decode cX3_tripleHours 10 = .ok (.iload_n 2, 1) := by decide +kernel
theorem dX3_tripleHours_11 : decode cX3_tripleHours 11 = .ok (.iload_n 3, 1) := by decide +kernel
theorem dX3_tripleHours_12 : decode cX3_tripleHours 12 = .ok (.if_icmp .ne 5, 3) := by decide +kernel
theorem dX3_tripleHours_15 : decode cX3_tripleHours 15 = .ok (.iconst (-1), 1) := by decide +kernel
theorem dX3_tripleHours_16 : decode cX3_tripleHours 16 = .ok (.ireturn, 1) := by decide +kernel
theorem dX3_tripleHours_17 : decode cX3_tripleHours 17 = .ok (.aload_n 0, 1) := by decide +kernel
theorem dX3_tripleHours_18 : decode cX3_tripleHours 18 = .ok (.iload_n 1, 1) := by decide +kernel
theorem dX3_tripleHours_19 : decode cX3_tripleHours 19 = .ok (.iload_n 2, 1) := by decide +kernel
theorem dX3_tripleHours_20 : decode cX3_tripleHours 20 = .ok (.invokevirtual 26, 3) := by decide +kernel
theorem dX3_tripleHours_23 : decode cX3_tripleHours 23 = .ok (.ifCond .eq 21, 3) := by decide +kernel
theorem dX3_tripleHours_26 : decode cX3_tripleHours 26 = .ok (.aload_n 0, 1) := by decide +kernel
theorem dX3_tripleHours_27 : decode cX3_tripleHours 27 = .ok (.iload_n 2, 1) := by decide +kernel
theorem dX3_tripleHours_28 : decode cX3_tripleHours 28 = .ok (.iload_n 3, 1) := by decide +kernel
theorem dX3_tripleHours_29 : decode cX3_tripleHours 29 = .ok (.invokevirtual 26, 3) := by decide +kernel
theorem dX3_tripleHours_32 : decode cX3_tripleHours 32 = .ok (.ifCond .eq 12, 3) := by decide +kernel
theorem dX3_tripleHours_35 : decode cX3_tripleHours 35 = .ok (.aload_n 0, 1) := by decide +kernel
theorem dX3_tripleHours_36 : decode cX3_tripleHours 36 = .ok (.iload_n 3, 1) := by decide +kernel
theorem dX3_tripleHours_37 : decode cX3_tripleHours 37 = .ok (.iload_n 1, 1) := by decide +kernel
theorem dX3_tripleHours_38 : decode cX3_tripleHours 38 = .ok (.invokevirtual 26, 3) := by decide +kernel
theorem dX3_tripleHours_41 : decode cX3_tripleHours 41 = .ok (.ifCond .ne 5, 3) := by decide +kernel
theorem dX3_tripleHours_44 : decode cX3_tripleHours 44 = .ok (.iconst (-1), 1) := by decide +kernel
theorem dX3_tripleHours_45 : decode cX3_tripleHours 45 = .ok (.ireturn, 1) := by decide +kernel
theorem dX3_tripleHours_46 : decode cX3_tripleHours 46 = .ok (.aload_n 0, 1) := by decide +kernel
theorem dX3_tripleHours_47 : decode cX3_tripleHours 47 = .ok (.iload_n 1, 1) := by decide +kernel
theorem dX3_tripleHours_48 : decode cX3_tripleHours 48 = .ok (.iload_n 2, 1) := by decide +kernel
theorem dX3_tripleHours_49 : decode cX3_tripleHours 49 = .ok (.invokevirtual 30, 3) := by decide +kernel
theorem dX3_tripleHours_52 : decode cX3_tripleHours 52 = .ok (.aload_n 0, 1) := by decide +kernel
theorem dX3_tripleHours_53 : decode cX3_tripleHours 53 = .ok (.iload_n 2, 1) := by decide +kernel
theorem dX3_tripleHours_54 : decode cX3_tripleHours 54 = .ok (.iload_n 3, 1) := by decide +kernel
theorem dX3_tripleHours_55 : decode cX3_tripleHours 55 = .ok (.invokevirtual 30, 3) := by decide +kernel
theorem dX3_tripleHours_58 : decode cX3_tripleHours 58 = .ok (.aload_n 0, 1) := by decide +kernel
theorem dX3_tripleHours_59 : decode cX3_tripleHours 59 = .ok (.iload_n 3, 1) := by decide +kernel
theorem dX3_tripleHours_60 : decode cX3_tripleHours 60 = .ok (.iload_n 1, 1) := by decide +kernel
theorem dX3_tripleHours_61 : decode cX3_tripleHours 61 = .ok (.invokevirtual 30, 3) := by decide +kernel
theorem dX3_tripleHours_64 : decode cX3_tripleHours 64 = .ok (.invokestatic 37, 3) := by decide +kernel
theorem dX3_tripleHours_67 : decode cX3_tripleHours 67 = .ok (.ireturn, 1) := by decide +kernel
theorem dX3_shared_0 : decode cX3_shared 0 = .ok (.aload_n 0, 1) := by decide +kernel
theorem dX3_shared_1 : decode cX3_shared 1 = .ok (.getfield 15, 3) := by decide +kernel
theorem dX3_shared_4 : decode cX3_shared 4 = .ok (.iload_n 1, 1) := by decide +kernel
theorem dX3_shared_5 : decode cX3_shared 5 = .ok (.bipush 14, 2) := by decide +kernel
theorem dX3_shared_7 : decode cX3_shared 7 = .ok (.imul, 1) := by decide +kernel
theorem dX3_shared_8 : decode cX3_shared 8 = .ok (.iload_n 2, 1) := by decide +kernel
theorem dX3_shared_9 : decode cX3_shared 9 = .ok (.iadd, 1) := by decide +kernel
theorem dX3_shared_10 : decode cX3_shared 10 = .ok (.iaload, 1) := by decide +kernel
theorem dX3_shared_11 : decode cX3_shared 11 = .ok (.ireturn, 1) := by decide +kernel
theorem dX3_firstUnlikeHours_0 : decode cX3_firstUnlikeHours 0 = .ok (.iload_n 1, 1) := by decide +kernel
theorem dX3_firstUnlikeHours_1 : decode cX3_firstUnlikeHours 1 = .ok (.ifCond .eq 7, 3) := by decide +kernel
theorem dX3_firstUnlikeHours_4 : decode cX3_firstUnlikeHours 4 = .ok (.iload_n 2, 1) := by decide +kernel
theorem dX3_firstUnlikeHours_5 : decode cX3_firstUnlikeHours 5 = .ok (.ifCond .ne 5, 3) := by decide +kernel
theorem dX3_firstUnlikeHours_8 : decode cX3_firstUnlikeHours 8 = .ok (.iconst (-1), 1) := by decide +kernel
theorem dX3_firstUnlikeHours_9 : decode cX3_firstUnlikeHours 9 = .ok (.ireturn, 1) := by decide +kernel
theorem dX3_firstUnlikeHours_10 : decode cX3_firstUnlikeHours 10 = .ok (.iconst 0, 1) := by decide +kernel
theorem dX3_firstUnlikeHours_11 : decode cX3_firstUnlikeHours 11 = .ok (.istore_n 3, 1) := by decide +kernel
theorem dX3_firstUnlikeHours_12 : decode cX3_firstUnlikeHours 12 = .ok (.iload_n 3, 1) := by decide +kernel
theorem dX3_firstUnlikeHours_13 : decode cX3_firstUnlikeHours 13 = .ok (.bipush 24, 2) := by decide +kernel
theorem dX3_firstUnlikeHours_15 : decode cX3_firstUnlikeHours 15 = .ok (.if_icmp .ge 86, 3) := by decide +kernel
theorem dX3_firstUnlikeHours_18 : decode cX3_firstUnlikeHours 18 = .ok (.iload_n 0, 1) := by decide +kernel
theorem dX3_firstUnlikeHours_19 : decode cX3_firstUnlikeHours 19 = .ok (.iload_n 3, 1) := by decide +kernel
theorem dX3_firstUnlikeHours_20 : decode cX3_firstUnlikeHours 20 = .ok (.ishr, 1) := by decide +kernel
theorem dX3_firstUnlikeHours_21 : decode cX3_firstUnlikeHours 21 = .ok (.iconst 1, 1) := by decide +kernel
theorem dX3_firstUnlikeHours_22 : decode cX3_firstUnlikeHours 22 = .ok (.iand, 1) := by decide +kernel
theorem dX3_firstUnlikeHours_23 : decode cX3_firstUnlikeHours 23 = .ok (.ifCond .ne 6, 3) := by decide +kernel
