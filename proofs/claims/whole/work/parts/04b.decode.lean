theorem dX3_firstUnlikeHours_26 : decode cX3_firstUnlikeHours 26 = .ok (.goto 69, 3) := by decide +kernel
theorem dX3_firstUnlikeHours_29 : decode cX3_firstUnlikeHours 29 = .ok (.iconst 0, 1) := by decide +kernel
theorem dX3_firstUnlikeHours_30 : decode cX3_firstUnlikeHours 30 = .ok (.istore 4, 2) := by decide +kernel
theorem dX3_firstUnlikeHours_32 : decode cX3_firstUnlikeHours 32 = .ok (.iload 4, 2) := by decide +kernel
theorem dX3_firstUnlikeHours_34 : decode cX3_firstUnlikeHours 34 = .ok (.bipush 24, 2) := by decide +kernel
theorem dX3_firstUnlikeHours_36 : decode cX3_firstUnlikeHours 36 = .ok (.if_icmp .ge 59, 3) := by decide +kernel
theorem dX3_firstUnlikeHours_39 : decode cX3_firstUnlikeHours 39 = .ok (.iload_n 2, 1) := by decide +kernel
theorem dX3_firstUnlikeHours_40 : decode cX3_firstUnlikeHours 40 = .ok (.iconst 1, 1) := by decide +kernel
theorem dX3_firstUnlikeHours_41 : decode cX3_firstUnlikeHours 41 = .ok (.iload_n 3, 1) := by decide +kernel
theorem dX3_firstUnlikeHours_42 : decode cX3_firstUnlikeHours 42 = .ok (.ishl, 1) := by decide +kernel
theorem dX3_firstUnlikeHours_43 : decode cX3_firstUnlikeHours 43 = .ok (.iconst 1, 1) := by decide +kernel
theorem dX3_firstUnlikeHours_44 : decode cX3_firstUnlikeHours 44 = .ok (.iload 4, 2) := by decide +kernel
theorem dX3_firstUnlikeHours_46 : decode cX3_firstUnlikeHours 46 = .ok (.ishl, 1) := by decide +kernel
theorem dX3_firstUnlikeHours_47 : decode cX3_firstUnlikeHours 47 = .ok (.ior, 1) := by decide +kernel
theorem dX3_firstUnlikeHours_48 : decode cX3_firstUnlikeHours 48 = .ok (.iconst (-1), 1) := by decide +kernel
theorem dX3_firstUnlikeHours_49 : decode cX3_firstUnlikeHours 49 = .ok (.ixor, 1) := by decide +kernel
theorem dX3_firstUnlikeHours_50 : decode cX3_firstUnlikeHours 50 = .ok (.iand, 1) := by decide +kernel
theorem dX3_firstUnlikeHours_51 : decode cX3_firstUnlikeHours 51 = .ok (.istore 5, 2) := by decide +kernel
theorem dX3_firstUnlikeHours_53 : decode cX3_firstUnlikeHours 53 = .ok (.iload 4, 2) := by decide +kernel
theorem dX3_firstUnlikeHours_55 : decode cX3_firstUnlikeHours 55 = .ok (.iload_n 3, 1) := by decide +kernel
theorem dX3_firstUnlikeHours_56 : decode cX3_firstUnlikeHours 56 = .ok (.if_icmp .eq 33, 3) := by decide +kernel
theorem dX3_firstUnlikeHours_59 : decode cX3_firstUnlikeHours 59 = .ok (.iload_n 1, 1) := by decide +kernel
theorem dX3_firstUnlikeHours_60 : decode cX3_firstUnlikeHours 60 = .ok (.iload 4, 2) := by decide +kernel
theorem dX3_firstUnlikeHours_62 : decode cX3_firstUnlikeHours 62 = .ok (.ishr, 1) := by decide +kernel
theorem dX3_firstUnlikeHours_63 : decode cX3_firstUnlikeHours 63 = .ok (.iconst 1, 1) := by decide +kernel
theorem dX3_firstUnlikeHours_64 : decode cX3_firstUnlikeHours 64 = .ok (.iand, 1) := by decide +kernel
theorem dX3_firstUnlikeHours_65 : decode cX3_firstUnlikeHours 65 = .ok (.ifCond .eq 24, 3) := by decide +kernel
theorem dX3_firstUnlikeHours_68 : decode cX3_firstUnlikeHours 68 = .ok (.iload 5, 2) := by decide +kernel
theorem dX3_firstUnlikeHours_70 : decode cX3_firstUnlikeHours 70 = .ok (.ifCond .eq 19, 3) := by decide +kernel
theorem dX3_firstUnlikeHours_73 : decode cX3_firstUnlikeHours 73 = .ok (.iload_n 3, 1) := by decide +kernel
theorem dX3_firstUnlikeHours_74 : decode cX3_firstUnlikeHours 74 = .ok (.iload 4, 2) := by decide +kernel
theorem dX3_firstUnlikeHours_76 : decode cX3_firstUnlikeHours 76 = .ok (.iconst 5, 1) := by decide +kernel
theorem dX3_firstUnlikeHours_77 : decode cX3_firstUnlikeHours 77 = .ok (.ishl, 1) := by decide +kernel
theorem dX3_firstUnlikeHours_78 : decode cX3_firstUnlikeHours 78 = .ok (.ior, 1) := by decide +kernel
theorem dX3_firstUnlikeHours_79 : decode cX3_firstUnlikeHours 79 = .ok (.iload 5, 2) := by decide +kernel
theorem dX3_firstUnlikeHours_81 : decode cX3_firstUnlikeHours 81 = .ok (.invokestatic 33, 3) := by decide +kernel
theorem dX3_firstUnlikeHours_84 : decode cX3_firstUnlikeHours 84 = .ok (.bipush 10, 2) := by decide +kernel
theorem dX3_firstUnlikeHours_86 : decode cX3_firstUnlikeHours 86 = .ok (.ishl, 1) := by decide +kernel
theorem dX3_firstUnlikeHours_87 : decode cX3_firstUnlikeHours 87 = .ok (.ior, 1) := by decide +kernel
theorem dX3_firstUnlikeHours_88 : decode cX3_firstUnlikeHours 88 = .ok (.ireturn, 1) := by decide +kernel
theorem dX3_firstUnlikeHours_89 : decode cX3_firstUnlikeHours 89 = .ok (.iinc 4 1, 3) := by decide +kernel
theorem dX3_firstUnlikeHours_92 : decode cX3_firstUnlikeHours 92 = .ok (.goto (-60), 3) := by decide +kernel
theorem dX3_firstUnlikeHours_95 : decode cX3_firstUnlikeHours 95 = .ok (.iinc 3 1, 3) := by decide +kernel
theorem dX3_firstUnlikeHours_98 : decode cX3_firstUnlikeHours 98 = .ok (.goto (-86), 3) := by decide +kernel
theorem dX3_firstUnlikeHours_101 : decode cX3_firstUnlikeHours 101 = .ok (.iconst (-1), 1) := by decide +kernel
theorem dX3_firstUnlikeHours_102 : decode cX3_firstUnlikeHours 102 = .ok (.ireturn, 1) := by decide +kernel
theorem dX4_init_0 : decode cX4_init 0 = .ok (.aload_n 0, 1) := by decide +kernel
theorem dX4_init_1 : decode cX4_init 1 = .ok (.invokespecial 3, 3) := by decide +kernel
theorem dX4_init_4 : decode cX4_init 4 = .ok (.aload_n 0, 1) := by decide +kernel
theorem dX4_init_5 : decode cX4_init 5 = .ok (.bipush 14, 2) := by decide +kernel
theorem dX4_init_7 : decode cX4_init 7 = .ok (.anewarray 9, 3) := by decide +kernel
theorem dX4_init_10 : decode cX4_init 10 = .ok (.putfield 11, 3) := by decide +kernel
theorem dX4_init_13 : decode cX4_init 13 = .ok (.aload_n 0, 1) := by decide +kernel
theorem dX4_init_14 : decode cX4_init 14 = .ok (.new 15, 3) := by decide +kernel
theorem dX4_init_17 : decode cX4_init 17 = .ok (.dup, 1) := by decide +kernel
theorem dX4_init_18 : decode cX4_init 18 = .ok (.invokespecial 17, 3) := by decide +kernel
theorem dX4_init_21 : decode cX4_init 21 = .ok (.putfield 18, 3) := by decide +kernel
theorem dX4_init_24 : decode cX4_init 24 = .ok (.aload_n 0, 1) := by decide +kernel
theorem dX4_init_25 : decode cX4_init 25 = .ok (.new 22, 3) := by decide +kernel
theorem dX4_init_28 : decode cX4_init 28 = .ok (.dup, 1) := by decide +kernel
theorem dX4_init_29 : decode cX4_init 29 = .ok (.invokespecial 24, 3) := by decide +kernel
theorem dX4_init_32 : decode cX4_init 32 = .ok (.putfield 25, 3) := by decide +kernel
theorem dX4_init_35 : decode cX4_init 35 = .ok (.aload_n 0, 1) := by decide +kernel
theorem dX4_init_36 : decode cX4_init 36 = .ok (.new 29, 3) := by decide +kernel
theorem dX4_init_39 : decode cX4_init 39 = .ok (.dup, 1) := by decide +kernel
theorem dX4_init_40 : decode cX4_init 40 = .ok (.invokespecial 31, 3) := by decide +kernel
theorem dX4_init_43 : decode cX4_init 43 = .ok (.putfield 32, 3) := by decide +kernel
theorem dX4_init_46 : decode cX4_init 46 = .ok (.aload_n 0, 1) := by decide +kernel
theorem dX4_init_47 : decode cX4_init 47 = .ok (.bipush 42, 2) := by decide +kernel
theorem dX4_init_49 : decode cX4_init 49 = .ok (.newarray .int, 2) := by decide +kernel
theorem dX4_init_51 : decode cX4_init 51 = .ok (.putfield 36, 3) := by decide +kernel
theorem dX4_init_54 : decode cX4_init 54 = .ok (.return_, 1) := by decide +kernel
theorem dX4_learner_0 : decode cX4_learner 0 = .ok (.aload_n 0, 1) := by decide +kernel
theorem dX4_learner_1 : decode cX4_learner 1 = .ok (.getfield 40, 3) := by decide +kernel
theorem dX4_learner_4 : decode cX4_learner 4 = .ok (.bipush 14, 2) := by decide +kernel
theorem dX4_learner_6 : decode cX4_learner 6 = .ok (.if_icmp .lt 5, 3) := by decide +kernel
theorem dX4_learner_9 : decode cX4_learner 9 = .ok (.iconst (-1), 1) := by decide +kernel
theorem dX4_learner_10 : decode cX4_learner 10 = .ok (.ireturn, 1) := by decide +kernel
theorem dX4_learner_11 : decode cX4_learner 11 = .ok (.aload_n 0, 1) := by decide +kernel
theorem dX4_learner_12 : decode cX4_learner 12 = .ok (.getfield 11, 3) := by decide +kernel
theorem dX4_learner_15 : decode cX4_learner 15 = .ok (.aload_n 0, 1) := by decide +kernel
theorem dX4_learner_16 : decode cX4_learner 16 = .ok (.getfield 40, 3) := by decide +kernel
theorem dX4_learner_19 : decode cX4_learner 19 = .ok (.new 9, 3) := by decide +kernel
theorem dX4_learner_22 : decode cX4_learner 22 = .ok (.dup, 1) := by decide +kernel
theorem dX4_learner_23 : decode cX4_learner 23 = .ok (.iload_n 1, 1) := by decide +kernel
theorem dX4_learner_24 : decode cX4_learner 24 = .ok (.ldc 44, 2) := by decide +kernel
theorem dX4_learner_26 : decode cX4_learner 26 = .ok (.iand, 1) := by decide +kernel
theorem dX4_learner_27 : decode cX4_learner 27 = .ok (.invokespecial 45, 3) := by decide +kernel
theorem dX4_learner_30 : decode cX4_learner 30 = .ok (.aastore, 1) := by decide +kernel
theorem dX4_learner_31 : decode cX4_learner 31 = .ok (.aload_n 0, 1) := by decide +kernel
theorem dX4_learner_32 : decode cX4_learner 32 = .ok (.dup, 1) := by decide +kernel
theorem dX4_learner_33 : decode cX4_learner 33 = .ok (.getfield 40, 3) := by decide +kernel
theorem dX4_learner_36 : decode cX4_learner 36 = .ok (.iconst 1, 1) := by decide +kernel
theorem dX4_learner_37 : decode cX4_learner 37 = .ok (.iadd, 1) := by decide +kernel
theorem dX4_learner_38 : decode cX4_learner 38 = .ok (.putfield 40, 3) := by decide +kernel
theorem dX4_learner_41 : decode cX4_learner 41 = .ok (.aload_n 0, 1) := by decide +kernel
theorem dX4_learner_42 : decode cX4_learner 42 = .ok (.getfield 40, 3) := by decide +kernel
theorem dX4_learner_45 : decode cX4_learner 45 = .ok (.iconst 1, 1) := by decide +kernel
theorem dX4_learner_46 : decode cX4_learner 46 = .ok (.isub, 1) := by decide +kernel
theorem dX4_learner_47 : decode cX4_learner 47 = .ok (.ireturn, 1) := by decide +kernel
theorem dX4_hours_0 : decode cX4_hours 0 = .ok (.aload_n 0, 1) := by decide +kernel
theorem dX4_hours_1 : decode cX4_hours 1 = .ok (.iload_n 1, 1) := by decide +kernel
theorem dX4_hours_2 : decode cX4_hours 2 = .ok (.invokevirtual 48, 3) := by decide +kernel
theorem dX4_hours_5 : decode cX4_hours 5 = .ok (.astore_n 3, 1) := by decide +kernel
theorem dX4_hours_6 : decode cX4_hours 6 = .ok (.aload_n 3, 1) := by decide +kernel
theorem dX4_hours_7 : decode cX4_hours 7 = .ok (.getfield 52, 3) := by decide +kernel
theorem dX4_hours_10 : decode cX4_hours 10 = .ok (.istore 4, 2) := by decide +kernel
theorem dX4_hours_12 : decode cX4_hours 12 = .ok (.aload_n 3, 1) := by decide +kernel
theorem dX4_hours_13 : decode cX4_hours 13 = .ok (.iload_n 2, 1) := by decide +kernel
theorem dX4_hours_14 : decode cX4_hours 14 = .ok (.ldc 44, 2) := by decide +kernel
theorem dX4_hours_16 : decode cX4_hours 16 = .ok (.iand, 1) := by decide +kernel
theorem dX4_hours_17 : decode cX4_hours 17 = .ok (.putfield 52, 3) := by decide +kernel
theorem dX4_hours_20 : decode cX4_hours 20 = .ok (.iload 4, 2) := by decide +kernel
theorem dX4_hours_22 : decode cX4_hours 22 = .ok (.ireturn, 1) := by decide +kernel
theorem dX4_claim_0 : decode cX4_claim 0 = .ok (.aload_n 0, 1) := by decide +kernel
theorem dX4_claim_1 : decode cX4_claim 1 = .ok (.iload_n 1, 1) := by decide +kernel
theorem dX4_claim_2 : decode cX4_claim 2 = .ok (.invokevirtual 48, 3) := by decide +kernel
theorem dX4_claim_5 : decode cX4_claim 5 = .ok (.astore 4, 2) := by decide +kernel
theorem dX4_claim_7 : decode cX4_claim 7 = .ok (.iload_n 2, 1) := by decide +kernel
theorem dX4_claim_8 : decode cX4_claim 8 = .ok (.invokestatic 55, 3) := by decide +kernel
theorem dX4_claim_11 : decode cX4_claim 11 = .ok (.iload_n 3, 1) := by decide +kernel
theorem dX4_claim_12 : decode cX4_claim 12 = .ok (.ifCond .lt 9, 3) := by decide +kernel
theorem dX4_claim_15 : decode cX4_claim 15 = .ok (.iload_n 3, 1) := by decide +kernel
theorem dX4_claim_16 : decode cX4_claim 16 = .ok (.bipush 10, 2) := by decide +kernel
theorem dX4_claim_18 : decode cX4_claim 18 = .ok (.if_icmp .le 13, 3) := by decide +kernel
theorem dX4_claim_21 : decode cX4_claim 21 = .ok (.new 58, 3) := by decide +kernel
theorem dX4_claim_24 : decode cX4_claim 24 = .ok (.dup, 1) := by decide +kernel
theorem dX4_claim_25 : decode cX4_claim 25 = .ok (.ldc 60, 2) := by decide +kernel
theorem dX4_claim_27 : decode cX4_claim 27 = .ok (.invokespecial 62, 3) := by decide +kernel
theorem dX4_claim_30 : decode cX4_claim 30 = .ok (.athrow, 1) := by decide +kernel
theorem dX4_claim_31 : decode cX4_claim 31 = .ok (.aload 4, 2) := by decide +kernel
theorem dX4_claim_33 : decode cX4_claim 33 = .ok (.getfield 65, 3) := by decide +kernel
theorem dX4_claim_36 : decode cX4_claim 36 = .ok (.iload_n 2, 1) := by decide +kernel
theorem dX4_claim_37 : decode cX4_claim 37 = .ok (.iaload, 1) := by decide +kernel
theorem dX4_claim_38 : decode cX4_claim 38 = .ok (.istore 5, 2) := by decide +kernel
theorem dX4_claim_40 : decode cX4_claim 40 = .ok (.aload 4, 2) := by decide +kernel
theorem dX4_claim_42 : decode cX4_claim 42 = .ok (.getfield 65, 3) := by decide +kernel
theorem dX4_claim_45 : decode cX4_claim 45 = .ok (.iload_n 2, 1) := by decide +kernel
theorem dX4_claim_46 : decode cX4_claim 46 = .ok (.iload_n 3, 1) := by decide +kernel
theorem dX4_claim_47 : decode cX4_claim 47 = .ok (.iastore, 1) := by decide +kernel
theorem dX4_claim_48 : decode cX4_claim 48 = .ok (.iload 5, 2) := by decide +kernel
theorem dX4_claim_50 : decode cX4_claim 50 = .ok (.ireturn, 1) := by decide +kernel
theorem dX4_want_0 : decode cX4_want 0 = .ok (.aload_n 0, 1) := by decide +kernel
theorem dX4_want_1 : decode cX4_want 1 = .ok (.iload_n 1, 1) := by decide +kernel
theorem dX4_want_2 : decode cX4_want 2 = .ok (.invokevirtual 48, 3) := by decide +kernel
theorem dX4_want_5 : decode cX4_want 5 = .ok (.astore_n 3, 1) := by decide +kernel
theorem dX4_want_6 : decode cX4_want 6 = .ok (.iload_n 2, 1) := by decide +kernel
theorem dX4_want_7 : decode cX4_want 7 = .ok (.invokestatic 55, 3) := by decide +kernel
theorem dX4_want_10 : decode cX4_want 10 = .ok (.aload_n 3, 1) := by decide +kernel
theorem dX4_want_11 : decode cX4_want 11 = .ok (.iload_n 2, 1) := by decide +kernel
theorem dX4_want_12 : decode cX4_want 12 = .ok (.invokevirtual 68, 3) := by decide +kernel
theorem dX4_want_15 : decode cX4_want 15 = .ok (.ireturn, 1) := by decide +kernel
theorem dX4_unwant_0 : decode cX4_unwant 0 = .ok (.aload_n 0, 1) := by decide +kernel
theorem dX4_unwant_1 : decode cX4_unwant 1 = .ok (.iload_n 1, 1) := by decide +kernel
theorem dX4_unwant_2 : decode cX4_unwant 2 = .ok (.invokevirtual 48, 3) := by decide +kernel
theorem dX4_unwant_5 : decode cX4_unwant 5 = .ok (.astore_n 2, 1) := by decide +kernel
theorem dX4_unwant_6 : decode cX4_unwant 6 = .ok (.aload_n 2, 1) := by decide +kernel
theorem dX4_unwant_7 : decode cX4_unwant 7 = .ok (.getfield 72, 3) := by decide +kernel
theorem dX4_unwant_10 : decode cX4_unwant 10 = .ok (.istore_n 3, 1) := by decide +kernel
theorem dX4_unwant_11 : decode cX4_unwant 11 = .ok (.aload_n 2, 1) := by decide +kernel
theorem dX4_unwant_12 : decode cX4_unwant 12 = .ok (.iconst 0, 1) := by decide +kernel
theorem dX4_unwant_13 : decode cX4_unwant 13 = .ok (.putfield 72, 3) := by decide +kernel
theorem dX4_unwant_16 : decode cX4_unwant 16 = .ok (.iload_n 3, 1) := by decide +kernel
theorem dX4_unwant_17 : decode cX4_unwant 17 = .ok (.ireturn, 1) := by decide +kernel
theorem dX4_bar_0 : decode cX4_bar 0 = .ok (.aload_n 0, 1) := by decide +kernel
theorem dX4_bar_1 : decode cX4_bar 1 = .ok (.iload_n 1, 1) := by decide +kernel
theorem dX4_bar_2 : decode cX4_bar 2 = .ok (.iload_n 2, 1) := by decide +kernel
theorem dX4_bar_3 : decode cX4_bar 3 = .ok (.invokevirtual 75, 3) := by decide +kernel
theorem dX4_bar_6 : decode cX4_bar 6 = .ok (.aload_n 0, 1) := by decide +kernel
theorem dX4_bar_7 : decode cX4_bar 7 = .ok (.iload_n 1, 1) := by decide +kernel
theorem dX4_bar_8 : decode cX4_bar 8 = .ok (.invokevirtual 48, 3) := by decide +kernel
theorem dX4_bar_11 : decode cX4_bar 11 = .ok (.astore 4, 2) := by decide +kernel
theorem dX4_bar_13 : decode cX4_bar 13 = .ok (.aload_n 0, 1) := by decide +kernel
theorem dX4_bar_14 : decode cX4_bar 14 = .ok (.iload_n 2, 1) := by decide +kernel
theorem dX4_bar_15 : decode cX4_bar 15 = .ok (.invokevirtual 48, 3) := by decide +kernel
theorem dX4_bar_18 : decode cX4_bar 18 = .ok (.astore 5, 2) := by decide +kernel
theorem dX4_bar_20 : decode cX4_bar 20 = .ok (.aload 4, 2) := by decide +kernel
theorem dX4_bar_22 : decode cX4_bar 22 = .ok (.iload_n 2, 1) := by decide +kernel
theorem dX4_bar_23 : decode cX4_bar 23 = .ok (.invokevirtual 79, 3) := by decide +kernel
theorem dX4_bar_26 : decode cX4_bar 26 = .ok (.istore 6, 2) := by decide +kernel
theorem dX4_bar_28 : decode cX4_bar 28 = .ok (.aload 4, 2) := by decide +kernel
theorem dX4_bar_30 : decode cX4_bar 30 = .ok (.iload_n 2, 1) := by decide +kernel
theorem dX4_bar_31 : decode cX4_bar 31 = .ok (.iload_n 3, 1) := by decide +kernel
theorem dX4_bar_32 : decode cX4_bar 32 = .ok (.invokevirtual 83, 3) := by decide +kernel
theorem dX4_bar_35 : decode cX4_bar 35 = .ok (.aload 5, 2) := by decide +kernel
theorem dX4_bar_37 : decode cX4_bar 37 = .ok (.iload_n 1, 1) := by decide +kernel
theorem dX4_bar_38 : decode cX4_bar 38 = .ok (.iload_n 3, 1) := by decide +kernel
theorem dX4_bar_39 : decode cX4_bar 39 = .ok (.invokevirtual 83, 3) := by decide +kernel
theorem dX4_bar_42 : decode cX4_bar 42 = .ok (.iload 6, 2) := by decide +kernel
theorem dX4_bar_44 : decode cX4_bar 44 = .ok (.ireturn, 1) := by decide +kernel
theorem dX4_test_0 : decode cX4_test 0 = .ok (.aload_n 0, 1) := by decide +kernel
theorem dX4_test_1 : decode cX4_test 1 = .ok (.iload_n 1, 1) := by decide +kernel
theorem dX4_test_2 : decode cX4_test 2 = .ok (.invokevirtual 48, 3) := by decide +kernel
theorem dX4_test_5 : decode cX4_test 5 = .ok (.astore 5, 2) := by decide +kernel
theorem dX4_test_7 : decode cX4_test 7 = .ok (.iload_n 2, 1) := by decide +kernel
theorem dX4_test_8 : decode cX4_test 8 = .ok (.invokestatic 55, 3) := by decide +kernel
theorem dX4_test_11 : decode cX4_test 11 = .ok (.iload_n 3, 1) := by decide +kernel
theorem dX4_test_12 : decode cX4_test 12 = .ok (.iconst 1, 1) := by decide +kernel
theorem dX4_test_13 : decode cX4_test 13 = .ok (.if_icmp .lt 9, 3) := by decide +kernel
theorem dX4_test_16 : decode cX4_test 16 = .ok (.iload_n 3, 1) := by decide +kernel
theorem dX4_test_17 : decode cX4_test 17 = .ok (.bipush 10, 2) := by decide +kernel
theorem dX4_test_19 : decode cX4_test 19 = .ok (.if_icmp .le 13, 3) := by decide +kernel
theorem dX4_test_22 : decode cX4_test 22 = .ok (.new 58, 3) := by decide +kernel
theorem dX4_test_25 : decode cX4_test 25 = .ok (.dup, 1) := by decide +kernel
theorem dX4_test_26 : decode cX4_test 26 = .ok (.ldc 87, 2) := by decide +kernel
theorem dX4_test_28 : decode cX4_test 28 = .ok (.invokespecial 62, 3) := by decide +kernel
theorem dX4_test_31 : decode cX4_test 31 = .ok (.athrow, 1) := by decide +kernel
theorem dX4_test_32 : decode cX4_test 32 = .ok (.aload 5, 2) := by decide +kernel
theorem dX4_test_34 : decode cX4_test 34 = .ok (.iload_n 2, 1) := by decide +kernel
theorem dX4_test_35 : decode cX4_test 35 = .ok (.iload_n 3, 1) := by decide +kernel
theorem dX4_test_36 : decode cX4_test 36 = .ok (.iload 4, 2) := by decide +kernel
theorem dX4_test_38 : decode cX4_test 38 = .ok (.invokevirtual 89, 3) := by decide +kernel
theorem dX4_test_41 : decode cX4_test 41 = .ok (.ireturn, 1) := by decide +kernel
theorem dX4_level_0 : decode cX4_level 0 = .ok (.aload_n 0, 1) := by decide +kernel
theorem dX4_level_1 : decode cX4_level 1 = .ok (.iload_n 1, 1) := by decide +kernel
theorem dX4_level_2 : decode cX4_level 2 = .ok (.invokevirtual 48, 3) := by decide +kernel
theorem dX4_level_5 : decode cX4_level 5 = .ok (.astore 4, 2) := by decide +kernel
theorem dX4_level_7 : decode cX4_level 7 = .ok (.iload_n 2, 1) := by decide +kernel
theorem dX4_level_8 : decode cX4_level 8 = .ok (.invokestatic 55, 3) := by decide +kernel
theorem dX4_level_11 : decode cX4_level 11 = .ok (.iload_n 3, 1) := by decide +kernel
theorem dX4_level_12 : decode cX4_level 12 = .ok (.tableswitch 95 0 5 #[40, 48, 56, 64, 72, 80], 40) := by decide +kernel
theorem dX4_level_52 : decode cX4_level 52 = .ok (.aload 4, 2) := by decide +kernel
theorem dX4_level_54 : decode cX4_level 54 = .ok (.getfield 93, 3) := by decide +kernel
theorem dX4_level_57 : decode cX4_level 57 = .ok (.iload_n 2, 1) := by decide +kernel
theorem dX4_level_58 : decode cX4_level 58 = .ok (.iaload, 1) := by decide +kernel
theorem dX4_level_59 : decode cX4_level 59 = .ok (.ireturn, 1) := by decide +kernel
theorem dX4_level_60 : decode cX4_level 60 = .ok (.aload 4, 2) := by decide +kernel
theorem dX4_level_62 : decode cX4_level 62 = .ok (.getfield 96, 3) := by decide +kernel
theorem dX4_level_65 : decode cX4_level 65 = .ok (.iload_n 2, 1) := by decide +kernel
theorem dX4_level_66 : decode cX4_level 66 = .ok (.iaload, 1) := by decide +kernel
theorem dX4_level_67 : decode cX4_level 67 = .ok (.ireturn, 1) := by decide +kernel
theorem dX4_level_68 : decode cX4_level 68 = .ok (.aload 4, 2) := by decide +kernel
theorem dX4_level_70 : decode cX4_level 70 = .ok (.getfield 65, 3) := by decide +kernel
theorem dX4_level_73 : decode cX4_level 73 = .ok (.iload_n 2, 1) := by decide +kernel
theorem dX4_level_74 : decode cX4_level 74 = .ok (.iaload, 1) := by decide +kernel
theorem dX4_level_75 : decode cX4_level 75 = .ok (.ireturn, 1) := by decide +kernel
theorem dX4_level_76 : decode cX4_level 76 = .ok (.aload 4, 2) := by decide +kernel
theorem dX4_level_78 : decode cX4_level 78 = .ok (.getfield 99, 3) := by decide +kernel
theorem dX4_level_81 : decode cX4_level 81 = .ok (.iload_n 2, 1) := by decide +kernel
theorem dX4_level_82 : decode cX4_level 82 = .ok (.iaload, 1) := by decide +kernel
theorem dX4_level_83 : decode cX4_level 83 = .ok (.ireturn, 1) := by decide +kernel
theorem dX4_level_84 : decode cX4_level 84 = .ok (.aload 4, 2) := by decide +kernel
theorem dX4_level_86 : decode cX4_level 86 = .ok (.getfield 102, 3) := by decide +kernel
theorem dX4_level_89 : decode cX4_level 89 = .ok (.iload_n 2, 1) := by decide +kernel
theorem dX4_level_90 : decode cX4_level 90 = .ok (.iaload, 1) := by decide +kernel
theorem dX4_level_91 : decode cX4_level 91 = .ok (.ireturn, 1) := by decide +kernel
theorem dX4_level_92 : decode cX4_level 92 = .ok (.aload 4, 2) := by decide +kernel
theorem dX4_level_94 : decode cX4_level 94 = .ok (.iload_n 2, 1) := by decide +kernel
theorem dX4_level_95 : decode cX4_level 95 = .ok (.invokevirtual 105, 3) := by decide +kernel
theorem dX4_level_98 : decode cX4_level 98 = .ok (.ifCond .eq 7, 3) := by decide +kernel
theorem dX4_level_101 : decode cX4_level 101 = .ok (.iconst 1, 1) := by decide +kernel
theorem dX4_level_102 : decode cX4_level 102 = .ok (.goto 4, 3) := by decide +kernel
theorem dX4_level_105 : decode cX4_level 105 = .ok (.iconst 0, 1) := by decide +kernel
theorem dX4_level_106 : decode cX4_level 106 = .ok (.ireturn, 1) := by decide +kernel
theorem dX4_level_107 : decode cX4_level 107 = .ok (.new 108, 3) := by decide +kernel
theorem dX4_level_110 : decode cX4_level 110 = .ok (.dup, 1) := by decide +kernel
theorem dX4_level_111 : decode cX4_level 111 = .ok (.ldc 110, 2) := by decide +kernel
theorem dX4_level_113 : decode cX4_level 113 = .ok (.invokespecial 112, 3) := by decide +kernel
theorem dX4_level_116 : decode cX4_level 116 = .ok (.athrow, 1) := by decide +kernel
theorem dX4_gift_0 : decode cX4_gift 0 = .ok (.aload_n 0, 1) := by decide +kernel
theorem dX4_gift_1 : decode cX4_gift 1 = .ok (.iload_n 1, 1) := by decide +kernel
theorem dX4_gift_2 : decode cX4_gift 2 = .ok (.iload_n 2, 1) := by decide +kernel
theorem dX4_gift_3 : decode cX4_gift 3 = .ok (.invokevirtual 75, 3) := by decide +kernel
theorem dX4_gift_6 : decode cX4_gift 6 = .ok (.aload_n 0, 1) := by decide +kernel
theorem dX4_gift_7 : decode cX4_gift 7 = .ok (.iload_n 1, 1) := by decide +kernel
theorem dX4_gift_8 : decode cX4_gift 8 = .ok (.invokevirtual 48, 3) := by decide +kernel
theorem dX4_gift_11 : decode cX4_gift 11 = .ok (.aload_n 0, 1) := by decide +kernel
theorem dX4_gift_12 : decode cX4_gift 12 = .ok (.iload_n 2, 1) := by decide +kernel
theorem dX4_gift_13 : decode cX4_gift 13 = .ok (.invokevirtual 48, 3) := by decide +kernel
theorem dX4_gift_16 : decode cX4_gift 16 = .ok (.invokevirtual 113, 3) := by decide +kernel
theorem dX4_gift_19 : decode cX4_gift 19 = .ok (.ireturn, 1) := by decide +kernel
theorem dX4_meet_0 : decode cX4_meet 0 = .ok (.aload_n 0, 1) := by decide +kernel
theorem dX4_meet_1 : decode cX4_meet 1 = .ok (.iload_n 1, 1) := by decide +kernel
theorem dX4_meet_2 : decode cX4_meet 2 = .ok (.iload_n 2, 1) := by decide +kernel
theorem dX4_meet_3 : decode cX4_meet 3 = .ok (.invokevirtual 75, 3) := by decide +kernel
theorem dX4_meet_6 : decode cX4_meet 6 = .ok (.aload_n 0, 1) := by decide +kernel
theorem dX4_meet_7 : decode cX4_meet 7 = .ok (.iload_n 1, 1) := by decide +kernel
theorem dX4_meet_8 : decode cX4_meet 8 = .ok (.iload_n 2, 1) := by decide +kernel
theorem dX4_meet_9 : decode cX4_meet 9 = .ok (.invokevirtual 117, 3) := by decide +kernel
theorem dX4_meet_12 : decode cX4_meet 12 = .ok (.invokestatic 121, 3) := by decide +kernel
theorem dX4_meet_15 : decode cX4_meet 15 = .ok (.ireturn, 1) := by decide +kernel
theorem dX4_ring_0 : decode cX4_ring 0 = .ok (.aload_n 0, 1) := by decide +kernel
theorem dX4_ring_1 : decode cX4_ring 1 = .ok (.iload_n 1, 1) := by decide +kernel
theorem dX4_ring_2 : decode cX4_ring 2 = .ok (.invokevirtual 48, 3) := by decide +kernel
theorem dX4_ring_5 : decode cX4_ring 5 = .ok (.pop, 1) := by decide +kernel
theorem dX4_ring_6 : decode cX4_ring 6 = .ok (.aload_n 0, 1) := by decide +kernel
theorem dX4_ring_7 : decode cX4_ring 7 = .ok (.iload_n 2, 1) := by decide +kernel
theorem dX4_ring_8 : decode cX4_ring 8 = .ok (.invokevirtual 48, 3) := by decide +kernel
theorem dX4_ring_11 : decode cX4_ring 11 = .ok (.pop, 1) := by decide +kernel
theorem dX4_ring_12 : decode cX4_ring 12 = .ok (.iload_n 3, 1) := by decide +kernel
theorem dX4_ring_13 : decode cX4_ring 13 = .ok (.iconst (-1), 1) := by decide +kernel
theorem dX4_ring_14 : decode cX4_ring 14 = .ok (.if_icmp .eq 9, 3) := by decide +kernel
theorem dX4_ring_17 : decode cX4_ring 17 = .ok (.aload_n 0, 1) := by decide +kernel
theorem dX4_ring_18 : decode cX4_ring 18 = .ok (.iload_n 3, 1) := by decide +kernel
theorem dX4_ring_19 : decode cX4_ring 19 = .ok (.invokevirtual 48, 3) := by decide +kernel
theorem dX4_ring_22 : decode cX4_ring 22 = .ok (.pop, 1) := by decide +kernel
theorem dX4_ring_23 : decode cX4_ring 23 = .ok (.iload_n 3, 1) := by decide +kernel
theorem dX4_ring_24 : decode cX4_ring 24 = .ok (.iconst (-1), 1) := by decide +kernel
theorem dX4_ring_25 : decode cX4_ring 25 = .ok (.if_icmp .ne 7, 3) := by decide +kernel
theorem dX4_ring_28 : decode cX4_ring 28 = .ok (.iconst 1, 1) := by decide +kernel
theorem dX4_ring_29 : decode cX4_ring 29 = .ok (.goto 4, 3) := by decide +kernel
theorem dX4_ring_32 : decode cX4_ring 32 = .ok (.iconst 3, 1) := by decide +kernel
theorem dX4_ring_33 : decode cX4_ring 33 = .ok (.istore 5, 2) := by decide +kernel
theorem dX4_ring_35 : decode cX4_ring 35 = .ok (.iload 4, 2) := by decide +kernel
theorem dX4_ring_37 : decode cX4_ring 37 = .ok (.ifCond .lt 10, 3) := by decide +kernel
theorem dX4_ring_40 : decode cX4_ring 40 = .ok (.iload 4, 2) := by decide +kernel
theorem dX4_ring_42 : decode cX4_ring 42 = .ok (.iload 5, 2) := by decide +kernel
theorem dX4_ring_44 : decode cX4_ring 44 = .ok (.if_icmp .lt 13, 3) := by decide +kernel
theorem dX4_ring_47 : decode cX4_ring 47 = .ok (.new 108, 3) := by decide +kernel
theorem dX4_ring_50 : decode cX4_ring 50 = .ok (.dup, 1) := by decide +kernel
theorem dX4_ring_51 : decode cX4_ring 51 = .ok (.ldc 124, 2) := by decide +kernel
theorem dX4_ring_53 : decode cX4_ring 53 = .ok (.invokespecial 112, 3) := by decide +kernel
theorem dX4_ring_56 : decode cX4_ring 56 = .ok (.athrow, 1) := by decide +kernel
theorem dX4_ring_57 : decode cX4_ring 57 = .ok (.aload_n 0, 1) := by decide +kernel
theorem dX4_ring_58 : decode cX4_ring 58 = .ok (.invokevirtual 126, 3) := by decide +kernel
theorem dX4_ring_61 : decode cX4_ring 61 = .ok (.aload_n 0, 1) := by decide +kernel
theorem dX4_ring_62 : decode cX4_ring 62 = .ok (.getfield 18, 3) := by decide +kernel
theorem dX4_ring_65 : decode cX4_ring 65 = .ok (.iload_n 1, 1) := by decide +kernel
theorem dX4_ring_66 : decode cX4_ring 66 = .ok (.iload_n 2, 1) := by decide +kernel
theorem dX4_ring_67 : decode cX4_ring 67 = .ok (.iload_n 3, 1) := by decide +kernel
theorem dX4_ring_68 : decode cX4_ring 68 = .ok (.invokevirtual 129, 3) := by decide +kernel
theorem dX4_ring_71 : decode cX4_ring 71 = .ok (.istore 6, 2) := by decide +kernel
theorem dX4_ring_73 : decode cX4_ring 73 = .ok (.iload 6, 2) := by decide +kernel
theorem dX4_ring_75 : decode cX4_ring 75 = .ok (.iconst (-1), 1) := by decide +kernel
theorem dX4_ring_76 : decode cX4_ring 76 = .ok (.if_icmp .ne 7, 3) := by decide +kernel
theorem dX4_ring_79 : decode cX4_ring 79 = .ok (.iconst (-1), 1) := by decide +kernel
theorem dX4_ring_80 : decode cX4_ring 80 = .ok (.goto 10, 3) := by decide +kernel
theorem dX4_ring_83 : decode cX4_ring 83 = .ok (.iload 6, 2) := by decide +kernel
theorem dX4_ring_85 : decode cX4_ring 85 = .ok (.iload 4, 2) := by decide +kernel
theorem dX4_ring_87 : decode cX4_ring 87 = .ok (.invokestatic 133, 3) := by decide +kernel
theorem dX4_ring_90 : decode cX4_ring 90 = .ok (.ireturn, 1) := by decide +kernel
theorem dX4_week_0 : decode cX4_week 0 = .ok (.aload_n 0, 1) := by decide +kernel
theorem dX4_week_1 : decode cX4_week 1 = .ok (.invokevirtual 126, 3) := by decide +kernel
theorem dX4_week_4 : decode cX4_week 4 = .ok (.aload_n 0, 1) := by decide +kernel
theorem dX4_week_5 : decode cX4_week 5 = .ok (.getfield 25, 3) := by decide +kernel
theorem dX4_week_8 : decode cX4_week 8 = .ok (.aload_n 0, 1) := by decide +kernel
theorem dX4_week_9 : decode cX4_week 9 = .ok (.getfield 40, 3) := by decide +kernel
theorem dX4_week_12 : decode cX4_week 12 = .ok (.invokevirtual 136, 3) := by decide +kernel
theorem dX4_week_15 : decode cX4_week 15 = .ok (.iconst 0, 1) := by decide +kernel
theorem dX4_week_16 : decode cX4_week 16 = .ok (.istore_n 1, 1) := by decide +kernel
theorem dX4_week_17 : decode cX4_week 17 = .ok (.iload_n 1, 1) := by decide +kernel
theorem dX4_week_18 : decode cX4_week 18 = .ok (.aload_n 0, 1) := by decide +kernel
theorem dX4_week_19 : decode cX4_week 19 = .ok (.getfield 40, 3) := by decide +kernel
theorem dX4_week_22 : decode cX4_week 22 = .ok (.if_icmp .ge 27, 3) := by decide +kernel
theorem dX4_week_25 : decode cX4_week 25 = .ok (.aload_n 0, 1) := by decide +kernel
theorem dX4_week_26 : decode cX4_week 26 = .ok (.getfield 25, 3) := by decide +kernel
theorem dX4_week_29 : decode cX4_week 29 = .ok (.iload_n 1, 1) := by decide +kernel
theorem dX4_week_30 : decode cX4_week 30 = .ok (.iconst 1, 1) := by decide +kernel
theorem dX4_week_31 : decode cX4_week 31 = .ok (.aload_n 0, 1) := by decide +kernel
theorem dX4_week_32 : decode cX4_week 32 = .ok (.iload_n 1, 1) := by decide +kernel
theorem dX4_week_33 : decode cX4_week 33 = .ok (.invokevirtual 48, 3) := by decide +kernel
theorem dX4_week_36 : decode cX4_week 36 = .ok (.getfield 139, 3) := by decide +kernel
theorem dX4_week_39 : decode cX4_week 39 = .ok (.iadd, 1) := by decide +kernel
theorem dX4_week_40 : decode cX4_week 40 = .ok (.invokevirtual 142, 3) := by decide +kernel
theorem dX4_week_43 : decode cX4_week 43 = .ok (.iinc 1 1, 3) := by decide +kernel
theorem dX4_week_46 : decode cX4_week 46 = .ok (.goto (-29), 3) := by decide +kernel
theorem dX4_week_49 : decode cX4_week 49 = .ok (.aload_n 0, 1) := by decide +kernel
theorem dX4_week_50 : decode cX4_week 50 = .ok (.getfield 25, 3) := by decide +kernel
theorem dX4_week_53 : decode cX4_week 53 = .ok (.aload_n 0, 1) := by decide +kernel
theorem dX4_week_54 : decode cX4_week 54 = .ok (.getfield 18, 3) := by decide +kernel
theorem dX4_week_57 : decode cX4_week 57 = .ok (.invokevirtual 145, 3) := by decide +kernel
theorem dX4_week_60 : decode cX4_week 60 = .ok (.aload_n 0, 1) := by decide +kernel
theorem dX4_week_61 : decode cX4_week 61 = .ok (.getfield 25, 3) := by decide +kernel
theorem dX4_week_64 : decode cX4_week 64 = .ok (.invokevirtual 149, 3) := by decide +kernel
theorem dX4_week_67 : decode cX4_week 67 = .ok (.iconst 1, 1) := by decide +kernel
theorem dX4_week_68 : decode cX4_week 68 = .ok (.aload_n 0, 1) := by decide +kernel
theorem dX4_week_69 : decode cX4_week 69 = .ok (.getfield 40, 3) := by decide +kernel
theorem dX4_week_72 : decode cX4_week 72 = .ok (.ishl, 1) := by decide +kernel
theorem dX4_week_73 : decode cX4_week 73 = .ok (.iconst 1, 1) := by decide +kernel
theorem dX4_week_74 : decode cX4_week 74 = .ok (.isub, 1) := by decide +kernel
theorem dX4_week_75 : decode cX4_week 75 = .ok (.istore_n 1, 1) := by decide +kernel
theorem dX4_week_76 : decode cX4_week 76 = .ok (.aload_n 0, 1) := by decide +kernel
theorem dX4_week_77 : decode cX4_week 77 = .ok (.iload_n 1, 1) := by decide +kernel
theorem dX4_week_78 : decode cX4_week 78 = .ok (.invokevirtual 152, 3) := by decide +kernel
theorem dX4_week_81 : decode cX4_week 81 = .ok (.istore_n 2, 1) := by decide +kernel
theorem dX4_week_82 : decode cX4_week 82 = .ok (.aload_n 0, 1) := by decide +kernel
theorem dX4_week_83 : decode cX4_week 83 = .ok (.iload_n 2, 1) := by decide +kernel
theorem dX4_week_84 : decode cX4_week 84 = .ok (.invokevirtual 155, 3) := by decide +kernel
theorem dX4_week_87 : decode cX4_week 87 = .ok (.aload_n 0, 1) := by decide +kernel
theorem dX4_week_88 : decode cX4_week 88 = .ok (.dup, 1) := by decide +kernel
theorem dX4_week_89 : decode cX4_week 89 = .ok (.getfield 158, 3) := by decide +kernel
theorem dX4_week_92 : decode cX4_week 92 = .ok (.bipush 7, 2) := by decide +kernel
theorem dX4_week_94 : decode cX4_week 94 = .ok (.iadd, 1) := by decide +kernel
theorem dX4_week_95 : decode cX4_week 95 = .ok (.putfield 158, 3) := by decide +kernel
theorem dX4_week_98 : decode cX4_week 98 = .ok (.aload_n 0, 1) := by decide +kernel
theorem dX4_week_99 : decode cX4_week 99 = .ok (.dup, 1) := by decide +kernel
theorem dX4_week_100 : decode cX4_week 100 = .ok (.getfield 161, 3) := by decide +kernel
theorem dX4_week_103 : decode cX4_week 103 = .ok (.iconst 1, 1) := by decide +kernel
theorem dX4_week_104 : decode cX4_week 104 = .ok (.iadd, 1) := by decide +kernel
theorem dX4_week_105 : decode cX4_week 105 = .ok (.putfield 161, 3) := by decide +kernel
theorem dX4_week_108 : decode cX4_week 108 = .ok (.iload_n 2, 1) := by decide +kernel
theorem dX4_week_109 : decode cX4_week 109 = .ok (.invokestatic 164, 3) := by decide +kernel
theorem dX4_week_112 : decode cX4_week 112 = .ok (.istore_n 3, 1) := by decide +kernel
theorem dX4_week_113 : decode cX4_week 113 = .ok (.aload_n 0, 1) := by decide +kernel
theorem dX4_week_114 : decode cX4_week 114 = .ok (.dup, 1) := by decide +kernel
theorem dX4_week_115 : decode cX4_week 115 = .ok (.getfield 169, 3) := by decide +kernel
theorem dX4_week_118 : decode cX4_week 118 = .ok (.iload_n 3, 1) := by decide +kernel
theorem dX4_week_119 : decode cX4_week 119 = .ok (.iadd, 1) := by decide +kernel
theorem dX4_week_120 : decode cX4_week 120 = .ok (.putfield 169, 3) := by decide +kernel
theorem dX4_week_123 : decode cX4_week 123 = .ok (.iload_n 3, 1) := by decide +kernel
theorem dX4_week_124 : decode cX4_week 124 = .ok (.ireturn, 1) := by decide +kernel
theorem dX4_rings_0 : decode cX4_rings 0 = .ok (.aload_n 0, 1) := by decide +kernel
theorem dX4_rings_1 : decode cX4_rings 1 = .ok (.getfield 172, 3) := by decide +kernel
theorem dX4_rings_4 : decode cX4_rings 4 = .ok (.ireturn, 1) := by decide +kernel
theorem dX4_ringOf_0 : decode cX4_ringOf 0 = .ok (.iload_n 1, 1) := by decide +kernel
theorem dX4_ringOf_1 : decode cX4_ringOf 1 = .ok (.ifCond .lt 11, 3) := by decide +kernel
theorem dX4_ringOf_4 : decode cX4_ringOf 4 = .ok (.iload_n 1, 1) := by decide +kernel
theorem dX4_ringOf_5 : decode cX4_ringOf 5 = .ok (.aload_n 0, 1) := by decide +kernel
theorem dX4_ringOf_6 : decode cX4_ringOf 6 = .ok (.getfield 172, 3) := by decide +kernel
theorem dX4_ringOf_9 : decode cX4_ringOf 9 = .ok (.if_icmp .lt 13, 3) := by decide +kernel
theorem dX4_ringOf_12 : decode cX4_ringOf 12 = .ok (.new 108, 3) := by decide +kernel
theorem dX4_ringOf_15 : decode cX4_ringOf 15 = .ok (.dup, 1) := by decide +kernel
theorem dX4_ringOf_16 : decode cX4_ringOf 16 = .ok (.ldc 175, 2) := by decide +kernel
theorem dX4_ringOf_18 : decode cX4_ringOf 18 = .ok (.invokespecial 112, 3) := by decide +kernel
theorem dX4_ringOf_21 : decode cX4_ringOf 21 = .ok (.athrow, 1) := by decide +kernel
theorem dX4_ringOf_22 : decode cX4_ringOf 22 = .ok (.iload_n 2, 1) := by decide +kernel
theorem dX4_ringOf_23 : decode cX4_ringOf 23 = .ok (.ifCond .lt 9, 3) := by decide +kernel
theorem dX4_ringOf_26 : decode cX4_ringOf 26 = .ok (.iload_n 2, 1) := by decide +kernel
theorem dX4_ringOf_27 : decode cX4_ringOf 27 = .ok (.bipush 6, 2) := by decide +kernel
theorem dX4_ringOf_29 : decode cX4_ringOf 29 = .ok (.if_icmp .lt 13, 3) := by decide +kernel
theorem dX4_ringOf_32 : decode cX4_ringOf 32 = .ok (.new 108, 3) := by decide +kernel
theorem dX4_ringOf_35 : decode cX4_ringOf 35 = .ok (.dup, 1) := by decide +kernel
theorem dX4_ringOf_36 : decode cX4_ringOf 36 = .ok (.ldc 177, 2) := by decide +kernel
theorem dX4_ringOf_38 : decode cX4_ringOf 38 = .ok (.invokespecial 112, 3) := by decide +kernel
theorem dX4_ringOf_41 : decode cX4_ringOf 41 = .ok (.athrow, 1) := by decide +kernel
theorem dX4_ringOf_42 : decode cX4_ringOf 42 = .ok (.aload_n 0, 1) := by decide +kernel
theorem dX4_ringOf_43 : decode cX4_ringOf 43 = .ok (.getfield 36, 3) := by decide +kernel
theorem dX4_ringOf_46 : decode cX4_ringOf 46 = .ok (.iload_n 1, 1) := by decide +kernel
theorem dX4_ringOf_47 : decode cX4_ringOf 47 = .ok (.bipush 6, 2) := by decide +kernel
theorem dX4_ringOf_49 : decode cX4_ringOf 49 = .ok (.imul, 1) := by decide +kernel
theorem dX4_ringOf_50 : decode cX4_ringOf 50 = .ok (.iload_n 2, 1) := by decide +kernel
theorem dX4_ringOf_51 : decode cX4_ringOf 51 = .ok (.iadd, 1) := by decide +kernel
theorem dX4_ringOf_52 : decode cX4_ringOf 52 = .ok (.iaload, 1) := by decide +kernel
theorem dX4_ringOf_53 : decode cX4_ringOf 53 = .ok (.ireturn, 1) := by decide +kernel
theorem dX4_missed_0 : decode cX4_missed 0 = .ok (.aload_n 0, 1) := by decide +kernel
theorem dX4_missed_1 : decode cX4_missed 1 = .ok (.iload_n 1, 1) := by decide +kernel
theorem dX4_missed_2 : decode cX4_missed 2 = .ok (.invokevirtual 48, 3) := by decide +kernel
theorem dX4_missed_5 : decode cX4_missed 5 = .ok (.astore_n 2, 1) := by decide +kernel
theorem dX4_missed_6 : decode cX4_missed 6 = .ok (.aload_n 2, 1) := by decide +kernel
theorem dX4_missed_7 : decode cX4_missed 7 = .ok (.getfield 179, 3) := by decide +kernel
theorem dX4_missed_10 : decode cX4_missed 10 = .ok (.ifCond .eq 10, 3) := by decide +kernel
theorem dX4_missed_13 : decode cX4_missed 13 = .ok (.aload_n 2, 1) := by decide +kernel
theorem dX4_missed_14 : decode cX4_missed 14 = .ok (.getfield 182, 3) := by decide +kernel
theorem dX4_missed_17 : decode cX4_missed 17 = .ok (.ifCond .eq 5, 3) := by decide +kernel
theorem dX4_missed_20 : decode cX4_missed 20 = .ok (.iconst 0, 1) := by decide +kernel
theorem dX4_missed_21 : decode cX4_missed 21 = .ok (.ireturn, 1) := by decide +kernel
theorem dX4_missed_22 : decode cX4_missed 22 = .ok (.aload_n 2, 1) := by decide +kernel
theorem dX4_missed_23 : decode cX4_missed 23 = .ok (.iconst 1, 1) := by decide +kernel
theorem dX4_missed_24 : decode cX4_missed 24 = .ok (.putfield 182, 3) := by decide +kernel
theorem dX4_missed_27 : decode cX4_missed 27 = .ok (.iconst 0, 1) := by decide +kernel
theorem dX4_missed_28 : decode cX4_missed 28 = .ok (.istore_n 3, 1) := by decide +kernel
theorem dX4_missed_29 : decode cX4_missed 29 = .ok (.iload_n 3, 1) := by decide +kernel
theorem dX4_missed_30 : decode cX4_missed 30 = .ok (.aload_n 0, 1) := by decide +kernel
theorem dX4_missed_31 : decode cX4_missed 31 = .ok (.getfield 40, 3) := by decide +kernel
theorem dX4_missed_34 : decode cX4_missed 34 = .ok (.if_icmp .ge 29, 3) := by decide +kernel
theorem dX4_missed_37 : decode cX4_missed 37 = .ok (.aload_n 2, 1) := by decide +kernel
theorem dX4_missed_38 : decode cX4_missed 38 = .ok (.getfield 179, 3) := by decide +kernel
theorem dX4_missed_41 : decode cX4_missed 41 = .ok (.iload_n 3, 1) := by decide +kernel
theorem dX4_missed_42 : decode cX4_missed 42 = .ok (.ishr, 1) := by decide +kernel
theorem dX4_missed_43 : decode cX4_missed 43 = .ok (.iconst 1, 1) := by decide +kernel
theorem dX4_missed_44 : decode cX4_missed 44 = .ok (.iand, 1) := by decide +kernel
theorem dX4_missed_45 : decode cX4_missed 45 = .ok (.ifCond .eq 12, 3) := by decide +kernel
theorem dX4_missed_48 : decode cX4_missed 48 = .ok (.aload_n 0, 1) := by decide +kernel
theorem dX4_missed_49 : decode cX4_missed 49 = .ok (.iload_n 3, 1) := by decide +kernel
theorem dX4_missed_50 : decode cX4_missed 50 = .ok (.invokevirtual 48, 3) := by decide +kernel
theorem dX4_missed_53 : decode cX4_missed 53 = .ok (.iconst 3, 1) := by decide +kernel
theorem dX4_missed_54 : decode cX4_missed 54 = .ok (.invokevirtual 186, 3) := by decide +kernel
theorem dX4_missed_57 : decode cX4_missed 57 = .ok (.iinc 3 1, 3) := by decide +kernel
theorem dX4_missed_60 : decode cX4_missed 60 = .ok (.goto (-31), 3) := by decide +kernel
theorem dX4_missed_63 : decode cX4_missed 63 = .ok (.iconst 1, 1) := by decide +kernel
theorem dX4_missed_64 : decode cX4_missed 64 = .ok (.ireturn, 1) := by decide +kernel
theorem dX4_waited_0 : decode cX4_waited 0 = .ok (.aload_n 0, 1) := by decide +kernel
theorem dX4_waited_1 : decode cX4_waited 1 = .ok (.iload_n 1, 1) := by decide +kernel
theorem dX4_waited_2 : decode cX4_waited 2 = .ok (.invokevirtual 48, 3) := by decide +kernel
theorem dX4_waited_5 : decode cX4_waited 5 = .ok (.getfield 139, 3) := by decide +kernel
theorem dX4_waited_8 : decode cX4_waited 8 = .ok (.ireturn, 1) := by decide +kernel
theorem dX4_days_0 : decode cX4_days 0 = .ok (.iload_n 1, 1) := by decide +kernel
theorem dX4_days_1 : decode cX4_days 1 = .ok (.ifCond .lt 10, 3) := by decide +kernel
theorem dX4_days_4 : decode cX4_days 4 = .ok (.iload_n 1, 1) := by decide +kernel
theorem dX4_days_5 : decode cX4_days 5 = .ok (.sipush 1000, 3) := by decide +kernel
theorem dX4_days_8 : decode cX4_days 8 = .ok (.if_icmp .le 13, 3) := by decide +kernel
theorem dX4_days_11 : decode cX4_days 11 = .ok (.new 58, 3) := by decide +kernel
theorem dX4_days_14 : decode cX4_days 14 = .ok (.dup, 1) := by decide +kernel
theorem dX4_days_15 : decode cX4_days 15 = .ok (.ldc 189, 2) := by decide +kernel
theorem dX4_days_17 : decode cX4_days 17 = .ok (.invokespecial 62, 3) := by decide +kernel
theorem dX4_days_20 : decode cX4_days 20 = .ok (.athrow, 1) := by decide +kernel
theorem dX4_days_21 : decode cX4_days 21 = .ok (.aload_n 0, 1) := by decide +kernel
theorem dX4_days_22 : decode cX4_days 22 = .ok (.dup, 1) := by decide +kernel
theorem dX4_days_23 : decode cX4_days 23 = .ok (.getfield 158, 3) := by decide +kernel
theorem dX4_days_26 : decode cX4_days 26 = .ok (.iload_n 1, 1) := by decide +kernel
theorem dX4_days_27 : decode cX4_days 27 = .ok (.iadd, 1) := by decide +kernel
theorem dX4_days_28 : decode cX4_days 28 = .ok (.putfield 158, 3) := by decide +kernel
theorem dX4_days_31 : decode cX4_days 31 = .ok (.aload_n 0, 1) := by decide +kernel
theorem dX4_days_32 : decode cX4_days 32 = .ok (.getfield 158, 3) := by decide +kernel
theorem dX4_days_35 : decode cX4_days 35 = .ok (.ireturn, 1) := by decide +kernel
theorem dX4_word_0 : decode cX4_word 0 = .ok (.aload_n 0, 1) := by decide +kernel
theorem dX4_word_1 : decode cX4_word 1 = .ok (.iload_n 1, 1) := by decide +kernel
theorem dX4_word_2 : decode cX4_word 2 = .ok (.invokevirtual 48, 3) := by decide +kernel
theorem dX4_word_5 : decode cX4_word 5 = .ok (.aload_n 0, 1) := by decide +kernel
theorem dX4_word_6 : decode cX4_word 6 = .ok (.getfield 158, 3) := by decide +kernel
theorem dX4_word_9 : decode cX4_word 9 = .ok (.invokevirtual 191, 3) := by decide +kernel
theorem dX4_word_12 : decode cX4_word 12 = .ok (.ireturn, 1) := by decide +kernel
theorem dX4_asked_0 : decode cX4_asked 0 = .ok (.aload_n 0, 1) := by decide +kernel
theorem dX4_asked_1 : decode cX4_asked 1 = .ok (.iload_n 1, 1) := by decide +kernel
theorem dX4_asked_2 : decode cX4_asked 2 = .ok (.invokevirtual 48, 3) := by decide +kernel
theorem dX4_asked_5 : decode cX4_asked 5 = .ok (.astore 4, 2) := by decide +kernel
theorem dX4_asked_7 : decode cX4_asked 7 = .ok (.aload 4, 2) := by decide +kernel
theorem dX4_asked_9 : decode cX4_asked 9 = .ok (.iload_n 2, 1) := by decide +kernel
theorem dX4_asked_10 : decode cX4_asked 10 = .ok (.invokestatic 194, 3) := by decide +kernel
theorem dX4_asked_13 : decode cX4_asked 13 = .ok (.aload 4, 2) := by decide +kernel
theorem dX4_asked_15 : decode cX4_asked 15 = .ok (.iload_n 2, 1) := by decide +kernel
theorem dX4_asked_16 : decode cX4_asked 16 = .ok (.iload_n 3, 1) := by decide +kernel
theorem dX4_asked_17 : decode cX4_asked 17 = .ok (.aload_n 0, 1) := by decide +kernel
theorem dX4_asked_18 : decode cX4_asked 18 = .ok (.getfield 158, 3) := by decide +kernel
theorem dX4_asked_21 : decode cX4_asked 21 = .ok (.invokevirtual 198, 3) := by decide +kernel
theorem dX4_asked_24 : decode cX4_asked 24 = .ok (.ireturn, 1) := by decide +kernel
theorem dX4_wordOf_0 : decode cX4_wordOf 0 = .ok (.aload_n 0, 1) := by decide +kernel
theorem dX4_wordOf_1 : decode cX4_wordOf 1 = .ok (.iload_n 1, 1) := by decide +kernel
theorem dX4_wordOf_2 : decode cX4_wordOf 2 = .ok (.invokevirtual 48, 3) := by decide +kernel
theorem dX4_wordOf_5 : decode cX4_wordOf 5 = .ok (.astore 4, 2) := by decide +kernel
theorem dX4_wordOf_7 : decode cX4_wordOf 7 = .ok (.aload 4, 2) := by decide +kernel
theorem dX4_wordOf_9 : decode cX4_wordOf 9 = .ok (.iload_n 2, 1) := by decide +kernel
theorem dX4_wordOf_10 : decode cX4_wordOf 10 = .ok (.invokestatic 194, 3) := by decide +kernel
theorem dX4_wordOf_13 : decode cX4_wordOf 13 = .ok (.iload_n 3, 1) := by decide +kernel
theorem dX4_wordOf_14 : decode cX4_wordOf 14 = .ok (.lookupswitch 42 #[(0, 26), (1, 34)], 26) := by decide +kernel
theorem dX4_wordOf_40 : decode cX4_wordOf 40 = .ok (.aload 4, 2) := by decide +kernel
theorem dX4_wordOf_42 : decode cX4_wordOf 42 = .ok (.getfield 202, 3) := by decide +kernel
theorem dX4_wordOf_45 : decode cX4_wordOf 45 = .ok (.iload_n 2, 1) := by decide +kernel
theorem dX4_wordOf_46 : decode cX4_wordOf 46 = .ok (.iaload, 1) := by decide +kernel
theorem dX4_wordOf_47 : decode cX4_wordOf 47 = .ok (.ireturn, 1) := by decide +kernel
theorem dX4_wordOf_48 : decode cX4_wordOf 48 = .ok (.aload 4, 2) := by decide +kernel
theorem dX4_wordOf_50 : decode cX4_wordOf 50 = .ok (.getfield 205, 3) := by decide +kernel
theorem dX4_wordOf_53 : decode cX4_wordOf 53 = .ok (.iload_n 2, 1) := by decide +kernel
theorem dX4_wordOf_54 : decode cX4_wordOf 54 = .ok (.iaload, 1) := by decide +kernel
theorem dX4_wordOf_55 : decode cX4_wordOf 55 = .ok (.ireturn, 1) := by decide +kernel
theorem dX4_wordOf_56 : decode cX4_wordOf 56 = .ok (.new 108, 3) := by decide +kernel
theorem dX4_wordOf_59 : decode cX4_wordOf 59 = .ok (.dup, 1) := by decide +kernel
theorem dX4_wordOf_60 : decode cX4_wordOf 60 = .ok (.ldc 208, 2) := by decide +kernel
theorem dX4_wordOf_62 : decode cX4_wordOf 62 = .ok (.invokespecial 112, 3) := by decide +kernel
theorem dX4_wordOf_65 : decode cX4_wordOf 65 = .ok (.athrow, 1) := by decide +kernel
theorem dX4_next_0 : decode cX4_next 0 = .ok (.aload_n 0, 1) := by decide +kernel
theorem dX4_next_1 : decode cX4_next 1 = .ok (.iload_n 1, 1) := by decide +kernel
theorem dX4_next_2 : decode cX4_next 2 = .ok (.invokevirtual 48, 3) := by decide +kernel
theorem dX4_next_5 : decode cX4_next 5 = .ok (.aload_n 0, 1) := by decide +kernel
theorem dX4_next_6 : decode cX4_next 6 = .ok (.getfield 158, 3) := by decide +kernel
theorem dX4_next_9 : decode cX4_next 9 = .ok (.invokevirtual 210, 3) := by decide +kernel
theorem dX4_next_12 : decode cX4_next 12 = .ok (.ireturn, 1) := by decide +kernel
theorem dX4_feed_0 : decode cX4_feed 0 = .ok (.aload_n 0, 1) := by decide +kernel
theorem dX4_feed_1 : decode cX4_feed 1 = .ok (.getfield 32, 3) := by decide +kernel
theorem dX4_feed_4 : decode cX4_feed 4 = .ok (.invokevirtual 213, 3) := by decide +kernel
theorem dX4_feed_7 : decode cX4_feed 7 = .ok (.ifCond .ne 5, 3) := by decide +kernel
theorem dX4_feed_10 : decode cX4_feed 10 = .ok (.iconst (-1), 1) := by decide +kernel
theorem dX4_feed_11 : decode cX4_feed 11 = .ok (.ireturn, 1) := by decide +kernel
theorem dX4_feed_12 : decode cX4_feed 12 = .ok (.aload_n 0, 1) := by decide +kernel
theorem dX4_feed_13 : decode cX4_feed 13 = .ok (.getfield 32, 3) := by decide +kernel
theorem dX4_feed_16 : decode cX4_feed 16 = .ok (.iload_n 1, 1) := by decide +kernel
theorem dX4_feed_17 : decode cX4_feed 17 = .ok (.invokevirtual 217, 3) := by decide +kernel
theorem dX4_feed_20 : decode cX4_feed 20 = .ok (.aload_n 0, 1) := by decide +kernel
theorem dX4_feed_21 : decode cX4_feed 21 = .ok (.getfield 32, 3) := by decide +kernel
theorem dX4_feed_24 : decode cX4_feed 24 = .ok (.iload_n 2, 1) := by decide +kernel
theorem dX4_feed_25 : decode cX4_feed 25 = .ok (.invokevirtual 217, 3) := by decide +kernel
theorem dX4_feed_28 : decode cX4_feed 28 = .ok (.aload_n 0, 1) := by decide +kernel
theorem dX4_feed_29 : decode cX4_feed 29 = .ok (.getfield 32, 3) := by decide +kernel
theorem dX4_feed_32 : decode cX4_feed 32 = .ok (.iload_n 3, 1) := by decide +kernel
theorem dX4_feed_33 : decode cX4_feed 33 = .ok (.invokevirtual 217, 3) := by decide +kernel
theorem dX4_feed_36 : decode cX4_feed 36 = .ok (.aload_n 0, 1) := by decide +kernel
theorem dX4_feed_37 : decode cX4_feed 37 = .ok (.getfield 32, 3) := by decide +kernel
theorem dX4_feed_40 : decode cX4_feed 40 = .ok (.iload 4, 2) := by decide +kernel
theorem dX4_feed_42 : decode cX4_feed 42 = .ok (.invokevirtual 217, 3) := by decide +kernel
theorem dX4_feed_45 : decode cX4_feed 45 = .ok (.aload_n 0, 1) := by decide +kernel
theorem dX4_feed_46 : decode cX4_feed 46 = .ok (.getfield 32, 3) := by decide +kernel
theorem dX4_feed_49 : decode cX4_feed 49 = .ok (.iload 5, 2) := by decide +kernel
theorem dX4_feed_51 : decode cX4_feed 51 = .ok (.invokevirtual 217, 3) := by decide +kernel
theorem dX4_feed_54 : decode cX4_feed 54 = .ok (.aload_n 0, 1) := by decide +kernel
theorem dX4_feed_55 : decode cX4_feed 55 = .ok (.getfield 32, 3) := by decide +kernel
theorem dX4_feed_58 : decode cX4_feed 58 = .ok (.getfield 220, 3) := by decide +kernel
theorem dX4_feed_61 : decode cX4_feed 61 = .ok (.ireturn, 1) := by decide +kernel
theorem dX4_correct_0 : decode cX4_correct 0 = .ok (.iload_n 1, 1) := by decide +kernel
theorem dX4_correct_1 : decode cX4_correct 1 = .ok (.ifCond .lt 19, 3) := by decide +kernel
theorem dX4_correct_4 : decode cX4_correct 4 = .ok (.iload_n 1, 1) := by decide +kernel
theorem dX4_correct_5 : decode cX4_correct 5 = .ok (.bipush 40, 2) := by decide +kernel
theorem dX4_correct_7 : decode cX4_correct 7 = .ok (.if_icmp .gt 13, 3) := by decide +kernel
theorem dX4_correct_10 : decode cX4_correct 10 = .ok (.iload_n 2, 1) := by decide +kernel
theorem dX4_correct_11 : decode cX4_correct 11 = .ok (.ifCond .lt 9, 3) := by decide +kernel
theorem dX4_correct_14 : decode cX4_correct 14 = .ok (.iload_n 2, 1) := by decide +kernel
theorem dX4_correct_15 : decode cX4_correct 15 = .ok (.bipush 40, 2) := by decide +kernel
theorem dX4_correct_17 : decode cX4_correct 17 = .ok (.if_icmp .le 13, 3) := by decide +kernel
theorem dX4_correct_20 : decode cX4_correct 20 = .ok (.new 58, 3) := by decide +kernel
theorem dX4_correct_23 : decode cX4_correct 23 = .ok (.dup, 1) := by decide +kernel
theorem dX4_correct_24 : decode cX4_correct 24 = .ok (.ldc 223, 2) := by decide +kernel
theorem dX4_correct_26 : decode cX4_correct 26 = .ok (.invokespecial 62, 3) := by decide +kernel
theorem dX4_correct_29 : decode cX4_correct 29 = .ok (.athrow, 1) := by decide +kernel
theorem dX4_correct_30 : decode cX4_correct 30 = .ok (.iload_n 1, 1) := by decide +kernel
theorem dX4_correct_31 : decode cX4_correct 31 = .ok (.iload_n 2, 1) := by decide +kernel
theorem dX4_correct_32 : decode cX4_correct 32 = .ok (.iadd, 1) := by decide +kernel
theorem dX4_correct_33 : decode cX4_correct 33 = .ok (.aload_n 0, 1) := by decide +kernel
theorem dX4_correct_34 : decode cX4_correct 34 = .ok (.getfield 32, 3) := by decide +kernel
theorem dX4_correct_37 : decode cX4_correct 37 = .ok (.getfield 220, 3) := by decide +kernel
theorem dX4_correct_40 : decode cX4_correct 40 = .ok (.if_icmp .le 13, 3) := by decide +kernel
theorem dX4_correct_43 : decode cX4_correct 43 = .ok (.new 58, 3) := by decide +kernel
theorem dX4_correct_46 : decode cX4_correct 46 = .ok (.dup, 1) := by decide +kernel
theorem dX4_correct_47 : decode cX4_correct 47 = .ok (.ldc 225, 2) := by decide +kernel
theorem dX4_correct_49 : decode cX4_correct 49 = .ok (.invokespecial 62, 3) := by decide +kernel
theorem dX4_correct_52 : decode cX4_correct 52 = .ok (.athrow, 1) := by decide +kernel
theorem dX4_correct_53 : decode cX4_correct 53 = .ok (.aload_n 0, 1) := by decide +kernel
theorem dX4_correct_54 : decode cX4_correct 54 = .ok (.getfield 32, 3) := by decide +kernel
theorem dX4_correct_57 : decode cX4_correct 57 = .ok (.iload_n 1, 1) := by decide +kernel
theorem dX4_correct_58 : decode cX4_correct 58 = .ok (.iload_n 2, 1) := by decide +kernel
theorem dX4_correct_59 : decode cX4_correct 59 = .ok (.invokevirtual 227, 3) := by decide +kernel
theorem dX4_correct_62 : decode cX4_correct 62 = .ok (.ireturn, 1) := by decide +kernel
theorem dX4_mark_0 : decode cX4_mark 0 = .ok (.iload_n 1, 1) := by decide +kernel
theorem dX4_mark_1 : decode cX4_mark 1 = .ok (.iconst (-1), 1) := by decide +kernel
theorem dX4_mark_2 : decode cX4_mark 2 = .ok (.if_icmp .ne 11, 3) := by decide +kernel
theorem dX4_mark_5 : decode cX4_mark 5 = .ok (.aload_n 0, 1) := by decide +kernel
theorem dX4_mark_6 : decode cX4_mark 6 = .ok (.getfield 32, 3) := by decide +kernel
theorem dX4_mark_9 : decode cX4_mark 9 = .ok (.getfield 230, 3) := by decide +kernel
theorem dX4_mark_12 : decode cX4_mark 12 = .ok (.ireturn, 1) := by decide +kernel
theorem dX4_mark_13 : decode cX4_mark 13 = .ok (.iload_n 1, 1) := by decide +kernel
theorem dX4_mark_14 : decode cX4_mark 14 = .ok (.ifCond .lt 14, 3) := by decide +kernel
theorem dX4_mark_17 : decode cX4_mark 17 = .ok (.iload_n 1, 1) := by decide +kernel
theorem dX4_mark_18 : decode cX4_mark 18 = .ok (.aload_n 0, 1) := by decide +kernel
theorem dX4_mark_19 : decode cX4_mark 19 = .ok (.getfield 32, 3) := by decide +kernel
theorem dX4_mark_22 : decode cX4_mark 22 = .ok (.getfield 230, 3) := by decide +kernel
theorem dX4_mark_25 : decode cX4_mark 25 = .ok (.if_icmp .lt 13, 3) := by decide +kernel
theorem dX4_mark_28 : decode cX4_mark 28 = .ok (.new 108, 3) := by decide +kernel
theorem dX4_mark_31 : decode cX4_mark 31 = .ok (.dup, 1) := by decide +kernel
theorem dX4_mark_32 : decode cX4_mark 32 = .ok (.ldc 233, 2) := by decide +kernel
theorem dX4_mark_34 : decode cX4_mark 34 = .ok (.invokespecial 112, 3) := by decide +kernel
theorem dX4_mark_37 : decode cX4_mark 37 = .ok (.athrow, 1) := by decide +kernel
theorem dX4_mark_38 : decode cX4_mark 38 = .ok (.aload_n 0, 1) := by decide +kernel
theorem dX4_mark_39 : decode cX4_mark 39 = .ok (.getfield 32, 3) := by decide +kernel
theorem dX4_mark_42 : decode cX4_mark 42 = .ok (.getfield 235, 3) := by decide +kernel
theorem dX4_mark_45 : decode cX4_mark 45 = .ok (.iload_n 1, 1) := by decide +kernel
theorem dX4_mark_46 : decode cX4_mark 46 = .ok (.iaload, 1) := by decide +kernel
theorem dX4_mark_47 : decode cX4_mark 47 = .ok (.ireturn, 1) := by decide +kernel
theorem dX4_marks_0 : decode cX4_marks 0 = .ok (.iload_n 1, 1) := by decide +kernel
theorem dX4_marks_1 : decode cX4_marks 1 = .ok (.ifCond .lt 8, 3) := by decide +kernel
theorem dX4_marks_4 : decode cX4_marks 4 = .ok (.iload_n 1, 1) := by decide +kernel
theorem dX4_marks_5 : decode cX4_marks 5 = .ok (.iconst 5, 1) := by decide +kernel
theorem dX4_marks_6 : decode cX4_marks 6 = .ok (.if_icmp .lt 13, 3) := by decide +kernel
theorem dX4_marks_9 : decode cX4_marks 9 = .ok (.new 108, 3) := by decide +kernel
theorem dX4_marks_12 : decode cX4_marks 12 = .ok (.dup, 1) := by decide +kernel
theorem dX4_marks_13 : decode cX4_marks 13 = .ok (.ldc 238, 2) := by decide +kernel
theorem dX4_marks_15 : decode cX4_marks 15 = .ok (.invokespecial 112, 3) := by decide +kernel
theorem dX4_marks_18 : decode cX4_marks 18 = .ok (.athrow, 1) := by decide +kernel
theorem dX4_marks_19 : decode cX4_marks 19 = .ok (.aload_n 0, 1) := by decide +kernel
theorem dX4_marks_20 : decode cX4_marks 20 = .ok (.getfield 32, 3) := by decide +kernel
theorem dX4_marks_23 : decode cX4_marks 23 = .ok (.getfield 240, 3) := by decide +kernel
theorem dX4_marks_26 : decode cX4_marks 26 = .ok (.iload_n 1, 1) := by decide +kernel
theorem dX4_marks_27 : decode cX4_marks 27 = .ok (.iaload, 1) := by decide +kernel
theorem dX4_marks_28 : decode cX4_marks 28 = .ok (.ireturn, 1) := by decide +kernel
theorem dX4_count_0 : decode cX4_count 0 = .ok (.iload_n 1, 1) := by decide +kernel
theorem dX4_count_1 : decode cX4_count 1 = .ok (.tableswitch 63 0 4 #[35, 40, 45, 50, 55], 35) := by decide +kernel
theorem dX4_count_36 : decode cX4_count 36 = .ok (.aload_n 0, 1) := by decide +kernel
theorem dX4_count_37 : decode cX4_count 37 = .ok (.getfield 40, 3) := by decide +kernel
theorem dX4_count_40 : decode cX4_count 40 = .ok (.ireturn, 1) := by decide +kernel
theorem dX4_count_41 : decode cX4_count 41 = .ok (.aload_n 0, 1) := by decide +kernel
theorem dX4_count_42 : decode cX4_count 42 = .ok (.getfield 158, 3) := by decide +kernel
theorem dX4_count_45 : decode cX4_count 45 = .ok (.ireturn, 1) := by decide +kernel
theorem dX4_count_46 : decode cX4_count 46 = .ok (.aload_n 0, 1) := by decide +kernel
theorem dX4_count_47 : decode cX4_count 47 = .ok (.getfield 161, 3) := by decide +kernel
theorem dX4_count_50 : decode cX4_count 50 = .ok (.ireturn, 1) := by decide +kernel
theorem dX4_count_51 : decode cX4_count 51 = .ok (.aload_n 0, 1) := by decide +kernel
theorem dX4_count_52 : decode cX4_count 52 = .ok (.getfield 169, 3) := by decide +kernel
theorem dX4_count_55 : decode cX4_count 55 = .ok (.ireturn, 1) := by decide +kernel
theorem dX4_count_56 : decode cX4_count 56 = .ok (.aload_n 0, 1) := by decide +kernel
theorem dX4_count_57 : decode cX4_count 57 = .ok (.getfield 32, 3) := by decide +kernel
theorem dX4_count_60 : decode cX4_count 60 = .ok (.getfield 220, 3) := by decide +kernel
theorem dX4_count_63 : decode cX4_count 63 = .ok (.ireturn, 1) := by decide +kernel
theorem dX4_count_64 : decode cX4_count 64 = .ok (.new 108, 3) := by decide +kernel
theorem dX4_count_67 : decode cX4_count 67 = .ok (.dup, 1) := by decide +kernel
theorem dX4_count_68 : decode cX4_count 68 = .ok (.ldc 243, 2) := by decide +kernel
theorem dX4_count_70 : decode cX4_count 70 = .ok (.invokespecial 112, 3) := by decide +kernel
theorem dX4_count_73 : decode cX4_count 73 = .ok (.athrow, 1) := by decide +kernel
theorem dX4_find_0 : decode cX4_find 0 = .ok (.iload_n 1, 1) := by decide +kernel
theorem dX4_find_1 : decode cX4_find 1 = .ok (.ifCond .lt 11, 3) := by decide +kernel
theorem dX4_find_4 : decode cX4_find 4 = .ok (.iload_n 1, 1) := by decide +kernel
theorem dX4_find_5 : decode cX4_find 5 = .ok (.aload_n 0, 1) := by decide +kernel
theorem dX4_find_6 : decode cX4_find 6 = .ok (.getfield 40, 3) := by decide +kernel
theorem dX4_find_9 : decode cX4_find 9 = .ok (.if_icmp .lt 13, 3) := by decide +kernel
theorem dX4_find_12 : decode cX4_find 12 = .ok (.new 108, 3) := by decide +kernel
theorem dX4_find_15 : decode cX4_find 15 = .ok (.dup, 1) := by decide +kernel
theorem dX4_find_16 : decode cX4_find 16 = .ok (.ldc 245, 2) := by decide +kernel
theorem dX4_find_18 : decode cX4_find 18 = .ok (.invokespecial 112, 3) := by decide +kernel
theorem dX4_find_21 : decode cX4_find 21 = .ok (.athrow, 1) := by decide +kernel
theorem dX4_find_22 : decode cX4_find 22 = .ok (.aload_n 0, 1) := by decide +kernel
theorem dX4_find_23 : decode cX4_find 23 = .ok (.getfield 11, 3) := by decide +kernel
theorem dX4_find_26 : decode cX4_find 26 = .ok (.iload_n 1, 1) := by decide +kernel
theorem dX4_find_27 : decode cX4_find 27 = .ok (.aaload, 1) := by decide +kernel
theorem dX4_find_28 : decode cX4_find 28 = .ok (.astore_n 2, 1) := by decide +kernel
theorem dX4_find_29 : decode cX4_find 29 = .ok (.aload_n 2, 1) := by decide +kernel
theorem dX4_find_30 : decode cX4_find 30 = .ok (.ifnonnull 13, 3) := by decide +kernel
theorem dX4_find_33 : decode cX4_find 33 = .ok (.new 108, 3) := by decide +kernel
theorem dX4_find_36 : decode cX4_find 36 = .ok (.dup, 1) := by decide +kernel
theorem dX4_find_37 : decode cX4_find 37 = .ok (.ldc 245, 2) := by decide +kernel
theorem dX4_find_39 : decode cX4_find 39 = .ok (.invokespecial 112, 3) := by decide +kernel
theorem dX4_find_42 : decode cX4_find 42 = .ok (.athrow, 1) := by decide +kernel
theorem dX4_find_43 : decode cX4_find 43 = .ok (.aload_n 2, 1) := by decide +kernel
theorem dX4_find_44 : decode cX4_find 44 = .ok (.areturn, 1) := by decide +kernel
theorem dX4_requireTwo_0 : decode cX4_requireTwo 0 = .ok (.aload_n 0, 1) := by decide +kernel
theorem dX4_requireTwo_1 : decode cX4_requireTwo 1 = .ok (.iload_n 1, 1) := by decide +kernel
theorem dX4_requireTwo_2 : decode cX4_requireTwo 2 = .ok (.invokevirtual 48, 3) := by decide +kernel
theorem dX4_requireTwo_5 : decode cX4_requireTwo 5 = .ok (.pop, 1) := by decide +kernel
theorem dX4_requireTwo_6 : decode cX4_requireTwo 6 = .ok (.aload_n 0, 1) := by decide +kernel
theorem dX4_requireTwo_7 : decode cX4_requireTwo 7 = .ok (.iload_n 2, 1) := by decide +kernel
theorem dX4_requireTwo_8 : decode cX4_requireTwo 8 = .ok (.invokevirtual 48, 3) := by decide +kernel
theorem dX4_requireTwo_11 : decode cX4_requireTwo 11 = .ok (.pop, 1) := by decide +kernel
theorem dX4_requireTwo_12 : decode cX4_requireTwo 12 = .ok (.iload_n 1, 1) := by decide +kernel
theorem dX4_requireTwo_13 : decode cX4_requireTwo 13 = .ok (.iload_n 2, 1) := by decide +kernel
theorem dX4_requireTwo_14 : decode cX4_requireTwo 14 = .ok (.if_icmp .ne 13, 3) := by decide +kernel
theorem dX4_requireTwo_17 : decode cX4_requireTwo 17 = .ok (.new 108, 3) := by decide +kernel
theorem dX4_requireTwo_20 : decode cX4_requireTwo 20 = .ok (.dup, 1) := by decide +kernel
theorem dX4_requireTwo_21 : decode cX4_requireTwo 21 = .ok (.ldc 247, 2) := by decide +kernel
theorem dX4_requireTwo_23 : decode cX4_requireTwo 23 = .ok (.invokespecial 112, 3) := by decide +kernel
theorem dX4_requireTwo_26 : decode cX4_requireTwo 26 = .ok (.athrow, 1) := by decide +kernel
theorem dX4_requireTwo_27 : decode cX4_requireTwo 27 = .ok (.return_, 1) := by decide +kernel
theorem dX4_requireTongue_0 : decode cX4_requireTongue 0 = .ok (.iload_n 0, 1) := by decide +kernel
theorem dX4_requireTongue_1 : decode cX4_requireTongue 1 = .ok (.ifCond .lt 9, 3) := by decide +kernel
theorem dX4_requireTongue_4 : decode cX4_requireTongue 4 = .ok (.iload_n 0, 1) := by decide +kernel
theorem dX4_requireTongue_5 : decode cX4_requireTongue 5 = .ok (.bipush 8, 2) := by decide +kernel
theorem dX4_requireTongue_7 : decode cX4_requireTongue 7 = .ok (.if_icmp .lt 13, 3) := by decide +kernel
theorem dX4_requireTongue_10 : decode cX4_requireTongue 10 = .ok (.new 108, 3) := by decide +kernel
theorem dX4_requireTongue_13 : decode cX4_requireTongue 13 = .ok (.dup, 1) := by decide +kernel
theorem dX4_requireTongue_14 : decode cX4_requireTongue 14 = .ok (.ldc 249, 2) := by decide +kernel
theorem dX4_requireTongue_16 : decode cX4_requireTongue 16 = .ok (.invokespecial 112, 3) := by decide +kernel
theorem dX4_requireTongue_19 : decode cX4_requireTongue 19 = .ok (.athrow, 1) := by decide +kernel
theorem dX4_requireTongue_20 : decode cX4_requireTongue 20 = .ok (.return_, 1) := by decide +kernel
theorem dX4_requireWord_0 : decode cX4_requireWord 0 = .ok (.iload_n 1, 1) := by decide +kernel
theorem dX4_requireWord_1 : decode cX4_requireWord 1 = .ok (.ifCond .lt 11, 3) := by decide +kernel
theorem dX4_requireWord_4 : decode cX4_requireWord 4 = .ok (.iload_n 1, 1) := by decide +kernel
theorem dX4_requireWord_5 : decode cX4_requireWord 5 = .ok (.aload_n 0, 1) := by decide +kernel
theorem dX4_requireWord_6 : decode cX4_requireWord 6 = .ok (.getfield 251, 3) := by decide +kernel
theorem dX4_requireWord_9 : decode cX4_requireWord 9 = .ok (.if_icmp .lt 13, 3) := by decide +kernel
theorem dX4_requireWord_12 : decode cX4_requireWord 12 = .ok (.new 108, 3) := by decide +kernel
theorem dX4_requireWord_15 : decode cX4_requireWord 15 = .ok (.dup, 1) := by decide +kernel
theorem dX4_requireWord_16 : decode cX4_requireWord 16 = .ok (.ldc 254, 2) := by decide +kernel
theorem dX4_requireWord_18 : decode cX4_requireWord 18 = .ok (.invokespecial 112, 3) := by decide +kernel
theorem dX4_requireWord_21 : decode cX4_requireWord 21 = .ok (.athrow, 1) := by decide +kernel
theorem dX4_requireWord_22 : decode cX4_requireWord 22 = .ok (.return_, 1) := by decide +kernel
theorem dX4_commonHours_0 : decode cX4_commonHours 0 = .ok (.aload_n 0, 1) := by decide +kernel
theorem dX4_commonHours_1 : decode cX4_commonHours 1 = .ok (.iload_n 1, 1) := by decide +kernel
theorem dX4_commonHours_2 : decode cX4_commonHours 2 = .ok (.invokevirtual 48, 3) := by decide +kernel
theorem dX4_commonHours_5 : decode cX4_commonHours 5 = .ok (.astore_n 3, 1) := by decide +kernel
theorem dX4_commonHours_6 : decode cX4_commonHours 6 = .ok (.aload_n 3, 1) := by decide +kernel
theorem dX4_commonHours_7 : decode cX4_commonHours 7 = .ok (.iload_n 2, 1) := by decide +kernel
theorem dX4_commonHours_8 : decode cX4_commonHours 8 = .ok (.invokevirtual 79, 3) := by decide +kernel
theorem dX4_commonHours_11 : decode cX4_commonHours 11 = .ok (.ifCond .eq 7, 3) := by decide +kernel
theorem dX4_commonHours_14 : decode cX4_commonHours 14 = .ok (.iconst 0, 1) := by decide +kernel
theorem dX4_commonHours_15 : decode cX4_commonHours 15 = .ok (.goto 16, 3) := by decide +kernel
theorem dX4_commonHours_18 : decode cX4_commonHours 18 = .ok (.aload_n 3, 1) := by decide +kernel
theorem dX4_commonHours_19 : decode cX4_commonHours 19 = .ok (.getfield 52, 3) := by decide +kernel
theorem dX4_commonHours_22 : decode cX4_commonHours 22 = .ok (.aload_n 0, 1) := by decide +kernel
theorem dX4_commonHours_23 : decode cX4_commonHours 23 = .ok (.iload_n 2, 1) := by decide +kernel
theorem dX4_commonHours_24 : decode cX4_commonHours 24 = .ok (.invokevirtual 48, 3) := by decide +kernel
theorem dX4_commonHours_27 : decode cX4_commonHours 27 = .ok (.getfield 52, 3) := by decide +kernel
theorem dX4_commonHours_30 : decode cX4_commonHours 30 = .ok (.iand, 1) := by decide +kernel
theorem dX4_commonHours_31 : decode cX4_commonHours 31 = .ok (.ireturn, 1) := by decide +kernel
theorem dX4_lowestBit_0 : decode cX4_lowestBit 0 = .ok (.iload_n 0, 1) := by decide +kernel
theorem dX4_lowestBit_1 : decode cX4_lowestBit 1 = .ok (.ifCond .ne 7, 3) := by decide +kernel
theorem dX4_lowestBit_4 : decode cX4_lowestBit 4 = .ok (.iconst (-1), 1) := by decide +kernel
theorem dX4_lowestBit_5 : decode cX4_lowestBit 5 = .ok (.goto 7, 3) := by decide +kernel
theorem dX4_lowestBit_8 : decode cX4_lowestBit 8 = .ok (.iload_n 0, 1) := by decide +kernel
theorem dX4_lowestBit_9 : decode cX4_lowestBit 9 = .ok (.invokestatic 256, 3) := by decide +kernel
theorem dX4_lowestBit_12 : decode cX4_lowestBit 12 = .ok (.ireturn, 1) := by decide +kernel
theorem dX4_hourAt_0 : decode cX4_hourAt 0 = .ok (.iload_n 0, 1) := by decide +kernel
theorem dX4_hourAt_1 : decode cX4_hourAt 1 = .ok (.iconst 5, 1) := by decide +kernel
theorem dX4_hourAt_2 : decode cX4_hourAt 2 = .ok (.iload_n 1, 1) := by decide +kernel
theorem dX4_hourAt_3 : decode cX4_hourAt 3 = .ok (.imul, 1) := by decide +kernel
theorem dX4_hourAt_4 : decode cX4_hourAt 4 = .ok (.ishr, 1) := by decide +kernel
theorem dX4_hourAt_5 : decode cX4_hourAt 5 = .ok (.bipush 31, 2) := by decide +kernel
theorem dX4_hourAt_7 : decode cX4_hourAt 7 = .ok (.iand, 1) := by decide +kernel
theorem dX4_hourAt_8 : decode cX4_hourAt 8 = .ok (.ireturn, 1) := by decide +kernel
theorem dX4_lookAtTies_0 : decode cX4_lookAtTies 0 = .ok (.iconst 0, 1) := by decide +kernel
theorem dX4_lookAtTies_1 : decode cX4_lookAtTies 1 = .ok (.istore_n 1, 1) := by decide +kernel
theorem dX4_lookAtTies_2 : decode cX4_lookAtTies 2 = .ok (.iload_n 1, 1) := by decide +kernel
theorem dX4_lookAtTies_3 : decode cX4_lookAtTies 3 = .ok (.aload_n 0, 1) := by decide +kernel
theorem dX4_lookAtTies_4 : decode cX4_lookAtTies 4 = .ok (.getfield 40, 3) := by decide +kernel
theorem dX4_lookAtTies_7 : decode cX4_lookAtTies 7 = .ok (.if_icmp .ge 69, 3) := by decide +kernel
theorem dX4_lookAtTies_10 : decode cX4_lookAtTies 10 = .ok (.aload_n 0, 1) := by decide +kernel
theorem dX4_lookAtTies_11 : decode cX4_lookAtTies 11 = .ok (.iload_n 1, 1) := by decide +kernel
theorem dX4_lookAtTies_12 : decode cX4_lookAtTies 12 = .ok (.invokevirtual 48, 3) := by decide +kernel
theorem dX4_lookAtTies_15 : decode cX4_lookAtTies 15 = .ok (.astore_n 2, 1) := by decide +kernel
theorem dX4_lookAtTies_16 : decode cX4_lookAtTies 16 = .ok (.iconst 0, 1) := by decide +kernel
theorem dX4_lookAtTies_17 : decode cX4_lookAtTies 17 = .ok (.istore_n 3, 1) := by decide +kernel
theorem dX4_lookAtTies_18 : decode cX4_lookAtTies 18 = .ok (.iload_n 3, 1) := by decide +kernel
theorem dX4_lookAtTies_19 : decode cX4_lookAtTies 19 = .ok (.aload_n 0, 1) := by decide +kernel
theorem dX4_lookAtTies_20 : decode cX4_lookAtTies 20 = .ok (.getfield 40, 3) := by decide +kernel
theorem dX4_lookAtTies_23 : decode cX4_lookAtTies 23 = .ok (.if_icmp .ge 47, 3) := by decide +kernel
theorem dX4_lookAtTies_26 : decode cX4_lookAtTies 26 = .ok (.iload_n 1, 1) := by decide +kernel
theorem dX4_lookAtTies_27 : decode cX4_lookAtTies 27 = .ok (.iload_n 3, 1) := by decide +kernel
theorem dX4_lookAtTies_28 : decode cX4_lookAtTies 28 = .ok (.if_icmp .eq 36, 3) := by decide +kernel
theorem dX4_lookAtTies_31 : decode cX4_lookAtTies 31 = .ok (.aload_n 0, 1) := by decide +kernel
theorem dX4_lookAtTies_32 : decode cX4_lookAtTies 32 = .ok (.getfield 18, 3) := by decide +kernel
theorem dX4_lookAtTies_35 : decode cX4_lookAtTies 35 = .ok (.iload_n 1, 1) := by decide +kernel
theorem dX4_lookAtTies_36 : decode cX4_lookAtTies 36 = .ok (.iload_n 3, 1) := by decide +kernel
theorem dX4_lookAtTies_37 : decode cX4_lookAtTies 37 = .ok (.aload_n 2, 1) := by decide +kernel
theorem dX4_lookAtTies_38 : decode cX4_lookAtTies 38 = .ok (.aload_n 0, 1) := by decide +kernel
theorem dX4_lookAtTies_39 : decode cX4_lookAtTies 39 = .ok (.iload_n 3, 1) := by decide +kernel
theorem dX4_lookAtTies_40 : decode cX4_lookAtTies 40 = .ok (.invokevirtual 48, 3) := by decide +kernel
theorem dX4_lookAtTies_43 : decode cX4_lookAtTies 43 = .ok (.invokevirtual 113, 3) := by decide +kernel
theorem dX4_lookAtTies_46 : decode cX4_lookAtTies 46 = .ok (.iconst (-1), 1) := by decide +kernel
theorem dX4_lookAtTies_47 : decode cX4_lookAtTies 47 = .ok (.if_icmp .eq 7, 3) := by decide +kernel
theorem dX4_lookAtTies_50 : decode cX4_lookAtTies 50 = .ok (.iconst 1, 1) := by decide +kernel
theorem dX4_lookAtTies_51 : decode cX4_lookAtTies 51 = .ok (.goto 4, 3) := by decide +kernel
theorem dX4_lookAtTies_54 : decode cX4_lookAtTies 54 = .ok (.iconst 0, 1) := by decide +kernel
theorem dX4_lookAtTies_55 : decode cX4_lookAtTies 55 = .ok (.aload_n 0, 1) := by decide +kernel
theorem dX4_lookAtTies_56 : decode cX4_lookAtTies 56 = .ok (.iload_n 1, 1) := by decide +kernel
theorem dX4_lookAtTies_57 : decode cX4_lookAtTies 57 = .ok (.iload_n 3, 1) := by decide +kernel
theorem dX4_lookAtTies_58 : decode cX4_lookAtTies 58 = .ok (.invokevirtual 117, 3) := by decide +kernel
theorem dX4_lookAtTies_61 : decode cX4_lookAtTies 61 = .ok (.invokevirtual 259, 3) := by decide +kernel
theorem dX4_lookAtTies_64 : decode cX4_lookAtTies 64 = .ok (.iinc 3 1, 3) := by decide +kernel
theorem dX4_lookAtTies_67 : decode cX4_lookAtTies 67 = .ok (.goto (-49), 3) := by decide +kernel
theorem dX4_lookAtTies_70 : decode cX4_lookAtTies 70 = .ok (.iinc 1 1, 3) := by decide +kernel
theorem dX4_lookAtTies_73 : decode cX4_lookAtTies 73 = .ok (.goto (-71), 3) := by decide +kernel
theorem dX4_lookAtTies_76 : decode cX4_lookAtTies 76 = .ok (.return_, 1) := by decide +kernel
theorem dX4_takeRings_0 : decode cX4_takeRings 0 = .ok (.aload_n 0, 1) := by decide +kernel
theorem dX4_takeRings_1 : decode cX4_takeRings 1 = .ok (.iconst 0, 1) := by decide +kernel
theorem dX4_takeRings_2 : decode cX4_takeRings 2 = .ok (.putfield 172, 3) := by decide +kernel
theorem dX4_takeRings_5 : decode cX4_takeRings 5 = .ok (.iload_n 1, 1) := by decide +kernel
theorem dX4_takeRings_6 : decode cX4_takeRings 6 = .ok (.istore_n 2, 1) := by decide +kernel
theorem dX4_takeRings_7 : decode cX4_takeRings 7 = .ok (.iconst 0, 1) := by decide +kernel
theorem dX4_takeRings_8 : decode cX4_takeRings 8 = .ok (.istore_n 3, 1) := by decide +kernel
theorem dX4_takeRings_9 : decode cX4_takeRings 9 = .ok (.iload_n 3, 1) := by decide +kernel
theorem dX4_takeRings_10 : decode cX4_takeRings 10 = .ok (.bipush 14, 2) := by decide +kernel
theorem dX4_takeRings_12 : decode cX4_takeRings 12 = .ok (.if_icmp .ge 59, 3) := by decide +kernel
theorem dX4_takeRings_15 : decode cX4_takeRings 15 = .ok (.iload_n 2, 1) := by decide +kernel
theorem dX4_takeRings_16 : decode cX4_takeRings 16 = .ok (.ifCond .eq 55, 3) := by decide +kernel
theorem dX4_takeRings_19 : decode cX4_takeRings 19 = .ok (.aload_n 0, 1) := by decide +kernel
theorem dX4_takeRings_20 : decode cX4_takeRings 20 = .ok (.getfield 25, 3) := by decide +kernel
theorem dX4_takeRings_23 : decode cX4_takeRings 23 = .ok (.iload_n 2, 1) := by decide +kernel
theorem dX4_takeRings_24 : decode cX4_takeRings 24 = .ok (.invokevirtual 263, 3) := by decide +kernel
theorem dX4_takeRings_27 : decode cX4_takeRings 27 = .ok (.istore 4, 2) := by decide +kernel
theorem dX4_takeRings_29 : decode cX4_takeRings 29 = .ok (.iload 4, 2) := by decide +kernel
theorem dX4_takeRings_31 : decode cX4_takeRings 31 = .ok (.iconst (-1), 1) := by decide +kernel
theorem dX4_takeRings_32 : decode cX4_takeRings 32 = .ok (.if_icmp .ne 12, 3) := by decide +kernel
theorem dX4_takeRings_35 : decode cX4_takeRings 35 = .ok (.iload_n 2, 1) := by decide +kernel
theorem dX4_takeRings_36 : decode cX4_takeRings 36 = .ok (.iload_n 2, 1) := by decide +kernel
theorem dX4_takeRings_37 : decode cX4_takeRings 37 = .ok (.iconst 1, 1) := by decide +kernel
theorem dX4_takeRings_38 : decode cX4_takeRings 38 = .ok (.isub, 1) := by decide +kernel
theorem dX4_takeRings_39 : decode cX4_takeRings 39 = .ok (.iand, 1) := by decide +kernel
theorem dX4_takeRings_40 : decode cX4_takeRings 40 = .ok (.istore_n 2, 1) := by decide +kernel
theorem dX4_takeRings_41 : decode cX4_takeRings 41 = .ok (.goto 24, 3) := by decide +kernel
theorem dX4_takeRings_44 : decode cX4_takeRings 44 = .ok (.aload_n 0, 1) := by decide +kernel
theorem dX4_takeRings_45 : decode cX4_takeRings 45 = .ok (.iload 4, 2) := by decide +kernel
theorem dX4_takeRings_47 : decode cX4_takeRings 47 = .ok (.invokevirtual 266, 3) := by decide +kernel
theorem dX4_takeRings_50 : decode cX4_takeRings 50 = .ok (.iload_n 2, 1) := by decide +kernel
theorem dX4_takeRings_51 : decode cX4_takeRings 51 = .ok (.aload_n 0, 1) := by decide +kernel
theorem dX4_takeRings_52 : decode cX4_takeRings 52 = .ok (.getfield 25, 3) := by decide +kernel
theorem dX4_takeRings_55 : decode cX4_takeRings 55 = .ok (.getfield 269, 3) := by decide +kernel
theorem dX4_takeRings_58 : decode cX4_takeRings 58 = .ok (.iload 4, 2) := by decide +kernel
theorem dX4_takeRings_60 : decode cX4_takeRings 60 = .ok (.iaload, 1) := by decide +kernel
theorem dX4_takeRings_61 : decode cX4_takeRings 61 = .ok (.iconst (-1), 1) := by decide +kernel
theorem dX4_takeRings_62 : decode cX4_takeRings 62 = .ok (.ixor, 1) := by decide +kernel
theorem dX4_takeRings_63 : decode cX4_takeRings 63 = .ok (.iand, 1) := by decide +kernel
theorem dX4_takeRings_64 : decode cX4_takeRings 64 = .ok (.istore_n 2, 1) := by decide +kernel
theorem dX4_takeRings_65 : decode cX4_takeRings 65 = .ok (.iinc 3 1, 3) := by decide +kernel
theorem dX4_takeRings_68 : decode cX4_takeRings 68 = .ok (.goto (-59), 3) := by decide +kernel
theorem dX4_takeRings_71 : decode cX4_takeRings 71 = .ok (.iconst 0, 1) := by decide +kernel
theorem dX4_takeRings_72 : decode cX4_takeRings 72 = .ok (.istore_n 3, 1) := by decide +kernel
theorem dX4_takeRings_73 : decode cX4_takeRings 73 = .ok (.iconst 0, 1) := by decide +kernel
theorem dX4_takeRings_74 : decode cX4_takeRings 74 = .ok (.istore 4, 2) := by decide +kernel
theorem dX4_takeRings_76 : decode cX4_takeRings 76 = .ok (.iload 4, 2) := by decide +kernel
theorem dX4_takeRings_78 : decode cX4_takeRings 78 = .ok (.aload_n 0, 1) := by decide +kernel
theorem dX4_takeRings_79 : decode cX4_takeRings 79 = .ok (.getfield 172, 3) := by decide +kernel
theorem dX4_takeRings_82 : decode cX4_takeRings 82 = .ok (.if_icmp .ge 18, 3) := by decide +kernel
theorem dX4_takeRings_85 : decode cX4_takeRings 85 = .ok (.iload_n 3, 1) := by decide +kernel
theorem dX4_takeRings_86 : decode cX4_takeRings 86 = .ok (.aload_n 0, 1) := by decide +kernel
theorem dX4_takeRings_87 : decode cX4_takeRings 87 = .ok (.iload 4, 2) := by decide +kernel
theorem dX4_takeRings_89 : decode cX4_takeRings 89 = .ok (.invokevirtual 272, 3) := by decide +kernel
theorem dX4_takeRings_92 : decode cX4_takeRings 92 = .ok (.ior, 1) := by decide +kernel
theorem dX4_takeRings_93 : decode cX4_takeRings 93 = .ok (.istore_n 3, 1) := by decide +kernel
theorem dX4_takeRings_94 : decode cX4_takeRings 94 = .ok (.iinc 4 1, 3) := by decide +kernel
theorem dX4_takeRings_97 : decode cX4_takeRings 97 = .ok (.goto (-21), 3) := by decide +kernel
theorem dX4_takeRings_100 : decode cX4_takeRings 100 = .ok (.iload_n 3, 1) := by decide +kernel
theorem dX4_takeRings_101 : decode cX4_takeRings 101 = .ok (.ireturn, 1) := by decide +kernel
theorem dX4_takeRing_0 : decode cX4_takeRing 0 = .ok (.aload_n 0, 1) := by decide +kernel
theorem dX4_takeRing_1 : decode cX4_takeRing 1 = .ok (.getfield 172, 3) := by decide +kernel
theorem dX4_takeRing_4 : decode cX4_takeRing 4 = .ok (.bipush 7, 2) := by decide +kernel
theorem dX4_takeRing_6 : decode cX4_takeRing 6 = .ok (.if_icmp .lt 4, 3) := by decide +kernel
theorem dX4_takeRing_9 : decode cX4_takeRing 9 = .ok (.return_, 1) := by decide +kernel
theorem dX4_takeRing_10 : decode cX4_takeRing 10 = .ok (.aload_n 0, 1) := by decide +kernel
theorem dX4_takeRing_11 : decode cX4_takeRing 11 = .ok (.getfield 25, 3) := by decide +kernel
theorem dX4_takeRing_14 : decode cX4_takeRing 14 = .ok (.getfield 269, 3) := by decide +kernel
theorem dX4_takeRing_17 : decode cX4_takeRing 17 = .ok (.iload_n 1, 1) := by decide +kernel
theorem dX4_takeRing_18 : decode cX4_takeRing 18 = .ok (.iaload, 1) := by decide +kernel
theorem dX4_takeRing_19 : decode cX4_takeRing 19 = .ok (.invokestatic 121, 3) := by decide +kernel
theorem dX4_takeRing_22 : decode cX4_takeRing 22 = .ok (.istore_n 2, 1) := by decide +kernel
theorem dX4_takeRing_23 : decode cX4_takeRing 23 = .ok (.aload_n 0, 1) := by decide +kernel
theorem dX4_takeRing_24 : decode cX4_takeRing 24 = .ok (.getfield 25, 3) := by decide +kernel
theorem dX4_takeRing_27 : decode cX4_takeRing 27 = .ok (.getfield 275, 3) := by decide +kernel
theorem dX4_takeRing_30 : decode cX4_takeRing 30 = .ok (.iload_n 1, 1) := by decide +kernel
theorem dX4_takeRing_31 : decode cX4_takeRing 31 = .ok (.iaload, 1) := by decide +kernel
theorem dX4_takeRing_32 : decode cX4_takeRing 32 = .ok (.istore_n 3, 1) := by decide +kernel
theorem dX4_takeRing_33 : decode cX4_takeRing 33 = .ok (.aload_n 0, 1) := by decide +kernel
theorem dX4_takeRing_34 : decode cX4_takeRing 34 = .ok (.getfield 25, 3) := by decide +kernel
theorem dX4_takeRing_37 : decode cX4_takeRing 37 = .ok (.getfield 278, 3) := by decide +kernel
theorem dX4_takeRing_40 : decode cX4_takeRing 40 = .ok (.iload_n 1, 1) := by decide +kernel
theorem dX4_takeRing_41 : decode cX4_takeRing 41 = .ok (.iaload, 1) := by decide +kernel
theorem dX4_takeRing_42 : decode cX4_takeRing 42 = .ok (.istore 4, 2) := by decide +kernel
theorem dX4_takeRing_44 : decode cX4_takeRing 44 = .ok (.aload_n 0, 1) := by decide +kernel
theorem dX4_takeRing_45 : decode cX4_takeRing 45 = .ok (.getfield 18, 3) := by decide +kernel
theorem dX4_takeRing_48 : decode cX4_takeRing 48 = .ok (.iload_n 2, 1) := by decide +kernel
theorem dX4_takeRing_49 : decode cX4_takeRing 49 = .ok (.iload_n 3, 1) := by decide +kernel
theorem dX4_takeRing_50 : decode cX4_takeRing 50 = .ok (.iload 4, 2) := by decide +kernel
theorem dX4_takeRing_52 : decode cX4_takeRing 52 = .ok (.invokevirtual 129, 3) := by decide +kernel
theorem dX4_takeRing_55 : decode cX4_takeRing 55 = .ok (.istore 5, 2) := by decide +kernel
theorem dX4_takeRing_57 : decode cX4_takeRing 57 = .ok (.aload_n 0, 1) := by decide +kernel
theorem dX4_takeRing_58 : decode cX4_takeRing 58 = .ok (.getfield 172, 3) := by decide +kernel
theorem dX4_takeRing_61 : decode cX4_takeRing 61 = .ok (.bipush 6, 2) := by decide +kernel
theorem dX4_takeRing_63 : decode cX4_takeRing 63 = .ok (.imul, 1) := by decide +kernel
theorem dX4_takeRing_64 : decode cX4_takeRing 64 = .ok (.istore 6, 2) := by decide +kernel
theorem dX4_takeRing_66 : decode cX4_takeRing 66 = .ok (.aload_n 0, 1) := by decide +kernel
theorem dX4_takeRing_67 : decode cX4_takeRing 67 = .ok (.getfield 36, 3) := by decide +kernel
theorem dX4_takeRing_70 : decode cX4_takeRing 70 = .ok (.iload 6, 2) := by decide +kernel
theorem dX4_takeRing_72 : decode cX4_takeRing 72 = .ok (.iload_n 2, 1) := by decide +kernel
theorem dX4_takeRing_73 : decode cX4_takeRing 73 = .ok (.iastore, 1) := by decide +kernel
theorem dX4_takeRing_74 : decode cX4_takeRing 74 = .ok (.aload_n 0, 1) := by decide +kernel
theorem dX4_takeRing_75 : decode cX4_takeRing 75 = .ok (.getfield 36, 3) := by decide +kernel
theorem dX4_takeRing_78 : decode cX4_takeRing 78 = .ok (.iload 6, 2) := by decide +kernel
theorem dX4_takeRing_80 : decode cX4_takeRing 80 = .ok (.iconst 1, 1) := by decide +kernel
theorem dX4_takeRing_81 : decode cX4_takeRing 81 = .ok (.iadd, 1) := by decide +kernel
theorem dX4_takeRing_82 : decode cX4_takeRing 82 = .ok (.iload_n 3, 1) := by decide +kernel
theorem dX4_takeRing_83 : decode cX4_takeRing 83 = .ok (.iastore, 1) := by decide +kernel
theorem dX4_takeRing_84 : decode cX4_takeRing 84 = .ok (.aload_n 0, 1) := by decide +kernel
theorem dX4_takeRing_85 : decode cX4_takeRing 85 = .ok (.getfield 36, 3) := by decide +kernel
theorem dX4_takeRing_88 : decode cX4_takeRing 88 = .ok (.iload 6, 2) := by decide +kernel
theorem dX4_takeRing_90 : decode cX4_takeRing 90 = .ok (.iconst 2, 1) := by decide +kernel
theorem dX4_takeRing_91 : decode cX4_takeRing 91 = .ok (.iadd, 1) := by decide +kernel
theorem dX4_takeRing_92 : decode cX4_takeRing 92 = .ok (.iload 4, 2) := by decide +kernel
theorem dX4_takeRing_94 : decode cX4_takeRing 94 = .ok (.iastore, 1) := by decide +kernel
theorem dX4_takeRing_95 : decode cX4_takeRing 95 = .ok (.aload_n 0, 1) := by decide +kernel
theorem dX4_takeRing_96 : decode cX4_takeRing 96 = .ok (.getfield 36, 3) := by decide +kernel
theorem dX4_takeRing_99 : decode cX4_takeRing 99 = .ok (.iload 6, 2) := by decide +kernel
theorem dX4_takeRing_101 : decode cX4_takeRing 101 = .ok (.iconst 3, 1) := by decide +kernel
theorem dX4_takeRing_102 : decode cX4_takeRing 102 = .ok (.iadd, 1) := by decide +kernel
theorem dX4_takeRing_103 : decode cX4_takeRing 103 = .ok (.iload 5, 2) := by decide +kernel
theorem dX4_takeRing_105 : decode cX4_takeRing 105 = .ok (.iconst 0, 1) := by decide +kernel
theorem dX4_takeRing_106 : decode cX4_takeRing 106 = .ok (.invokestatic 133, 3) := by decide +kernel
theorem dX4_takeRing_109 : decode cX4_takeRing 109 = .ok (.iastore, 1) := by decide +kernel
theorem dX4_takeRing_110 : decode cX4_takeRing 110 = .ok (.aload_n 0, 1) := by decide +kernel
theorem dX4_takeRing_111 : decode cX4_takeRing 111 = .ok (.getfield 36, 3) := by decide +kernel
theorem dX4_takeRing_114 : decode cX4_takeRing 114 = .ok (.iload 6, 2) := by decide +kernel
theorem dX4_takeRing_116 : decode cX4_takeRing 116 = .ok (.iconst 4, 1) := by decide +kernel
theorem dX4_takeRing_117 : decode cX4_takeRing 117 = .ok (.iadd, 1) := by decide +kernel
theorem dX4_takeRing_118 : decode cX4_takeRing 118 = .ok (.iload 4, 2) := by decide +kernel
theorem dX4_takeRing_120 : decode cX4_takeRing 120 = .ok (.iconst (-1), 1) := by decide +kernel
theorem dX4_takeRing_121 : decode cX4_takeRing 121 = .ok (.if_icmp .ne 7, 3) := by decide +kernel
theorem dX4_takeRing_124 : decode cX4_takeRing 124 = .ok (.iconst (-1), 1) := by decide +kernel
theorem dX4_takeRing_125 : decode cX4_takeRing 125 = .ok (.goto 9, 3) := by decide +kernel
theorem dX4_takeRing_128 : decode cX4_takeRing 128 = .ok (.iload 5, 2) := by decide +kernel
theorem dX4_takeRing_130 : decode cX4_takeRing 130 = .ok (.iconst 1, 1) := by decide +kernel
theorem dX4_takeRing_131 : decode cX4_takeRing 131 = .ok (.invokestatic 133, 3) := by decide +kernel
theorem dX4_takeRing_134 : decode cX4_takeRing 134 = .ok (.iastore, 1) := by decide +kernel
theorem dX4_takeRing_135 : decode cX4_takeRing 135 = .ok (.aload_n 0, 1) := by decide +kernel
theorem dX4_takeRing_136 : decode cX4_takeRing 136 = .ok (.getfield 36, 3) := by decide +kernel
theorem dX4_takeRing_139 : decode cX4_takeRing 139 = .ok (.iload 6, 2) := by decide +kernel
theorem dX4_takeRing_141 : decode cX4_takeRing 141 = .ok (.iconst 5, 1) := by decide +kernel
theorem dX4_takeRing_142 : decode cX4_takeRing 142 = .ok (.iadd, 1) := by decide +kernel
theorem dX4_takeRing_143 : decode cX4_takeRing 143 = .ok (.iload 4, 2) := by decide +kernel
theorem dX4_takeRing_145 : decode cX4_takeRing 145 = .ok (.iconst (-1), 1) := by decide +kernel
theorem dX4_takeRing_146 : decode cX4_takeRing 146 = .ok (.if_icmp .ne 7, 3) := by decide +kernel
theorem dX4_takeRing_149 : decode cX4_takeRing 149 = .ok (.iconst (-1), 1) := by decide +kernel
theorem dX4_takeRing_150 : decode cX4_takeRing 150 = .ok (.goto 9, 3) := by decide +kernel
theorem dX4_takeRing_153 : decode cX4_takeRing 153 = .ok (.iload 5, 2) := by decide +kernel
theorem dX4_takeRing_155 : decode cX4_takeRing 155 = .ok (.iconst 2, 1) := by decide +kernel
theorem dX4_takeRing_156 : decode cX4_takeRing 156 = .ok (.invokestatic 133, 3) := by decide +kernel
theorem dX4_takeRing_159 : decode cX4_takeRing 159 = .ok (.iastore, 1) := by decide +kernel
theorem dX4_takeRing_160 : decode cX4_takeRing 160 = .ok (.aload_n 0, 1) := by decide +kernel
theorem dX4_takeRing_161 : decode cX4_takeRing 161 = .ok (.dup, 1) := by decide +kernel
theorem dX4_takeRing_162 : decode cX4_takeRing 162 = .ok (.getfield 172, 3) := by decide +kernel
theorem dX4_takeRing_165 : decode cX4_takeRing 165 = .ok (.iconst 1, 1) := by decide +kernel
theorem dX4_takeRing_166 : decode cX4_takeRing 166 = .ok (.iadd, 1) := by decide +kernel
theorem dX4_takeRing_167 : decode cX4_takeRing 167 = .ok (.putfield 172, 3) := by decide +kernel
theorem dX4_takeRing_170 : decode cX4_takeRing 170 = .ok (.return_, 1) := by decide +kernel
theorem dX4_membersOfTaken_0 : decode cX4_membersOfTaken 0 = .ok (.iconst 0, 1) := by decide +kernel
theorem dX4_membersOfTaken_1 : decode cX4_membersOfTaken 1 = .ok (.istore_n 2, 1) := by decide +kernel
theorem dX4_membersOfTaken_2 : decode cX4_membersOfTaken 2 = .ok (.iconst 0, 1) := by decide +kernel
theorem dX4_membersOfTaken_3 : decode cX4_membersOfTaken 3 = .ok (.istore_n 3, 1) := by decide +kernel
theorem dX4_membersOfTaken_4 : decode cX4_membersOfTaken 4 = .ok (.iload_n 3, 1) := by decide +kernel
theorem dX4_membersOfTaken_5 : decode cX4_membersOfTaken 5 = .ok (.iconst 3, 1) := by decide +kernel
theorem dX4_membersOfTaken_6 : decode cX4_membersOfTaken 6 = .ok (.if_icmp .ge 35, 3) := by decide +kernel
theorem dX4_membersOfTaken_9 : decode cX4_membersOfTaken 9 = .ok (.aload_n 0, 1) := by decide +kernel
theorem dX4_membersOfTaken_10 : decode cX4_membersOfTaken 10 = .ok (.getfield 36, 3) := by decide +kernel
theorem dX4_membersOfTaken_13 : decode cX4_membersOfTaken 13 = .ok (.iload_n 1, 1) := by decide +kernel
theorem dX4_membersOfTaken_14 : decode cX4_membersOfTaken 14 = .ok (.bipush 6, 2) := by decide +kernel
theorem dX4_membersOfTaken_16 : decode cX4_membersOfTaken 16 = .ok (.imul, 1) := by decide +kernel
theorem dX4_membersOfTaken_17 : decode cX4_membersOfTaken 17 = .ok (.iload_n 3, 1) := by decide +kernel
theorem dX4_membersOfTaken_18 : decode cX4_membersOfTaken 18 = .ok (.iadd, 1) := by decide +kernel
theorem dX4_membersOfTaken_19 : decode cX4_membersOfTaken 19 = .ok (.iaload, 1) := by decide +kernel
theorem dX4_membersOfTaken_20 : decode cX4_membersOfTaken 20 = .ok (.istore 4, 2) := by decide +kernel
theorem dX4_membersOfTaken_22 : decode cX4_membersOfTaken 22 = .ok (.iload 4, 2) := by decide +kernel
theorem dX4_membersOfTaken_24 : decode cX4_membersOfTaken 24 = .ok (.iconst (-1), 1) := by decide +kernel
theorem dX4_membersOfTaken_25 : decode cX4_membersOfTaken 25 = .ok (.if_icmp .eq 10, 3) := by decide +kernel
theorem dX4_membersOfTaken_28 : decode cX4_membersOfTaken 28 = .ok (.iload_n 2, 1) := by decide +kernel
theorem dX4_membersOfTaken_29 : decode cX4_membersOfTaken 29 = .ok (.iconst 1, 1) := by decide +kernel
theorem dX4_membersOfTaken_30 : decode cX4_membersOfTaken 30 = .ok (.iload 4, 2) := by decide +kernel
theorem dX4_membersOfTaken_32 : decode cX4_membersOfTaken 32 = .ok (.ishl, 1) := by decide +kernel
theorem dX4_membersOfTaken_33 : decode cX4_membersOfTaken 33 = .ok (.ior, 1) := by decide +kernel
theorem dX4_membersOfTaken_34 : decode cX4_membersOfTaken 34 = .ok (.istore_n 2, 1) := by decide +kernel
theorem dX4_membersOfTaken_35 : decode cX4_membersOfTaken 35 = .ok (.iinc 3 1, 3) := by decide +kernel
theorem dX4_membersOfTaken_38 : decode cX4_membersOfTaken 38 = .ok (.goto (-34), 3) := by decide +kernel
theorem dX4_membersOfTaken_41 : decode cX4_membersOfTaken 41 = .ok (.iload_n 2, 1) := by decide +kernel
theorem dX4_membersOfTaken_42 : decode cX4_membersOfTaken 42 = .ok (.ireturn, 1) := by decide +kernel
theorem dX4_noteWeek_0 : decode cX4_noteWeek 0 = .ok (.iconst 0, 1) := by decide +kernel
theorem dX4_noteWeek_1 : decode cX4_noteWeek 1 = .ok (.istore_n 2, 1) := by decide +kernel
theorem dX4_noteWeek_2 : decode cX4_noteWeek 2 = .ok (.iload_n 2, 1) := by decide +kernel
theorem dX4_noteWeek_3 : decode cX4_noteWeek 3 = .ok (.aload_n 0, 1) := by decide +kernel
theorem dX4_noteWeek_4 : decode cX4_noteWeek 4 = .ok (.getfield 40, 3) := by decide +kernel
theorem dX4_noteWeek_7 : decode cX4_noteWeek 7 = .ok (.if_icmp .ge 46, 3) := by decide +kernel
theorem dX4_noteWeek_10 : decode cX4_noteWeek 10 = .ok (.aload_n 0, 1) := by decide +kernel
theorem dX4_noteWeek_11 : decode cX4_noteWeek 11 = .ok (.iload_n 2, 1) := by decide +kernel
theorem dX4_noteWeek_12 : decode cX4_noteWeek 12 = .ok (.invokevirtual 48, 3) := by decide +kernel
theorem dX4_noteWeek_15 : decode cX4_noteWeek 15 = .ok (.astore_n 3, 1) := by decide +kernel
theorem dX4_noteWeek_16 : decode cX4_noteWeek 16 = .ok (.aload_n 3, 1) := by decide +kernel
theorem dX4_noteWeek_17 : decode cX4_noteWeek 17 = .ok (.iconst 0, 1) := by decide +kernel
theorem dX4_noteWeek_18 : decode cX4_noteWeek 18 = .ok (.putfield 179, 3) := by decide +kernel
theorem dX4_noteWeek_21 : decode cX4_noteWeek 21 = .ok (.aload_n 3, 1) := by decide +kernel
theorem dX4_noteWeek_22 : decode cX4_noteWeek 22 = .ok (.iconst 0, 1) := by decide +kernel
theorem dX4_noteWeek_23 : decode cX4_noteWeek 23 = .ok (.putfield 182, 3) := by decide +kernel
theorem dX4_noteWeek_26 : decode cX4_noteWeek 26 = .ok (.iload_n 1, 1) := by decide +kernel
theorem dX4_noteWeek_27 : decode cX4_noteWeek 27 = .ok (.iload_n 2, 1) := by decide +kernel
theorem dX4_noteWeek_28 : decode cX4_noteWeek 28 = .ok (.ishr, 1) := by decide +kernel
theorem dX4_noteWeek_29 : decode cX4_noteWeek 29 = .ok (.iconst 1, 1) := by decide +kernel
theorem dX4_noteWeek_30 : decode cX4_noteWeek 30 = .ok (.iand, 1) := by decide +kernel
theorem dX4_noteWeek_31 : decode cX4_noteWeek 31 = .ok (.ifCond .eq 11, 3) := by decide +kernel
theorem dX4_noteWeek_34 : decode cX4_noteWeek 34 = .ok (.aload_n 3, 1) := by decide +kernel
theorem dX4_noteWeek_35 : decode cX4_noteWeek 35 = .ok (.iconst 0, 1) := by decide +kernel
theorem dX4_noteWeek_36 : decode cX4_noteWeek 36 = .ok (.putfield 139, 3) := by decide +kernel
theorem dX4_noteWeek_39 : decode cX4_noteWeek 39 = .ok (.goto 8, 3) := by decide +kernel
theorem dX4_noteWeek_42 : decode cX4_noteWeek 42 = .ok (.aload_n 3, 1) := by decide +kernel
theorem dX4_noteWeek_43 : decode cX4_noteWeek 43 = .ok (.iconst 1, 1) := by decide +kernel
theorem dX4_noteWeek_44 : decode cX4_noteWeek 44 = .ok (.invokevirtual 186, 3) := by decide +kernel
theorem dX4_noteWeek_47 : decode cX4_noteWeek 47 = .ok (.iinc 2 1, 3) := by decide +kernel
theorem dX4_noteWeek_50 : decode cX4_noteWeek 50 = .ok (.goto (-48), 3) := by decide +kernel
theorem dX4_noteWeek_53 : decode cX4_noteWeek 53 = .ok (.iconst 0, 1) := by decide +kernel
theorem dX4_noteWeek_54 : decode cX4_noteWeek 54 = .ok (.istore_n 2, 1) := by decide +kernel
theorem dX4_noteWeek_55 : decode cX4_noteWeek 55 = .ok (.iload_n 2, 1) := by decide +kernel
theorem dX4_noteWeek_56 : decode cX4_noteWeek 56 = .ok (.aload_n 0, 1) := by decide +kernel
theorem dX4_noteWeek_57 : decode cX4_noteWeek 57 = .ok (.getfield 172, 3) := by decide +kernel
theorem dX4_noteWeek_60 : decode cX4_noteWeek 60 = .ok (.if_icmp .ge 59, 3) := by decide +kernel
theorem dX4_noteWeek_63 : decode cX4_noteWeek 63 = .ok (.aload_n 0, 1) := by decide +kernel
theorem dX4_noteWeek_64 : decode cX4_noteWeek 64 = .ok (.iload_n 2, 1) := by decide +kernel
theorem dX4_noteWeek_65 : decode cX4_noteWeek 65 = .ok (.invokevirtual 272, 3) := by decide +kernel
theorem dX4_noteWeek_68 : decode cX4_noteWeek 68 = .ok (.istore_n 3, 1) := by decide +kernel
theorem dX4_noteWeek_69 : decode cX4_noteWeek 69 = .ok (.iconst 0, 1) := by decide +kernel
theorem dX4_noteWeek_70 : decode cX4_noteWeek 70 = .ok (.istore 4, 2) := by decide +kernel
theorem dX4_noteWeek_72 : decode cX4_noteWeek 72 = .ok (.iload 4, 2) := by decide +kernel
theorem dX4_noteWeek_74 : decode cX4_noteWeek 74 = .ok (.aload_n 0, 1) := by decide +kernel
theorem dX4_noteWeek_75 : decode cX4_noteWeek 75 = .ok (.getfield 40, 3) := by decide +kernel
theorem dX4_noteWeek_78 : decode cX4_noteWeek 78 = .ok (.if_icmp .ge 35, 3) := by decide +kernel
theorem dX4_noteWeek_81 : decode cX4_noteWeek 81 = .ok (.iload_n 3, 1) := by decide +kernel
theorem dX4_noteWeek_82 : decode cX4_noteWeek 82 = .ok (.iload 4, 2) := by decide +kernel
theorem dX4_noteWeek_84 : decode cX4_noteWeek 84 = .ok (.ishr, 1) := by decide +kernel
theorem dX4_noteWeek_85 : decode cX4_noteWeek 85 = .ok (.iconst 1, 1) := by decide +kernel
theorem dX4_noteWeek_86 : decode cX4_noteWeek 86 = .ok (.iand, 1) := by decide +kernel
theorem dX4_noteWeek_87 : decode cX4_noteWeek 87 = .ok (.ifCond .eq 20, 3) := by decide +kernel
theorem dX4_noteWeek_90 : decode cX4_noteWeek 90 = .ok (.aload_n 0, 1) := by decide +kernel
theorem dX4_noteWeek_91 : decode cX4_noteWeek 91 = .ok (.iload 4, 2) := by decide +kernel
theorem dX4_noteWeek_93 : decode cX4_noteWeek 93 = .ok (.invokevirtual 48, 3) := by decide +kernel
theorem dX4_noteWeek_96 : decode cX4_noteWeek 96 = .ok (.iload_n 3, 1) := by decide +kernel
theorem dX4_noteWeek_97 : decode cX4_noteWeek 97 = .ok (.iconst 1, 1) := by decide +kernel
theorem dX4_noteWeek_98 : decode cX4_noteWeek 98 = .ok (.iload 4, 2) := by decide +kernel
theorem dX4_noteWeek_100 : decode cX4_noteWeek 100 = .ok (.ishl, 1) := by decide +kernel
theorem dX4_noteWeek_101 : decode cX4_noteWeek 101 = .ok (.iconst (-1), 1) := by decide +kernel
theorem dX4_noteWeek_102 : decode cX4_noteWeek 102 = .ok (.ixor, 1) := by decide +kernel
theorem dX4_noteWeek_103 : decode cX4_noteWeek 103 = .ok (.iand, 1) := by decide +kernel
theorem dX4_noteWeek_104 : decode cX4_noteWeek 104 = .ok (.putfield 179, 3) := by decide +kernel
theorem dX4_noteWeek_107 : decode cX4_noteWeek 107 = .ok (.iinc 4 1, 3) := by decide +kernel
theorem dX4_noteWeek_110 : decode cX4_noteWeek 110 = .ok (.goto (-38), 3) := by decide +kernel
theorem dX4_noteWeek_113 : decode cX4_noteWeek 113 = .ok (.iinc 2 1, 3) := by decide +kernel
theorem dX4_noteWeek_116 : decode cX4_noteWeek 116 = .ok (.goto (-61), 3) := by decide +kernel
theorem dX4_noteWeek_119 : decode cX4_noteWeek 119 = .ok (.return_, 1) := by decide +kernel
theorem dX5_init_0 : decode cX5_init 0 = .ok (.aload_n 0, 1) := by decide +kernel
theorem dX5_init_1 : decode cX5_init 1 = .ok (.invokespecial 1, 3) := by decide +kernel
theorem dX5_init_4 : decode cX5_init 4 = .ok (.aload_n 0, 1) := by decide +kernel
theorem dX5_init_5 : decode cX5_init 5 = .ok (.bipush 14, 2) := by decide +kernel
theorem dX5_init_7 : decode cX5_init 7 = .ok (.newarray .int, 2) := by decide +kernel
theorem dX5_init_9 : decode cX5_init 9 = .ok (.putfield 7, 3) := by decide +kernel
theorem dX5_init_12 : decode cX5_init 12 = .ok (.aload_n 0, 1) := by decide +kernel
theorem dX5_init_13 : decode cX5_init 13 = .ok (.bipush 112, 2) := by decide +kernel
theorem dX5_init_15 : decode cX5_init 15 = .ok (.newarray .int, 2) := by decide +kernel
theorem dX5_init_17 : decode cX5_init 17 = .ok (.putfield 13, 3) := by decide +kernel
theorem dX5_init_20 : decode cX5_init 20 = .ok (.aload_n 0, 1) := by decide +kernel
theorem dX5_init_21 : decode cX5_init 21 = .ok (.bipush 112, 2) := by decide +kernel
theorem dX5_init_23 : decode cX5_init 23 = .ok (.newarray .int, 2) := by decide +kernel
theorem dX5_init_25 : decode cX5_init 25 = .ok (.putfield 16, 3) := by decide +kernel
theorem dX5_init_28 : decode cX5_init 28 = .ok (.aload_n 0, 1) := by decide +kernel
theorem dX5_init_29 : decode cX5_init 29 = .ok (.bipush 112, 2) := by decide +kernel
theorem dX5_init_31 : decode cX5_init 31 = .ok (.newarray .int, 2) := by decide +kernel
theorem dX5_init_33 : decode cX5_init 33 = .ok (.putfield 19, 3) := by decide +kernel
theorem dX5_init_36 : decode cX5_init 36 = .ok (.aload_n 0, 1) := by decide +kernel
theorem dX5_init_37 : decode cX5_init 37 = .ok (.bipush 112, 2) := by decide +kernel
theorem dX5_init_39 : decode cX5_init 39 = .ok (.newarray .int, 2) := by decide +kernel
theorem dX5_init_41 : decode cX5_init 41 = .ok (.putfield 22, 3) := by decide +kernel
theorem dX5_init_44 : decode cX5_init 44 = .ok (.aload_n 0, 1) := by decide +kernel
theorem dX5_init_45 : decode cX5_init 45 = .ok (.bipush 112, 2) := by decide +kernel
theorem dX5_init_47 : decode cX5_init 47 = .ok (.newarray .int, 2) := by decide +kernel
theorem dX5_init_49 : decode cX5_init 49 = .ok (.putfield 25, 3) := by decide +kernel
theorem dX5_init_52 : decode cX5_init 52 = .ok (.aload_n 0, 1) := by decide +kernel
theorem dX5_init_53 : decode cX5_init 53 = .ok (.bipush 28, 2) := by decide +kernel
theorem dX5_init_55 : decode cX5_init 55 = .ok (.newarray .int, 2) := by decide +kernel
theorem dX5_init_57 : decode cX5_init 57 = .ok (.putfield 28, 3) := by decide +kernel
theorem dX5_init_60 : decode cX5_init 60 = .ok (.aload_n 0, 1) := by decide +kernel
theorem dX5_init_61 : decode cX5_init 61 = .ok (.bipush 14, 2) := by decide +kernel
theorem dX5_init_63 : decode cX5_init 63 = .ok (.newarray .int, 2) := by decide +kernel
theorem dX5_init_65 : decode cX5_init 65 = .ok (.putfield 31, 3) := by decide +kernel
theorem dX5_init_68 : decode cX5_init 68 = .ok (.aload_n 0, 1) := by decide +kernel
theorem dX5_init_69 : decode cX5_init 69 = .ok (.bipush 14, 2) := by decide +kernel
theorem dX5_init_71 : decode cX5_init 71 = .ok (.newarray .int, 2) := by decide +kernel
theorem dX5_init_73 : decode cX5_init 73 = .ok (.putfield 34, 3) := by decide +kernel
theorem dX5_init_76 : decode cX5_init 76 = .ok (.aload_n 0, 1) := by decide +kernel
theorem dX5_init_77 : decode cX5_init 77 = .ok (.bipush 14, 2) := by decide +kernel
theorem dX5_init_79 : decode cX5_init 79 = .ok (.newarray .int, 2) := by decide +kernel
theorem dX5_init_81 : decode cX5_init 81 = .ok (.putfield 37, 3) := by decide +kernel
theorem dX5_init_84 : decode cX5_init 84 = .ok (.aload_n 0, 1) := by decide +kernel
theorem dX5_init_85 : decode cX5_init 85 = .ok (.bipush 21, 2) := by decide +kernel
theorem dX5_init_87 : decode cX5_init 87 = .ok (.newarray .int, 2) := by decide +kernel
theorem dX5_init_89 : decode cX5_init 89 = .ok (.putfield 40, 3) := by decide +kernel
theorem dX5_init_92 : decode cX5_init 92 = .ok (.aload_n 0, 1) := by decide +kernel
theorem dX5_init_93 : decode cX5_init 93 = .ok (.bipush 21, 2) := by decide +kernel
theorem dX5_init_95 : decode cX5_init 95 = .ok (.newarray .int, 2) := by decide +kernel
theorem dX5_init_97 : decode cX5_init 97 = .ok (.putfield 43, 3) := by decide +kernel
theorem dX5_init_100 : decode cX5_init 100 = .ok (.aload_n 0, 1) := by decide +kernel
theorem dX5_init_101 : decode cX5_init 101 = .ok (.bipush 14, 2) := by decide +kernel
theorem dX5_init_103 : decode cX5_init 103 = .ok (.newarray .boolean, 2) := by decide +kernel
theorem dX5_init_105 : decode cX5_init 105 = .ok (.putfield 46, 3) := by decide +kernel
theorem dX5_init_108 : decode cX5_init 108 = .ok (.aload_n 0, 1) := by decide +kernel
theorem dX5_init_109 : decode cX5_init 109 = .ok (.bipush 14, 2) := by decide +kernel
theorem dX5_init_111 : decode cX5_init 111 = .ok (.newarray .int, 2) := by decide +kernel
theorem dX5_init_113 : decode cX5_init 113 = .ok (.putfield 50, 3) := by decide +kernel
theorem dX5_init_116 : decode cX5_init 116 = .ok (.aload_n 0, 1) := by decide +kernel
theorem dX5_init_117 : decode cX5_init 117 = .ok (.sipush 560, 3) := by decide +kernel
theorem dX5_init_120 : decode cX5_init 120 = .ok (.newarray .int, 2) := by decide +kernel
theorem dX5_init_122 : decode cX5_init 122 = .ok (.putfield 53, 3) := by decide +kernel
theorem dX5_init_125 : decode cX5_init 125 = .ok (.aload_n 0, 1) := by decide +kernel
theorem dX5_init_126 : decode cX5_init 126 = .ok (.sipush 560, 3) := by decide +kernel
theorem dX5_init_129 : decode cX5_init 129 = .ok (.newarray .int, 2) := by decide +kernel
theorem dX5_init_131 : decode cX5_init 131 = .ok (.putfield 56, 3) := by decide +kernel
theorem dX5_init_134 : decode cX5_init 134 = .ok (.aload_n 0, 1) := by decide +kernel
theorem dX5_init_135 : decode cX5_init 135 = .ok (.bipush 80, 2) := by decide +kernel
theorem dX5_init_137 : decode cX5_init 137 = .ok (.newarray .int, 2) := by decide +kernel
theorem dX5_init_139 : decode cX5_init 139 = .ok (.putfield 59, 3) := by decide +kernel
theorem dX5_init_142 : decode cX5_init 142 = .ok (.aload_n 0, 1) := by decide +kernel
theorem dX5_init_143 : decode cX5_init 143 = .ok (.bipush 80, 2) := by decide +kernel
theorem dX5_init_145 : decode cX5_init 145 = .ok (.newarray .int, 2) := by decide +kernel
theorem dX5_init_147 : decode cX5_init 147 = .ok (.putfield 62, 3) := by decide +kernel
theorem dX5_init_150 : decode cX5_init 150 = .ok (.aload_n 0, 1) := by decide +kernel
theorem dX5_init_151 : decode cX5_init 151 = .ok (.iconst 3, 1) := by decide +kernel
theorem dX5_init_152 : decode cX5_init 152 = .ok (.newarray .int, 2) := by decide +kernel
theorem dX5_init_154 : decode cX5_init 154 = .ok (.putfield 65, 3) := by decide +kernel
theorem dX5_init_157 : decode cX5_init 157 = .ok (.aload_n 0, 1) := by decide +kernel
theorem dX5_init_158 : decode cX5_init 158 = .ok (.sipush 2460, 3) := by decide +kernel
theorem dX5_init_161 : decode cX5_init 161 = .ok (.newarray .int, 2) := by decide +kernel
theorem dX5_init_163 : decode cX5_init 163 = .ok (.putfield 68, 3) := by decide +kernel
theorem dX5_init_166 : decode cX5_init 166 = .ok (.aload_n 0, 1) := by decide +kernel
theorem dX5_init_167 : decode cX5_init 167 = .ok (.sipush 820, 3) := by decide +kernel
theorem dX5_init_170 : decode cX5_init 170 = .ok (.newarray .int, 2) := by decide +kernel
theorem dX5_init_172 : decode cX5_init 172 = .ok (.putfield 71, 3) := by decide +kernel
theorem dX5_init_175 : decode cX5_init 175 = .ok (.aload_n 0, 1) := by decide +kernel
theorem dX5_init_176 : decode cX5_init 176 = .ok (.sipush 820, 3) := by decide +kernel
theorem dX5_init_179 : decode cX5_init 179 = .ok (.newarray .int, 2) := by decide +kernel
theorem dX5_init_181 : decode cX5_init 181 = .ok (.putfield 74, 3) := by decide +kernel
theorem dX5_init_184 : decode cX5_init 184 = .ok (.aload_n 0, 1) := by decide +kernel
theorem dX5_init_185 : decode cX5_init 185 = .ok (.bipush 15, 2) := by decide +kernel
theorem dX5_init_187 : decode cX5_init 187 = .ok (.newarray .int, 2) := by decide +kernel
theorem dX5_init_189 : decode cX5_init 189 = .ok (.putfield 77, 3) := by decide +kernel
theorem dX5_init_192 : decode cX5_init 192 = .ok (.aload_n 0, 1) := by decide +kernel
theorem dX5_init_193 : decode cX5_init 193 = .ok (.sipush 16384, 3) := by decide +kernel
theorem dX5_init_196 : decode cX5_init 196 = .ok (.newarray .int, 2) := by decide +kernel
theorem dX5_init_198 : decode cX5_init 198 = .ok (.putfield 80, 3) := by decide +kernel
theorem dX5_init_201 : decode cX5_init 201 = .ok (.aload_n 0, 1) := by decide +kernel
theorem dX5_init_202 : decode cX5_init 202 = .ok (.sipush 16384, 3) := by decide +kernel
theorem dX5_init_205 : decode cX5_init 205 = .ok (.newarray .int, 2) := by decide +kernel
theorem dX5_init_207 : decode cX5_init 207 = .ok (.putfield 83, 3) := by decide +kernel
theorem dX5_init_210 : decode cX5_init 210 = .ok (.aload_n 0, 1) := by decide +kernel
theorem dX5_init_211 : decode cX5_init 211 = .ok (.sipush 1681, 3) := by decide +kernel
theorem dX5_init_214 : decode cX5_init 214 = .ok (.newarray .int, 2) := by decide +kernel
theorem dX5_init_216 : decode cX5_init 216 = .ok (.putfield 86, 3) := by decide +kernel
theorem dX5_init_219 : decode cX5_init 219 = .ok (.return_, 1) := by decide +kernel
theorem dX5_thrown_0 : decode cX5_thrown 0 = .ok (.aload_n 0, 1) := by decide +kernel
theorem dX5_thrown_1 : decode cX5_thrown 1 = .ok (.getfield 89, 3) := by decide +kernel
theorem dX5_thrown_4 : decode cX5_thrown 4 = .ok (.ireturn, 1) := by decide +kernel
theorem dX5_right_0 : decode cX5_right 0 = .ok (.aload_n 0, 1) := by decide +kernel
theorem dX5_right_1 : decode cX5_right 1 = .ok (.getfield 89, 3) := by decide +kernel
theorem dX5_right_4 : decode cX5_right 4 = .ok (.ifCond .ne 12, 3) := by decide +kernel
theorem dX5_right_7 : decode cX5_right 7 = .ok (.iload_n 1, 1) := by decide +kernel
theorem dX5_right_8 : decode cX5_right 8 = .ok (.ifCond .ne 8, 3) := by decide +kernel
theorem dX5_right_11 : decode cX5_right 11 = .ok (.aload_n 0, 1) := by decide +kernel
theorem dX5_right_12 : decode cX5_right 12 = .ok (.iload_n 2, 1) := by decide +kernel
theorem dX5_right_13 : decode cX5_right 13 = .ok (.putfield 89, 3) := by decide +kernel
theorem dX5_right_16 : decode cX5_right 16 = .ok (.aload_n 0, 1) := by decide +kernel
theorem dX5_right_17 : decode cX5_right 17 = .ok (.getfield 89, 3) := by decide +kernel
theorem dX5_right_20 : decode cX5_right 20 = .ok (.ifCond .ne 7, 3) := by decide +kernel
theorem dX5_right_23 : decode cX5_right 23 = .ok (.iconst 1, 1) := by decide +kernel
theorem dX5_right_24 : decode cX5_right 24 = .ok (.goto 4, 3) := by decide +kernel
theorem dX5_right_27 : decode cX5_right 27 = .ok (.iconst 0, 1) := by decide +kernel
theorem dX5_right_28 : decode cX5_right 28 = .ok (.ireturn, 1) := by decide +kernel
theorem dX5_isLearner_0 : decode cX5_isLearner 0 = .ok (.aload_n 0, 1) := by decide +kernel
theorem dX5_isLearner_1 : decode cX5_isLearner 1 = .ok (.iconst 0, 1) := by decide +kernel
theorem dX5_isLearner_2 : decode cX5_isLearner 2 = .ok (.putfield 89, 3) := by decide +kernel
theorem dX5_isLearner_5 : decode cX5_isLearner 5 = .ok (.aload_n 0, 1) := by decide +kernel
theorem dX5_isLearner_6 : decode cX5_isLearner 6 = .ok (.iload_n 1, 1) := by decide +kernel
theorem dX5_isLearner_7 : decode cX5_isLearner 7 = .ok (.ifCond .lt 15, 3) := by decide +kernel
theorem dX5_isLearner_10 : decode cX5_isLearner 10 = .ok (.iload_n 1, 1) := by decide +kernel
theorem dX5_isLearner_11 : decode cX5_isLearner 11 = .ok (.aload_n 0, 1) := by decide +kernel
theorem dX5_isLearner_12 : decode cX5_isLearner 12 = .ok (.getfield 93, 3) := by decide +kernel
theorem dX5_isLearner_15 : decode cX5_isLearner 15 = .ok (.if_icmp .ge 7, 3) := by decide +kernel
theorem dX5_isLearner_18 : decode cX5_isLearner 18 = .ok (.iconst 1, 1) := by decide +kernel
theorem dX5_isLearner_19 : decode cX5_isLearner 19 = .ok (.goto 4, 3) := by decide +kernel
theorem dX5_isLearner_22 : decode cX5_isLearner 22 = .ok (.iconst 0, 1) := by decide +kernel
theorem dX5_isLearner_23 : decode cX5_isLearner 23 = .ok (.iconst 1, 1) := by decide +kernel
theorem dX5_isLearner_24 : decode cX5_isLearner 24 = .ok (.invokevirtual 96, 3) := by decide +kernel
theorem dX5_isLearner_27 : decode cX5_isLearner 27 = .ok (.ireturn, 1) := by decide +kernel
theorem dX5_areTwo_0 : decode cX5_areTwo 0 = .ok (.aload_n 0, 1) := by decide +kernel
theorem dX5_areTwo_1 : decode cX5_areTwo 1 = .ok (.iload_n 1, 1) := by decide +kernel
theorem dX5_areTwo_2 : decode cX5_areTwo 2 = .ok (.invokevirtual 100, 3) := by decide +kernel
theorem dX5_areTwo_5 : decode cX5_areTwo 5 = .ok (.ifCond .eq 37, 3) := by decide +kernel
theorem dX5_areTwo_8 : decode cX5_areTwo 8 = .ok (.aload_n 0, 1) := by decide +kernel
theorem dX5_areTwo_9 : decode cX5_areTwo 9 = .ok (.iload_n 2, 1) := by decide +kernel
theorem dX5_areTwo_10 : decode cX5_areTwo 10 = .ok (.ifCond .lt 20, 3) := by decide +kernel
theorem dX5_areTwo_13 : decode cX5_areTwo 13 = .ok (.iload_n 2, 1) := by decide +kernel
theorem dX5_areTwo_14 : decode cX5_areTwo 14 = .ok (.aload_n 0, 1) := by decide +kernel
theorem dX5_areTwo_15 : decode cX5_areTwo 15 = .ok (.getfield 93, 3) := by decide +kernel
theorem dX5_areTwo_18 : decode cX5_areTwo 18 = .ok (.if_icmp .ge 12, 3) := by decide +kernel
theorem dX5_areTwo_21 : decode cX5_areTwo 21 = .ok (.iload_n 1, 1) := by decide +kernel
theorem dX5_areTwo_22 : decode cX5_areTwo 22 = .ok (.iload_n 2, 1) := by decide +kernel
theorem dX5_areTwo_23 : decode cX5_areTwo 23 = .ok (.if_icmp .eq 7, 3) := by decide +kernel
theorem dX5_areTwo_26 : decode cX5_areTwo 26 = .ok (.iconst 1, 1) := by decide +kernel
theorem dX5_areTwo_27 : decode cX5_areTwo 27 = .ok (.goto 4, 3) := by decide +kernel
theorem dX5_areTwo_30 : decode cX5_areTwo 30 = .ok (.iconst 0, 1) := by decide +kernel
theorem dX5_areTwo_31 : decode cX5_areTwo 31 = .ok (.iconst 1, 1) := by decide +kernel
theorem dX5_areTwo_32 : decode cX5_areTwo 32 = .ok (.invokevirtual 96, 3) := by decide +kernel
theorem dX5_areTwo_35 : decode cX5_areTwo 35 = .ok (.ifCond .eq 7, 3) := by decide +kernel
theorem dX5_areTwo_38 : decode cX5_areTwo 38 = .ok (.iconst 1, 1) := by decide +kernel
theorem dX5_areTwo_39 : decode cX5_areTwo 39 = .ok (.goto 4, 3) := by decide +kernel
theorem dX5_areTwo_42 : decode cX5_areTwo 42 = .ok (.iconst 0, 1) := by decide +kernel
theorem dX5_areTwo_43 : decode cX5_areTwo 43 = .ok (.ireturn, 1) := by decide +kernel
theorem dX5_isTongue_0 : decode cX5_isTongue 0 = .ok (.aload_n 0, 1) := by decide +kernel
theorem dX5_isTongue_1 : decode cX5_isTongue 1 = .ok (.iload_n 1, 1) := by decide +kernel
theorem dX5_isTongue_2 : decode cX5_isTongue 2 = .ok (.invokevirtual 100, 3) := by decide +kernel
theorem dX5_isTongue_5 : decode cX5_isTongue 5 = .ok (.ifCond .eq 30, 3) := by decide +kernel
theorem dX5_isTongue_8 : decode cX5_isTongue 8 = .ok (.aload_n 0, 1) := by decide +kernel
theorem dX5_isTongue_9 : decode cX5_isTongue 9 = .ok (.iload_n 2, 1) := by decide +kernel
theorem dX5_isTongue_10 : decode cX5_isTongue 10 = .ok (.ifCond .lt 13, 3) := by decide +kernel
theorem dX5_isTongue_13 : decode cX5_isTongue 13 = .ok (.iload_n 2, 1) := by decide +kernel
theorem dX5_isTongue_14 : decode cX5_isTongue 14 = .ok (.bipush 7, 2) := by decide +kernel
theorem dX5_isTongue_16 : decode cX5_isTongue 16 = .ok (.if_icmp .gt 7, 3) := by decide +kernel
theorem dX5_isTongue_19 : decode cX5_isTongue 19 = .ok (.iconst 1, 1) := by decide +kernel
theorem dX5_isTongue_20 : decode cX5_isTongue 20 = .ok (.goto 4, 3) := by decide +kernel
theorem dX5_isTongue_23 : decode cX5_isTongue 23 = .ok (.iconst 0, 1) := by decide +kernel
theorem dX5_isTongue_24 : decode cX5_isTongue 24 = .ok (.iconst 1, 1) := by decide +kernel
theorem dX5_isTongue_25 : decode cX5_isTongue 25 = .ok (.invokevirtual 96, 3) := by decide +kernel
theorem dX5_isTongue_28 : decode cX5_isTongue 28 = .ok (.ifCond .eq 7, 3) := by decide +kernel
theorem dX5_isTongue_31 : decode cX5_isTongue 31 = .ok (.iconst 1, 1) := by decide +kernel
theorem dX5_isTongue_32 : decode cX5_isTongue 32 = .ok (.goto 4, 3) := by decide +kernel
theorem dX5_isTongue_35 : decode cX5_isTongue 35 = .ok (.iconst 0, 1) := by decide +kernel
theorem dX5_isTongue_36 : decode cX5_isTongue 36 = .ok (.ireturn, 1) := by decide +kernel
theorem dX5_learner_0 : decode cX5_learner 0 = .ok (.aload_n 0, 1) := by decide +kernel
theorem dX5_learner_1 : decode cX5_learner 1 = .ok (.iconst 0, 1) := by decide +kernel
theorem dX5_learner_2 : decode cX5_learner 2 = .ok (.putfield 89, 3) := by decide +kernel
theorem dX5_learner_5 : decode cX5_learner 5 = .ok (.aload_n 0, 1) := by decide +kernel
theorem dX5_learner_6 : decode cX5_learner 6 = .ok (.getfield 93, 3) := by decide +kernel
theorem dX5_learner_9 : decode cX5_learner 9 = .ok (.bipush 14, 2) := by decide +kernel
theorem dX5_learner_11 : decode cX5_learner 11 = .ok (.if_icmp .ne 5, 3) := by decide +kernel
theorem dX5_learner_14 : decode cX5_learner 14 = .ok (.iconst (-1), 1) := by decide +kernel
theorem dX5_learner_15 : decode cX5_learner 15 = .ok (.ireturn, 1) := by decide +kernel
theorem dX5_learner_16 : decode cX5_learner 16 = .ok (.aload_n 0, 1) := by decide +kernel
theorem dX5_learner_17 : decode cX5_learner 17 = .ok (.getfield 7, 3) := by decide +kernel
theorem dX5_learner_20 : decode cX5_learner 20 = .ok (.aload_n 0, 1) := by decide +kernel
theorem dX5_learner_21 : decode cX5_learner 21 = .ok (.getfield 93, 3) := by decide +kernel
theorem dX5_learner_24 : decode cX5_learner 24 = .ok (.iload_n 1, 1) := by decide +kernel
theorem dX5_learner_25 : decode cX5_learner 25 = .ok (.ldc 104, 2) := by decide +kernel
theorem dX5_learner_27 : decode cX5_learner 27 = .ok (.iand, 1) := by decide +kernel
theorem dX5_learner_28 : decode cX5_learner 28 = .ok (.iastore, 1) := by decide +kernel
theorem dX5_learner_29 : decode cX5_learner 29 = .ok (.iconst 0, 1) := by decide +kernel
theorem dX5_learner_30 : decode cX5_learner 30 = .ok (.istore_n 2, 1) := by decide +kernel
theorem dX5_learner_31 : decode cX5_learner 31 = .ok (.iload_n 2, 1) := by decide +kernel
theorem dX5_learner_32 : decode cX5_learner 32 = .ok (.bipush 8, 2) := by decide +kernel
theorem dX5_learner_34 : decode cX5_learner 34 = .ok (.if_icmp .ge 25, 3) := by decide +kernel
theorem dX5_learner_37 : decode cX5_learner 37 = .ok (.aload_n 0, 1) := by decide +kernel
theorem dX5_learner_38 : decode cX5_learner 38 = .ok (.getfield 19, 3) := by decide +kernel
theorem dX5_learner_41 : decode cX5_learner 41 = .ok (.bipush 8, 2) := by decide +kernel
theorem dX5_learner_43 : decode cX5_learner 43 = .ok (.aload_n 0, 1) := by decide +kernel
theorem dX5_learner_44 : decode cX5_learner 44 = .ok (.getfield 93, 3) := by decide +kernel
theorem dX5_learner_47 : decode cX5_learner 47 = .ok (.imul, 1) := by decide +kernel
theorem dX5_learner_48 : decode cX5_learner 48 = .ok (.iload_n 2, 1) := by decide +kernel
theorem dX5_learner_49 : decode cX5_learner 49 = .ok (.iadd, 1) := by decide +kernel
theorem dX5_learner_50 : decode cX5_learner 50 = .ok (.bipush 10, 2) := by decide +kernel
theorem dX5_learner_52 : decode cX5_learner 52 = .ok (.iastore, 1) := by decide +kernel
theorem dX5_learner_53 : decode cX5_learner 53 = .ok (.iinc 2 1, 3) := by decide +kernel
theorem dX5_learner_56 : decode cX5_learner 56 = .ok (.goto (-25), 3) := by decide +kernel
theorem dX5_learner_59 : decode cX5_learner 59 = .ok (.aload_n 0, 1) := by decide +kernel
theorem dX5_learner_60 : decode cX5_learner 60 = .ok (.dup, 1) := by decide +kernel
theorem dX5_learner_61 : decode cX5_learner 61 = .ok (.getfield 93, 3) := by decide +kernel
theorem dX5_learner_64 : decode cX5_learner 64 = .ok (.iconst 1, 1) := by decide +kernel
theorem dX5_learner_65 : decode cX5_learner 65 = .ok (.iadd, 1) := by decide +kernel
theorem dX5_learner_66 : decode cX5_learner 66 = .ok (.putfield 93, 3) := by decide +kernel
theorem dX5_learner_69 : decode cX5_learner 69 = .ok (.aload_n 0, 1) := by decide +kernel
theorem dX5_learner_70 : decode cX5_learner 70 = .ok (.getfield 93, 3) := by decide +kernel
theorem dX5_learner_73 : decode cX5_learner 73 = .ok (.iconst 1, 1) := by decide +kernel
