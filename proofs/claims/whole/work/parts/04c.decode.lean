theorem dX5_learner_74 : decode cX5_learner 74 = .ok (.isub, 1) := by decide +kernel
theorem dX5_learner_75 : decode cX5_learner 75 = .ok (.ireturn, 1) := by decide +kernel
theorem dX5_hours_0 : decode cX5_hours 0 = .ok (.aload_n 0, 1) := by decide +kernel
theorem dX5_hours_1 : decode cX5_hours 1 = .ok (.iload_n 1, 1) := by decide +kernel
theorem dX5_hours_2 : decode cX5_hours 2 = .ok (.invokevirtual 100, 3) := by decide +kernel
theorem dX5_hours_5 : decode cX5_hours 5 = .ok (.ifCond .ne 5, 3) := by decide +kernel
theorem dX5_hours_8 : decode cX5_hours 8 = .ok (.iconst 0, 1) := by decide +kernel
theorem dX5_hours_9 : decode cX5_hours 9 = .ok (.ireturn, 1) := by decide +kernel
theorem dX5_hours_10 : decode cX5_hours 10 = .ok (.aload_n 0, 1) := by decide +kernel
theorem dX5_hours_11 : decode cX5_hours 11 = .ok (.getfield 7, 3) := by decide +kernel
theorem dX5_hours_14 : decode cX5_hours 14 = .ok (.iload_n 1, 1) := by decide +kernel
theorem dX5_hours_15 : decode cX5_hours 15 = .ok (.iaload, 1) := by decide +kernel
theorem dX5_hours_16 : decode cX5_hours 16 = .ok (.istore_n 3, 1) := by decide +kernel
theorem dX5_hours_17 : decode cX5_hours 17 = .ok (.aload_n 0, 1) := by decide +kernel
theorem dX5_hours_18 : decode cX5_hours 18 = .ok (.getfield 7, 3) := by decide +kernel
theorem dX5_hours_21 : decode cX5_hours 21 = .ok (.iload_n 1, 1) := by decide +kernel
theorem dX5_hours_22 : decode cX5_hours 22 = .ok (.iload_n 2, 1) := by decide +kernel
theorem dX5_hours_23 : decode cX5_hours 23 = .ok (.ldc 104, 2) := by decide +kernel
theorem dX5_hours_25 : decode cX5_hours 25 = .ok (.iand, 1) := by decide +kernel
theorem dX5_hours_26 : decode cX5_hours 26 = .ok (.iastore, 1) := by decide +kernel
theorem dX5_hours_27 : decode cX5_hours 27 = .ok (.iload_n 3, 1) := by decide +kernel
theorem dX5_hours_28 : decode cX5_hours 28 = .ok (.ireturn, 1) := by decide +kernel
theorem dX5_claim_0 : decode cX5_claim 0 = .ok (.aload_n 0, 1) := by decide +kernel
theorem dX5_claim_1 : decode cX5_claim 1 = .ok (.iload_n 1, 1) := by decide +kernel
theorem dX5_claim_2 : decode cX5_claim 2 = .ok (.iload_n 2, 1) := by decide +kernel
theorem dX5_claim_3 : decode cX5_claim 3 = .ok (.invokevirtual 105, 3) := by decide +kernel
theorem dX5_claim_6 : decode cX5_claim 6 = .ok (.ifCond .eq 26, 3) := by decide +kernel
theorem dX5_claim_9 : decode cX5_claim 9 = .ok (.aload_n 0, 1) := by decide +kernel
theorem dX5_claim_10 : decode cX5_claim 10 = .ok (.iload_n 3, 1) := by decide +kernel
theorem dX5_claim_11 : decode cX5_claim 11 = .ok (.ifCond .lt 13, 3) := by decide +kernel
theorem dX5_claim_14 : decode cX5_claim 14 = .ok (.iload_n 3, 1) := by decide +kernel
theorem dX5_claim_15 : decode cX5_claim 15 = .ok (.bipush 10, 2) := by decide +kernel
theorem dX5_claim_17 : decode cX5_claim 17 = .ok (.if_icmp .gt 7, 3) := by decide +kernel
theorem dX5_claim_20 : decode cX5_claim 20 = .ok (.iconst 1, 1) := by decide +kernel
theorem dX5_claim_21 : decode cX5_claim 21 = .ok (.goto 4, 3) := by decide +kernel
theorem dX5_claim_24 : decode cX5_claim 24 = .ok (.iconst 0, 1) := by decide +kernel
theorem dX5_claim_25 : decode cX5_claim 25 = .ok (.iconst 2, 1) := by decide +kernel
theorem dX5_claim_26 : decode cX5_claim 26 = .ok (.invokevirtual 96, 3) := by decide +kernel
theorem dX5_claim_29 : decode cX5_claim 29 = .ok (.ifCond .ne 5, 3) := by decide +kernel
theorem dX5_claim_32 : decode cX5_claim 32 = .ok (.iconst 0, 1) := by decide +kernel
theorem dX5_claim_33 : decode cX5_claim 33 = .ok (.ireturn, 1) := by decide +kernel
theorem dX5_claim_34 : decode cX5_claim 34 = .ok (.aload_n 0, 1) := by decide +kernel
theorem dX5_claim_35 : decode cX5_claim 35 = .ok (.getfield 13, 3) := by decide +kernel
theorem dX5_claim_38 : decode cX5_claim 38 = .ok (.bipush 8, 2) := by decide +kernel
theorem dX5_claim_40 : decode cX5_claim 40 = .ok (.iload_n 1, 1) := by decide +kernel
theorem dX5_claim_41 : decode cX5_claim 41 = .ok (.imul, 1) := by decide +kernel
theorem dX5_claim_42 : decode cX5_claim 42 = .ok (.iload_n 2, 1) := by decide +kernel
theorem dX5_claim_43 : decode cX5_claim 43 = .ok (.iadd, 1) := by decide +kernel
theorem dX5_claim_44 : decode cX5_claim 44 = .ok (.iaload, 1) := by decide +kernel
theorem dX5_claim_45 : decode cX5_claim 45 = .ok (.istore 4, 2) := by decide +kernel
theorem dX5_claim_47 : decode cX5_claim 47 = .ok (.aload_n 0, 1) := by decide +kernel
theorem dX5_claim_48 : decode cX5_claim 48 = .ok (.getfield 13, 3) := by decide +kernel
theorem dX5_claim_51 : decode cX5_claim 51 = .ok (.bipush 8, 2) := by decide +kernel
theorem dX5_claim_53 : decode cX5_claim 53 = .ok (.iload_n 1, 1) := by decide +kernel
theorem dX5_claim_54 : decode cX5_claim 54 = .ok (.imul, 1) := by decide +kernel
theorem dX5_claim_55 : decode cX5_claim 55 = .ok (.iload_n 2, 1) := by decide +kernel
theorem dX5_claim_56 : decode cX5_claim 56 = .ok (.iadd, 1) := by decide +kernel
theorem dX5_claim_57 : decode cX5_claim 57 = .ok (.iload_n 3, 1) := by decide +kernel
theorem dX5_claim_58 : decode cX5_claim 58 = .ok (.iastore, 1) := by decide +kernel
theorem dX5_claim_59 : decode cX5_claim 59 = .ok (.iload 4, 2) := by decide +kernel
theorem dX5_claim_61 : decode cX5_claim 61 = .ok (.ireturn, 1) := by decide +kernel
theorem dX5_want_0 : decode cX5_want 0 = .ok (.aload_n 0, 1) := by decide +kernel
theorem dX5_want_1 : decode cX5_want 1 = .ok (.iload_n 1, 1) := by decide +kernel
theorem dX5_want_2 : decode cX5_want 2 = .ok (.iload_n 2, 1) := by decide +kernel
theorem dX5_want_3 : decode cX5_want 3 = .ok (.invokevirtual 105, 3) := by decide +kernel
theorem dX5_want_6 : decode cX5_want 6 = .ok (.ifCond .ne 5, 3) := by decide +kernel
theorem dX5_want_9 : decode cX5_want 9 = .ok (.iconst 0, 1) := by decide +kernel
theorem dX5_want_10 : decode cX5_want 10 = .ok (.ireturn, 1) := by decide +kernel
theorem dX5_want_11 : decode cX5_want 11 = .ok (.aload_n 0, 1) := by decide +kernel
theorem dX5_want_12 : decode cX5_want 12 = .ok (.getfield 31, 3) := by decide +kernel
theorem dX5_want_15 : decode cX5_want 15 = .ok (.iload_n 1, 1) := by decide +kernel
theorem dX5_want_16 : decode cX5_want 16 = .ok (.iaload, 1) := by decide +kernel
theorem dX5_want_17 : decode cX5_want 17 = .ok (.iconst 2, 1) := by decide +kernel
theorem dX5_want_18 : decode cX5_want 18 = .ok (.if_icmp .eq 25, 3) := by decide +kernel
theorem dX5_want_21 : decode cX5_want 21 = .ok (.aload_n 0, 1) := by decide +kernel
theorem dX5_want_22 : decode cX5_want 22 = .ok (.getfield 31, 3) := by decide +kernel
theorem dX5_want_25 : decode cX5_want 25 = .ok (.iload_n 1, 1) := by decide +kernel
theorem dX5_want_26 : decode cX5_want 26 = .ok (.iaload, 1) := by decide +kernel
theorem dX5_want_27 : decode cX5_want 27 = .ok (.iconst 1, 1) := by decide +kernel
theorem dX5_want_28 : decode cX5_want 28 = .ok (.if_icmp .ne 17, 3) := by decide +kernel
theorem dX5_want_31 : decode cX5_want 31 = .ok (.aload_n 0, 1) := by decide +kernel
theorem dX5_want_32 : decode cX5_want 32 = .ok (.getfield 28, 3) := by decide +kernel
theorem dX5_want_35 : decode cX5_want 35 = .ok (.iconst 2, 1) := by decide +kernel
theorem dX5_want_36 : decode cX5_want 36 = .ok (.iload_n 1, 1) := by decide +kernel
theorem dX5_want_37 : decode cX5_want 37 = .ok (.imul, 1) := by decide +kernel
theorem dX5_want_38 : decode cX5_want 38 = .ok (.iaload, 1) := by decide +kernel
theorem dX5_want_39 : decode cX5_want 39 = .ok (.iload_n 2, 1) := by decide +kernel
theorem dX5_want_40 : decode cX5_want 40 = .ok (.if_icmp .ne 5, 3) := by decide +kernel
theorem dX5_want_43 : decode cX5_want 43 = .ok (.iconst (-1), 1) := by decide +kernel
theorem dX5_want_44 : decode cX5_want 44 = .ok (.ireturn, 1) := by decide +kernel
theorem dX5_want_45 : decode cX5_want 45 = .ok (.aload_n 0, 1) := by decide +kernel
theorem dX5_want_46 : decode cX5_want 46 = .ok (.getfield 28, 3) := by decide +kernel
theorem dX5_want_49 : decode cX5_want 49 = .ok (.iconst 2, 1) := by decide +kernel
theorem dX5_want_50 : decode cX5_want 50 = .ok (.iload_n 1, 1) := by decide +kernel
theorem dX5_want_51 : decode cX5_want 51 = .ok (.imul, 1) := by decide +kernel
theorem dX5_want_52 : decode cX5_want 52 = .ok (.aload_n 0, 1) := by decide +kernel
theorem dX5_want_53 : decode cX5_want 53 = .ok (.getfield 31, 3) := by decide +kernel
theorem dX5_want_56 : decode cX5_want 56 = .ok (.iload_n 1, 1) := by decide +kernel
theorem dX5_want_57 : decode cX5_want 57 = .ok (.iaload, 1) := by decide +kernel
theorem dX5_want_58 : decode cX5_want 58 = .ok (.iadd, 1) := by decide +kernel
theorem dX5_want_59 : decode cX5_want 59 = .ok (.iload_n 2, 1) := by decide +kernel
theorem dX5_want_60 : decode cX5_want 60 = .ok (.iastore, 1) := by decide +kernel
theorem dX5_want_61 : decode cX5_want 61 = .ok (.aload_n 0, 1) := by decide +kernel
theorem dX5_want_62 : decode cX5_want 62 = .ok (.getfield 31, 3) := by decide +kernel
theorem dX5_want_65 : decode cX5_want 65 = .ok (.iload_n 1, 1) := by decide +kernel
theorem dX5_want_66 : decode cX5_want 66 = .ok (.dup2, 1) := by decide +kernel
theorem dX5_want_67 : decode cX5_want 67 = .ok (.iaload, 1) := by decide +kernel
theorem dX5_want_68 : decode cX5_want 68 = .ok (.iconst 1, 1) := by decide +kernel
theorem dX5_want_69 : decode cX5_want 69 = .ok (.iadd, 1) := by decide +kernel
theorem dX5_want_70 : decode cX5_want 70 = .ok (.iastore, 1) := by decide +kernel
theorem dX5_want_71 : decode cX5_want 71 = .ok (.aload_n 0, 1) := by decide +kernel
theorem dX5_want_72 : decode cX5_want 72 = .ok (.getfield 31, 3) := by decide +kernel
theorem dX5_want_75 : decode cX5_want 75 = .ok (.iload_n 1, 1) := by decide +kernel
theorem dX5_want_76 : decode cX5_want 76 = .ok (.iaload, 1) := by decide +kernel
theorem dX5_want_77 : decode cX5_want 77 = .ok (.ireturn, 1) := by decide +kernel
theorem dX5_unwant_0 : decode cX5_unwant 0 = .ok (.aload_n 0, 1) := by decide +kernel
theorem dX5_unwant_1 : decode cX5_unwant 1 = .ok (.iload_n 1, 1) := by decide +kernel
theorem dX5_unwant_2 : decode cX5_unwant 2 = .ok (.invokevirtual 100, 3) := by decide +kernel
theorem dX5_unwant_5 : decode cX5_unwant 5 = .ok (.ifCond .ne 5, 3) := by decide +kernel
theorem dX5_unwant_8 : decode cX5_unwant 8 = .ok (.iconst 0, 1) := by decide +kernel
theorem dX5_unwant_9 : decode cX5_unwant 9 = .ok (.ireturn, 1) := by decide +kernel
theorem dX5_unwant_10 : decode cX5_unwant 10 = .ok (.aload_n 0, 1) := by decide +kernel
theorem dX5_unwant_11 : decode cX5_unwant 11 = .ok (.getfield 31, 3) := by decide +kernel
theorem dX5_unwant_14 : decode cX5_unwant 14 = .ok (.iload_n 1, 1) := by decide +kernel
theorem dX5_unwant_15 : decode cX5_unwant 15 = .ok (.iaload, 1) := by decide +kernel
theorem dX5_unwant_16 : decode cX5_unwant 16 = .ok (.istore_n 2, 1) := by decide +kernel
theorem dX5_unwant_17 : decode cX5_unwant 17 = .ok (.aload_n 0, 1) := by decide +kernel
theorem dX5_unwant_18 : decode cX5_unwant 18 = .ok (.getfield 31, 3) := by decide +kernel
theorem dX5_unwant_21 : decode cX5_unwant 21 = .ok (.iload_n 1, 1) := by decide +kernel
theorem dX5_unwant_22 : decode cX5_unwant 22 = .ok (.iconst 0, 1) := by decide +kernel
theorem dX5_unwant_23 : decode cX5_unwant 23 = .ok (.iastore, 1) := by decide +kernel
theorem dX5_unwant_24 : decode cX5_unwant 24 = .ok (.iload_n 2, 1) := by decide +kernel
theorem dX5_unwant_25 : decode cX5_unwant 25 = .ok (.ireturn, 1) := by decide +kernel
theorem dX5_isBarred_0 : decode cX5_isBarred 0 = .ok (.aload_n 0, 1) := by decide +kernel
theorem dX5_isBarred_1 : decode cX5_isBarred 1 = .ok (.getfield 34, 3) := by decide +kernel
theorem dX5_isBarred_4 : decode cX5_isBarred 4 = .ok (.iload_n 1, 1) := by decide +kernel
theorem dX5_isBarred_5 : decode cX5_isBarred 5 = .ok (.iaload, 1) := by decide +kernel
theorem dX5_isBarred_6 : decode cX5_isBarred 6 = .ok (.iload_n 2, 1) := by decide +kernel
theorem dX5_isBarred_7 : decode cX5_isBarred 7 = .ok (.ishr, 1) := by decide +kernel
theorem dX5_isBarred_8 : decode cX5_isBarred 8 = .ok (.iconst 1, 1) := by decide +kernel
theorem dX5_isBarred_9 : decode cX5_isBarred 9 = .ok (.iand, 1) := by decide +kernel
theorem dX5_isBarred_10 : decode cX5_isBarred 10 = .ok (.iconst 1, 1) := by decide +kernel
theorem dX5_isBarred_11 : decode cX5_isBarred 11 = .ok (.if_icmp .ne 7, 3) := by decide +kernel
theorem dX5_isBarred_14 : decode cX5_isBarred 14 = .ok (.iconst 1, 1) := by decide +kernel
theorem dX5_isBarred_15 : decode cX5_isBarred 15 = .ok (.goto 4, 3) := by decide +kernel
theorem dX5_isBarred_18 : decode cX5_isBarred 18 = .ok (.iconst 0, 1) := by decide +kernel
theorem dX5_isBarred_19 : decode cX5_isBarred 19 = .ok (.ireturn, 1) := by decide +kernel
theorem dX5_bar_0 : decode cX5_bar 0 = .ok (.aload_n 0, 1) := by decide +kernel
theorem dX5_bar_1 : decode cX5_bar 1 = .ok (.iload_n 1, 1) := by decide +kernel
theorem dX5_bar_2 : decode cX5_bar 2 = .ok (.iload_n 2, 1) := by decide +kernel
theorem dX5_bar_3 : decode cX5_bar 3 = .ok (.invokevirtual 109, 3) := by decide +kernel
theorem dX5_bar_6 : decode cX5_bar 6 = .ok (.ifCond .ne 5, 3) := by decide +kernel
theorem dX5_bar_9 : decode cX5_bar 9 = .ok (.iconst 0, 1) := by decide +kernel
theorem dX5_bar_10 : decode cX5_bar 10 = .ok (.ireturn, 1) := by decide +kernel
theorem dX5_bar_11 : decode cX5_bar 11 = .ok (.aload_n 0, 1) := by decide +kernel
theorem dX5_bar_12 : decode cX5_bar 12 = .ok (.iload_n 1, 1) := by decide +kernel
theorem dX5_bar_13 : decode cX5_bar 13 = .ok (.iload_n 2, 1) := by decide +kernel
theorem dX5_bar_14 : decode cX5_bar 14 = .ok (.invokevirtual 112, 3) := by decide +kernel
theorem dX5_bar_17 : decode cX5_bar 17 = .ok (.istore 4, 2) := by decide +kernel
theorem dX5_bar_19 : decode cX5_bar 19 = .ok (.aload_n 0, 1) := by decide +kernel
theorem dX5_bar_20 : decode cX5_bar 20 = .ok (.getfield 34, 3) := by decide +kernel
theorem dX5_bar_23 : decode cX5_bar 23 = .ok (.iload_n 1, 1) := by decide +kernel
theorem dX5_bar_24 : decode cX5_bar 24 = .ok (.iload_n 3, 1) := by decide +kernel
theorem dX5_bar_25 : decode cX5_bar 25 = .ok (.ifCond .eq 16, 3) := by decide +kernel
theorem dX5_bar_28 : decode cX5_bar 28 = .ok (.aload_n 0, 1) := by decide +kernel
theorem dX5_bar_29 : decode cX5_bar 29 = .ok (.getfield 34, 3) := by decide +kernel
theorem dX5_bar_32 : decode cX5_bar 32 = .ok (.iload_n 1, 1) := by decide +kernel
theorem dX5_bar_33 : decode cX5_bar 33 = .ok (.iaload, 1) := by decide +kernel
theorem dX5_bar_34 : decode cX5_bar 34 = .ok (.iconst 1, 1) := by decide +kernel
theorem dX5_bar_35 : decode cX5_bar 35 = .ok (.iload_n 2, 1) := by decide +kernel
theorem dX5_bar_36 : decode cX5_bar 36 = .ok (.ishl, 1) := by decide +kernel
theorem dX5_bar_37 : decode cX5_bar 37 = .ok (.ior, 1) := by decide +kernel
theorem dX5_bar_38 : decode cX5_bar 38 = .ok (.goto 15, 3) := by decide +kernel
theorem dX5_bar_41 : decode cX5_bar 41 = .ok (.aload_n 0, 1) := by decide +kernel
theorem dX5_bar_42 : decode cX5_bar 42 = .ok (.getfield 34, 3) := by decide +kernel
theorem dX5_bar_45 : decode cX5_bar 45 = .ok (.iload_n 1, 1) := by decide +kernel
theorem dX5_bar_46 : decode cX5_bar 46 = .ok (.iaload, 1) := by decide +kernel
theorem dX5_bar_47 : decode cX5_bar 47 = .ok (.iconst 1, 1) := by decide +kernel
theorem dX5_bar_48 : decode cX5_bar 48 = .ok (.iload_n 2, 1) := by decide +kernel
theorem dX5_bar_49 : decode cX5_bar 49 = .ok (.ishl, 1) := by decide +kernel
theorem dX5_bar_50 : decode cX5_bar 50 = .ok (.iconst (-1), 1) := by decide +kernel
theorem dX5_bar_51 : decode cX5_bar 51 = .ok (.ixor, 1) := by decide +kernel
theorem dX5_bar_52 : decode cX5_bar 52 = .ok (.iand, 1) := by decide +kernel
theorem dX5_bar_53 : decode cX5_bar 53 = .ok (.iastore, 1) := by decide +kernel
theorem dX5_bar_54 : decode cX5_bar 54 = .ok (.aload_n 0, 1) := by decide +kernel
theorem dX5_bar_55 : decode cX5_bar 55 = .ok (.getfield 34, 3) := by decide +kernel
theorem dX5_bar_58 : decode cX5_bar 58 = .ok (.iload_n 2, 1) := by decide +kernel
theorem dX5_bar_59 : decode cX5_bar 59 = .ok (.iload_n 3, 1) := by decide +kernel
theorem dX5_bar_60 : decode cX5_bar 60 = .ok (.ifCond .eq 16, 3) := by decide +kernel
theorem dX5_bar_63 : decode cX5_bar 63 = .ok (.aload_n 0, 1) := by decide +kernel
theorem dX5_bar_64 : decode cX5_bar 64 = .ok (.getfield 34, 3) := by decide +kernel
theorem dX5_bar_67 : decode cX5_bar 67 = .ok (.iload_n 2, 1) := by decide +kernel
theorem dX5_bar_68 : decode cX5_bar 68 = .ok (.iaload, 1) := by decide +kernel
theorem dX5_bar_69 : decode cX5_bar 69 = .ok (.iconst 1, 1) := by decide +kernel
theorem dX5_bar_70 : decode cX5_bar 70 = .ok (.iload_n 1, 1) := by decide +kernel
theorem dX5_bar_71 : decode cX5_bar 71 = .ok (.ishl, 1) := by decide +kernel
theorem dX5_bar_72 : decode cX5_bar 72 = .ok (.ior, 1) := by decide +kernel
theorem dX5_bar_73 : decode cX5_bar 73 = .ok (.goto 15, 3) := by decide +kernel
theorem dX5_bar_76 : decode cX5_bar 76 = .ok (.aload_n 0, 1) := by decide +kernel
theorem dX5_bar_77 : decode cX5_bar 77 = .ok (.getfield 34, 3) := by decide +kernel
theorem dX5_bar_80 : decode cX5_bar 80 = .ok (.iload_n 2, 1) := by decide +kernel
theorem dX5_bar_81 : decode cX5_bar 81 = .ok (.iaload, 1) := by decide +kernel
theorem dX5_bar_82 : decode cX5_bar 82 = .ok (.iconst 1, 1) := by decide +kernel
theorem dX5_bar_83 : decode cX5_bar 83 = .ok (.iload_n 1, 1) := by decide +kernel
theorem dX5_bar_84 : decode cX5_bar 84 = .ok (.ishl, 1) := by decide +kernel
theorem dX5_bar_85 : decode cX5_bar 85 = .ok (.iconst (-1), 1) := by decide +kernel
theorem dX5_bar_86 : decode cX5_bar 86 = .ok (.ixor, 1) := by decide +kernel
theorem dX5_bar_87 : decode cX5_bar 87 = .ok (.iand, 1) := by decide +kernel
theorem dX5_bar_88 : decode cX5_bar 88 = .ok (.iastore, 1) := by decide +kernel
theorem dX5_bar_89 : decode cX5_bar 89 = .ok (.iload 4, 2) := by decide +kernel
theorem dX5_bar_91 : decode cX5_bar 91 = .ok (.ireturn, 1) := by decide +kernel
theorem dX5_test_0 : decode cX5_test 0 = .ok (.aload_n 0, 1) := by decide +kernel
theorem dX5_test_1 : decode cX5_test 1 = .ok (.iload_n 1, 1) := by decide +kernel
theorem dX5_test_2 : decode cX5_test 2 = .ok (.iload_n 2, 1) := by decide +kernel
theorem dX5_test_3 : decode cX5_test 3 = .ok (.invokevirtual 105, 3) := by decide +kernel
theorem dX5_test_6 : decode cX5_test 6 = .ok (.ifCond .eq 27, 3) := by decide +kernel
theorem dX5_test_9 : decode cX5_test 9 = .ok (.aload_n 0, 1) := by decide +kernel
theorem dX5_test_10 : decode cX5_test 10 = .ok (.iload_n 3, 1) := by decide +kernel
theorem dX5_test_11 : decode cX5_test 11 = .ok (.iconst 1, 1) := by decide +kernel
theorem dX5_test_12 : decode cX5_test 12 = .ok (.if_icmp .lt 13, 3) := by decide +kernel
theorem dX5_test_15 : decode cX5_test 15 = .ok (.iload_n 3, 1) := by decide +kernel
theorem dX5_test_16 : decode cX5_test 16 = .ok (.bipush 10, 2) := by decide +kernel
theorem dX5_test_18 : decode cX5_test 18 = .ok (.if_icmp .gt 7, 3) := by decide +kernel
theorem dX5_test_21 : decode cX5_test 21 = .ok (.iconst 1, 1) := by decide +kernel
theorem dX5_test_22 : decode cX5_test 22 = .ok (.goto 4, 3) := by decide +kernel
theorem dX5_test_25 : decode cX5_test 25 = .ok (.iconst 0, 1) := by decide +kernel
theorem dX5_test_26 : decode cX5_test 26 = .ok (.iconst 2, 1) := by decide +kernel
theorem dX5_test_27 : decode cX5_test 27 = .ok (.invokevirtual 96, 3) := by decide +kernel
theorem dX5_test_30 : decode cX5_test 30 = .ok (.ifCond .ne 5, 3) := by decide +kernel
theorem dX5_test_33 : decode cX5_test 33 = .ok (.iconst 0, 1) := by decide +kernel
theorem dX5_test_34 : decode cX5_test 34 = .ok (.ireturn, 1) := by decide +kernel
theorem dX5_test_35 : decode cX5_test 35 = .ok (.bipush 8, 2) := by decide +kernel
theorem dX5_test_37 : decode cX5_test 37 = .ok (.iload_n 1, 1) := by decide +kernel
theorem dX5_test_38 : decode cX5_test 38 = .ok (.imul, 1) := by decide +kernel
theorem dX5_test_39 : decode cX5_test 39 = .ok (.iload_n 2, 1) := by decide +kernel
theorem dX5_test_40 : decode cX5_test 40 = .ok (.iadd, 1) := by decide +kernel
theorem dX5_test_41 : decode cX5_test 41 = .ok (.istore 5, 2) := by decide +kernel
theorem dX5_test_43 : decode cX5_test 43 = .ok (.iload 4, 2) := by decide +kernel
theorem dX5_test_45 : decode cX5_test 45 = .ok (.ifCond .eq 22, 3) := by decide +kernel
theorem dX5_test_48 : decode cX5_test 48 = .ok (.iload_n 3, 1) := by decide +kernel
theorem dX5_test_49 : decode cX5_test 49 = .ok (.iconst 1, 1) := by decide +kernel
theorem dX5_test_50 : decode cX5_test 50 = .ok (.isub, 1) := by decide +kernel
theorem dX5_test_51 : decode cX5_test 51 = .ok (.aload_n 0, 1) := by decide +kernel
theorem dX5_test_52 : decode cX5_test 52 = .ok (.getfield 16, 3) := by decide +kernel
theorem dX5_test_55 : decode cX5_test 55 = .ok (.iload 5, 2) := by decide +kernel
theorem dX5_test_57 : decode cX5_test 57 = .ok (.iaload, 1) := by decide +kernel
theorem dX5_test_58 : decode cX5_test 58 = .ok (.if_icmp .le 9, 3) := by decide +kernel
theorem dX5_test_61 : decode cX5_test 61 = .ok (.iload_n 3, 1) := by decide +kernel
theorem dX5_test_62 : decode cX5_test 62 = .ok (.iconst 1, 1) := by decide +kernel
theorem dX5_test_63 : decode cX5_test 63 = .ok (.isub, 1) := by decide +kernel
theorem dX5_test_64 : decode cX5_test 64 = .ok (.goto 10, 3) := by decide +kernel
theorem dX5_test_67 : decode cX5_test 67 = .ok (.aload_n 0, 1) := by decide +kernel
theorem dX5_test_68 : decode cX5_test 68 = .ok (.getfield 16, 3) := by decide +kernel
theorem dX5_test_71 : decode cX5_test 71 = .ok (.iload 5, 2) := by decide +kernel
theorem dX5_test_73 : decode cX5_test 73 = .ok (.iaload, 1) := by decide +kernel
theorem dX5_test_74 : decode cX5_test 74 = .ok (.istore 6, 2) := by decide +kernel
theorem dX5_test_76 : decode cX5_test 76 = .ok (.iload 4, 2) := by decide +kernel
theorem dX5_test_78 : decode cX5_test 78 = .ok (.ifCond .ne 18, 3) := by decide +kernel
theorem dX5_test_81 : decode cX5_test 81 = .ok (.iload_n 3, 1) := by decide +kernel
theorem dX5_test_82 : decode cX5_test 82 = .ok (.aload_n 0, 1) := by decide +kernel
theorem dX5_test_83 : decode cX5_test 83 = .ok (.getfield 19, 3) := by decide +kernel
theorem dX5_test_86 : decode cX5_test 86 = .ok (.iload 5, 2) := by decide +kernel
theorem dX5_test_88 : decode cX5_test 88 = .ok (.iaload, 1) := by decide +kernel
theorem dX5_test_89 : decode cX5_test 89 = .ok (.if_icmp .ge 7, 3) := by decide +kernel
theorem dX5_test_92 : decode cX5_test 92 = .ok (.iload_n 3, 1) := by decide +kernel
theorem dX5_test_93 : decode cX5_test 93 = .ok (.goto 10, 3) := by decide +kernel
theorem dX5_test_96 : decode cX5_test 96 = .ok (.aload_n 0, 1) := by decide +kernel
theorem dX5_test_97 : decode cX5_test 97 = .ok (.getfield 19, 3) := by decide +kernel
theorem dX5_test_100 : decode cX5_test 100 = .ok (.iload 5, 2) := by decide +kernel
theorem dX5_test_102 : decode cX5_test 102 = .ok (.iaload, 1) := by decide +kernel
theorem dX5_test_103 : decode cX5_test 103 = .ok (.istore 7, 2) := by decide +kernel
theorem dX5_test_105 : decode cX5_test 105 = .ok (.iload 6, 2) := by decide +kernel
theorem dX5_test_107 : decode cX5_test 107 = .ok (.iload 7, 2) := by decide +kernel
theorem dX5_test_109 : decode cX5_test 109 = .ok (.if_icmp .le 16, 3) := by decide +kernel
theorem dX5_test_112 : decode cX5_test 112 = .ok (.aload_n 0, 1) := by decide +kernel
theorem dX5_test_113 : decode cX5_test 113 = .ok (.getfield 25, 3) := by decide +kernel
theorem dX5_test_116 : decode cX5_test 116 = .ok (.iload 5, 2) := by decide +kernel
theorem dX5_test_118 : decode cX5_test 118 = .ok (.dup2, 1) := by decide +kernel
theorem dX5_test_119 : decode cX5_test 119 = .ok (.iaload, 1) := by decide +kernel
theorem dX5_test_120 : decode cX5_test 120 = .ok (.iconst 1, 1) := by decide +kernel
theorem dX5_test_121 : decode cX5_test 121 = .ok (.iadd, 1) := by decide +kernel
theorem dX5_test_122 : decode cX5_test 122 = .ok (.iastore, 1) := by decide +kernel
theorem dX5_test_123 : decode cX5_test 123 = .ok (.iconst 0, 1) := by decide +kernel
theorem dX5_test_124 : decode cX5_test 124 = .ok (.ireturn, 1) := by decide +kernel
theorem dX5_test_125 : decode cX5_test 125 = .ok (.aload_n 0, 1) := by decide +kernel
theorem dX5_test_126 : decode cX5_test 126 = .ok (.getfield 16, 3) := by decide +kernel
theorem dX5_test_129 : decode cX5_test 129 = .ok (.iload 5, 2) := by decide +kernel
theorem dX5_test_131 : decode cX5_test 131 = .ok (.iload 6, 2) := by decide +kernel
theorem dX5_test_133 : decode cX5_test 133 = .ok (.iastore, 1) := by decide +kernel
theorem dX5_test_134 : decode cX5_test 134 = .ok (.aload_n 0, 1) := by decide +kernel
theorem dX5_test_135 : decode cX5_test 135 = .ok (.getfield 19, 3) := by decide +kernel
theorem dX5_test_138 : decode cX5_test 138 = .ok (.iload 5, 2) := by decide +kernel
theorem dX5_test_140 : decode cX5_test 140 = .ok (.iload 7, 2) := by decide +kernel
theorem dX5_test_142 : decode cX5_test 142 = .ok (.iastore, 1) := by decide +kernel
theorem dX5_test_143 : decode cX5_test 143 = .ok (.aload_n 0, 1) := by decide +kernel
theorem dX5_test_144 : decode cX5_test 144 = .ok (.getfield 22, 3) := by decide +kernel
theorem dX5_test_147 : decode cX5_test 147 = .ok (.iload 5, 2) := by decide +kernel
theorem dX5_test_149 : decode cX5_test 149 = .ok (.dup2, 1) := by decide +kernel
theorem dX5_test_150 : decode cX5_test 150 = .ok (.iaload, 1) := by decide +kernel
theorem dX5_test_151 : decode cX5_test 151 = .ok (.iconst 1, 1) := by decide +kernel
theorem dX5_test_152 : decode cX5_test 152 = .ok (.iadd, 1) := by decide +kernel
theorem dX5_test_153 : decode cX5_test 153 = .ok (.iastore, 1) := by decide +kernel
theorem dX5_test_154 : decode cX5_test 154 = .ok (.iconst 1, 1) := by decide +kernel
theorem dX5_test_155 : decode cX5_test 155 = .ok (.ireturn, 1) := by decide +kernel
theorem dX5_has_0 : decode cX5_has 0 = .ok (.bipush 8, 2) := by decide +kernel
theorem dX5_has_2 : decode cX5_has 2 = .ok (.iload_n 1, 1) := by decide +kernel
theorem dX5_has_3 : decode cX5_has 3 = .ok (.imul, 1) := by decide +kernel
theorem dX5_has_4 : decode cX5_has 4 = .ok (.iload_n 2, 1) := by decide +kernel
theorem dX5_has_5 : decode cX5_has 5 = .ok (.iadd, 1) := by decide +kernel
theorem dX5_has_6 : decode cX5_has 6 = .ok (.istore_n 3, 1) := by decide +kernel
theorem dX5_has_7 : decode cX5_has 7 = .ok (.aload_n 0, 1) := by decide +kernel
theorem dX5_has_8 : decode cX5_has 8 = .ok (.getfield 16, 3) := by decide +kernel
theorem dX5_has_11 : decode cX5_has 11 = .ok (.iload_n 3, 1) := by decide +kernel
theorem dX5_has_12 : decode cX5_has 12 = .ok (.iaload, 1) := by decide +kernel
theorem dX5_has_13 : decode cX5_has 13 = .ok (.bipush 7, 2) := by decide +kernel
theorem dX5_has_15 : decode cX5_has 15 = .ok (.if_icmp .ge 23, 3) := by decide +kernel
theorem dX5_has_18 : decode cX5_has 18 = .ok (.aload_n 0, 1) := by decide +kernel
theorem dX5_has_19 : decode cX5_has 19 = .ok (.getfield 22, 3) := by decide +kernel
theorem dX5_has_22 : decode cX5_has 22 = .ok (.iload_n 3, 1) := by decide +kernel
theorem dX5_has_23 : decode cX5_has 23 = .ok (.iaload, 1) := by decide +kernel
theorem dX5_has_24 : decode cX5_has 24 = .ok (.ifCond .ne 18, 3) := by decide +kernel
theorem dX5_has_27 : decode cX5_has 27 = .ok (.aload_n 0, 1) := by decide +kernel
theorem dX5_has_28 : decode cX5_has 28 = .ok (.getfield 13, 3) := by decide +kernel
theorem dX5_has_31 : decode cX5_has 31 = .ok (.iload_n 3, 1) := by decide +kernel
theorem dX5_has_32 : decode cX5_has 32 = .ok (.iaload, 1) := by decide +kernel
theorem dX5_has_33 : decode cX5_has 33 = .ok (.bipush 8, 2) := by decide +kernel
theorem dX5_has_35 : decode cX5_has 35 = .ok (.if_icmp .lt 7, 3) := by decide +kernel
theorem dX5_has_38 : decode cX5_has 38 = .ok (.iconst 1, 1) := by decide +kernel
theorem dX5_has_39 : decode cX5_has 39 = .ok (.goto 4, 3) := by decide +kernel
theorem dX5_has_42 : decode cX5_has 42 = .ok (.iconst 0, 1) := by decide +kernel
theorem dX5_has_43 : decode cX5_has 43 = .ok (.ireturn, 1) := by decide +kernel
theorem dX5_level_0 : decode cX5_level 0 = .ok (.aload_n 0, 1) := by decide +kernel
theorem dX5_level_1 : decode cX5_level 1 = .ok (.iload_n 1, 1) := by decide +kernel
theorem dX5_level_2 : decode cX5_level 2 = .ok (.iload_n 2, 1) := by decide +kernel
theorem dX5_level_3 : decode cX5_level 3 = .ok (.invokevirtual 105, 3) := by decide +kernel
theorem dX5_level_6 : decode cX5_level 6 = .ok (.ifCond .eq 25, 3) := by decide +kernel
theorem dX5_level_9 : decode cX5_level 9 = .ok (.aload_n 0, 1) := by decide +kernel
theorem dX5_level_10 : decode cX5_level 10 = .ok (.iload_n 3, 1) := by decide +kernel
theorem dX5_level_11 : decode cX5_level 11 = .ok (.ifCond .lt 12, 3) := by decide +kernel
theorem dX5_level_14 : decode cX5_level 14 = .ok (.iload_n 3, 1) := by decide +kernel
theorem dX5_level_15 : decode cX5_level 15 = .ok (.iconst 5, 1) := by decide +kernel
theorem dX5_level_16 : decode cX5_level 16 = .ok (.if_icmp .gt 7, 3) := by decide +kernel
theorem dX5_level_19 : decode cX5_level 19 = .ok (.iconst 1, 1) := by decide +kernel
theorem dX5_level_20 : decode cX5_level 20 = .ok (.goto 4, 3) := by decide +kernel
theorem dX5_level_23 : decode cX5_level 23 = .ok (.iconst 0, 1) := by decide +kernel
theorem dX5_level_24 : decode cX5_level 24 = .ok (.iconst 1, 1) := by decide +kernel
theorem dX5_level_25 : decode cX5_level 25 = .ok (.invokevirtual 96, 3) := by decide +kernel
theorem dX5_level_28 : decode cX5_level 28 = .ok (.ifCond .ne 5, 3) := by decide +kernel
theorem dX5_level_31 : decode cX5_level 31 = .ok (.iconst 0, 1) := by decide +kernel
theorem dX5_level_32 : decode cX5_level 32 = .ok (.ireturn, 1) := by decide +kernel
theorem dX5_level_33 : decode cX5_level 33 = .ok (.bipush 8, 2) := by decide +kernel
theorem dX5_level_35 : decode cX5_level 35 = .ok (.iload_n 1, 1) := by decide +kernel
theorem dX5_level_36 : decode cX5_level 36 = .ok (.imul, 1) := by decide +kernel
theorem dX5_level_37 : decode cX5_level 37 = .ok (.iload_n 2, 1) := by decide +kernel
theorem dX5_level_38 : decode cX5_level 38 = .ok (.iadd, 1) := by decide +kernel
theorem dX5_level_39 : decode cX5_level 39 = .ok (.istore 4, 2) := by decide +kernel
theorem dX5_level_41 : decode cX5_level 41 = .ok (.iload_n 3, 1) := by decide +kernel
theorem dX5_level_42 : decode cX5_level 42 = .ok (.tableswitch 74 0 4 #[34, 42, 50, 58, 66], 34) := by decide +kernel
theorem dX5_level_76 : decode cX5_level 76 = .ok (.aload_n 0, 1) := by decide +kernel
theorem dX5_level_77 : decode cX5_level 77 = .ok (.getfield 16, 3) := by decide +kernel
theorem dX5_level_80 : decode cX5_level 80 = .ok (.iload 4, 2) := by decide +kernel
theorem dX5_level_82 : decode cX5_level 82 = .ok (.iaload, 1) := by decide +kernel
theorem dX5_level_83 : decode cX5_level 83 = .ok (.ireturn, 1) := by decide +kernel
theorem dX5_level_84 : decode cX5_level 84 = .ok (.aload_n 0, 1) := by decide +kernel
theorem dX5_level_85 : decode cX5_level 85 = .ok (.getfield 19, 3) := by decide +kernel
theorem dX5_level_88 : decode cX5_level 88 = .ok (.iload 4, 2) := by decide +kernel
theorem dX5_level_90 : decode cX5_level 90 = .ok (.iaload, 1) := by decide +kernel
theorem dX5_level_91 : decode cX5_level 91 = .ok (.ireturn, 1) := by decide +kernel
theorem dX5_level_92 : decode cX5_level 92 = .ok (.aload_n 0, 1) := by decide +kernel
theorem dX5_level_93 : decode cX5_level 93 = .ok (.getfield 13, 3) := by decide +kernel
theorem dX5_level_96 : decode cX5_level 96 = .ok (.iload 4, 2) := by decide +kernel
theorem dX5_level_98 : decode cX5_level 98 = .ok (.iaload, 1) := by decide +kernel
theorem dX5_level_99 : decode cX5_level 99 = .ok (.ireturn, 1) := by decide +kernel
theorem dX5_level_100 : decode cX5_level 100 = .ok (.aload_n 0, 1) := by decide +kernel
theorem dX5_level_101 : decode cX5_level 101 = .ok (.getfield 22, 3) := by decide +kernel
theorem dX5_level_104 : decode cX5_level 104 = .ok (.iload 4, 2) := by decide +kernel
theorem dX5_level_106 : decode cX5_level 106 = .ok (.iaload, 1) := by decide +kernel
theorem dX5_level_107 : decode cX5_level 107 = .ok (.ireturn, 1) := by decide +kernel
theorem dX5_level_108 : decode cX5_level 108 = .ok (.aload_n 0, 1) := by decide +kernel
theorem dX5_level_109 : decode cX5_level 109 = .ok (.getfield 25, 3) := by decide +kernel
theorem dX5_level_112 : decode cX5_level 112 = .ok (.iload 4, 2) := by decide +kernel
theorem dX5_level_114 : decode cX5_level 114 = .ok (.iaload, 1) := by decide +kernel
theorem dX5_level_115 : decode cX5_level 115 = .ok (.ireturn, 1) := by decide +kernel
theorem dX5_level_116 : decode cX5_level 116 = .ok (.aload_n 0, 1) := by decide +kernel
theorem dX5_level_117 : decode cX5_level 117 = .ok (.iload_n 1, 1) := by decide +kernel
theorem dX5_level_118 : decode cX5_level 118 = .ok (.iload_n 2, 1) := by decide +kernel
theorem dX5_level_119 : decode cX5_level 119 = .ok (.invokevirtual 115, 3) := by decide +kernel
theorem dX5_level_122 : decode cX5_level 122 = .ok (.ifCond .eq 7, 3) := by decide +kernel
theorem dX5_level_125 : decode cX5_level 125 = .ok (.iconst 1, 1) := by decide +kernel
theorem dX5_level_126 : decode cX5_level 126 = .ok (.goto 4, 3) := by decide +kernel
theorem dX5_level_129 : decode cX5_level 129 = .ok (.iconst 0, 1) := by decide +kernel
theorem dX5_level_130 : decode cX5_level 130 = .ok (.ireturn, 1) := by decide +kernel
theorem dX5_giftOf_0 : decode cX5_giftOf 0 = .ok (.iconst 0, 1) := by decide +kernel
theorem dX5_giftOf_1 : decode cX5_giftOf 1 = .ok (.istore_n 3, 1) := by decide +kernel
theorem dX5_giftOf_2 : decode cX5_giftOf 2 = .ok (.iload_n 3, 1) := by decide +kernel
theorem dX5_giftOf_3 : decode cX5_giftOf 3 = .ok (.aload_n 0, 1) := by decide +kernel
theorem dX5_giftOf_4 : decode cX5_giftOf 4 = .ok (.getfield 31, 3) := by decide +kernel
theorem dX5_giftOf_7 : decode cX5_giftOf 7 = .ok (.iload_n 2, 1) := by decide +kernel
theorem dX5_giftOf_8 : decode cX5_giftOf 8 = .ok (.iaload, 1) := by decide +kernel
theorem dX5_giftOf_9 : decode cX5_giftOf 9 = .ok (.if_icmp .ge 38, 3) := by decide +kernel
theorem dX5_giftOf_12 : decode cX5_giftOf 12 = .ok (.aload_n 0, 1) := by decide +kernel
theorem dX5_giftOf_13 : decode cX5_giftOf 13 = .ok (.iload_n 1, 1) := by decide +kernel
theorem dX5_giftOf_14 : decode cX5_giftOf 14 = .ok (.aload_n 0, 1) := by decide +kernel
theorem dX5_giftOf_15 : decode cX5_giftOf 15 = .ok (.getfield 28, 3) := by decide +kernel
theorem dX5_giftOf_18 : decode cX5_giftOf 18 = .ok (.iconst 2, 1) := by decide +kernel
theorem dX5_giftOf_19 : decode cX5_giftOf 19 = .ok (.iload_n 2, 1) := by decide +kernel
theorem dX5_giftOf_20 : decode cX5_giftOf 20 = .ok (.imul, 1) := by decide +kernel
theorem dX5_giftOf_21 : decode cX5_giftOf 21 = .ok (.iload_n 3, 1) := by decide +kernel
theorem dX5_giftOf_22 : decode cX5_giftOf 22 = .ok (.iadd, 1) := by decide +kernel
theorem dX5_giftOf_23 : decode cX5_giftOf 23 = .ok (.iaload, 1) := by decide +kernel
theorem dX5_giftOf_24 : decode cX5_giftOf 24 = .ok (.invokevirtual 115, 3) := by decide +kernel
theorem dX5_giftOf_27 : decode cX5_giftOf 27 = .ok (.ifCond .eq 14, 3) := by decide +kernel
theorem dX5_giftOf_30 : decode cX5_giftOf 30 = .ok (.aload_n 0, 1) := by decide +kernel
theorem dX5_giftOf_31 : decode cX5_giftOf 31 = .ok (.getfield 28, 3) := by decide +kernel
theorem dX5_giftOf_34 : decode cX5_giftOf 34 = .ok (.iconst 2, 1) := by decide +kernel
theorem dX5_giftOf_35 : decode cX5_giftOf 35 = .ok (.iload_n 2, 1) := by decide +kernel
theorem dX5_giftOf_36 : decode cX5_giftOf 36 = .ok (.imul, 1) := by decide +kernel
theorem dX5_giftOf_37 : decode cX5_giftOf 37 = .ok (.iload_n 3, 1) := by decide +kernel
theorem dX5_giftOf_38 : decode cX5_giftOf 38 = .ok (.iadd, 1) := by decide +kernel
theorem dX5_giftOf_39 : decode cX5_giftOf 39 = .ok (.iaload, 1) := by decide +kernel
theorem dX5_giftOf_40 : decode cX5_giftOf 40 = .ok (.ireturn, 1) := by decide +kernel
theorem dX5_giftOf_41 : decode cX5_giftOf 41 = .ok (.iinc 3 1, 3) := by decide +kernel
theorem dX5_giftOf_44 : decode cX5_giftOf 44 = .ok (.goto (-42), 3) := by decide +kernel
theorem dX5_giftOf_47 : decode cX5_giftOf 47 = .ok (.iconst (-1), 1) := by decide +kernel
theorem dX5_giftOf_48 : decode cX5_giftOf 48 = .ok (.ireturn, 1) := by decide +kernel
theorem dX5_gift_0 : decode cX5_gift 0 = .ok (.aload_n 0, 1) := by decide +kernel
theorem dX5_gift_1 : decode cX5_gift 1 = .ok (.iload_n 1, 1) := by decide +kernel
theorem dX5_gift_2 : decode cX5_gift 2 = .ok (.iload_n 2, 1) := by decide +kernel
theorem dX5_gift_3 : decode cX5_gift 3 = .ok (.invokevirtual 109, 3) := by decide +kernel
theorem dX5_gift_6 : decode cX5_gift 6 = .ok (.ifCond .eq 12, 3) := by decide +kernel
theorem dX5_gift_9 : decode cX5_gift 9 = .ok (.aload_n 0, 1) := by decide +kernel
theorem dX5_gift_10 : decode cX5_gift 10 = .ok (.iload_n 1, 1) := by decide +kernel
theorem dX5_gift_11 : decode cX5_gift 11 = .ok (.iload_n 2, 1) := by decide +kernel
theorem dX5_gift_12 : decode cX5_gift 12 = .ok (.invokevirtual 118, 3) := by decide +kernel
theorem dX5_gift_15 : decode cX5_gift 15 = .ok (.goto 4, 3) := by decide +kernel
theorem dX5_gift_18 : decode cX5_gift 18 = .ok (.iconst 0, 1) := by decide +kernel
theorem dX5_gift_19 : decode cX5_gift 19 = .ok (.ireturn, 1) := by decide +kernel
theorem dX5_both_0 : decode cX5_both 0 = .ok (.aload_n 0, 1) := by decide +kernel
theorem dX5_both_1 : decode cX5_both 1 = .ok (.iload_n 1, 1) := by decide +kernel
theorem dX5_both_2 : decode cX5_both 2 = .ok (.iload_n 2, 1) := by decide +kernel
theorem dX5_both_3 : decode cX5_both 3 = .ok (.invokevirtual 112, 3) := by decide +kernel
theorem dX5_both_6 : decode cX5_both 6 = .ok (.ifCond .eq 7, 3) := by decide +kernel
theorem dX5_both_9 : decode cX5_both 9 = .ok (.iconst 0, 1) := by decide +kernel
theorem dX5_both_10 : decode cX5_both 10 = .ok (.goto 16, 3) := by decide +kernel
theorem dX5_both_13 : decode cX5_both 13 = .ok (.aload_n 0, 1) := by decide +kernel
theorem dX5_both_14 : decode cX5_both 14 = .ok (.getfield 7, 3) := by decide +kernel
theorem dX5_both_17 : decode cX5_both 17 = .ok (.iload_n 1, 1) := by decide +kernel
theorem dX5_both_18 : decode cX5_both 18 = .ok (.iaload, 1) := by decide +kernel
theorem dX5_both_19 : decode cX5_both 19 = .ok (.aload_n 0, 1) := by decide +kernel
theorem dX5_both_20 : decode cX5_both 20 = .ok (.getfield 7, 3) := by decide +kernel
theorem dX5_both_23 : decode cX5_both 23 = .ok (.iload_n 2, 1) := by decide +kernel
theorem dX5_both_24 : decode cX5_both 24 = .ok (.iaload, 1) := by decide +kernel
theorem dX5_both_25 : decode cX5_both 25 = .ok (.iand, 1) := by decide +kernel
theorem dX5_both_26 : decode cX5_both 26 = .ok (.ireturn, 1) := by decide +kernel
theorem dX5_hour_0 : decode cX5_hour 0 = .ok (.iconst 0, 1) := by decide +kernel
theorem dX5_hour_1 : decode cX5_hour 1 = .ok (.istore_n 3, 1) := by decide +kernel
theorem dX5_hour_2 : decode cX5_hour 2 = .ok (.iload_n 3, 1) := by decide +kernel
theorem dX5_hour_3 : decode cX5_hour 3 = .ok (.bipush 24, 2) := by decide +kernel
theorem dX5_hour_5 : decode cX5_hour 5 = .ok (.if_icmp .ge 30, 3) := by decide +kernel
theorem dX5_hour_8 : decode cX5_hour 8 = .ok (.iload_n 0, 1) := by decide +kernel
theorem dX5_hour_9 : decode cX5_hour 9 = .ok (.iload_n 3, 1) := by decide +kernel
theorem dX5_hour_10 : decode cX5_hour 10 = .ok (.ishr, 1) := by decide +kernel
theorem dX5_hour_11 : decode cX5_hour 11 = .ok (.iconst 1, 1) := by decide +kernel
theorem dX5_hour_12 : decode cX5_hour 12 = .ok (.iand, 1) := by decide +kernel
theorem dX5_hour_13 : decode cX5_hour 13 = .ok (.iconst 1, 1) := by decide +kernel
theorem dX5_hour_14 : decode cX5_hour 14 = .ok (.if_icmp .ne 15, 3) := by decide +kernel
theorem dX5_hour_17 : decode cX5_hour 17 = .ok (.iload_n 3, 1) := by decide +kernel
theorem dX5_hour_18 : decode cX5_hour 18 = .ok (.iload_n 1, 1) := by decide +kernel
theorem dX5_hour_19 : decode cX5_hour 19 = .ok (.if_icmp .eq 10, 3) := by decide +kernel
theorem dX5_hour_22 : decode cX5_hour 22 = .ok (.iload_n 3, 1) := by decide +kernel
theorem dX5_hour_23 : decode cX5_hour 23 = .ok (.iload_n 2, 1) := by decide +kernel
theorem dX5_hour_24 : decode cX5_hour 24 = .ok (.if_icmp .eq 5, 3) := by decide +kernel
theorem dX5_hour_27 : decode cX5_hour 27 = .ok (.iload_n 3, 1) := by decide +kernel
theorem dX5_hour_28 : decode cX5_hour 28 = .ok (.ireturn, 1) := by decide +kernel
theorem dX5_hour_29 : decode cX5_hour 29 = .ok (.iinc 3 1, 3) := by decide +kernel
theorem dX5_hour_32 : decode cX5_hour 32 = .ok (.goto (-30), 3) := by decide +kernel
theorem dX5_hour_35 : decode cX5_hour 35 = .ok (.iconst (-1), 1) := by decide +kernel
theorem dX5_hour_36 : decode cX5_hour 36 = .ok (.ireturn, 1) := by decide +kernel
theorem dX5_meet_0 : decode cX5_meet 0 = .ok (.aload_n 0, 1) := by decide +kernel
theorem dX5_meet_1 : decode cX5_meet 1 = .ok (.iload_n 1, 1) := by decide +kernel
theorem dX5_meet_2 : decode cX5_meet 2 = .ok (.iload_n 2, 1) := by decide +kernel
theorem dX5_meet_3 : decode cX5_meet 3 = .ok (.invokevirtual 109, 3) := by decide +kernel
theorem dX5_meet_6 : decode cX5_meet 6 = .ok (.ifCond .eq 17, 3) := by decide +kernel
theorem dX5_meet_9 : decode cX5_meet 9 = .ok (.aload_n 0, 1) := by decide +kernel
theorem dX5_meet_10 : decode cX5_meet 10 = .ok (.iload_n 1, 1) := by decide +kernel
theorem dX5_meet_11 : decode cX5_meet 11 = .ok (.iload_n 2, 1) := by decide +kernel
theorem dX5_meet_12 : decode cX5_meet 12 = .ok (.invokevirtual 122, 3) := by decide +kernel
theorem dX5_meet_15 : decode cX5_meet 15 = .ok (.iconst (-1), 1) := by decide +kernel
theorem dX5_meet_16 : decode cX5_meet 16 = .ok (.iconst (-1), 1) := by decide +kernel
theorem dX5_meet_17 : decode cX5_meet 17 = .ok (.invokestatic 125, 3) := by decide +kernel
theorem dX5_meet_20 : decode cX5_meet 20 = .ok (.goto 4, 3) := by decide +kernel
theorem dX5_meet_23 : decode cX5_meet 23 = .ok (.iconst 0, 1) := by decide +kernel
theorem dX5_meet_24 : decode cX5_meet 24 = .ok (.ireturn, 1) := by decide +kernel
theorem dX5_isPair_0 : decode cX5_isPair 0 = .ok (.iload_n 1, 1) := by decide +kernel
theorem dX5_isPair_1 : decode cX5_isPair 1 = .ok (.iload_n 2, 1) := by decide +kernel
theorem dX5_isPair_2 : decode cX5_isPair 2 = .ok (.if_icmp .ge 23, 3) := by decide +kernel
theorem dX5_isPair_5 : decode cX5_isPair 5 = .ok (.aload_n 0, 1) := by decide +kernel
theorem dX5_isPair_6 : decode cX5_isPair 6 = .ok (.iload_n 1, 1) := by decide +kernel
theorem dX5_isPair_7 : decode cX5_isPair 7 = .ok (.iload_n 2, 1) := by decide +kernel
theorem dX5_isPair_8 : decode cX5_isPair 8 = .ok (.invokevirtual 118, 3) := by decide +kernel
theorem dX5_isPair_11 : decode cX5_isPair 11 = .ok (.iconst (-1), 1) := by decide +kernel
theorem dX5_isPair_12 : decode cX5_isPair 12 = .ok (.if_icmp .eq 13, 3) := by decide +kernel
theorem dX5_isPair_15 : decode cX5_isPair 15 = .ok (.aload_n 0, 1) := by decide +kernel
theorem dX5_isPair_16 : decode cX5_isPair 16 = .ok (.iload_n 2, 1) := by decide +kernel
theorem dX5_isPair_17 : decode cX5_isPair 17 = .ok (.iload_n 1, 1) := by decide +kernel
theorem dX5_isPair_18 : decode cX5_isPair 18 = .ok (.invokevirtual 118, 3) := by decide +kernel
theorem dX5_isPair_21 : decode cX5_isPair 21 = .ok (.iconst (-1), 1) := by decide +kernel
theorem dX5_isPair_22 : decode cX5_isPair 22 = .ok (.if_icmp .ne 5, 3) := by decide +kernel
theorem dX5_isPair_25 : decode cX5_isPair 25 = .ok (.iconst 0, 1) := by decide +kernel
theorem dX5_isPair_26 : decode cX5_isPair 26 = .ok (.ireturn, 1) := by decide +kernel
theorem dX5_isPair_27 : decode cX5_isPair 27 = .ok (.aload_n 0, 1) := by decide +kernel
theorem dX5_isPair_28 : decode cX5_isPair 28 = .ok (.getfield 65, 3) := by decide +kernel
theorem dX5_isPair_31 : decode cX5_isPair 31 = .ok (.iconst 0, 1) := by decide +kernel
theorem dX5_isPair_32 : decode cX5_isPair 32 = .ok (.aload_n 0, 1) := by decide +kernel
theorem dX5_isPair_33 : decode cX5_isPair 33 = .ok (.iload_n 1, 1) := by decide +kernel
theorem dX5_isPair_34 : decode cX5_isPair 34 = .ok (.iload_n 2, 1) := by decide +kernel
theorem dX5_isPair_35 : decode cX5_isPair 35 = .ok (.invokevirtual 122, 3) := by decide +kernel
theorem dX5_isPair_38 : decode cX5_isPair 38 = .ok (.iconst (-1), 1) := by decide +kernel
theorem dX5_isPair_39 : decode cX5_isPair 39 = .ok (.iconst (-1), 1) := by decide +kernel
theorem dX5_isPair_40 : decode cX5_isPair 40 = .ok (.invokestatic 125, 3) := by decide +kernel
theorem dX5_isPair_43 : decode cX5_isPair 43 = .ok (.iastore, 1) := by decide +kernel
theorem dX5_isPair_44 : decode cX5_isPair 44 = .ok (.aload_n 0, 1) := by decide +kernel
theorem dX5_isPair_45 : decode cX5_isPair 45 = .ok (.getfield 65, 3) := by decide +kernel
theorem dX5_isPair_48 : decode cX5_isPair 48 = .ok (.iconst 0, 1) := by decide +kernel
theorem dX5_isPair_49 : decode cX5_isPair 49 = .ok (.iaload, 1) := by decide +kernel
theorem dX5_isPair_50 : decode cX5_isPair 50 = .ok (.iconst (-1), 1) := by decide +kernel
theorem dX5_isPair_51 : decode cX5_isPair 51 = .ok (.if_icmp .eq 7, 3) := by decide +kernel
theorem dX5_isPair_54 : decode cX5_isPair 54 = .ok (.iconst 1, 1) := by decide +kernel
theorem dX5_isPair_55 : decode cX5_isPair 55 = .ok (.goto 4, 3) := by decide +kernel
theorem dX5_isPair_58 : decode cX5_isPair 58 = .ok (.iconst 0, 1) := by decide +kernel
theorem dX5_isPair_59 : decode cX5_isPair 59 = .ok (.ireturn, 1) := by decide +kernel
theorem dX5_isThree_0 : decode cX5_isThree 0 = .ok (.iload_n 1, 1) := by decide +kernel
theorem dX5_isThree_1 : decode cX5_isThree 1 = .ok (.iload_n 2, 1) := by decide +kernel
theorem dX5_isThree_2 : decode cX5_isThree 2 = .ok (.if_icmp .ge 43, 3) := by decide +kernel
theorem dX5_isThree_5 : decode cX5_isThree 5 = .ok (.iload_n 1, 1) := by decide +kernel
theorem dX5_isThree_6 : decode cX5_isThree 6 = .ok (.iload_n 3, 1) := by decide +kernel
theorem dX5_isThree_7 : decode cX5_isThree 7 = .ok (.if_icmp .ge 38, 3) := by decide +kernel
theorem dX5_isThree_10 : decode cX5_isThree 10 = .ok (.iload_n 2, 1) := by decide +kernel
theorem dX5_isThree_11 : decode cX5_isThree 11 = .ok (.iload_n 3, 1) := by decide +kernel
theorem dX5_isThree_12 : decode cX5_isThree 12 = .ok (.if_icmp .eq 33, 3) := by decide +kernel
theorem dX5_isThree_15 : decode cX5_isThree 15 = .ok (.aload_n 0, 1) := by decide +kernel
theorem dX5_isThree_16 : decode cX5_isThree 16 = .ok (.iload_n 1, 1) := by decide +kernel
theorem dX5_isThree_17 : decode cX5_isThree 17 = .ok (.iload_n 2, 1) := by decide +kernel
theorem dX5_isThree_18 : decode cX5_isThree 18 = .ok (.invokevirtual 118, 3) := by decide +kernel
theorem dX5_isThree_21 : decode cX5_isThree 21 = .ok (.iconst (-1), 1) := by decide +kernel
theorem dX5_isThree_22 : decode cX5_isThree 22 = .ok (.if_icmp .eq 23, 3) := by decide +kernel
theorem dX5_isThree_25 : decode cX5_isThree 25 = .ok (.aload_n 0, 1) := by decide +kernel
theorem dX5_isThree_26 : decode cX5_isThree 26 = .ok (.iload_n 2, 1) := by decide +kernel
theorem dX5_isThree_27 : decode cX5_isThree 27 = .ok (.iload_n 3, 1) := by decide +kernel
theorem dX5_isThree_28 : decode cX5_isThree 28 = .ok (.invokevirtual 118, 3) := by decide +kernel
theorem dX5_isThree_31 : decode cX5_isThree 31 = .ok (.iconst (-1), 1) := by decide +kernel
theorem dX5_isThree_32 : decode cX5_isThree 32 = .ok (.if_icmp .eq 13, 3) := by decide +kernel
theorem dX5_isThree_35 : decode cX5_isThree 35 = .ok (.aload_n 0, 1) := by decide +kernel
theorem dX5_isThree_36 : decode cX5_isThree 36 = .ok (.iload_n 3, 1) := by decide +kernel
theorem dX5_isThree_37 : decode cX5_isThree 37 = .ok (.iload_n 1, 1) := by decide +kernel
theorem dX5_isThree_38 : decode cX5_isThree 38 = .ok (.invokevirtual 118, 3) := by decide +kernel
theorem dX5_isThree_41 : decode cX5_isThree 41 = .ok (.iconst (-1), 1) := by decide +kernel
theorem dX5_isThree_42 : decode cX5_isThree 42 = .ok (.if_icmp .ne 5, 3) := by decide +kernel
theorem dX5_isThree_45 : decode cX5_isThree 45 = .ok (.iconst 0, 1) := by decide +kernel
theorem dX5_isThree_46 : decode cX5_isThree 46 = .ok (.ireturn, 1) := by decide +kernel
theorem dX5_isThree_47 : decode cX5_isThree 47 = .ok (.iconst 0, 1) := by decide +kernel
theorem dX5_isThree_48 : decode cX5_isThree 48 = .ok (.istore 4, 2) := by decide +kernel
theorem dX5_isThree_50 : decode cX5_isThree 50 = .ok (.iload 4, 2) := by decide +kernel
theorem dX5_isThree_52 : decode cX5_isThree 52 = .ok (.bipush 24, 2) := by decide +kernel
theorem dX5_isThree_54 : decode cX5_isThree 54 = .ok (.if_icmp .ge 116, 3) := by decide +kernel
theorem dX5_isThree_57 : decode cX5_isThree 57 = .ok (.aload_n 0, 1) := by decide +kernel
theorem dX5_isThree_58 : decode cX5_isThree 58 = .ok (.iload_n 1, 1) := by decide +kernel
theorem dX5_isThree_59 : decode cX5_isThree 59 = .ok (.iload_n 2, 1) := by decide +kernel
theorem dX5_isThree_60 : decode cX5_isThree 60 = .ok (.invokevirtual 122, 3) := by decide +kernel
theorem dX5_isThree_63 : decode cX5_isThree 63 = .ok (.iload 4, 2) := by decide +kernel
theorem dX5_isThree_65 : decode cX5_isThree 65 = .ok (.ishr, 1) := by decide +kernel
theorem dX5_isThree_66 : decode cX5_isThree 66 = .ok (.iconst 1, 1) := by decide +kernel
theorem dX5_isThree_67 : decode cX5_isThree 67 = .ok (.iand, 1) := by decide +kernel
theorem dX5_isThree_68 : decode cX5_isThree 68 = .ok (.ifCond .ne 6, 3) := by decide +kernel
theorem dX5_isThree_71 : decode cX5_isThree 71 = .ok (.goto 93, 3) := by decide +kernel
theorem dX5_isThree_74 : decode cX5_isThree 74 = .ok (.iconst 0, 1) := by decide +kernel
theorem dX5_isThree_75 : decode cX5_isThree 75 = .ok (.istore 5, 2) := by decide +kernel
theorem dX5_isThree_77 : decode cX5_isThree 77 = .ok (.iload 5, 2) := by decide +kernel
theorem dX5_isThree_79 : decode cX5_isThree 79 = .ok (.bipush 24, 2) := by decide +kernel
theorem dX5_isThree_81 : decode cX5_isThree 81 = .ok (.if_icmp .ge 83, 3) := by decide +kernel
theorem dX5_isThree_84 : decode cX5_isThree 84 = .ok (.iload 5, 2) := by decide +kernel
theorem dX5_isThree_86 : decode cX5_isThree 86 = .ok (.iload 4, 2) := by decide +kernel
theorem dX5_isThree_88 : decode cX5_isThree 88 = .ok (.if_icmp .eq 70, 3) := by decide +kernel
theorem dX5_isThree_91 : decode cX5_isThree 91 = .ok (.aload_n 0, 1) := by decide +kernel
theorem dX5_isThree_92 : decode cX5_isThree 92 = .ok (.iload_n 2, 1) := by decide +kernel
theorem dX5_isThree_93 : decode cX5_isThree 93 = .ok (.iload_n 3, 1) := by decide +kernel
theorem dX5_isThree_94 : decode cX5_isThree 94 = .ok (.invokevirtual 122, 3) := by decide +kernel
theorem dX5_isThree_97 : decode cX5_isThree 97 = .ok (.iload 5, 2) := by decide +kernel
theorem dX5_isThree_99 : decode cX5_isThree 99 = .ok (.ishr, 1) := by decide +kernel
theorem dX5_isThree_100 : decode cX5_isThree 100 = .ok (.iconst 1, 1) := by decide +kernel
theorem dX5_isThree_101 : decode cX5_isThree 101 = .ok (.iand, 1) := by decide +kernel
theorem dX5_isThree_102 : decode cX5_isThree 102 = .ok (.ifCond .ne 6, 3) := by decide +kernel
theorem dX5_isThree_105 : decode cX5_isThree 105 = .ok (.goto 53, 3) := by decide +kernel
theorem dX5_isThree_108 : decode cX5_isThree 108 = .ok (.aload_n 0, 1) := by decide +kernel
theorem dX5_isThree_109 : decode cX5_isThree 109 = .ok (.iload_n 3, 1) := by decide +kernel
theorem dX5_isThree_110 : decode cX5_isThree 110 = .ok (.iload_n 1, 1) := by decide +kernel
theorem dX5_isThree_111 : decode cX5_isThree 111 = .ok (.invokevirtual 122, 3) := by decide +kernel
theorem dX5_isThree_114 : decode cX5_isThree 114 = .ok (.iload 4, 2) := by decide +kernel
theorem dX5_isThree_116 : decode cX5_isThree 116 = .ok (.iload 5, 2) := by decide +kernel
theorem dX5_isThree_118 : decode cX5_isThree 118 = .ok (.invokestatic 125, 3) := by decide +kernel
theorem dX5_isThree_121 : decode cX5_isThree 121 = .ok (.istore 6, 2) := by decide +kernel
theorem dX5_isThree_123 : decode cX5_isThree 123 = .ok (.iload 6, 2) := by decide +kernel
theorem dX5_isThree_125 : decode cX5_isThree 125 = .ok (.iconst (-1), 1) := by decide +kernel
theorem dX5_isThree_126 : decode cX5_isThree 126 = .ok (.if_icmp .ne 6, 3) := by decide +kernel
theorem dX5_isThree_129 : decode cX5_isThree 129 = .ok (.goto 29, 3) := by decide +kernel
theorem dX5_isThree_132 : decode cX5_isThree 132 = .ok (.aload_n 0, 1) := by decide +kernel
theorem dX5_isThree_133 : decode cX5_isThree 133 = .ok (.getfield 65, 3) := by decide +kernel
theorem dX5_isThree_136 : decode cX5_isThree 136 = .ok (.iconst 0, 1) := by decide +kernel
theorem dX5_isThree_137 : decode cX5_isThree 137 = .ok (.iload 4, 2) := by decide +kernel
theorem dX5_isThree_139 : decode cX5_isThree 139 = .ok (.iastore, 1) := by decide +kernel
theorem dX5_isThree_140 : decode cX5_isThree 140 = .ok (.aload_n 0, 1) := by decide +kernel
theorem dX5_isThree_141 : decode cX5_isThree 141 = .ok (.getfield 65, 3) := by decide +kernel
theorem dX5_isThree_144 : decode cX5_isThree 144 = .ok (.iconst 1, 1) := by decide +kernel
theorem dX5_isThree_145 : decode cX5_isThree 145 = .ok (.iload 5, 2) := by decide +kernel
theorem dX5_isThree_147 : decode cX5_isThree 147 = .ok (.iastore, 1) := by decide +kernel
theorem dX5_isThree_148 : decode cX5_isThree 148 = .ok (.aload_n 0, 1) := by decide +kernel
theorem dX5_isThree_149 : decode cX5_isThree 149 = .ok (.getfield 65, 3) := by decide +kernel
theorem dX5_isThree_152 : decode cX5_isThree 152 = .ok (.iconst 2, 1) := by decide +kernel
theorem dX5_isThree_153 : decode cX5_isThree 153 = .ok (.iload 6, 2) := by decide +kernel
theorem dX5_isThree_155 : decode cX5_isThree 155 = .ok (.iastore, 1) := by decide +kernel
theorem dX5_isThree_156 : decode cX5_isThree 156 = .ok (.iconst 1, 1) := by decide +kernel
theorem dX5_isThree_157 : decode cX5_isThree 157 = .ok (.ireturn, 1) := by decide +kernel
theorem dX5_isThree_158 : decode cX5_isThree 158 = .ok (.iinc 5 1, 3) := by decide +kernel
theorem dX5_isThree_161 : decode cX5_isThree 161 = .ok (.goto (-84), 3) := by decide +kernel
theorem dX5_isThree_164 : decode cX5_isThree 164 = .ok (.iinc 4 1, 3) := by decide +kernel
theorem dX5_isThree_167 : decode cX5_isThree 167 = .ok (.goto (-117), 3) := by decide +kernel
theorem dX5_isThree_170 : decode cX5_isThree 170 = .ok (.iconst 0, 1) := by decide +kernel
theorem dX5_isThree_171 : decode cX5_isThree 171 = .ok (.ireturn, 1) := by decide +kernel
theorem dX5_ring_0 : decode cX5_ring 0 = .ok (.aload_n 0, 1) := by decide +kernel
theorem dX5_ring_1 : decode cX5_ring 1 = .ok (.iconst 0, 1) := by decide +kernel
theorem dX5_ring_2 : decode cX5_ring 2 = .ok (.putfield 89, 3) := by decide +kernel
theorem dX5_ring_5 : decode cX5_ring 5 = .ok (.iload_n 1, 1) := by decide +kernel
theorem dX5_ring_6 : decode cX5_ring 6 = .ok (.ifCond .lt 40, 3) := by decide +kernel
theorem dX5_ring_9 : decode cX5_ring 9 = .ok (.iload_n 1, 1) := by decide +kernel
theorem dX5_ring_10 : decode cX5_ring 10 = .ok (.aload_n 0, 1) := by decide +kernel
theorem dX5_ring_11 : decode cX5_ring 11 = .ok (.getfield 93, 3) := by decide +kernel
theorem dX5_ring_14 : decode cX5_ring 14 = .ok (.if_icmp .ge 32, 3) := by decide +kernel
theorem dX5_ring_17 : decode cX5_ring 17 = .ok (.iload_n 2, 1) := by decide +kernel
theorem dX5_ring_18 : decode cX5_ring 18 = .ok (.ifCond .lt 28, 3) := by decide +kernel
theorem dX5_ring_21 : decode cX5_ring 21 = .ok (.iload_n 2, 1) := by decide +kernel
theorem dX5_ring_22 : decode cX5_ring 22 = .ok (.aload_n 0, 1) := by decide +kernel
theorem dX5_ring_23 : decode cX5_ring 23 = .ok (.getfield 93, 3) := by decide +kernel
theorem dX5_ring_26 : decode cX5_ring 26 = .ok (.if_icmp .ge 20, 3) := by decide +kernel
theorem dX5_ring_29 : decode cX5_ring 29 = .ok (.iload_n 3, 1) := by decide +kernel
theorem dX5_ring_30 : decode cX5_ring 30 = .ok (.iconst (-1), 1) := by decide +kernel
theorem dX5_ring_31 : decode cX5_ring 31 = .ok (.if_icmp .lt 15, 3) := by decide +kernel
theorem dX5_ring_34 : decode cX5_ring 34 = .ok (.iload_n 3, 1) := by decide +kernel
theorem dX5_ring_35 : decode cX5_ring 35 = .ok (.aload_n 0, 1) := by decide +kernel
theorem dX5_ring_36 : decode cX5_ring 36 = .ok (.getfield 93, 3) := by decide +kernel
theorem dX5_ring_39 : decode cX5_ring 39 = .ok (.if_icmp .ge 7, 3) := by decide +kernel
theorem dX5_ring_42 : decode cX5_ring 42 = .ok (.iconst 1, 1) := by decide +kernel
theorem dX5_ring_43 : decode cX5_ring 43 = .ok (.goto 4, 3) := by decide +kernel
theorem dX5_ring_46 : decode cX5_ring 46 = .ok (.iconst 0, 1) := by decide +kernel
theorem dX5_ring_47 : decode cX5_ring 47 = .ok (.istore 5, 2) := by decide +kernel
theorem dX5_ring_49 : decode cX5_ring 49 = .ok (.aload_n 0, 1) := by decide +kernel
theorem dX5_ring_50 : decode cX5_ring 50 = .ok (.iload 5, 2) := by decide +kernel
theorem dX5_ring_52 : decode cX5_ring 52 = .ok (.ifCond .eq 29, 3) := by decide +kernel
theorem dX5_ring_55 : decode cX5_ring 55 = .ok (.iload 4, 2) := by decide +kernel
theorem dX5_ring_57 : decode cX5_ring 57 = .ok (.ifCond .eq 20, 3) := by decide +kernel
theorem dX5_ring_60 : decode cX5_ring 60 = .ok (.iload_n 3, 1) := by decide +kernel
theorem dX5_ring_61 : decode cX5_ring 61 = .ok (.iconst (-1), 1) := by decide +kernel
theorem dX5_ring_62 : decode cX5_ring 62 = .ok (.if_icmp .eq 19, 3) := by decide +kernel
theorem dX5_ring_65 : decode cX5_ring 65 = .ok (.iload 4, 2) := by decide +kernel
theorem dX5_ring_67 : decode cX5_ring 67 = .ok (.iconst 1, 1) := by decide +kernel
theorem dX5_ring_68 : decode cX5_ring 68 = .ok (.if_icmp .eq 9, 3) := by decide +kernel
theorem dX5_ring_71 : decode cX5_ring 71 = .ok (.iload 4, 2) := by decide +kernel
theorem dX5_ring_73 : decode cX5_ring 73 = .ok (.iconst 2, 1) := by decide +kernel
theorem dX5_ring_74 : decode cX5_ring 74 = .ok (.if_icmp .ne 7, 3) := by decide +kernel
theorem dX5_ring_77 : decode cX5_ring 77 = .ok (.iconst 1, 1) := by decide +kernel
theorem dX5_ring_78 : decode cX5_ring 78 = .ok (.goto 4, 3) := by decide +kernel
theorem dX5_ring_81 : decode cX5_ring 81 = .ok (.iconst 0, 1) := by decide +kernel
theorem dX5_ring_82 : decode cX5_ring 82 = .ok (.iconst 1, 1) := by decide +kernel
theorem dX5_ring_83 : decode cX5_ring 83 = .ok (.invokevirtual 96, 3) := by decide +kernel
theorem dX5_ring_86 : decode cX5_ring 86 = .ok (.ifCond .ne 5, 3) := by decide +kernel
theorem dX5_ring_89 : decode cX5_ring 89 = .ok (.iconst 0, 1) := by decide +kernel
theorem dX5_ring_90 : decode cX5_ring 90 = .ok (.ireturn, 1) := by decide +kernel
theorem dX5_ring_91 : decode cX5_ring 91 = .ok (.iload_n 3, 1) := by decide +kernel
theorem dX5_ring_92 : decode cX5_ring 92 = .ok (.iconst (-1), 1) := by decide +kernel
theorem dX5_ring_93 : decode cX5_ring 93 = .ok (.if_icmp .ne 15, 3) := by decide +kernel
theorem dX5_ring_96 : decode cX5_ring 96 = .ok (.aload_n 0, 1) := by decide +kernel
theorem dX5_ring_97 : decode cX5_ring 97 = .ok (.iload_n 1, 1) := by decide +kernel
theorem dX5_ring_98 : decode cX5_ring 98 = .ok (.iload_n 2, 1) := by decide +kernel
theorem dX5_ring_99 : decode cX5_ring 99 = .ok (.invokevirtual 129, 3) := by decide +kernel
theorem dX5_ring_102 : decode cX5_ring 102 = .ok (.ifCond .eq 26, 3) := by decide +kernel
theorem dX5_ring_105 : decode cX5_ring 105 = .ok (.goto 13, 3) := by decide +kernel
theorem dX5_ring_108 : decode cX5_ring 108 = .ok (.aload_n 0, 1) := by decide +kernel
theorem dX5_ring_109 : decode cX5_ring 109 = .ok (.iload_n 1, 1) := by decide +kernel
theorem dX5_ring_110 : decode cX5_ring 110 = .ok (.iload_n 2, 1) := by decide +kernel
theorem dX5_ring_111 : decode cX5_ring 111 = .ok (.iload_n 3, 1) := by decide +kernel
theorem dX5_ring_112 : decode cX5_ring 112 = .ok (.invokevirtual 132, 3) := by decide +kernel
theorem dX5_ring_115 : decode cX5_ring 115 = .ok (.ifCond .eq 13, 3) := by decide +kernel
theorem dX5_ring_118 : decode cX5_ring 118 = .ok (.aload_n 0, 1) := by decide +kernel
theorem dX5_ring_119 : decode cX5_ring 119 = .ok (.getfield 65, 3) := by decide +kernel
theorem dX5_ring_122 : decode cX5_ring 122 = .ok (.iload 4, 2) := by decide +kernel
theorem dX5_ring_124 : decode cX5_ring 124 = .ok (.iaload, 1) := by decide +kernel
theorem dX5_ring_125 : decode cX5_ring 125 = .ok (.goto 4, 3) := by decide +kernel
theorem dX5_ring_128 : decode cX5_ring 128 = .ok (.iconst (-1), 1) := by decide +kernel
theorem dX5_ring_129 : decode cX5_ring 129 = .ok (.ireturn, 1) := by decide +kernel
theorem dX5_comes_0 : decode cX5_comes 0 = .ok (.aload_n 0, 1) := by decide +kernel
theorem dX5_comes_1 : decode cX5_comes 1 = .ok (.getfield 68, 3) := by decide +kernel
theorem dX5_comes_4 : decode cX5_comes 4 = .ok (.iconst 3, 1) := by decide +kernel
theorem dX5_comes_5 : decode cX5_comes 5 = .ok (.aload_n 0, 1) := by decide +kernel
theorem dX5_comes_6 : decode cX5_comes 6 = .ok (.getfield 136, 3) := by decide +kernel
theorem dX5_comes_9 : decode cX5_comes 9 = .ok (.imul, 1) := by decide +kernel
theorem dX5_comes_10 : decode cX5_comes 10 = .ok (.iload_n 1, 1) := by decide +kernel
theorem dX5_comes_11 : decode cX5_comes 11 = .ok (.iastore, 1) := by decide +kernel
theorem dX5_comes_12 : decode cX5_comes 12 = .ok (.aload_n 0, 1) := by decide +kernel
theorem dX5_comes_13 : decode cX5_comes 13 = .ok (.getfield 68, 3) := by decide +kernel
theorem dX5_comes_16 : decode cX5_comes 16 = .ok (.iconst 3, 1) := by decide +kernel
theorem dX5_comes_17 : decode cX5_comes 17 = .ok (.aload_n 0, 1) := by decide +kernel
theorem dX5_comes_18 : decode cX5_comes 18 = .ok (.getfield 136, 3) := by decide +kernel
theorem dX5_comes_21 : decode cX5_comes 21 = .ok (.imul, 1) := by decide +kernel
theorem dX5_comes_22 : decode cX5_comes 22 = .ok (.iconst 1, 1) := by decide +kernel
theorem dX5_comes_23 : decode cX5_comes 23 = .ok (.iadd, 1) := by decide +kernel
theorem dX5_comes_24 : decode cX5_comes 24 = .ok (.iload_n 2, 1) := by decide +kernel
theorem dX5_comes_25 : decode cX5_comes 25 = .ok (.iastore, 1) := by decide +kernel
theorem dX5_comes_26 : decode cX5_comes 26 = .ok (.aload_n 0, 1) := by decide +kernel
theorem dX5_comes_27 : decode cX5_comes 27 = .ok (.getfield 68, 3) := by decide +kernel
theorem dX5_comes_30 : decode cX5_comes 30 = .ok (.iconst 3, 1) := by decide +kernel
theorem dX5_comes_31 : decode cX5_comes 31 = .ok (.aload_n 0, 1) := by decide +kernel
theorem dX5_comes_32 : decode cX5_comes 32 = .ok (.getfield 136, 3) := by decide +kernel
theorem dX5_comes_35 : decode cX5_comes 35 = .ok (.imul, 1) := by decide +kernel
theorem dX5_comes_36 : decode cX5_comes 36 = .ok (.iconst 2, 1) := by decide +kernel
theorem dX5_comes_37 : decode cX5_comes 37 = .ok (.iadd, 1) := by decide +kernel
theorem dX5_comes_38 : decode cX5_comes 38 = .ok (.iload_n 3, 1) := by decide +kernel
theorem dX5_comes_39 : decode cX5_comes 39 = .ok (.iastore, 1) := by decide +kernel
theorem dX5_comes_40 : decode cX5_comes 40 = .ok (.aload_n 0, 1) := by decide +kernel
theorem dX5_comes_41 : decode cX5_comes 41 = .ok (.getfield 71, 3) := by decide +kernel
theorem dX5_comes_44 : decode cX5_comes 44 = .ok (.aload_n 0, 1) := by decide +kernel
theorem dX5_comes_45 : decode cX5_comes 45 = .ok (.getfield 136, 3) := by decide +kernel
theorem dX5_comes_48 : decode cX5_comes 48 = .ok (.iconst 1, 1) := by decide +kernel
theorem dX5_comes_49 : decode cX5_comes 49 = .ok (.iload_n 1, 1) := by decide +kernel
theorem dX5_comes_50 : decode cX5_comes 50 = .ok (.ishl, 1) := by decide +kernel
theorem dX5_comes_51 : decode cX5_comes 51 = .ok (.iconst 1, 1) := by decide +kernel
theorem dX5_comes_52 : decode cX5_comes 52 = .ok (.iload_n 2, 1) := by decide +kernel
theorem dX5_comes_53 : decode cX5_comes 53 = .ok (.ishl, 1) := by decide +kernel
theorem dX5_comes_54 : decode cX5_comes 54 = .ok (.ior, 1) := by decide +kernel
theorem dX5_comes_55 : decode cX5_comes 55 = .ok (.iload_n 3, 1) := by decide +kernel
theorem dX5_comes_56 : decode cX5_comes 56 = .ok (.iconst (-1), 1) := by decide +kernel
theorem dX5_comes_57 : decode cX5_comes 57 = .ok (.if_icmp .ne 7, 3) := by decide +kernel
theorem dX5_comes_60 : decode cX5_comes 60 = .ok (.iconst 0, 1) := by decide +kernel
theorem dX5_comes_61 : decode cX5_comes 61 = .ok (.goto 6, 3) := by decide +kernel
theorem dX5_comes_64 : decode cX5_comes 64 = .ok (.iconst 1, 1) := by decide +kernel
theorem dX5_comes_65 : decode cX5_comes 65 = .ok (.iload_n 3, 1) := by decide +kernel
theorem dX5_comes_66 : decode cX5_comes 66 = .ok (.ishl, 1) := by decide +kernel
theorem dX5_comes_67 : decode cX5_comes 67 = .ok (.ior, 1) := by decide +kernel
theorem dX5_comes_68 : decode cX5_comes 68 = .ok (.iastore, 1) := by decide +kernel
theorem dX5_comes_69 : decode cX5_comes 69 = .ok (.aload_n 0, 1) := by decide +kernel
theorem dX5_comes_70 : decode cX5_comes 70 = .ok (.getfield 74, 3) := by decide +kernel
theorem dX5_comes_73 : decode cX5_comes 73 = .ok (.aload_n 0, 1) := by decide +kernel
theorem dX5_comes_74 : decode cX5_comes 74 = .ok (.getfield 136, 3) := by decide +kernel
theorem dX5_comes_77 : decode cX5_comes 77 = .ok (.iconst 2, 1) := by decide +kernel
theorem dX5_comes_78 : decode cX5_comes 78 = .ok (.aload_n 0, 1) := by decide +kernel
theorem dX5_comes_79 : decode cX5_comes 79 = .ok (.getfield 37, 3) := by decide +kernel
theorem dX5_comes_82 : decode cX5_comes 82 = .ok (.iload_n 1, 1) := by decide +kernel
theorem dX5_comes_83 : decode cX5_comes 83 = .ok (.iaload, 1) := by decide +kernel
theorem dX5_comes_84 : decode cX5_comes 84 = .ok (.iadd, 1) := by decide +kernel
theorem dX5_comes_85 : decode cX5_comes 85 = .ok (.aload_n 0, 1) := by decide +kernel
theorem dX5_comes_86 : decode cX5_comes 86 = .ok (.getfield 37, 3) := by decide +kernel
theorem dX5_comes_89 : decode cX5_comes 89 = .ok (.iload_n 2, 1) := by decide +kernel
theorem dX5_comes_90 : decode cX5_comes 90 = .ok (.iaload, 1) := by decide +kernel
theorem dX5_comes_91 : decode cX5_comes 91 = .ok (.iadd, 1) := by decide +kernel
theorem dX5_comes_92 : decode cX5_comes 92 = .ok (.iload_n 3, 1) := by decide +kernel
theorem dX5_comes_93 : decode cX5_comes 93 = .ok (.iconst (-1), 1) := by decide +kernel
theorem dX5_comes_94 : decode cX5_comes 94 = .ok (.if_icmp .ne 7, 3) := by decide +kernel
theorem dX5_comes_97 : decode cX5_comes 97 = .ok (.iconst 0, 1) := by decide +kernel
theorem dX5_comes_98 : decode cX5_comes 98 = .ok (.goto 11, 3) := by decide +kernel
theorem dX5_comes_101 : decode cX5_comes 101 = .ok (.iconst 1, 1) := by decide +kernel
theorem dX5_comes_102 : decode cX5_comes 102 = .ok (.aload_n 0, 1) := by decide +kernel
theorem dX5_comes_103 : decode cX5_comes 103 = .ok (.getfield 37, 3) := by decide +kernel
theorem dX5_comes_106 : decode cX5_comes 106 = .ok (.iload_n 3, 1) := by decide +kernel
theorem dX5_comes_107 : decode cX5_comes 107 = .ok (.iaload, 1) := by decide +kernel
theorem dX5_comes_108 : decode cX5_comes 108 = .ok (.iadd, 1) := by decide +kernel
theorem dX5_comes_109 : decode cX5_comes 109 = .ok (.iadd, 1) := by decide +kernel
theorem dX5_comes_110 : decode cX5_comes 110 = .ok (.iastore, 1) := by decide +kernel
theorem dX5_comes_111 : decode cX5_comes 111 = .ok (.aload_n 0, 1) := by decide +kernel
theorem dX5_comes_112 : decode cX5_comes 112 = .ok (.dup, 1) := by decide +kernel
theorem dX5_comes_113 : decode cX5_comes 113 = .ok (.getfield 136, 3) := by decide +kernel
theorem dX5_comes_116 : decode cX5_comes 116 = .ok (.iconst 1, 1) := by decide +kernel
theorem dX5_comes_117 : decode cX5_comes 117 = .ok (.iadd, 1) := by decide +kernel
theorem dX5_comes_118 : decode cX5_comes 118 = .ok (.putfield 136, 3) := by decide +kernel
theorem dX5_comes_121 : decode cX5_comes 121 = .ok (.return_, 1) := by decide +kernel
theorem dX5_finds_0 : decode cX5_finds 0 = .ok (.aload_n 0, 1) := by decide +kernel
theorem dX5_finds_1 : decode cX5_finds 1 = .ok (.iconst 0, 1) := by decide +kernel
theorem dX5_finds_2 : decode cX5_finds 2 = .ok (.putfield 136, 3) := by decide +kernel
theorem dX5_finds_5 : decode cX5_finds 5 = .ok (.iconst 0, 1) := by decide +kernel
theorem dX5_finds_6 : decode cX5_finds 6 = .ok (.istore_n 1, 1) := by decide +kernel
theorem dX5_finds_7 : decode cX5_finds 7 = .ok (.iload_n 1, 1) := by decide +kernel
theorem dX5_finds_8 : decode cX5_finds 8 = .ok (.aload_n 0, 1) := by decide +kernel
theorem dX5_finds_9 : decode cX5_finds 9 = .ok (.getfield 93, 3) := by decide +kernel
theorem dX5_finds_12 : decode cX5_finds 12 = .ok (.if_icmp .ge 88, 3) := by decide +kernel
theorem dX5_finds_15 : decode cX5_finds 15 = .ok (.aload_n 0, 1) := by decide +kernel
theorem dX5_finds_16 : decode cX5_finds 16 = .ok (.getfield 77, 3) := by decide +kernel
theorem dX5_finds_19 : decode cX5_finds 19 = .ok (.iload_n 1, 1) := by decide +kernel
theorem dX5_finds_20 : decode cX5_finds 20 = .ok (.aload_n 0, 1) := by decide +kernel
theorem dX5_finds_21 : decode cX5_finds 21 = .ok (.getfield 136, 3) := by decide +kernel
theorem dX5_finds_24 : decode cX5_finds 24 = .ok (.iastore, 1) := by decide +kernel
theorem dX5_finds_25 : decode cX5_finds 25 = .ok (.iload_n 1, 1) := by decide +kernel
theorem dX5_finds_26 : decode cX5_finds 26 = .ok (.iconst 1, 1) := by decide +kernel
theorem dX5_finds_27 : decode cX5_finds 27 = .ok (.iadd, 1) := by decide +kernel
theorem dX5_finds_28 : decode cX5_finds 28 = .ok (.istore_n 2, 1) := by decide +kernel
theorem dX5_finds_29 : decode cX5_finds 29 = .ok (.iload_n 2, 1) := by decide +kernel
theorem dX5_finds_30 : decode cX5_finds 30 = .ok (.aload_n 0, 1) := by decide +kernel
theorem dX5_finds_31 : decode cX5_finds 31 = .ok (.getfield 93, 3) := by decide +kernel
theorem dX5_finds_34 : decode cX5_finds 34 = .ok (.if_icmp .ge 60, 3) := by decide +kernel
theorem dX5_finds_37 : decode cX5_finds 37 = .ok (.aload_n 0, 1) := by decide +kernel
theorem dX5_finds_38 : decode cX5_finds 38 = .ok (.iload_n 1, 1) := by decide +kernel
theorem dX5_finds_39 : decode cX5_finds 39 = .ok (.iload_n 2, 1) := by decide +kernel
theorem dX5_finds_40 : decode cX5_finds 40 = .ok (.invokevirtual 129, 3) := by decide +kernel
theorem dX5_finds_43 : decode cX5_finds 43 = .ok (.ifCond .eq 10, 3) := by decide +kernel
theorem dX5_finds_46 : decode cX5_finds 46 = .ok (.aload_n 0, 1) := by decide +kernel
theorem dX5_finds_47 : decode cX5_finds 47 = .ok (.iload_n 1, 1) := by decide +kernel
theorem dX5_finds_48 : decode cX5_finds 48 = .ok (.iload_n 2, 1) := by decide +kernel
theorem dX5_finds_49 : decode cX5_finds 49 = .ok (.iconst (-1), 1) := by decide +kernel
theorem dX5_finds_50 : decode cX5_finds 50 = .ok (.invokevirtual 139, 3) := by decide +kernel
theorem dX5_finds_53 : decode cX5_finds 53 = .ok (.iload_n 1, 1) := by decide +kernel
theorem dX5_finds_54 : decode cX5_finds 54 = .ok (.iconst 1, 1) := by decide +kernel
theorem dX5_finds_55 : decode cX5_finds 55 = .ok (.iadd, 1) := by decide +kernel
theorem dX5_finds_56 : decode cX5_finds 56 = .ok (.istore_n 3, 1) := by decide +kernel
theorem dX5_finds_57 : decode cX5_finds 57 = .ok (.iload_n 3, 1) := by decide +kernel
theorem dX5_finds_58 : decode cX5_finds 58 = .ok (.aload_n 0, 1) := by decide +kernel
theorem dX5_finds_59 : decode cX5_finds 59 = .ok (.getfield 93, 3) := by decide +kernel
theorem dX5_finds_62 : decode cX5_finds 62 = .ok (.if_icmp .ge 26, 3) := by decide +kernel
theorem dX5_finds_65 : decode cX5_finds 65 = .ok (.aload_n 0, 1) := by decide +kernel
theorem dX5_finds_66 : decode cX5_finds 66 = .ok (.iload_n 1, 1) := by decide +kernel
theorem dX5_finds_67 : decode cX5_finds 67 = .ok (.iload_n 2, 1) := by decide +kernel
theorem dX5_finds_68 : decode cX5_finds 68 = .ok (.iload_n 3, 1) := by decide +kernel
theorem dX5_finds_69 : decode cX5_finds 69 = .ok (.invokevirtual 132, 3) := by decide +kernel
theorem dX5_finds_72 : decode cX5_finds 72 = .ok (.ifCond .eq 10, 3) := by decide +kernel
theorem dX5_finds_75 : decode cX5_finds 75 = .ok (.aload_n 0, 1) := by decide +kernel
theorem dX5_finds_76 : decode cX5_finds 76 = .ok (.iload_n 1, 1) := by decide +kernel
theorem dX5_finds_77 : decode cX5_finds 77 = .ok (.iload_n 2, 1) := by decide +kernel
theorem dX5_finds_78 : decode cX5_finds 78 = .ok (.iload_n 3, 1) := by decide +kernel
theorem dX5_finds_79 : decode cX5_finds 79 = .ok (.invokevirtual 139, 3) := by decide +kernel
theorem dX5_finds_82 : decode cX5_finds 82 = .ok (.iinc 3 1, 3) := by decide +kernel
theorem dX5_finds_85 : decode cX5_finds 85 = .ok (.goto (-28), 3) := by decide +kernel
theorem dX5_finds_88 : decode cX5_finds 88 = .ok (.iinc 2 1, 3) := by decide +kernel
theorem dX5_finds_91 : decode cX5_finds 91 = .ok (.goto (-62), 3) := by decide +kernel
theorem dX5_finds_94 : decode cX5_finds 94 = .ok (.iinc 1 1, 3) := by decide +kernel
theorem dX5_finds_97 : decode cX5_finds 97 = .ok (.goto (-90), 3) := by decide +kernel
theorem dX5_finds_100 : decode cX5_finds 100 = .ok (.aload_n 0, 1) := by decide +kernel
theorem dX5_finds_101 : decode cX5_finds 101 = .ok (.getfield 77, 3) := by decide +kernel
theorem dX5_finds_104 : decode cX5_finds 104 = .ok (.aload_n 0, 1) := by decide +kernel
theorem dX5_finds_105 : decode cX5_finds 105 = .ok (.getfield 93, 3) := by decide +kernel
theorem dX5_finds_108 : decode cX5_finds 108 = .ok (.aload_n 0, 1) := by decide +kernel
theorem dX5_finds_109 : decode cX5_finds 109 = .ok (.getfield 136, 3) := by decide +kernel
theorem dX5_finds_112 : decode cX5_finds 112 = .ok (.iastore, 1) := by decide +kernel
theorem dX5_finds_113 : decode cX5_finds 113 = .ok (.return_, 1) := by decide +kernel
theorem dX5_least_0 : decode cX5_least 0 = .ok (.iconst 0, 1) := by decide +kernel
theorem dX5_least_1 : decode cX5_least 1 = .ok (.istore_n 2, 1) := by decide +kernel
theorem dX5_least_2 : decode cX5_least 2 = .ok (.iload_n 1, 1) := by decide +kernel
theorem dX5_least_3 : decode cX5_least 3 = .ok (.iload_n 2, 1) := by decide +kernel
theorem dX5_least_4 : decode cX5_least 4 = .ok (.ishr, 1) := by decide +kernel
theorem dX5_least_5 : decode cX5_least 5 = .ok (.iconst 1, 1) := by decide +kernel
theorem dX5_least_6 : decode cX5_least 6 = .ok (.iand, 1) := by decide +kernel
theorem dX5_least_7 : decode cX5_least 7 = .ok (.ifCond .ne 9, 3) := by decide +kernel
theorem dX5_least_10 : decode cX5_least 10 = .ok (.iinc 2 1, 3) := by decide +kernel
theorem dX5_least_13 : decode cX5_least 13 = .ok (.goto (-11), 3) := by decide +kernel
theorem dX5_least_16 : decode cX5_least 16 = .ok (.iload_n 2, 1) := by decide +kernel
theorem dX5_least_17 : decode cX5_least 17 = .ok (.ireturn, 1) := by decide +kernel
theorem dX5_isBest_0 : decode cX5_isBest 0 = .ok (.iload_n 2, 1) := by decide +kernel
theorem dX5_isBest_1 : decode cX5_isBest 1 = .ok (.aload_n 0, 1) := by decide +kernel
theorem dX5_isBest_2 : decode cX5_isBest 2 = .ok (.getfield 71, 3) := by decide +kernel
theorem dX5_isBest_5 : decode cX5_isBest 5 = .ok (.iload_n 1, 1) := by decide +kernel
theorem dX5_isBest_6 : decode cX5_isBest 6 = .ok (.iaload, 1) := by decide +kernel
theorem dX5_isBest_7 : decode cX5_isBest 7 = .ok (.iconst (-1), 1) := by decide +kernel
theorem dX5_isBest_8 : decode cX5_isBest 8 = .ok (.ixor, 1) := by decide +kernel
theorem dX5_isBest_9 : decode cX5_isBest 9 = .ok (.iand, 1) := by decide +kernel
theorem dX5_isBest_10 : decode cX5_isBest 10 = .ok (.istore_n 3, 1) := by decide +kernel
theorem dX5_isBest_11 : decode cX5_isBest 11 = .ok (.aload_n 0, 1) := by decide +kernel
theorem dX5_isBest_12 : decode cX5_isBest 12 = .ok (.getfield 71, 3) := by decide +kernel
theorem dX5_isBest_15 : decode cX5_isBest 15 = .ok (.iload_n 1, 1) := by decide +kernel
theorem dX5_isBest_16 : decode cX5_isBest 16 = .ok (.iaload, 1) := by decide +kernel
theorem dX5_isBest_17 : decode cX5_isBest 17 = .ok (.iload_n 2, 1) := by decide +kernel
theorem dX5_isBest_18 : decode cX5_isBest 18 = .ok (.iconst (-1), 1) := by decide +kernel
theorem dX5_isBest_19 : decode cX5_isBest 19 = .ok (.ixor, 1) := by decide +kernel
theorem dX5_isBest_20 : decode cX5_isBest 20 = .ok (.iand, 1) := by decide +kernel
theorem dX5_isBest_21 : decode cX5_isBest 21 = .ok (.ifCond .ne 64, 3) := by decide +kernel
theorem dX5_isBest_24 : decode cX5_isBest 24 = .ok (.aload_n 0, 1) := by decide +kernel
theorem dX5_isBest_25 : decode cX5_isBest 25 = .ok (.getfield 74, 3) := by decide +kernel
theorem dX5_isBest_28 : decode cX5_isBest 28 = .ok (.iload_n 1, 1) := by decide +kernel
theorem dX5_isBest_29 : decode cX5_isBest 29 = .ok (.iaload, 1) := by decide +kernel
theorem dX5_isBest_30 : decode cX5_isBest 30 = .ok (.aload_n 0, 1) := by decide +kernel
theorem dX5_isBest_31 : decode cX5_isBest 31 = .ok (.getfield 80, 3) := by decide +kernel
theorem dX5_isBest_34 : decode cX5_isBest 34 = .ok (.iload_n 3, 1) := by decide +kernel
theorem dX5_isBest_35 : decode cX5_isBest 35 = .ok (.iaload, 1) := by decide +kernel
theorem dX5_isBest_36 : decode cX5_isBest 36 = .ok (.iadd, 1) := by decide +kernel
theorem dX5_isBest_37 : decode cX5_isBest 37 = .ok (.aload_n 0, 1) := by decide +kernel
theorem dX5_isBest_38 : decode cX5_isBest 38 = .ok (.getfield 80, 3) := by decide +kernel
theorem dX5_isBest_41 : decode cX5_isBest 41 = .ok (.iload_n 2, 1) := by decide +kernel
theorem dX5_isBest_42 : decode cX5_isBest 42 = .ok (.iaload, 1) := by decide +kernel
theorem dX5_isBest_43 : decode cX5_isBest 43 = .ok (.if_icmp .ne 42, 3) := by decide +kernel
theorem dX5_isBest_46 : decode cX5_isBest 46 = .ok (.aload_n 0, 1) := by decide +kernel
theorem dX5_isBest_47 : decode cX5_isBest 47 = .ok (.getfield 83, 3) := by decide +kernel
theorem dX5_isBest_50 : decode cX5_isBest 50 = .ok (.iload_n 3, 1) := by decide +kernel
theorem dX5_isBest_51 : decode cX5_isBest 51 = .ok (.iaload, 1) := by decide +kernel
theorem dX5_isBest_52 : decode cX5_isBest 52 = .ok (.aload_n 0, 1) := by decide +kernel
theorem dX5_isBest_53 : decode cX5_isBest 53 = .ok (.getfield 68, 3) := by decide +kernel
theorem dX5_isBest_56 : decode cX5_isBest 56 = .ok (.iconst 3, 1) := by decide +kernel
theorem dX5_isBest_57 : decode cX5_isBest 57 = .ok (.iload_n 1, 1) := by decide +kernel
theorem dX5_isBest_58 : decode cX5_isBest 58 = .ok (.imul, 1) := by decide +kernel
theorem dX5_isBest_59 : decode cX5_isBest 59 = .ok (.iconst 2, 1) := by decide +kernel
theorem dX5_isBest_60 : decode cX5_isBest 60 = .ok (.iadd, 1) := by decide +kernel
theorem dX5_isBest_61 : decode cX5_isBest 61 = .ok (.iaload, 1) := by decide +kernel
theorem dX5_isBest_62 : decode cX5_isBest 62 = .ok (.iconst (-1), 1) := by decide +kernel
theorem dX5_isBest_63 : decode cX5_isBest 63 = .ok (.if_icmp .ne 7, 3) := by decide +kernel
theorem dX5_isBest_66 : decode cX5_isBest 66 = .ok (.iconst 0, 1) := by decide +kernel
theorem dX5_isBest_67 : decode cX5_isBest 67 = .ok (.goto 4, 3) := by decide +kernel
theorem dX5_isBest_70 : decode cX5_isBest 70 = .ok (.iconst 1, 1) := by decide +kernel
theorem dX5_isBest_71 : decode cX5_isBest 71 = .ok (.iadd, 1) := by decide +kernel
theorem dX5_isBest_72 : decode cX5_isBest 72 = .ok (.aload_n 0, 1) := by decide +kernel
theorem dX5_isBest_73 : decode cX5_isBest 73 = .ok (.getfield 83, 3) := by decide +kernel
theorem dX5_isBest_76 : decode cX5_isBest 76 = .ok (.iload_n 2, 1) := by decide +kernel
theorem dX5_isBest_77 : decode cX5_isBest 77 = .ok (.iaload, 1) := by decide +kernel
theorem dX5_isBest_78 : decode cX5_isBest 78 = .ok (.if_icmp .ne 7, 3) := by decide +kernel
theorem dX5_isBest_81 : decode cX5_isBest 81 = .ok (.iconst 1, 1) := by decide +kernel
theorem dX5_isBest_82 : decode cX5_isBest 82 = .ok (.goto 4, 3) := by decide +kernel
theorem dX5_isBest_85 : decode cX5_isBest 85 = .ok (.iconst 0, 1) := by decide +kernel
theorem dX5_isBest_86 : decode cX5_isBest 86 = .ok (.ireturn, 1) := by decide +kernel
theorem dX5_serves_0 : decode cX5_serves 0 = .ok (.aload_n 0, 1) := by decide +kernel
theorem dX5_serves_1 : decode cX5_serves 1 = .ok (.getfield 80, 3) := by decide +kernel
theorem dX5_serves_4 : decode cX5_serves 4 = .ok (.iconst 0, 1) := by decide +kernel
theorem dX5_serves_5 : decode cX5_serves 5 = .ok (.iconst 0, 1) := by decide +kernel
theorem dX5_serves_6 : decode cX5_serves 6 = .ok (.iastore, 1) := by decide +kernel
theorem dX5_serves_7 : decode cX5_serves 7 = .ok (.aload_n 0, 1) := by decide +kernel
theorem dX5_serves_8 : decode cX5_serves 8 = .ok (.getfield 83, 3) := by decide +kernel
theorem dX5_serves_11 : decode cX5_serves 11 = .ok (.iconst 0, 1) := by decide +kernel
theorem dX5_serves_12 : decode cX5_serves 12 = .ok (.iconst 0, 1) := by decide +kernel
theorem dX5_serves_13 : decode cX5_serves 13 = .ok (.iastore, 1) := by decide +kernel
theorem dX5_serves_14 : decode cX5_serves 14 = .ok (.iconst 1, 1) := by decide +kernel
theorem dX5_serves_15 : decode cX5_serves 15 = .ok (.istore_n 1, 1) := by decide +kernel
theorem dX5_serves_16 : decode cX5_serves 16 = .ok (.iload_n 1, 1) := by decide +kernel
theorem dX5_serves_17 : decode cX5_serves 17 = .ok (.iconst 1, 1) := by decide +kernel
theorem dX5_serves_18 : decode cX5_serves 18 = .ok (.aload_n 0, 1) := by decide +kernel
theorem dX5_serves_19 : decode cX5_serves 19 = .ok (.getfield 93, 3) := by decide +kernel
theorem dX5_serves_22 : decode cX5_serves 22 = .ok (.ishl, 1) := by decide +kernel
theorem dX5_serves_23 : decode cX5_serves 23 = .ok (.if_icmp .ge 203, 3) := by decide +kernel
theorem dX5_serves_26 : decode cX5_serves 26 = .ok (.aload_n 0, 1) := by decide +kernel
theorem dX5_serves_27 : decode cX5_serves 27 = .ok (.iload_n 1, 1) := by decide +kernel
theorem dX5_serves_28 : decode cX5_serves 28 = .ok (.invokevirtual 143, 3) := by decide +kernel
theorem dX5_serves_31 : decode cX5_serves 31 = .ok (.istore_n 2, 1) := by decide +kernel
theorem dX5_serves_32 : decode cX5_serves 32 = .ok (.iload_n 1, 1) := by decide +kernel
theorem dX5_serves_33 : decode cX5_serves 33 = .ok (.iconst 1, 1) := by decide +kernel
theorem dX5_serves_34 : decode cX5_serves 34 = .ok (.iload_n 2, 1) := by decide +kernel
theorem dX5_serves_35 : decode cX5_serves 35 = .ok (.ishl, 1) := by decide +kernel
theorem dX5_serves_36 : decode cX5_serves 36 = .ok (.iconst (-1), 1) := by decide +kernel
theorem dX5_serves_37 : decode cX5_serves 37 = .ok (.ixor, 1) := by decide +kernel
theorem dX5_serves_38 : decode cX5_serves 38 = .ok (.iand, 1) := by decide +kernel
theorem dX5_serves_39 : decode cX5_serves 39 = .ok (.istore_n 3, 1) := by decide +kernel
theorem dX5_serves_40 : decode cX5_serves 40 = .ok (.aload_n 0, 1) := by decide +kernel
theorem dX5_serves_41 : decode cX5_serves 41 = .ok (.getfield 80, 3) := by decide +kernel
theorem dX5_serves_44 : decode cX5_serves 44 = .ok (.iload_n 1, 1) := by decide +kernel
theorem dX5_serves_45 : decode cX5_serves 45 = .ok (.aload_n 0, 1) := by decide +kernel
theorem dX5_serves_46 : decode cX5_serves 46 = .ok (.getfield 80, 3) := by decide +kernel
theorem dX5_serves_49 : decode cX5_serves 49 = .ok (.iload_n 3, 1) := by decide +kernel
theorem dX5_serves_50 : decode cX5_serves 50 = .ok (.iaload, 1) := by decide +kernel
theorem dX5_serves_51 : decode cX5_serves 51 = .ok (.iastore, 1) := by decide +kernel
theorem dX5_serves_52 : decode cX5_serves 52 = .ok (.aload_n 0, 1) := by decide +kernel
theorem dX5_serves_53 : decode cX5_serves 53 = .ok (.getfield 83, 3) := by decide +kernel
theorem dX5_serves_56 : decode cX5_serves 56 = .ok (.iload_n 1, 1) := by decide +kernel
theorem dX5_serves_57 : decode cX5_serves 57 = .ok (.aload_n 0, 1) := by decide +kernel
theorem dX5_serves_58 : decode cX5_serves 58 = .ok (.getfield 83, 3) := by decide +kernel
theorem dX5_serves_61 : decode cX5_serves 61 = .ok (.iload_n 3, 1) := by decide +kernel
theorem dX5_serves_62 : decode cX5_serves 62 = .ok (.iaload, 1) := by decide +kernel
theorem dX5_serves_63 : decode cX5_serves 63 = .ok (.iastore, 1) := by decide +kernel
theorem dX5_serves_64 : decode cX5_serves 64 = .ok (.aload_n 0, 1) := by decide +kernel
theorem dX5_serves_65 : decode cX5_serves 65 = .ok (.getfield 77, 3) := by decide +kernel
theorem dX5_serves_68 : decode cX5_serves 68 = .ok (.iload_n 2, 1) := by decide +kernel
theorem dX5_serves_69 : decode cX5_serves 69 = .ok (.iaload, 1) := by decide +kernel
theorem dX5_serves_70 : decode cX5_serves 70 = .ok (.istore 4, 2) := by decide +kernel
theorem dX5_serves_72 : decode cX5_serves 72 = .ok (.iload 4, 2) := by decide +kernel
theorem dX5_serves_74 : decode cX5_serves 74 = .ok (.aload_n 0, 1) := by decide +kernel
theorem dX5_serves_75 : decode cX5_serves 75 = .ok (.getfield 77, 3) := by decide +kernel
theorem dX5_serves_78 : decode cX5_serves 78 = .ok (.iload_n 2, 1) := by decide +kernel
theorem dX5_serves_79 : decode cX5_serves 79 = .ok (.iconst 1, 1) := by decide +kernel
theorem dX5_serves_80 : decode cX5_serves 80 = .ok (.iadd, 1) := by decide +kernel
theorem dX5_serves_81 : decode cX5_serves 81 = .ok (.iaload, 1) := by decide +kernel
theorem dX5_serves_82 : decode cX5_serves 82 = .ok (.if_icmp .ge 138, 3) := by decide +kernel
theorem dX5_serves_85 : decode cX5_serves 85 = .ok (.aload_n 0, 1) := by decide +kernel
theorem dX5_serves_86 : decode cX5_serves 86 = .ok (.getfield 71, 3) := by decide +kernel
theorem dX5_serves_89 : decode cX5_serves 89 = .ok (.iload 4, 2) := by decide +kernel
theorem dX5_serves_91 : decode cX5_serves 91 = .ok (.iaload, 1) := by decide +kernel
theorem dX5_serves_92 : decode cX5_serves 92 = .ok (.iload_n 1, 1) := by decide +kernel
theorem dX5_serves_93 : decode cX5_serves 93 = .ok (.iconst (-1), 1) := by decide +kernel
theorem dX5_serves_94 : decode cX5_serves 94 = .ok (.ixor, 1) := by decide +kernel
theorem dX5_serves_95 : decode cX5_serves 95 = .ok (.iand, 1) := by decide +kernel
theorem dX5_serves_96 : decode cX5_serves 96 = .ok (.ifCond .eq 6, 3) := by decide +kernel
theorem dX5_serves_99 : decode cX5_serves 99 = .ok (.goto 115, 3) := by decide +kernel
theorem dX5_serves_102 : decode cX5_serves 102 = .ok (.iload_n 1, 1) := by decide +kernel
theorem dX5_serves_103 : decode cX5_serves 103 = .ok (.aload_n 0, 1) := by decide +kernel
theorem dX5_serves_104 : decode cX5_serves 104 = .ok (.getfield 71, 3) := by decide +kernel
theorem dX5_serves_107 : decode cX5_serves 107 = .ok (.iload 4, 2) := by decide +kernel
theorem dX5_serves_109 : decode cX5_serves 109 = .ok (.iaload, 1) := by decide +kernel
theorem dX5_serves_110 : decode cX5_serves 110 = .ok (.iconst (-1), 1) := by decide +kernel
theorem dX5_serves_111 : decode cX5_serves 111 = .ok (.ixor, 1) := by decide +kernel
theorem dX5_serves_112 : decode cX5_serves 112 = .ok (.iand, 1) := by decide +kernel
theorem dX5_serves_113 : decode cX5_serves 113 = .ok (.istore 5, 2) := by decide +kernel
theorem dX5_serves_115 : decode cX5_serves 115 = .ok (.aload_n 0, 1) := by decide +kernel
theorem dX5_serves_116 : decode cX5_serves 116 = .ok (.getfield 74, 3) := by decide +kernel
theorem dX5_serves_119 : decode cX5_serves 119 = .ok (.iload 4, 2) := by decide +kernel
theorem dX5_serves_121 : decode cX5_serves 121 = .ok (.iaload, 1) := by decide +kernel
theorem dX5_serves_122 : decode cX5_serves 122 = .ok (.aload_n 0, 1) := by decide +kernel
theorem dX5_serves_123 : decode cX5_serves 123 = .ok (.getfield 80, 3) := by decide +kernel
theorem dX5_serves_126 : decode cX5_serves 126 = .ok (.iload 5, 2) := by decide +kernel
theorem dX5_serves_128 : decode cX5_serves 128 = .ok (.iaload, 1) := by decide +kernel
theorem dX5_serves_129 : decode cX5_serves 129 = .ok (.iadd, 1) := by decide +kernel
theorem dX5_serves_130 : decode cX5_serves 130 = .ok (.istore 6, 2) := by decide +kernel
theorem dX5_serves_132 : decode cX5_serves 132 = .ok (.aload_n 0, 1) := by decide +kernel
theorem dX5_serves_133 : decode cX5_serves 133 = .ok (.getfield 83, 3) := by decide +kernel
theorem dX5_serves_136 : decode cX5_serves 136 = .ok (.iload 5, 2) := by decide +kernel
theorem dX5_serves_138 : decode cX5_serves 138 = .ok (.iaload, 1) := by decide +kernel
theorem dX5_serves_139 : decode cX5_serves 139 = .ok (.aload_n 0, 1) := by decide +kernel
theorem dX5_serves_140 : decode cX5_serves 140 = .ok (.getfield 68, 3) := by decide +kernel
theorem dX5_serves_143 : decode cX5_serves 143 = .ok (.iconst 3, 1) := by decide +kernel
theorem dX5_serves_144 : decode cX5_serves 144 = .ok (.iload 4, 2) := by decide +kernel
theorem dX5_serves_146 : decode cX5_serves 146 = .ok (.imul, 1) := by decide +kernel
theorem dX5_serves_147 : decode cX5_serves 147 = .ok (.iconst 2, 1) := by decide +kernel
theorem dX5_serves_148 : decode cX5_serves 148 = .ok (.iadd, 1) := by decide +kernel
theorem dX5_serves_149 : decode cX5_serves 149 = .ok (.iaload, 1) := by decide +kernel
theorem dX5_serves_150 : decode cX5_serves 150 = .ok (.iconst (-1), 1) := by decide +kernel
theorem dX5_serves_151 : decode cX5_serves 151 = .ok (.if_icmp .ne 7, 3) := by decide +kernel
theorem dX5_serves_154 : decode cX5_serves 154 = .ok (.iconst 0, 1) := by decide +kernel
theorem dX5_serves_155 : decode cX5_serves 155 = .ok (.goto 4, 3) := by decide +kernel
theorem dX5_serves_158 : decode cX5_serves 158 = .ok (.iconst 1, 1) := by decide +kernel
theorem dX5_serves_159 : decode cX5_serves 159 = .ok (.iadd, 1) := by decide +kernel
theorem dX5_serves_160 : decode cX5_serves 160 = .ok (.istore 7, 2) := by decide +kernel
theorem dX5_serves_162 : decode cX5_serves 162 = .ok (.iload 6, 2) := by decide +kernel
theorem dX5_serves_164 : decode cX5_serves 164 = .ok (.aload_n 0, 1) := by decide +kernel
theorem dX5_serves_165 : decode cX5_serves 165 = .ok (.getfield 80, 3) := by decide +kernel
theorem dX5_serves_168 : decode cX5_serves 168 = .ok (.iload_n 1, 1) := by decide +kernel
theorem dX5_serves_169 : decode cX5_serves 169 = .ok (.iaload, 1) := by decide +kernel
theorem dX5_serves_170 : decode cX5_serves 170 = .ok (.if_icmp .lt 44, 3) := by decide +kernel
theorem dX5_serves_173 : decode cX5_serves 173 = .ok (.iload 6, 2) := by decide +kernel
theorem dX5_serves_175 : decode cX5_serves 175 = .ok (.aload_n 0, 1) := by decide +kernel
theorem dX5_serves_176 : decode cX5_serves 176 = .ok (.getfield 80, 3) := by decide +kernel
theorem dX5_serves_179 : decode cX5_serves 179 = .ok (.iload_n 1, 1) := by decide +kernel
theorem dX5_serves_180 : decode cX5_serves 180 = .ok (.iaload, 1) := by decide +kernel
theorem dX5_serves_181 : decode cX5_serves 181 = .ok (.if_icmp .ne 17, 3) := by decide +kernel
theorem dX5_serves_184 : decode cX5_serves 184 = .ok (.iload 7, 2) := by decide +kernel
theorem dX5_serves_186 : decode cX5_serves 186 = .ok (.aload_n 0, 1) := by decide +kernel
theorem dX5_serves_187 : decode cX5_serves 187 = .ok (.getfield 83, 3) := by decide +kernel
theorem dX5_serves_190 : decode cX5_serves 190 = .ok (.iload_n 1, 1) := by decide +kernel
theorem dX5_serves_191 : decode cX5_serves 191 = .ok (.iaload, 1) := by decide +kernel
theorem dX5_serves_192 : decode cX5_serves 192 = .ok (.if_icmp .lt 6, 3) := by decide +kernel
theorem dX5_serves_195 : decode cX5_serves 195 = .ok (.goto 19, 3) := by decide +kernel
theorem dX5_serves_198 : decode cX5_serves 198 = .ok (.aload_n 0, 1) := by decide +kernel
theorem dX5_serves_199 : decode cX5_serves 199 = .ok (.getfield 80, 3) := by decide +kernel
theorem dX5_serves_202 : decode cX5_serves 202 = .ok (.iload_n 1, 1) := by decide +kernel
theorem dX5_serves_203 : decode cX5_serves 203 = .ok (.iload 6, 2) := by decide +kernel
theorem dX5_serves_205 : decode cX5_serves 205 = .ok (.iastore, 1) := by decide +kernel
theorem dX5_serves_206 : decode cX5_serves 206 = .ok (.aload_n 0, 1) := by decide +kernel
theorem dX5_serves_207 : decode cX5_serves 207 = .ok (.getfield 83, 3) := by decide +kernel
theorem dX5_serves_210 : decode cX5_serves 210 = .ok (.iload_n 1, 1) := by decide +kernel
theorem dX5_serves_211 : decode cX5_serves 211 = .ok (.iload 7, 2) := by decide +kernel
theorem dX5_serves_213 : decode cX5_serves 213 = .ok (.iastore, 1) := by decide +kernel
theorem dX5_serves_214 : decode cX5_serves 214 = .ok (.iinc 4 1, 3) := by decide +kernel
theorem dX5_serves_217 : decode cX5_serves 217 = .ok (.goto (-145), 3) := by decide +kernel
theorem dX5_serves_220 : decode cX5_serves 220 = .ok (.iinc 1 1, 3) := by decide +kernel
theorem dX5_serves_223 : decode cX5_serves 223 = .ok (.goto (-207), 3) := by decide +kernel
theorem dX5_serves_226 : decode cX5_serves 226 = .ok (.return_, 1) := by decide +kernel
theorem dX5_week_0 : decode cX5_week 0 = .ok (.aload_n 0, 1) := by decide +kernel
theorem dX5_week_1 : decode cX5_week 1 = .ok (.iconst 0, 1) := by decide +kernel
theorem dX5_week_2 : decode cX5_week 2 = .ok (.putfield 89, 3) := by decide +kernel
theorem dX5_week_5 : decode cX5_week 5 = .ok (.aload_n 0, 1) := by decide +kernel
theorem dX5_week_6 : decode cX5_week 6 = .ok (.invokevirtual 147, 3) := by decide +kernel
theorem dX5_week_9 : decode cX5_week 9 = .ok (.aload_n 0, 1) := by decide +kernel
theorem dX5_week_10 : decode cX5_week 10 = .ok (.invokevirtual 150, 3) := by decide +kernel
theorem dX5_week_13 : decode cX5_week 13 = .ok (.aload_n 0, 1) := by decide +kernel
theorem dX5_week_14 : decode cX5_week 14 = .ok (.iconst 0, 1) := by decide +kernel
theorem dX5_week_15 : decode cX5_week 15 = .ok (.putfield 153, 3) := by decide +kernel
theorem dX5_week_18 : decode cX5_week 18 = .ok (.iconst 0, 1) := by decide +kernel
theorem dX5_week_19 : decode cX5_week 19 = .ok (.istore_n 1, 1) := by decide +kernel
theorem dX5_week_20 : decode cX5_week 20 = .ok (.iconst 1, 1) := by decide +kernel
theorem dX5_week_21 : decode cX5_week 21 = .ok (.aload_n 0, 1) := by decide +kernel
theorem dX5_week_22 : decode cX5_week 22 = .ok (.getfield 93, 3) := by decide +kernel
theorem dX5_week_25 : decode cX5_week 25 = .ok (.ishl, 1) := by decide +kernel
theorem dX5_week_26 : decode cX5_week 26 = .ok (.iconst 1, 1) := by decide +kernel
theorem dX5_week_27 : decode cX5_week 27 = .ok (.isub, 1) := by decide +kernel
theorem dX5_week_28 : decode cX5_week 28 = .ok (.istore_n 2, 1) := by decide +kernel
theorem dX5_week_29 : decode cX5_week 29 = .ok (.iconst 0, 1) := by decide +kernel
theorem dX5_week_30 : decode cX5_week 30 = .ok (.istore_n 3, 1) := by decide +kernel
theorem dX5_week_31 : decode cX5_week 31 = .ok (.iload_n 2, 1) := by decide +kernel
theorem dX5_week_32 : decode cX5_week 32 = .ok (.ifCond .eq 129, 3) := by decide +kernel
theorem dX5_week_35 : decode cX5_week 35 = .ok (.aload_n 0, 1) := by decide +kernel
theorem dX5_week_36 : decode cX5_week 36 = .ok (.iload_n 2, 1) := by decide +kernel
theorem dX5_week_37 : decode cX5_week 37 = .ok (.invokevirtual 143, 3) := by decide +kernel
theorem dX5_week_40 : decode cX5_week 40 = .ok (.istore 4, 2) := by decide +kernel
theorem dX5_week_42 : decode cX5_week 42 = .ok (.aload_n 0, 1) := by decide +kernel
theorem dX5_week_43 : decode cX5_week 43 = .ok (.getfield 77, 3) := by decide +kernel
theorem dX5_week_46 : decode cX5_week 46 = .ok (.iload 4, 2) := by decide +kernel
theorem dX5_week_48 : decode cX5_week 48 = .ok (.iaload, 1) := by decide +kernel
theorem dX5_week_49 : decode cX5_week 49 = .ok (.istore 5, 2) := by decide +kernel
theorem dX5_week_51 : decode cX5_week 51 = .ok (.iload 5, 2) := by decide +kernel
theorem dX5_week_53 : decode cX5_week 53 = .ok (.aload_n 0, 1) := by decide +kernel
theorem dX5_week_54 : decode cX5_week 54 = .ok (.getfield 77, 3) := by decide +kernel
theorem dX5_week_57 : decode cX5_week 57 = .ok (.iload 4, 2) := by decide +kernel
theorem dX5_week_59 : decode cX5_week 59 = .ok (.iconst 1, 1) := by decide +kernel
theorem dX5_week_60 : decode cX5_week 60 = .ok (.iadd, 1) := by decide +kernel
theorem dX5_week_61 : decode cX5_week 61 = .ok (.iaload, 1) := by decide +kernel
theorem dX5_week_62 : decode cX5_week 62 = .ok (.if_icmp .ge 19, 3) := by decide +kernel
theorem dX5_week_65 : decode cX5_week 65 = .ok (.aload_n 0, 1) := by decide +kernel
theorem dX5_week_66 : decode cX5_week 66 = .ok (.iload 5, 2) := by decide +kernel
theorem dX5_week_68 : decode cX5_week 68 = .ok (.iload_n 2, 1) := by decide +kernel
theorem dX5_week_69 : decode cX5_week 69 = .ok (.invokevirtual 156, 3) := by decide +kernel
theorem dX5_week_72 : decode cX5_week 72 = .ok (.ifCond .ne 9, 3) := by decide +kernel
theorem dX5_week_75 : decode cX5_week 75 = .ok (.iinc 5 1, 3) := by decide +kernel
theorem dX5_week_78 : decode cX5_week 78 = .ok (.goto (-27), 3) := by decide +kernel
theorem dX5_week_81 : decode cX5_week 81 = .ok (.iload 5, 2) := by decide +kernel
theorem dX5_week_83 : decode cX5_week 83 = .ok (.aload_n 0, 1) := by decide +kernel
theorem dX5_week_84 : decode cX5_week 84 = .ok (.getfield 77, 3) := by decide +kernel
theorem dX5_week_87 : decode cX5_week 87 = .ok (.iload 4, 2) := by decide +kernel
theorem dX5_week_89 : decode cX5_week 89 = .ok (.iconst 1, 1) := by decide +kernel
theorem dX5_week_90 : decode cX5_week 90 = .ok (.iadd, 1) := by decide +kernel
theorem dX5_week_91 : decode cX5_week 91 = .ok (.iaload, 1) := by decide +kernel
theorem dX5_week_92 : decode cX5_week 92 = .ok (.if_icmp .ne 15, 3) := by decide +kernel
theorem dX5_week_95 : decode cX5_week 95 = .ok (.iload_n 2, 1) := by decide +kernel
theorem dX5_week_96 : decode cX5_week 96 = .ok (.iconst 1, 1) := by decide +kernel
theorem dX5_week_97 : decode cX5_week 97 = .ok (.iload 4, 2) := by decide +kernel
theorem dX5_week_99 : decode cX5_week 99 = .ok (.ishl, 1) := by decide +kernel
theorem dX5_week_100 : decode cX5_week 100 = .ok (.iconst (-1), 1) := by decide +kernel
theorem dX5_week_101 : decode cX5_week 101 = .ok (.ixor, 1) := by decide +kernel
theorem dX5_week_102 : decode cX5_week 102 = .ok (.iand, 1) := by decide +kernel
theorem dX5_week_103 : decode cX5_week 103 = .ok (.istore_n 2, 1) := by decide +kernel
theorem dX5_week_104 : decode cX5_week 104 = .ok (.goto (-73), 3) := by decide +kernel
theorem dX5_week_107 : decode cX5_week 107 = .ok (.aload_n 0, 1) := by decide +kernel
theorem dX5_week_108 : decode cX5_week 108 = .ok (.iload 5, 2) := by decide +kernel
theorem dX5_week_110 : decode cX5_week 110 = .ok (.invokevirtual 159, 3) := by decide +kernel
theorem dX5_week_113 : decode cX5_week 113 = .ok (.iload_n 3, 1) := by decide +kernel
theorem dX5_week_114 : decode cX5_week 114 = .ok (.aload_n 0, 1) := by decide +kernel
theorem dX5_week_115 : decode cX5_week 115 = .ok (.getfield 71, 3) := by decide +kernel
theorem dX5_week_118 : decode cX5_week 118 = .ok (.iload 5, 2) := by decide +kernel
theorem dX5_week_120 : decode cX5_week 120 = .ok (.iaload, 1) := by decide +kernel
theorem dX5_week_121 : decode cX5_week 121 = .ok (.ior, 1) := by decide +kernel
theorem dX5_week_122 : decode cX5_week 122 = .ok (.istore_n 3, 1) := by decide +kernel
theorem dX5_week_123 : decode cX5_week 123 = .ok (.iload_n 1, 1) := by decide +kernel
theorem dX5_week_124 : decode cX5_week 124 = .ok (.aload_n 0, 1) := by decide +kernel
theorem dX5_week_125 : decode cX5_week 125 = .ok (.getfield 68, 3) := by decide +kernel
theorem dX5_week_128 : decode cX5_week 128 = .ok (.iconst 3, 1) := by decide +kernel
theorem dX5_week_129 : decode cX5_week 129 = .ok (.iload 5, 2) := by decide +kernel
theorem dX5_week_131 : decode cX5_week 131 = .ok (.imul, 1) := by decide +kernel
theorem dX5_week_132 : decode cX5_week 132 = .ok (.iconst 2, 1) := by decide +kernel
theorem dX5_week_133 : decode cX5_week 133 = .ok (.iadd, 1) := by decide +kernel
theorem dX5_week_134 : decode cX5_week 134 = .ok (.iaload, 1) := by decide +kernel
theorem dX5_week_135 : decode cX5_week 135 = .ok (.iconst (-1), 1) := by decide +kernel
theorem dX5_week_136 : decode cX5_week 136 = .ok (.if_icmp .ne 7, 3) := by decide +kernel
theorem dX5_week_139 : decode cX5_week 139 = .ok (.iconst 2, 1) := by decide +kernel
theorem dX5_week_140 : decode cX5_week 140 = .ok (.goto 4, 3) := by decide +kernel
theorem dX5_week_143 : decode cX5_week 143 = .ok (.iconst 3, 1) := by decide +kernel
theorem dX5_week_144 : decode cX5_week 144 = .ok (.iadd, 1) := by decide +kernel
theorem dX5_week_145 : decode cX5_week 145 = .ok (.istore_n 1, 1) := by decide +kernel
theorem dX5_week_146 : decode cX5_week 146 = .ok (.iload_n 2, 1) := by decide +kernel
theorem dX5_week_147 : decode cX5_week 147 = .ok (.aload_n 0, 1) := by decide +kernel
theorem dX5_week_148 : decode cX5_week 148 = .ok (.getfield 71, 3) := by decide +kernel
theorem dX5_week_151 : decode cX5_week 151 = .ok (.iload 5, 2) := by decide +kernel
theorem dX5_week_153 : decode cX5_week 153 = .ok (.iaload, 1) := by decide +kernel
theorem dX5_week_154 : decode cX5_week 154 = .ok (.iconst (-1), 1) := by decide +kernel
theorem dX5_week_155 : decode cX5_week 155 = .ok (.ixor, 1) := by decide +kernel
theorem dX5_week_156 : decode cX5_week 156 = .ok (.iand, 1) := by decide +kernel
theorem dX5_week_157 : decode cX5_week 157 = .ok (.istore_n 2, 1) := by decide +kernel
theorem dX5_week_158 : decode cX5_week 158 = .ok (.goto (-127), 3) := by decide +kernel
theorem dX5_week_161 : decode cX5_week 161 = .ok (.iconst 0, 1) := by decide +kernel
theorem dX5_week_162 : decode cX5_week 162 = .ok (.istore 4, 2) := by decide +kernel
theorem dX5_week_164 : decode cX5_week 164 = .ok (.iload 4, 2) := by decide +kernel
theorem dX5_week_166 : decode cX5_week 166 = .ok (.aload_n 0, 1) := by decide +kernel
theorem dX5_week_167 : decode cX5_week 167 = .ok (.getfield 93, 3) := by decide +kernel
theorem dX5_week_170 : decode cX5_week 170 = .ok (.if_icmp .ge 45, 3) := by decide +kernel
theorem dX5_week_173 : decode cX5_week 173 = .ok (.aload_n 0, 1) := by decide +kernel
theorem dX5_week_174 : decode cX5_week 174 = .ok (.getfield 46, 3) := by decide +kernel
theorem dX5_week_177 : decode cX5_week 177 = .ok (.iload 4, 2) := by decide +kernel
theorem dX5_week_179 : decode cX5_week 179 = .ok (.iconst 0, 1) := by decide +kernel
theorem dX5_week_180 : decode cX5_week 180 = .ok (.bastore, 1) := by decide +kernel
theorem dX5_week_181 : decode cX5_week 181 = .ok (.iload_n 3, 1) := by decide +kernel
theorem dX5_week_182 : decode cX5_week 182 = .ok (.iload 4, 2) := by decide +kernel
theorem dX5_week_184 : decode cX5_week 184 = .ok (.ishr, 1) := by decide +kernel
theorem dX5_week_185 : decode cX5_week 185 = .ok (.iconst 1, 1) := by decide +kernel
theorem dX5_week_186 : decode cX5_week 186 = .ok (.iand, 1) := by decide +kernel
theorem dX5_week_187 : decode cX5_week 187 = .ok (.iconst 1, 1) := by decide +kernel
theorem dX5_week_188 : decode cX5_week 188 = .ok (.if_icmp .ne 14, 3) := by decide +kernel
theorem dX5_week_191 : decode cX5_week 191 = .ok (.aload_n 0, 1) := by decide +kernel
theorem dX5_week_192 : decode cX5_week 192 = .ok (.getfield 37, 3) := by decide +kernel
theorem dX5_week_195 : decode cX5_week 195 = .ok (.iload 4, 2) := by decide +kernel
theorem dX5_week_197 : decode cX5_week 197 = .ok (.iconst 0, 1) := by decide +kernel
theorem dX5_week_198 : decode cX5_week 198 = .ok (.iastore, 1) := by decide +kernel
theorem dX5_week_199 : decode cX5_week 199 = .ok (.goto 10, 3) := by decide +kernel
theorem dX5_week_202 : decode cX5_week 202 = .ok (.aload_n 0, 1) := by decide +kernel
theorem dX5_week_203 : decode cX5_week 203 = .ok (.iload 4, 2) := by decide +kernel
theorem dX5_week_205 : decode cX5_week 205 = .ok (.iconst 1, 1) := by decide +kernel
theorem dX5_week_206 : decode cX5_week 206 = .ok (.invokevirtual 163, 3) := by decide +kernel
theorem dX5_week_209 : decode cX5_week 209 = .ok (.iinc 4 1, 3) := by decide +kernel
theorem dX5_week_212 : decode cX5_week 212 = .ok (.goto (-48), 3) := by decide +kernel
theorem dX5_week_215 : decode cX5_week 215 = .ok (.aload_n 0, 1) := by decide +kernel
theorem dX5_week_216 : decode cX5_week 216 = .ok (.dup, 1) := by decide +kernel
theorem dX5_week_217 : decode cX5_week 217 = .ok (.getfield 167, 3) := by decide +kernel
theorem dX5_week_220 : decode cX5_week 220 = .ok (.bipush 7, 2) := by decide +kernel
theorem dX5_week_222 : decode cX5_week 222 = .ok (.iadd, 1) := by decide +kernel
theorem dX5_week_223 : decode cX5_week 223 = .ok (.putfield 167, 3) := by decide +kernel
theorem dX5_week_226 : decode cX5_week 226 = .ok (.aload_n 0, 1) := by decide +kernel
theorem dX5_week_227 : decode cX5_week 227 = .ok (.dup, 1) := by decide +kernel
theorem dX5_week_228 : decode cX5_week 228 = .ok (.getfield 170, 3) := by decide +kernel
theorem dX5_week_231 : decode cX5_week 231 = .ok (.iconst 1, 1) := by decide +kernel
theorem dX5_week_232 : decode cX5_week 232 = .ok (.iadd, 1) := by decide +kernel
theorem dX5_week_233 : decode cX5_week 233 = .ok (.putfield 170, 3) := by decide +kernel
theorem dX5_week_236 : decode cX5_week 236 = .ok (.aload_n 0, 1) := by decide +kernel
theorem dX5_week_237 : decode cX5_week 237 = .ok (.dup, 1) := by decide +kernel
theorem dX5_week_238 : decode cX5_week 238 = .ok (.getfield 173, 3) := by decide +kernel
theorem dX5_week_241 : decode cX5_week 241 = .ok (.iload_n 1, 1) := by decide +kernel
theorem dX5_week_242 : decode cX5_week 242 = .ok (.iadd, 1) := by decide +kernel
theorem dX5_week_243 : decode cX5_week 243 = .ok (.putfield 173, 3) := by decide +kernel
theorem dX5_week_246 : decode cX5_week 246 = .ok (.iload_n 1, 1) := by decide +kernel
theorem dX5_week_247 : decode cX5_week 247 = .ok (.ireturn, 1) := by decide +kernel
theorem dX5_taken_0 : decode cX5_taken 0 = .ok (.aload_n 0, 1) := by decide +kernel
theorem dX5_taken_1 : decode cX5_taken 1 = .ok (.getfield 68, 3) := by decide +kernel
theorem dX5_taken_4 : decode cX5_taken 4 = .ok (.iconst 3, 1) := by decide +kernel
theorem dX5_taken_5 : decode cX5_taken 5 = .ok (.iload_n 1, 1) := by decide +kernel
theorem dX5_taken_6 : decode cX5_taken 6 = .ok (.imul, 1) := by decide +kernel
theorem dX5_taken_7 : decode cX5_taken 7 = .ok (.iconst 2, 1) := by decide +kernel
theorem dX5_taken_8 : decode cX5_taken 8 = .ok (.iadd, 1) := by decide +kernel
theorem dX5_taken_9 : decode cX5_taken 9 = .ok (.iaload, 1) := by decide +kernel
theorem dX5_taken_10 : decode cX5_taken 10 = .ok (.istore_n 2, 1) := by decide +kernel
theorem dX5_taken_11 : decode cX5_taken 11 = .ok (.iload_n 2, 1) := by decide +kernel
theorem dX5_taken_12 : decode cX5_taken 12 = .ok (.iconst (-1), 1) := by decide +kernel
theorem dX5_taken_13 : decode cX5_taken 13 = .ok (.if_icmp .ne 29, 3) := by decide +kernel
theorem dX5_taken_16 : decode cX5_taken 16 = .ok (.aload_n 0, 1) := by decide +kernel
theorem dX5_taken_17 : decode cX5_taken 17 = .ok (.aload_n 0, 1) := by decide +kernel
theorem dX5_taken_18 : decode cX5_taken 18 = .ok (.getfield 68, 3) := by decide +kernel
theorem dX5_taken_21 : decode cX5_taken 21 = .ok (.iconst 3, 1) := by decide +kernel
theorem dX5_taken_22 : decode cX5_taken 22 = .ok (.iload_n 1, 1) := by decide +kernel
theorem dX5_taken_23 : decode cX5_taken 23 = .ok (.imul, 1) := by decide +kernel
theorem dX5_taken_24 : decode cX5_taken 24 = .ok (.iaload, 1) := by decide +kernel
theorem dX5_taken_25 : decode cX5_taken 25 = .ok (.aload_n 0, 1) := by decide +kernel
theorem dX5_taken_26 : decode cX5_taken 26 = .ok (.getfield 68, 3) := by decide +kernel
theorem dX5_taken_29 : decode cX5_taken 29 = .ok (.iconst 3, 1) := by decide +kernel
theorem dX5_taken_30 : decode cX5_taken 30 = .ok (.iload_n 1, 1) := by decide +kernel
theorem dX5_taken_31 : decode cX5_taken 31 = .ok (.imul, 1) := by decide +kernel
theorem dX5_taken_32 : decode cX5_taken 32 = .ok (.iconst 1, 1) := by decide +kernel
theorem dX5_taken_33 : decode cX5_taken 33 = .ok (.iadd, 1) := by decide +kernel
theorem dX5_taken_34 : decode cX5_taken 34 = .ok (.iaload, 1) := by decide +kernel
theorem dX5_taken_35 : decode cX5_taken 35 = .ok (.invokevirtual 129, 3) := by decide +kernel
theorem dX5_taken_38 : decode cX5_taken 38 = .ok (.pop, 1) := by decide +kernel
theorem dX5_taken_39 : decode cX5_taken 39 = .ok (.goto 27, 3) := by decide +kernel
theorem dX5_taken_42 : decode cX5_taken 42 = .ok (.aload_n 0, 1) := by decide +kernel
theorem dX5_taken_43 : decode cX5_taken 43 = .ok (.aload_n 0, 1) := by decide +kernel
theorem dX5_taken_44 : decode cX5_taken 44 = .ok (.getfield 68, 3) := by decide +kernel
theorem dX5_taken_47 : decode cX5_taken 47 = .ok (.iconst 3, 1) := by decide +kernel
theorem dX5_taken_48 : decode cX5_taken 48 = .ok (.iload_n 1, 1) := by decide +kernel
theorem dX5_taken_49 : decode cX5_taken 49 = .ok (.imul, 1) := by decide +kernel
theorem dX5_taken_50 : decode cX5_taken 50 = .ok (.iaload, 1) := by decide +kernel
theorem dX5_taken_51 : decode cX5_taken 51 = .ok (.aload_n 0, 1) := by decide +kernel
theorem dX5_taken_52 : decode cX5_taken 52 = .ok (.getfield 68, 3) := by decide +kernel
theorem dX5_taken_55 : decode cX5_taken 55 = .ok (.iconst 3, 1) := by decide +kernel
theorem dX5_taken_56 : decode cX5_taken 56 = .ok (.iload_n 1, 1) := by decide +kernel
theorem dX5_taken_57 : decode cX5_taken 57 = .ok (.imul, 1) := by decide +kernel
theorem dX5_taken_58 : decode cX5_taken 58 = .ok (.iconst 1, 1) := by decide +kernel
theorem dX5_taken_59 : decode cX5_taken 59 = .ok (.iadd, 1) := by decide +kernel
theorem dX5_taken_60 : decode cX5_taken 60 = .ok (.iaload, 1) := by decide +kernel
theorem dX5_taken_61 : decode cX5_taken 61 = .ok (.iload_n 2, 1) := by decide +kernel
theorem dX5_taken_62 : decode cX5_taken 62 = .ok (.invokevirtual 132, 3) := by decide +kernel
theorem dX5_taken_65 : decode cX5_taken 65 = .ok (.pop, 1) := by decide +kernel
theorem dX5_taken_66 : decode cX5_taken 66 = .ok (.iconst 0, 1) := by decide +kernel
theorem dX5_taken_67 : decode cX5_taken 67 = .ok (.istore_n 3, 1) := by decide +kernel
theorem dX5_taken_68 : decode cX5_taken 68 = .ok (.iload_n 3, 1) := by decide +kernel
theorem dX5_taken_69 : decode cX5_taken 69 = .ok (.iconst 3, 1) := by decide +kernel
theorem dX5_taken_70 : decode cX5_taken 70 = .ok (.if_icmp .ge 64, 3) := by decide +kernel
theorem dX5_taken_73 : decode cX5_taken 73 = .ok (.aload_n 0, 1) := by decide +kernel
theorem dX5_taken_74 : decode cX5_taken 74 = .ok (.getfield 40, 3) := by decide +kernel
theorem dX5_taken_77 : decode cX5_taken 77 = .ok (.iconst 3, 1) := by decide +kernel
theorem dX5_taken_78 : decode cX5_taken 78 = .ok (.aload_n 0, 1) := by decide +kernel
theorem dX5_taken_79 : decode cX5_taken 79 = .ok (.getfield 153, 3) := by decide +kernel
theorem dX5_taken_82 : decode cX5_taken 82 = .ok (.imul, 1) := by decide +kernel
theorem dX5_taken_83 : decode cX5_taken 83 = .ok (.iload_n 3, 1) := by decide +kernel
theorem dX5_taken_84 : decode cX5_taken 84 = .ok (.iadd, 1) := by decide +kernel
theorem dX5_taken_85 : decode cX5_taken 85 = .ok (.aload_n 0, 1) := by decide +kernel
theorem dX5_taken_86 : decode cX5_taken 86 = .ok (.getfield 68, 3) := by decide +kernel
theorem dX5_taken_89 : decode cX5_taken 89 = .ok (.iconst 3, 1) := by decide +kernel
theorem dX5_taken_90 : decode cX5_taken 90 = .ok (.iload_n 1, 1) := by decide +kernel
theorem dX5_taken_91 : decode cX5_taken 91 = .ok (.imul, 1) := by decide +kernel
theorem dX5_taken_92 : decode cX5_taken 92 = .ok (.iload_n 3, 1) := by decide +kernel
theorem dX5_taken_93 : decode cX5_taken 93 = .ok (.iadd, 1) := by decide +kernel
theorem dX5_taken_94 : decode cX5_taken 94 = .ok (.iaload, 1) := by decide +kernel
theorem dX5_taken_95 : decode cX5_taken 95 = .ok (.iastore, 1) := by decide +kernel
theorem dX5_taken_96 : decode cX5_taken 96 = .ok (.aload_n 0, 1) := by decide +kernel
theorem dX5_taken_97 : decode cX5_taken 97 = .ok (.getfield 43, 3) := by decide +kernel
theorem dX5_taken_100 : decode cX5_taken 100 = .ok (.iconst 3, 1) := by decide +kernel
theorem dX5_taken_101 : decode cX5_taken 101 = .ok (.aload_n 0, 1) := by decide +kernel
theorem dX5_taken_102 : decode cX5_taken 102 = .ok (.getfield 153, 3) := by decide +kernel
theorem dX5_taken_105 : decode cX5_taken 105 = .ok (.imul, 1) := by decide +kernel
theorem dX5_taken_106 : decode cX5_taken 106 = .ok (.iload_n 3, 1) := by decide +kernel
theorem dX5_taken_107 : decode cX5_taken 107 = .ok (.iadd, 1) := by decide +kernel
theorem dX5_taken_108 : decode cX5_taken 108 = .ok (.iload_n 2, 1) := by decide +kernel
theorem dX5_taken_109 : decode cX5_taken 109 = .ok (.iconst (-1), 1) := by decide +kernel
theorem dX5_taken_110 : decode cX5_taken 110 = .ok (.if_icmp .ne 11, 3) := by decide +kernel
theorem dX5_taken_113 : decode cX5_taken 113 = .ok (.iload_n 3, 1) := by decide +kernel
theorem dX5_taken_114 : decode cX5_taken 114 = .ok (.ifCond .le 7, 3) := by decide +kernel
theorem dX5_taken_117 : decode cX5_taken 117 = .ok (.iconst (-1), 1) := by decide +kernel
theorem dX5_taken_118 : decode cX5_taken 118 = .ok (.goto 9, 3) := by decide +kernel
theorem dX5_taken_121 : decode cX5_taken 121 = .ok (.aload_n 0, 1) := by decide +kernel
theorem dX5_taken_122 : decode cX5_taken 122 = .ok (.getfield 65, 3) := by decide +kernel
theorem dX5_taken_125 : decode cX5_taken 125 = .ok (.iload_n 3, 1) := by decide +kernel
theorem dX5_taken_126 : decode cX5_taken 126 = .ok (.iaload, 1) := by decide +kernel
theorem dX5_taken_127 : decode cX5_taken 127 = .ok (.iastore, 1) := by decide +kernel
