theorem dX5_taken_128 : decode cX5_taken 128 = .ok (.iinc 3 1, 3) := by decide +kernel
theorem dX5_taken_131 : decode cX5_taken 131 = .ok (.goto (-63), 3) := by decide +kernel
theorem dX5_taken_134 : decode cX5_taken 134 = .ok (.aload_n 0, 1) := by decide +kernel
theorem dX5_taken_135 : decode cX5_taken 135 = .ok (.dup, 1) := by decide +kernel
theorem dX5_taken_136 : decode cX5_taken 136 = .ok (.getfield 153, 3) := by decide +kernel
theorem dX5_taken_139 : decode cX5_taken 139 = .ok (.iconst 1, 1) := by decide +kernel
theorem dX5_taken_140 : decode cX5_taken 140 = .ok (.iadd, 1) := by decide +kernel
theorem dX5_taken_141 : decode cX5_taken 141 = .ok (.putfield 153, 3) := by decide +kernel
theorem dX5_taken_144 : decode cX5_taken 144 = .ok (.return_, 1) := by decide +kernel
theorem dX5_more_0 : decode cX5_more 0 = .ok (.aload_n 0, 1) := by decide +kernel
theorem dX5_more_1 : decode cX5_more 1 = .ok (.getfield 37, 3) := by decide +kernel
theorem dX5_more_4 : decode cX5_more 4 = .ok (.iload_n 1, 1) := by decide +kernel
theorem dX5_more_5 : decode cX5_more 5 = .ok (.aload_n 0, 1) := by decide +kernel
theorem dX5_more_6 : decode cX5_more 6 = .ok (.getfield 37, 3) := by decide +kernel
theorem dX5_more_9 : decode cX5_more 9 = .ok (.iload_n 1, 1) := by decide +kernel
theorem dX5_more_10 : decode cX5_more 10 = .ok (.iaload, 1) := by decide +kernel
theorem dX5_more_11 : decode cX5_more 11 = .ok (.iload_n 2, 1) := by decide +kernel
theorem dX5_more_12 : decode cX5_more 12 = .ok (.iadd, 1) := by decide +kernel
theorem dX5_more_13 : decode cX5_more 13 = .ok (.bipush 20, 2) := by decide +kernel
theorem dX5_more_15 : decode cX5_more 15 = .ok (.if_icmp .le 8, 3) := by decide +kernel
theorem dX5_more_18 : decode cX5_more 18 = .ok (.bipush 20, 2) := by decide +kernel
theorem dX5_more_20 : decode cX5_more 20 = .ok (.goto 11, 3) := by decide +kernel
theorem dX5_more_23 : decode cX5_more 23 = .ok (.aload_n 0, 1) := by decide +kernel
theorem dX5_more_24 : decode cX5_more 24 = .ok (.getfield 37, 3) := by decide +kernel
theorem dX5_more_27 : decode cX5_more 27 = .ok (.iload_n 1, 1) := by decide +kernel
theorem dX5_more_28 : decode cX5_more 28 = .ok (.iaload, 1) := by decide +kernel
theorem dX5_more_29 : decode cX5_more 29 = .ok (.iload_n 2, 1) := by decide +kernel
theorem dX5_more_30 : decode cX5_more 30 = .ok (.iadd, 1) := by decide +kernel
theorem dX5_more_31 : decode cX5_more 31 = .ok (.iastore, 1) := by decide +kernel
theorem dX5_more_32 : decode cX5_more 32 = .ok (.return_, 1) := by decide +kernel
theorem dX5_rings_0 : decode cX5_rings 0 = .ok (.aload_n 0, 1) := by decide +kernel
theorem dX5_rings_1 : decode cX5_rings 1 = .ok (.iconst 0, 1) := by decide +kernel
theorem dX5_rings_2 : decode cX5_rings 2 = .ok (.putfield 89, 3) := by decide +kernel
theorem dX5_rings_5 : decode cX5_rings 5 = .ok (.aload_n 0, 1) := by decide +kernel
theorem dX5_rings_6 : decode cX5_rings 6 = .ok (.getfield 153, 3) := by decide +kernel
theorem dX5_rings_9 : decode cX5_rings 9 = .ok (.ireturn, 1) := by decide +kernel
theorem dX5_ringOf_0 : decode cX5_ringOf 0 = .ok (.aload_n 0, 1) := by decide +kernel
theorem dX5_ringOf_1 : decode cX5_ringOf 1 = .ok (.iconst 0, 1) := by decide +kernel
theorem dX5_ringOf_2 : decode cX5_ringOf 2 = .ok (.putfield 89, 3) := by decide +kernel
theorem dX5_ringOf_5 : decode cX5_ringOf 5 = .ok (.aload_n 0, 1) := by decide +kernel
theorem dX5_ringOf_6 : decode cX5_ringOf 6 = .ok (.iload_n 1, 1) := by decide +kernel
theorem dX5_ringOf_7 : decode cX5_ringOf 7 = .ok (.ifCond .lt 24, 3) := by decide +kernel
theorem dX5_ringOf_10 : decode cX5_ringOf 10 = .ok (.iload_n 1, 1) := by decide +kernel
theorem dX5_ringOf_11 : decode cX5_ringOf 11 = .ok (.aload_n 0, 1) := by decide +kernel
theorem dX5_ringOf_12 : decode cX5_ringOf 12 = .ok (.getfield 153, 3) := by decide +kernel
theorem dX5_ringOf_15 : decode cX5_ringOf 15 = .ok (.if_icmp .ge 16, 3) := by decide +kernel
theorem dX5_ringOf_18 : decode cX5_ringOf 18 = .ok (.iload_n 2, 1) := by decide +kernel
theorem dX5_ringOf_19 : decode cX5_ringOf 19 = .ok (.ifCond .lt 12, 3) := by decide +kernel
theorem dX5_ringOf_22 : decode cX5_ringOf 22 = .ok (.iload_n 2, 1) := by decide +kernel
theorem dX5_ringOf_23 : decode cX5_ringOf 23 = .ok (.iconst 5, 1) := by decide +kernel
theorem dX5_ringOf_24 : decode cX5_ringOf 24 = .ok (.if_icmp .gt 7, 3) := by decide +kernel
theorem dX5_ringOf_27 : decode cX5_ringOf 27 = .ok (.iconst 1, 1) := by decide +kernel
theorem dX5_ringOf_28 : decode cX5_ringOf 28 = .ok (.goto 4, 3) := by decide +kernel
theorem dX5_ringOf_31 : decode cX5_ringOf 31 = .ok (.iconst 0, 1) := by decide +kernel
theorem dX5_ringOf_32 : decode cX5_ringOf 32 = .ok (.iconst 1, 1) := by decide +kernel
theorem dX5_ringOf_33 : decode cX5_ringOf 33 = .ok (.invokevirtual 96, 3) := by decide +kernel
theorem dX5_ringOf_36 : decode cX5_ringOf 36 = .ok (.ifCond .ne 5, 3) := by decide +kernel
theorem dX5_ringOf_39 : decode cX5_ringOf 39 = .ok (.iconst 0, 1) := by decide +kernel
theorem dX5_ringOf_40 : decode cX5_ringOf 40 = .ok (.ireturn, 1) := by decide +kernel
theorem dX5_ringOf_41 : decode cX5_ringOf 41 = .ok (.iload_n 2, 1) := by decide +kernel
theorem dX5_ringOf_42 : decode cX5_ringOf 42 = .ok (.iconst 3, 1) := by decide +kernel
theorem dX5_ringOf_43 : decode cX5_ringOf 43 = .ok (.if_icmp .ge 16, 3) := by decide +kernel
theorem dX5_ringOf_46 : decode cX5_ringOf 46 = .ok (.aload_n 0, 1) := by decide +kernel
theorem dX5_ringOf_47 : decode cX5_ringOf 47 = .ok (.getfield 40, 3) := by decide +kernel
theorem dX5_ringOf_50 : decode cX5_ringOf 50 = .ok (.iconst 3, 1) := by decide +kernel
theorem dX5_ringOf_51 : decode cX5_ringOf 51 = .ok (.iload_n 1, 1) := by decide +kernel
theorem dX5_ringOf_52 : decode cX5_ringOf 52 = .ok (.imul, 1) := by decide +kernel
theorem dX5_ringOf_53 : decode cX5_ringOf 53 = .ok (.iload_n 2, 1) := by decide +kernel
theorem dX5_ringOf_54 : decode cX5_ringOf 54 = .ok (.iadd, 1) := by decide +kernel
theorem dX5_ringOf_55 : decode cX5_ringOf 55 = .ok (.iaload, 1) := by decide +kernel
theorem dX5_ringOf_56 : decode cX5_ringOf 56 = .ok (.goto 15, 3) := by decide +kernel
theorem dX5_ringOf_59 : decode cX5_ringOf 59 = .ok (.aload_n 0, 1) := by decide +kernel
theorem dX5_ringOf_60 : decode cX5_ringOf 60 = .ok (.getfield 43, 3) := by decide +kernel
theorem dX5_ringOf_63 : decode cX5_ringOf 63 = .ok (.iconst 3, 1) := by decide +kernel
theorem dX5_ringOf_64 : decode cX5_ringOf 64 = .ok (.iload_n 1, 1) := by decide +kernel
theorem dX5_ringOf_65 : decode cX5_ringOf 65 = .ok (.imul, 1) := by decide +kernel
theorem dX5_ringOf_66 : decode cX5_ringOf 66 = .ok (.iload_n 2, 1) := by decide +kernel
theorem dX5_ringOf_67 : decode cX5_ringOf 67 = .ok (.iadd, 1) := by decide +kernel
theorem dX5_ringOf_68 : decode cX5_ringOf 68 = .ok (.iconst 3, 1) := by decide +kernel
theorem dX5_ringOf_69 : decode cX5_ringOf 69 = .ok (.isub, 1) := by decide +kernel
theorem dX5_ringOf_70 : decode cX5_ringOf 70 = .ok (.iaload, 1) := by decide +kernel
theorem dX5_ringOf_71 : decode cX5_ringOf 71 = .ok (.ireturn, 1) := by decide +kernel
theorem dX5_missed_0 : decode cX5_missed 0 = .ok (.aload_n 0, 1) := by decide +kernel
theorem dX5_missed_1 : decode cX5_missed 1 = .ok (.iload_n 1, 1) := by decide +kernel
theorem dX5_missed_2 : decode cX5_missed 2 = .ok (.invokevirtual 100, 3) := by decide +kernel
theorem dX5_missed_5 : decode cX5_missed 5 = .ok (.ifCond .eq 12, 3) := by decide +kernel
theorem dX5_missed_8 : decode cX5_missed 8 = .ok (.aload_n 0, 1) := by decide +kernel
theorem dX5_missed_9 : decode cX5_missed 9 = .ok (.getfield 46, 3) := by decide +kernel
theorem dX5_missed_12 : decode cX5_missed 12 = .ok (.iload_n 1, 1) := by decide +kernel
theorem dX5_missed_13 : decode cX5_missed 13 = .ok (.baload, 1) := by decide +kernel
theorem dX5_missed_14 : decode cX5_missed 14 = .ok (.ifCond .eq 5, 3) := by decide +kernel
theorem dX5_missed_17 : decode cX5_missed 17 = .ok (.iconst 0, 1) := by decide +kernel
theorem dX5_missed_18 : decode cX5_missed 18 = .ok (.ireturn, 1) := by decide +kernel
theorem dX5_missed_19 : decode cX5_missed 19 = .ok (.iconst 0, 1) := by decide +kernel
theorem dX5_missed_20 : decode cX5_missed 20 = .ok (.istore_n 2, 1) := by decide +kernel
theorem dX5_missed_21 : decode cX5_missed 21 = .ok (.iload_n 2, 1) := by decide +kernel
theorem dX5_missed_22 : decode cX5_missed 22 = .ok (.iconst 3, 1) := by decide +kernel
theorem dX5_missed_23 : decode cX5_missed 23 = .ok (.aload_n 0, 1) := by decide +kernel
theorem dX5_missed_24 : decode cX5_missed 24 = .ok (.getfield 153, 3) := by decide +kernel
theorem dX5_missed_27 : decode cX5_missed 27 = .ok (.imul, 1) := by decide +kernel
theorem dX5_missed_28 : decode cX5_missed 28 = .ok (.if_icmp .ge 85, 3) := by decide +kernel
theorem dX5_missed_31 : decode cX5_missed 31 = .ok (.aload_n 0, 1) := by decide +kernel
theorem dX5_missed_32 : decode cX5_missed 32 = .ok (.getfield 40, 3) := by decide +kernel
theorem dX5_missed_35 : decode cX5_missed 35 = .ok (.iload_n 2, 1) := by decide +kernel
theorem dX5_missed_36 : decode cX5_missed 36 = .ok (.iaload, 1) := by decide +kernel
theorem dX5_missed_37 : decode cX5_missed 37 = .ok (.iload_n 1, 1) := by decide +kernel
theorem dX5_missed_38 : decode cX5_missed 38 = .ok (.if_icmp .eq 6, 3) := by decide +kernel
theorem dX5_missed_41 : decode cX5_missed 41 = .ok (.goto 66, 3) := by decide +kernel
theorem dX5_missed_44 : decode cX5_missed 44 = .ok (.aload_n 0, 1) := by decide +kernel
theorem dX5_missed_45 : decode cX5_missed 45 = .ok (.getfield 46, 3) := by decide +kernel
theorem dX5_missed_48 : decode cX5_missed 48 = .ok (.iload_n 1, 1) := by decide +kernel
theorem dX5_missed_49 : decode cX5_missed 49 = .ok (.iconst 1, 1) := by decide +kernel
theorem dX5_missed_50 : decode cX5_missed 50 = .ok (.bastore, 1) := by decide +kernel
theorem dX5_missed_51 : decode cX5_missed 51 = .ok (.iload_n 2, 1) := by decide +kernel
theorem dX5_missed_52 : decode cX5_missed 52 = .ok (.iload_n 2, 1) := by decide +kernel
theorem dX5_missed_53 : decode cX5_missed 53 = .ok (.iconst 3, 1) := by decide +kernel
theorem dX5_missed_54 : decode cX5_missed 54 = .ok (.irem, 1) := by decide +kernel
theorem dX5_missed_55 : decode cX5_missed 55 = .ok (.isub, 1) := by decide +kernel
theorem dX5_missed_56 : decode cX5_missed 56 = .ok (.istore_n 3, 1) := by decide +kernel
theorem dX5_missed_57 : decode cX5_missed 57 = .ok (.iload_n 3, 1) := by decide +kernel
theorem dX5_missed_58 : decode cX5_missed 58 = .ok (.iload_n 2, 1) := by decide +kernel
theorem dX5_missed_59 : decode cX5_missed 59 = .ok (.iload_n 2, 1) := by decide +kernel
theorem dX5_missed_60 : decode cX5_missed 60 = .ok (.iconst 3, 1) := by decide +kernel
theorem dX5_missed_61 : decode cX5_missed 61 = .ok (.irem, 1) := by decide +kernel
theorem dX5_missed_62 : decode cX5_missed 62 = .ok (.isub, 1) := by decide +kernel
theorem dX5_missed_63 : decode cX5_missed 63 = .ok (.iconst 3, 1) := by decide +kernel
theorem dX5_missed_64 : decode cX5_missed 64 = .ok (.iadd, 1) := by decide +kernel
theorem dX5_missed_65 : decode cX5_missed 65 = .ok (.if_icmp .ge 40, 3) := by decide +kernel
theorem dX5_missed_68 : decode cX5_missed 68 = .ok (.aload_n 0, 1) := by decide +kernel
theorem dX5_missed_69 : decode cX5_missed 69 = .ok (.getfield 40, 3) := by decide +kernel
theorem dX5_missed_72 : decode cX5_missed 72 = .ok (.iload_n 3, 1) := by decide +kernel
theorem dX5_missed_73 : decode cX5_missed 73 = .ok (.iaload, 1) := by decide +kernel
theorem dX5_missed_74 : decode cX5_missed 74 = .ok (.iconst (-1), 1) := by decide +kernel
theorem dX5_missed_75 : decode cX5_missed 75 = .ok (.if_icmp .eq 24, 3) := by decide +kernel
theorem dX5_missed_78 : decode cX5_missed 78 = .ok (.aload_n 0, 1) := by decide +kernel
theorem dX5_missed_79 : decode cX5_missed 79 = .ok (.getfield 40, 3) := by decide +kernel
theorem dX5_missed_82 : decode cX5_missed 82 = .ok (.iload_n 3, 1) := by decide +kernel
theorem dX5_missed_83 : decode cX5_missed 83 = .ok (.iaload, 1) := by decide +kernel
theorem dX5_missed_84 : decode cX5_missed 84 = .ok (.iload_n 1, 1) := by decide +kernel
theorem dX5_missed_85 : decode cX5_missed 85 = .ok (.if_icmp .eq 14, 3) := by decide +kernel
theorem dX5_missed_88 : decode cX5_missed 88 = .ok (.aload_n 0, 1) := by decide +kernel
theorem dX5_missed_89 : decode cX5_missed 89 = .ok (.aload_n 0, 1) := by decide +kernel
theorem dX5_missed_90 : decode cX5_missed 90 = .ok (.getfield 40, 3) := by decide +kernel
theorem dX5_missed_93 : decode cX5_missed 93 = .ok (.iload_n 3, 1) := by decide +kernel
theorem dX5_missed_94 : decode cX5_missed 94 = .ok (.iaload, 1) := by decide +kernel
theorem dX5_missed_95 : decode cX5_missed 95 = .ok (.iconst 3, 1) := by decide +kernel
theorem dX5_missed_96 : decode cX5_missed 96 = .ok (.invokevirtual 163, 3) := by decide +kernel
theorem dX5_missed_99 : decode cX5_missed 99 = .ok (.iinc 3 1, 3) := by decide +kernel
theorem dX5_missed_102 : decode cX5_missed 102 = .ok (.goto (-45), 3) := by decide +kernel
theorem dX5_missed_105 : decode cX5_missed 105 = .ok (.iconst 1, 1) := by decide +kernel
theorem dX5_missed_106 : decode cX5_missed 106 = .ok (.ireturn, 1) := by decide +kernel
theorem dX5_missed_107 : decode cX5_missed 107 = .ok (.iinc 2 1, 3) := by decide +kernel
theorem dX5_missed_110 : decode cX5_missed 110 = .ok (.goto (-89), 3) := by decide +kernel
theorem dX5_missed_113 : decode cX5_missed 113 = .ok (.iconst 0, 1) := by decide +kernel
theorem dX5_missed_114 : decode cX5_missed 114 = .ok (.ireturn, 1) := by decide +kernel
theorem dX5_waited_0 : decode cX5_waited 0 = .ok (.aload_n 0, 1) := by decide +kernel
theorem dX5_waited_1 : decode cX5_waited 1 = .ok (.iload_n 1, 1) := by decide +kernel
theorem dX5_waited_2 : decode cX5_waited 2 = .ok (.invokevirtual 100, 3) := by decide +kernel
theorem dX5_waited_5 : decode cX5_waited 5 = .ok (.ifCond .eq 12, 3) := by decide +kernel
theorem dX5_waited_8 : decode cX5_waited 8 = .ok (.aload_n 0, 1) := by decide +kernel
theorem dX5_waited_9 : decode cX5_waited 9 = .ok (.getfield 37, 3) := by decide +kernel
theorem dX5_waited_12 : decode cX5_waited 12 = .ok (.iload_n 1, 1) := by decide +kernel
theorem dX5_waited_13 : decode cX5_waited 13 = .ok (.iaload, 1) := by decide +kernel
theorem dX5_waited_14 : decode cX5_waited 14 = .ok (.goto 4, 3) := by decide +kernel
theorem dX5_waited_17 : decode cX5_waited 17 = .ok (.iconst 0, 1) := by decide +kernel
theorem dX5_waited_18 : decode cX5_waited 18 = .ok (.ireturn, 1) := by decide +kernel
theorem dX5_days_0 : decode cX5_days 0 = .ok (.aload_n 0, 1) := by decide +kernel
theorem dX5_days_1 : decode cX5_days 1 = .ok (.iconst 0, 1) := by decide +kernel
theorem dX5_days_2 : decode cX5_days 2 = .ok (.putfield 89, 3) := by decide +kernel
theorem dX5_days_5 : decode cX5_days 5 = .ok (.aload_n 0, 1) := by decide +kernel
theorem dX5_days_6 : decode cX5_days 6 = .ok (.iload_n 1, 1) := by decide +kernel
theorem dX5_days_7 : decode cX5_days 7 = .ok (.ifCond .lt 14, 3) := by decide +kernel
theorem dX5_days_10 : decode cX5_days 10 = .ok (.iload_n 1, 1) := by decide +kernel
theorem dX5_days_11 : decode cX5_days 11 = .ok (.sipush 1000, 3) := by decide +kernel
theorem dX5_days_14 : decode cX5_days 14 = .ok (.if_icmp .gt 7, 3) := by decide +kernel
theorem dX5_days_17 : decode cX5_days 17 = .ok (.iconst 1, 1) := by decide +kernel
theorem dX5_days_18 : decode cX5_days 18 = .ok (.goto 4, 3) := by decide +kernel
theorem dX5_days_21 : decode cX5_days 21 = .ok (.iconst 0, 1) := by decide +kernel
theorem dX5_days_22 : decode cX5_days 22 = .ok (.iconst 1, 1) := by decide +kernel
theorem dX5_days_23 : decode cX5_days 23 = .ok (.invokevirtual 96, 3) := by decide +kernel
theorem dX5_days_26 : decode cX5_days 26 = .ok (.ifCond .ne 5, 3) := by decide +kernel
theorem dX5_days_29 : decode cX5_days 29 = .ok (.iconst 0, 1) := by decide +kernel
theorem dX5_days_30 : decode cX5_days 30 = .ok (.ireturn, 1) := by decide +kernel
theorem dX5_days_31 : decode cX5_days 31 = .ok (.aload_n 0, 1) := by decide +kernel
theorem dX5_days_32 : decode cX5_days 32 = .ok (.dup, 1) := by decide +kernel
theorem dX5_days_33 : decode cX5_days 33 = .ok (.getfield 167, 3) := by decide +kernel
theorem dX5_days_36 : decode cX5_days 36 = .ok (.iload_n 1, 1) := by decide +kernel
theorem dX5_days_37 : decode cX5_days 37 = .ok (.iadd, 1) := by decide +kernel
theorem dX5_days_38 : decode cX5_days 38 = .ok (.putfield 167, 3) := by decide +kernel
theorem dX5_days_41 : decode cX5_days 41 = .ok (.aload_n 0, 1) := by decide +kernel
theorem dX5_days_42 : decode cX5_days 42 = .ok (.getfield 167, 3) := by decide +kernel
theorem dX5_days_45 : decode cX5_days 45 = .ok (.ireturn, 1) := by decide +kernel
theorem dX5_word_0 : decode cX5_word 0 = .ok (.aload_n 0, 1) := by decide +kernel
theorem dX5_word_1 : decode cX5_word 1 = .ok (.iload_n 1, 1) := by decide +kernel
theorem dX5_word_2 : decode cX5_word 2 = .ok (.invokevirtual 100, 3) := by decide +kernel
theorem dX5_word_5 : decode cX5_word 5 = .ok (.ifCond .ne 5, 3) := by decide +kernel
theorem dX5_word_8 : decode cX5_word 8 = .ok (.iconst 0, 1) := by decide +kernel
theorem dX5_word_9 : decode cX5_word 9 = .ok (.ireturn, 1) := by decide +kernel
theorem dX5_word_10 : decode cX5_word 10 = .ok (.aload_n 0, 1) := by decide +kernel
theorem dX5_word_11 : decode cX5_word 11 = .ok (.getfield 50, 3) := by decide +kernel
theorem dX5_word_14 : decode cX5_word 14 = .ok (.iload_n 1, 1) := by decide +kernel
theorem dX5_word_15 : decode cX5_word 15 = .ok (.iaload, 1) := by decide +kernel
theorem dX5_word_16 : decode cX5_word 16 = .ok (.bipush 40, 2) := by decide +kernel
theorem dX5_word_18 : decode cX5_word 18 = .ok (.if_icmp .ne 5, 3) := by decide +kernel
theorem dX5_word_21 : decode cX5_word 21 = .ok (.iconst (-1), 1) := by decide +kernel
theorem dX5_word_22 : decode cX5_word 22 = .ok (.ireturn, 1) := by decide +kernel
theorem dX5_word_23 : decode cX5_word 23 = .ok (.bipush 40, 2) := by decide +kernel
theorem dX5_word_25 : decode cX5_word 25 = .ok (.iload_n 1, 1) := by decide +kernel
theorem dX5_word_26 : decode cX5_word 26 = .ok (.imul, 1) := by decide +kernel
theorem dX5_word_27 : decode cX5_word 27 = .ok (.aload_n 0, 1) := by decide +kernel
theorem dX5_word_28 : decode cX5_word 28 = .ok (.getfield 50, 3) := by decide +kernel
theorem dX5_word_31 : decode cX5_word 31 = .ok (.iload_n 1, 1) := by decide +kernel
theorem dX5_word_32 : decode cX5_word 32 = .ok (.iaload, 1) := by decide +kernel
theorem dX5_word_33 : decode cX5_word 33 = .ok (.iadd, 1) := by decide +kernel
theorem dX5_word_34 : decode cX5_word 34 = .ok (.istore_n 2, 1) := by decide +kernel
theorem dX5_word_35 : decode cX5_word 35 = .ok (.aload_n 0, 1) := by decide +kernel
theorem dX5_word_36 : decode cX5_word 36 = .ok (.getfield 53, 3) := by decide +kernel
theorem dX5_word_39 : decode cX5_word 39 = .ok (.iload_n 2, 1) := by decide +kernel
theorem dX5_word_40 : decode cX5_word 40 = .ok (.iconst 0, 1) := by decide +kernel
theorem dX5_word_41 : decode cX5_word 41 = .ok (.iastore, 1) := by decide +kernel
theorem dX5_word_42 : decode cX5_word 42 = .ok (.aload_n 0, 1) := by decide +kernel
theorem dX5_word_43 : decode cX5_word 43 = .ok (.getfield 56, 3) := by decide +kernel
theorem dX5_word_46 : decode cX5_word 46 = .ok (.iload_n 2, 1) := by decide +kernel
theorem dX5_word_47 : decode cX5_word 47 = .ok (.aload_n 0, 1) := by decide +kernel
theorem dX5_word_48 : decode cX5_word 48 = .ok (.getfield 167, 3) := by decide +kernel
theorem dX5_word_51 : decode cX5_word 51 = .ok (.iastore, 1) := by decide +kernel
theorem dX5_word_52 : decode cX5_word 52 = .ok (.aload_n 0, 1) := by decide +kernel
theorem dX5_word_53 : decode cX5_word 53 = .ok (.getfield 50, 3) := by decide +kernel
theorem dX5_word_56 : decode cX5_word 56 = .ok (.iload_n 1, 1) := by decide +kernel
theorem dX5_word_57 : decode cX5_word 57 = .ok (.dup2, 1) := by decide +kernel
theorem dX5_word_58 : decode cX5_word 58 = .ok (.iaload, 1) := by decide +kernel
theorem dX5_word_59 : decode cX5_word 59 = .ok (.iconst 1, 1) := by decide +kernel
theorem dX5_word_60 : decode cX5_word 60 = .ok (.iadd, 1) := by decide +kernel
theorem dX5_word_61 : decode cX5_word 61 = .ok (.iastore, 1) := by decide +kernel
theorem dX5_word_62 : decode cX5_word 62 = .ok (.aload_n 0, 1) := by decide +kernel
theorem dX5_word_63 : decode cX5_word 63 = .ok (.getfield 50, 3) := by decide +kernel
theorem dX5_word_66 : decode cX5_word 66 = .ok (.iload_n 1, 1) := by decide +kernel
theorem dX5_word_67 : decode cX5_word 67 = .ok (.iaload, 1) := by decide +kernel
theorem dX5_word_68 : decode cX5_word 68 = .ok (.iconst 1, 1) := by decide +kernel
theorem dX5_word_69 : decode cX5_word 69 = .ok (.isub, 1) := by decide +kernel
theorem dX5_word_70 : decode cX5_word 70 = .ok (.ireturn, 1) := by decide +kernel
theorem dX5_isWord_0 : decode cX5_isWord 0 = .ok (.aload_n 0, 1) := by decide +kernel
theorem dX5_isWord_1 : decode cX5_isWord 1 = .ok (.iload_n 1, 1) := by decide +kernel
theorem dX5_isWord_2 : decode cX5_isWord 2 = .ok (.invokevirtual 100, 3) := by decide +kernel
theorem dX5_isWord_5 : decode cX5_isWord 5 = .ok (.ifCond .eq 34, 3) := by decide +kernel
theorem dX5_isWord_8 : decode cX5_isWord 8 = .ok (.aload_n 0, 1) := by decide +kernel
theorem dX5_isWord_9 : decode cX5_isWord 9 = .ok (.iload_n 2, 1) := by decide +kernel
theorem dX5_isWord_10 : decode cX5_isWord 10 = .ok (.ifCond .lt 17, 3) := by decide +kernel
theorem dX5_isWord_13 : decode cX5_isWord 13 = .ok (.iload_n 2, 1) := by decide +kernel
theorem dX5_isWord_14 : decode cX5_isWord 14 = .ok (.aload_n 0, 1) := by decide +kernel
theorem dX5_isWord_15 : decode cX5_isWord 15 = .ok (.getfield 50, 3) := by decide +kernel
theorem dX5_isWord_18 : decode cX5_isWord 18 = .ok (.iload_n 1, 1) := by decide +kernel
theorem dX5_isWord_19 : decode cX5_isWord 19 = .ok (.iaload, 1) := by decide +kernel
theorem dX5_isWord_20 : decode cX5_isWord 20 = .ok (.if_icmp .ge 7, 3) := by decide +kernel
theorem dX5_isWord_23 : decode cX5_isWord 23 = .ok (.iconst 1, 1) := by decide +kernel
theorem dX5_isWord_24 : decode cX5_isWord 24 = .ok (.goto 4, 3) := by decide +kernel
theorem dX5_isWord_27 : decode cX5_isWord 27 = .ok (.iconst 0, 1) := by decide +kernel
theorem dX5_isWord_28 : decode cX5_isWord 28 = .ok (.iconst 1, 1) := by decide +kernel
theorem dX5_isWord_29 : decode cX5_isWord 29 = .ok (.invokevirtual 96, 3) := by decide +kernel
theorem dX5_isWord_32 : decode cX5_isWord 32 = .ok (.ifCond .eq 7, 3) := by decide +kernel
theorem dX5_isWord_35 : decode cX5_isWord 35 = .ok (.iconst 1, 1) := by decide +kernel
theorem dX5_isWord_36 : decode cX5_isWord 36 = .ok (.goto 4, 3) := by decide +kernel
theorem dX5_isWord_39 : decode cX5_isWord 39 = .ok (.iconst 0, 1) := by decide +kernel
theorem dX5_isWord_40 : decode cX5_isWord 40 = .ok (.ireturn, 1) := by decide +kernel
theorem dX5_asked_0 : decode cX5_asked 0 = .ok (.aload_n 0, 1) := by decide +kernel
theorem dX5_asked_1 : decode cX5_asked 1 = .ok (.iload_n 1, 1) := by decide +kernel
theorem dX5_asked_2 : decode cX5_asked 2 = .ok (.iload_n 2, 1) := by decide +kernel
theorem dX5_asked_3 : decode cX5_asked 3 = .ok (.invokevirtual 176, 3) := by decide +kernel
theorem dX5_asked_6 : decode cX5_asked 6 = .ok (.ifCond .ne 5, 3) := by decide +kernel
theorem dX5_asked_9 : decode cX5_asked 9 = .ok (.iconst 0, 1) := by decide +kernel
theorem dX5_asked_10 : decode cX5_asked 10 = .ok (.ireturn, 1) := by decide +kernel
theorem dX5_asked_11 : decode cX5_asked 11 = .ok (.bipush 40, 2) := by decide +kernel
theorem dX5_asked_13 : decode cX5_asked 13 = .ok (.iload_n 1, 1) := by decide +kernel
theorem dX5_asked_14 : decode cX5_asked 14 = .ok (.imul, 1) := by decide +kernel
theorem dX5_asked_15 : decode cX5_asked 15 = .ok (.iload_n 2, 1) := by decide +kernel
theorem dX5_asked_16 : decode cX5_asked 16 = .ok (.iadd, 1) := by decide +kernel
theorem dX5_asked_17 : decode cX5_asked 17 = .ok (.istore 4, 2) := by decide +kernel
theorem dX5_asked_19 : decode cX5_asked 19 = .ok (.aload_n 0, 1) := by decide +kernel
theorem dX5_asked_20 : decode cX5_asked 20 = .ok (.getfield 56, 3) := by decide +kernel
theorem dX5_asked_23 : decode cX5_asked 23 = .ok (.iload 4, 2) := by decide +kernel
theorem dX5_asked_25 : decode cX5_asked 25 = .ok (.iaload, 1) := by decide +kernel
theorem dX5_asked_26 : decode cX5_asked 26 = .ok (.aload_n 0, 1) := by decide +kernel
theorem dX5_asked_27 : decode cX5_asked 27 = .ok (.getfield 167, 3) := by decide +kernel
theorem dX5_asked_30 : decode cX5_asked 30 = .ok (.if_icmp .le 5, 3) := by decide +kernel
theorem dX5_asked_33 : decode cX5_asked 33 = .ok (.iconst 0, 1) := by decide +kernel
theorem dX5_asked_34 : decode cX5_asked 34 = .ok (.ireturn, 1) := by decide +kernel
theorem dX5_asked_35 : decode cX5_asked 35 = .ok (.aload_n 0, 1) := by decide +kernel
theorem dX5_asked_36 : decode cX5_asked 36 = .ok (.getfield 53, 3) := by decide +kernel
theorem dX5_asked_39 : decode cX5_asked 39 = .ok (.iload 4, 2) := by decide +kernel
theorem dX5_asked_41 : decode cX5_asked 41 = .ok (.iload_n 3, 1) := by decide +kernel
theorem dX5_asked_42 : decode cX5_asked 42 = .ok (.ifCond .ne 7, 3) := by decide +kernel
theorem dX5_asked_45 : decode cX5_asked 45 = .ok (.iconst 0, 1) := by decide +kernel
theorem dX5_asked_46 : decode cX5_asked 46 = .ok (.goto 27, 3) := by decide +kernel
theorem dX5_asked_49 : decode cX5_asked 49 = .ok (.aload_n 0, 1) := by decide +kernel
theorem dX5_asked_50 : decode cX5_asked 50 = .ok (.getfield 53, 3) := by decide +kernel
theorem dX5_asked_53 : decode cX5_asked 53 = .ok (.iload 4, 2) := by decide +kernel
theorem dX5_asked_55 : decode cX5_asked 55 = .ok (.iaload, 1) := by decide +kernel
theorem dX5_asked_56 : decode cX5_asked 56 = .ok (.iconst 5, 1) := by decide +kernel
theorem dX5_asked_57 : decode cX5_asked 57 = .ok (.if_icmp .ne 7, 3) := by decide +kernel
theorem dX5_asked_60 : decode cX5_asked 60 = .ok (.iconst 5, 1) := by decide +kernel
theorem dX5_asked_61 : decode cX5_asked 61 = .ok (.goto 12, 3) := by decide +kernel
theorem dX5_asked_64 : decode cX5_asked 64 = .ok (.aload_n 0, 1) := by decide +kernel
theorem dX5_asked_65 : decode cX5_asked 65 = .ok (.getfield 53, 3) := by decide +kernel
theorem dX5_asked_68 : decode cX5_asked 68 = .ok (.iload 4, 2) := by decide +kernel
theorem dX5_asked_70 : decode cX5_asked 70 = .ok (.iaload, 1) := by decide +kernel
theorem dX5_asked_71 : decode cX5_asked 71 = .ok (.iconst 1, 1) := by decide +kernel
theorem dX5_asked_72 : decode cX5_asked 72 = .ok (.iadd, 1) := by decide +kernel
theorem dX5_asked_73 : decode cX5_asked 73 = .ok (.iastore, 1) := by decide +kernel
theorem dX5_asked_74 : decode cX5_asked 74 = .ok (.aload_n 0, 1) := by decide +kernel
theorem dX5_asked_75 : decode cX5_asked 75 = .ok (.getfield 56, 3) := by decide +kernel
theorem dX5_asked_78 : decode cX5_asked 78 = .ok (.iload 4, 2) := by decide +kernel
theorem dX5_asked_80 : decode cX5_asked 80 = .ok (.aload_n 0, 1) := by decide +kernel
theorem dX5_asked_81 : decode cX5_asked 81 = .ok (.getfield 167, 3) := by decide +kernel
theorem dX5_asked_84 : decode cX5_asked 84 = .ok (.iconst 1, 1) := by decide +kernel
theorem dX5_asked_85 : decode cX5_asked 85 = .ok (.aload_n 0, 1) := by decide +kernel
theorem dX5_asked_86 : decode cX5_asked 86 = .ok (.getfield 53, 3) := by decide +kernel
theorem dX5_asked_89 : decode cX5_asked 89 = .ok (.iload 4, 2) := by decide +kernel
theorem dX5_asked_91 : decode cX5_asked 91 = .ok (.iaload, 1) := by decide +kernel
theorem dX5_asked_92 : decode cX5_asked 92 = .ok (.ishl, 1) := by decide +kernel
theorem dX5_asked_93 : decode cX5_asked 93 = .ok (.iadd, 1) := by decide +kernel
theorem dX5_asked_94 : decode cX5_asked 94 = .ok (.iastore, 1) := by decide +kernel
theorem dX5_asked_95 : decode cX5_asked 95 = .ok (.iconst 1, 1) := by decide +kernel
theorem dX5_asked_96 : decode cX5_asked 96 = .ok (.ireturn, 1) := by decide +kernel
theorem dX5_wordOf_0 : decode cX5_wordOf 0 = .ok (.aload_n 0, 1) := by decide +kernel
theorem dX5_wordOf_1 : decode cX5_wordOf 1 = .ok (.iload_n 1, 1) := by decide +kernel
theorem dX5_wordOf_2 : decode cX5_wordOf 2 = .ok (.iload_n 2, 1) := by decide +kernel
theorem dX5_wordOf_3 : decode cX5_wordOf 3 = .ok (.invokevirtual 176, 3) := by decide +kernel
theorem dX5_wordOf_6 : decode cX5_wordOf 6 = .ok (.ifCond .eq 25, 3) := by decide +kernel
theorem dX5_wordOf_9 : decode cX5_wordOf 9 = .ok (.aload_n 0, 1) := by decide +kernel
theorem dX5_wordOf_10 : decode cX5_wordOf 10 = .ok (.iload_n 3, 1) := by decide +kernel
theorem dX5_wordOf_11 : decode cX5_wordOf 11 = .ok (.ifCond .eq 8, 3) := by decide +kernel
theorem dX5_wordOf_14 : decode cX5_wordOf 14 = .ok (.iload_n 3, 1) := by decide +kernel
theorem dX5_wordOf_15 : decode cX5_wordOf 15 = .ok (.iconst 1, 1) := by decide +kernel
theorem dX5_wordOf_16 : decode cX5_wordOf 16 = .ok (.if_icmp .ne 7, 3) := by decide +kernel
theorem dX5_wordOf_19 : decode cX5_wordOf 19 = .ok (.iconst 1, 1) := by decide +kernel
theorem dX5_wordOf_20 : decode cX5_wordOf 20 = .ok (.goto 4, 3) := by decide +kernel
theorem dX5_wordOf_23 : decode cX5_wordOf 23 = .ok (.iconst 0, 1) := by decide +kernel
theorem dX5_wordOf_24 : decode cX5_wordOf 24 = .ok (.iconst 1, 1) := by decide +kernel
theorem dX5_wordOf_25 : decode cX5_wordOf 25 = .ok (.invokevirtual 96, 3) := by decide +kernel
theorem dX5_wordOf_28 : decode cX5_wordOf 28 = .ok (.ifCond .ne 5, 3) := by decide +kernel
theorem dX5_wordOf_31 : decode cX5_wordOf 31 = .ok (.iconst 0, 1) := by decide +kernel
theorem dX5_wordOf_32 : decode cX5_wordOf 32 = .ok (.ireturn, 1) := by decide +kernel
theorem dX5_wordOf_33 : decode cX5_wordOf 33 = .ok (.iload_n 3, 1) := by decide +kernel
theorem dX5_wordOf_34 : decode cX5_wordOf 34 = .ok (.ifCond .ne 17, 3) := by decide +kernel
theorem dX5_wordOf_37 : decode cX5_wordOf 37 = .ok (.aload_n 0, 1) := by decide +kernel
theorem dX5_wordOf_38 : decode cX5_wordOf 38 = .ok (.getfield 53, 3) := by decide +kernel
theorem dX5_wordOf_41 : decode cX5_wordOf 41 = .ok (.bipush 40, 2) := by decide +kernel
theorem dX5_wordOf_43 : decode cX5_wordOf 43 = .ok (.iload_n 1, 1) := by decide +kernel
theorem dX5_wordOf_44 : decode cX5_wordOf 44 = .ok (.imul, 1) := by decide +kernel
theorem dX5_wordOf_45 : decode cX5_wordOf 45 = .ok (.iload_n 2, 1) := by decide +kernel
theorem dX5_wordOf_46 : decode cX5_wordOf 46 = .ok (.iadd, 1) := by decide +kernel
theorem dX5_wordOf_47 : decode cX5_wordOf 47 = .ok (.iaload, 1) := by decide +kernel
theorem dX5_wordOf_48 : decode cX5_wordOf 48 = .ok (.goto 14, 3) := by decide +kernel
theorem dX5_wordOf_51 : decode cX5_wordOf 51 = .ok (.aload_n 0, 1) := by decide +kernel
theorem dX5_wordOf_52 : decode cX5_wordOf 52 = .ok (.getfield 56, 3) := by decide +kernel
theorem dX5_wordOf_55 : decode cX5_wordOf 55 = .ok (.bipush 40, 2) := by decide +kernel
theorem dX5_wordOf_57 : decode cX5_wordOf 57 = .ok (.iload_n 1, 1) := by decide +kernel
theorem dX5_wordOf_58 : decode cX5_wordOf 58 = .ok (.imul, 1) := by decide +kernel
theorem dX5_wordOf_59 : decode cX5_wordOf 59 = .ok (.iload_n 2, 1) := by decide +kernel
theorem dX5_wordOf_60 : decode cX5_wordOf 60 = .ok (.iadd, 1) := by decide +kernel
theorem dX5_wordOf_61 : decode cX5_wordOf 61 = .ok (.iaload, 1) := by decide +kernel
theorem dX5_wordOf_62 : decode cX5_wordOf 62 = .ok (.ireturn, 1) := by decide +kernel
theorem dX5_next_0 : decode cX5_next 0 = .ok (.aload_n 0, 1) := by decide +kernel
theorem dX5_next_1 : decode cX5_next 1 = .ok (.iload_n 1, 1) := by decide +kernel
theorem dX5_next_2 : decode cX5_next 2 = .ok (.invokevirtual 100, 3) := by decide +kernel
theorem dX5_next_5 : decode cX5_next 5 = .ok (.ifCond .ne 5, 3) := by decide +kernel
theorem dX5_next_8 : decode cX5_next 8 = .ok (.iconst 0, 1) := by decide +kernel
theorem dX5_next_9 : decode cX5_next 9 = .ok (.ireturn, 1) := by decide +kernel
theorem dX5_next_10 : decode cX5_next 10 = .ok (.iconst (-1), 1) := by decide +kernel
theorem dX5_next_11 : decode cX5_next 11 = .ok (.istore_n 2, 1) := by decide +kernel
theorem dX5_next_12 : decode cX5_next 12 = .ok (.iconst 0, 1) := by decide +kernel
theorem dX5_next_13 : decode cX5_next 13 = .ok (.istore_n 3, 1) := by decide +kernel
theorem dX5_next_14 : decode cX5_next 14 = .ok (.iload_n 3, 1) := by decide +kernel
theorem dX5_next_15 : decode cX5_next 15 = .ok (.aload_n 0, 1) := by decide +kernel
theorem dX5_next_16 : decode cX5_next 16 = .ok (.getfield 50, 3) := by decide +kernel
theorem dX5_next_19 : decode cX5_next 19 = .ok (.iload_n 1, 1) := by decide +kernel
theorem dX5_next_20 : decode cX5_next 20 = .ok (.iaload, 1) := by decide +kernel
theorem dX5_next_21 : decode cX5_next 21 = .ok (.if_icmp .ge 59, 3) := by decide +kernel
theorem dX5_next_24 : decode cX5_next 24 = .ok (.aload_n 0, 1) := by decide +kernel
theorem dX5_next_25 : decode cX5_next 25 = .ok (.getfield 56, 3) := by decide +kernel
theorem dX5_next_28 : decode cX5_next 28 = .ok (.bipush 40, 2) := by decide +kernel
theorem dX5_next_30 : decode cX5_next 30 = .ok (.iload_n 1, 1) := by decide +kernel
theorem dX5_next_31 : decode cX5_next 31 = .ok (.imul, 1) := by decide +kernel
theorem dX5_next_32 : decode cX5_next 32 = .ok (.iload_n 3, 1) := by decide +kernel
theorem dX5_next_33 : decode cX5_next 33 = .ok (.iadd, 1) := by decide +kernel
theorem dX5_next_34 : decode cX5_next 34 = .ok (.iaload, 1) := by decide +kernel
theorem dX5_next_35 : decode cX5_next 35 = .ok (.aload_n 0, 1) := by decide +kernel
theorem dX5_next_36 : decode cX5_next 36 = .ok (.getfield 167, 3) := by decide +kernel
theorem dX5_next_39 : decode cX5_next 39 = .ok (.if_icmp .gt 35, 3) := by decide +kernel
theorem dX5_next_42 : decode cX5_next 42 = .ok (.iload_n 2, 1) := by decide +kernel
theorem dX5_next_43 : decode cX5_next 43 = .ok (.iconst (-1), 1) := by decide +kernel
theorem dX5_next_44 : decode cX5_next 44 = .ok (.if_icmp .eq 28, 3) := by decide +kernel
theorem dX5_next_47 : decode cX5_next 47 = .ok (.aload_n 0, 1) := by decide +kernel
theorem dX5_next_48 : decode cX5_next 48 = .ok (.getfield 56, 3) := by decide +kernel
theorem dX5_next_51 : decode cX5_next 51 = .ok (.bipush 40, 2) := by decide +kernel
theorem dX5_next_53 : decode cX5_next 53 = .ok (.iload_n 1, 1) := by decide +kernel
theorem dX5_next_54 : decode cX5_next 54 = .ok (.imul, 1) := by decide +kernel
theorem dX5_next_55 : decode cX5_next 55 = .ok (.iload_n 3, 1) := by decide +kernel
theorem dX5_next_56 : decode cX5_next 56 = .ok (.iadd, 1) := by decide +kernel
theorem dX5_next_57 : decode cX5_next 57 = .ok (.iaload, 1) := by decide +kernel
theorem dX5_next_58 : decode cX5_next 58 = .ok (.aload_n 0, 1) := by decide +kernel
theorem dX5_next_59 : decode cX5_next 59 = .ok (.getfield 56, 3) := by decide +kernel
theorem dX5_next_62 : decode cX5_next 62 = .ok (.bipush 40, 2) := by decide +kernel
theorem dX5_next_64 : decode cX5_next 64 = .ok (.iload_n 1, 1) := by decide +kernel
theorem dX5_next_65 : decode cX5_next 65 = .ok (.imul, 1) := by decide +kernel
theorem dX5_next_66 : decode cX5_next 66 = .ok (.iload_n 2, 1) := by decide +kernel
theorem dX5_next_67 : decode cX5_next 67 = .ok (.iadd, 1) := by decide +kernel
theorem dX5_next_68 : decode cX5_next 68 = .ok (.iaload, 1) := by decide +kernel
theorem dX5_next_69 : decode cX5_next 69 = .ok (.if_icmp .ge 5, 3) := by decide +kernel
theorem dX5_next_72 : decode cX5_next 72 = .ok (.iload_n 3, 1) := by decide +kernel
theorem dX5_next_73 : decode cX5_next 73 = .ok (.istore_n 2, 1) := by decide +kernel
theorem dX5_next_74 : decode cX5_next 74 = .ok (.iinc 3 1, 3) := by decide +kernel
theorem dX5_next_77 : decode cX5_next 77 = .ok (.goto (-63), 3) := by decide +kernel
theorem dX5_next_80 : decode cX5_next 80 = .ok (.iload_n 2, 1) := by decide +kernel
theorem dX5_next_81 : decode cX5_next 81 = .ok (.ireturn, 1) := by decide +kernel
theorem dX5_feed_0 : decode cX5_feed 0 = .ok (.aload_n 0, 1) := by decide +kernel
theorem dX5_feed_1 : decode cX5_feed 1 = .ok (.iconst 0, 1) := by decide +kernel
theorem dX5_feed_2 : decode cX5_feed 2 = .ok (.putfield 89, 3) := by decide +kernel
theorem dX5_feed_5 : decode cX5_feed 5 = .ok (.aload_n 0, 1) := by decide +kernel
theorem dX5_feed_6 : decode cX5_feed 6 = .ok (.getfield 179, 3) := by decide +kernel
theorem dX5_feed_9 : decode cX5_feed 9 = .ok (.bipush 20, 2) := by decide +kernel
theorem dX5_feed_11 : decode cX5_feed 11 = .ok (.iadd, 1) := by decide +kernel
theorem dX5_feed_12 : decode cX5_feed 12 = .ok (.bipush 80, 2) := by decide +kernel
theorem dX5_feed_14 : decode cX5_feed 14 = .ok (.if_icmp .le 5, 3) := by decide +kernel
theorem dX5_feed_17 : decode cX5_feed 17 = .ok (.iconst (-1), 1) := by decide +kernel
theorem dX5_feed_18 : decode cX5_feed 18 = .ok (.ireturn, 1) := by decide +kernel
theorem dX5_feed_19 : decode cX5_feed 19 = .ok (.aload_n 0, 1) := by decide +kernel
theorem dX5_feed_20 : decode cX5_feed 20 = .ok (.iload_n 1, 1) := by decide +kernel
theorem dX5_feed_21 : decode cX5_feed 21 = .ok (.invokevirtual 182, 3) := by decide +kernel
theorem dX5_feed_24 : decode cX5_feed 24 = .ok (.aload_n 0, 1) := by decide +kernel
theorem dX5_feed_25 : decode cX5_feed 25 = .ok (.iload_n 2, 1) := by decide +kernel
theorem dX5_feed_26 : decode cX5_feed 26 = .ok (.invokevirtual 182, 3) := by decide +kernel
theorem dX5_feed_29 : decode cX5_feed 29 = .ok (.aload_n 0, 1) := by decide +kernel
theorem dX5_feed_30 : decode cX5_feed 30 = .ok (.iload_n 3, 1) := by decide +kernel
theorem dX5_feed_31 : decode cX5_feed 31 = .ok (.invokevirtual 182, 3) := by decide +kernel
theorem dX5_feed_34 : decode cX5_feed 34 = .ok (.aload_n 0, 1) := by decide +kernel
theorem dX5_feed_35 : decode cX5_feed 35 = .ok (.iload 4, 2) := by decide +kernel
theorem dX5_feed_37 : decode cX5_feed 37 = .ok (.invokevirtual 182, 3) := by decide +kernel
theorem dX5_feed_40 : decode cX5_feed 40 = .ok (.aload_n 0, 1) := by decide +kernel
theorem dX5_feed_41 : decode cX5_feed 41 = .ok (.iload 5, 2) := by decide +kernel
theorem dX5_feed_43 : decode cX5_feed 43 = .ok (.invokevirtual 182, 3) := by decide +kernel
theorem dX5_feed_46 : decode cX5_feed 46 = .ok (.aload_n 0, 1) := by decide +kernel
theorem dX5_feed_47 : decode cX5_feed 47 = .ok (.getfield 179, 3) := by decide +kernel
theorem dX5_feed_50 : decode cX5_feed 50 = .ok (.ireturn, 1) := by decide +kernel
theorem dX5_lays_0 : decode cX5_lays 0 = .ok (.bipush 24, 2) := by decide +kernel
theorem dX5_lays_2 : decode cX5_lays 2 = .ok (.istore_n 2, 1) := by decide +kernel
theorem dX5_lays_3 : decode cX5_lays 3 = .ok (.iload_n 2, 1) := by decide +kernel
theorem dX5_lays_4 : decode cX5_lays 4 = .ok (.ifCond .lt 35, 3) := by decide +kernel
theorem dX5_lays_7 : decode cX5_lays 7 = .ok (.aload_n 0, 1) := by decide +kernel
theorem dX5_lays_8 : decode cX5_lays 8 = .ok (.getfield 59, 3) := by decide +kernel
theorem dX5_lays_11 : decode cX5_lays 11 = .ok (.aload_n 0, 1) := by decide +kernel
theorem dX5_lays_12 : decode cX5_lays 12 = .ok (.getfield 179, 3) := by decide +kernel
theorem dX5_lays_15 : decode cX5_lays 15 = .ok (.iload_n 1, 1) := by decide +kernel
theorem dX5_lays_16 : decode cX5_lays 16 = .ok (.iload_n 2, 1) := by decide +kernel
theorem dX5_lays_17 : decode cX5_lays 17 = .ok (.ishr, 1) := by decide +kernel
theorem dX5_lays_18 : decode cX5_lays 18 = .ok (.sipush 255, 3) := by decide +kernel
theorem dX5_lays_21 : decode cX5_lays 21 = .ok (.iand, 1) := by decide +kernel
theorem dX5_lays_22 : decode cX5_lays 22 = .ok (.iastore, 1) := by decide +kernel
theorem dX5_lays_23 : decode cX5_lays 23 = .ok (.aload_n 0, 1) := by decide +kernel
theorem dX5_lays_24 : decode cX5_lays 24 = .ok (.dup, 1) := by decide +kernel
theorem dX5_lays_25 : decode cX5_lays 25 = .ok (.getfield 179, 3) := by decide +kernel
theorem dX5_lays_28 : decode cX5_lays 28 = .ok (.iconst 1, 1) := by decide +kernel
theorem dX5_lays_29 : decode cX5_lays 29 = .ok (.iadd, 1) := by decide +kernel
theorem dX5_lays_30 : decode cX5_lays 30 = .ok (.putfield 179, 3) := by decide +kernel
theorem dX5_lays_33 : decode cX5_lays 33 = .ok (.iinc 2 (-8), 3) := by decide +kernel
theorem dX5_lays_36 : decode cX5_lays 36 = .ok (.goto (-33), 3) := by decide +kernel
theorem dX5_lays_39 : decode cX5_lays 39 = .ok (.return_, 1) := by decide +kernel
theorem dX5_costOf_0 : decode cX5_costOf 0 = .ok (.iload_n 0, 1) := by decide +kernel
theorem dX5_costOf_1 : decode cX5_costOf 1 = .ok (.ifCond .ne 7, 3) := by decide +kernel
theorem dX5_costOf_4 : decode cX5_costOf 4 = .ok (.iconst 0, 1) := by decide +kernel
theorem dX5_costOf_5 : decode cX5_costOf 5 = .ok (.goto 13, 3) := by decide +kernel
theorem dX5_costOf_8 : decode cX5_costOf 8 = .ok (.iload_n 0, 1) := by decide +kernel
theorem dX5_costOf_9 : decode cX5_costOf 9 = .ok (.iconst 1, 1) := by decide +kernel
theorem dX5_costOf_10 : decode cX5_costOf 10 = .ok (.if_icmp .ne 7, 3) := by decide +kernel
theorem dX5_costOf_13 : decode cX5_costOf 13 = .ok (.iconst 3, 1) := by decide +kernel
theorem dX5_costOf_14 : decode cX5_costOf 14 = .ok (.goto 4, 3) := by decide +kernel
theorem dX5_costOf_17 : decode cX5_costOf 17 = .ok (.iconst 2, 1) := by decide +kernel
theorem dX5_costOf_18 : decode cX5_costOf 18 = .ok (.ireturn, 1) := by decide +kernel
theorem dX5_said_0 : decode cX5_said 0 = .ok (.iload_n 0, 1) := by decide +kernel
theorem dX5_said_1 : decode cX5_said 1 = .ok (.iconst 4, 1) := by decide +kernel
theorem dX5_said_2 : decode cX5_said 2 = .ok (.if_icmp .ne 7, 3) := by decide +kernel
theorem dX5_said_5 : decode cX5_said 5 = .ok (.iconst 2, 1) := by decide +kernel
theorem dX5_said_6 : decode cX5_said 6 = .ok (.goto 13, 3) := by decide +kernel
theorem dX5_said_9 : decode cX5_said 9 = .ok (.iload_n 0, 1) := by decide +kernel
theorem dX5_said_10 : decode cX5_said 10 = .ok (.iconst 3, 1) := by decide +kernel
theorem dX5_said_11 : decode cX5_said 11 = .ok (.if_icmp .ne 7, 3) := by decide +kernel
theorem dX5_said_14 : decode cX5_said 14 = .ok (.iconst 0, 1) := by decide +kernel
theorem dX5_said_15 : decode cX5_said 15 = .ok (.goto 4, 3) := by decide +kernel
theorem dX5_said_18 : decode cX5_said 18 = .ok (.iconst 1, 1) := by decide +kernel
theorem dX5_said_19 : decode cX5_said 19 = .ok (.ireturn, 1) := by decide +kernel
theorem dX5_meant_0 : decode cX5_meant 0 = .ok (.iload_n 0, 1) := by decide +kernel
theorem dX5_meant_1 : decode cX5_meant 1 = .ok (.iconst 4, 1) := by decide +kernel
theorem dX5_meant_2 : decode cX5_meant 2 = .ok (.if_icmp .ne 7, 3) := by decide +kernel
theorem dX5_meant_5 : decode cX5_meant 5 = .ok (.iconst 2, 1) := by decide +kernel
theorem dX5_meant_6 : decode cX5_meant 6 = .ok (.goto 13, 3) := by decide +kernel
theorem dX5_meant_9 : decode cX5_meant 9 = .ok (.iload_n 0, 1) := by decide +kernel
theorem dX5_meant_10 : decode cX5_meant 10 = .ok (.iconst 2, 1) := by decide +kernel
theorem dX5_meant_11 : decode cX5_meant 11 = .ok (.if_icmp .ne 7, 3) := by decide +kernel
theorem dX5_meant_14 : decode cX5_meant 14 = .ok (.iconst 0, 1) := by decide +kernel
theorem dX5_meant_15 : decode cX5_meant 15 = .ok (.goto 4, 3) := by decide +kernel
theorem dX5_meant_18 : decode cX5_meant 18 = .ok (.iconst 1, 1) := by decide +kernel
theorem dX5_meant_19 : decode cX5_meant 19 = .ok (.ireturn, 1) := by decide +kernel
theorem dX5_can_0 : decode cX5_can 0 = .ok (.iload_n 2, 1) := by decide +kernel
theorem dX5_can_1 : decode cX5_can 1 = .ok (.iload_n 1, 1) := by decide +kernel
theorem dX5_can_2 : decode cX5_can 2 = .ok (.invokestatic 185, 3) := by decide +kernel
theorem dX5_can_5 : decode cX5_can 5 = .ok (.iadd, 1) := by decide +kernel
theorem dX5_can_6 : decode cX5_can 6 = .ok (.iload 4, 2) := by decide +kernel
theorem dX5_can_8 : decode cX5_can 8 = .ok (.if_icmp .gt 14, 3) := by decide +kernel
theorem dX5_can_11 : decode cX5_can 11 = .ok (.iload_n 3, 1) := by decide +kernel
theorem dX5_can_12 : decode cX5_can 12 = .ok (.iload_n 1, 1) := by decide +kernel
theorem dX5_can_13 : decode cX5_can 13 = .ok (.invokestatic 188, 3) := by decide +kernel
theorem dX5_can_16 : decode cX5_can 16 = .ok (.iadd, 1) := by decide +kernel
theorem dX5_can_17 : decode cX5_can 17 = .ok (.iload 5, 2) := by decide +kernel
theorem dX5_can_19 : decode cX5_can 19 = .ok (.if_icmp .le 5, 3) := by decide +kernel
theorem dX5_can_22 : decode cX5_can 22 = .ok (.iconst 0, 1) := by decide +kernel
theorem dX5_can_23 : decode cX5_can 23 = .ok (.ireturn, 1) := by decide +kernel
theorem dX5_can_24 : decode cX5_can 24 = .ok (.iload_n 1, 1) := by decide +kernel
theorem dX5_can_25 : decode cX5_can 25 = .ok (.tableswitch 146 0 4 #[35, 59, 146, 146, 83], 35) := by decide +kernel
theorem dX5_can_60 : decode cX5_can 60 = .ok (.aload_n 0, 1) := by decide +kernel
theorem dX5_can_61 : decode cX5_can 61 = .ok (.getfield 59, 3) := by decide +kernel
theorem dX5_can_64 : decode cX5_can 64 = .ok (.iload_n 2, 1) := by decide +kernel
theorem dX5_can_65 : decode cX5_can 65 = .ok (.iaload, 1) := by decide +kernel
theorem dX5_can_66 : decode cX5_can 66 = .ok (.aload_n 0, 1) := by decide +kernel
theorem dX5_can_67 : decode cX5_can 67 = .ok (.getfield 59, 3) := by decide +kernel
theorem dX5_can_70 : decode cX5_can 70 = .ok (.iload 4, 2) := by decide +kernel
theorem dX5_can_72 : decode cX5_can 72 = .ok (.iload_n 3, 1) := by decide +kernel
theorem dX5_can_73 : decode cX5_can 73 = .ok (.iadd, 1) := by decide +kernel
theorem dX5_can_74 : decode cX5_can 74 = .ok (.iaload, 1) := by decide +kernel
theorem dX5_can_75 : decode cX5_can 75 = .ok (.if_icmp .ne 7, 3) := by decide +kernel
theorem dX5_can_78 : decode cX5_can 78 = .ok (.iconst 1, 1) := by decide +kernel
theorem dX5_can_79 : decode cX5_can 79 = .ok (.goto 4, 3) := by decide +kernel
theorem dX5_can_82 : decode cX5_can 82 = .ok (.iconst 0, 1) := by decide +kernel
theorem dX5_can_83 : decode cX5_can 83 = .ok (.ireturn, 1) := by decide +kernel
theorem dX5_can_84 : decode cX5_can 84 = .ok (.aload_n 0, 1) := by decide +kernel
theorem dX5_can_85 : decode cX5_can 85 = .ok (.getfield 59, 3) := by decide +kernel
theorem dX5_can_88 : decode cX5_can 88 = .ok (.iload_n 2, 1) := by decide +kernel
theorem dX5_can_89 : decode cX5_can 89 = .ok (.iaload, 1) := by decide +kernel
theorem dX5_can_90 : decode cX5_can 90 = .ok (.aload_n 0, 1) := by decide +kernel
theorem dX5_can_91 : decode cX5_can 91 = .ok (.getfield 59, 3) := by decide +kernel
theorem dX5_can_94 : decode cX5_can 94 = .ok (.iload 4, 2) := by decide +kernel
theorem dX5_can_96 : decode cX5_can 96 = .ok (.iload_n 3, 1) := by decide +kernel
theorem dX5_can_97 : decode cX5_can 97 = .ok (.iadd, 1) := by decide +kernel
theorem dX5_can_98 : decode cX5_can 98 = .ok (.iaload, 1) := by decide +kernel
theorem dX5_can_99 : decode cX5_can 99 = .ok (.if_icmp .eq 7, 3) := by decide +kernel
theorem dX5_can_102 : decode cX5_can 102 = .ok (.iconst 1, 1) := by decide +kernel
theorem dX5_can_103 : decode cX5_can 103 = .ok (.goto 4, 3) := by decide +kernel
theorem dX5_can_106 : decode cX5_can 106 = .ok (.iconst 0, 1) := by decide +kernel
theorem dX5_can_107 : decode cX5_can 107 = .ok (.ireturn, 1) := by decide +kernel
theorem dX5_can_108 : decode cX5_can 108 = .ok (.aload_n 0, 1) := by decide +kernel
theorem dX5_can_109 : decode cX5_can 109 = .ok (.getfield 59, 3) := by decide +kernel
theorem dX5_can_112 : decode cX5_can 112 = .ok (.iload_n 2, 1) := by decide +kernel
theorem dX5_can_113 : decode cX5_can 113 = .ok (.iaload, 1) := by decide +kernel
theorem dX5_can_114 : decode cX5_can 114 = .ok (.aload_n 0, 1) := by decide +kernel
theorem dX5_can_115 : decode cX5_can 115 = .ok (.getfield 59, 3) := by decide +kernel
theorem dX5_can_118 : decode cX5_can 118 = .ok (.iload_n 2, 1) := by decide +kernel
theorem dX5_can_119 : decode cX5_can 119 = .ok (.iconst 1, 1) := by decide +kernel
theorem dX5_can_120 : decode cX5_can 120 = .ok (.iadd, 1) := by decide +kernel
theorem dX5_can_121 : decode cX5_can 121 = .ok (.iaload, 1) := by decide +kernel
theorem dX5_can_122 : decode cX5_can 122 = .ok (.if_icmp .eq 47, 3) := by decide +kernel
theorem dX5_can_125 : decode cX5_can 125 = .ok (.aload_n 0, 1) := by decide +kernel
theorem dX5_can_126 : decode cX5_can 126 = .ok (.getfield 59, 3) := by decide +kernel
theorem dX5_can_129 : decode cX5_can 129 = .ok (.iload_n 2, 1) := by decide +kernel
theorem dX5_can_130 : decode cX5_can 130 = .ok (.iaload, 1) := by decide +kernel
theorem dX5_can_131 : decode cX5_can 131 = .ok (.aload_n 0, 1) := by decide +kernel
theorem dX5_can_132 : decode cX5_can 132 = .ok (.getfield 59, 3) := by decide +kernel
theorem dX5_can_135 : decode cX5_can 135 = .ok (.iload 4, 2) := by decide +kernel
theorem dX5_can_137 : decode cX5_can 137 = .ok (.iload_n 3, 1) := by decide +kernel
theorem dX5_can_138 : decode cX5_can 138 = .ok (.iadd, 1) := by decide +kernel
theorem dX5_can_139 : decode cX5_can 139 = .ok (.iconst 1, 1) := by decide +kernel
theorem dX5_can_140 : decode cX5_can 140 = .ok (.iadd, 1) := by decide +kernel
theorem dX5_can_141 : decode cX5_can 141 = .ok (.iaload, 1) := by decide +kernel
theorem dX5_can_142 : decode cX5_can 142 = .ok (.if_icmp .ne 27, 3) := by decide +kernel
theorem dX5_can_145 : decode cX5_can 145 = .ok (.aload_n 0, 1) := by decide +kernel
theorem dX5_can_146 : decode cX5_can 146 = .ok (.getfield 59, 3) := by decide +kernel
theorem dX5_can_149 : decode cX5_can 149 = .ok (.iload_n 2, 1) := by decide +kernel
theorem dX5_can_150 : decode cX5_can 150 = .ok (.iconst 1, 1) := by decide +kernel
theorem dX5_can_151 : decode cX5_can 151 = .ok (.iadd, 1) := by decide +kernel
theorem dX5_can_152 : decode cX5_can 152 = .ok (.iaload, 1) := by decide +kernel
theorem dX5_can_153 : decode cX5_can 153 = .ok (.aload_n 0, 1) := by decide +kernel
theorem dX5_can_154 : decode cX5_can 154 = .ok (.getfield 59, 3) := by decide +kernel
theorem dX5_can_157 : decode cX5_can 157 = .ok (.iload 4, 2) := by decide +kernel
theorem dX5_can_159 : decode cX5_can 159 = .ok (.iload_n 3, 1) := by decide +kernel
theorem dX5_can_160 : decode cX5_can 160 = .ok (.iadd, 1) := by decide +kernel
theorem dX5_can_161 : decode cX5_can 161 = .ok (.iaload, 1) := by decide +kernel
theorem dX5_can_162 : decode cX5_can 162 = .ok (.if_icmp .ne 7, 3) := by decide +kernel
theorem dX5_can_165 : decode cX5_can 165 = .ok (.iconst 1, 1) := by decide +kernel
theorem dX5_can_166 : decode cX5_can 166 = .ok (.goto 4, 3) := by decide +kernel
theorem dX5_can_169 : decode cX5_can 169 = .ok (.iconst 0, 1) := by decide +kernel
theorem dX5_can_170 : decode cX5_can 170 = .ok (.ireturn, 1) := by decide +kernel
theorem dX5_can_171 : decode cX5_can 171 = .ok (.iconst 1, 1) := by decide +kernel
theorem dX5_can_172 : decode cX5_can 172 = .ok (.ireturn, 1) := by decide +kernel
theorem dX5_after_0 : decode cX5_after 0 = .ok (.iload_n 1, 1) := by decide +kernel
theorem dX5_after_1 : decode cX5_after 1 = .ok (.invokestatic 191, 3) := by decide +kernel
theorem dX5_after_4 : decode cX5_after 4 = .ok (.aload_n 0, 1) := by decide +kernel
theorem dX5_after_5 : decode cX5_after 5 = .ok (.getfield 86, 3) := by decide +kernel
theorem dX5_after_8 : decode cX5_after 8 = .ok (.bipush 41, 2) := by decide +kernel
theorem dX5_after_10 : decode cX5_after 10 = .ok (.iload_n 2, 1) := by decide +kernel
theorem dX5_after_11 : decode cX5_after 11 = .ok (.iload_n 1, 1) := by decide +kernel
theorem dX5_after_12 : decode cX5_after 12 = .ok (.invokestatic 185, 3) := by decide +kernel
theorem dX5_after_15 : decode cX5_after 15 = .ok (.iadd, 1) := by decide +kernel
theorem dX5_after_16 : decode cX5_after 16 = .ok (.imul, 1) := by decide +kernel
theorem dX5_after_17 : decode cX5_after 17 = .ok (.iload_n 3, 1) := by decide +kernel
theorem dX5_after_18 : decode cX5_after 18 = .ok (.iadd, 1) := by decide +kernel
theorem dX5_after_19 : decode cX5_after 19 = .ok (.iload_n 1, 1) := by decide +kernel
theorem dX5_after_20 : decode cX5_after 20 = .ok (.invokestatic 188, 3) := by decide +kernel
theorem dX5_after_23 : decode cX5_after 23 = .ok (.iadd, 1) := by decide +kernel
theorem dX5_after_24 : decode cX5_after 24 = .ok (.iaload, 1) := by decide +kernel
theorem dX5_after_25 : decode cX5_after 25 = .ok (.iadd, 1) := by decide +kernel
theorem dX5_after_26 : decode cX5_after 26 = .ok (.ireturn, 1) := by decide +kernel
theorem dX5_correct_0 : decode cX5_correct 0 = .ok (.aload_n 0, 1) := by decide +kernel
theorem dX5_correct_1 : decode cX5_correct 1 = .ok (.iconst 0, 1) := by decide +kernel
theorem dX5_correct_2 : decode cX5_correct 2 = .ok (.putfield 89, 3) := by decide +kernel
theorem dX5_correct_5 : decode cX5_correct 5 = .ok (.aload_n 0, 1) := by decide +kernel
theorem dX5_correct_6 : decode cX5_correct 6 = .ok (.iload_n 1, 1) := by decide +kernel
theorem dX5_correct_7 : decode cX5_correct 7 = .ok (.ifCond .lt 33, 3) := by decide +kernel
theorem dX5_correct_10 : decode cX5_correct 10 = .ok (.iload_n 1, 1) := by decide +kernel
theorem dX5_correct_11 : decode cX5_correct 11 = .ok (.bipush 40, 2) := by decide +kernel
theorem dX5_correct_13 : decode cX5_correct 13 = .ok (.if_icmp .gt 27, 3) := by decide +kernel
theorem dX5_correct_16 : decode cX5_correct 16 = .ok (.iload_n 2, 1) := by decide +kernel
theorem dX5_correct_17 : decode cX5_correct 17 = .ok (.ifCond .lt 23, 3) := by decide +kernel
theorem dX5_correct_20 : decode cX5_correct 20 = .ok (.iload_n 2, 1) := by decide +kernel
theorem dX5_correct_21 : decode cX5_correct 21 = .ok (.bipush 40, 2) := by decide +kernel
theorem dX5_correct_23 : decode cX5_correct 23 = .ok (.if_icmp .gt 17, 3) := by decide +kernel
theorem dX5_correct_26 : decode cX5_correct 26 = .ok (.iload_n 1, 1) := by decide +kernel
theorem dX5_correct_27 : decode cX5_correct 27 = .ok (.iload_n 2, 1) := by decide +kernel
theorem dX5_correct_28 : decode cX5_correct 28 = .ok (.iadd, 1) := by decide +kernel
theorem dX5_correct_29 : decode cX5_correct 29 = .ok (.aload_n 0, 1) := by decide +kernel
theorem dX5_correct_30 : decode cX5_correct 30 = .ok (.getfield 179, 3) := by decide +kernel
theorem dX5_correct_33 : decode cX5_correct 33 = .ok (.if_icmp .gt 7, 3) := by decide +kernel
theorem dX5_correct_36 : decode cX5_correct 36 = .ok (.iconst 1, 1) := by decide +kernel
theorem dX5_correct_37 : decode cX5_correct 37 = .ok (.goto 4, 3) := by decide +kernel
theorem dX5_correct_40 : decode cX5_correct 40 = .ok (.iconst 0, 1) := by decide +kernel
theorem dX5_correct_41 : decode cX5_correct 41 = .ok (.iconst 1, 1) := by decide +kernel
theorem dX5_correct_42 : decode cX5_correct 42 = .ok (.invokevirtual 96, 3) := by decide +kernel
theorem dX5_correct_45 : decode cX5_correct 45 = .ok (.ifCond .ne 5, 3) := by decide +kernel
theorem dX5_correct_48 : decode cX5_correct 48 = .ok (.iconst 0, 1) := by decide +kernel
theorem dX5_correct_49 : decode cX5_correct 49 = .ok (.ireturn, 1) := by decide +kernel
theorem dX5_correct_50 : decode cX5_correct 50 = .ok (.aload_n 0, 1) := by decide +kernel
theorem dX5_correct_51 : decode cX5_correct 51 = .ok (.iconst 0, 1) := by decide +kernel
theorem dX5_correct_52 : decode cX5_correct 52 = .ok (.putfield 179, 3) := by decide +kernel
theorem dX5_correct_55 : decode cX5_correct 55 = .ok (.iload_n 1, 1) := by decide +kernel
theorem dX5_correct_56 : decode cX5_correct 56 = .ok (.istore_n 3, 1) := by decide +kernel
theorem dX5_correct_57 : decode cX5_correct 57 = .ok (.iload_n 3, 1) := by decide +kernel
theorem dX5_correct_58 : decode cX5_correct 58 = .ok (.ifCond .lt 111, 3) := by decide +kernel
theorem dX5_correct_61 : decode cX5_correct 61 = .ok (.iload_n 2, 1) := by decide +kernel
theorem dX5_correct_62 : decode cX5_correct 62 = .ok (.istore 4, 2) := by decide +kernel
theorem dX5_correct_64 : decode cX5_correct 64 = .ok (.iload 4, 2) := by decide +kernel
theorem dX5_correct_66 : decode cX5_correct 66 = .ok (.ifCond .lt 97, 3) := by decide +kernel
theorem dX5_correct_69 : decode cX5_correct 69 = .ok (.iload_n 3, 1) := by decide +kernel
theorem dX5_correct_70 : decode cX5_correct 70 = .ok (.iload_n 1, 1) := by decide +kernel
theorem dX5_correct_71 : decode cX5_correct 71 = .ok (.if_icmp .ne 13, 3) := by decide +kernel
theorem dX5_correct_74 : decode cX5_correct 74 = .ok (.iload 4, 2) := by decide +kernel
theorem dX5_correct_76 : decode cX5_correct 76 = .ok (.iload_n 2, 1) := by decide +kernel
theorem dX5_correct_77 : decode cX5_correct 77 = .ok (.if_icmp .ne 7, 3) := by decide +kernel
theorem dX5_correct_80 : decode cX5_correct 80 = .ok (.iconst 0, 1) := by decide +kernel
theorem dX5_correct_81 : decode cX5_correct 81 = .ok (.goto 6, 3) := by decide +kernel
theorem dX5_correct_84 : decode cX5_correct 84 = .ok (.sipush 1000, 3) := by decide +kernel
theorem dX5_correct_87 : decode cX5_correct 87 = .ok (.istore 5, 2) := by decide +kernel
theorem dX5_correct_89 : decode cX5_correct 89 = .ok (.iconst 0, 1) := by decide +kernel
theorem dX5_correct_90 : decode cX5_correct 90 = .ok (.istore 6, 2) := by decide +kernel
theorem dX5_correct_92 : decode cX5_correct 92 = .ok (.iload 6, 2) := by decide +kernel
theorem dX5_correct_94 : decode cX5_correct 94 = .ok (.iconst 4, 1) := by decide +kernel
theorem dX5_correct_95 : decode cX5_correct 95 = .ok (.if_icmp .gt 48, 3) := by decide +kernel
theorem dX5_correct_98 : decode cX5_correct 98 = .ok (.aload_n 0, 1) := by decide +kernel
theorem dX5_correct_99 : decode cX5_correct 99 = .ok (.iload 6, 2) := by decide +kernel
theorem dX5_correct_101 : decode cX5_correct 101 = .ok (.iload_n 3, 1) := by decide +kernel
theorem dX5_correct_102 : decode cX5_correct 102 = .ok (.iload 4, 2) := by decide +kernel
theorem dX5_correct_104 : decode cX5_correct 104 = .ok (.iload_n 1, 1) := by decide +kernel
theorem dX5_correct_105 : decode cX5_correct 105 = .ok (.iload_n 2, 1) := by decide +kernel
theorem dX5_correct_106 : decode cX5_correct 106 = .ok (.invokevirtual 194, 3) := by decide +kernel
theorem dX5_correct_109 : decode cX5_correct 109 = .ok (.ifCond .eq 28, 3) := by decide +kernel
theorem dX5_correct_112 : decode cX5_correct 112 = .ok (.aload_n 0, 1) := by decide +kernel
theorem dX5_correct_113 : decode cX5_correct 113 = .ok (.iload 6, 2) := by decide +kernel
theorem dX5_correct_115 : decode cX5_correct 115 = .ok (.iload_n 3, 1) := by decide +kernel
theorem dX5_correct_116 : decode cX5_correct 116 = .ok (.iload 4, 2) := by decide +kernel
theorem dX5_correct_118 : decode cX5_correct 118 = .ok (.invokevirtual 198, 3) := by decide +kernel
theorem dX5_correct_121 : decode cX5_correct 121 = .ok (.iload 5, 2) := by decide +kernel
theorem dX5_correct_123 : decode cX5_correct 123 = .ok (.if_icmp .ge 14, 3) := by decide +kernel
theorem dX5_correct_126 : decode cX5_correct 126 = .ok (.aload_n 0, 1) := by decide +kernel
theorem dX5_correct_127 : decode cX5_correct 127 = .ok (.iload 6, 2) := by decide +kernel
theorem dX5_correct_129 : decode cX5_correct 129 = .ok (.iload_n 3, 1) := by decide +kernel
theorem dX5_correct_130 : decode cX5_correct 130 = .ok (.iload 4, 2) := by decide +kernel
theorem dX5_correct_132 : decode cX5_correct 132 = .ok (.invokevirtual 198, 3) := by decide +kernel
theorem dX5_correct_135 : decode cX5_correct 135 = .ok (.istore 5, 2) := by decide +kernel
theorem dX5_correct_137 : decode cX5_correct 137 = .ok (.iinc 6 1, 3) := by decide +kernel
theorem dX5_correct_140 : decode cX5_correct 140 = .ok (.goto (-48), 3) := by decide +kernel
theorem dX5_correct_143 : decode cX5_correct 143 = .ok (.aload_n 0, 1) := by decide +kernel
theorem dX5_correct_144 : decode cX5_correct 144 = .ok (.getfield 86, 3) := by decide +kernel
theorem dX5_correct_147 : decode cX5_correct 147 = .ok (.bipush 41, 2) := by decide +kernel
theorem dX5_correct_149 : decode cX5_correct 149 = .ok (.iload_n 3, 1) := by decide +kernel
theorem dX5_correct_150 : decode cX5_correct 150 = .ok (.imul, 1) := by decide +kernel
theorem dX5_correct_151 : decode cX5_correct 151 = .ok (.iload 4, 2) := by decide +kernel
theorem dX5_correct_153 : decode cX5_correct 153 = .ok (.iadd, 1) := by decide +kernel
theorem dX5_correct_154 : decode cX5_correct 154 = .ok (.iload 5, 2) := by decide +kernel
theorem dX5_correct_156 : decode cX5_correct 156 = .ok (.iastore, 1) := by decide +kernel
theorem dX5_correct_157 : decode cX5_correct 157 = .ok (.iinc 4 (-1), 3) := by decide +kernel
theorem dX5_correct_160 : decode cX5_correct 160 = .ok (.goto (-96), 3) := by decide +kernel
theorem dX5_correct_163 : decode cX5_correct 163 = .ok (.iinc 3 (-1), 3) := by decide +kernel
theorem dX5_correct_166 : decode cX5_correct 166 = .ok (.goto (-109), 3) := by decide +kernel
theorem dX5_correct_169 : decode cX5_correct 169 = .ok (.aload_n 0, 1) := by decide +kernel
theorem dX5_correct_170 : decode cX5_correct 170 = .ok (.iconst 0, 1) := by decide +kernel
theorem dX5_correct_171 : decode cX5_correct 171 = .ok (.putfield 201, 3) := by decide +kernel
theorem dX5_correct_174 : decode cX5_correct 174 = .ok (.iconst 0, 1) := by decide +kernel
theorem dX5_correct_175 : decode cX5_correct 175 = .ok (.istore_n 3, 1) := by decide +kernel
theorem dX5_correct_176 : decode cX5_correct 176 = .ok (.iconst 0, 1) := by decide +kernel
theorem dX5_correct_177 : decode cX5_correct 177 = .ok (.istore 4, 2) := by decide +kernel
theorem dX5_correct_179 : decode cX5_correct 179 = .ok (.iload_n 3, 1) := by decide +kernel
theorem dX5_correct_180 : decode cX5_correct 180 = .ok (.iload_n 1, 1) := by decide +kernel
theorem dX5_correct_181 : decode cX5_correct 181 = .ok (.if_icmp .lt 9, 3) := by decide +kernel
theorem dX5_correct_184 : decode cX5_correct 184 = .ok (.iload 4, 2) := by decide +kernel
theorem dX5_correct_186 : decode cX5_correct 186 = .ok (.iload_n 2, 1) := by decide +kernel
theorem dX5_correct_187 : decode cX5_correct 187 = .ok (.if_icmp .ge 92, 3) := by decide +kernel
theorem dX5_correct_190 : decode cX5_correct 190 = .ok (.iconst 0, 1) := by decide +kernel
theorem dX5_correct_191 : decode cX5_correct 191 = .ok (.istore 5, 2) := by decide +kernel
theorem dX5_correct_193 : decode cX5_correct 193 = .ok (.aload_n 0, 1) := by decide +kernel
theorem dX5_correct_194 : decode cX5_correct 194 = .ok (.iload 5, 2) := by decide +kernel
theorem dX5_correct_196 : decode cX5_correct 196 = .ok (.iload_n 3, 1) := by decide +kernel
theorem dX5_correct_197 : decode cX5_correct 197 = .ok (.iload 4, 2) := by decide +kernel
theorem dX5_correct_199 : decode cX5_correct 199 = .ok (.iload_n 1, 1) := by decide +kernel
theorem dX5_correct_200 : decode cX5_correct 200 = .ok (.iload_n 2, 1) := by decide +kernel
theorem dX5_correct_201 : decode cX5_correct 201 = .ok (.invokevirtual 194, 3) := by decide +kernel
theorem dX5_correct_204 : decode cX5_correct 204 = .ok (.ifCond .eq 27, 3) := by decide +kernel
theorem dX5_correct_207 : decode cX5_correct 207 = .ok (.aload_n 0, 1) := by decide +kernel
theorem dX5_correct_208 : decode cX5_correct 208 = .ok (.iload 5, 2) := by decide +kernel
theorem dX5_correct_210 : decode cX5_correct 210 = .ok (.iload_n 3, 1) := by decide +kernel
theorem dX5_correct_211 : decode cX5_correct 211 = .ok (.iload 4, 2) := by decide +kernel
theorem dX5_correct_213 : decode cX5_correct 213 = .ok (.invokevirtual 198, 3) := by decide +kernel
theorem dX5_correct_216 : decode cX5_correct 216 = .ok (.aload_n 0, 1) := by decide +kernel
theorem dX5_correct_217 : decode cX5_correct 217 = .ok (.getfield 86, 3) := by decide +kernel
theorem dX5_correct_220 : decode cX5_correct 220 = .ok (.bipush 41, 2) := by decide +kernel
theorem dX5_correct_222 : decode cX5_correct 222 = .ok (.iload_n 3, 1) := by decide +kernel
theorem dX5_correct_223 : decode cX5_correct 223 = .ok (.imul, 1) := by decide +kernel
theorem dX5_correct_224 : decode cX5_correct 224 = .ok (.iload 4, 2) := by decide +kernel
theorem dX5_correct_226 : decode cX5_correct 226 = .ok (.iadd, 1) := by decide +kernel
theorem dX5_correct_227 : decode cX5_correct 227 = .ok (.iaload, 1) := by decide +kernel
theorem dX5_correct_228 : decode cX5_correct 228 = .ok (.if_icmp .eq 9, 3) := by decide +kernel
theorem dX5_correct_231 : decode cX5_correct 231 = .ok (.iinc 5 1, 3) := by decide +kernel
theorem dX5_correct_234 : decode cX5_correct 234 = .ok (.goto (-41), 3) := by decide +kernel
theorem dX5_correct_237 : decode cX5_correct 237 = .ok (.aload_n 0, 1) := by decide +kernel
theorem dX5_correct_238 : decode cX5_correct 238 = .ok (.getfield 62, 3) := by decide +kernel
theorem dX5_correct_241 : decode cX5_correct 241 = .ok (.aload_n 0, 1) := by decide +kernel
theorem dX5_correct_242 : decode cX5_correct 242 = .ok (.getfield 201, 3) := by decide +kernel
theorem dX5_correct_245 : decode cX5_correct 245 = .ok (.iload 5, 2) := by decide +kernel
theorem dX5_correct_247 : decode cX5_correct 247 = .ok (.iastore, 1) := by decide +kernel
theorem dX5_correct_248 : decode cX5_correct 248 = .ok (.aload_n 0, 1) := by decide +kernel
theorem dX5_correct_249 : decode cX5_correct 249 = .ok (.dup, 1) := by decide +kernel
theorem dX5_correct_250 : decode cX5_correct 250 = .ok (.getfield 201, 3) := by decide +kernel
theorem dX5_correct_253 : decode cX5_correct 253 = .ok (.iconst 1, 1) := by decide +kernel
theorem dX5_correct_254 : decode cX5_correct 254 = .ok (.iadd, 1) := by decide +kernel
theorem dX5_correct_255 : decode cX5_correct 255 = .ok (.putfield 201, 3) := by decide +kernel
theorem dX5_correct_258 : decode cX5_correct 258 = .ok (.iload_n 3, 1) := by decide +kernel
theorem dX5_correct_259 : decode cX5_correct 259 = .ok (.iload 5, 2) := by decide +kernel
theorem dX5_correct_261 : decode cX5_correct 261 = .ok (.invokestatic 185, 3) := by decide +kernel
theorem dX5_correct_264 : decode cX5_correct 264 = .ok (.iadd, 1) := by decide +kernel
theorem dX5_correct_265 : decode cX5_correct 265 = .ok (.istore_n 3, 1) := by decide +kernel
theorem dX5_correct_266 : decode cX5_correct 266 = .ok (.iload 4, 2) := by decide +kernel
theorem dX5_correct_268 : decode cX5_correct 268 = .ok (.iload 5, 2) := by decide +kernel
theorem dX5_correct_270 : decode cX5_correct 270 = .ok (.invokestatic 188, 3) := by decide +kernel
theorem dX5_correct_273 : decode cX5_correct 273 = .ok (.iadd, 1) := by decide +kernel
theorem dX5_correct_274 : decode cX5_correct 274 = .ok (.istore 4, 2) := by decide +kernel
theorem dX5_correct_276 : decode cX5_correct 276 = .ok (.goto (-97), 3) := by decide +kernel
theorem dX5_correct_279 : decode cX5_correct 279 = .ok (.aload_n 0, 1) := by decide +kernel
theorem dX5_correct_280 : decode cX5_correct 280 = .ok (.getfield 86, 3) := by decide +kernel
theorem dX5_correct_283 : decode cX5_correct 283 = .ok (.iconst 0, 1) := by decide +kernel
theorem dX5_correct_284 : decode cX5_correct 284 = .ok (.iaload, 1) := by decide +kernel
theorem dX5_correct_285 : decode cX5_correct 285 = .ok (.ireturn, 1) := by decide +kernel
theorem dX5_mark_0 : decode cX5_mark 0 = .ok (.aload_n 0, 1) := by decide +kernel
theorem dX5_mark_1 : decode cX5_mark 1 = .ok (.iconst 0, 1) := by decide +kernel
theorem dX5_mark_2 : decode cX5_mark 2 = .ok (.putfield 89, 3) := by decide +kernel
theorem dX5_mark_5 : decode cX5_mark 5 = .ok (.aload_n 0, 1) := by decide +kernel
theorem dX5_mark_6 : decode cX5_mark 6 = .ok (.iload_n 1, 1) := by decide +kernel
theorem dX5_mark_7 : decode cX5_mark 7 = .ok (.iconst (-1), 1) := by decide +kernel
theorem dX5_mark_8 : decode cX5_mark 8 = .ok (.if_icmp .lt 15, 3) := by decide +kernel
theorem dX5_mark_11 : decode cX5_mark 11 = .ok (.iload_n 1, 1) := by decide +kernel
theorem dX5_mark_12 : decode cX5_mark 12 = .ok (.aload_n 0, 1) := by decide +kernel
theorem dX5_mark_13 : decode cX5_mark 13 = .ok (.getfield 201, 3) := by decide +kernel
theorem dX5_mark_16 : decode cX5_mark 16 = .ok (.if_icmp .ge 7, 3) := by decide +kernel
theorem dX5_mark_19 : decode cX5_mark 19 = .ok (.iconst 1, 1) := by decide +kernel
theorem dX5_mark_20 : decode cX5_mark 20 = .ok (.goto 4, 3) := by decide +kernel
theorem dX5_mark_23 : decode cX5_mark 23 = .ok (.iconst 0, 1) := by decide +kernel
theorem dX5_mark_24 : decode cX5_mark 24 = .ok (.iconst 1, 1) := by decide +kernel
theorem dX5_mark_25 : decode cX5_mark 25 = .ok (.invokevirtual 96, 3) := by decide +kernel
theorem dX5_mark_28 : decode cX5_mark 28 = .ok (.ifCond .ne 5, 3) := by decide +kernel
theorem dX5_mark_31 : decode cX5_mark 31 = .ok (.iconst 0, 1) := by decide +kernel
theorem dX5_mark_32 : decode cX5_mark 32 = .ok (.ireturn, 1) := by decide +kernel
theorem dX5_mark_33 : decode cX5_mark 33 = .ok (.iload_n 1, 1) := by decide +kernel
theorem dX5_mark_34 : decode cX5_mark 34 = .ok (.iconst (-1), 1) := by decide +kernel
theorem dX5_mark_35 : decode cX5_mark 35 = .ok (.if_icmp .ne 10, 3) := by decide +kernel
theorem dX5_mark_38 : decode cX5_mark 38 = .ok (.aload_n 0, 1) := by decide +kernel
theorem dX5_mark_39 : decode cX5_mark 39 = .ok (.getfield 201, 3) := by decide +kernel
theorem dX5_mark_42 : decode cX5_mark 42 = .ok (.goto 9, 3) := by decide +kernel
theorem dX5_mark_45 : decode cX5_mark 45 = .ok (.aload_n 0, 1) := by decide +kernel
theorem dX5_mark_46 : decode cX5_mark 46 = .ok (.getfield 62, 3) := by decide +kernel
theorem dX5_mark_49 : decode cX5_mark 49 = .ok (.iload_n 1, 1) := by decide +kernel
theorem dX5_mark_50 : decode cX5_mark 50 = .ok (.iaload, 1) := by decide +kernel
theorem dX5_mark_51 : decode cX5_mark 51 = .ok (.ireturn, 1) := by decide +kernel
theorem dX5_marks_0 : decode cX5_marks 0 = .ok (.aload_n 0, 1) := by decide +kernel
theorem dX5_marks_1 : decode cX5_marks 1 = .ok (.iconst 0, 1) := by decide +kernel
theorem dX5_marks_2 : decode cX5_marks 2 = .ok (.putfield 89, 3) := by decide +kernel
theorem dX5_marks_5 : decode cX5_marks 5 = .ok (.aload_n 0, 1) := by decide +kernel
theorem dX5_marks_6 : decode cX5_marks 6 = .ok (.iload_n 1, 1) := by decide +kernel
theorem dX5_marks_7 : decode cX5_marks 7 = .ok (.ifCond .lt 12, 3) := by decide +kernel
theorem dX5_marks_10 : decode cX5_marks 10 = .ok (.iload_n 1, 1) := by decide +kernel
theorem dX5_marks_11 : decode cX5_marks 11 = .ok (.iconst 4, 1) := by decide +kernel
theorem dX5_marks_12 : decode cX5_marks 12 = .ok (.if_icmp .gt 7, 3) := by decide +kernel
theorem dX5_marks_15 : decode cX5_marks 15 = .ok (.iconst 1, 1) := by decide +kernel
theorem dX5_marks_16 : decode cX5_marks 16 = .ok (.goto 4, 3) := by decide +kernel
theorem dX5_marks_19 : decode cX5_marks 19 = .ok (.iconst 0, 1) := by decide +kernel
theorem dX5_marks_20 : decode cX5_marks 20 = .ok (.iconst 1, 1) := by decide +kernel
theorem dX5_marks_21 : decode cX5_marks 21 = .ok (.invokevirtual 96, 3) := by decide +kernel
theorem dX5_marks_24 : decode cX5_marks 24 = .ok (.ifCond .ne 5, 3) := by decide +kernel
theorem dX5_marks_27 : decode cX5_marks 27 = .ok (.iconst 0, 1) := by decide +kernel
theorem dX5_marks_28 : decode cX5_marks 28 = .ok (.ireturn, 1) := by decide +kernel
theorem dX5_marks_29 : decode cX5_marks 29 = .ok (.iconst 0, 1) := by decide +kernel
theorem dX5_marks_30 : decode cX5_marks 30 = .ok (.istore_n 2, 1) := by decide +kernel
theorem dX5_marks_31 : decode cX5_marks 31 = .ok (.iconst 0, 1) := by decide +kernel
theorem dX5_marks_32 : decode cX5_marks 32 = .ok (.istore_n 3, 1) := by decide +kernel
theorem dX5_marks_33 : decode cX5_marks 33 = .ok (.iload_n 3, 1) := by decide +kernel
theorem dX5_marks_34 : decode cX5_marks 34 = .ok (.aload_n 0, 1) := by decide +kernel
theorem dX5_marks_35 : decode cX5_marks 35 = .ok (.getfield 201, 3) := by decide +kernel
theorem dX5_marks_38 : decode cX5_marks 38 = .ok (.if_icmp .ge 22, 3) := by decide +kernel
theorem dX5_marks_41 : decode cX5_marks 41 = .ok (.aload_n 0, 1) := by decide +kernel
theorem dX5_marks_42 : decode cX5_marks 42 = .ok (.getfield 62, 3) := by decide +kernel
theorem dX5_marks_45 : decode cX5_marks 45 = .ok (.iload_n 3, 1) := by decide +kernel
theorem dX5_marks_46 : decode cX5_marks 46 = .ok (.iaload, 1) := by decide +kernel
theorem dX5_marks_47 : decode cX5_marks 47 = .ok (.iload_n 1, 1) := by decide +kernel
theorem dX5_marks_48 : decode cX5_marks 48 = .ok (.if_icmp .ne 6, 3) := by decide +kernel
theorem dX5_marks_51 : decode cX5_marks 51 = .ok (.iinc 2 1, 3) := by decide +kernel
theorem dX5_marks_54 : decode cX5_marks 54 = .ok (.iinc 3 1, 3) := by decide +kernel
theorem dX5_marks_57 : decode cX5_marks 57 = .ok (.goto (-24), 3) := by decide +kernel
theorem dX5_marks_60 : decode cX5_marks 60 = .ok (.iload_n 2, 1) := by decide +kernel
theorem dX5_marks_61 : decode cX5_marks 61 = .ok (.ireturn, 1) := by decide +kernel
theorem dX5_count_0 : decode cX5_count 0 = .ok (.aload_n 0, 1) := by decide +kernel
theorem dX5_count_1 : decode cX5_count 1 = .ok (.iconst 0, 1) := by decide +kernel
theorem dX5_count_2 : decode cX5_count 2 = .ok (.putfield 89, 3) := by decide +kernel
theorem dX5_count_5 : decode cX5_count 5 = .ok (.aload_n 0, 1) := by decide +kernel
theorem dX5_count_6 : decode cX5_count 6 = .ok (.iload_n 1, 1) := by decide +kernel
theorem dX5_count_7 : decode cX5_count 7 = .ok (.ifCond .lt 12, 3) := by decide +kernel
theorem dX5_count_10 : decode cX5_count 10 = .ok (.iload_n 1, 1) := by decide +kernel
theorem dX5_count_11 : decode cX5_count 11 = .ok (.iconst 4, 1) := by decide +kernel
theorem dX5_count_12 : decode cX5_count 12 = .ok (.if_icmp .gt 7, 3) := by decide +kernel
theorem dX5_count_15 : decode cX5_count 15 = .ok (.iconst 1, 1) := by decide +kernel
theorem dX5_count_16 : decode cX5_count 16 = .ok (.goto 4, 3) := by decide +kernel
theorem dX5_count_19 : decode cX5_count 19 = .ok (.iconst 0, 1) := by decide +kernel
theorem dX5_count_20 : decode cX5_count 20 = .ok (.iconst 1, 1) := by decide +kernel
theorem dX5_count_21 : decode cX5_count 21 = .ok (.invokevirtual 96, 3) := by decide +kernel
theorem dX5_count_24 : decode cX5_count 24 = .ok (.ifCond .ne 5, 3) := by decide +kernel
theorem dX5_count_27 : decode cX5_count 27 = .ok (.iconst 0, 1) := by decide +kernel
theorem dX5_count_28 : decode cX5_count 28 = .ok (.ireturn, 1) := by decide +kernel
theorem dX5_count_29 : decode cX5_count 29 = .ok (.iload_n 1, 1) := by decide +kernel
theorem dX5_count_30 : decode cX5_count 30 = .ok (.ifCond .ne 10, 3) := by decide +kernel
theorem dX5_count_33 : decode cX5_count 33 = .ok (.aload_n 0, 1) := by decide +kernel
theorem dX5_count_34 : decode cX5_count 34 = .ok (.getfield 93, 3) := by decide +kernel
theorem dX5_count_37 : decode cX5_count 37 = .ok (.goto 43, 3) := by decide +kernel
theorem dX5_count_40 : decode cX5_count 40 = .ok (.iload_n 1, 1) := by decide +kernel
theorem dX5_count_41 : decode cX5_count 41 = .ok (.iconst 1, 1) := by decide +kernel
theorem dX5_count_42 : decode cX5_count 42 = .ok (.if_icmp .ne 10, 3) := by decide +kernel
theorem dX5_count_45 : decode cX5_count 45 = .ok (.aload_n 0, 1) := by decide +kernel
theorem dX5_count_46 : decode cX5_count 46 = .ok (.getfield 167, 3) := by decide +kernel
theorem dX5_count_49 : decode cX5_count 49 = .ok (.goto 31, 3) := by decide +kernel
theorem dX5_count_52 : decode cX5_count 52 = .ok (.iload_n 1, 1) := by decide +kernel
theorem dX5_count_53 : decode cX5_count 53 = .ok (.iconst 2, 1) := by decide +kernel
theorem dX5_count_54 : decode cX5_count 54 = .ok (.if_icmp .ne 10, 3) := by decide +kernel
theorem dX5_count_57 : decode cX5_count 57 = .ok (.aload_n 0, 1) := by decide +kernel
theorem dX5_count_58 : decode cX5_count 58 = .ok (.getfield 170, 3) := by decide +kernel
theorem dX5_count_61 : decode cX5_count 61 = .ok (.goto 19, 3) := by decide +kernel
theorem dX5_count_64 : decode cX5_count 64 = .ok (.iload_n 1, 1) := by decide +kernel
theorem dX5_count_65 : decode cX5_count 65 = .ok (.iconst 3, 1) := by decide +kernel
theorem dX5_count_66 : decode cX5_count 66 = .ok (.if_icmp .ne 10, 3) := by decide +kernel
theorem dX5_count_69 : decode cX5_count 69 = .ok (.aload_n 0, 1) := by decide +kernel
theorem dX5_count_70 : decode cX5_count 70 = .ok (.getfield 173, 3) := by decide +kernel
theorem dX5_count_73 : decode cX5_count 73 = .ok (.goto 7, 3) := by decide +kernel
theorem dX5_count_76 : decode cX5_count 76 = .ok (.aload_n 0, 1) := by decide +kernel
theorem dX5_count_77 : decode cX5_count 77 = .ok (.getfield 179, 3) := by decide +kernel
theorem dX5_count_80 : decode cX5_count 80 = .ok (.ireturn, 1) := by decide +kernel
theorem dJ6_numberOfTrailingZeros_0f7a4_0 : decode cJ6_numberOfTrailingZeros_0f7a4 0 = .ok (.iload_n 0, 1) := by decide +kernel
theorem dJ6_numberOfTrailingZeros_0f7a4_1 : decode cJ6_numberOfTrailingZeros_0f7a4 1 = .ok (.iconst (-1), 1) := by decide +kernel
theorem dJ6_numberOfTrailingZeros_0f7a4_2 : decode cJ6_numberOfTrailingZeros_0f7a4 2 = .ok (.ixor, 1) := by decide +kernel
theorem dJ6_numberOfTrailingZeros_0f7a4_3 : decode cJ6_numberOfTrailingZeros_0f7a4 3 = .ok (.iload_n 0, 1) := by decide +kernel
theorem dJ6_numberOfTrailingZeros_0f7a4_4 : decode cJ6_numberOfTrailingZeros_0f7a4 4 = .ok (.iconst 1, 1) := by decide +kernel
theorem dJ6_numberOfTrailingZeros_0f7a4_5 : decode cJ6_numberOfTrailingZeros_0f7a4 5 = .ok (.isub, 1) := by decide +kernel
theorem dJ6_numberOfTrailingZeros_0f7a4_6 : decode cJ6_numberOfTrailingZeros_0f7a4 6 = .ok (.iand, 1) := by decide +kernel
theorem dJ6_numberOfTrailingZeros_0f7a4_7 : decode cJ6_numberOfTrailingZeros_0f7a4 7 = .ok (.istore_n 0, 1) := by decide +kernel
theorem dJ6_numberOfTrailingZeros_0f7a4_8 : decode cJ6_numberOfTrailingZeros_0f7a4 8 = .ok (.iload_n 0, 1) := by decide +kernel
theorem dJ6_numberOfTrailingZeros_0f7a4_9 : decode cJ6_numberOfTrailingZeros_0f7a4 9 = .ok (.ifCond .gt 8, 3) := by decide +kernel
theorem dJ6_numberOfTrailingZeros_0f7a4_12 : decode cJ6_numberOfTrailingZeros_0f7a4 12 = .ok (.iload_n 0, 1) := by decide +kernel
theorem dJ6_numberOfTrailingZeros_0f7a4_13 : decode cJ6_numberOfTrailingZeros_0f7a4 13 = .ok (.bipush 32, 2) := by decide +kernel
theorem dJ6_numberOfTrailingZeros_0f7a4_15 : decode cJ6_numberOfTrailingZeros_0f7a4 15 = .ok (.iand, 1) := by decide +kernel
theorem dJ6_numberOfTrailingZeros_0f7a4_16 : decode cJ6_numberOfTrailingZeros_0f7a4 16 = .ok (.ireturn, 1) := by decide +kernel
theorem dJ6_numberOfTrailingZeros_0f7a4_17 : decode cJ6_numberOfTrailingZeros_0f7a4 17 = .ok (.iconst 1, 1) := by decide +kernel
theorem dJ6_numberOfTrailingZeros_0f7a4_18 : decode cJ6_numberOfTrailingZeros_0f7a4 18 = .ok (.istore_n 1, 1) := by decide +kernel
theorem dJ6_numberOfTrailingZeros_0f7a4_19 : decode cJ6_numberOfTrailingZeros_0f7a4 19 = .ok (.iload_n 0, 1) := by decide +kernel
theorem dJ6_numberOfTrailingZeros_0f7a4_20 : decode cJ6_numberOfTrailingZeros_0f7a4 20 = .ok (.ldc_w 264, 3) := by decide +kernel
theorem dJ6_numberOfTrailingZeros_0f7a4_23 : decode cJ6_numberOfTrailingZeros_0f7a4 23 = .ok (.if_icmp .le 11, 3) := by decide +kernel
theorem dJ6_numberOfTrailingZeros_0f7a4_26 : decode cJ6_numberOfTrailingZeros_0f7a4 26 = .ok (.iinc 1 16, 3) := by decide +kernel
theorem dJ6_numberOfTrailingZeros_0f7a4_29 : decode cJ6_numberOfTrailingZeros_0f7a4 29 = .ok (.iload_n 0, 1) := by decide +kernel
theorem dJ6_numberOfTrailingZeros_0f7a4_30 : decode cJ6_numberOfTrailingZeros_0f7a4 30 = .ok (.bipush 16, 2) := by decide +kernel
theorem dJ6_numberOfTrailingZeros_0f7a4_32 : decode cJ6_numberOfTrailingZeros_0f7a4 32 = .ok (.iushr, 1) := by decide +kernel
theorem dJ6_numberOfTrailingZeros_0f7a4_33 : decode cJ6_numberOfTrailingZeros_0f7a4 33 = .ok (.istore_n 0, 1) := by decide +kernel
theorem dJ6_numberOfTrailingZeros_0f7a4_34 : decode cJ6_numberOfTrailingZeros_0f7a4 34 = .ok (.iload_n 0, 1) := by decide +kernel
theorem dJ6_numberOfTrailingZeros_0f7a4_35 : decode cJ6_numberOfTrailingZeros_0f7a4 35 = .ok (.sipush 256, 3) := by decide +kernel
theorem dJ6_numberOfTrailingZeros_0f7a4_38 : decode cJ6_numberOfTrailingZeros_0f7a4 38 = .ok (.if_icmp .le 11, 3) := by decide +kernel
theorem dJ6_numberOfTrailingZeros_0f7a4_41 : decode cJ6_numberOfTrailingZeros_0f7a4 41 = .ok (.iinc 1 8, 3) := by decide +kernel
theorem dJ6_numberOfTrailingZeros_0f7a4_44 : decode cJ6_numberOfTrailingZeros_0f7a4 44 = .ok (.iload_n 0, 1) := by decide +kernel
theorem dJ6_numberOfTrailingZeros_0f7a4_45 : decode cJ6_numberOfTrailingZeros_0f7a4 45 = .ok (.bipush 8, 2) := by decide +kernel
theorem dJ6_numberOfTrailingZeros_0f7a4_47 : decode cJ6_numberOfTrailingZeros_0f7a4 47 = .ok (.iushr, 1) := by decide +kernel
theorem dJ6_numberOfTrailingZeros_0f7a4_48 : decode cJ6_numberOfTrailingZeros_0f7a4 48 = .ok (.istore_n 0, 1) := by decide +kernel
theorem dJ6_numberOfTrailingZeros_0f7a4_49 : decode cJ6_numberOfTrailingZeros_0f7a4 49 = .ok (.iload_n 0, 1) := by decide +kernel
theorem dJ6_numberOfTrailingZeros_0f7a4_50 : decode cJ6_numberOfTrailingZeros_0f7a4 50 = .ok (.bipush 16, 2) := by decide +kernel
theorem dJ6_numberOfTrailingZeros_0f7a4_52 : decode cJ6_numberOfTrailingZeros_0f7a4 52 = .ok (.if_icmp .le 10, 3) := by decide +kernel
theorem dJ6_numberOfTrailingZeros_0f7a4_55 : decode cJ6_numberOfTrailingZeros_0f7a4 55 = .ok (.iinc 1 4, 3) := by decide +kernel
theorem dJ6_numberOfTrailingZeros_0f7a4_58 : decode cJ6_numberOfTrailingZeros_0f7a4 58 = .ok (.iload_n 0, 1) := by decide +kernel
theorem dJ6_numberOfTrailingZeros_0f7a4_59 : decode cJ6_numberOfTrailingZeros_0f7a4 59 = .ok (.iconst 4, 1) := by decide +kernel
theorem dJ6_numberOfTrailingZeros_0f7a4_60 : decode cJ6_numberOfTrailingZeros_0f7a4 60 = .ok (.iushr, 1) := by decide +kernel
theorem dJ6_numberOfTrailingZeros_0f7a4_61 : decode cJ6_numberOfTrailingZeros_0f7a4 61 = .ok (.istore_n 0, 1) := by decide +kernel
theorem dJ6_numberOfTrailingZeros_0f7a4_62 : decode cJ6_numberOfTrailingZeros_0f7a4 62 = .ok (.iload_n 0, 1) := by decide +kernel
theorem dJ6_numberOfTrailingZeros_0f7a4_63 : decode cJ6_numberOfTrailingZeros_0f7a4 63 = .ok (.iconst 4, 1) := by decide +kernel
theorem dJ6_numberOfTrailingZeros_0f7a4_64 : decode cJ6_numberOfTrailingZeros_0f7a4 64 = .ok (.if_icmp .le 10, 3) := by decide +kernel
theorem dJ6_numberOfTrailingZeros_0f7a4_67 : decode cJ6_numberOfTrailingZeros_0f7a4 67 = .ok (.iinc 1 2, 3) := by decide +kernel
theorem dJ6_numberOfTrailingZeros_0f7a4_70 : decode cJ6_numberOfTrailingZeros_0f7a4 70 = .ok (.iload_n 0, 1) := by decide +kernel
theorem dJ6_numberOfTrailingZeros_0f7a4_71 : decode cJ6_numberOfTrailingZeros_0f7a4 71 = .ok (.iconst 2, 1) := by decide +kernel
theorem dJ6_numberOfTrailingZeros_0f7a4_72 : decode cJ6_numberOfTrailingZeros_0f7a4 72 = .ok (.iushr, 1) := by decide +kernel
theorem dJ6_numberOfTrailingZeros_0f7a4_73 : decode cJ6_numberOfTrailingZeros_0f7a4 73 = .ok (.istore_n 0, 1) := by decide +kernel
theorem dJ6_numberOfTrailingZeros_0f7a4_74 : decode cJ6_numberOfTrailingZeros_0f7a4 74 = .ok (.iload_n 1, 1) := by decide +kernel
theorem dJ6_numberOfTrailingZeros_0f7a4_75 : decode cJ6_numberOfTrailingZeros_0f7a4 75 = .ok (.iload_n 0, 1) := by decide +kernel
theorem dJ6_numberOfTrailingZeros_0f7a4_76 : decode cJ6_numberOfTrailingZeros_0f7a4 76 = .ok (.iconst 1, 1) := by decide +kernel
theorem dJ6_numberOfTrailingZeros_0f7a4_77 : decode cJ6_numberOfTrailingZeros_0f7a4 77 = .ok (.iushr, 1) := by decide +kernel
theorem dJ6_numberOfTrailingZeros_0f7a4_78 : decode cJ6_numberOfTrailingZeros_0f7a4 78 = .ok (.iadd, 1) := by decide +kernel
theorem dJ6_numberOfTrailingZeros_0f7a4_79 : decode cJ6_numberOfTrailingZeros_0f7a4 79 = .ok (.ireturn, 1) := by decide +kernel
theorem dJ6_bitCount_0f7a4_0 : decode cJ6_bitCount_0f7a4 0 = .ok (.iload_n 0, 1) := by decide +kernel
theorem dJ6_bitCount_0f7a4_1 : decode cJ6_bitCount_0f7a4 1 = .ok (.iload_n 0, 1) := by decide +kernel
theorem dJ6_bitCount_0f7a4_2 : decode cJ6_bitCount_0f7a4 2 = .ok (.iconst 1, 1) := by decide +kernel
theorem dJ6_bitCount_0f7a4_3 : decode cJ6_bitCount_0f7a4 3 = .ok (.iushr, 1) := by decide +kernel
theorem dJ6_bitCount_0f7a4_4 : decode cJ6_bitCount_0f7a4 4 = .ok (.ldc_w 265, 3) := by decide +kernel
theorem dJ6_bitCount_0f7a4_7 : decode cJ6_bitCount_0f7a4 7 = .ok (.iand, 1) := by decide +kernel
theorem dJ6_bitCount_0f7a4_8 : decode cJ6_bitCount_0f7a4 8 = .ok (.isub, 1) := by decide +kernel
theorem dJ6_bitCount_0f7a4_9 : decode cJ6_bitCount_0f7a4 9 = .ok (.istore_n 0, 1) := by decide +kernel
theorem dJ6_bitCount_0f7a4_10 : decode cJ6_bitCount_0f7a4 10 = .ok (.iload_n 0, 1) := by decide +kernel
theorem dJ6_bitCount_0f7a4_11 : decode cJ6_bitCount_0f7a4 11 = .ok (.ldc_w 266, 3) := by decide +kernel
theorem dJ6_bitCount_0f7a4_14 : decode cJ6_bitCount_0f7a4 14 = .ok (.iand, 1) := by decide +kernel
theorem dJ6_bitCount_0f7a4_15 : decode cJ6_bitCount_0f7a4 15 = .ok (.iload_n 0, 1) := by decide +kernel
theorem dJ6_bitCount_0f7a4_16 : decode cJ6_bitCount_0f7a4 16 = .ok (.iconst 2, 1) := by decide +kernel
theorem dJ6_bitCount_0f7a4_17 : decode cJ6_bitCount_0f7a4 17 = .ok (.iushr, 1) := by decide +kernel
theorem dJ6_bitCount_0f7a4_18 : decode cJ6_bitCount_0f7a4 18 = .ok (.ldc_w 266, 3) := by decide +kernel
theorem dJ6_bitCount_0f7a4_21 : decode cJ6_bitCount_0f7a4 21 = .ok (.iand, 1) := by decide +kernel
theorem dJ6_bitCount_0f7a4_22 : decode cJ6_bitCount_0f7a4 22 = .ok (.iadd, 1) := by decide +kernel
theorem dJ6_bitCount_0f7a4_23 : decode cJ6_bitCount_0f7a4 23 = .ok (.istore_n 0, 1) := by decide +kernel
theorem dJ6_bitCount_0f7a4_24 : decode cJ6_bitCount_0f7a4 24 = .ok (.iload_n 0, 1) := by decide +kernel
theorem dJ6_bitCount_0f7a4_25 : decode cJ6_bitCount_0f7a4 25 = .ok (.iload_n 0, 1) := by decide +kernel
theorem dJ6_bitCount_0f7a4_26 : decode cJ6_bitCount_0f7a4 26 = .ok (.iconst 4, 1) := by decide +kernel
theorem dJ6_bitCount_0f7a4_27 : decode cJ6_bitCount_0f7a4 27 = .ok (.iushr, 1) := by decide +kernel
theorem dJ6_bitCount_0f7a4_28 : decode cJ6_bitCount_0f7a4 28 = .ok (.iadd, 1) := by decide +kernel
theorem dJ6_bitCount_0f7a4_29 : decode cJ6_bitCount_0f7a4 29 = .ok (.ldc_w 267, 3) := by decide +kernel
theorem dJ6_bitCount_0f7a4_32 : decode cJ6_bitCount_0f7a4 32 = .ok (.iand, 1) := by decide +kernel
theorem dJ6_bitCount_0f7a4_33 : decode cJ6_bitCount_0f7a4 33 = .ok (.istore_n 0, 1) := by decide +kernel
theorem dJ6_bitCount_0f7a4_34 : decode cJ6_bitCount_0f7a4 34 = .ok (.iload_n 0, 1) := by decide +kernel
theorem dJ6_bitCount_0f7a4_35 : decode cJ6_bitCount_0f7a4 35 = .ok (.iload_n 0, 1) := by decide +kernel
theorem dJ6_bitCount_0f7a4_36 : decode cJ6_bitCount_0f7a4 36 = .ok (.bipush 8, 2) := by decide +kernel
theorem dJ6_bitCount_0f7a4_38 : decode cJ6_bitCount_0f7a4 38 = .ok (.iushr, 1) := by decide +kernel
theorem dJ6_bitCount_0f7a4_39 : decode cJ6_bitCount_0f7a4 39 = .ok (.iadd, 1) := by decide +kernel
theorem dJ6_bitCount_0f7a4_40 : decode cJ6_bitCount_0f7a4 40 = .ok (.istore_n 0, 1) := by decide +kernel
theorem dJ6_bitCount_0f7a4_41 : decode cJ6_bitCount_0f7a4 41 = .ok (.iload_n 0, 1) := by decide +kernel
theorem dJ6_bitCount_0f7a4_42 : decode cJ6_bitCount_0f7a4 42 = .ok (.iload_n 0, 1) := by decide +kernel
theorem dJ6_bitCount_0f7a4_43 : decode cJ6_bitCount_0f7a4 43 = .ok (.bipush 16, 2) := by decide +kernel
theorem dJ6_bitCount_0f7a4_45 : decode cJ6_bitCount_0f7a4 45 = .ok (.iushr, 1) := by decide +kernel
theorem dJ6_bitCount_0f7a4_46 : decode cJ6_bitCount_0f7a4 46 = .ok (.iadd, 1) := by decide +kernel
theorem dJ6_bitCount_0f7a4_47 : decode cJ6_bitCount_0f7a4 47 = .ok (.istore_n 0, 1) := by decide +kernel
theorem dJ6_bitCount_0f7a4_48 : decode cJ6_bitCount_0f7a4 48 = .ok (.iload_n 0, 1) := by decide +kernel
theorem dJ6_bitCount_0f7a4_49 : decode cJ6_bitCount_0f7a4 49 = .ok (.bipush 63, 2) := by decide +kernel
theorem dJ6_bitCount_0f7a4_51 : decode cJ6_bitCount_0f7a4 51 = .ok (.iand, 1) := by decide +kernel
theorem dJ6_bitCount_0f7a4_52 : decode cJ6_bitCount_0f7a4 52 = .ok (.ireturn, 1) := by decide +kernel
theorem dJ9_max_7cf53_0 : decode cJ9_max_7cf53 0 = .ok (.iload_n 0, 1) := by decide +kernel
theorem dJ9_max_7cf53_1 : decode cJ9_max_7cf53 1 = .ok (.iload_n 1, 1) := by decide +kernel
theorem dJ9_max_7cf53_2 : decode cJ9_max_7cf53 2 = .ok (.if_icmp .lt 7, 3) := by decide +kernel
theorem dJ9_max_7cf53_5 : decode cJ9_max_7cf53 5 = .ok (.iload_n 0, 1) := by decide +kernel
theorem dJ9_max_7cf53_6 : decode cJ9_max_7cf53 6 = .ok (.goto 4, 3) := by decide +kernel
theorem dJ9_max_7cf53_9 : decode cJ9_max_7cf53 9 = .ok (.iload_n 1, 1) := by decide +kernel
theorem dJ9_max_7cf53_10 : decode cJ9_max_7cf53 10 = .ok (.ireturn, 1) := by decide +kernel
theorem dJ9_min_7cf53_0 : decode cJ9_min_7cf53 0 = .ok (.iload_n 0, 1) := by decide +kernel
theorem dJ9_min_7cf53_1 : decode cJ9_min_7cf53 1 = .ok (.iload_n 1, 1) := by decide +kernel
theorem dJ9_min_7cf53_2 : decode cJ9_min_7cf53 2 = .ok (.if_icmp .gt 7, 3) := by decide +kernel
theorem dJ9_min_7cf53_5 : decode cJ9_min_7cf53 5 = .ok (.iload_n 0, 1) := by decide +kernel
theorem dJ9_min_7cf53_6 : decode cJ9_min_7cf53 6 = .ok (.goto 4, 3) := by decide +kernel
theorem dJ9_min_7cf53_9 : decode cJ9_min_7cf53 9 = .ok (.iload_n 1, 1) := by decide +kernel
theorem dJ9_min_7cf53_10 : decode cJ9_min_7cf53 10 = .ok (.ireturn, 1) := by decide +kernel
theorem dL_hours_0 : decode cL_hours 0 = .ok (.aload_n 3, 1) := by decide +kernel
theorem dL_hours_1 : decode cL_hours 1 = .ok (.iconst 0, 1) := by decide +kernel
theorem dL_hours_2 : decode cL_hours 2 = .ok (.aload_n 0, 1) := by decide +kernel
theorem dL_hours_3 : decode cL_hours 3 = .ok (.iload_n 1, 1) := by decide +kernel
theorem dL_hours_4 : decode cL_hours 4 = .ok (.iload_n 2, 1) := by decide +kernel
theorem dL_hours_5 : decode cL_hours 5 = .ok (.invokevirtual 7, 3) := by decide +kernel
theorem dL_hours_8 : decode cL_hours 8 = .ok (.i2l, 1) := by decide +kernel
theorem dL_hours_9 : decode cL_hours 9 = .ok (.lastore, 1) := by decide +kernel
theorem dL_hours_10 : decode cL_hours 10 = .ok (.goto 7, 3) := by decide +kernel
theorem dL_hours_13 : decode cL_hours 13 = .ok (.astore 4, 2) := by decide +kernel
theorem dL_hours_15 : decode cL_hours 15 = .ok (.iconst 1, 1) := by decide +kernel
theorem dL_hours_16 : decode cL_hours 16 = .ok (.ireturn, 1) := by decide +kernel
theorem dL_hours_17 : decode cL_hours 17 = .ok (.iconst 0, 1) := by decide +kernel
theorem dL_hours_18 : decode cL_hours 18 = .ok (.ireturn, 1) := by decide +kernel
theorem dL_claim_0 : decode cL_claim 0 = .ok (.aload 4, 2) := by decide +kernel
theorem dL_claim_2 : decode cL_claim 2 = .ok (.iconst 0, 1) := by decide +kernel
theorem dL_claim_3 : decode cL_claim 3 = .ok (.aload_n 0, 1) := by decide +kernel
theorem dL_claim_4 : decode cL_claim 4 = .ok (.iload_n 1, 1) := by decide +kernel
theorem dL_claim_5 : decode cL_claim 5 = .ok (.iload_n 2, 1) := by decide +kernel
theorem dL_claim_6 : decode cL_claim 6 = .ok (.iload_n 3, 1) := by decide +kernel
theorem dL_claim_7 : decode cL_claim 7 = .ok (.invokevirtual 15, 3) := by decide +kernel
theorem dL_claim_10 : decode cL_claim 10 = .ok (.i2l, 1) := by decide +kernel
theorem dL_claim_11 : decode cL_claim 11 = .ok (.lastore, 1) := by decide +kernel
theorem dL_claim_12 : decode cL_claim 12 = .ok (.goto 11, 3) := by decide +kernel
theorem dL_claim_15 : decode cL_claim 15 = .ok (.astore 5, 2) := by decide +kernel
theorem dL_claim_17 : decode cL_claim 17 = .ok (.iconst 1, 1) := by decide +kernel
theorem dL_claim_18 : decode cL_claim 18 = .ok (.ireturn, 1) := by decide +kernel
theorem dL_claim_19 : decode cL_claim 19 = .ok (.astore 5, 2) := by decide +kernel
theorem dL_claim_21 : decode cL_claim 21 = .ok (.iconst 2, 1) := by decide +kernel
theorem dL_claim_22 : decode cL_claim 22 = .ok (.ireturn, 1) := by decide +kernel
theorem dL_claim_23 : decode cL_claim 23 = .ok (.iconst 0, 1) := by decide +kernel
theorem dL_claim_24 : decode cL_claim 24 = .ok (.ireturn, 1) := by decide +kernel
theorem dL_want_0 : decode cL_want 0 = .ok (.aload_n 3, 1) := by decide +kernel
theorem dL_want_1 : decode cL_want 1 = .ok (.iconst 0, 1) := by decide +kernel
theorem dL_want_2 : decode cL_want 2 = .ok (.aload_n 0, 1) := by decide +kernel
theorem dL_want_3 : decode cL_want 3 = .ok (.iload_n 1, 1) := by decide +kernel
theorem dL_want_4 : decode cL_want 4 = .ok (.iload_n 2, 1) := by decide +kernel
theorem dL_want_5 : decode cL_want 5 = .ok (.invokevirtual 21, 3) := by decide +kernel
theorem dL_want_8 : decode cL_want 8 = .ok (.i2l, 1) := by decide +kernel
theorem dL_want_9 : decode cL_want 9 = .ok (.lastore, 1) := by decide +kernel
theorem dL_want_10 : decode cL_want 10 = .ok (.goto 7, 3) := by decide +kernel
theorem dL_want_13 : decode cL_want 13 = .ok (.astore 4, 2) := by decide +kernel
theorem dL_want_15 : decode cL_want 15 = .ok (.iconst 1, 1) := by decide +kernel
theorem dL_want_16 : decode cL_want 16 = .ok (.ireturn, 1) := by decide +kernel
theorem dL_want_17 : decode cL_want 17 = .ok (.iconst 0, 1) := by decide +kernel
theorem dL_want_18 : decode cL_want 18 = .ok (.ireturn, 1) := by decide +kernel
theorem dL_unwant_0 : decode cL_unwant 0 = .ok (.aload_n 2, 1) := by decide +kernel
theorem dL_unwant_1 : decode cL_unwant 1 = .ok (.iconst 0, 1) := by decide +kernel
theorem dL_unwant_2 : decode cL_unwant 2 = .ok (.aload_n 0, 1) := by decide +kernel
theorem dL_unwant_3 : decode cL_unwant 3 = .ok (.iload_n 1, 1) := by decide +kernel
theorem dL_unwant_4 : decode cL_unwant 4 = .ok (.invokevirtual 24, 3) := by decide +kernel
theorem dL_unwant_7 : decode cL_unwant 7 = .ok (.i2l, 1) := by decide +kernel
theorem dL_unwant_8 : decode cL_unwant 8 = .ok (.lastore, 1) := by decide +kernel
theorem dL_unwant_9 : decode cL_unwant 9 = .ok (.goto 6, 3) := by decide +kernel
theorem dL_unwant_12 : decode cL_unwant 12 = .ok (.astore_n 3, 1) := by decide +kernel
theorem dL_unwant_13 : decode cL_unwant 13 = .ok (.iconst 1, 1) := by decide +kernel
theorem dL_unwant_14 : decode cL_unwant 14 = .ok (.ireturn, 1) := by decide +kernel
theorem dL_unwant_15 : decode cL_unwant 15 = .ok (.iconst 0, 1) := by decide +kernel
theorem dL_unwant_16 : decode cL_unwant 16 = .ok (.ireturn, 1) := by decide +kernel
theorem dL_bar_0 : decode cL_bar 0 = .ok (.aload 4, 2) := by decide +kernel
theorem dL_bar_2 : decode cL_bar 2 = .ok (.iconst 0, 1) := by decide +kernel
theorem dL_bar_3 : decode cL_bar 3 = .ok (.aload_n 0, 1) := by decide +kernel
theorem dL_bar_4 : decode cL_bar 4 = .ok (.iload_n 1, 1) := by decide +kernel
theorem dL_bar_5 : decode cL_bar 5 = .ok (.iload_n 2, 1) := by decide +kernel
theorem dL_bar_6 : decode cL_bar 6 = .ok (.iload_n 3, 1) := by decide +kernel
theorem dL_bar_7 : decode cL_bar 7 = .ok (.invokevirtual 28, 3) := by decide +kernel
theorem dL_bar_10 : decode cL_bar 10 = .ok (.ifCond .eq 7, 3) := by decide +kernel
theorem dL_bar_13 : decode cL_bar 13 = .ok (.lconst 1, 1) := by decide +kernel
theorem dL_bar_14 : decode cL_bar 14 = .ok (.goto 4, 3) := by decide +kernel
theorem dL_bar_17 : decode cL_bar 17 = .ok (.lconst 0, 1) := by decide +kernel
theorem dL_bar_18 : decode cL_bar 18 = .ok (.lastore, 1) := by decide +kernel
theorem dL_bar_19 : decode cL_bar 19 = .ok (.goto 7, 3) := by decide +kernel
theorem dL_bar_22 : decode cL_bar 22 = .ok (.astore 5, 2) := by decide +kernel
theorem dL_bar_24 : decode cL_bar 24 = .ok (.iconst 1, 1) := by decide +kernel
theorem dL_bar_25 : decode cL_bar 25 = .ok (.ireturn, 1) := by decide +kernel
theorem dL_bar_26 : decode cL_bar 26 = .ok (.iconst 0, 1) := by decide +kernel
theorem dL_bar_27 : decode cL_bar 27 = .ok (.ireturn, 1) := by decide +kernel
theorem dL_test_0 : decode cL_test 0 = .ok (.aload 5, 2) := by decide +kernel
theorem dL_test_2 : decode cL_test 2 = .ok (.iconst 0, 1) := by decide +kernel
theorem dL_test_3 : decode cL_test 3 = .ok (.aload_n 0, 1) := by decide +kernel
theorem dL_test_4 : decode cL_test 4 = .ok (.iload_n 1, 1) := by decide +kernel
theorem dL_test_5 : decode cL_test 5 = .ok (.iload_n 2, 1) := by decide +kernel
theorem dL_test_6 : decode cL_test 6 = .ok (.iload_n 3, 1) := by decide +kernel
theorem dL_test_7 : decode cL_test 7 = .ok (.iload 4, 2) := by decide +kernel
theorem dL_test_9 : decode cL_test 9 = .ok (.invokevirtual 32, 3) := by decide +kernel
theorem dL_test_12 : decode cL_test 12 = .ok (.ifCond .eq 7, 3) := by decide +kernel
theorem dL_test_15 : decode cL_test 15 = .ok (.lconst 1, 1) := by decide +kernel
theorem dL_test_16 : decode cL_test 16 = .ok (.goto 4, 3) := by decide +kernel
theorem dL_test_19 : decode cL_test 19 = .ok (.lconst 0, 1) := by decide +kernel
theorem dL_test_20 : decode cL_test 20 = .ok (.lastore, 1) := by decide +kernel
theorem dL_test_21 : decode cL_test 21 = .ok (.goto 11, 3) := by decide +kernel
theorem dL_test_24 : decode cL_test 24 = .ok (.astore 6, 2) := by decide +kernel
theorem dL_test_26 : decode cL_test 26 = .ok (.iconst 1, 1) := by decide +kernel
theorem dL_test_27 : decode cL_test 27 = .ok (.ireturn, 1) := by decide +kernel
theorem dL_test_28 : decode cL_test 28 = .ok (.astore 6, 2) := by decide +kernel
theorem dL_test_30 : decode cL_test 30 = .ok (.iconst 2, 1) := by decide +kernel
theorem dL_test_31 : decode cL_test 31 = .ok (.ireturn, 1) := by decide +kernel
theorem dL_test_32 : decode cL_test 32 = .ok (.iconst 0, 1) := by decide +kernel
theorem dL_test_33 : decode cL_test 33 = .ok (.ireturn, 1) := by decide +kernel
theorem dL_level_0 : decode cL_level 0 = .ok (.aload 4, 2) := by decide +kernel
theorem dL_level_2 : decode cL_level 2 = .ok (.iconst 0, 1) := by decide +kernel
theorem dL_level_3 : decode cL_level 3 = .ok (.aload_n 0, 1) := by decide +kernel
theorem dL_level_4 : decode cL_level 4 = .ok (.iload_n 1, 1) := by decide +kernel
theorem dL_level_5 : decode cL_level 5 = .ok (.iload_n 2, 1) := by decide +kernel
theorem dL_level_6 : decode cL_level 6 = .ok (.iload_n 3, 1) := by decide +kernel
theorem dL_level_7 : decode cL_level 7 = .ok (.invokevirtual 36, 3) := by decide +kernel
theorem dL_level_10 : decode cL_level 10 = .ok (.i2l, 1) := by decide +kernel
theorem dL_level_11 : decode cL_level 11 = .ok (.lastore, 1) := by decide +kernel
theorem dL_level_12 : decode cL_level 12 = .ok (.goto 7, 3) := by decide +kernel
theorem dL_level_15 : decode cL_level 15 = .ok (.astore 5, 2) := by decide +kernel
theorem dL_level_17 : decode cL_level 17 = .ok (.iconst 1, 1) := by decide +kernel
theorem dL_level_18 : decode cL_level 18 = .ok (.ireturn, 1) := by decide +kernel
theorem dL_level_19 : decode cL_level 19 = .ok (.iconst 0, 1) := by decide +kernel
theorem dL_level_20 : decode cL_level 20 = .ok (.ireturn, 1) := by decide +kernel
theorem dL_gift_0 : decode cL_gift 0 = .ok (.aload_n 3, 1) := by decide +kernel
theorem dL_gift_1 : decode cL_gift 1 = .ok (.iconst 0, 1) := by decide +kernel
theorem dL_gift_2 : decode cL_gift 2 = .ok (.aload_n 0, 1) := by decide +kernel
theorem dL_gift_3 : decode cL_gift 3 = .ok (.iload_n 1, 1) := by decide +kernel
theorem dL_gift_4 : decode cL_gift 4 = .ok (.iload_n 2, 1) := by decide +kernel
theorem dL_gift_5 : decode cL_gift 5 = .ok (.invokevirtual 39, 3) := by decide +kernel
theorem dL_gift_8 : decode cL_gift 8 = .ok (.i2l, 1) := by decide +kernel
theorem dL_gift_9 : decode cL_gift 9 = .ok (.lastore, 1) := by decide +kernel
theorem dL_gift_10 : decode cL_gift 10 = .ok (.goto 7, 3) := by decide +kernel
theorem dL_gift_13 : decode cL_gift 13 = .ok (.astore 4, 2) := by decide +kernel
theorem dL_gift_15 : decode cL_gift 15 = .ok (.iconst 1, 1) := by decide +kernel
theorem dL_gift_16 : decode cL_gift 16 = .ok (.ireturn, 1) := by decide +kernel
theorem dL_gift_17 : decode cL_gift 17 = .ok (.iconst 0, 1) := by decide +kernel
theorem dL_gift_18 : decode cL_gift 18 = .ok (.ireturn, 1) := by decide +kernel
theorem dL_meet_0 : decode cL_meet 0 = .ok (.aload_n 3, 1) := by decide +kernel
theorem dL_meet_1 : decode cL_meet 1 = .ok (.iconst 0, 1) := by decide +kernel
theorem dL_meet_2 : decode cL_meet 2 = .ok (.aload_n 0, 1) := by decide +kernel
theorem dL_meet_3 : decode cL_meet 3 = .ok (.iload_n 1, 1) := by decide +kernel
theorem dL_meet_4 : decode cL_meet 4 = .ok (.iload_n 2, 1) := by decide +kernel
theorem dL_meet_5 : decode cL_meet 5 = .ok (.invokevirtual 42, 3) := by decide +kernel
theorem dL_meet_8 : decode cL_meet 8 = .ok (.i2l, 1) := by decide +kernel
theorem dL_meet_9 : decode cL_meet 9 = .ok (.lastore, 1) := by decide +kernel
theorem dL_meet_10 : decode cL_meet 10 = .ok (.goto 7, 3) := by decide +kernel
theorem dL_meet_13 : decode cL_meet 13 = .ok (.astore 4, 2) := by decide +kernel
theorem dL_meet_15 : decode cL_meet 15 = .ok (.iconst 1, 1) := by decide +kernel
theorem dL_meet_16 : decode cL_meet 16 = .ok (.ireturn, 1) := by decide +kernel
theorem dL_meet_17 : decode cL_meet 17 = .ok (.iconst 0, 1) := by decide +kernel
theorem dL_meet_18 : decode cL_meet 18 = .ok (.ireturn, 1) := by decide +kernel
theorem dL_ring_0 : decode cL_ring 0 = .ok (.aload 5, 2) := by decide +kernel
theorem dL_ring_2 : decode cL_ring 2 = .ok (.iconst 0, 1) := by decide +kernel
theorem dL_ring_3 : decode cL_ring 3 = .ok (.aload_n 0, 1) := by decide +kernel
theorem dL_ring_4 : decode cL_ring 4 = .ok (.iload_n 1, 1) := by decide +kernel
theorem dL_ring_5 : decode cL_ring 5 = .ok (.iload_n 2, 1) := by decide +kernel
theorem dL_ring_6 : decode cL_ring 6 = .ok (.iload_n 3, 1) := by decide +kernel
theorem dL_ring_7 : decode cL_ring 7 = .ok (.iload 4, 2) := by decide +kernel
theorem dL_ring_9 : decode cL_ring 9 = .ok (.invokevirtual 45, 3) := by decide +kernel
theorem dL_ring_12 : decode cL_ring 12 = .ok (.i2l, 1) := by decide +kernel
theorem dL_ring_13 : decode cL_ring 13 = .ok (.lastore, 1) := by decide +kernel
theorem dL_ring_14 : decode cL_ring 14 = .ok (.goto 7, 3) := by decide +kernel
theorem dL_ring_17 : decode cL_ring 17 = .ok (.astore 6, 2) := by decide +kernel
theorem dL_ring_19 : decode cL_ring 19 = .ok (.iconst 1, 1) := by decide +kernel
theorem dL_ring_20 : decode cL_ring 20 = .ok (.ireturn, 1) := by decide +kernel
theorem dL_ring_21 : decode cL_ring 21 = .ok (.iconst 0, 1) := by decide +kernel
theorem dL_ring_22 : decode cL_ring 22 = .ok (.ireturn, 1) := by decide +kernel
theorem dL_ringOf_0 : decode cL_ringOf 0 = .ok (.aload_n 3, 1) := by decide +kernel
theorem dL_ringOf_1 : decode cL_ringOf 1 = .ok (.iconst 0, 1) := by decide +kernel
theorem dL_ringOf_2 : decode cL_ringOf 2 = .ok (.aload_n 0, 1) := by decide +kernel
theorem dL_ringOf_3 : decode cL_ringOf 3 = .ok (.iload_n 1, 1) := by decide +kernel
theorem dL_ringOf_4 : decode cL_ringOf 4 = .ok (.iload_n 2, 1) := by decide +kernel
theorem dL_ringOf_5 : decode cL_ringOf 5 = .ok (.invokevirtual 49, 3) := by decide +kernel
theorem dL_ringOf_8 : decode cL_ringOf 8 = .ok (.i2l, 1) := by decide +kernel
theorem dL_ringOf_9 : decode cL_ringOf 9 = .ok (.lastore, 1) := by decide +kernel
theorem dL_ringOf_10 : decode cL_ringOf 10 = .ok (.goto 7, 3) := by decide +kernel
theorem dL_ringOf_13 : decode cL_ringOf 13 = .ok (.astore 4, 2) := by decide +kernel
theorem dL_ringOf_15 : decode cL_ringOf 15 = .ok (.iconst 1, 1) := by decide +kernel
theorem dL_ringOf_16 : decode cL_ringOf 16 = .ok (.ireturn, 1) := by decide +kernel
theorem dL_ringOf_17 : decode cL_ringOf 17 = .ok (.iconst 0, 1) := by decide +kernel
theorem dL_ringOf_18 : decode cL_ringOf 18 = .ok (.ireturn, 1) := by decide +kernel
theorem dL_missed_0 : decode cL_missed 0 = .ok (.aload_n 2, 1) := by decide +kernel
theorem dL_missed_1 : decode cL_missed 1 = .ok (.iconst 0, 1) := by decide +kernel
theorem dL_missed_2 : decode cL_missed 2 = .ok (.aload_n 0, 1) := by decide +kernel
theorem dL_missed_3 : decode cL_missed 3 = .ok (.iload_n 1, 1) := by decide +kernel
theorem dL_missed_4 : decode cL_missed 4 = .ok (.invokevirtual 52, 3) := by decide +kernel
theorem dL_missed_7 : decode cL_missed 7 = .ok (.ifCond .eq 7, 3) := by decide +kernel
theorem dL_missed_10 : decode cL_missed 10 = .ok (.lconst 1, 1) := by decide +kernel
theorem dL_missed_11 : decode cL_missed 11 = .ok (.goto 4, 3) := by decide +kernel
theorem dL_missed_14 : decode cL_missed 14 = .ok (.lconst 0, 1) := by decide +kernel
theorem dL_missed_15 : decode cL_missed 15 = .ok (.lastore, 1) := by decide +kernel
theorem dL_missed_16 : decode cL_missed 16 = .ok (.goto 6, 3) := by decide +kernel
theorem dL_missed_19 : decode cL_missed 19 = .ok (.astore_n 3, 1) := by decide +kernel
theorem dL_missed_20 : decode cL_missed 20 = .ok (.iconst 1, 1) := by decide +kernel
theorem dL_missed_21 : decode cL_missed 21 = .ok (.ireturn, 1) := by decide +kernel
theorem dL_missed_22 : decode cL_missed 22 = .ok (.iconst 0, 1) := by decide +kernel
theorem dL_missed_23 : decode cL_missed 23 = .ok (.ireturn, 1) := by decide +kernel
theorem dL_waited_0 : decode cL_waited 0 = .ok (.aload_n 2, 1) := by decide +kernel
theorem dL_waited_1 : decode cL_waited 1 = .ok (.iconst 0, 1) := by decide +kernel
theorem dL_waited_2 : decode cL_waited 2 = .ok (.aload_n 0, 1) := by decide +kernel
theorem dL_waited_3 : decode cL_waited 3 = .ok (.iload_n 1, 1) := by decide +kernel
theorem dL_waited_4 : decode cL_waited 4 = .ok (.invokevirtual 56, 3) := by decide +kernel
theorem dL_waited_7 : decode cL_waited 7 = .ok (.i2l, 1) := by decide +kernel
theorem dL_waited_8 : decode cL_waited 8 = .ok (.lastore, 1) := by decide +kernel
theorem dL_waited_9 : decode cL_waited 9 = .ok (.goto 6, 3) := by decide +kernel
theorem dL_waited_12 : decode cL_waited 12 = .ok (.astore_n 3, 1) := by decide +kernel
theorem dL_waited_13 : decode cL_waited 13 = .ok (.iconst 1, 1) := by decide +kernel
theorem dL_waited_14 : decode cL_waited 14 = .ok (.ireturn, 1) := by decide +kernel
theorem dL_waited_15 : decode cL_waited 15 = .ok (.iconst 0, 1) := by decide +kernel
theorem dL_waited_16 : decode cL_waited 16 = .ok (.ireturn, 1) := by decide +kernel
theorem dL_days_0 : decode cL_days 0 = .ok (.aload_n 2, 1) := by decide +kernel
theorem dL_days_1 : decode cL_days 1 = .ok (.iconst 0, 1) := by decide +kernel
theorem dL_days_2 : decode cL_days 2 = .ok (.aload_n 0, 1) := by decide +kernel
theorem dL_days_3 : decode cL_days 3 = .ok (.iload_n 1, 1) := by decide +kernel
theorem dL_days_4 : decode cL_days 4 = .ok (.invokevirtual 59, 3) := by decide +kernel
theorem dL_days_7 : decode cL_days 7 = .ok (.i2l, 1) := by decide +kernel
theorem dL_days_8 : decode cL_days 8 = .ok (.lastore, 1) := by decide +kernel
theorem dL_days_9 : decode cL_days 9 = .ok (.goto 6, 3) := by decide +kernel
theorem dL_days_12 : decode cL_days 12 = .ok (.astore_n 3, 1) := by decide +kernel
theorem dL_days_13 : decode cL_days 13 = .ok (.iconst 1, 1) := by decide +kernel
theorem dL_days_14 : decode cL_days 14 = .ok (.ireturn, 1) := by decide +kernel
theorem dL_days_15 : decode cL_days 15 = .ok (.iconst 0, 1) := by decide +kernel
theorem dL_days_16 : decode cL_days 16 = .ok (.ireturn, 1) := by decide +kernel
theorem dL_word_0 : decode cL_word 0 = .ok (.aload_n 2, 1) := by decide +kernel
theorem dL_word_1 : decode cL_word 1 = .ok (.iconst 0, 1) := by decide +kernel
theorem dL_word_2 : decode cL_word 2 = .ok (.aload_n 0, 1) := by decide +kernel
theorem dL_word_3 : decode cL_word 3 = .ok (.iload_n 1, 1) := by decide +kernel
theorem dL_word_4 : decode cL_word 4 = .ok (.invokevirtual 62, 3) := by decide +kernel
theorem dL_word_7 : decode cL_word 7 = .ok (.i2l, 1) := by decide +kernel
theorem dL_word_8 : decode cL_word 8 = .ok (.lastore, 1) := by decide +kernel
theorem dL_word_9 : decode cL_word 9 = .ok (.goto 6, 3) := by decide +kernel
theorem dL_word_12 : decode cL_word 12 = .ok (.astore_n 3, 1) := by decide +kernel
theorem dL_word_13 : decode cL_word 13 = .ok (.iconst 1, 1) := by decide +kernel
theorem dL_word_14 : decode cL_word 14 = .ok (.ireturn, 1) := by decide +kernel
theorem dL_word_15 : decode cL_word 15 = .ok (.iconst 0, 1) := by decide +kernel
theorem dL_word_16 : decode cL_word 16 = .ok (.ireturn, 1) := by decide +kernel
theorem dL_asked_0 : decode cL_asked 0 = .ok (.aload 4, 2) := by decide +kernel
theorem dL_asked_2 : decode cL_asked 2 = .ok (.iconst 0, 1) := by decide +kernel
theorem dL_asked_3 : decode cL_asked 3 = .ok (.aload_n 0, 1) := by decide +kernel
theorem dL_asked_4 : decode cL_asked 4 = .ok (.iload_n 1, 1) := by decide +kernel
theorem dL_asked_5 : decode cL_asked 5 = .ok (.iload_n 2, 1) := by decide +kernel
theorem dL_asked_6 : decode cL_asked 6 = .ok (.iload_n 3, 1) := by decide +kernel
theorem dL_asked_7 : decode cL_asked 7 = .ok (.invokevirtual 65, 3) := by decide +kernel
theorem dL_asked_10 : decode cL_asked 10 = .ok (.ifCond .eq 7, 3) := by decide +kernel
theorem dL_asked_13 : decode cL_asked 13 = .ok (.lconst 1, 1) := by decide +kernel
theorem dL_asked_14 : decode cL_asked 14 = .ok (.goto 4, 3) := by decide +kernel
theorem dL_asked_17 : decode cL_asked 17 = .ok (.lconst 0, 1) := by decide +kernel
theorem dL_asked_18 : decode cL_asked 18 = .ok (.lastore, 1) := by decide +kernel
theorem dL_asked_19 : decode cL_asked 19 = .ok (.goto 7, 3) := by decide +kernel
theorem dL_asked_22 : decode cL_asked 22 = .ok (.astore 5, 2) := by decide +kernel
theorem dL_asked_24 : decode cL_asked 24 = .ok (.iconst 1, 1) := by decide +kernel
theorem dL_asked_25 : decode cL_asked 25 = .ok (.ireturn, 1) := by decide +kernel
theorem dL_asked_26 : decode cL_asked 26 = .ok (.iconst 0, 1) := by decide +kernel
theorem dL_asked_27 : decode cL_asked 27 = .ok (.ireturn, 1) := by decide +kernel
theorem dL_wordOf_0 : decode cL_wordOf 0 = .ok (.aload 4, 2) := by decide +kernel
theorem dL_wordOf_2 : decode cL_wordOf 2 = .ok (.iconst 0, 1) := by decide +kernel
theorem dL_wordOf_3 : decode cL_wordOf 3 = .ok (.aload_n 0, 1) := by decide +kernel
theorem dL_wordOf_4 : decode cL_wordOf 4 = .ok (.iload_n 1, 1) := by decide +kernel
theorem dL_wordOf_5 : decode cL_wordOf 5 = .ok (.iload_n 2, 1) := by decide +kernel
theorem dL_wordOf_6 : decode cL_wordOf 6 = .ok (.iload_n 3, 1) := by decide +kernel
theorem dL_wordOf_7 : decode cL_wordOf 7 = .ok (.invokevirtual 68, 3) := by decide +kernel
theorem dL_wordOf_10 : decode cL_wordOf 10 = .ok (.i2l, 1) := by decide +kernel
theorem dL_wordOf_11 : decode cL_wordOf 11 = .ok (.lastore, 1) := by decide +kernel
theorem dL_wordOf_12 : decode cL_wordOf 12 = .ok (.goto 7, 3) := by decide +kernel
theorem dL_wordOf_15 : decode cL_wordOf 15 = .ok (.astore 5, 2) := by decide +kernel
theorem dL_wordOf_17 : decode cL_wordOf 17 = .ok (.iconst 1, 1) := by decide +kernel
theorem dL_wordOf_18 : decode cL_wordOf 18 = .ok (.ireturn, 1) := by decide +kernel
theorem dL_wordOf_19 : decode cL_wordOf 19 = .ok (.iconst 0, 1) := by decide +kernel
theorem dL_wordOf_20 : decode cL_wordOf 20 = .ok (.ireturn, 1) := by decide +kernel
theorem dL_next_0 : decode cL_next 0 = .ok (.aload_n 2, 1) := by decide +kernel
theorem dL_next_1 : decode cL_next 1 = .ok (.iconst 0, 1) := by decide +kernel
theorem dL_next_2 : decode cL_next 2 = .ok (.aload_n 0, 1) := by decide +kernel
theorem dL_next_3 : decode cL_next 3 = .ok (.iload_n 1, 1) := by decide +kernel
theorem dL_next_4 : decode cL_next 4 = .ok (.invokevirtual 71, 3) := by decide +kernel
theorem dL_next_7 : decode cL_next 7 = .ok (.i2l, 1) := by decide +kernel
theorem dL_next_8 : decode cL_next 8 = .ok (.lastore, 1) := by decide +kernel
theorem dL_next_9 : decode cL_next 9 = .ok (.goto 6, 3) := by decide +kernel
theorem dL_next_12 : decode cL_next 12 = .ok (.astore_n 3, 1) := by decide +kernel
theorem dL_next_13 : decode cL_next 13 = .ok (.iconst 1, 1) := by decide +kernel
theorem dL_next_14 : decode cL_next 14 = .ok (.ireturn, 1) := by decide +kernel
theorem dL_next_15 : decode cL_next 15 = .ok (.iconst 0, 1) := by decide +kernel
theorem dL_next_16 : decode cL_next 16 = .ok (.ireturn, 1) := by decide +kernel
theorem dL_correct_0 : decode cL_correct 0 = .ok (.aload_n 3, 1) := by decide +kernel
theorem dL_correct_1 : decode cL_correct 1 = .ok (.iconst 0, 1) := by decide +kernel
theorem dL_correct_2 : decode cL_correct 2 = .ok (.aload_n 0, 1) := by decide +kernel
theorem dL_correct_3 : decode cL_correct 3 = .ok (.iload_n 1, 1) := by decide +kernel
theorem dL_correct_4 : decode cL_correct 4 = .ok (.iload_n 2, 1) := by decide +kernel
theorem dL_correct_5 : decode cL_correct 5 = .ok (.invokevirtual 74, 3) := by decide +kernel
theorem dL_correct_8 : decode cL_correct 8 = .ok (.i2l, 1) := by decide +kernel
theorem dL_correct_9 : decode cL_correct 9 = .ok (.lastore, 1) := by decide +kernel
theorem dL_correct_10 : decode cL_correct 10 = .ok (.goto 7, 3) := by decide +kernel
theorem dL_correct_13 : decode cL_correct 13 = .ok (.astore 4, 2) := by decide +kernel
theorem dL_correct_15 : decode cL_correct 15 = .ok (.iconst 1, 1) := by decide +kernel
theorem dL_correct_16 : decode cL_correct 16 = .ok (.ireturn, 1) := by decide +kernel
theorem dL_correct_17 : decode cL_correct 17 = .ok (.iconst 0, 1) := by decide +kernel
theorem dL_correct_18 : decode cL_correct 18 = .ok (.ireturn, 1) := by decide +kernel
theorem dL_mark_0 : decode cL_mark 0 = .ok (.aload_n 2, 1) := by decide +kernel
theorem dL_mark_1 : decode cL_mark 1 = .ok (.iconst 0, 1) := by decide +kernel
theorem dL_mark_2 : decode cL_mark 2 = .ok (.aload_n 0, 1) := by decide +kernel
theorem dL_mark_3 : decode cL_mark 3 = .ok (.iload_n 1, 1) := by decide +kernel
theorem dL_mark_4 : decode cL_mark 4 = .ok (.invokevirtual 77, 3) := by decide +kernel
theorem dL_mark_7 : decode cL_mark 7 = .ok (.i2l, 1) := by decide +kernel
theorem dL_mark_8 : decode cL_mark 8 = .ok (.lastore, 1) := by decide +kernel
theorem dL_mark_9 : decode cL_mark 9 = .ok (.goto 6, 3) := by decide +kernel
theorem dL_mark_12 : decode cL_mark 12 = .ok (.astore_n 3, 1) := by decide +kernel
theorem dL_mark_13 : decode cL_mark 13 = .ok (.iconst 1, 1) := by decide +kernel
theorem dL_mark_14 : decode cL_mark 14 = .ok (.ireturn, 1) := by decide +kernel
theorem dL_mark_15 : decode cL_mark 15 = .ok (.iconst 0, 1) := by decide +kernel
theorem dL_mark_16 : decode cL_mark 16 = .ok (.ireturn, 1) := by decide +kernel
theorem dL_marks_0 : decode cL_marks 0 = .ok (.aload_n 2, 1) := by decide +kernel
theorem dL_marks_1 : decode cL_marks 1 = .ok (.iconst 0, 1) := by decide +kernel
theorem dL_marks_2 : decode cL_marks 2 = .ok (.aload_n 0, 1) := by decide +kernel
theorem dL_marks_3 : decode cL_marks 3 = .ok (.iload_n 1, 1) := by decide +kernel
theorem dL_marks_4 : decode cL_marks 4 = .ok (.invokevirtual 80, 3) := by decide +kernel
theorem dL_marks_7 : decode cL_marks 7 = .ok (.i2l, 1) := by decide +kernel
theorem dL_marks_8 : decode cL_marks 8 = .ok (.lastore, 1) := by decide +kernel
theorem dL_marks_9 : decode cL_marks 9 = .ok (.goto 6, 3) := by decide +kernel
theorem dL_marks_12 : decode cL_marks 12 = .ok (.astore_n 3, 1) := by decide +kernel
theorem dL_marks_13 : decode cL_marks 13 = .ok (.iconst 1, 1) := by decide +kernel
theorem dL_marks_14 : decode cL_marks 14 = .ok (.ireturn, 1) := by decide +kernel
theorem dL_marks_15 : decode cL_marks 15 = .ok (.iconst 0, 1) := by decide +kernel
theorem dL_marks_16 : decode cL_marks 16 = .ok (.ireturn, 1) := by decide +kernel
theorem dL_count_0 : decode cL_count 0 = .ok (.aload_n 2, 1) := by decide +kernel
theorem dL_count_1 : decode cL_count 1 = .ok (.iconst 0, 1) := by decide +kernel
