theorem dX2_firstKind_13 : decode cX2_firstKind 13 = .ok (.istore 4, 2) := by decide +kernel
theorem dX2_firstKind_15 : decode cX2_firstKind 15 = .ok (.iload 4, 2) := by decide +kernel
theorem dX2_firstKind_17 : decode cX2_firstKind 17 = .ok (.iconst 4, 1) := by decide +kernel
theorem dX2_firstKind_18 : decode cX2_firstKind 18 = .ok (.if_icmp .ge 21, 3) := by decide +kernel
theorem dX2_firstKind_21 : decode cX2_firstKind 21 = .ok (.aload_n 0, 1) := by decide +kernel
theorem dX2_firstKind_22 : decode cX2_firstKind 22 = .ok (.iload 4, 2) := by decide +kernel
theorem dX2_firstKind_24 : decode cX2_firstKind 24 = .ok (.iload_n 1, 1) := by decide +kernel
theorem dX2_firstKind_25 : decode cX2_firstKind 25 = .ok (.iload_n 2, 1) := by decide +kernel
theorem dX2_firstKind_26 : decode cX2_firstKind 26 = .ok (.invokevirtual 43, 3) := by decide +kernel
theorem dX2_firstKind_29 : decode cX2_firstKind 29 = .ok (.iload_n 3, 1) := by decide +kernel
theorem dX2_firstKind_30 : decode cX2_firstKind 30 = .ok (.if_icmp .eq 9, 3) := by decide +kernel
theorem dX2_firstKind_33 : decode cX2_firstKind 33 = .ok (.iinc 4 1, 3) := by decide +kernel
theorem dX2_firstKind_36 : decode cX2_firstKind 36 = .ok (.goto (-21), 3) := by decide +kernel
theorem dX2_firstKind_39 : decode cX2_firstKind 39 = .ok (.iload 4, 2) := by decide +kernel
theorem dX2_firstKind_41 : decode cX2_firstKind 41 = .ok (.ireturn, 1) := by decide +kernel
set_option maxRecDepth 20000 in
theorem ggX2_costBy_X2_fits : GoodIn wsX2_costBy wsX2_fits := goodIn_r _ [12, 13, 14, 15, 16, 17, 18, 19, 20, 21] (by decide +kernel) (by decide +kernel)
set_option maxRecDepth 20000 in
theorem gX2_costBy_X2_fits : GoodIn wsX2_costBy (wsV RX2 64 RX2 yX2_fits wsX2_fits) := goodIn_app (goodIn_of _ (by decide +kernel)) ggX2_costBy_X2_fits
theorem dX2_costBy_0 : decode cX2_costBy 0 = .ok (.iload_n 2, 1) := by decide +kernel
theorem dX2_costBy_1 : decode cX2_costBy 1 = .ok (.getstatic 58, 3) := by decide +kernel
theorem dX2_costBy_4 : decode cX2_costBy 4 = .ok (.iload_n 1, 1) := by decide +kernel
theorem dX2_costBy_5 : decode cX2_costBy 5 = .ok (.iaload, 1) := by decide +kernel
theorem dX2_costBy_6 : decode cX2_costBy 6 = .ok (.iadd, 1) := by decide +kernel
theorem dX2_costBy_7 : decode cX2_costBy 7 = .ok (.istore 4, 2) := by decide +kernel
theorem dX2_costBy_9 : decode cX2_costBy 9 = .ok (.iload_n 3, 1) := by decide +kernel
theorem dX2_costBy_10 : decode cX2_costBy 10 = .ok (.getstatic 61, 3) := by decide +kernel
theorem dX2_costBy_13 : decode cX2_costBy 13 = .ok (.iload_n 1, 1) := by decide +kernel
theorem dX2_costBy_14 : decode cX2_costBy 14 = .ok (.iaload, 1) := by decide +kernel
theorem dX2_costBy_15 : decode cX2_costBy 15 = .ok (.iadd, 1) := by decide +kernel
theorem dX2_costBy_16 : decode cX2_costBy 16 = .ok (.istore 5, 2) := by decide +kernel
theorem dX2_costBy_18 : decode cX2_costBy 18 = .ok (.iload 4, 2) := by decide +kernel
theorem dX2_costBy_20 : decode cX2_costBy 20 = .ok (.aload_n 0, 1) := by decide +kernel
theorem dX2_costBy_21 : decode cX2_costBy 21 = .ok (.getfield 26, 3) := by decide +kernel
theorem dX2_costBy_24 : decode cX2_costBy 24 = .ok (.if_icmp .gt 27, 3) := by decide +kernel
theorem dX2_costBy_27 : decode cX2_costBy 27 = .ok (.iload 5, 2) := by decide +kernel
theorem dX2_costBy_29 : decode cX2_costBy 29 = .ok (.aload_n 0, 1) := by decide +kernel
theorem dX2_costBy_30 : decode cX2_costBy 30 = .ok (.getfield 29, 3) := by decide +kernel
theorem dX2_costBy_33 : decode cX2_costBy 33 = .ok (.if_icmp .gt 18, 3) := by decide +kernel
theorem dX2_costBy_36 : decode cX2_costBy 36 = .ok (.aload_n 0, 1) := by decide +kernel
theorem dX2_costBy_37 : decode cX2_costBy 37 = .ok (.iload_n 1, 1) := by decide +kernel
theorem dX2_costBy_38 : decode cX2_costBy 38 = .ok (.iload_n 2, 1) := by decide +kernel
theorem dX2_costBy_39 : decode cX2_costBy 39 = .ok (.aload_n 0, 1) := by decide +kernel
theorem dX2_costBy_40 : decode cX2_costBy 40 = .ok (.getfield 26, 3) := by decide +kernel
theorem dX2_costBy_43 : decode cX2_costBy 43 = .ok (.iload_n 3, 1) := by decide +kernel
theorem dX2_costBy_44 : decode cX2_costBy 44 = .ok (.iadd, 1) := by decide +kernel
theorem dX2_costBy_45 : decode cX2_costBy 45 = .ok (.invokevirtual 64, 3) := by decide +kernel
theorem dX2_costBy_48 : decode cX2_costBy 48 = .ok (.ifCond .ne 6, 3) := by decide +kernel
theorem dX2_costBy_51 : decode cX2_costBy 51 = .ok (.ldc 42, 2) := by decide +kernel
theorem dX2_costBy_53 : decode cX2_costBy 53 = .ok (.ireturn, 1) := by decide +kernel
theorem dX2_costBy_54 : decode cX2_costBy 54 = .ok (.getstatic 68, 3) := by decide +kernel
theorem dX2_costBy_57 : decode cX2_costBy 57 = .ok (.iload_n 1, 1) := by decide +kernel
theorem dX2_costBy_58 : decode cX2_costBy 58 = .ok (.iaload, 1) := by decide +kernel
theorem dX2_costBy_59 : decode cX2_costBy 59 = .ok (.aload_n 0, 1) := by decide +kernel
theorem dX2_costBy_60 : decode cX2_costBy 60 = .ok (.getfield 13, 3) := by decide +kernel
theorem dX2_costBy_63 : decode cX2_costBy 63 = .ok (.iload 4, 2) := by decide +kernel
theorem dX2_costBy_65 : decode cX2_costBy 65 = .ok (.bipush 41, 2) := by decide +kernel
theorem dX2_costBy_67 : decode cX2_costBy 67 = .ok (.imul, 1) := by decide +kernel
theorem dX2_costBy_68 : decode cX2_costBy 68 = .ok (.iload 5, 2) := by decide +kernel
theorem dX2_costBy_70 : decode cX2_costBy 70 = .ok (.iadd, 1) := by decide +kernel
theorem dX2_costBy_71 : decode cX2_costBy 71 = .ok (.iaload, 1) := by decide +kernel
theorem dX2_costBy_72 : decode cX2_costBy 72 = .ok (.iadd, 1) := by decide +kernel
theorem dX2_costBy_73 : decode cX2_costBy 73 = .ok (.ireturn, 1) := by decide +kernel
theorem dX2_fits_0 : decode cX2_fits 0 = .ok (.iload_n 1, 1) := by decide +kernel
theorem dX2_fits_1 : decode cX2_fits 1 = .ok (.tableswitch 134 0 4 #[35, 56, 134, 134, 77], 35) := by decide +kernel
theorem dX2_fits_36 : decode cX2_fits 36 = .ok (.aload_n 0, 1) := by decide +kernel
theorem dX2_fits_37 : decode cX2_fits 37 = .ok (.getfield 9, 3) := by decide +kernel
theorem dX2_fits_40 : decode cX2_fits 40 = .ok (.iload_n 2, 1) := by decide +kernel
theorem dX2_fits_41 : decode cX2_fits 41 = .ok (.iaload, 1) := by decide +kernel
theorem dX2_fits_42 : decode cX2_fits 42 = .ok (.aload_n 0, 1) := by decide +kernel
theorem dX2_fits_43 : decode cX2_fits 43 = .ok (.getfield 9, 3) := by decide +kernel
theorem dX2_fits_46 : decode cX2_fits 46 = .ok (.iload_n 3, 1) := by decide +kernel
theorem dX2_fits_47 : decode cX2_fits 47 = .ok (.iaload, 1) := by decide +kernel
theorem dX2_fits_48 : decode cX2_fits 48 = .ok (.if_icmp .ne 7, 3) := by decide +kernel
theorem dX2_fits_51 : decode cX2_fits 51 = .ok (.iconst 1, 1) := by decide +kernel
theorem dX2_fits_52 : decode cX2_fits 52 = .ok (.goto 4, 3) := by decide +kernel
theorem dX2_fits_55 : decode cX2_fits 55 = .ok (.iconst 0, 1) := by decide +kernel
theorem dX2_fits_56 : decode cX2_fits 56 = .ok (.ireturn, 1) := by decide +kernel
theorem dX2_fits_57 : decode cX2_fits 57 = .ok (.aload_n 0, 1) := by decide +kernel
theorem dX2_fits_58 : decode cX2_fits 58 = .ok (.getfield 9, 3) := by decide +kernel
theorem dX2_fits_61 : decode cX2_fits 61 = .ok (.iload_n 2, 1) := by decide +kernel
theorem dX2_fits_62 : decode cX2_fits 62 = .ok (.iaload, 1) := by decide +kernel
theorem dX2_fits_63 : decode cX2_fits 63 = .ok (.aload_n 0, 1) := by decide +kernel
theorem dX2_fits_64 : decode cX2_fits 64 = .ok (.getfield 9, 3) := by decide +kernel
theorem dX2_fits_67 : decode cX2_fits 67 = .ok (.iload_n 3, 1) := by decide +kernel
theorem dX2_fits_68 : decode cX2_fits 68 = .ok (.iaload, 1) := by decide +kernel
theorem dX2_fits_69 : decode cX2_fits 69 = .ok (.if_icmp .eq 7, 3) := by decide +kernel
theorem dX2_fits_72 : decode cX2_fits 72 = .ok (.iconst 1, 1) := by decide +kernel
theorem dX2_fits_73 : decode cX2_fits 73 = .ok (.goto 4, 3) := by decide +kernel
theorem dX2_fits_76 : decode cX2_fits 76 = .ok (.iconst 0, 1) := by decide +kernel
theorem dX2_fits_77 : decode cX2_fits 77 = .ok (.ireturn, 1) := by decide +kernel
theorem dX2_fits_78 : decode cX2_fits 78 = .ok (.aload_n 0, 1) := by decide +kernel
theorem dX2_fits_79 : decode cX2_fits 79 = .ok (.getfield 9, 3) := by decide +kernel
theorem dX2_fits_82 : decode cX2_fits 82 = .ok (.iload_n 2, 1) := by decide +kernel
theorem dX2_fits_83 : decode cX2_fits 83 = .ok (.iaload, 1) := by decide +kernel
theorem dX2_fits_84 : decode cX2_fits 84 = .ok (.aload_n 0, 1) := by decide +kernel
theorem dX2_fits_85 : decode cX2_fits 85 = .ok (.getfield 9, 3) := by decide +kernel
theorem dX2_fits_88 : decode cX2_fits 88 = .ok (.iload_n 3, 1) := by decide +kernel
theorem dX2_fits_89 : decode cX2_fits 89 = .ok (.iconst 1, 1) := by decide +kernel
theorem dX2_fits_90 : decode cX2_fits 90 = .ok (.iadd, 1) := by decide +kernel
theorem dX2_fits_91 : decode cX2_fits 91 = .ok (.iaload, 1) := by decide +kernel
theorem dX2_fits_92 : decode cX2_fits 92 = .ok (.if_icmp .ne 41, 3) := by decide +kernel
theorem dX2_fits_95 : decode cX2_fits 95 = .ok (.aload_n 0, 1) := by decide +kernel
theorem dX2_fits_96 : decode cX2_fits 96 = .ok (.getfield 9, 3) := by decide +kernel
theorem dX2_fits_99 : decode cX2_fits 99 = .ok (.iload_n 2, 1) := by decide +kernel
theorem dX2_fits_100 : decode cX2_fits 100 = .ok (.iconst 1, 1) := by decide +kernel
theorem dX2_fits_101 : decode cX2_fits 101 = .ok (.iadd, 1) := by decide +kernel
theorem dX2_fits_102 : decode cX2_fits 102 = .ok (.iaload, 1) := by decide +kernel
theorem dX2_fits_103 : decode cX2_fits 103 = .ok (.aload_n 0, 1) := by decide +kernel
theorem dX2_fits_104 : decode cX2_fits 104 = .ok (.getfield 9, 3) := by decide +kernel
theorem dX2_fits_107 : decode cX2_fits 107 = .ok (.iload_n 3, 1) := by decide +kernel
theorem dX2_fits_108 : decode cX2_fits 108 = .ok (.iaload, 1) := by decide +kernel
theorem dX2_fits_109 : decode cX2_fits 109 = .ok (.if_icmp .ne 24, 3) := by decide +kernel
theorem dX2_fits_112 : decode cX2_fits 112 = .ok (.aload_n 0, 1) := by decide +kernel
theorem dX2_fits_113 : decode cX2_fits 113 = .ok (.getfield 9, 3) := by decide +kernel
theorem dX2_fits_116 : decode cX2_fits 116 = .ok (.iload_n 2, 1) := by decide +kernel
theorem dX2_fits_117 : decode cX2_fits 117 = .ok (.iaload, 1) := by decide +kernel
theorem dX2_fits_118 : decode cX2_fits 118 = .ok (.aload_n 0, 1) := by decide +kernel
theorem dX2_fits_119 : decode cX2_fits 119 = .ok (.getfield 9, 3) := by decide +kernel
theorem dX2_fits_122 : decode cX2_fits 122 = .ok (.iload_n 2, 1) := by decide +kernel
theorem dX2_fits_123 : decode cX2_fits 123 = .ok (.iconst 1, 1) := by decide +kernel
theorem dX2_fits_124 : decode cX2_fits 124 = .ok (.iadd, 1) := by decide +kernel
theorem dX2_fits_125 : decode cX2_fits 125 = .ok (.iaload, 1) := by decide +kernel
theorem dX2_fits_126 : decode cX2_fits 126 = .ok (.if_icmp .eq 7, 3) := by decide +kernel
theorem dX2_fits_129 : decode cX2_fits 129 = .ok (.iconst 1, 1) := by decide +kernel
theorem dX2_fits_130 : decode cX2_fits 130 = .ok (.goto 4, 3) := by decide +kernel
theorem dX2_fits_133 : decode cX2_fits 133 = .ok (.iconst 0, 1) := by decide +kernel
theorem dX2_fits_134 : decode cX2_fits 134 = .ok (.ireturn, 1) := by decide +kernel
theorem dX2_fits_135 : decode cX2_fits 135 = .ok (.iconst 1, 1) := by decide +kernel
theorem dX2_fits_136 : decode cX2_fits 136 = .ok (.ireturn, 1) := by decide +kernel
theorem dX3_init_0 : decode cX3_init 0 = .ok (.aload_n 0, 1) := by decide +kernel
theorem dX3_init_1 : decode cX3_init 1 = .ok (.invokespecial 3, 3) := by decide +kernel
theorem dX3_init_4 : decode cX3_init 4 = .ok (.aload_n 0, 1) := by decide +kernel
theorem dX3_init_5 : decode cX3_init 5 = .ok (.bipush 14, 2) := by decide +kernel
theorem dX3_init_7 : decode cX3_init 7 = .ok (.newarray .int, 2) := by decide +kernel
theorem dX3_init_9 : decode cX3_init 9 = .ok (.putfield 9, 3) := by decide +kernel
theorem dX3_init_12 : decode cX3_init 12 = .ok (.aload_n 0, 1) := by decide +kernel
theorem dX3_init_13 : decode cX3_init 13 = .ok (.sipush 196, 3) := by decide +kernel
theorem dX3_init_16 : decode cX3_init 16 = .ok (.newarray .int, 2) := by decide +kernel
theorem dX3_init_18 : decode cX3_init 18 = .ok (.putfield 15, 3) := by decide +kernel
theorem dX3_init_21 : decode cX3_init 21 = .ok (.return_, 1) := by decide +kernel
theorem dX3_setTie_0 : decode cX3_setTie 0 = .ok (.aload_n 0, 1) := by decide +kernel
theorem dX3_setTie_1 : decode cX3_setTie 1 = .ok (.getfield 9, 3) := by decide +kernel
theorem dX3_setTie_4 : decode cX3_setTie 4 = .ok (.iload_n 1, 1) := by decide +kernel
theorem dX3_setTie_5 : decode cX3_setTie 5 = .ok (.iload_n 3, 1) := by decide +kernel
theorem dX3_setTie_6 : decode cX3_setTie 6 = .ok (.ifCond .eq 16, 3) := by decide +kernel
theorem dX3_setTie_9 : decode cX3_setTie 9 = .ok (.aload_n 0, 1) := by decide +kernel
theorem dX3_setTie_10 : decode cX3_setTie 10 = .ok (.getfield 9, 3) := by decide +kernel
theorem dX3_setTie_13 : decode cX3_setTie 13 = .ok (.iload_n 1, 1) := by decide +kernel
theorem dX3_setTie_14 : decode cX3_setTie 14 = .ok (.iaload, 1) := by decide +kernel
theorem dX3_setTie_15 : decode cX3_setTie 15 = .ok (.iconst 1, 1) := by decide +kernel
theorem dX3_setTie_16 : decode cX3_setTie 16 = .ok (.iload_n 2, 1) := by decide +kernel
theorem dX3_setTie_17 : decode cX3_setTie 17 = .ok (.ishl, 1) := by decide +kernel
theorem dX3_setTie_18 : decode cX3_setTie 18 = .ok (.ior, 1) := by decide +kernel
theorem dX3_setTie_19 : decode cX3_setTie 19 = .ok (.goto 15, 3) := by decide +kernel
theorem dX3_setTie_22 : decode cX3_setTie 22 = .ok (.aload_n 0, 1) := by decide +kernel
theorem dX3_setTie_23 : decode cX3_setTie 23 = .ok (.getfield 9, 3) := by decide +kernel
theorem dX3_setTie_26 : decode cX3_setTie 26 = .ok (.iload_n 1, 1) := by decide +kernel
theorem dX3_setTie_27 : decode cX3_setTie 27 = .ok (.iaload, 1) := by decide +kernel
theorem dX3_setTie_28 : decode cX3_setTie 28 = .ok (.iconst 1, 1) := by decide +kernel
theorem dX3_setTie_29 : decode cX3_setTie 29 = .ok (.iload_n 2, 1) := by decide +kernel
theorem dX3_setTie_30 : decode cX3_setTie 30 = .ok (.ishl, 1) := by decide +kernel
theorem dX3_setTie_31 : decode cX3_setTie 31 = .ok (.iconst (-1), 1) := by decide +kernel
theorem dX3_setTie_32 : decode cX3_setTie 32 = .ok (.ixor, 1) := by decide +kernel
theorem dX3_setTie_33 : decode cX3_setTie 33 = .ok (.iand, 1) := by decide +kernel
theorem dX3_setTie_34 : decode cX3_setTie 34 = .ok (.iastore, 1) := by decide +kernel
theorem dX3_setTie_35 : decode cX3_setTie 35 = .ok (.aload_n 0, 1) := by decide +kernel
theorem dX3_setTie_36 : decode cX3_setTie 36 = .ok (.getfield 15, 3) := by decide +kernel
theorem dX3_setTie_39 : decode cX3_setTie 39 = .ok (.iload_n 1, 1) := by decide +kernel
theorem dX3_setTie_40 : decode cX3_setTie 40 = .ok (.bipush 14, 2) := by decide +kernel
theorem dX3_setTie_42 : decode cX3_setTie 42 = .ok (.imul, 1) := by decide +kernel
theorem dX3_setTie_43 : decode cX3_setTie 43 = .ok (.iload_n 2, 1) := by decide +kernel
theorem dX3_setTie_44 : decode cX3_setTie 44 = .ok (.iadd, 1) := by decide +kernel
theorem dX3_setTie_45 : decode cX3_setTie 45 = .ok (.iload 4, 2) := by decide +kernel
theorem dX3_setTie_47 : decode cX3_setTie 47 = .ok (.iastore, 1) := by decide +kernel
theorem dX3_setTie_48 : decode cX3_setTie 48 = .ok (.return_, 1) := by decide +kernel
theorem dX3_gives_0 : decode cX3_gives 0 = .ok (.aload_n 0, 1) := by decide +kernel
theorem dX3_gives_1 : decode cX3_gives 1 = .ok (.getfield 9, 3) := by decide +kernel
theorem dX3_gives_4 : decode cX3_gives 4 = .ok (.iload_n 1, 1) := by decide +kernel
theorem dX3_gives_5 : decode cX3_gives 5 = .ok (.iaload, 1) := by decide +kernel
theorem dX3_gives_6 : decode cX3_gives 6 = .ok (.iload_n 2, 1) := by decide +kernel
theorem dX3_gives_7 : decode cX3_gives 7 = .ok (.ishr, 1) := by decide +kernel
theorem dX3_gives_8 : decode cX3_gives 8 = .ok (.iconst 1, 1) := by decide +kernel
theorem dX3_gives_9 : decode cX3_gives 9 = .ok (.iand, 1) := by decide +kernel
theorem dX3_gives_10 : decode cX3_gives 10 = .ok (.ifCond .eq 7, 3) := by decide +kernel
theorem dX3_gives_13 : decode cX3_gives 13 = .ok (.iconst 1, 1) := by decide +kernel
theorem dX3_gives_14 : decode cX3_gives 14 = .ok (.goto 4, 3) := by decide +kernel
theorem dX3_gives_17 : decode cX3_gives 17 = .ok (.iconst 0, 1) := by decide +kernel
theorem dX3_gives_18 : decode cX3_gives 18 = .ok (.ireturn, 1) := by decide +kernel
set_option maxRecDepth 20000 in
theorem ggX3_ringHours_X3_pairHours : GoodIn wsX3_ringHours wsX3_pairHours := goodIn_r _ [5, 6, 7, 8, 4, 9, 10, 11, 12, 13, 14, 15, 16, 17, 18, 19, 20, 21, 22, 23, 31, 32] (by decide +kernel) (by decide +kernel)
set_option maxRecDepth 20000 in
theorem gX3_ringHours_X3_pairHours : GoodIn wsX3_ringHours (wsV RX3 18 RX3 yX3_pairHours wsX3_pairHours) := goodIn_app (goodIn_of _ (by decide +kernel)) ggX3_ringHours_X3_pairHours
set_option maxRecDepth 20000 in
theorem ggX3_ringHours_X3_tripleHours : GoodIn wsX3_ringHours wsX3_tripleHours := goodIn_r _ [27, 6, 7, 8, 4, 9, 10, 11, 12, 13, 14, 15, 28, 29, 30, 16, 17, 18, 19, 20, 21, 22, 23, 31, 32] (by decide +kernel) (by decide +kernel)
set_option maxRecDepth 20000 in
theorem gX3_ringHours_X3_tripleHours : GoodIn wsX3_ringHours (wsV RX3 22 RX3 yX3_tripleHours wsX3_tripleHours) := goodIn_app (goodIn_of _ (by decide +kernel)) ggX3_ringHours_X3_tripleHours
theorem dX3_ringHours_0 : decode cX3_ringHours 0 = .ok (.iload_n 3, 1) := by decide +kernel
theorem dX3_ringHours_1 : decode cX3_ringHours 1 = .ok (.iconst (-1), 1) := by decide +kernel
theorem dX3_ringHours_2 : decode cX3_ringHours 2 = .ok (.if_icmp .ne 12, 3) := by decide +kernel
theorem dX3_ringHours_5 : decode cX3_ringHours 5 = .ok (.aload_n 0, 1) := by decide +kernel
theorem dX3_ringHours_6 : decode cX3_ringHours 6 = .ok (.iload_n 1, 1) := by decide +kernel
theorem dX3_ringHours_7 : decode cX3_ringHours 7 = .ok (.iload_n 2, 1) := by decide +kernel
theorem dX3_ringHours_8 : decode cX3_ringHours 8 = .ok (.invokevirtual 18, 3) := by decide +kernel
theorem dX3_ringHours_11 : decode cX3_ringHours 11 = .ok (.goto 10, 3) := by decide +kernel
theorem dX3_ringHours_14 : decode cX3_ringHours 14 = .ok (.aload_n 0, 1) := by decide +kernel
theorem dX3_ringHours_15 : decode cX3_ringHours 15 = .ok (.iload_n 1, 1) := by decide +kernel
theorem dX3_ringHours_16 : decode cX3_ringHours 16 = .ok (.iload_n 2, 1) := by decide +kernel
theorem dX3_ringHours_17 : decode cX3_ringHours 17 = .ok (.iload_n 3, 1) := by decide +kernel
theorem dX3_ringHours_18 : decode cX3_ringHours 18 = .ok (.invokevirtual 22, 3) := by decide +kernel
theorem dX3_ringHours_21 : decode cX3_ringHours 21 = .ok (.ireturn, 1) := by decide +kernel
set_option maxRecDepth 20000 in
theorem ggX3_pairHours_X3_gives : GoodIn wsX3_pairHours wsX3_gives := goodIn_r _ [5, 6, 20, 21] (by decide +kernel) (by decide +kernel)
set_option maxRecDepth 20000 in
theorem gX3_pairHours_X3_gives : GoodIn wsX3_pairHours (wsV RX3 26 RX3 yX3_gives wsX3_gives) := goodIn_app (goodIn_of _ (by decide +kernel)) ggX3_pairHours_X3_gives
set_option maxRecDepth 20000 in
theorem ggX3_pairHours_X3_shared : GoodIn wsX3_pairHours wsX3_shared := goodIn_r _ [10, 11, 20, 21] (by decide +kernel) (by decide +kernel)
set_option maxRecDepth 20000 in
theorem gX3_pairHours_X3_shared : GoodIn wsX3_pairHours (wsV RX3 30 RX3 yX3_shared wsX3_shared) := goodIn_app (goodIn_of _ (by decide +kernel)) ggX3_pairHours_X3_shared
set_option maxRecDepth 20000 in
theorem ggX3_pairHours_X4_lowestBit : GoodIn wsX3_pairHours wsX4_lowestBit := goodIn_r _ [14, 15, 16, 17, 18, 19] (by decide +kernel) (by decide +kernel)
set_option maxRecDepth 20000 in
theorem gX3_pairHours_X4_lowestBit_n33 : GoodIn wsX3_pairHours (wsX4_lowestBit) := ggX3_pairHours_X4_lowestBit
theorem dX3_pairHours_0 : decode cX3_pairHours 0 = .ok (.iload_n 2, 1) := by decide +kernel
theorem dX3_pairHours_1 : decode cX3_pairHours 1 = .ok (.iload_n 1, 1) := by decide +kernel
theorem dX3_pairHours_2 : decode cX3_pairHours 2 = .ok (.if_icmp .le 21, 3) := by decide +kernel
theorem dX3_pairHours_5 : decode cX3_pairHours 5 = .ok (.aload_n 0, 1) := by decide +kernel
theorem dX3_pairHours_6 : decode cX3_pairHours 6 = .ok (.iload_n 1, 1) := by decide +kernel
theorem dX3_pairHours_7 : decode cX3_pairHours 7 = .ok (.iload_n 2, 1) := by decide +kernel
theorem dX3_pairHours_8 : decode cX3_pairHours 8 = .ok (.invokevirtual 26, 3) := by decide +kernel
theorem dX3_pairHours_11 : decode cX3_pairHours 11 = .ok (.ifCond .eq 12, 3) := by decide +kernel
theorem dX3_pairHours_14 : decode cX3_pairHours 14 = .ok (.aload_n 0, 1) := by decide +kernel
theorem dX3_pairHours_15 : decode cX3_pairHours 15 = .ok (.iload_n 2, 1) := by decide +kernel
theorem dX3_pairHours_16 : decode cX3_pairHours 16 = .ok (.iload_n 1, 1) := by decide +kernel
theorem dX3_pairHours_17 : decode cX3_pairHours 17 = .ok (.invokevirtual 26, 3) := by decide +kernel
theorem dX3_pairHours_20 : decode cX3_pairHours 20 = .ok (.ifCond .ne 5, 3) := by decide +kernel
theorem dX3_pairHours_23 : decode cX3_pairHours 23 = .ok (.iconst (-1), 1) := by decide +kernel
theorem dX3_pairHours_24 : decode cX3_pairHours 24 = .ok (.ireturn, 1) := by decide +kernel
theorem dX3_pairHours_25 : decode cX3_pairHours 25 = .ok (.aload_n 0, 1) := by decide +kernel
theorem dX3_pairHours_26 : decode cX3_pairHours 26 = .ok (.iload_n 1, 1) := by decide +kernel
theorem dX3_pairHours_27 : decode cX3_pairHours 27 = .ok (.iload_n 2, 1) := by decide +kernel
theorem dX3_pairHours_28 : decode cX3_pairHours 28 = .ok (.invokevirtual 30, 3) := by decide +kernel
theorem dX3_pairHours_31 : decode cX3_pairHours 31 = .ok (.invokestatic 33, 3) := by decide +kernel
theorem dX3_pairHours_34 : decode cX3_pairHours 34 = .ok (.ireturn, 1) := by decide +kernel
set_option maxRecDepth 20000 in
theorem ggX3_tripleHours_X3_gives : GoodIn wsX3_tripleHours wsX3_gives := goodIn_r _ [5, 6, 23, 24] (by decide +kernel) (by decide +kernel)
set_option maxRecDepth 20000 in
theorem gX3_tripleHours_X3_gives : GoodIn wsX3_tripleHours (wsV RX3 26 RX3 yX3_gives wsX3_gives) := goodIn_app (goodIn_of _ (by decide +kernel)) ggX3_tripleHours_X3_gives
set_option maxRecDepth 20000 in
theorem ggX3_tripleHours_X3_shared : GoodIn wsX3_tripleHours wsX3_shared := goodIn_r _ [10, 11, 23, 24] (by decide +kernel) (by decide +kernel)
set_option maxRecDepth 20000 in
theorem gX3_tripleHours_X3_shared : GoodIn wsX3_tripleHours (wsV RX3 30 RX3 yX3_shared wsX3_shared) := goodIn_app (goodIn_of _ (by decide +kernel)) ggX3_tripleHours_X3_shared
set_option maxRecDepth 20000 in
theorem ggX3_tripleHours_X3_firstUnlikeHours : GoodIn wsX3_tripleHours wsX3_firstUnlikeHours := goodIn_r _ [14, 15, 16, 17, 18, 19, 20, 21, 22] (by decide +kernel) (by decide +kernel)
set_option maxRecDepth 20000 in
theorem gX3_tripleHours_X3_firstUnlikeHours : GoodIn wsX3_tripleHours (va_wsS RX3 37 yX3_firstUnlikeHours wsX3_firstUnlikeHours) := goodIn_app (goodIn_of _ (by decide +kernel)) ggX3_tripleHours_X3_firstUnlikeHours
theorem dX3_tripleHours_0 : decode cX3_tripleHours 0 = .ok (.iload_n 2, 1) := by decide +kernel
theorem dX3_tripleHours_1 : decode cX3_tripleHours 1 = .ok (.iload_n 1, 1) := by decide +kernel
theorem dX3_tripleHours_2 : decode cX3_tripleHours 2 = .ok (.if_icmp .le 13, 3) := by decide +kernel
theorem dX3_tripleHours_5 : decode cX3_tripleHours 5 = .ok (.iload_n 3, 1) := by decide +kernel
theorem dX3_tripleHours_6 : decode cX3_tripleHours 6 = .ok (.iload_n 1, 1) := by decide +kernel
theorem dX3_tripleHours_7 : decode cX3_tripleHours 7 = .ok (.if_icmp .le 8, 3) := by decide +kernel
theorem dX3_tripleHours_10 : decode cX3_tripleHours 10 = .ok (.iload_n 2, 1) := by decide +kernel
theorem dX3_tripleHours_11 : decode cX3_tripleHours 11 = .ok (.iload_n 3, 1) := by decide +kernel
theorem dX3_tripleHours_12 : decode cX3_tripleHours 12 = .ok (.if_icmp .ne 5, 3) := by decide +kernel
theorem dX3_tripleHours_15 : decode cX3_tripleHours 15 = .ok (.iconst (-1), 1) := by decide +kernel
theorem dX3_tripleHours_16 : decode cX3_tripleHours 16 = .ok (.ireturn, 1) := by decide +kernel
theorem dX3_tripleHours_17 : decode cX3_tripleHours 17 = .ok (.aload_n 0, 1) := by decide +kernel
theorem dX3_tripleHours_18 : decode cX3_tripleHours 18 = .ok (.iload_n 1, 1) := by decide +kernel
theorem dX3_tripleHours_19 : decode cX3_tripleHours 19 = .ok (.iload_n 2, 1) := by decide +kernel
theorem dX3_tripleHours_20 : decode cX3_tripleHours 20 = .ok (.invokevirtual 26, 3) := by decide +kernel
theorem dX3_tripleHours_23 : decode cX3_tripleHours 23 = .ok (.ifCond .eq 21, 3) := by decide +kernel
theorem dX3_tripleHours_26 : decode cX3_tripleHours 26 = .ok (.aload_n 0, 1) := by decide +kernel
theorem dX3_tripleHours_27 : decode cX3_tripleHours 27 = .ok (.iload_n 2, 1) := by decide +kernel
theorem dX3_tripleHours_28 : decode cX3_tripleHours 28 = .ok (.iload_n 3, 1) := by decide +kernel
theorem dX3_tripleHours_29 : decode cX3_tripleHours 29 = .ok (.invokevirtual 26, 3) := by decide +kernel
theorem dX3_tripleHours_32 : decode cX3_tripleHours 32 = .ok (.ifCond .eq 12, 3) := by decide +kernel
theorem dX3_tripleHours_35 : decode cX3_tripleHours 35 = .ok (.aload_n 0, 1) := by decide +kernel
theorem dX3_tripleHours_36 : decode cX3_tripleHours 36 = .ok (.iload_n 3, 1) := by decide +kernel
theorem dX3_tripleHours_37 : decode cX3_tripleHours 37 = .ok (.iload_n 1, 1) := by decide +kernel
theorem dX3_tripleHours_38 : decode cX3_tripleHours 38 = .ok (.invokevirtual 26, 3) := by decide +kernel
theorem dX3_tripleHours_41 : decode cX3_tripleHours 41 = .ok (.ifCond .ne 5, 3) := by decide +kernel
theorem dX3_tripleHours_44 : decode cX3_tripleHours 44 = .ok (.iconst (-1), 1) := by decide +kernel
theorem dX3_tripleHours_45 : decode cX3_tripleHours 45 = .ok (.ireturn, 1) := by decide +kernel
theorem dX3_tripleHours_46 : decode cX3_tripleHours 46 = .ok (.aload_n 0, 1) := by decide +kernel
theorem dX3_tripleHours_47 : decode cX3_tripleHours 47 = .ok (.iload_n 1, 1) := by decide +kernel
theorem dX3_tripleHours_48 : decode cX3_tripleHours 48 = .ok (.iload_n 2, 1) := by decide +kernel
theorem dX3_tripleHours_49 : decode cX3_tripleHours 49 = .ok (.invokevirtual 30, 3) := by decide +kernel
theorem dX3_tripleHours_52 : decode cX3_tripleHours 52 = .ok (.aload_n 0, 1) := by decide +kernel
theorem dX3_tripleHours_53 : decode cX3_tripleHours 53 = .ok (.iload_n 2, 1) := by decide +kernel
theorem dX3_tripleHours_54 : decode cX3_tripleHours 54 = .ok (.iload_n 3, 1) := by decide +kernel
theorem dX3_tripleHours_55 : decode cX3_tripleHours 55 = .ok (.invokevirtual 30, 3) := by decide +kernel
theorem dX3_tripleHours_58 : decode cX3_tripleHours 58 = .ok (.aload_n 0, 1) := by decide +kernel
theorem dX3_tripleHours_59 : decode cX3_tripleHours 59 = .ok (.iload_n 3, 1) := by decide +kernel
theorem dX3_tripleHours_60 : decode cX3_tripleHours 60 = .ok (.iload_n 1, 1) := by decide +kernel
theorem dX3_tripleHours_61 : decode cX3_tripleHours 61 = .ok (.invokevirtual 30, 3) := by decide +kernel
theorem dX3_tripleHours_64 : decode cX3_tripleHours 64 = .ok (.invokestatic 37, 3) := by decide +kernel
theorem dX3_tripleHours_67 : decode cX3_tripleHours 67 = .ok (.ireturn, 1) := by decide +kernel
theorem dX3_shared_0 : decode cX3_shared 0 = .ok (.aload_n 0, 1) := by decide +kernel
theorem dX3_shared_1 : decode cX3_shared 1 = .ok (.getfield 15, 3) := by decide +kernel
theorem dX3_shared_4 : decode cX3_shared 4 = .ok (.iload_n 1, 1) := by decide +kernel
theorem dX3_shared_5 : decode cX3_shared 5 = .ok (.bipush 14, 2) := by decide +kernel
theorem dX3_shared_7 : decode cX3_shared 7 = .ok (.imul, 1) := by decide +kernel
theorem dX3_shared_8 : decode cX3_shared 8 = .ok (.iload_n 2, 1) := by decide +kernel
theorem dX3_shared_9 : decode cX3_shared 9 = .ok (.iadd, 1) := by decide +kernel
theorem dX3_shared_10 : decode cX3_shared 10 = .ok (.iaload, 1) := by decide +kernel
theorem dX3_shared_11 : decode cX3_shared 11 = .ok (.ireturn, 1) := by decide +kernel
set_option maxRecDepth 20000 in
theorem ggX3_firstUnlikeHours_X4_lowestBit : GoodIn wsX3_firstUnlikeHours wsX4_lowestBit := goodIn_r _ [3, 4, 5, 6, 7, 8] (by decide +kernel) (by decide +kernel)
set_option maxRecDepth 20000 in
theorem gX3_firstUnlikeHours_X4_lowestBit_n33 : GoodIn wsX3_firstUnlikeHours (wsX4_lowestBit) := ggX3_firstUnlikeHours_X4_lowestBit
theorem dX3_firstUnlikeHours_0 : decode cX3_firstUnlikeHours 0 = .ok (.iload_n 1, 1) := by decide +kernel
theorem dX3_firstUnlikeHours_1 : decode cX3_firstUnlikeHours 1 = .ok (.ifCond .eq 7, 3) := by decide +kernel
theorem dX3_firstUnlikeHours_4 : decode cX3_firstUnlikeHours 4 = .ok (.iload_n 2, 1) := by decide +kernel
theorem dX3_firstUnlikeHours_5 : decode cX3_firstUnlikeHours 5 = .ok (.ifCond .ne 5, 3) := by decide +kernel
theorem dX3_firstUnlikeHours_8 : decode cX3_firstUnlikeHours 8 = .ok (.iconst (-1), 1) := by decide +kernel
theorem dX3_firstUnlikeHours_9 : decode cX3_firstUnlikeHours 9 = .ok (.ireturn, 1) := by decide +kernel
theorem dX3_firstUnlikeHours_10 : decode cX3_firstUnlikeHours 10 = .ok (.iconst 0, 1) := by decide +kernel
theorem dX3_firstUnlikeHours_11 : decode cX3_firstUnlikeHours 11 = .ok (.istore_n 3, 1) := by decide +kernel
theorem dX3_firstUnlikeHours_12 : decode cX3_firstUnlikeHours 12 = .ok (.iload_n 3, 1) := by decide +kernel
theorem dX3_firstUnlikeHours_13 : decode cX3_firstUnlikeHours 13 = .ok (.bipush 24, 2) := by decide +kernel
theorem dX3_firstUnlikeHours_15 : decode cX3_firstUnlikeHours 15 = .ok (.if_icmp .ge 86, 3) := by decide +kernel
theorem dX3_firstUnlikeHours_18 : decode cX3_firstUnlikeHours 18 = .ok (.iload_n 0, 1) := by decide +kernel
theorem dX3_firstUnlikeHours_19 : decode cX3_firstUnlikeHours 19 = .ok (.iload_n 3, 1) := by decide +kernel
theorem dX3_firstUnlikeHours_20 : decode cX3_firstUnlikeHours 20 = .ok (.ishr, 1) := by decide +kernel
theorem dX3_firstUnlikeHours_21 : decode cX3_firstUnlikeHours 21 = .ok (.iconst 1, 1) := by decide +kernel
theorem dX3_firstUnlikeHours_22 : decode cX3_firstUnlikeHours 22 = .ok (.iand, 1) := by decide +kernel
theorem dX3_firstUnlikeHours_23 : decode cX3_firstUnlikeHours 23 = .ok (.ifCond .ne 6, 3) := by decide +kernel
theorem dX3_firstUnlikeHours_26 : decode cX3_firstUnlikeHours 26 = .ok (.goto 69, 3) := by decide +kernel
theorem dX3_firstUnlikeHours_29 : decode cX3_firstUnlikeHours 29 = .ok (.iconst 0, 1) := by decide +kernel
theorem dX3_firstUnlikeHours_30 : decode cX3_firstUnlikeHours 30 = .ok (.istore 4, 2) := by decide +kernel
theorem dX3_firstUnlikeHours_32 : decode cX3_firstUnlikeHours 32 = .ok (.iload 4, 2) := by decide +kernel
theorem dX3_firstUnlikeHours_34 : decode cX3_firstUnlikeHours 34 = .ok (.bipush 24, 2) := by decide +kernel
theorem dX3_firstUnlikeHours_36 : decode cX3_firstUnlikeHours 36 = .ok (.if_icmp .ge 59, 3) := by decide +kernel
theorem dX3_firstUnlikeHours_39 : decode cX3_firstUnlikeHours 39 = .ok (.iload_n 2, 1) := by decide +kernel
theorem dX3_firstUnlikeHours_40 : decode cX3_firstUnlikeHours 40 = .ok (.iconst 1, 1) := by decide +kernel
theorem dX3_firstUnlikeHours_41 : decode cX3_firstUnlikeHours 41 = .ok (.iload_n 3, 1) := by decide +kernel
theorem dX3_firstUnlikeHours_42 : decode cX3_firstUnlikeHours 42 = .ok (.ishl, 1) := by decide +kernel
theorem dX3_firstUnlikeHours_43 : decode cX3_firstUnlikeHours 43 = .ok (.iconst 1, 1) := by decide +kernel
theorem dX3_firstUnlikeHours_44 : decode cX3_firstUnlikeHours 44 = .ok (.iload 4, 2) := by decide +kernel
theorem dX3_firstUnlikeHours_46 : decode cX3_firstUnlikeHours 46 = .ok (.ishl, 1) := by decide +kernel
theorem dX3_firstUnlikeHours_47 : decode cX3_firstUnlikeHours 47 = .ok (.ior, 1) := by decide +kernel
theorem dX3_firstUnlikeHours_48 : decode cX3_firstUnlikeHours 48 = .ok (.iconst (-1), 1) := by decide +kernel
theorem dX3_firstUnlikeHours_49 : decode cX3_firstUnlikeHours 49 = .ok (.ixor, 1) := by decide +kernel
theorem dX3_firstUnlikeHours_50 : decode cX3_firstUnlikeHours 50 = .ok (.iand, 1) := by decide +kernel
theorem dX3_firstUnlikeHours_51 : decode cX3_firstUnlikeHours 51 = .ok (.istore 5, 2) := by decide +kernel
theorem dX3_firstUnlikeHours_53 : decode cX3_firstUnlikeHours 53 = .ok (.iload 4, 2) := by decide +kernel
theorem dX3_firstUnlikeHours_55 : decode cX3_firstUnlikeHours 55 = .ok (.iload_n 3, 1) := by decide +kernel
theorem dX3_firstUnlikeHours_56 : decode cX3_firstUnlikeHours 56 = .ok (.if_icmp .eq 33, 3) := by decide +kernel
theorem dX3_firstUnlikeHours_59 : decode cX3_firstUnlikeHours 59 = .ok (.iload_n 1, 1) := by decide +kernel
theorem dX3_firstUnlikeHours_60 : decode cX3_firstUnlikeHours 60 = .ok (.iload 4, 2) := by decide +kernel
theorem dX3_firstUnlikeHours_62 : decode cX3_firstUnlikeHours 62 = .ok (.ishr, 1) := by decide +kernel
theorem dX3_firstUnlikeHours_63 : decode cX3_firstUnlikeHours 63 = .ok (.iconst 1, 1) := by decide +kernel
theorem dX3_firstUnlikeHours_64 : decode cX3_firstUnlikeHours 64 = .ok (.iand, 1) := by decide +kernel
theorem dX3_firstUnlikeHours_65 : decode cX3_firstUnlikeHours 65 = .ok (.ifCond .eq 24, 3) := by decide +kernel
theorem dX3_firstUnlikeHours_68 : decode cX3_firstUnlikeHours 68 = .ok (.iload 5, 2) := by decide +kernel
theorem dX3_firstUnlikeHours_70 : decode cX3_firstUnlikeHours 70 = .ok (.ifCond .eq 19, 3) := by decide +kernel
theorem dX3_firstUnlikeHours_73 : decode cX3_firstUnlikeHours 73 = .ok (.iload_n 3, 1) := by decide +kernel
theorem dX3_firstUnlikeHours_74 : decode cX3_firstUnlikeHours 74 = .ok (.iload 4, 2) := by decide +kernel
theorem dX3_firstUnlikeHours_76 : decode cX3_firstUnlikeHours 76 = .ok (.iconst 5, 1) := by decide +kernel
theorem dX3_firstUnlikeHours_77 : decode cX3_firstUnlikeHours 77 = .ok (.ishl, 1) := by decide +kernel
theorem dX3_firstUnlikeHours_78 : decode cX3_firstUnlikeHours 78 = .ok (.ior, 1) := by decide +kernel
theorem dX3_firstUnlikeHours_79 : decode cX3_firstUnlikeHours 79 = .ok (.iload 5, 2) := by decide +kernel
theorem dX3_firstUnlikeHours_81 : decode cX3_firstUnlikeHours 81 = .ok (.invokestatic 33, 3) := by decide +kernel
theorem dX3_firstUnlikeHours_84 : decode cX3_firstUnlikeHours 84 = .ok (.bipush 10, 2) := by decide +kernel
theorem dX3_firstUnlikeHours_86 : decode cX3_firstUnlikeHours 86 = .ok (.ishl, 1) := by decide +kernel
theorem dX3_firstUnlikeHours_87 : decode cX3_firstUnlikeHours 87 = .ok (.ior, 1) := by decide +kernel
theorem dX3_firstUnlikeHours_88 : decode cX3_firstUnlikeHours 88 = .ok (.ireturn, 1) := by decide +kernel
theorem dX3_firstUnlikeHours_89 : decode cX3_firstUnlikeHours 89 = .ok (.iinc 4 1, 3) := by decide +kernel
theorem dX3_firstUnlikeHours_92 : decode cX3_firstUnlikeHours 92 = .ok (.goto (-60), 3) := by decide +kernel
theorem dX3_firstUnlikeHours_95 : decode cX3_firstUnlikeHours 95 = .ok (.iinc 3 1, 3) := by decide +kernel
theorem dX3_firstUnlikeHours_98 : decode cX3_firstUnlikeHours 98 = .ok (.goto (-86), 3) := by decide +kernel
theorem dX3_firstUnlikeHours_101 : decode cX3_firstUnlikeHours 101 = .ok (.iconst (-1), 1) := by decide +kernel
theorem dX3_firstUnlikeHours_102 : decode cX3_firstUnlikeHours 102 = .ok (.ireturn, 1) := by decide +kernel
set_option maxRecDepth 20000 in
theorem ggX4_init_X3_init : GoodIn wsX4_init wsX3_init := goodIn_r _ [21, 22, 2, 3, 18, 23, 24, 53, 54] (by decide +kernel) (by decide +kernel)
set_option maxRecDepth 20000 in
theorem gX4_init_X3_init_n17 : GoodIn wsX4_init (wsX3_init) := ggX4_init_X3_init
set_option maxRecDepth 20000 in
theorem ggX4_init_X1_init : GoodIn wsX4_init wsX1_init := goodIn_r _ [26, 27, 2, 3, 18, 28, 29, 30, 31, 32, 33, 34, 35, 55, 56, 57, 58, 59, 60, 61, 62, 63, 64] (by decide +kernel) (by decide +kernel)
set_option maxRecDepth 20000 in
theorem gX4_init_X1_init_n24 : GoodIn wsX4_init (wsX1_init) := ggX4_init_X1_init
set_option maxRecDepth 20000 in
theorem ggX4_init_X2_init : GoodIn wsX4_init wsX2_init := goodIn_r _ [37, 38, 2, 3, 18, 39, 40, 41, 42, 65, 66, 67, 68, 69, 70, 71, 72] (by decide +kernel) (by decide +kernel)
set_option maxRecDepth 20000 in
theorem gX4_init_X2_init_n31 : GoodIn wsX4_init (wsX2_init) := ggX4_init_X2_init
theorem dX4_init_0 : decode cX4_init 0 = .ok (.aload_n 0, 1) := by decide +kernel
theorem dX4_init_1 : decode cX4_init 1 = .ok (.invokespecial 3, 3) := by decide +kernel
theorem dX4_init_4 : decode cX4_init 4 = .ok (.aload_n 0, 1) := by decide +kernel
theorem dX4_init_5 : decode cX4_init 5 = .ok (.bipush 14, 2) := by decide +kernel
theorem dX4_init_7 : decode cX4_init 7 = .ok (.anewarray 9, 3) := by decide +kernel
theorem dX4_init_10 : decode cX4_init 10 = .ok (.putfield 11, 3) := by decide +kernel
theorem dX4_init_13 : decode cX4_init 13 = .ok (.aload_n 0, 1) := by decide +kernel
theorem dX4_init_14 : decode cX4_init 14 = .ok (.new 15, 3) := by decide +kernel
theorem dX4_init_17 : decode cX4_init 17 = .ok (.dup, 1) := by decide +kernel
theorem dX4_init_18 : decode cX4_init 18 = .ok (.invokespecial 17, 3) := by decide +kernel
theorem dX4_init_21 : decode cX4_init 21 = .ok (.putfield 18, 3) := by decide +kernel
theorem dX4_init_24 : decode cX4_init 24 = .ok (.aload_n 0, 1) := by decide +kernel
theorem dX4_init_25 : decode cX4_init 25 = .ok (.new 22, 3) := by decide +kernel
theorem dX4_init_28 : decode cX4_init 28 = .ok (.dup, 1) := by decide +kernel
theorem dX4_init_29 : decode cX4_init 29 = .ok (.invokespecial 24, 3) := by decide +kernel
theorem dX4_init_32 : decode cX4_init 32 = .ok (.putfield 25, 3) := by decide +kernel
theorem dX4_init_35 : decode cX4_init 35 = .ok (.aload_n 0, 1) := by decide +kernel
theorem dX4_init_36 : decode cX4_init 36 = .ok (.new 29, 3) := by decide +kernel
theorem dX4_init_39 : decode cX4_init 39 = .ok (.dup, 1) := by decide +kernel
theorem dX4_init_40 : decode cX4_init 40 = .ok (.invokespecial 31, 3) := by decide +kernel
theorem dX4_init_43 : decode cX4_init 43 = .ok (.putfield 32, 3) := by decide +kernel
theorem dX4_init_46 : decode cX4_init 46 = .ok (.aload_n 0, 1) := by decide +kernel
theorem dX4_init_47 : decode cX4_init 47 = .ok (.bipush 42, 2) := by decide +kernel
theorem dX4_init_49 : decode cX4_init 49 = .ok (.newarray .int, 2) := by decide +kernel
theorem dX4_init_51 : decode cX4_init 51 = .ok (.putfield 36, 3) := by decide +kernel
theorem dX4_init_54 : decode cX4_init 54 = .ok (.return_, 1) := by decide +kernel
set_option maxRecDepth 20000 in
theorem ggX4_learner_X0_init : GoodIn wsX4_learner wsX0_init := goodIn_r _ [9, 10, 11, 12, 13, 14, 15, 16, 17, 18, 19, 20, 21, 22, 33, 34, 35, 36, 37, 38, 39, 40, 41, 42, 43, 44, 45, 46, 47] (by decide +kernel) (by decide +kernel)
set_option maxRecDepth 20000 in
theorem gX4_learner_X0_init : GoodIn wsX4_learner (wsX0_init) := ggX4_learner_X0_init
theorem dX4_learner_0 : decode cX4_learner 0 = .ok (.aload_n 0, 1) := by decide +kernel
theorem dX4_learner_1 : decode cX4_learner 1 = .ok (.getfield 40, 3) := by decide +kernel
theorem dX4_learner_4 : decode cX4_learner 4 = .ok (.bipush 14, 2) := by decide +kernel
theorem dX4_learner_6 : decode cX4_learner 6 = .ok (.if_icmp .lt 5, 3) := by decide +kernel
theorem dX4_learner_9 : decode cX4_learner 9 = .ok (.iconst (-1), 1) := by decide +kernel
theorem dX4_learner_10 : decode cX4_learner 10 = .ok (.ireturn, 1) := by decide +kernel
theorem dX4_learner_11 : decode cX4_learner 11 = .ok (.aload_n 0, 1) := by decide +kernel
theorem dX4_learner_12 : decode cX4_learner 12 = .ok (.getfield 11, 3) := by decide +kernel
theorem dX4_learner_15 : decode cX4_learner 15 = .ok (.aload_n 0, 1) := by decide +kernel
theorem dX4_learner_16 : decode cX4_learner 16 = .ok (.getfield 40, 3) := by decide +kernel
theorem dX4_learner_19 : decode cX4_learner 19 = .ok (.new 9, 3) := by decide +kernel
theorem dX4_learner_22 : decode cX4_learner 22 = .ok (.dup, 1) := by decide +kernel
theorem dX4_learner_23 : decode cX4_learner 23 = .ok (.iload_n 1, 1) := by decide +kernel
theorem dX4_learner_24 : decode cX4_learner 24 = .ok (.ldc 44, 2) := by decide +kernel
theorem dX4_learner_26 : decode cX4_learner 26 = .ok (.iand, 1) := by decide +kernel
theorem dX4_learner_27 : decode cX4_learner 27 = .ok (.invokespecial 45, 3) := by decide +kernel
theorem dX4_learner_30 : decode cX4_learner 30 = .ok (.aastore, 1) := by decide +kernel
theorem dX4_learner_31 : decode cX4_learner 31 = .ok (.aload_n 0, 1) := by decide +kernel
theorem dX4_learner_32 : decode cX4_learner 32 = .ok (.dup, 1) := by decide +kernel
theorem dX4_learner_33 : decode cX4_learner 33 = .ok (.getfield 40, 3) := by decide +kernel
theorem dX4_learner_36 : decode cX4_learner 36 = .ok (.iconst 1, 1) := by decide +kernel
theorem dX4_learner_37 : decode cX4_learner 37 = .ok (.iadd, 1) := by decide +kernel
theorem dX4_learner_38 : decode cX4_learner 38 = .ok (.putfield 40, 3) := by decide +kernel
theorem dX4_learner_41 : decode cX4_learner 41 = .ok (.aload_n 0, 1) := by decide +kernel
theorem dX4_learner_42 : decode cX4_learner 42 = .ok (.getfield 40, 3) := by decide +kernel
theorem dX4_learner_45 : decode cX4_learner 45 = .ok (.iconst 1, 1) := by decide +kernel
theorem dX4_learner_46 : decode cX4_learner 46 = .ok (.isub, 1) := by decide +kernel
theorem dX4_learner_47 : decode cX4_learner 47 = .ok (.ireturn, 1) := by decide +kernel
set_option maxRecDepth 20000 in
theorem ggX4_hours_X4_find : GoodIn wsX4_hours wsX4_find := goodIn_ca (goodIn_r _ [6, 7, 8, 9, 10, 26, 27, 28, 29, 30, 31, 32, 33, 34, 35] (by decide +kernel) (by decide +kernel)) (goodIn_sub (fun _ h => List.mem_cons_of_mem _ (List.mem_append_right _ h)) (by decide +kernel))
set_option maxRecDepth 20000 in
theorem gX4_hours_X4_find : GoodIn wsX4_hours (wsV RX4 48 RX4 yX4_find wsX4_find) := goodIn_app (goodIn_of _ (by decide +kernel)) ggX4_hours_X4_find
theorem dX4_hours_0 : decode cX4_hours 0 = .ok (.aload_n 0, 1) := by decide +kernel
theorem dX4_hours_1 : decode cX4_hours 1 = .ok (.iload_n 1, 1) := by decide +kernel
theorem dX4_hours_2 : decode cX4_hours 2 = .ok (.invokevirtual 48, 3) := by decide +kernel
theorem dX4_hours_5 : decode cX4_hours 5 = .ok (.astore_n 3, 1) := by decide +kernel
theorem dX4_hours_6 : decode cX4_hours 6 = .ok (.aload_n 3, 1) := by decide +kernel
theorem dX4_hours_7 : decode cX4_hours 7 = .ok (.getfield 52, 3) := by decide +kernel
theorem dX4_hours_10 : decode cX4_hours 10 = .ok (.istore 4, 2) := by decide +kernel
theorem dX4_hours_12 : decode cX4_hours 12 = .ok (.aload_n 3, 1) := by decide +kernel
theorem dX4_hours_13 : decode cX4_hours 13 = .ok (.iload_n 2, 1) := by decide +kernel
theorem dX4_hours_14 : decode cX4_hours 14 = .ok (.ldc 44, 2) := by decide +kernel
theorem dX4_hours_16 : decode cX4_hours 16 = .ok (.iand, 1) := by decide +kernel
theorem dX4_hours_17 : decode cX4_hours 17 = .ok (.putfield 52, 3) := by decide +kernel
theorem dX4_hours_20 : decode cX4_hours 20 = .ok (.iload 4, 2) := by decide +kernel
theorem dX4_hours_22 : decode cX4_hours 22 = .ok (.ireturn, 1) := by decide +kernel
set_option maxRecDepth 20000 in
theorem ggX4_claim_X4_find : GoodIn wsX4_claim wsX4_find := goodIn_ca (goodIn_r _ [7, 8, 9, 10, 11, 30, 31, 32, 33, 34, 35, 36, 37, 38, 39] (by decide +kernel) (by decide +kernel)) (goodIn_sub (fun _ h => List.mem_cons_of_mem _ (List.mem_append_right _ h)) (by decide +kernel))
set_option maxRecDepth 20000 in
theorem gX4_claim_X4_find : GoodIn wsX4_claim (wsV RX4 48 RX4 yX4_find wsX4_find) := goodIn_app (goodIn_of _ (by decide +kernel)) ggX4_claim_X4_find
set_option maxRecDepth 20000 in
theorem ggX4_claim_X4_requireTongue : GoodIn wsX4_claim wsX4_requireTongue := goodIn_ca (goodIn_r _ [14, 8, 9] (by decide +kernel) (by decide +kernel)) (goodIn_sub (fun _ h => List.mem_cons_of_mem _ (List.mem_append_right _ h)) (by decide +kernel))
set_option maxRecDepth 20000 in
theorem gX4_claim_X4_requireTongue : GoodIn wsX4_claim (va_wsS RX4 55 yX4_requireTongue wsX4_requireTongue) := goodIn_app (goodIn_of _ (by decide +kernel)) ggX4_claim_X4_requireTongue
theorem dX4_claim_0 : decode cX4_claim 0 = .ok (.aload_n 0, 1) := by decide +kernel
theorem dX4_claim_1 : decode cX4_claim 1 = .ok (.iload_n 1, 1) := by decide +kernel
theorem dX4_claim_2 : decode cX4_claim 2 = .ok (.invokevirtual 48, 3) := by decide +kernel
theorem dX4_claim_5 : decode cX4_claim 5 = .ok (.astore 4, 2) := by decide +kernel
theorem dX4_claim_7 : decode cX4_claim 7 = .ok (.iload_n 2, 1) := by decide +kernel
theorem dX4_claim_8 : decode cX4_claim 8 = .ok (.invokestatic 55, 3) := by decide +kernel
theorem dX4_claim_11 : decode cX4_claim 11 = .ok (.iload_n 3, 1) := by decide +kernel
theorem dX4_claim_12 : decode cX4_claim 12 = .ok (.ifCond .lt 9, 3) := by decide +kernel
theorem dX4_claim_15 : decode cX4_claim 15 = .ok (.iload_n 3, 1) := by decide +kernel
theorem dX4_claim_16 : decode cX4_claim 16 = .ok (.bipush 10, 2) := by decide +kernel
theorem dX4_claim_18 : decode cX4_claim 18 = .ok (.if_icmp .le 13, 3) := by decide +kernel
theorem dX4_claim_21 : decode cX4_claim 21 = .ok (.new 58, 3) := by decide +kernel
theorem dX4_claim_24 : decode cX4_claim 24 = .ok (.dup, 1) := by decide +kernel
theorem dX4_claim_25 : decode cX4_claim 25 = .ok (.ldc 60, 2) := by decide +kernel
theorem dX4_claim_27 : decode cX4_claim 27 = .ok (.invokespecial 62, 3) := by decide +kernel
theorem dX4_claim_30 : decode cX4_claim 30 = .ok (.athrow, 1) := by decide +kernel
theorem dX4_claim_31 : decode cX4_claim 31 = .ok (.aload 4, 2) := by decide +kernel
theorem dX4_claim_33 : decode cX4_claim 33 = .ok (.getfield 65, 3) := by decide +kernel
theorem dX4_claim_36 : decode cX4_claim 36 = .ok (.iload_n 2, 1) := by decide +kernel
theorem dX4_claim_37 : decode cX4_claim 37 = .ok (.iaload, 1) := by decide +kernel
theorem dX4_claim_38 : decode cX4_claim 38 = .ok (.istore 5, 2) := by decide +kernel
theorem dX4_claim_40 : decode cX4_claim 40 = .ok (.aload 4, 2) := by decide +kernel
theorem dX4_claim_42 : decode cX4_claim 42 = .ok (.getfield 65, 3) := by decide +kernel
theorem dX4_claim_45 : decode cX4_claim 45 = .ok (.iload_n 2, 1) := by decide +kernel
theorem dX4_claim_46 : decode cX4_claim 46 = .ok (.iload_n 3, 1) := by decide +kernel
theorem dX4_claim_47 : decode cX4_claim 47 = .ok (.iastore, 1) := by decide +kernel
theorem dX4_claim_48 : decode cX4_claim 48 = .ok (.iload 5, 2) := by decide +kernel
theorem dX4_claim_50 : decode cX4_claim 50 = .ok (.ireturn, 1) := by decide +kernel
set_option maxRecDepth 20000 in
theorem ggX4_want_X4_find : GoodIn wsX4_want wsX4_find := goodIn_ca (goodIn_r _ [5, 6, 7, 8, 9, 20, 21, 22, 23, 24, 25, 26, 27, 28, 29] (by decide +kernel) (by decide +kernel)) (goodIn_sub (fun _ h => List.mem_cons_of_mem _ (List.mem_append_right _ h)) (by decide +kernel))
set_option maxRecDepth 20000 in
theorem gX4_want_X4_find : GoodIn wsX4_want (wsV RX4 48 RX4 yX4_find wsX4_find) := goodIn_app (goodIn_of _ (by decide +kernel)) ggX4_want_X4_find
set_option maxRecDepth 20000 in
theorem ggX4_want_X4_requireTongue : GoodIn wsX4_want wsX4_requireTongue := goodIn_ca (goodIn_r _ [12, 6, 7] (by decide +kernel) (by decide +kernel)) (goodIn_sub (fun _ h => List.mem_cons_of_mem _ (List.mem_append_right _ h)) (by decide +kernel))
set_option maxRecDepth 20000 in
theorem gX4_want_X4_requireTongue : GoodIn wsX4_want (va_wsS RX4 55 yX4_requireTongue wsX4_requireTongue) := goodIn_app (goodIn_of _ (by decide +kernel)) ggX4_want_X4_requireTongue
set_option maxRecDepth 20000 in
theorem ggX4_want_X0_addWant : GoodIn wsX4_want wsX0_addWant := goodIn_r _ [17, 18, 19, 30, 31, 32, 33, 34, 35, 36, 37, 38, 39, 40, 41, 42, 43, 44] (by decide +kernel) (by decide +kernel)
set_option maxRecDepth 20000 in
theorem gX4_want_X0_addWant : GoodIn wsX4_want (wsV RX4 68 RX0 yX0_addWant wsX0_addWant) := goodIn_app (goodIn_of _ (by decide +kernel)) ggX4_want_X0_addWant
theorem dX4_want_0 : decode cX4_want 0 = .ok (.aload_n 0, 1) := by decide +kernel
theorem dX4_want_1 : decode cX4_want 1 = .ok (.iload_n 1, 1) := by decide +kernel
theorem dX4_want_2 : decode cX4_want 2 = .ok (.invokevirtual 48, 3) := by decide +kernel
theorem dX4_want_5 : decode cX4_want 5 = .ok (.astore_n 3, 1) := by decide +kernel
theorem dX4_want_6 : decode cX4_want 6 = .ok (.iload_n 2, 1) := by decide +kernel
theorem dX4_want_7 : decode cX4_want 7 = .ok (.invokestatic 55, 3) := by decide +kernel
theorem dX4_want_10 : decode cX4_want 10 = .ok (.aload_n 3, 1) := by decide +kernel
theorem dX4_want_11 : decode cX4_want 11 = .ok (.iload_n 2, 1) := by decide +kernel
theorem dX4_want_12 : decode cX4_want 12 = .ok (.invokevirtual 68, 3) := by decide +kernel
theorem dX4_want_15 : decode cX4_want 15 = .ok (.ireturn, 1) := by decide +kernel
set_option maxRecDepth 20000 in
theorem ggX4_unwant_X4_find : GoodIn wsX4_unwant wsX4_find := goodIn_ca (goodIn_r _ [5, 6, 7, 8, 9, 25, 26, 27, 28, 29, 30, 31, 32, 33, 34] (by decide +kernel) (by decide +kernel)) (goodIn_sub (fun _ h => List.mem_cons_of_mem _ (List.mem_append_right _ h)) (by decide +kernel))
set_option maxRecDepth 20000 in
theorem gX4_unwant_X4_find : GoodIn wsX4_unwant (wsV RX4 48 RX4 yX4_find wsX4_find) := goodIn_app (goodIn_of _ (by decide +kernel)) ggX4_unwant_X4_find
theorem dX4_unwant_0 : decode cX4_unwant 0 = .ok (.aload_n 0, 1) := by decide +kernel
theorem dX4_unwant_1 : decode cX4_unwant 1 = .ok (.iload_n 1, 1) := by decide +kernel
theorem dX4_unwant_2 : decode cX4_unwant 2 = .ok (.invokevirtual 48, 3) := by decide +kernel
theorem dX4_unwant_5 : decode cX4_unwant 5 = .ok (.astore_n 2, 1) := by decide +kernel
theorem dX4_unwant_6 : decode cX4_unwant 6 = .ok (.aload_n 2, 1) := by decide +kernel
theorem dX4_unwant_7 : decode cX4_unwant 7 = .ok (.getfield 72, 3) := by decide +kernel
theorem dX4_unwant_10 : decode cX4_unwant 10 = .ok (.istore_n 3, 1) := by decide +kernel
theorem dX4_unwant_11 : decode cX4_unwant 11 = .ok (.aload_n 2, 1) := by decide +kernel
theorem dX4_unwant_12 : decode cX4_unwant 12 = .ok (.iconst 0, 1) := by decide +kernel
theorem dX4_unwant_13 : decode cX4_unwant 13 = .ok (.putfield 72, 3) := by decide +kernel
theorem dX4_unwant_16 : decode cX4_unwant 16 = .ok (.iload_n 3, 1) := by decide +kernel
theorem dX4_unwant_17 : decode cX4_unwant 17 = .ok (.ireturn, 1) := by decide +kernel
set_option maxRecDepth 20000 in
theorem ggX4_bar_X4_requireTwo : GoodIn wsX4_bar wsX4_requireTwo := goodIn_ca (goodIn_r _ [5, 6, 7, 8, 9, 10, 4, 11, 12, 13, 24, 25, 26, 27, 28, 29, 30, 31, 32, 33] (by decide +kernel) (by decide +kernel)) (goodIn_sub (fun _ h => List.mem_cons_of_mem _ (List.mem_append_right _ h)) (by decide +kernel))
set_option maxRecDepth 20000 in
theorem gX4_bar_X4_requireTwo : GoodIn wsX4_bar (wsV RX4 75 RX4 yX4_requireTwo wsX4_requireTwo) := goodIn_app (goodIn_of _ (by decide +kernel)) ggX4_bar_X4_requireTwo
set_option maxRecDepth 20000 in
theorem ggX4_bar_X4_find : GoodIn wsX4_bar wsX4_find := goodIn_ca (goodIn_r _ [11, 6, 7, 12, 13, 24, 25, 26, 27, 28, 29, 30, 31, 32, 33] (by decide +kernel) (by decide +kernel)) (goodIn_sub (fun _ h => List.mem_cons_of_mem _ (List.mem_append_right _ h)) (by decide +kernel))
set_option maxRecDepth 20000 in
theorem gX4_bar_X4_find : GoodIn wsX4_bar (wsV RX4 48 RX4 yX4_find wsX4_find) := goodIn_app (goodIn_of _ (by decide +kernel)) ggX4_bar_X4_find
set_option maxRecDepth 20000 in
theorem ggX4_bar_X0_isBarred : GoodIn wsX4_bar wsX0_isBarred := goodIn_r _ [18, 19, 34, 35, 36, 37, 38, 39, 40, 41, 42, 43, 44, 45, 46, 47, 48] (by decide +kernel) (by decide +kernel)
set_option maxRecDepth 20000 in
theorem gX4_bar_X0_isBarred : GoodIn wsX4_bar (wsV RX4 79 RX0 yX0_isBarred wsX0_isBarred) := goodIn_app (goodIn_of _ (by decide +kernel)) ggX4_bar_X0_isBarred
set_option maxRecDepth 20000 in
theorem ggX4_bar_X0_setBar : GoodIn wsX4_bar wsX0_setBar := goodIn_r _ [23, 19, 34, 35, 36, 37, 38, 39, 40, 41, 42, 43, 44, 45, 46, 47, 48] (by decide +kernel) (by decide +kernel)
set_option maxRecDepth 20000 in
theorem gX4_bar_X0_setBar : GoodIn wsX4_bar (wsV RX4 83 RX0 yX0_setBar wsX0_setBar) := goodIn_app (goodIn_of _ (by decide +kernel)) ggX4_bar_X0_setBar
theorem dX4_bar_0 : decode cX4_bar 0 = .ok (.aload_n 0, 1) := by decide +kernel
theorem dX4_bar_1 : decode cX4_bar 1 = .ok (.iload_n 1, 1) := by decide +kernel
theorem dX4_bar_2 : decode cX4_bar 2 = .ok (.iload_n 2, 1) := by decide +kernel
theorem dX4_bar_3 : decode cX4_bar 3 = .ok (.invokevirtual 75, 3) := by decide +kernel
theorem dX4_bar_6 : decode cX4_bar 6 = .ok (.aload_n 0, 1) := by decide +kernel
theorem dX4_bar_7 : decode cX4_bar 7 = .ok (.iload_n 1, 1) := by decide +kernel
theorem dX4_bar_8 : decode cX4_bar 8 = .ok (.invokevirtual 48, 3) := by decide +kernel
theorem dX4_bar_11 : decode cX4_bar 11 = .ok (.astore 4, 2) := by decide +kernel
theorem dX4_bar_13 : decode cX4_bar 13 = .ok (.aload_n 0, 1) := by decide +kernel
theorem dX4_bar_14 : decode cX4_bar 14 = .ok (.iload_n 2, 1) := by decide +kernel
theorem dX4_bar_15 : decode cX4_bar 15 = .ok (.invokevirtual 48, 3) := by decide +kernel
theorem dX4_bar_18 : decode cX4_bar 18 = .ok (.astore 5, 2) := by decide +kernel
theorem dX4_bar_20 : decode cX4_bar 20 = .ok (.aload 4, 2) := by decide +kernel
theorem dX4_bar_22 : decode cX4_bar 22 = .ok (.iload_n 2, 1) := by decide +kernel
theorem dX4_bar_23 : decode cX4_bar 23 = .ok (.invokevirtual 79, 3) := by decide +kernel
theorem dX4_bar_26 : decode cX4_bar 26 = .ok (.istore 6, 2) := by decide +kernel
theorem dX4_bar_28 : decode cX4_bar 28 = .ok (.aload 4, 2) := by decide +kernel
theorem dX4_bar_30 : decode cX4_bar 30 = .ok (.iload_n 2, 1) := by decide +kernel
theorem dX4_bar_31 : decode cX4_bar 31 = .ok (.iload_n 3, 1) := by decide +kernel
theorem dX4_bar_32 : decode cX4_bar 32 = .ok (.invokevirtual 83, 3) := by decide +kernel
theorem dX4_bar_35 : decode cX4_bar 35 = .ok (.aload 5, 2) := by decide +kernel
theorem dX4_bar_37 : decode cX4_bar 37 = .ok (.iload_n 1, 1) := by decide +kernel
theorem dX4_bar_38 : decode cX4_bar 38 = .ok (.iload_n 3, 1) := by decide +kernel
theorem dX4_bar_39 : decode cX4_bar 39 = .ok (.invokevirtual 83, 3) := by decide +kernel
theorem dX4_bar_42 : decode cX4_bar 42 = .ok (.iload 6, 2) := by decide +kernel
theorem dX4_bar_44 : decode cX4_bar 44 = .ok (.ireturn, 1) := by decide +kernel
set_option maxRecDepth 20000 in
theorem ggX4_test_X4_find : GoodIn wsX4_test wsX4_find := goodIn_ca (goodIn_r _ [7, 8, 9, 10, 11, 31, 32, 33, 34, 35, 36, 37, 38, 39, 40] (by decide +kernel) (by decide +kernel)) (goodIn_sub (fun _ h => List.mem_cons_of_mem _ (List.mem_append_right _ h)) (by decide +kernel))
set_option maxRecDepth 20000 in
theorem gX4_test_X4_find : GoodIn wsX4_test (wsV RX4 48 RX4 yX4_find wsX4_find) := goodIn_app (goodIn_of _ (by decide +kernel)) ggX4_test_X4_find
set_option maxRecDepth 20000 in
theorem ggX4_test_X4_requireTongue : GoodIn wsX4_test wsX4_requireTongue := goodIn_ca (goodIn_r _ [14, 8, 9] (by decide +kernel) (by decide +kernel)) (goodIn_sub (fun _ h => List.mem_cons_of_mem _ (List.mem_append_right _ h)) (by decide +kernel))
set_option maxRecDepth 20000 in
theorem gX4_test_X4_requireTongue : GoodIn wsX4_test (va_wsS RX4 55 yX4_requireTongue wsX4_requireTongue) := goodIn_app (goodIn_of _ (by decide +kernel)) ggX4_test_X4_requireTongue
set_option maxRecDepth 20000 in
theorem ggX4_test_X0_takeTest : GoodIn wsX4_test wsX0_takeTest := goodIn_r _ [19, 20, 21, 22, 23, 24, 25, 26, 27, 28, 29, 30, 41, 42, 43, 44, 45, 46, 47, 48, 49, 50, 51, 52, 53, 54, 55] (by decide +kernel) (by decide +kernel)
set_option maxRecDepth 20000 in
theorem gX4_test_X0_takeTest : GoodIn wsX4_test (wsV RX4 89 RX0 yX0_takeTest wsX0_takeTest) := goodIn_app (goodIn_of _ (by decide +kernel)) ggX4_test_X0_takeTest
theorem dX4_test_0 : decode cX4_test 0 = .ok (.aload_n 0, 1) := by decide +kernel
theorem dX4_test_1 : decode cX4_test 1 = .ok (.iload_n 1, 1) := by decide +kernel
theorem dX4_test_2 : decode cX4_test 2 = .ok (.invokevirtual 48, 3) := by decide +kernel
theorem dX4_test_5 : decode cX4_test 5 = .ok (.astore 5, 2) := by decide +kernel
theorem dX4_test_7 : decode cX4_test 7 = .ok (.iload_n 2, 1) := by decide +kernel
theorem dX4_test_8 : decode cX4_test 8 = .ok (.invokestatic 55, 3) := by decide +kernel
theorem dX4_test_11 : decode cX4_test 11 = .ok (.iload_n 3, 1) := by decide +kernel
theorem dX4_test_12 : decode cX4_test 12 = .ok (.iconst 1, 1) := by decide +kernel
theorem dX4_test_13 : decode cX4_test 13 = .ok (.if_icmp .lt 9, 3) := by decide +kernel
theorem dX4_test_16 : decode cX4_test 16 = .ok (.iload_n 3, 1) := by decide +kernel
theorem dX4_test_17 : decode cX4_test 17 = .ok (.bipush 10, 2) := by decide +kernel
theorem dX4_test_19 : decode cX4_test 19 = .ok (.if_icmp .le 13, 3) := by decide +kernel
theorem dX4_test_22 : decode cX4_test 22 = .ok (.new 58, 3) := by decide +kernel
theorem dX4_test_25 : decode cX4_test 25 = .ok (.dup, 1) := by decide +kernel
theorem dX4_test_26 : decode cX4_test 26 = .ok (.ldc 87, 2) := by decide +kernel
theorem dX4_test_28 : decode cX4_test 28 = .ok (.invokespecial 62, 3) := by decide +kernel
theorem dX4_test_31 : decode cX4_test 31 = .ok (.athrow, 1) := by decide +kernel
theorem dX4_test_32 : decode cX4_test 32 = .ok (.aload 5, 2) := by decide +kernel
theorem dX4_test_34 : decode cX4_test 34 = .ok (.iload_n 2, 1) := by decide +kernel
theorem dX4_test_35 : decode cX4_test 35 = .ok (.iload_n 3, 1) := by decide +kernel
theorem dX4_test_36 : decode cX4_test 36 = .ok (.iload 4, 2) := by decide +kernel
theorem dX4_test_38 : decode cX4_test 38 = .ok (.invokevirtual 89, 3) := by decide +kernel
theorem dX4_test_41 : decode cX4_test 41 = .ok (.ireturn, 1) := by decide +kernel
set_option maxRecDepth 20000 in
theorem ggX4_level_X4_find : GoodIn wsX4_level wsX4_find := goodIn_ca (goodIn_r _ [7, 1, 2, 8, 9, 36, 37, 38, 39, 40, 41, 42, 43, 44, 45] (by decide +kernel) (by decide +kernel)) (goodIn_sub (fun _ h => List.mem_cons_of_mem _ (List.mem_append_right _ h)) (by decide +kernel))
set_option maxRecDepth 20000 in
theorem gX4_level_X4_find : GoodIn wsX4_level (wsV RX4 48 RX4 yX4_find wsX4_find) := goodIn_app (goodIn_of _ (by decide +kernel)) ggX4_level_X4_find
set_option maxRecDepth 20000 in
theorem ggX4_level_X4_requireTongue : GoodIn wsX4_level wsX4_requireTongue := goodIn_ca (goodIn_r _ [12, 1, 2] (by decide +kernel) (by decide +kernel)) (goodIn_sub (fun _ h => List.mem_cons_of_mem _ (List.mem_append_right _ h)) (by decide +kernel))
set_option maxRecDepth 20000 in
theorem gX4_level_X4_requireTongue : GoodIn wsX4_level (va_wsS RX4 55 yX4_requireTongue wsX4_requireTongue) := goodIn_app (goodIn_of _ (by decide +kernel)) ggX4_level_X4_requireTongue
set_option maxRecDepth 20000 in
theorem ggX4_level_X0_has : GoodIn wsX4_level wsX0_has := goodIn_r _ [17, 18, 19, 20, 21, 22, 23, 24, 25, 26, 27, 28, 29, 30, 31, 32, 33, 34, 35] (by decide +kernel) (by decide +kernel)
set_option maxRecDepth 20000 in
theorem gX4_level_X0_has : GoodIn wsX4_level (wsV RX4 105 RX0 yX0_has wsX0_has) := goodIn_app (goodIn_of _ (by decide +kernel)) ggX4_level_X0_has
theorem dX4_level_0 : decode cX4_level 0 = .ok (.aload_n 0, 1) := by decide +kernel
theorem dX4_level_1 : decode cX4_level 1 = .ok (.iload_n 1, 1) := by decide +kernel
theorem dX4_level_2 : decode cX4_level 2 = .ok (.invokevirtual 48, 3) := by decide +kernel
theorem dX4_level_5 : decode cX4_level 5 = .ok (.astore 4, 2) := by decide +kernel
theorem dX4_level_7 : decode cX4_level 7 = .ok (.iload_n 2, 1) := by decide +kernel
theorem dX4_level_8 : decode cX4_level 8 = .ok (.invokestatic 55, 3) := by decide +kernel
theorem dX4_level_11 : decode cX4_level 11 = .ok (.iload_n 3, 1) := by decide +kernel
theorem dX4_level_12 : decode cX4_level 12 = .ok (.tableswitch 95 0 5 #[40, 48, 56, 64, 72, 80], 40) := by decide +kernel
theorem dX4_level_52 : decode cX4_level 52 = .ok (.aload 4, 2) := by decide +kernel
theorem dX4_level_54 : decode cX4_level 54 = .ok (.getfield 93, 3) := by decide +kernel
theorem dX4_level_57 : decode cX4_level 57 = .ok (.iload_n 2, 1) := by decide +kernel
theorem dX4_level_58 : decode cX4_level 58 = .ok (.iaload, 1) := by decide +kernel
theorem dX4_level_59 : decode cX4_level 59 = .ok (.ireturn, 1) := by decide +kernel
theorem dX4_level_60 : decode cX4_level 60 = .ok (.aload 4, 2) := by decide +kernel
theorem dX4_level_62 : decode cX4_level 62 = .ok (.getfield 96, 3) := by decide +kernel
theorem dX4_level_65 : decode cX4_level 65 = .ok (.iload_n 2, 1) := by decide +kernel
theorem dX4_level_66 : decode cX4_level 66 = .ok (.iaload, 1) := by decide +kernel
theorem dX4_level_67 : decode cX4_level 67 = .ok (.ireturn, 1) := by decide +kernel
theorem dX4_level_68 : decode cX4_level 68 = .ok (.aload 4, 2) := by decide +kernel
theorem dX4_level_70 : decode cX4_level 70 = .ok (.getfield 65, 3) := by decide +kernel
theorem dX4_level_73 : decode cX4_level 73 = .ok (.iload_n 2, 1) := by decide +kernel
theorem dX4_level_74 : decode cX4_level 74 = .ok (.iaload, 1) := by decide +kernel
theorem dX4_level_75 : decode cX4_level 75 = .ok (.ireturn, 1) := by decide +kernel
theorem dX4_level_76 : decode cX4_level 76 = .ok (.aload 4, 2) := by decide +kernel
theorem dX4_level_78 : decode cX4_level 78 = .ok (.getfield 99, 3) := by decide +kernel
theorem dX4_level_81 : decode cX4_level 81 = .ok (.iload_n 2, 1) := by decide +kernel
theorem dX4_level_82 : decode cX4_level 82 = .ok (.iaload, 1) := by decide +kernel
theorem dX4_level_83 : decode cX4_level 83 = .ok (.ireturn, 1) := by decide +kernel
theorem dX4_level_84 : decode cX4_level 84 = .ok (.aload 4, 2) := by decide +kernel
theorem dX4_level_86 : decode cX4_level 86 = .ok (.getfield 102, 3) := by decide +kernel
theorem dX4_level_89 : decode cX4_level 89 = .ok (.iload_n 2, 1) := by decide +kernel
theorem dX4_level_90 : decode cX4_level 90 = .ok (.iaload, 1) := by decide +kernel
theorem dX4_level_91 : decode cX4_level 91 = .ok (.ireturn, 1) := by decide +kernel
theorem dX4_level_92 : decode cX4_level 92 = .ok (.aload 4, 2) := by decide +kernel
theorem dX4_level_94 : decode cX4_level 94 = .ok (.iload_n 2, 1) := by decide +kernel
theorem dX4_level_95 : decode cX4_level 95 = .ok (.invokevirtual 105, 3) := by decide +kernel
theorem dX4_level_98 : decode cX4_level 98 = .ok (.ifCond .eq 7, 3) := by decide +kernel
theorem dX4_level_101 : decode cX4_level 101 = .ok (.iconst 1, 1) := by decide +kernel
theorem dX4_level_102 : decode cX4_level 102 = .ok (.goto 4, 3) := by decide +kernel
theorem dX4_level_105 : decode cX4_level 105 = .ok (.iconst 0, 1) := by decide +kernel
theorem dX4_level_106 : decode cX4_level 106 = .ok (.ireturn, 1) := by decide +kernel
theorem dX4_level_107 : decode cX4_level 107 = .ok (.new 108, 3) := by decide +kernel
theorem dX4_level_110 : decode cX4_level 110 = .ok (.dup, 1) := by decide +kernel
theorem dX4_level_111 : decode cX4_level 111 = .ok (.ldc 110, 2) := by decide +kernel
theorem dX4_level_113 : decode cX4_level 113 = .ok (.invokespecial 112, 3) := by decide +kernel
theorem dX4_level_116 : decode cX4_level 116 = .ok (.athrow, 1) := by decide +kernel
set_option maxRecDepth 20000 in
theorem ggX4_gift_X4_requireTwo : GoodIn wsX4_gift wsX4_requireTwo := goodIn_ca (goodIn_r _ [5, 6, 7, 8, 9, 10, 4, 11, 12, 13, 28, 29, 30, 31, 32, 33, 34, 35, 36, 37] (by decide +kernel) (by decide +kernel)) (goodIn_sub (fun _ h => List.mem_cons_of_mem _ (List.mem_append_right _ h)) (by decide +kernel))
set_option maxRecDepth 20000 in
theorem gX4_gift_X4_requireTwo : GoodIn wsX4_gift (wsV RX4 75 RX4 yX4_requireTwo wsX4_requireTwo) := goodIn_app (goodIn_of _ (by decide +kernel)) ggX4_gift_X4_requireTwo
set_option maxRecDepth 20000 in
theorem ggX4_gift_X4_find : GoodIn wsX4_gift wsX4_find := goodIn_ca (goodIn_r _ [11, 6, 7, 12, 13, 28, 29, 30, 31, 32, 33, 34, 35, 36, 37] (by decide +kernel) (by decide +kernel)) (goodIn_sub (fun _ h => List.mem_cons_of_mem _ (List.mem_append_right _ h)) (by decide +kernel))
set_option maxRecDepth 20000 in
theorem gX4_gift_X4_find : GoodIn wsX4_gift (wsV RX4 48 RX4 yX4_find wsX4_find) := goodIn_app (goodIn_of _ (by decide +kernel)) ggX4_gift_X4_find
set_option maxRecDepth 20000 in
theorem ggX4_gift_X0_giftTo : GoodIn wsX4_gift wsX0_giftTo := goodIn_r _ [18, 19, 20, 21, 22, 23, 17, 24, 25, 26, 27, 38, 39, 40, 41, 42, 43, 44, 45, 46, 47, 48, 49, 50, 51, 52] (by decide +kernel) (by decide +kernel)
set_option maxRecDepth 20000 in
theorem gX4_gift_X0_giftTo : GoodIn wsX4_gift (wsV RX4 113 RX0 yX0_giftTo wsX0_giftTo) := goodIn_app (goodIn_of _ (by decide +kernel)) ggX4_gift_X0_giftTo
theorem dX4_gift_0 : decode cX4_gift 0 = .ok (.aload_n 0, 1) := by decide +kernel
theorem dX4_gift_1 : decode cX4_gift 1 = .ok (.iload_n 1, 1) := by decide +kernel
theorem dX4_gift_2 : decode cX4_gift 2 = .ok (.iload_n 2, 1) := by decide +kernel
theorem dX4_gift_3 : decode cX4_gift 3 = .ok (.invokevirtual 75, 3) := by decide +kernel
theorem dX4_gift_6 : decode cX4_gift 6 = .ok (.aload_n 0, 1) := by decide +kernel
theorem dX4_gift_7 : decode cX4_gift 7 = .ok (.iload_n 1, 1) := by decide +kernel
theorem dX4_gift_8 : decode cX4_gift 8 = .ok (.invokevirtual 48, 3) := by decide +kernel
theorem dX4_gift_11 : decode cX4_gift 11 = .ok (.aload_n 0, 1) := by decide +kernel
theorem dX4_gift_12 : decode cX4_gift 12 = .ok (.iload_n 2, 1) := by decide +kernel
theorem dX4_gift_13 : decode cX4_gift 13 = .ok (.invokevirtual 48, 3) := by decide +kernel
theorem dX4_gift_16 : decode cX4_gift 16 = .ok (.invokevirtual 113, 3) := by decide +kernel
theorem dX4_gift_19 : decode cX4_gift 19 = .ok (.ireturn, 1) := by decide +kernel
set_option maxRecDepth 20000 in
theorem ggX4_meet_X4_requireTwo : GoodIn wsX4_meet wsX4_requireTwo := goodIn_ca (goodIn_r _ [5, 6, 7, 8, 9, 10, 4, 11, 12, 13, 32, 33, 34, 35, 36, 37, 38, 39, 40, 41] (by decide +kernel) (by decide +kernel)) (goodIn_sub (fun _ h => List.mem_cons_of_mem _ (List.mem_append_right _ h)) (by decide +kernel))
set_option maxRecDepth 20000 in
theorem gX4_meet_X4_requireTwo : GoodIn wsX4_meet (wsV RX4 75 RX4 yX4_requireTwo wsX4_requireTwo) := goodIn_app (goodIn_of _ (by decide +kernel)) ggX4_meet_X4_requireTwo
set_option maxRecDepth 20000 in
theorem ggX4_meet_X4_commonHours : GoodIn wsX4_meet wsX4_commonHours := goodIn_ca (goodIn_r _ [17, 8, 9, 10, 4, 11, 6, 7, 12, 13, 18, 19, 20, 21, 22, 23, 42, 43, 44, 45, 46, 47, 48, 49, 50, 51, 52, 53, 54, 55, 56, 32, 33, 34, 35, 36, 37, 38, 39, 40, 41] (by decide +kernel) (by decide +kernel)) (goodIn_sub (fun _ h => List.mem_cons_of_mem _ (List.mem_append_right _ h)) (by decide +kernel))
set_option maxRecDepth 20000 in
theorem gX4_meet_X4_commonHours : GoodIn wsX4_meet (wsV RX4 117 RX4 yX4_commonHours wsX4_commonHours) := goodIn_app (goodIn_of _ (by decide +kernel)) ggX4_meet_X4_commonHours
set_option maxRecDepth 20000 in
theorem ggX4_meet_X4_lowestBit : GoodIn wsX4_meet wsX4_lowestBit := goodIn_r _ [26, 27, 28, 29, 30, 31] (by decide +kernel) (by decide +kernel)
set_option maxRecDepth 20000 in
theorem gX4_meet_X4_lowestBit : GoodIn wsX4_meet (va_wsS RX4 121 yX4_lowestBit wsX4_lowestBit) := goodIn_app (goodIn_of _ (by decide +kernel)) ggX4_meet_X4_lowestBit
theorem dX4_meet_0 : decode cX4_meet 0 = .ok (.aload_n 0, 1) := by decide +kernel
theorem dX4_meet_1 : decode cX4_meet 1 = .ok (.iload_n 1, 1) := by decide +kernel
theorem dX4_meet_2 : decode cX4_meet 2 = .ok (.iload_n 2, 1) := by decide +kernel
theorem dX4_meet_3 : decode cX4_meet 3 = .ok (.invokevirtual 75, 3) := by decide +kernel
theorem dX4_meet_6 : decode cX4_meet 6 = .ok (.aload_n 0, 1) := by decide +kernel
theorem dX4_meet_7 : decode cX4_meet 7 = .ok (.iload_n 1, 1) := by decide +kernel
theorem dX4_meet_8 : decode cX4_meet 8 = .ok (.iload_n 2, 1) := by decide +kernel
theorem dX4_meet_9 : decode cX4_meet 9 = .ok (.invokevirtual 117, 3) := by decide +kernel
theorem dX4_meet_12 : decode cX4_meet 12 = .ok (.invokestatic 121, 3) := by decide +kernel
theorem dX4_meet_15 : decode cX4_meet 15 = .ok (.ireturn, 1) := by decide +kernel
set_option maxRecDepth 20000 in
theorem ggX4_ring_X4_find : GoodIn wsX4_ring wsX4_find := goodIn_ca (goodIn_r _ [8, 1, 2, 9, 10, 78, 79, 80, 81, 82, 83, 84, 85, 86, 87] (by decide +kernel) (by decide +kernel)) (goodIn_sub (fun _ h => List.mem_cons_of_mem _ (List.mem_append_right _ h)) (by decide +kernel))
set_option maxRecDepth 20000 in
theorem gX4_ring_X4_find : GoodIn wsX4_ring (wsV RX4 48 RX4 yX4_find wsX4_find) := goodIn_app (goodIn_of _ (by decide +kernel)) ggX4_ring_X4_find
set_option maxRecDepth 20000 in
theorem ggX4_ring_X4_lookAtTies : GoodIn wsX4_ring wsX4_lookAtTies := goodIn_ca (goodIn_r _ [14, 9, 3, 4, 5, 6, 7, 8, 1, 2, 10, 15, 16, 17, 18, 19, 20, 21, 22, 23, 24, 25, 26, 27, 28, 29, 30, 31, 32, 33, 34, 35, 36, 37, 38, 39, 40, 41, 42, 43, 44, 78, 79, 80, 81, 82, 83, 84, 85, 86, 87, 88, 89, 90, 91, 92, 93, 94, 95, 96, 97, 98, 99, 100, 101, 102, 103, 104] (by decide +kernel) (by decide +kernel)) (goodIn_sub (fun _ h => List.mem_cons_of_mem _ (List.mem_append_right _ h)) (by decide +kernel))
set_option maxRecDepth 20000 in
theorem gX4_ring_X4_lookAtTies : GoodIn wsX4_ring (wsV RX4 126 RX4 yX4_lookAtTies wsX4_lookAtTies) := goodIn_app (goodIn_of _ (by decide +kernel)) ggX4_ring_X4_lookAtTies
set_option maxRecDepth 20000 in
theorem ggX4_ring_X3_ringHours : GoodIn wsX4_ring wsX3_ringHours := goodIn_r _ [48, 49, 50, 51, 41, 52, 53, 54, 55, 56, 43, 57, 58, 59, 60, 44, 61, 7, 62, 63, 64, 65, 66, 67, 68, 69, 70, 71, 72, 73, 74, 103, 104] (by decide +kernel) (by decide +kernel)
set_option maxRecDepth 20000 in
theorem gX4_ring_X3_ringHours : GoodIn wsX4_ring (wsV RX4 129 RX3 yX3_ringHours wsX3_ringHours) := goodIn_app (goodIn_of _ (by decide +kernel)) ggX4_ring_X3_ringHours
set_option maxRecDepth 20000 in
theorem ggX4_ring_X4_hourAt : GoodIn wsX4_ring wsX4_hourAt := goodIn_r _ [77] (by decide +kernel) (by decide +kernel)
set_option maxRecDepth 20000 in
theorem gX4_ring_X4_hourAt : GoodIn wsX4_ring (va_wsS RX4 133 yX4_hourAt wsX4_hourAt) := goodIn_app (goodIn_of _ (by decide +kernel)) ggX4_ring_X4_hourAt
theorem dX4_ring_0 : decode cX4_ring 0 = .ok (.aload_n 0, 1) := by decide +kernel
theorem dX4_ring_1 : decode cX4_ring 1 = .ok (.iload_n 1, 1) := by decide +kernel
theorem dX4_ring_2 : decode cX4_ring 2 = .ok (.invokevirtual 48, 3) := by decide +kernel
theorem dX4_ring_5 : decode cX4_ring 5 = .ok (.pop, 1) := by decide +kernel
theorem dX4_ring_6 : decode cX4_ring 6 = .ok (.aload_n 0, 1) := by decide +kernel
theorem dX4_ring_7 : decode cX4_ring 7 = .ok (.iload_n 2, 1) := by decide +kernel
theorem dX4_ring_8 : decode cX4_ring 8 = .ok (.invokevirtual 48, 3) := by decide +kernel
theorem dX4_ring_11 : decode cX4_ring 11 = .ok (.pop, 1) := by decide +kernel
theorem dX4_ring_12 : decode cX4_ring 12 = .ok (.iload_n 3, 1) := by decide +kernel
theorem dX4_ring_13 : decode cX4_ring 13 = .ok (.iconst (-1), 1) := by decide +kernel
theorem dX4_ring_14 : decode cX4_ring 14 = .ok (.if_icmp .eq 9, 3) := by decide +kernel
theorem dX4_ring_17 : decode cX4_ring 17 = .ok (.aload_n 0, 1) := by decide +kernel
theorem dX4_ring_18 : decode cX4_ring 18 = .ok (.iload_n 3, 1) := by decide +kernel
theorem dX4_ring_19 : decode cX4_ring 19 = .ok (.invokevirtual 48, 3) := by decide +kernel
theorem dX4_ring_22 : decode cX4_ring 22 = .ok (.pop, 1) := by decide +kernel
theorem dX4_ring_23 : decode cX4_ring 23 = .ok (.iload_n 3, 1) := by decide +kernel
theorem dX4_ring_24 : decode cX4_ring 24 = .ok (.iconst (-1), 1) := by decide +kernel
theorem dX4_ring_25 : decode cX4_ring 25 = .ok (.if_icmp .ne 7, 3) := by decide +kernel
theorem dX4_ring_28 : decode cX4_ring 28 = .ok (.iconst 1, 1) := by decide +kernel
theorem dX4_ring_29 : decode cX4_ring 29 = .ok (.goto 4, 3) := by decide +kernel
theorem dX4_ring_32 : decode cX4_ring 32 = .ok (.iconst 3, 1) := by decide +kernel
theorem dX4_ring_33 : decode cX4_ring 33 = .ok (.istore 5, 2) := by decide +kernel
theorem dX4_ring_35 : decode cX4_ring 35 = .ok (.iload 4, 2) := by decide +kernel
theorem dX4_ring_37 : decode cX4_ring 37 = .ok (.ifCond .lt 10, 3) := by decide +kernel
theorem dX4_ring_40 : decode cX4_ring 40 = .ok (.iload 4, 2) := by decide +kernel
theorem dX4_ring_42 : decode cX4_ring 42 = .ok (.iload 5, 2) := by decide +kernel
theorem dX4_ring_44 : decode cX4_ring 44 = .ok (.if_icmp .lt 13, 3) := by decide +kernel
theorem dX4_ring_47 : decode cX4_ring 47 = .ok (.new 108, 3) := by decide +kernel
theorem dX4_ring_50 : decode cX4_ring 50 = .ok (.dup, 1) := by decide +kernel
theorem dX4_ring_51 : decode cX4_ring 51 = .ok (.ldc 124, 2) := by decide +kernel
theorem dX4_ring_53 : decode cX4_ring 53 = .ok (.invokespecial 112, 3) := by decide +kernel
theorem dX4_ring_56 : decode cX4_ring 56 = .ok (.athrow, 1) := by decide +kernel
theorem dX4_ring_57 : decode cX4_ring 57 = .ok (.aload_n 0, 1) := by decide +kernel
theorem dX4_ring_58 : decode cX4_ring 58 = .ok (.invokevirtual 126, 3) := by decide +kernel
theorem dX4_ring_61 : decode cX4_ring 61 = .ok (.aload_n 0, 1) := by decide +kernel
theorem dX4_ring_62 : decode cX4_ring 62 = .ok (.getfield 18, 3) := by decide +kernel
theorem dX4_ring_65 : decode cX4_ring 65 = .ok (.iload_n 1, 1) := by decide +kernel
theorem dX4_ring_66 : decode cX4_ring 66 = .ok (.iload_n 2, 1) := by decide +kernel
theorem dX4_ring_67 : decode cX4_ring 67 = .ok (.iload_n 3, 1) := by decide +kernel
theorem dX4_ring_68 : decode cX4_ring 68 = .ok (.invokevirtual 129, 3) := by decide +kernel
theorem dX4_ring_71 : decode cX4_ring 71 = .ok (.istore 6, 2) := by decide +kernel
theorem dX4_ring_73 : decode cX4_ring 73 = .ok (.iload 6, 2) := by decide +kernel
theorem dX4_ring_75 : decode cX4_ring 75 = .ok (.iconst (-1), 1) := by decide +kernel
theorem dX4_ring_76 : decode cX4_ring 76 = .ok (.if_icmp .ne 7, 3) := by decide +kernel
theorem dX4_ring_79 : decode cX4_ring 79 = .ok (.iconst (-1), 1) := by decide +kernel
theorem dX4_ring_80 : decode cX4_ring 80 = .ok (.goto 10, 3) := by decide +kernel
theorem dX4_ring_83 : decode cX4_ring 83 = .ok (.iload 6, 2) := by decide +kernel
theorem dX4_ring_85 : decode cX4_ring 85 = .ok (.iload 4, 2) := by decide +kernel
theorem dX4_ring_87 : decode cX4_ring 87 = .ok (.invokestatic 133, 3) := by decide +kernel
theorem dX4_ring_90 : decode cX4_ring 90 = .ok (.ireturn, 1) := by decide +kernel
set_option maxRecDepth 20000 in
theorem ggX4_week_X4_lookAtTies : GoodIn wsX4_week wsX4_lookAtTies := goodIn_ca (goodIn_r _ [11, 2, 3, 12, 13, 14, 10, 15, 16, 17, 18, 19, 20, 21, 22, 23, 24, 25, 26, 27, 28, 29, 30, 31, 32, 33, 34, 35, 36, 37, 38, 39, 40, 41, 42, 43, 44, 45, 46, 47, 48, 173, 174, 175, 176, 177, 178, 179, 180, 181, 182, 183, 184, 185, 186, 187, 188, 189, 190, 191, 192, 193, 194, 195, 196, 197, 198, 199] (by decide +kernel) (by decide +kernel)) (goodIn_sub (fun _ h => List.mem_cons_of_mem _ (List.mem_append_right _ h)) (by decide +kernel))
set_option maxRecDepth 20000 in
theorem gX4_week_X4_lookAtTies : GoodIn wsX4_week (wsV RX4 126 RX4 yX4_lookAtTies wsX4_lookAtTies) := goodIn_app (goodIn_of _ (by decide +kernel)) ggX4_week_X4_lookAtTies
set_option maxRecDepth 20000 in
theorem ggX4_week_X1_begin : GoodIn wsX4_week wsX1_begin := goodIn_r _ [53, 54, 55, 56, 57, 58, 59, 60, 61, 62, 63, 64, 65, 200, 201, 202, 203, 204, 205, 206, 207, 208, 209] (by decide +kernel) (by decide +kernel)
set_option maxRecDepth 20000 in
theorem gX4_week_X1_begin : GoodIn wsX4_week (wsV RX4 136 RX1 yX1_begin wsX1_begin) := goodIn_app (goodIn_of _ (by decide +kernel)) ggX4_week_X1_begin
set_option maxRecDepth 20000 in
theorem ggX4_week_X4_find : GoodIn wsX4_week wsX4_find := goodIn_ca (goodIn_r _ [15, 16, 17, 2, 18, 173, 174, 175, 176, 177, 178, 179, 180, 181, 182] (by decide +kernel) (by decide +kernel)) (goodIn_sub (fun _ h => List.mem_cons_of_mem _ (List.mem_append_right _ h)) (by decide +kernel))
set_option maxRecDepth 20000 in
theorem gX4_week_X4_find : GoodIn wsX4_week (wsV RX4 48 RX4 yX4_find wsX4_find) := goodIn_app (goodIn_of _ (by decide +kernel)) ggX4_week_X4_find
set_option maxRecDepth 20000 in
theorem ggX4_week_X1_setWeight : GoodIn wsX4_week wsX1_setWeight := goodIn_r _ [69, 70, 200, 201, 202, 203, 204, 205, 206, 207, 208, 209] (by decide +kernel) (by decide +kernel)
set_option maxRecDepth 20000 in
theorem gX4_week_X1_setWeight : GoodIn wsX4_week (wsV RX4 142 RX1 yX1_setWeight wsX1_setWeight) := goodIn_app (goodIn_of _ (by decide +kernel)) ggX4_week_X1_setWeight
set_option maxRecDepth 20000 in
theorem ggX4_week_X1_gather : GoodIn wsX4_week wsX1_gather := goodIn_r _ [74, 61, 75, 62, 76, 77, 78, 52, 79, 70, 80, 81, 82, 83, 84, 85, 86, 45, 87, 47, 88, 89, 90, 91, 92, 93, 94, 95, 96, 97, 98, 99, 100, 48, 101, 10, 102, 103, 104, 105, 106, 107, 108, 109, 110, 111, 112, 113, 114, 200, 201, 202, 203, 204, 205, 206, 207, 208, 209, 198, 199] (by decide +kernel) (by decide +kernel)
set_option maxRecDepth 20000 in
theorem gX4_week_X1_gather : GoodIn wsX4_week (wsV RX4 145 RX1 yX1_gather wsX1_gather) := goodIn_app (goodIn_of _ (by decide +kernel)) ggX4_week_X1_gather
set_option maxRecDepth 20000 in
theorem ggX4_week_X1_choose : GoodIn wsX4_week wsX1_choose := goodIn_r _ [118, 61, 119, 120, 121, 52, 122, 64, 123, 75, 80, 81, 70, 63, 124, 125, 126, 127, 128, 104, 105, 106, 107, 129, 130, 131, 132, 133, 134, 135, 136, 137, 138, 200, 201, 202, 203, 204, 205, 206, 207, 208, 209] (by decide +kernel) (by decide +kernel)
set_option maxRecDepth 20000 in
theorem gX4_week_X1_choose : GoodIn wsX4_week (wsV RX4 149 RX1 yX1_choose wsX1_choose) := goodIn_app (goodIn_of _ (by decide +kernel)) ggX4_week_X1_choose
set_option maxRecDepth 20000 in
theorem ggX4_week_X4_takeRings : GoodIn wsX4_week wsX4_takeRings := goodIn_r _ [142, 143, 1, 144, 145, 146, 52, 147, 64, 123, 62, 124, 125, 126, 127, 63, 148, 149, 150, 10, 151, 3, 152, 153, 101, 102, 103, 104, 105, 106, 107, 154, 89, 90, 45, 91, 92, 93, 94, 95, 96, 85, 86, 87, 47, 97, 98, 99, 100, 48, 108, 109, 110, 111, 112, 113, 114, 155, 156, 157, 158, 159, 160, 161, 173, 174, 175, 176, 177, 178, 179, 180, 181, 182, 200, 201, 202, 203, 204, 205, 206, 207, 208, 209, 198, 199] (by decide +kernel) (by decide +kernel)
set_option maxRecDepth 20000 in
theorem gX4_week_X4_takeRings : GoodIn wsX4_week (wsV RX4 152 RX4 yX4_takeRings wsX4_takeRings) := goodIn_app (goodIn_of _ (by decide +kernel)) ggX4_week_X4_takeRings
set_option maxRecDepth 20000 in
theorem ggX4_week_X4_noteWeek : GoodIn wsX4_week wsX4_noteWeek := goodIn_ca (goodIn_r _ [165, 2, 143, 12, 13, 14, 10, 15, 16, 17, 18, 166, 167, 168, 22, 169, 170, 171, 55, 56, 57, 158, 159, 160, 161, 152, 173, 174, 175, 176, 177, 178, 179, 180, 181, 182, 183, 184, 185, 186, 187, 188, 189, 190, 191, 192, 193, 194, 195, 196, 197] (by decide +kernel) (by decide +kernel)) (goodIn_sub (fun _ h => List.mem_cons_of_mem _ (List.mem_append_right _ h)) (by decide +kernel))
set_option maxRecDepth 20000 in
theorem gX4_week_X4_noteWeek : GoodIn wsX4_week (wsV RX4 155 RX4 yX4_noteWeek wsX4_noteWeek) := goodIn_app (goodIn_of _ (by decide +kernel)) ggX4_week_X4_noteWeek
set_option maxRecDepth 20000 in
theorem ggX4_week_J6_bitCount_0f7a4 : GoodIn wsX4_week wsJ6_bitCount_0f7a4 := goodIn_r _ [135, 136, 137, 138] (by decide +kernel) (by decide +kernel)
set_option maxRecDepth 20000 in
theorem gX4_week_J6_bitCount_0f7a4 : GoodIn wsX4_week (va_wsS RX4 164 yJ6_bitCount_0f7a4 wsJ6_bitCount_0f7a4) := goodIn_app (goodIn_of _ (by decide +kernel)) ggX4_week_J6_bitCount_0f7a4
theorem dX4_week_0 : decode cX4_week 0 = .ok (.aload_n 0, 1) := by decide +kernel
theorem dX4_week_1 : decode cX4_week 1 = .ok (.invokevirtual 126, 3) := by decide +kernel
theorem dX4_week_4 : decode cX4_week 4 = .ok (.aload_n 0, 1) := by decide +kernel
theorem dX4_week_5 : decode cX4_week 5 = .ok (.getfield 25, 3) := by decide +kernel
theorem dX4_week_8 : decode cX4_week 8 = .ok (.aload_n 0, 1) := by decide +kernel
theorem dX4_week_9 : decode cX4_week 9 = .ok (.getfield 40, 3) := by decide +kernel
theorem dX4_week_12 : decode cX4_week 12 = .ok (.invokevirtual 136, 3) := by decide +kernel
theorem dX4_week_15 : decode cX4_week 15 = .ok (.iconst 0, 1) := by decide +kernel
theorem dX4_week_16 : decode cX4_week 16 = .ok (.istore_n 1, 1) := by decide +kernel
theorem dX4_week_17 : decode cX4_week 17 = .ok (.iload_n 1, 1) := by decide +kernel
theorem dX4_week_18 : decode cX4_week 18 = .ok (.aload_n 0, 1) := by decide +kernel
theorem dX4_week_19 : decode cX4_week 19 = .ok (.getfield 40, 3) := by decide +kernel
theorem dX4_week_22 : decode cX4_week 22 = .ok (.if_icmp .ge 27, 3) := by decide +kernel
theorem dX4_week_25 : decode cX4_week 25 = .ok (.aload_n 0, 1) := by decide +kernel
theorem dX4_week_26 : decode cX4_week 26 = .ok (.getfield 25, 3) := by decide +kernel
theorem dX4_week_29 : decode cX4_week 29 = .ok (.iload_n 1, 1) := by decide +kernel
theorem dX4_week_30 : decode cX4_week 30 = .ok (.iconst 1, 1) := by decide +kernel
theorem dX4_week_31 : decode cX4_week 31 = .ok (.aload_n 0, 1) := by decide +kernel
theorem dX4_week_32 : decode cX4_week 32 = .ok (.iload_n 1, 1) := by decide +kernel
theorem dX4_week_33 : decode cX4_week 33 = .ok (.invokevirtual 48, 3) := by decide +kernel
theorem dX4_week_36 : decode cX4_week 36 = .ok (.getfield 139, 3) := by decide +kernel
theorem dX4_week_39 : decode cX4_week 39 = .ok (.iadd, 1) := by decide +kernel
theorem dX4_week_40 : decode cX4_week 40 = .ok (.invokevirtual 142, 3) := by decide +kernel
theorem dX4_week_43 : decode cX4_week 43 = .ok (.iinc 1 1, 3) := by decide +kernel
theorem dX4_week_46 : decode cX4_week 46 = .ok (.goto (-29), 3) := by decide +kernel
theorem dX4_week_49 : decode cX4_week 49 = .ok (.aload_n 0, 1) := by decide +kernel
theorem dX4_week_50 : decode cX4_week 50 = .ok (.getfield 25, 3) := by decide +kernel
theorem dX4_week_53 : decode cX4_week 53 = .ok (.aload_n 0, 1) := by decide +kernel
theorem dX4_week_54 : decode cX4_week 54 = .ok (.getfield 18, 3) := by decide +kernel
theorem dX4_week_57 : decode cX4_week 57 = .ok (.invokevirtual 145, 3) := by decide +kernel
theorem dX4_week_60 : decode cX4_week 60 = .ok (.aload_n 0, 1) := by decide +kernel
theorem dX4_week_61 : decode cX4_week 61 = .ok (.getfield 25, 3) := by decide +kernel
theorem dX4_week_64 : decode cX4_week 64 = .ok (.invokevirtual 149, 3) := by decide +kernel
theorem dX4_week_67 : decode cX4_week 67 = .ok (.iconst 1, 1) := by decide +kernel
theorem dX4_week_68 : decode cX4_week 68 = .ok (.aload_n 0, 1) := by decide +kernel
theorem dX4_week_69 : decode cX4_week 69 = .ok (.getfield 40, 3) := by decide +kernel
theorem dX4_week_72 : decode cX4_week 72 = .ok (.ishl, 1) := by decide +kernel
theorem dX4_week_73 : decode cX4_week 73 = .ok (.iconst 1, 1) := by decide +kernel
theorem dX4_week_74 : decode cX4_week 74 = .ok (.isub, 1) := by decide +kernel
theorem dX4_week_75 : decode cX4_week 75 = .ok (.istore_n 1, 1) := by decide +kernel
theorem dX4_week_76 : decode cX4_week 76 = .ok (.aload_n 0, 1) := by decide +kernel
theorem dX4_week_77 : decode cX4_week 77 = .ok (.iload_n 1, 1) := by decide +kernel
theorem dX4_week_78 : decode cX4_week 78 = .ok (.invokevirtual 152, 3) := by decide +kernel
theorem dX4_week_81 : decode cX4_week 81 = .ok (.istore_n 2, 1) := by decide +kernel
theorem dX4_week_82 : decode cX4_week 82 = .ok (.aload_n 0, 1) := by decide +kernel
theorem dX4_week_83 : decode cX4_week 83 = .ok (.iload_n 2, 1) := by decide +kernel
theorem dX4_week_84 : decode cX4_week 84 = .ok (.invokevirtual 155, 3) := by decide +kernel
theorem dX4_week_87 : decode cX4_week 87 = .ok (.aload_n 0, 1) := by decide +kernel
theorem dX4_week_88 : decode cX4_week 88 = .ok (.dup, 1) := by decide +kernel
theorem dX4_week_89 : decode cX4_week 89 = .ok (.getfield 158, 3) := by decide +kernel
theorem dX4_week_92 : decode cX4_week 92 = .ok (.bipush 7, 2) := by decide +kernel
theorem dX4_week_94 : decode cX4_week 94 = .ok (.iadd, 1) := by decide +kernel
theorem dX4_week_95 : decode cX4_week 95 = .ok (.putfield 158, 3) := by decide +kernel
theorem dX4_week_98 : decode cX4_week 98 = .ok (.aload_n 0, 1) := by decide +kernel
theorem dX4_week_99 : decode cX4_week 99 = .ok (.dup, 1) := by decide +kernel
theorem dX4_week_100 : decode cX4_week 100 = .ok (.getfield 161, 3) := by decide +kernel
theorem dX4_week_103 : decode cX4_week 103 = .ok (.iconst 1, 1) := by decide +kernel
theorem dX4_week_104 : decode cX4_week 104 = .ok (.iadd, 1) := by decide +kernel
theorem dX4_week_105 : decode cX4_week 105 = .ok (.putfield 161, 3) := by decide +kernel
theorem dX4_week_108 : decode cX4_week 108 = .ok (.iload_n 2, 1) := by decide +kernel
theorem dX4_week_109 : decode cX4_week 109 = .ok (.invokestatic 164, 3) := by decide +kernel
theorem dX4_week_112 : decode cX4_week 112 = .ok (.istore_n 3, 1) := by decide +kernel
theorem dX4_week_113 : decode cX4_week 113 = .ok (.aload_n 0, 1) := by decide +kernel
theorem dX4_week_114 : decode cX4_week 114 = .ok (.dup, 1) := by decide +kernel
theorem dX4_week_115 : decode cX4_week 115 = .ok (.getfield 169, 3) := by decide +kernel
theorem dX4_week_118 : decode cX4_week 118 = .ok (.iload_n 3, 1) := by decide +kernel
theorem dX4_week_119 : decode cX4_week 119 = .ok (.iadd, 1) := by decide +kernel
theorem dX4_week_120 : decode cX4_week 120 = .ok (.putfield 169, 3) := by decide +kernel
theorem dX4_week_123 : decode cX4_week 123 = .ok (.iload_n 3, 1) := by decide +kernel
theorem dX4_week_124 : decode cX4_week 124 = .ok (.ireturn, 1) := by decide +kernel
theorem dX4_rings_0 : decode cX4_rings 0 = .ok (.aload_n 0, 1) := by decide +kernel
theorem dX4_rings_1 : decode cX4_rings 1 = .ok (.getfield 172, 3) := by decide +kernel
theorem dX4_rings_4 : decode cX4_rings 4 = .ok (.ireturn, 1) := by decide +kernel
theorem dX4_ringOf_0 : decode cX4_ringOf 0 = .ok (.iload_n 1, 1) := by decide +kernel
theorem dX4_ringOf_1 : decode cX4_ringOf 1 = .ok (.ifCond .lt 11, 3) := by decide +kernel
theorem dX4_ringOf_4 : decode cX4_ringOf 4 = .ok (.iload_n 1, 1) := by decide +kernel
theorem dX4_ringOf_5 : decode cX4_ringOf 5 = .ok (.aload_n 0, 1) := by decide +kernel
theorem dX4_ringOf_6 : decode cX4_ringOf 6 = .ok (.getfield 172, 3) := by decide +kernel
theorem dX4_ringOf_9 : decode cX4_ringOf 9 = .ok (.if_icmp .lt 13, 3) := by decide +kernel
theorem dX4_ringOf_12 : decode cX4_ringOf 12 = .ok (.new 108, 3) := by decide +kernel
theorem dX4_ringOf_15 : decode cX4_ringOf 15 = .ok (.dup, 1) := by decide +kernel
theorem dX4_ringOf_16 : decode cX4_ringOf 16 = .ok (.ldc 175, 2) := by decide +kernel
theorem dX4_ringOf_18 : decode cX4_ringOf 18 = .ok (.invokespecial 112, 3) := by decide +kernel
theorem dX4_ringOf_21 : decode cX4_ringOf 21 = .ok (.athrow, 1) := by decide +kernel
theorem dX4_ringOf_22 : decode cX4_ringOf 22 = .ok (.iload_n 2, 1) := by decide +kernel
theorem dX4_ringOf_23 : decode cX4_ringOf 23 = .ok (.ifCond .lt 9, 3) := by decide +kernel
theorem dX4_ringOf_26 : decode cX4_ringOf 26 = .ok (.iload_n 2, 1) := by decide +kernel
theorem dX4_ringOf_27 : decode cX4_ringOf 27 = .ok (.bipush 6, 2) := by decide +kernel
theorem dX4_ringOf_29 : decode cX4_ringOf 29 = .ok (.if_icmp .lt 13, 3) := by decide +kernel
theorem dX4_ringOf_32 : decode cX4_ringOf 32 = .ok (.new 108, 3) := by decide +kernel
theorem dX4_ringOf_35 : decode cX4_ringOf 35 = .ok (.dup, 1) := by decide +kernel
theorem dX4_ringOf_36 : decode cX4_ringOf 36 = .ok (.ldc 177, 2) := by decide +kernel
theorem dX4_ringOf_38 : decode cX4_ringOf 38 = .ok (.invokespecial 112, 3) := by decide +kernel
theorem dX4_ringOf_41 : decode cX4_ringOf 41 = .ok (.athrow, 1) := by decide +kernel
theorem dX4_ringOf_42 : decode cX4_ringOf 42 = .ok (.aload_n 0, 1) := by decide +kernel
theorem dX4_ringOf_43 : decode cX4_ringOf 43 = .ok (.getfield 36, 3) := by decide +kernel
theorem dX4_ringOf_46 : decode cX4_ringOf 46 = .ok (.iload_n 1, 1) := by decide +kernel
theorem dX4_ringOf_47 : decode cX4_ringOf 47 = .ok (.bipush 6, 2) := by decide +kernel
theorem dX4_ringOf_49 : decode cX4_ringOf 49 = .ok (.imul, 1) := by decide +kernel
theorem dX4_ringOf_50 : decode cX4_ringOf 50 = .ok (.iload_n 2, 1) := by decide +kernel
theorem dX4_ringOf_51 : decode cX4_ringOf 51 = .ok (.iadd, 1) := by decide +kernel
theorem dX4_ringOf_52 : decode cX4_ringOf 52 = .ok (.iaload, 1) := by decide +kernel
theorem dX4_ringOf_53 : decode cX4_ringOf 53 = .ok (.ireturn, 1) := by decide +kernel
set_option maxRecDepth 20000 in
theorem ggX4_missed_X4_find : GoodIn wsX4_missed wsX4_find := goodIn_ca (goodIn_r _ [6, 7, 8, 1, 9, 35, 36, 37, 38, 39, 40, 41, 42, 43, 44] (by decide +kernel) (by decide +kernel)) (goodIn_sub (fun _ h => List.mem_cons_of_mem _ (List.mem_append_right _ h)) (by decide +kernel))
set_option maxRecDepth 20000 in
theorem gX4_missed_X4_find : GoodIn wsX4_missed (wsV RX4 48 RX4 yX4_find wsX4_find) := goodIn_app (goodIn_of _ (by decide +kernel)) ggX4_missed_X4_find
set_option maxRecDepth 20000 in
theorem ggX4_missed_X0_waitLonger : GoodIn wsX4_missed wsX0_waitLonger := goodIn_r _ [14, 15, 16, 17, 18, 19, 20, 21, 22, 23, 24, 25, 26, 27, 28, 29, 30, 31, 32, 33, 34] (by decide +kernel) (by decide +kernel)
set_option maxRecDepth 20000 in
theorem gX4_missed_X0_waitLonger : GoodIn wsX4_missed (wsV RX4 186 RX0 yX0_waitLonger wsX0_waitLonger) := goodIn_app (goodIn_of _ (by decide +kernel)) ggX4_missed_X0_waitLonger
theorem dX4_missed_0 : decode cX4_missed 0 = .ok (.aload_n 0, 1) := by decide +kernel
theorem dX4_missed_1 : decode cX4_missed 1 = .ok (.iload_n 1, 1) := by decide +kernel
theorem dX4_missed_2 : decode cX4_missed 2 = .ok (.invokevirtual 48, 3) := by decide +kernel
theorem dX4_missed_5 : decode cX4_missed 5 = .ok (.astore_n 2, 1) := by decide +kernel
theorem dX4_missed_6 : decode cX4_missed 6 = .ok (.aload_n 2, 1) := by decide +kernel
theorem dX4_missed_7 : decode cX4_missed 7 = .ok (.getfield 179, 3) := by decide +kernel
theorem dX4_missed_10 : decode cX4_missed 10 = .ok (.ifCond .eq 10, 3) := by decide +kernel
theorem dX4_missed_13 : decode cX4_missed 13 = .ok (.aload_n 2, 1) := by decide +kernel
theorem dX4_missed_14 : decode cX4_missed 14 = .ok (.getfield 182, 3) := by decide +kernel
theorem dX4_missed_17 : decode cX4_missed 17 = .ok (.ifCond .eq 5, 3) := by decide +kernel
theorem dX4_missed_20 : decode cX4_missed 20 = .ok (.iconst 0, 1) := by decide +kernel
theorem dX4_missed_21 : decode cX4_missed 21 = .ok (.ireturn, 1) := by decide +kernel
theorem dX4_missed_22 : decode cX4_missed 22 = .ok (.aload_n 2, 1) := by decide +kernel
theorem dX4_missed_23 : decode cX4_missed 23 = .ok (.iconst 1, 1) := by decide +kernel
theorem dX4_missed_24 : decode cX4_missed 24 = .ok (.putfield 182, 3) := by decide +kernel
theorem dX4_missed_27 : decode cX4_missed 27 = .ok (.iconst 0, 1) := by decide +kernel
theorem dX4_missed_28 : decode cX4_missed 28 = .ok (.istore_n 3, 1) := by decide +kernel
theorem dX4_missed_29 : decode cX4_missed 29 = .ok (.iload_n 3, 1) := by decide +kernel
theorem dX4_missed_30 : decode cX4_missed 30 = .ok (.aload_n 0, 1) := by decide +kernel
theorem dX4_missed_31 : decode cX4_missed 31 = .ok (.getfield 40, 3) := by decide +kernel
theorem dX4_missed_34 : decode cX4_missed 34 = .ok (.if_icmp .ge 29, 3) := by decide +kernel
theorem dX4_missed_37 : decode cX4_missed 37 = .ok (.aload_n 2, 1) := by decide +kernel
theorem dX4_missed_38 : decode cX4_missed 38 = .ok (.getfield 179, 3) := by decide +kernel
theorem dX4_missed_41 : decode cX4_missed 41 = .ok (.iload_n 3, 1) := by decide +kernel
theorem dX4_missed_42 : decode cX4_missed 42 = .ok (.ishr, 1) := by decide +kernel
theorem dX4_missed_43 : decode cX4_missed 43 = .ok (.iconst 1, 1) := by decide +kernel
theorem dX4_missed_44 : decode cX4_missed 44 = .ok (.iand, 1) := by decide +kernel
theorem dX4_missed_45 : decode cX4_missed 45 = .ok (.ifCond .eq 12, 3) := by decide +kernel
theorem dX4_missed_48 : decode cX4_missed 48 = .ok (.aload_n 0, 1) := by decide +kernel
theorem dX4_missed_49 : decode cX4_missed 49 = .ok (.iload_n 3, 1) := by decide +kernel
theorem dX4_missed_50 : decode cX4_missed 50 = .ok (.invokevirtual 48, 3) := by decide +kernel
theorem dX4_missed_53 : decode cX4_missed 53 = .ok (.iconst 3, 1) := by decide +kernel
theorem dX4_missed_54 : decode cX4_missed 54 = .ok (.invokevirtual 186, 3) := by decide +kernel
theorem dX4_missed_57 : decode cX4_missed 57 = .ok (.iinc 3 1, 3) := by decide +kernel
theorem dX4_missed_60 : decode cX4_missed 60 = .ok (.goto (-31), 3) := by decide +kernel
theorem dX4_missed_63 : decode cX4_missed 63 = .ok (.iconst 1, 1) := by decide +kernel
theorem dX4_missed_64 : decode cX4_missed 64 = .ok (.ireturn, 1) := by decide +kernel
set_option maxRecDepth 20000 in
theorem ggX4_waited_X4_find : GoodIn wsX4_waited wsX4_find := goodIn_ca (goodIn_r _ [5, 6, 7, 8, 9, 25, 26, 27, 28, 29, 30, 31, 32, 33, 34] (by decide +kernel) (by decide +kernel)) (goodIn_sub (fun _ h => List.mem_cons_of_mem _ (List.mem_append_right _ h)) (by decide +kernel))
set_option maxRecDepth 20000 in
theorem gX4_waited_X4_find : GoodIn wsX4_waited (wsV RX4 48 RX4 yX4_find wsX4_find) := goodIn_app (goodIn_of _ (by decide +kernel)) ggX4_waited_X4_find
theorem dX4_waited_0 : decode cX4_waited 0 = .ok (.aload_n 0, 1) := by decide +kernel
theorem dX4_waited_1 : decode cX4_waited 1 = .ok (.iload_n 1, 1) := by decide +kernel
theorem dX4_waited_2 : decode cX4_waited 2 = .ok (.invokevirtual 48, 3) := by decide +kernel
theorem dX4_waited_5 : decode cX4_waited 5 = .ok (.getfield 139, 3) := by decide +kernel
theorem dX4_waited_8 : decode cX4_waited 8 = .ok (.ireturn, 1) := by decide +kernel
theorem dX4_days_0 : decode cX4_days 0 = .ok (.iload_n 1, 1) := by decide +kernel
theorem dX4_days_1 : decode cX4_days 1 = .ok (.ifCond .lt 10, 3) := by decide +kernel
theorem dX4_days_4 : decode cX4_days 4 = .ok (.iload_n 1, 1) := by decide +kernel
theorem dX4_days_5 : decode cX4_days 5 = .ok (.sipush 1000, 3) := by decide +kernel
theorem dX4_days_8 : decode cX4_days 8 = .ok (.if_icmp .le 13, 3) := by decide +kernel
theorem dX4_days_11 : decode cX4_days 11 = .ok (.new 58, 3) := by decide +kernel
theorem dX4_days_14 : decode cX4_days 14 = .ok (.dup, 1) := by decide +kernel
theorem dX4_days_15 : decode cX4_days 15 = .ok (.ldc 189, 2) := by decide +kernel
theorem dX4_days_17 : decode cX4_days 17 = .ok (.invokespecial 62, 3) := by decide +kernel
theorem dX4_days_20 : decode cX4_days 20 = .ok (.athrow, 1) := by decide +kernel
theorem dX4_days_21 : decode cX4_days 21 = .ok (.aload_n 0, 1) := by decide +kernel
theorem dX4_days_22 : decode cX4_days 22 = .ok (.dup, 1) := by decide +kernel
theorem dX4_days_23 : decode cX4_days 23 = .ok (.getfield 158, 3) := by decide +kernel
theorem dX4_days_26 : decode cX4_days 26 = .ok (.iload_n 1, 1) := by decide +kernel
theorem dX4_days_27 : decode cX4_days 27 = .ok (.iadd, 1) := by decide +kernel
theorem dX4_days_28 : decode cX4_days 28 = .ok (.putfield 158, 3) := by decide +kernel
theorem dX4_days_31 : decode cX4_days 31 = .ok (.aload_n 0, 1) := by decide +kernel
theorem dX4_days_32 : decode cX4_days 32 = .ok (.getfield 158, 3) := by decide +kernel
theorem dX4_days_35 : decode cX4_days 35 = .ok (.ireturn, 1) := by decide +kernel
set_option maxRecDepth 20000 in
theorem ggX4_word_X4_find : GoodIn wsX4_word wsX4_find := goodIn_ca (goodIn_r _ [6, 7, 8, 9, 10, 19, 20, 21, 22, 23, 24, 25, 26, 27, 28] (by decide +kernel) (by decide +kernel)) (goodIn_sub (fun _ h => List.mem_cons_of_mem _ (List.mem_append_right _ h)) (by decide +kernel))
set_option maxRecDepth 20000 in
theorem gX4_word_X4_find : GoodIn wsX4_word (wsV RX4 48 RX4 yX4_find wsX4_find) := goodIn_app (goodIn_of _ (by decide +kernel)) ggX4_word_X4_find
set_option maxRecDepth 20000 in
theorem ggX4_word_X0_addWord : GoodIn wsX4_word wsX0_addWord := goodIn_r _ [15, 16, 17, 18, 29, 30, 31, 32, 33, 34, 35, 36, 37, 38, 39, 40, 41, 42, 43] (by decide +kernel) (by decide +kernel)
set_option maxRecDepth 20000 in
theorem gX4_word_X0_addWord : GoodIn wsX4_word (wsV RX4 191 RX0 yX0_addWord wsX0_addWord) := goodIn_app (goodIn_of _ (by decide +kernel)) ggX4_word_X0_addWord
theorem dX4_word_0 : decode cX4_word 0 = .ok (.aload_n 0, 1) := by decide +kernel
theorem dX4_word_1 : decode cX4_word 1 = .ok (.iload_n 1, 1) := by decide +kernel
theorem dX4_word_2 : decode cX4_word 2 = .ok (.invokevirtual 48, 3) := by decide +kernel
theorem dX4_word_5 : decode cX4_word 5 = .ok (.aload_n 0, 1) := by decide +kernel
theorem dX4_word_6 : decode cX4_word 6 = .ok (.getfield 158, 3) := by decide +kernel
theorem dX4_word_9 : decode cX4_word 9 = .ok (.invokevirtual 191, 3) := by decide +kernel
theorem dX4_word_12 : decode cX4_word 12 = .ok (.ireturn, 1) := by decide +kernel
set_option maxRecDepth 20000 in
theorem ggX4_asked_X4_find : GoodIn wsX4_asked wsX4_find := goodIn_ca (goodIn_r _ [6, 7, 8, 9, 10, 25, 26, 27, 28, 29, 30, 31, 32, 33, 34] (by decide +kernel) (by decide +kernel)) (goodIn_sub (fun _ h => List.mem_cons_of_mem _ (List.mem_append_right _ h)) (by decide +kernel))
set_option maxRecDepth 20000 in
theorem gX4_asked_X4_find : GoodIn wsX4_asked (wsV RX4 48 RX4 yX4_find wsX4_find) := goodIn_app (goodIn_of _ (by decide +kernel)) ggX4_asked_X4_find
set_option maxRecDepth 20000 in
theorem ggX4_asked_X4_requireWord : GoodIn wsX4_asked wsX4_requireWord := goodIn_ca (goodIn_r _ [13, 7, 8, 35, 36, 37, 38, 39, 40, 41, 42, 43, 44, 45, 46, 47, 48, 49] (by decide +kernel) (by decide +kernel)) (goodIn_sub (fun _ h => List.mem_cons_of_mem _ (List.mem_append_right _ h)) (by decide +kernel))
set_option maxRecDepth 20000 in
theorem gX4_asked_X4_requireWord : GoodIn wsX4_asked (va_wsS RX4 194 yX4_requireWord wsX4_requireWord) := goodIn_app (goodIn_of _ (by decide +kernel)) ggX4_asked_X4_requireWord
set_option maxRecDepth 20000 in
theorem ggX4_asked_X0_answerWord : GoodIn wsX4_asked wsX0_answerWord := goodIn_r _ [18, 19, 20, 21, 22, 23, 24, 35, 36, 37, 38, 39, 40, 41, 42, 43, 44, 45, 46, 47, 48, 49] (by decide +kernel) (by decide +kernel)
set_option maxRecDepth 20000 in
theorem gX4_asked_X0_answerWord : GoodIn wsX4_asked (wsV RX4 198 RX0 yX0_answerWord wsX0_answerWord) := goodIn_app (goodIn_of _ (by decide +kernel)) ggX4_asked_X0_answerWord
theorem dX4_asked_0 : decode cX4_asked 0 = .ok (.aload_n 0, 1) := by decide +kernel
theorem dX4_asked_1 : decode cX4_asked 1 = .ok (.iload_n 1, 1) := by decide +kernel
theorem dX4_asked_2 : decode cX4_asked 2 = .ok (.invokevirtual 48, 3) := by decide +kernel
theorem dX4_asked_5 : decode cX4_asked 5 = .ok (.astore 4, 2) := by decide +kernel
theorem dX4_asked_7 : decode cX4_asked 7 = .ok (.aload 4, 2) := by decide +kernel
theorem dX4_asked_9 : decode cX4_asked 9 = .ok (.iload_n 2, 1) := by decide +kernel
theorem dX4_asked_10 : decode cX4_asked 10 = .ok (.invokestatic 194, 3) := by decide +kernel
theorem dX4_asked_13 : decode cX4_asked 13 = .ok (.aload 4, 2) := by decide +kernel
theorem dX4_asked_15 : decode cX4_asked 15 = .ok (.iload_n 2, 1) := by decide +kernel
theorem dX4_asked_16 : decode cX4_asked 16 = .ok (.iload_n 3, 1) := by decide +kernel
theorem dX4_asked_17 : decode cX4_asked 17 = .ok (.aload_n 0, 1) := by decide +kernel
theorem dX4_asked_18 : decode cX4_asked 18 = .ok (.getfield 158, 3) := by decide +kernel
theorem dX4_asked_21 : decode cX4_asked 21 = .ok (.invokevirtual 198, 3) := by decide +kernel
theorem dX4_asked_24 : decode cX4_asked 24 = .ok (.ireturn, 1) := by decide +kernel
set_option maxRecDepth 20000 in
theorem ggX4_wordOf_X4_find : GoodIn wsX4_wordOf wsX4_find := goodIn_ca (goodIn_r _ [7, 1, 2, 8, 9, 28, 29, 30, 31, 32, 33, 34, 35, 36, 37] (by decide +kernel) (by decide +kernel)) (goodIn_sub (fun _ h => List.mem_cons_of_mem _ (List.mem_append_right _ h)) (by decide +kernel))
set_option maxRecDepth 20000 in
theorem gX4_wordOf_X4_find : GoodIn wsX4_wordOf (wsV RX4 48 RX4 yX4_find wsX4_find) := goodIn_app (goodIn_of _ (by decide +kernel)) ggX4_wordOf_X4_find
set_option maxRecDepth 20000 in
theorem ggX4_wordOf_X4_requireWord : GoodIn wsX4_wordOf wsX4_requireWord := goodIn_ca (goodIn_r _ [12, 1, 2, 13, 14, 15, 16, 17, 18, 19, 20, 21, 22, 23, 24, 25, 26, 27] (by decide +kernel) (by decide +kernel)) (goodIn_sub (fun _ h => List.mem_cons_of_mem _ (List.mem_append_right _ h)) (by decide +kernel))
set_option maxRecDepth 20000 in
theorem gX4_wordOf_X4_requireWord : GoodIn wsX4_wordOf (va_wsS RX4 194 yX4_requireWord wsX4_requireWord) := goodIn_app (goodIn_of _ (by decide +kernel)) ggX4_wordOf_X4_requireWord
theorem dX4_wordOf_0 : decode cX4_wordOf 0 = .ok (.aload_n 0, 1) := by decide +kernel
theorem dX4_wordOf_1 : decode cX4_wordOf 1 = .ok (.iload_n 1, 1) := by decide +kernel
theorem dX4_wordOf_2 : decode cX4_wordOf 2 = .ok (.invokevirtual 48, 3) := by decide +kernel
theorem dX4_wordOf_5 : decode cX4_wordOf 5 = .ok (.astore 4, 2) := by decide +kernel
theorem dX4_wordOf_7 : decode cX4_wordOf 7 = .ok (.aload 4, 2) := by decide +kernel
theorem dX4_wordOf_9 : decode cX4_wordOf 9 = .ok (.iload_n 2, 1) := by decide +kernel
theorem dX4_wordOf_10 : decode cX4_wordOf 10 = .ok (.invokestatic 194, 3) := by decide +kernel
theorem dX4_wordOf_13 : decode cX4_wordOf 13 = .ok (.iload_n 3, 1) := by decide +kernel
theorem dX4_wordOf_14 : decode cX4_wordOf 14 = .ok (.lookupswitch 42 #[(0, 26), (1, 34)], 26) := by decide +kernel
theorem dX4_wordOf_40 : decode cX4_wordOf 40 = .ok (.aload 4, 2) := by decide +kernel
theorem dX4_wordOf_42 : decode cX4_wordOf 42 = .ok (.getfield 202, 3) := by decide +kernel
theorem dX4_wordOf_45 : decode cX4_wordOf 45 = .ok (.iload_n 2, 1) := by decide +kernel
theorem dX4_wordOf_46 : decode cX4_wordOf 46 = .ok (.iaload, 1) := by decide +kernel
theorem dX4_wordOf_47 : decode cX4_wordOf 47 = .ok (.ireturn, 1) := by decide +kernel
theorem dX4_wordOf_48 : decode cX4_wordOf 48 = .ok (.aload 4, 2) := by decide +kernel
theorem dX4_wordOf_50 : decode cX4_wordOf 50 = .ok (.getfield 205, 3) := by decide +kernel
theorem dX4_wordOf_53 : decode cX4_wordOf 53 = .ok (.iload_n 2, 1) := by decide +kernel
theorem dX4_wordOf_54 : decode cX4_wordOf 54 = .ok (.iaload, 1) := by decide +kernel
theorem dX4_wordOf_55 : decode cX4_wordOf 55 = .ok (.ireturn, 1) := by decide +kernel
theorem dX4_wordOf_56 : decode cX4_wordOf 56 = .ok (.new 108, 3) := by decide +kernel
theorem dX4_wordOf_59 : decode cX4_wordOf 59 = .ok (.dup, 1) := by decide +kernel
theorem dX4_wordOf_60 : decode cX4_wordOf 60 = .ok (.ldc 208, 2) := by decide +kernel
theorem dX4_wordOf_62 : decode cX4_wordOf 62 = .ok (.invokespecial 112, 3) := by decide +kernel
theorem dX4_wordOf_65 : decode cX4_wordOf 65 = .ok (.athrow, 1) := by decide +kernel
set_option maxRecDepth 20000 in
theorem ggX4_next_X4_find : GoodIn wsX4_next wsX4_find := goodIn_ca (goodIn_r _ [6, 7, 8, 9, 10, 18, 19, 20, 21, 22, 23, 24, 25, 26, 27] (by decide +kernel) (by decide +kernel)) (goodIn_sub (fun _ h => List.mem_cons_of_mem _ (List.mem_append_right _ h)) (by decide +kernel))
set_option maxRecDepth 20000 in
theorem gX4_next_X4_find : GoodIn wsX4_next (wsV RX4 48 RX4 yX4_find wsX4_find) := goodIn_app (goodIn_of _ (by decide +kernel)) ggX4_next_X4_find
set_option maxRecDepth 20000 in
theorem ggX4_next_X0_firstDue : GoodIn wsX4_next wsX0_firstDue := goodIn_r _ [15, 16, 17, 28, 29, 30, 31, 32, 33, 34, 35, 36, 37, 38, 39, 40, 41, 42] (by decide +kernel) (by decide +kernel)
set_option maxRecDepth 20000 in
theorem gX4_next_X0_firstDue : GoodIn wsX4_next (wsV RX4 210 RX0 yX0_firstDue wsX0_firstDue) := goodIn_app (goodIn_of _ (by decide +kernel)) ggX4_next_X0_firstDue
theorem dX4_next_0 : decode cX4_next 0 = .ok (.aload_n 0, 1) := by decide +kernel
theorem dX4_next_1 : decode cX4_next 1 = .ok (.iload_n 1, 1) := by decide +kernel
theorem dX4_next_2 : decode cX4_next 2 = .ok (.invokevirtual 48, 3) := by decide +kernel
theorem dX4_next_5 : decode cX4_next 5 = .ok (.aload_n 0, 1) := by decide +kernel
theorem dX4_next_6 : decode cX4_next 6 = .ok (.getfield 158, 3) := by decide +kernel
theorem dX4_next_9 : decode cX4_next 9 = .ok (.invokevirtual 210, 3) := by decide +kernel
theorem dX4_next_12 : decode cX4_next 12 = .ok (.ireturn, 1) := by decide +kernel
set_option maxRecDepth 20000 in
theorem ggX4_feed_X2_hasRoom : GoodIn wsX4_feed wsX2_hasRoom := goodIn_r _ [6, 7, 23, 24, 25, 26, 27, 28, 29, 30] (by decide +kernel) (by decide +kernel)
set_option maxRecDepth 20000 in
theorem gX4_feed_X2_hasRoom : GoodIn wsX4_feed (wsV RX4 213 RX2 yX2_hasRoom wsX2_hasRoom) := goodIn_app (goodIn_of _ (by decide +kernel)) ggX4_feed_X2_hasRoom
set_option maxRecDepth 20000 in
theorem ggX4_feed_X2_append : GoodIn wsX4_feed wsX2_append := goodIn_r _ [11, 7, 12, 23, 24, 25, 26, 27, 28, 29, 30] (by decide +kernel) (by decide +kernel)
set_option maxRecDepth 20000 in
theorem gX4_feed_X2_append : GoodIn wsX4_feed (wsV RX4 217 RX2 yX2_append wsX2_append) := goodIn_app (goodIn_of _ (by decide +kernel)) ggX4_feed_X2_append
theorem dX4_feed_0 : decode cX4_feed 0 = .ok (.aload_n 0, 1) := by decide +kernel
theorem dX4_feed_1 : decode cX4_feed 1 = .ok (.getfield 32, 3) := by decide +kernel
theorem dX4_feed_4 : decode cX4_feed 4 = .ok (.invokevirtual 213, 3) := by decide +kernel
theorem dX4_feed_7 : decode cX4_feed 7 = .ok (.ifCond .ne 5, 3) := by decide +kernel
theorem dX4_feed_10 : decode cX4_feed 10 = .ok (.iconst (-1), 1) := by decide +kernel
theorem dX4_feed_11 : decode cX4_feed 11 = .ok (.ireturn, 1) := by decide +kernel
theorem dX4_feed_12 : decode cX4_feed 12 = .ok (.aload_n 0, 1) := by decide +kernel
theorem dX4_feed_13 : decode cX4_feed 13 = .ok (.getfield 32, 3) := by decide +kernel
theorem dX4_feed_16 : decode cX4_feed 16 = .ok (.iload_n 1, 1) := by decide +kernel
