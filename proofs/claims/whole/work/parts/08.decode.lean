/-! decode rows, printed by the kit's program -/
theorem dX0_answer_0 : decode cX0_answer 0 = .ok (.iload_n 1, 1) := by decide +kernel
theorem dX0_answer_1 : decode cX0_answer 1 = .ok (.ifCond .eq 10, 3) := by decide +kernel
theorem dX0_answer_4 : decode cX0_answer 4 = .ok (.iload_n 1, 1) := by decide +kernel
theorem dX0_answer_5 : decode cX0_answer 5 = .ok (.iconst 1, 1) := by decide +kernel
theorem dX0_answer_6 : decode cX0_answer 6 = .ok (.if_icmp .eq 5, 3) := by decide +kernel
theorem dX0_answer_9 : decode cX0_answer 9 = .ok (.iconst (-1), 1) := by decide +kernel
theorem dX0_answer_10 : decode cX0_answer 10 = .ok (.ireturn, 1) := by decide +kernel
theorem dX0_answer_11 : decode cX0_answer 11 = .ok (.aload_n 0, 1) := by decide +kernel
theorem dX0_answer_12 : decode cX0_answer 12 = .ok (.iload_n 2, 1) := by decide +kernel
theorem dX0_answer_13 : decode cX0_answer 13 = .ok (.invokevirtual 19, 3) := by decide +kernel
theorem dX0_answer_16 : decode cX0_answer 16 = .ok (.iload_n 1, 1) := by decide +kernel
theorem dX0_answer_17 : decode cX0_answer 17 = .ok (.ifCond .ne 10, 3) := by decide +kernel
theorem dX0_answer_20 : decode cX0_answer 20 = .ok (.aload_n 0, 1) := by decide +kernel
theorem dX0_answer_21 : decode cX0_answer 21 = .ok (.getfield 23, 3) := by decide +kernel
theorem dX0_answer_24 : decode cX0_answer 24 = .ok (.goto 7, 3) := by decide +kernel
theorem dX0_answer_27 : decode cX0_answer 27 = .ok (.aload_n 0, 1) := by decide +kernel
theorem dX0_answer_28 : decode cX0_answer 28 = .ok (.getfield 27, 3) := by decide +kernel
theorem dX0_answer_31 : decode cX0_answer 31 = .ok (.ireturn, 1) := by decide +kernel
theorem dX0_seek_0 : decode cX0_seek 0 = .ok (.aload_n 0, 1) := by decide +kernel
theorem dX0_seek_1 : decode cX0_seek 1 = .ok (.getfield 9, 3) := by decide +kernel
theorem dX0_seek_4 : decode cX0_seek 4 = .ok (.invokevirtual 30, 3) := by decide +kernel
theorem dX0_seek_7 : decode cX0_seek 7 = .ok (.istore_n 2, 1) := by decide +kernel
theorem dX0_seek_8 : decode cX0_seek 8 = .ok (.aload_n 0, 1) := by decide +kernel
theorem dX0_seek_9 : decode cX0_seek 9 = .ok (.bipush (-4), 2) := by decide +kernel
theorem dX0_seek_11 : decode cX0_seek 11 = .ok (.putfield 23, 3) := by decide +kernel
theorem dX0_seek_14 : decode cX0_seek 14 = .ok (.aload_n 0, 1) := by decide +kernel
theorem dX0_seek_15 : decode cX0_seek 15 = .ok (.bipush (-4), 2) := by decide +kernel
theorem dX0_seek_17 : decode cX0_seek 17 = .ok (.putfield 27, 3) := by decide +kernel
theorem dX0_seek_20 : decode cX0_seek 20 = .ok (.iconst 0, 1) := by decide +kernel
theorem dX0_seek_21 : decode cX0_seek 21 = .ok (.istore_n 3, 1) := by decide +kernel
theorem dX0_seek_22 : decode cX0_seek 22 = .ok (.iload_n 3, 1) := by decide +kernel
theorem dX0_seek_23 : decode cX0_seek 23 = .ok (.aload_n 0, 1) := by decide +kernel
theorem dX0_seek_24 : decode cX0_seek 24 = .ok (.getfield 9, 3) := by decide +kernel
theorem dX0_seek_27 : decode cX0_seek 27 = .ok (.invokevirtual 36, 3) := by decide +kernel
theorem dX0_seek_30 : decode cX0_seek 30 = .ok (.if_icmp .gt 96, 3) := by decide +kernel
theorem dX0_seek_33 : decode cX0_seek 33 = .ok (.iload_n 3, 1) := by decide +kernel
theorem dX0_seek_34 : decode cX0_seek 34 = .ok (.iload_n 2, 1) := by decide +kernel
theorem dX0_seek_35 : decode cX0_seek 35 = .ok (.iand, 1) := by decide +kernel
theorem dX0_seek_36 : decode cX0_seek 36 = .ok (.ifCond .ne 84, 3) := by decide +kernel
theorem dX0_seek_39 : decode cX0_seek 39 = .ok (.aload_n 0, 1) := by decide +kernel
theorem dX0_seek_40 : decode cX0_seek 40 = .ok (.getfield 9, 3) := by decide +kernel
theorem dX0_seek_43 : decode cX0_seek 43 = .ok (.iload_n 3, 1) := by decide +kernel
theorem dX0_seek_44 : decode cX0_seek 44 = .ok (.invokevirtual 39, 3) := by decide +kernel
theorem dX0_seek_47 : decode cX0_seek 47 = .ok (.istore 4, 2) := by decide +kernel
theorem dX0_seek_49 : decode cX0_seek 49 = .ok (.aload_n 0, 1) := by decide +kernel
theorem dX0_seek_50 : decode cX0_seek 50 = .ok (.getfield 27, 3) := by decide +kernel
theorem dX0_seek_53 : decode cX0_seek 53 = .ok (.bipush (-4), 2) := by decide +kernel
theorem dX0_seek_55 : decode cX0_seek 55 = .ok (.if_icmp .eq 12, 3) := by decide +kernel
theorem dX0_seek_58 : decode cX0_seek 58 = .ok (.iload 4, 2) := by decide +kernel
theorem dX0_seek_60 : decode cX0_seek 60 = .ok (.aload_n 0, 1) := by decide +kernel
theorem dX0_seek_61 : decode cX0_seek 61 = .ok (.getfield 23, 3) := by decide +kernel
theorem dX0_seek_64 : decode cX0_seek 64 = .ok (.if_icmp .ge 7, 3) := by decide +kernel
theorem dX0_seek_67 : decode cX0_seek 67 = .ok (.iconst 1, 1) := by decide +kernel
theorem dX0_seek_68 : decode cX0_seek 68 = .ok (.goto 4, 3) := by decide +kernel
theorem dX0_seek_71 : decode cX0_seek 71 = .ok (.iconst 0, 1) := by decide +kernel
theorem dX0_seek_72 : decode cX0_seek 72 = .ok (.istore 5, 2) := by decide +kernel
theorem dX0_seek_74 : decode cX0_seek 74 = .ok (.iload 5, 2) := by decide +kernel
theorem dX0_seek_76 : decode cX0_seek 76 = .ok (.ifCond .eq 44, 3) := by decide +kernel
theorem dX0_seek_79 : decode cX0_seek 79 = .ok (.aload_n 0, 1) := by decide +kernel
theorem dX0_seek_80 : decode cX0_seek 80 = .ok (.getfield 15, 3) := by decide +kernel
theorem dX0_seek_83 : decode cX0_seek 83 = .ok (.iload_n 3, 1) := by decide +kernel
theorem dX0_seek_84 : decode cX0_seek 84 = .ok (.iload_n 2, 1) := by decide +kernel
theorem dX0_seek_85 : decode cX0_seek 85 = .ok (.ior, 1) := by decide +kernel
theorem dX0_seek_86 : decode cX0_seek 86 = .ok (.invokevirtual 43, 3) := by decide +kernel
theorem dX0_seek_89 : decode cX0_seek 89 = .ok (.ifCond .eq 31, 3) := by decide +kernel
theorem dX0_seek_92 : decode cX0_seek 92 = .ok (.iload_n 1, 1) := by decide +kernel
theorem dX0_seek_93 : decode cX0_seek 93 = .ok (.ifCond .eq 16, 3) := by decide +kernel
theorem dX0_seek_96 : decode cX0_seek 96 = .ok (.aload_n 0, 1) := by decide +kernel
theorem dX0_seek_97 : decode cX0_seek 97 = .ok (.getfield 15, 3) := by decide +kernel
theorem dX0_seek_100 : decode cX0_seek 100 = .ok (.iload_n 3, 1) := by decide +kernel
theorem dX0_seek_101 : decode cX0_seek 101 = .ok (.iload_n 2, 1) := by decide +kernel
theorem dX0_seek_102 : decode cX0_seek 102 = .ok (.ior, 1) := by decide +kernel
theorem dX0_seek_103 : decode cX0_seek 103 = .ok (.invokevirtual 49, 3) := by decide +kernel
theorem dX0_seek_106 : decode cX0_seek 106 = .ok (.ifCond .ne 14, 3) := by decide +kernel
theorem dX0_seek_109 : decode cX0_seek 109 = .ok (.aload_n 0, 1) := by decide +kernel
theorem dX0_seek_110 : decode cX0_seek 110 = .ok (.iload 4, 2) := by decide +kernel
theorem dX0_seek_112 : decode cX0_seek 112 = .ok (.putfield 23, 3) := by decide +kernel
theorem dX0_seek_115 : decode cX0_seek 115 = .ok (.aload_n 0, 1) := by decide +kernel
theorem dX0_seek_116 : decode cX0_seek 116 = .ok (.iload_n 3, 1) := by decide +kernel
theorem dX0_seek_117 : decode cX0_seek 117 = .ok (.putfield 27, 3) := by decide +kernel
theorem dX0_seek_120 : decode cX0_seek 120 = .ok (.iinc 3 1, 3) := by decide +kernel
theorem dX0_seek_123 : decode cX0_seek 123 = .ok (.goto (-101), 3) := by decide +kernel
theorem dX0_seek_126 : decode cX0_seek 126 = .ok (.return_, 1) := by decide +kernel
theorem dX1_reckon_0 : decode cX1_reckon 0 = .ok (.aload_n 0, 1) := by decide +kernel
theorem dX1_reckon_1 : decode cX1_reckon 1 = .ok (.iconst 0, 1) := by decide +kernel
theorem dX1_reckon_2 : decode cX1_reckon 2 = .ok (.putfield 19, 3) := by decide +kernel
theorem dX1_reckon_5 : decode cX1_reckon 5 = .ok (.aload_n 0, 1) := by decide +kernel
theorem dX1_reckon_6 : decode cX1_reckon 6 = .ok (.bipush 13, 2) := by decide +kernel
theorem dX1_reckon_8 : decode cX1_reckon 8 = .ok (.putfield 23, 3) := by decide +kernel
theorem dX1_reckon_11 : decode cX1_reckon 11 = .ok (.aload_n 0, 1) := by decide +kernel
theorem dX1_reckon_12 : decode cX1_reckon 12 = .ok (.bipush (-4), 2) := by decide +kernel
theorem dX1_reckon_14 : decode cX1_reckon 14 = .ok (.putfield 26, 3) := by decide +kernel
theorem dX1_reckon_17 : decode cX1_reckon 17 = .ok (.aload_n 0, 1) := by decide +kernel
theorem dX1_reckon_18 : decode cX1_reckon 18 = .ok (.iconst 0, 1) := by decide +kernel
theorem dX1_reckon_19 : decode cX1_reckon 19 = .ok (.putfield 29, 3) := by decide +kernel
theorem dX1_reckon_22 : decode cX1_reckon 22 = .ok (.aload_n 0, 1) := by decide +kernel
theorem dX1_reckon_23 : decode cX1_reckon 23 = .ok (.aload_n 0, 1) := by decide +kernel
theorem dX1_reckon_24 : decode cX1_reckon 24 = .ok (.getfield 9, 3) := by decide +kernel
theorem dX1_reckon_27 : decode cX1_reckon 27 = .ok (.invokevirtual 32, 3) := by decide +kernel
theorem dX1_reckon_30 : decode cX1_reckon 30 = .ok (.putfield 38, 3) := by decide +kernel
theorem dX1_reckon_33 : decode cX1_reckon 33 = .ok (.aload_n 0, 1) := by decide +kernel
theorem dX1_reckon_34 : decode cX1_reckon 34 = .ok (.iconst 0, 1) := by decide +kernel
theorem dX1_reckon_35 : decode cX1_reckon 35 = .ok (.putfield 41, 3) := by decide +kernel
theorem dX1_reckon_38 : decode cX1_reckon 38 = .ok (.iconst 0, 1) := by decide +kernel
theorem dX1_reckon_39 : decode cX1_reckon 39 = .ok (.istore_n 1, 1) := by decide +kernel
theorem dX1_reckon_40 : decode cX1_reckon 40 = .ok (.iload_n 1, 1) := by decide +kernel
theorem dX1_reckon_41 : decode cX1_reckon 41 = .ok (.bipush 12, 2) := by decide +kernel
theorem dX1_reckon_43 : decode cX1_reckon 43 = .ok (.if_icmp .ge 16, 3) := by decide +kernel
theorem dX1_reckon_46 : decode cX1_reckon 46 = .ok (.aload_n 0, 1) := by decide +kernel
theorem dX1_reckon_47 : decode cX1_reckon 47 = .ok (.getfield 15, 3) := by decide +kernel
theorem dX1_reckon_50 : decode cX1_reckon 50 = .ok (.iload_n 1, 1) := by decide +kernel
theorem dX1_reckon_51 : decode cX1_reckon 51 = .ok (.iconst 0, 1) := by decide +kernel
theorem dX1_reckon_52 : decode cX1_reckon 52 = .ok (.iastore, 1) := by decide +kernel
theorem dX1_reckon_53 : decode cX1_reckon 53 = .ok (.iinc 1 1, 3) := by decide +kernel
theorem dX1_reckon_56 : decode cX1_reckon 56 = .ok (.goto (-16), 3) := by decide +kernel
theorem dX1_reckon_59 : decode cX1_reckon 59 = .ok (.iconst 0, 1) := by decide +kernel
theorem dX1_reckon_60 : decode cX1_reckon 60 = .ok (.istore_n 1, 1) := by decide +kernel
theorem dX1_reckon_61 : decode cX1_reckon 61 = .ok (.iload_n 1, 1) := by decide +kernel
theorem dX1_reckon_62 : decode cX1_reckon 62 = .ok (.aload_n 0, 1) := by decide +kernel
theorem dX1_reckon_63 : decode cX1_reckon 63 = .ok (.getfield 9, 3) := by decide +kernel
theorem dX1_reckon_66 : decode cX1_reckon 66 = .ok (.invokevirtual 32, 3) := by decide +kernel
theorem dX1_reckon_69 : decode cX1_reckon 69 = .ok (.if_icmp .gt 22, 3) := by decide +kernel
theorem dX1_reckon_72 : decode cX1_reckon 72 = .ok (.aload_n 0, 1) := by decide +kernel
theorem dX1_reckon_73 : decode cX1_reckon 73 = .ok (.iload_n 1, 1) := by decide +kernel
theorem dX1_reckon_74 : decode cX1_reckon 74 = .ok (.invokevirtual 44, 3) := by decide +kernel
theorem dX1_reckon_77 : decode cX1_reckon 77 = .ok (.ifCond .eq 8, 3) := by decide +kernel
theorem dX1_reckon_80 : decode cX1_reckon 80 = .ok (.aload_n 0, 1) := by decide +kernel
theorem dX1_reckon_81 : decode cX1_reckon 81 = .ok (.iload_n 1, 1) := by decide +kernel
theorem dX1_reckon_82 : decode cX1_reckon 82 = .ok (.invokevirtual 48, 3) := by decide +kernel
theorem dX1_reckon_85 : decode cX1_reckon 85 = .ok (.iinc 1 1, 3) := by decide +kernel
theorem dX1_reckon_88 : decode cX1_reckon 88 = .ok (.goto (-27), 3) := by decide +kernel
theorem dX1_reckon_91 : decode cX1_reckon 91 = .ok (.return_, 1) := by decide +kernel
theorem dX1_fits_0 : decode cX1_fits 0 = .ok (.iconst 0, 1) := by decide +kernel
theorem dX1_fits_1 : decode cX1_fits 1 = .ok (.istore_n 2, 1) := by decide +kernel
theorem dX1_fits_2 : decode cX1_fits 2 = .ok (.iload_n 2, 1) := by decide +kernel
theorem dX1_fits_3 : decode cX1_fits 3 = .ok (.aload_n 0, 1) := by decide +kernel
theorem dX1_fits_4 : decode cX1_fits 4 = .ok (.getfield 9, 3) := by decide +kernel
theorem dX1_fits_7 : decode cX1_fits 7 = .ok (.getfield 52, 3) := by decide +kernel
theorem dX1_fits_10 : decode cX1_fits 10 = .ok (.if_icmp .ge 46, 3) := by decide +kernel
theorem dX1_fits_13 : decode cX1_fits 13 = .ok (.aload_n 0, 1) := by decide +kernel
theorem dX1_fits_14 : decode cX1_fits 14 = .ok (.getfield 9, 3) := by decide +kernel
theorem dX1_fits_17 : decode cX1_fits 17 = .ok (.getfield 55, 3) := by decide +kernel
theorem dX1_fits_20 : decode cX1_fits 20 = .ok (.iload_n 2, 1) := by decide +kernel
theorem dX1_fits_21 : decode cX1_fits 21 = .ok (.iaload, 1) := by decide +kernel
theorem dX1_fits_22 : decode cX1_fits 22 = .ok (.iload_n 1, 1) := by decide +kernel
theorem dX1_fits_23 : decode cX1_fits 23 = .ok (.iand, 1) := by decide +kernel
theorem dX1_fits_24 : decode cX1_fits 24 = .ok (.ifCond .ne 7, 3) := by decide +kernel
theorem dX1_fits_27 : decode cX1_fits 27 = .ok (.iconst 1, 1) := by decide +kernel
theorem dX1_fits_28 : decode cX1_fits 28 = .ok (.goto 4, 3) := by decide +kernel
theorem dX1_fits_31 : decode cX1_fits 31 = .ok (.iconst 0, 1) := by decide +kernel
theorem dX1_fits_32 : decode cX1_fits 32 = .ok (.istore_n 3, 1) := by decide +kernel
theorem dX1_fits_33 : decode cX1_fits 33 = .ok (.iload_n 3, 1) := by decide +kernel
theorem dX1_fits_34 : decode cX1_fits 34 = .ok (.aload_n 0, 1) := by decide +kernel
theorem dX1_fits_35 : decode cX1_fits 35 = .ok (.getfield 9, 3) := by decide +kernel
theorem dX1_fits_38 : decode cX1_fits 38 = .ok (.getfield 58, 3) := by decide +kernel
theorem dX1_fits_41 : decode cX1_fits 41 = .ok (.iload_n 2, 1) := by decide +kernel
theorem dX1_fits_42 : decode cX1_fits 42 = .ok (.invokestatic 61, 3) := by decide +kernel
theorem dX1_fits_45 : decode cX1_fits 45 = .ok (.if_icmp .eq 5, 3) := by decide +kernel
theorem dX1_fits_48 : decode cX1_fits 48 = .ok (.iconst 0, 1) := by decide +kernel
theorem dX1_fits_49 : decode cX1_fits 49 = .ok (.ireturn, 1) := by decide +kernel
theorem dX1_fits_50 : decode cX1_fits 50 = .ok (.iinc 2 1, 3) := by decide +kernel
theorem dX1_fits_53 : decode cX1_fits 53 = .ok (.goto (-51), 3) := by decide +kernel
theorem dX1_fits_56 : decode cX1_fits 56 = .ok (.iconst 1, 1) := by decide +kernel
theorem dX1_fits_57 : decode cX1_fits 57 = .ok (.ireturn, 1) := by decide +kernel
theorem dX1_add_0 : decode cX1_add 0 = .ok (.aload_n 0, 1) := by decide +kernel
theorem dX1_add_1 : decode cX1_add 1 = .ok (.dup, 1) := by decide +kernel
theorem dX1_add_2 : decode cX1_add 2 = .ok (.getfield 19, 3) := by decide +kernel
theorem dX1_add_5 : decode cX1_add 5 = .ok (.iconst 1, 1) := by decide +kernel
theorem dX1_add_6 : decode cX1_add 6 = .ok (.iadd, 1) := by decide +kernel
theorem dX1_add_7 : decode cX1_add 7 = .ok (.putfield 19, 3) := by decide +kernel
theorem dX1_add_10 : decode cX1_add 10 = .ok (.aload_n 0, 1) := by decide +kernel
theorem dX1_add_11 : decode cX1_add 11 = .ok (.dup, 1) := by decide +kernel
theorem dX1_add_12 : decode cX1_add 12 = .ok (.getfield 38, 3) := by decide +kernel
theorem dX1_add_15 : decode cX1_add 15 = .ok (.iload_n 1, 1) := by decide +kernel
theorem dX1_add_16 : decode cX1_add 16 = .ok (.iand, 1) := by decide +kernel
theorem dX1_add_17 : decode cX1_add 17 = .ok (.putfield 38, 3) := by decide +kernel
theorem dX1_add_20 : decode cX1_add 20 = .ok (.aload_n 0, 1) := by decide +kernel
theorem dX1_add_21 : decode cX1_add 21 = .ok (.dup, 1) := by decide +kernel
theorem dX1_add_22 : decode cX1_add 22 = .ok (.getfield 41, 3) := by decide +kernel
theorem dX1_add_25 : decode cX1_add 25 = .ok (.iload_n 1, 1) := by decide +kernel
theorem dX1_add_26 : decode cX1_add 26 = .ok (.ior, 1) := by decide +kernel
theorem dX1_add_27 : decode cX1_add 27 = .ok (.putfield 41, 3) := by decide +kernel
theorem dX1_add_30 : decode cX1_add 30 = .ok (.iconst 0, 1) := by decide +kernel
theorem dX1_add_31 : decode cX1_add 31 = .ok (.istore_n 2, 1) := by decide +kernel
theorem dX1_add_32 : decode cX1_add 32 = .ok (.iload_n 2, 1) := by decide +kernel
theorem dX1_add_33 : decode cX1_add 33 = .ok (.aload_n 0, 1) := by decide +kernel
theorem dX1_add_34 : decode cX1_add 34 = .ok (.getfield 9, 3) := by decide +kernel
theorem dX1_add_37 : decode cX1_add 37 = .ok (.getfield 65, 3) := by decide +kernel
theorem dX1_add_40 : decode cX1_add 40 = .ok (.if_icmp .ge 26, 3) := by decide +kernel
theorem dX1_add_43 : decode cX1_add 43 = .ok (.aload_n 0, 1) := by decide +kernel
theorem dX1_add_44 : decode cX1_add 44 = .ok (.getfield 15, 3) := by decide +kernel
theorem dX1_add_47 : decode cX1_add 47 = .ok (.iload_n 2, 1) := by decide +kernel
theorem dX1_add_48 : decode cX1_add 48 = .ok (.dup2, 1) := by decide +kernel
theorem dX1_add_49 : decode cX1_add 49 = .ok (.iaload, 1) := by decide +kernel
theorem dX1_add_50 : decode cX1_add 50 = .ok (.iload_n 1, 1) := by decide +kernel
theorem dX1_add_51 : decode cX1_add 51 = .ok (.iload_n 2, 1) := by decide +kernel
theorem dX1_add_52 : decode cX1_add 52 = .ok (.invokestatic 61, 3) := by decide +kernel
theorem dX1_add_55 : decode cX1_add 55 = .ok (.invokestatic 68, 3) := by decide +kernel
theorem dX1_add_58 : decode cX1_add 58 = .ok (.iadd, 1) := by decide +kernel
theorem dX1_add_59 : decode cX1_add 59 = .ok (.iastore, 1) := by decide +kernel
theorem dX1_add_60 : decode cX1_add 60 = .ok (.iinc 2 1, 3) := by decide +kernel
theorem dX1_add_63 : decode cX1_add 63 = .ok (.goto (-31), 3) := by decide +kernel
theorem dX1_add_66 : decode cX1_add 66 = .ok (.iload_n 1, 1) := by decide +kernel
theorem dX1_add_67 : decode cX1_add 67 = .ok (.invokestatic 72, 3) := by decide +kernel
theorem dX1_add_70 : decode cX1_add 70 = .ok (.istore_n 2, 1) := by decide +kernel
theorem dX1_add_71 : decode cX1_add 71 = .ok (.iload_n 2, 1) := by decide +kernel
theorem dX1_add_72 : decode cX1_add 72 = .ok (.aload_n 0, 1) := by decide +kernel
theorem dX1_add_73 : decode cX1_add 73 = .ok (.getfield 23, 3) := by decide +kernel
theorem dX1_add_76 : decode cX1_add 76 = .ok (.if_icmp .ge 18, 3) := by decide +kernel
theorem dX1_add_79 : decode cX1_add 79 = .ok (.aload_n 0, 1) := by decide +kernel
theorem dX1_add_80 : decode cX1_add 80 = .ok (.iload_n 2, 1) := by decide +kernel
theorem dX1_add_81 : decode cX1_add 81 = .ok (.putfield 23, 3) := by decide +kernel
theorem dX1_add_84 : decode cX1_add 84 = .ok (.aload_n 0, 1) := by decide +kernel
theorem dX1_add_85 : decode cX1_add 85 = .ok (.iload_n 1, 1) := by decide +kernel
theorem dX1_add_86 : decode cX1_add 86 = .ok (.putfield 26, 3) := by decide +kernel
theorem dX1_add_89 : decode cX1_add 89 = .ok (.aload_n 0, 1) := by decide +kernel
theorem dX1_add_90 : decode cX1_add 90 = .ok (.iconst 0, 1) := by decide +kernel
theorem dX1_add_91 : decode cX1_add 91 = .ok (.putfield 29, 3) := by decide +kernel
theorem dX1_add_94 : decode cX1_add 94 = .ok (.iload_n 2, 1) := by decide +kernel
theorem dX1_add_95 : decode cX1_add 95 = .ok (.aload_n 0, 1) := by decide +kernel
theorem dX1_add_96 : decode cX1_add 96 = .ok (.getfield 23, 3) := by decide +kernel
theorem dX1_add_99 : decode cX1_add 99 = .ok (.if_icmp .ne 13, 3) := by decide +kernel
theorem dX1_add_102 : decode cX1_add 102 = .ok (.aload_n 0, 1) := by decide +kernel
theorem dX1_add_103 : decode cX1_add 103 = .ok (.dup, 1) := by decide +kernel
theorem dX1_add_104 : decode cX1_add 104 = .ok (.getfield 29, 3) := by decide +kernel
theorem dX1_add_107 : decode cX1_add 107 = .ok (.iconst 1, 1) := by decide +kernel
theorem dX1_add_108 : decode cX1_add 108 = .ok (.iadd, 1) := by decide +kernel
theorem dX1_add_109 : decode cX1_add 109 = .ok (.putfield 29, 3) := by decide +kernel
theorem dX1_add_112 : decode cX1_add 112 = .ok (.return_, 1) := by decide +kernel
theorem dX1_leftAtWorst_0 : decode cX1_leftAtWorst 0 = .ok (.aload_n 0, 1) := by decide +kernel
theorem dX1_leftAtWorst_1 : decode cX1_leftAtWorst 1 = .ok (.getfield 15, 3) := by decide +kernel
theorem dX1_leftAtWorst_4 : decode cX1_leftAtWorst 4 = .ok (.iload_n 1, 1) := by decide +kernel
theorem dX1_leftAtWorst_5 : decode cX1_leftAtWorst 5 = .ok (.iaload, 1) := by decide +kernel
theorem dX1_leftAtWorst_6 : decode cX1_leftAtWorst 6 = .ok (.aload_n 0, 1) := by decide +kernel
theorem dX1_leftAtWorst_7 : decode cX1_leftAtWorst 7 = .ok (.getfield 19, 3) := by decide +kernel
theorem dX1_leftAtWorst_10 : decode cX1_leftAtWorst 10 = .ok (.aload_n 0, 1) := by decide +kernel
theorem dX1_leftAtWorst_11 : decode cX1_leftAtWorst 11 = .ok (.getfield 15, 3) := by decide +kernel
theorem dX1_leftAtWorst_14 : decode cX1_leftAtWorst 14 = .ok (.iload_n 1, 1) := by decide +kernel
theorem dX1_leftAtWorst_15 : decode cX1_leftAtWorst 15 = .ok (.iaload, 1) := by decide +kernel
theorem dX1_leftAtWorst_16 : decode cX1_leftAtWorst 16 = .ok (.isub, 1) := by decide +kernel
theorem dX1_leftAtWorst_17 : decode cX1_leftAtWorst 17 = .ok (.invokestatic 78, 3) := by decide +kernel
theorem dX1_leftAtWorst_20 : decode cX1_leftAtWorst 20 = .ok (.ireturn, 1) := by decide +kernel
theorem dX1_bestToAsk_0 : decode cX1_bestToAsk 0 = .ok (.bipush (-4), 2) := by decide +kernel
theorem dX1_bestToAsk_2 : decode cX1_bestToAsk 2 = .ok (.istore_n 1, 1) := by decide +kernel
theorem dX1_bestToAsk_3 : decode cX1_bestToAsk 3 = .ok (.aload_n 0, 1) := by decide +kernel
theorem dX1_bestToAsk_4 : decode cX1_bestToAsk 4 = .ok (.getfield 19, 3) := by decide +kernel
theorem dX1_bestToAsk_7 : decode cX1_bestToAsk 7 = .ok (.istore_n 2, 1) := by decide +kernel
theorem dX1_bestToAsk_8 : decode cX1_bestToAsk 8 = .ok (.iconst 0, 1) := by decide +kernel
theorem dX1_bestToAsk_9 : decode cX1_bestToAsk 9 = .ok (.istore_n 3, 1) := by decide +kernel
theorem dX1_bestToAsk_10 : decode cX1_bestToAsk 10 = .ok (.iload_n 3, 1) := by decide +kernel
theorem dX1_bestToAsk_11 : decode cX1_bestToAsk 11 = .ok (.aload_n 0, 1) := by decide +kernel
theorem dX1_bestToAsk_12 : decode cX1_bestToAsk 12 = .ok (.getfield 9, 3) := by decide +kernel
theorem dX1_bestToAsk_15 : decode cX1_bestToAsk 15 = .ok (.getfield 65, 3) := by decide +kernel
theorem dX1_bestToAsk_18 : decode cX1_bestToAsk 18 = .ok (.if_icmp .ge 26, 3) := by decide +kernel
theorem dX1_bestToAsk_21 : decode cX1_bestToAsk 21 = .ok (.aload_n 0, 1) := by decide +kernel
theorem dX1_bestToAsk_22 : decode cX1_bestToAsk 22 = .ok (.iload_n 3, 1) := by decide +kernel
theorem dX1_bestToAsk_23 : decode cX1_bestToAsk 23 = .ok (.invokevirtual 84, 3) := by decide +kernel
theorem dX1_bestToAsk_26 : decode cX1_bestToAsk 26 = .ok (.iload_n 2, 1) := by decide +kernel
theorem dX1_bestToAsk_27 : decode cX1_bestToAsk 27 = .ok (.if_icmp .ge 11, 3) := by decide +kernel
theorem dX1_bestToAsk_30 : decode cX1_bestToAsk 30 = .ok (.aload_n 0, 1) := by decide +kernel
theorem dX1_bestToAsk_31 : decode cX1_bestToAsk 31 = .ok (.iload_n 3, 1) := by decide +kernel
theorem dX1_bestToAsk_32 : decode cX1_bestToAsk 32 = .ok (.invokevirtual 84, 3) := by decide +kernel
theorem dX1_bestToAsk_35 : decode cX1_bestToAsk 35 = .ok (.istore_n 2, 1) := by decide +kernel
theorem dX1_bestToAsk_36 : decode cX1_bestToAsk 36 = .ok (.iload_n 3, 1) := by decide +kernel
theorem dX1_bestToAsk_37 : decode cX1_bestToAsk 37 = .ok (.istore_n 1, 1) := by decide +kernel
theorem dX1_bestToAsk_38 : decode cX1_bestToAsk 38 = .ok (.iinc 3 1, 3) := by decide +kernel
theorem dX1_bestToAsk_41 : decode cX1_bestToAsk 41 = .ok (.goto (-31), 3) := by decide +kernel
theorem dX1_bestToAsk_44 : decode cX1_bestToAsk 44 = .ok (.iload_n 1, 1) := by decide +kernel
theorem dX1_bestToAsk_45 : decode cX1_bestToAsk 45 = .ok (.ireturn, 1) := by decide +kernel
theorem dX2_readAll_0 : decode cX2_readAll 0 = .ok (.aload_n 0, 1) := by decide +kernel
theorem dX2_readAll_1 : decode cX2_readAll 1 = .ok (.getfield 18, 3) := by decide +kernel
theorem dX2_readAll_4 : decode cX2_readAll 4 = .ok (.invokevirtual 22, 3) := by decide +kernel
theorem dX2_readAll_7 : decode cX2_readAll 7 = .ok (.aload_n 0, 1) := by decide +kernel
theorem dX2_readAll_8 : decode cX2_readAll 8 = .ok (.iconst 0, 1) := by decide +kernel
theorem dX2_readAll_9 : decode cX2_readAll 9 = .ok (.putfield 25, 3) := by decide +kernel
theorem dX2_readAll_12 : decode cX2_readAll 12 = .ok (.aload_n 0, 1) := by decide +kernel
theorem dX2_readAll_13 : decode cX2_readAll 13 = .ok (.iconst 0, 1) := by decide +kernel
theorem dX2_readAll_14 : decode cX2_readAll 14 = .ok (.putfield 29, 3) := by decide +kernel
theorem dX2_readAll_17 : decode cX2_readAll 17 = .ok (.aload_n 0, 1) := by decide +kernel
theorem dX2_readAll_18 : decode cX2_readAll 18 = .ok (.iconst 0, 1) := by decide +kernel
theorem dX2_readAll_19 : decode cX2_readAll 19 = .ok (.putfield 32, 3) := by decide +kernel
theorem dX2_readAll_22 : decode cX2_readAll 22 = .ok (.aload_n 0, 1) := by decide +kernel
theorem dX2_readAll_23 : decode cX2_readAll 23 = .ok (.iconst 0, 1) := by decide +kernel
theorem dX2_readAll_24 : decode cX2_readAll 24 = .ok (.putfield 35, 3) := by decide +kernel
theorem dX2_readAll_27 : decode cX2_readAll 27 = .ok (.aload_n 0, 1) := by decide +kernel
theorem dX2_readAll_28 : decode cX2_readAll 28 = .ok (.iconst 0, 1) := by decide +kernel
theorem dX2_readAll_29 : decode cX2_readAll 29 = .ok (.putfield 39, 3) := by decide +kernel
theorem dX2_readAll_32 : decode cX2_readAll 32 = .ok (.iconst 1, 1) := by decide +kernel
theorem dX2_readAll_33 : decode cX2_readAll 33 = .ok (.istore_n 1, 1) := by decide +kernel
theorem dX2_readAll_34 : decode cX2_readAll 34 = .ok (.iconst 0, 1) := by decide +kernel
theorem dX2_readAll_35 : decode cX2_readAll 35 = .ok (.istore_n 2, 1) := by decide +kernel
theorem dX2_readAll_36 : decode cX2_readAll 36 = .ok (.iload_n 2, 1) := by decide +kernel
theorem dX2_readAll_37 : decode cX2_readAll 37 = .ok (.sipush 400, 3) := by decide +kernel
theorem dX2_readAll_40 : decode cX2_readAll 40 = .ok (.if_icmp .gt 18, 3) := by decide +kernel
theorem dX2_readAll_43 : decode cX2_readAll 43 = .ok (.iload_n 1, 1) := by decide +kernel
theorem dX2_readAll_44 : decode cX2_readAll 44 = .ok (.ifCond .eq 14, 3) := by decide +kernel
theorem dX2_readAll_47 : decode cX2_readAll 47 = .ok (.aload_n 0, 1) := by decide +kernel
theorem dX2_readAll_48 : decode cX2_readAll 48 = .ok (.invokevirtual 44, 3) := by decide +kernel
theorem dX2_readAll_51 : decode cX2_readAll 51 = .ok (.istore_n 1, 1) := by decide +kernel
theorem dX2_readAll_52 : decode cX2_readAll 52 = .ok (.iinc 2 1, 3) := by decide +kernel
theorem dX2_readAll_55 : decode cX2_readAll 55 = .ok (.goto (-19), 3) := by decide +kernel
theorem dX2_readAll_58 : decode cX2_readAll 58 = .ok (.aload_n 0, 1) := by decide +kernel
theorem dX2_readAll_59 : decode cX2_readAll 59 = .ok (.getfield 29, 3) := by decide +kernel
theorem dX2_readAll_62 : decode cX2_readAll 62 = .ok (.ifCond .ne 34, 3) := by decide +kernel
theorem dX2_readAll_65 : decode cX2_readAll 65 = .ok (.aload_n 0, 1) := by decide +kernel
theorem dX2_readAll_66 : decode cX2_readAll 66 = .ok (.getfield 18, 3) := by decide +kernel
theorem dX2_readAll_69 : decode cX2_readAll 69 = .ok (.invokevirtual 48, 3) := by decide +kernel
theorem dX2_readAll_72 : decode cX2_readAll 72 = .ok (.aload_n 0, 1) := by decide +kernel
theorem dX2_readAll_73 : decode cX2_readAll 73 = .ok (.getfield 18, 3) := by decide +kernel
theorem dX2_readAll_76 : decode cX2_readAll 76 = .ok (.getfield 52, 3) := by decide +kernel
theorem dX2_readAll_79 : decode cX2_readAll 79 = .ok (.if_icmp .lt 17, 3) := by decide +kernel
theorem dX2_readAll_82 : decode cX2_readAll 82 = .ok (.aload_n 0, 1) := by decide +kernel
theorem dX2_readAll_83 : decode cX2_readAll 83 = .ok (.bipush 6, 2) := by decide +kernel
theorem dX2_readAll_85 : decode cX2_readAll 85 = .ok (.aload_n 0, 1) := by decide +kernel
theorem dX2_readAll_86 : decode cX2_readAll 86 = .ok (.getfield 9, 3) := by decide +kernel
theorem dX2_readAll_89 : decode cX2_readAll 89 = .ok (.getfield 55, 3) := by decide +kernel
theorem dX2_readAll_92 : decode cX2_readAll 92 = .ok (.invokevirtual 58, 3) := by decide +kernel
theorem dX2_readAll_95 : decode cX2_readAll 95 = .ok (.pop, 1) := by decide +kernel
theorem dX2_readAll_96 : decode cX2_readAll 96 = .ok (.aload_n 0, 1) := by decide +kernel
theorem dX2_readAll_97 : decode cX2_readAll 97 = .ok (.getfield 29, 3) := by decide +kernel
theorem dX2_readAll_100 : decode cX2_readAll 100 = .ok (.ireturn, 1) := by decide +kernel
theorem dX2_readOneLine_0 : decode cX2_readOneLine 0 = .ok (.aload_n 0, 1) := by decide +kernel
theorem dX2_readOneLine_1 : decode cX2_readOneLine 1 = .ok (.invokevirtual 62, 3) := by decide +kernel
theorem dX2_readOneLine_4 : decode cX2_readOneLine 4 = .ok (.ifCond .eq 10, 3) := by decide +kernel
theorem dX2_readOneLine_7 : decode cX2_readOneLine 7 = .ok (.aload_n 0, 1) := by decide +kernel
theorem dX2_readOneLine_8 : decode cX2_readOneLine 8 = .ok (.getfield 65, 3) := by decide +kernel
theorem dX2_readOneLine_11 : decode cX2_readOneLine 11 = .ok (.ifCond .ne 5, 3) := by decide +kernel
theorem dX2_readOneLine_14 : decode cX2_readOneLine 14 = .ok (.iconst 0, 1) := by decide +kernel
theorem dX2_readOneLine_15 : decode cX2_readOneLine 15 = .ok (.ireturn, 1) := by decide +kernel
theorem dX2_readOneLine_16 : decode cX2_readOneLine 16 = .ok (.aload_n 0, 1) := by decide +kernel
theorem dX2_readOneLine_17 : decode cX2_readOneLine 17 = .ok (.ldc 68, 2) := by decide +kernel
theorem dX2_readOneLine_19 : decode cX2_readOneLine 19 = .ok (.invokevirtual 69, 3) := by decide +kernel
theorem dX2_readOneLine_22 : decode cX2_readOneLine 22 = .ok (.ifCond .eq 11, 3) := by decide +kernel
theorem dX2_readOneLine_25 : decode cX2_readOneLine 25 = .ok (.aload_n 0, 1) := by decide +kernel
theorem dX2_readOneLine_26 : decode cX2_readOneLine 26 = .ok (.invokevirtual 73, 3) := by decide +kernel
theorem dX2_readOneLine_29 : decode cX2_readOneLine 29 = .ok (.istore_n 1, 1) := by decide +kernel
theorem dX2_readOneLine_30 : decode cX2_readOneLine 30 = .ok (.goto 98, 3) := by decide +kernel
theorem dX2_readOneLine_33 : decode cX2_readOneLine 33 = .ok (.aload_n 0, 1) := by decide +kernel
theorem dX2_readOneLine_34 : decode cX2_readOneLine 34 = .ok (.ldc 76, 2) := by decide +kernel
theorem dX2_readOneLine_36 : decode cX2_readOneLine 36 = .ok (.invokevirtual 69, 3) := by decide +kernel
theorem dX2_readOneLine_39 : decode cX2_readOneLine 39 = .ok (.ifCond .eq 11, 3) := by decide +kernel
theorem dX2_readOneLine_42 : decode cX2_readOneLine 42 = .ok (.aload_n 0, 1) := by decide +kernel
theorem dX2_readOneLine_43 : decode cX2_readOneLine 43 = .ok (.invokevirtual 78, 3) := by decide +kernel
theorem dX2_readOneLine_46 : decode cX2_readOneLine 46 = .ok (.istore_n 1, 1) := by decide +kernel
theorem dX2_readOneLine_47 : decode cX2_readOneLine 47 = .ok (.goto 81, 3) := by decide +kernel
theorem dX2_readOneLine_50 : decode cX2_readOneLine 50 = .ok (.aload_n 0, 1) := by decide +kernel
theorem dX2_readOneLine_51 : decode cX2_readOneLine 51 = .ok (.ldc 81, 2) := by decide +kernel
theorem dX2_readOneLine_53 : decode cX2_readOneLine 53 = .ok (.invokevirtual 69, 3) := by decide +kernel
theorem dX2_readOneLine_56 : decode cX2_readOneLine 56 = .ok (.ifCond .eq 11, 3) := by decide +kernel
theorem dX2_readOneLine_59 : decode cX2_readOneLine 59 = .ok (.aload_n 0, 1) := by decide +kernel
theorem dX2_readOneLine_60 : decode cX2_readOneLine 60 = .ok (.invokevirtual 83, 3) := by decide +kernel
theorem dX2_readOneLine_63 : decode cX2_readOneLine 63 = .ok (.istore_n 1, 1) := by decide +kernel
theorem dX2_readOneLine_64 : decode cX2_readOneLine 64 = .ok (.goto 64, 3) := by decide +kernel
theorem dX2_readOneLine_67 : decode cX2_readOneLine 67 = .ok (.aload_n 0, 1) := by decide +kernel
theorem dX2_readOneLine_68 : decode cX2_readOneLine 68 = .ok (.ldc 86, 2) := by decide +kernel
theorem dX2_readOneLine_70 : decode cX2_readOneLine 70 = .ok (.invokevirtual 69, 3) := by decide +kernel
theorem dX2_readOneLine_73 : decode cX2_readOneLine 73 = .ok (.ifCond .eq 11, 3) := by decide +kernel
theorem dX2_readOneLine_76 : decode cX2_readOneLine 76 = .ok (.aload_n 0, 1) := by decide +kernel
theorem dX2_readOneLine_77 : decode cX2_readOneLine 77 = .ok (.invokevirtual 88, 3) := by decide +kernel
theorem dX2_readOneLine_80 : decode cX2_readOneLine 80 = .ok (.istore_n 1, 1) := by decide +kernel
theorem dX2_readOneLine_81 : decode cX2_readOneLine 81 = .ok (.goto 47, 3) := by decide +kernel
theorem dX2_readOneLine_84 : decode cX2_readOneLine 84 = .ok (.aload_n 0, 1) := by decide +kernel
theorem dX2_readOneLine_85 : decode cX2_readOneLine 85 = .ok (.ldc 91, 2) := by decide +kernel
theorem dX2_readOneLine_87 : decode cX2_readOneLine 87 = .ok (.invokevirtual 69, 3) := by decide +kernel
theorem dX2_readOneLine_90 : decode cX2_readOneLine 90 = .ok (.ifCond .eq 11, 3) := by decide +kernel
theorem dX2_readOneLine_93 : decode cX2_readOneLine 93 = .ok (.aload_n 0, 1) := by decide +kernel
theorem dX2_readOneLine_94 : decode cX2_readOneLine 94 = .ok (.invokevirtual 93, 3) := by decide +kernel
theorem dX2_readOneLine_97 : decode cX2_readOneLine 97 = .ok (.istore_n 1, 1) := by decide +kernel
theorem dX2_readOneLine_98 : decode cX2_readOneLine 98 = .ok (.goto 30, 3) := by decide +kernel
theorem dX2_readOneLine_101 : decode cX2_readOneLine 101 = .ok (.aload_n 0, 1) := by decide +kernel
theorem dX2_readOneLine_102 : decode cX2_readOneLine 102 = .ok (.ldc 96, 2) := by decide +kernel
theorem dX2_readOneLine_104 : decode cX2_readOneLine 104 = .ok (.invokevirtual 69, 3) := by decide +kernel
theorem dX2_readOneLine_107 : decode cX2_readOneLine 107 = .ok (.ifCond .eq 11, 3) := by decide +kernel
theorem dX2_readOneLine_110 : decode cX2_readOneLine 110 = .ok (.aload_n 0, 1) := by decide +kernel
theorem dX2_readOneLine_111 : decode cX2_readOneLine 111 = .ok (.invokevirtual 98, 3) := by decide +kernel
theorem dX2_readOneLine_114 : decode cX2_readOneLine 114 = .ok (.istore_n 1, 1) := by decide +kernel
theorem dX2_readOneLine_115 : decode cX2_readOneLine 115 = .ok (.goto 13, 3) := by decide +kernel
theorem dX2_readOneLine_118 : decode cX2_readOneLine 118 = .ok (.aload_n 0, 1) := by decide +kernel
theorem dX2_readOneLine_119 : decode cX2_readOneLine 119 = .ok (.iconst 2, 1) := by decide +kernel
theorem dX2_readOneLine_120 : decode cX2_readOneLine 120 = .ok (.aload_n 0, 1) := by decide +kernel
theorem dX2_readOneLine_121 : decode cX2_readOneLine 121 = .ok (.getfield 101, 3) := by decide +kernel
theorem dX2_readOneLine_124 : decode cX2_readOneLine 124 = .ok (.invokevirtual 58, 3) := by decide +kernel
theorem dX2_readOneLine_127 : decode cX2_readOneLine 127 = .ok (.istore_n 1, 1) := by decide +kernel
theorem dX2_readOneLine_128 : decode cX2_readOneLine 128 = .ok (.iload_n 1, 1) := by decide +kernel
theorem dX2_readOneLine_129 : decode cX2_readOneLine 129 = .ok (.ifCond .eq 13, 3) := by decide +kernel
theorem dX2_readOneLine_132 : decode cX2_readOneLine 132 = .ok (.aload_n 0, 1) := by decide +kernel
theorem dX2_readOneLine_133 : decode cX2_readOneLine 133 = .ok (.dup, 1) := by decide +kernel
theorem dX2_readOneLine_134 : decode cX2_readOneLine 134 = .ok (.getfield 25, 3) := by decide +kernel
theorem dX2_readOneLine_137 : decode cX2_readOneLine 137 = .ok (.iconst 1, 1) := by decide +kernel
theorem dX2_readOneLine_138 : decode cX2_readOneLine 138 = .ok (.iadd, 1) := by decide +kernel
theorem dX2_readOneLine_139 : decode cX2_readOneLine 139 = .ok (.putfield 25, 3) := by decide +kernel
theorem dX2_readOneLine_142 : decode cX2_readOneLine 142 = .ok (.iload_n 1, 1) := by decide +kernel
theorem dX2_readOneLine_143 : decode cX2_readOneLine 143 = .ok (.ireturn, 1) := by decide +kernel
theorem dX2_readPoints_0 : decode cX2_readPoints 0 = .ok (.aload_n 0, 1) := by decide +kernel
theorem dX2_readPoints_1 : decode cX2_readPoints 1 = .ok (.getfield 35, 3) := by decide +kernel
theorem dX2_readPoints_4 : decode cX2_readPoints 4 = .ok (.ifCond .eq 13, 3) := by decide +kernel
theorem dX2_readPoints_7 : decode cX2_readPoints 7 = .ok (.aload_n 0, 1) := by decide +kernel
theorem dX2_readPoints_8 : decode cX2_readPoints 8 = .ok (.iconst 4, 1) := by decide +kernel
theorem dX2_readPoints_9 : decode cX2_readPoints 9 = .ok (.aload_n 0, 1) := by decide +kernel
theorem dX2_readPoints_10 : decode cX2_readPoints 10 = .ok (.getfield 101, 3) := by decide +kernel
theorem dX2_readPoints_13 : decode cX2_readPoints 13 = .ok (.invokevirtual 58, 3) := by decide +kernel
theorem dX2_readPoints_16 : decode cX2_readPoints 16 = .ok (.ireturn, 1) := by decide +kernel
theorem dX2_readPoints_17 : decode cX2_readPoints 17 = .ok (.aload_n 0, 1) := by decide +kernel
theorem dX2_readPoints_18 : decode cX2_readPoints 18 = .ok (.iconst 1, 1) := by decide +kernel
theorem dX2_readPoints_19 : decode cX2_readPoints 19 = .ok (.putfield 35, 3) := by decide +kernel
theorem dX2_readPoints_22 : decode cX2_readPoints 22 = .ok (.aload_n 0, 1) := by decide +kernel
theorem dX2_readPoints_23 : decode cX2_readPoints 23 = .ok (.iconst 2, 1) := by decide +kernel
theorem dX2_readPoints_24 : decode cX2_readPoints 24 = .ok (.bipush 9, 2) := by decide +kernel
theorem dX2_readPoints_26 : decode cX2_readPoints 26 = .ok (.invokevirtual 104, 3) := by decide +kernel
theorem dX2_readPoints_29 : decode cX2_readPoints 29 = .ok (.ifCond .ne 5, 3) := by decide +kernel
theorem dX2_readPoints_32 : decode cX2_readPoints 32 = .ok (.iconst 0, 1) := by decide +kernel
theorem dX2_readPoints_33 : decode cX2_readPoints 33 = .ok (.ireturn, 1) := by decide +kernel
theorem dX2_readPoints_34 : decode cX2_readPoints 34 = .ok (.aload_n 0, 1) := by decide +kernel
theorem dX2_readPoints_35 : decode cX2_readPoints 35 = .ok (.getfield 18, 3) := by decide +kernel
theorem dX2_readPoints_38 : decode cX2_readPoints 38 = .ok (.aload_n 0, 1) := by decide +kernel
theorem dX2_readPoints_39 : decode cX2_readPoints 39 = .ok (.getfield 107, 3) := by decide +kernel
theorem dX2_readPoints_42 : decode cX2_readPoints 42 = .ok (.putfield 52, 3) := by decide +kernel
theorem dX2_readPoints_45 : decode cX2_readPoints 45 = .ok (.aload_n 0, 1) := by decide +kernel
theorem dX2_readPoints_46 : decode cX2_readPoints 46 = .ok (.invokevirtual 110, 3) := by decide +kernel
theorem dX2_readPoints_49 : decode cX2_readPoints 49 = .ok (.ireturn, 1) := by decide +kernel
theorem dX2_readHouse_0 : decode cX2_readHouse 0 = .ok (.aload_n 0, 1) := by decide +kernel
theorem dX2_readHouse_1 : decode cX2_readHouse 1 = .ok (.iconst 0, 1) := by decide +kernel
theorem dX2_readHouse_2 : decode cX2_readHouse 2 = .ok (.bipush 8, 2) := by decide +kernel
theorem dX2_readHouse_4 : decode cX2_readHouse 4 = .ok (.invokevirtual 104, 3) := by decide +kernel
theorem dX2_readHouse_7 : decode cX2_readHouse 7 = .ok (.ifCond .ne 5, 3) := by decide +kernel
theorem dX2_readHouse_10 : decode cX2_readHouse 10 = .ok (.iconst 0, 1) := by decide +kernel
theorem dX2_readHouse_11 : decode cX2_readHouse 11 = .ok (.ireturn, 1) := by decide +kernel
theorem dX2_readHouse_12 : decode cX2_readHouse 12 = .ok (.aload_n 0, 1) := by decide +kernel
theorem dX2_readHouse_13 : decode cX2_readHouse 13 = .ok (.getfield 18, 3) := by decide +kernel
theorem dX2_readHouse_16 : decode cX2_readHouse 16 = .ok (.aload_n 0, 1) := by decide +kernel
theorem dX2_readHouse_17 : decode cX2_readHouse 17 = .ok (.getfield 107, 3) := by decide +kernel
theorem dX2_readHouse_20 : decode cX2_readHouse 20 = .ok (.invokevirtual 113, 3) := by decide +kernel
theorem dX2_readHouse_23 : decode cX2_readHouse 23 = .ok (.ifCond .eq 13, 3) := by decide +kernel
theorem dX2_readHouse_26 : decode cX2_readHouse 26 = .ok (.aload_n 0, 1) := by decide +kernel
theorem dX2_readHouse_27 : decode cX2_readHouse 27 = .ok (.iconst 4, 1) := by decide +kernel
theorem dX2_readHouse_28 : decode cX2_readHouse 28 = .ok (.aload_n 0, 1) := by decide +kernel
theorem dX2_readHouse_29 : decode cX2_readHouse 29 = .ok (.getfield 101, 3) := by decide +kernel
theorem dX2_readHouse_32 : decode cX2_readHouse 32 = .ok (.invokevirtual 58, 3) := by decide +kernel
theorem dX2_readHouse_35 : decode cX2_readHouse 35 = .ok (.ireturn, 1) := by decide +kernel
theorem dX2_readHouse_36 : decode cX2_readHouse 36 = .ok (.aload_n 0, 1) := by decide +kernel
theorem dX2_readHouse_37 : decode cX2_readHouse 37 = .ok (.getfield 18, 3) := by decide +kernel
theorem dX2_readHouse_40 : decode cX2_readHouse 40 = .ok (.aload_n 0, 1) := by decide +kernel
theorem dX2_readHouse_41 : decode cX2_readHouse 41 = .ok (.getfield 107, 3) := by decide +kernel
theorem dX2_readHouse_44 : decode cX2_readHouse 44 = .ok (.iconst 1, 1) := by decide +kernel
theorem dX2_readHouse_45 : decode cX2_readHouse 45 = .ok (.invokevirtual 117, 3) := by decide +kernel
theorem dX2_readHouse_48 : decode cX2_readHouse 48 = .ok (.aload_n 0, 1) := by decide +kernel
theorem dX2_readHouse_49 : decode cX2_readHouse 49 = .ok (.invokevirtual 110, 3) := by decide +kernel
theorem dX2_readHouse_52 : decode cX2_readHouse 52 = .ok (.ireturn, 1) := by decide +kernel
theorem dX2_readLine_0 : decode cX2_readLine 0 = .ok (.aload_n 0, 1) := by decide +kernel
theorem dX2_readLine_1 : decode cX2_readLine 1 = .ok (.getfield 18, 3) := by decide +kernel
theorem dX2_readLine_4 : decode cX2_readLine 4 = .ok (.getfield 121, 3) := by decide +kernel
theorem dX2_readLine_7 : decode cX2_readLine 7 = .ok (.bipush 12, 2) := by decide +kernel
theorem dX2_readLine_9 : decode cX2_readLine 9 = .ok (.if_icmp .lt 13, 3) := by decide +kernel
theorem dX2_readLine_12 : decode cX2_readLine 12 = .ok (.aload_n 0, 1) := by decide +kernel
theorem dX2_readLine_13 : decode cX2_readLine 13 = .ok (.iconst 5, 1) := by decide +kernel
theorem dX2_readLine_14 : decode cX2_readLine 14 = .ok (.aload_n 0, 1) := by decide +kernel
theorem dX2_readLine_15 : decode cX2_readLine 15 = .ok (.getfield 101, 3) := by decide +kernel
theorem dX2_readLine_18 : decode cX2_readLine 18 = .ok (.invokevirtual 58, 3) := by decide +kernel
theorem dX2_readLine_21 : decode cX2_readLine 21 = .ok (.ireturn, 1) := by decide +kernel
theorem dX2_readLine_22 : decode cX2_readLine 22 = .ok (.aload_n 0, 1) := by decide +kernel
theorem dX2_readLine_23 : decode cX2_readLine 23 = .ok (.iconst 0, 1) := by decide +kernel
theorem dX2_readLine_24 : decode cX2_readLine 24 = .ok (.bipush 8, 2) := by decide +kernel
theorem dX2_readLine_26 : decode cX2_readLine 26 = .ok (.invokevirtual 104, 3) := by decide +kernel
theorem dX2_readLine_29 : decode cX2_readLine 29 = .ok (.ifCond .ne 5, 3) := by decide +kernel
theorem dX2_readLine_32 : decode cX2_readLine 32 = .ok (.iconst 0, 1) := by decide +kernel
theorem dX2_readLine_33 : decode cX2_readLine 33 = .ok (.ireturn, 1) := by decide +kernel
theorem dX2_readLine_34 : decode cX2_readLine 34 = .ok (.aload_n 0, 1) := by decide +kernel
theorem dX2_readLine_35 : decode cX2_readLine 35 = .ok (.getfield 107, 3) := by decide +kernel
theorem dX2_readLine_38 : decode cX2_readLine 38 = .ok (.istore_n 1, 1) := by decide +kernel
theorem dX2_readLine_39 : decode cX2_readLine 39 = .ok (.aload_n 0, 1) := by decide +kernel
theorem dX2_readLine_40 : decode cX2_readLine 40 = .ok (.iconst 0, 1) := by decide +kernel
theorem dX2_readLine_41 : decode cX2_readLine 41 = .ok (.bipush 8, 2) := by decide +kernel
theorem dX2_readLine_43 : decode cX2_readLine 43 = .ok (.invokevirtual 104, 3) := by decide +kernel
theorem dX2_readLine_46 : decode cX2_readLine 46 = .ok (.ifCond .ne 5, 3) := by decide +kernel
theorem dX2_readLine_49 : decode cX2_readLine 49 = .ok (.iconst 0, 1) := by decide +kernel
theorem dX2_readLine_50 : decode cX2_readLine 50 = .ok (.ireturn, 1) := by decide +kernel
theorem dX2_readLine_51 : decode cX2_readLine 51 = .ok (.aload_n 0, 1) := by decide +kernel
theorem dX2_readLine_52 : decode cX2_readLine 52 = .ok (.getfield 107, 3) := by decide +kernel
theorem dX2_readLine_55 : decode cX2_readLine 55 = .ok (.istore_n 2, 1) := by decide +kernel
theorem dX2_readLine_56 : decode cX2_readLine 56 = .ok (.iload_n 1, 1) := by decide +kernel
theorem dX2_readLine_57 : decode cX2_readLine 57 = .ok (.iload_n 2, 1) := by decide +kernel
theorem dX2_readLine_58 : decode cX2_readLine 58 = .ok (.if_icmp .ne 13, 3) := by decide +kernel
theorem dX2_readLine_61 : decode cX2_readLine 61 = .ok (.aload_n 0, 1) := by decide +kernel
theorem dX2_readLine_62 : decode cX2_readLine 62 = .ok (.iconst 4, 1) := by decide +kernel
theorem dX2_readLine_63 : decode cX2_readLine 63 = .ok (.aload_n 0, 1) := by decide +kernel
theorem dX2_readLine_64 : decode cX2_readLine 64 = .ok (.getfield 101, 3) := by decide +kernel
theorem dX2_readLine_67 : decode cX2_readLine 67 = .ok (.invokevirtual 58, 3) := by decide +kernel
theorem dX2_readLine_70 : decode cX2_readLine 70 = .ok (.ireturn, 1) := by decide +kernel
theorem dX2_readLine_71 : decode cX2_readLine 71 = .ok (.aload_n 0, 1) := by decide +kernel
theorem dX2_readLine_72 : decode cX2_readLine 72 = .ok (.iconst 1, 1) := by decide +kernel
theorem dX2_readLine_73 : decode cX2_readLine 73 = .ok (.bipush 9, 2) := by decide +kernel
theorem dX2_readLine_75 : decode cX2_readLine 75 = .ok (.invokevirtual 104, 3) := by decide +kernel
theorem dX2_readLine_78 : decode cX2_readLine 78 = .ok (.ifCond .ne 5, 3) := by decide +kernel
theorem dX2_readLine_81 : decode cX2_readLine 81 = .ok (.iconst 0, 1) := by decide +kernel
theorem dX2_readLine_82 : decode cX2_readLine 82 = .ok (.ireturn, 1) := by decide +kernel
theorem dX2_readLine_83 : decode cX2_readLine 83 = .ok (.aload_n 0, 1) := by decide +kernel
theorem dX2_readLine_84 : decode cX2_readLine 84 = .ok (.getfield 107, 3) := by decide +kernel
theorem dX2_readLine_87 : decode cX2_readLine 87 = .ok (.istore_n 3, 1) := by decide +kernel
theorem dX2_readLine_88 : decode cX2_readLine 88 = .ok (.aload_n 0, 1) := by decide +kernel
theorem dX2_readLine_89 : decode cX2_readLine 89 = .ok (.iconst 0, 1) := by decide +kernel
theorem dX2_readLine_90 : decode cX2_readLine 90 = .ok (.bipush 9, 2) := by decide +kernel
theorem dX2_readLine_92 : decode cX2_readLine 92 = .ok (.invokevirtual 104, 3) := by decide +kernel
theorem dX2_readLine_95 : decode cX2_readLine 95 = .ok (.ifCond .ne 5, 3) := by decide +kernel
theorem dX2_readLine_98 : decode cX2_readLine 98 = .ok (.iconst 0, 1) := by decide +kernel
theorem dX2_readLine_99 : decode cX2_readLine 99 = .ok (.ireturn, 1) := by decide +kernel
theorem dX2_readLine_100 : decode cX2_readLine 100 = .ok (.aload_n 0, 1) := by decide +kernel
theorem dX2_readLine_101 : decode cX2_readLine 101 = .ok (.getfield 18, 3) := by decide +kernel
theorem dX2_readLine_104 : decode cX2_readLine 104 = .ok (.iload_n 1, 1) := by decide +kernel
theorem dX2_readLine_105 : decode cX2_readLine 105 = .ok (.iload_n 2, 1) := by decide +kernel
theorem dX2_readLine_106 : decode cX2_readLine 106 = .ok (.iload_n 3, 1) := by decide +kernel
theorem dX2_readLine_107 : decode cX2_readLine 107 = .ok (.aload_n 0, 1) := by decide +kernel
theorem dX2_readLine_108 : decode cX2_readLine 108 = .ok (.getfield 107, 3) := by decide +kernel
theorem dX2_readLine_111 : decode cX2_readLine 111 = .ok (.invokevirtual 124, 3) := by decide +kernel
theorem dX2_readLine_114 : decode cX2_readLine 114 = .ok (.pop, 1) := by decide +kernel
theorem dX2_readLine_115 : decode cX2_readLine 115 = .ok (.aload_n 0, 1) := by decide +kernel
theorem dX2_readLine_116 : decode cX2_readLine 116 = .ok (.invokevirtual 128, 3) := by decide +kernel
theorem dX2_readLine_119 : decode cX2_readLine 119 = .ok (.ireturn, 1) := by decide +kernel
theorem dX2_nextRoof_0 : decode cX2_nextRoof 0 = .ok (.aload_n 0, 1) := by decide +kernel
theorem dX2_nextRoof_1 : decode cX2_nextRoof 1 = .ok (.invokevirtual 62, 3) := by decide +kernel
theorem dX2_nextRoof_4 : decode cX2_nextRoof 4 = .ok (.ifCond .ne 5, 3) := by decide +kernel
theorem dX2_nextRoof_7 : decode cX2_nextRoof 7 = .ok (.iconst 0, 1) := by decide +kernel
theorem dX2_nextRoof_8 : decode cX2_nextRoof 8 = .ok (.ireturn, 1) := by decide +kernel
theorem dX2_nextRoof_9 : decode cX2_nextRoof 9 = .ok (.aload_n 0, 1) := by decide +kernel
theorem dX2_nextRoof_10 : decode cX2_nextRoof 10 = .ok (.ldc 131, 2) := by decide +kernel
theorem dX2_nextRoof_12 : decode cX2_nextRoof 12 = .ok (.invokevirtual 69, 3) := by decide +kernel
theorem dX2_nextRoof_15 : decode cX2_nextRoof 15 = .ok (.ifCond .eq 35, 3) := by decide +kernel
theorem dX2_nextRoof_18 : decode cX2_nextRoof 18 = .ok (.aload_n 0, 1) := by decide +kernel
theorem dX2_nextRoof_19 : decode cX2_nextRoof 19 = .ok (.getfield 18, 3) := by decide +kernel
theorem dX2_nextRoof_22 : decode cX2_nextRoof 22 = .ok (.dup, 1) := by decide +kernel
theorem dX2_nextRoof_23 : decode cX2_nextRoof 23 = .ok (.getfield 133, 3) := by decide +kernel
theorem dX2_nextRoof_26 : decode cX2_nextRoof 26 = .ok (.iconst 1, 1) := by decide +kernel
theorem dX2_nextRoof_27 : decode cX2_nextRoof 27 = .ok (.aload_n 0, 1) := by decide +kernel
theorem dX2_nextRoof_28 : decode cX2_nextRoof 28 = .ok (.getfield 18, 3) := by decide +kernel
theorem dX2_nextRoof_31 : decode cX2_nextRoof 31 = .ok (.getfield 121, 3) := by decide +kernel
theorem dX2_nextRoof_34 : decode cX2_nextRoof 34 = .ok (.iconst 1, 1) := by decide +kernel
theorem dX2_nextRoof_35 : decode cX2_nextRoof 35 = .ok (.isub, 1) := by decide +kernel
theorem dX2_nextRoof_36 : decode cX2_nextRoof 36 = .ok (.ishl, 1) := by decide +kernel
theorem dX2_nextRoof_37 : decode cX2_nextRoof 37 = .ok (.ior, 1) := by decide +kernel
theorem dX2_nextRoof_38 : decode cX2_nextRoof 38 = .ok (.putfield 133, 3) := by decide +kernel
theorem dX2_nextRoof_41 : decode cX2_nextRoof 41 = .ok (.aload_n 0, 1) := by decide +kernel
theorem dX2_nextRoof_42 : decode cX2_nextRoof 42 = .ok (.invokevirtual 62, 3) := by decide +kernel
theorem dX2_nextRoof_45 : decode cX2_nextRoof 45 = .ok (.ifCond .ne 5, 3) := by decide +kernel
theorem dX2_nextRoof_48 : decode cX2_nextRoof 48 = .ok (.iconst 0, 1) := by decide +kernel
theorem dX2_nextRoof_49 : decode cX2_nextRoof 49 = .ok (.ireturn, 1) := by decide +kernel
theorem dX2_nextRoof_50 : decode cX2_nextRoof 50 = .ok (.aload_n 0, 1) := by decide +kernel
theorem dX2_nextRoof_51 : decode cX2_nextRoof 51 = .ok (.getfield 65, 3) := by decide +kernel
theorem dX2_nextRoof_54 : decode cX2_nextRoof 54 = .ok (.iconst 3, 1) := by decide +kernel
theorem dX2_nextRoof_55 : decode cX2_nextRoof 55 = .ok (.if_icmp .eq 15, 3) := by decide +kernel
theorem dX2_nextRoof_58 : decode cX2_nextRoof 58 = .ok (.aload_n 0, 1) := by decide +kernel
theorem dX2_nextRoof_59 : decode cX2_nextRoof 59 = .ok (.iconst 2, 1) := by decide +kernel
theorem dX2_nextRoof_60 : decode cX2_nextRoof 60 = .ok (.aload_n 0, 1) := by decide +kernel
theorem dX2_nextRoof_61 : decode cX2_nextRoof 61 = .ok (.getfield 101, 3) := by decide +kernel
theorem dX2_nextRoof_64 : decode cX2_nextRoof 64 = .ok (.invokevirtual 58, 3) := by decide +kernel
theorem dX2_nextRoof_67 : decode cX2_nextRoof 67 = .ok (.ifCond .eq 7, 3) := by decide +kernel
theorem dX2_nextRoof_70 : decode cX2_nextRoof 70 = .ok (.iconst 1, 1) := by decide +kernel
theorem dX2_nextRoof_71 : decode cX2_nextRoof 71 = .ok (.goto 4, 3) := by decide +kernel
theorem dX2_nextRoof_74 : decode cX2_nextRoof 74 = .ok (.iconst 0, 1) := by decide +kernel
theorem dX2_nextRoof_75 : decode cX2_nextRoof 75 = .ok (.ireturn, 1) := by decide +kernel
theorem dX2_readDrawer_0 : decode cX2_readDrawer 0 = .ok (.aload_n 0, 1) := by decide +kernel
theorem dX2_readDrawer_1 : decode cX2_readDrawer 1 = .ok (.getfield 18, 3) := by decide +kernel
theorem dX2_readDrawer_4 : decode cX2_readDrawer 4 = .ok (.getfield 136, 3) := by decide +kernel
theorem dX2_readDrawer_7 : decode cX2_readDrawer 7 = .ok (.iconst 5, 1) := by decide +kernel
theorem dX2_readDrawer_8 : decode cX2_readDrawer 8 = .ok (.if_icmp .lt 13, 3) := by decide +kernel
theorem dX2_readDrawer_11 : decode cX2_readDrawer 11 = .ok (.aload_n 0, 1) := by decide +kernel
theorem dX2_readDrawer_12 : decode cX2_readDrawer 12 = .ok (.iconst 5, 1) := by decide +kernel
theorem dX2_readDrawer_13 : decode cX2_readDrawer 13 = .ok (.aload_n 0, 1) := by decide +kernel
theorem dX2_readDrawer_14 : decode cX2_readDrawer 14 = .ok (.getfield 101, 3) := by decide +kernel
theorem dX2_readDrawer_17 : decode cX2_readDrawer 17 = .ok (.invokevirtual 58, 3) := by decide +kernel
theorem dX2_readDrawer_20 : decode cX2_readDrawer 20 = .ok (.ireturn, 1) := by decide +kernel
theorem dX2_readDrawer_21 : decode cX2_readDrawer 21 = .ok (.aload_n 0, 1) := by decide +kernel
theorem dX2_readDrawer_22 : decode cX2_readDrawer 22 = .ok (.iconst 0, 1) := by decide +kernel
theorem dX2_readDrawer_23 : decode cX2_readDrawer 23 = .ok (.bipush 50, 2) := by decide +kernel
theorem dX2_readDrawer_25 : decode cX2_readDrawer 25 = .ok (.invokevirtual 104, 3) := by decide +kernel
theorem dX2_readDrawer_28 : decode cX2_readDrawer 28 = .ok (.ifCond .ne 5, 3) := by decide +kernel
theorem dX2_readDrawer_31 : decode cX2_readDrawer 31 = .ok (.iconst 0, 1) := by decide +kernel
theorem dX2_readDrawer_32 : decode cX2_readDrawer 32 = .ok (.ireturn, 1) := by decide +kernel
theorem dX2_readDrawer_33 : decode cX2_readDrawer 33 = .ok (.aload_n 0, 1) := by decide +kernel
theorem dX2_readDrawer_34 : decode cX2_readDrawer 34 = .ok (.getfield 18, 3) := by decide +kernel
theorem dX2_readDrawer_37 : decode cX2_readDrawer 37 = .ok (.aload_n 0, 1) := by decide +kernel
theorem dX2_readDrawer_38 : decode cX2_readDrawer 38 = .ok (.getfield 107, 3) := by decide +kernel
theorem dX2_readDrawer_41 : decode cX2_readDrawer 41 = .ok (.invokevirtual 139, 3) := by decide +kernel
theorem dX2_readDrawer_44 : decode cX2_readDrawer 44 = .ok (.aload_n 0, 1) := by decide +kernel
theorem dX2_readDrawer_45 : decode cX2_readDrawer 45 = .ok (.invokevirtual 110, 3) := by decide +kernel
theorem dX2_readDrawer_48 : decode cX2_readDrawer 48 = .ok (.ireturn, 1) := by decide +kernel
theorem dX2_readOne_0 : decode cX2_readOne 0 = .ok (.aload_n 0, 1) := by decide +kernel
theorem dX2_readOne_1 : decode cX2_readOne 1 = .ok (.getfield 18, 3) := by decide +kernel
theorem dX2_readOne_4 : decode cX2_readOne 4 = .ok (.getfield 143, 3) := by decide +kernel
theorem dX2_readOne_7 : decode cX2_readOne 7 = .ok (.iconst 5, 1) := by decide +kernel
theorem dX2_readOne_8 : decode cX2_readOne 8 = .ok (.if_icmp .lt 13, 3) := by decide +kernel
theorem dX2_readOne_11 : decode cX2_readOne 11 = .ok (.aload_n 0, 1) := by decide +kernel
theorem dX2_readOne_12 : decode cX2_readOne 12 = .ok (.iconst 5, 1) := by decide +kernel
theorem dX2_readOne_13 : decode cX2_readOne 13 = .ok (.aload_n 0, 1) := by decide +kernel
theorem dX2_readOne_14 : decode cX2_readOne 14 = .ok (.getfield 101, 3) := by decide +kernel
theorem dX2_readOne_17 : decode cX2_readOne 17 = .ok (.invokevirtual 58, 3) := by decide +kernel
theorem dX2_readOne_20 : decode cX2_readOne 20 = .ok (.ireturn, 1) := by decide +kernel
theorem dX2_readOne_21 : decode cX2_readOne 21 = .ok (.aload_n 0, 1) := by decide +kernel
theorem dX2_readOne_22 : decode cX2_readOne 22 = .ok (.iconst 0, 1) := by decide +kernel
theorem dX2_readOne_23 : decode cX2_readOne 23 = .ok (.bipush 8, 2) := by decide +kernel
theorem dX2_readOne_25 : decode cX2_readOne 25 = .ok (.invokevirtual 104, 3) := by decide +kernel
theorem dX2_readOne_28 : decode cX2_readOne 28 = .ok (.ifCond .ne 5, 3) := by decide +kernel
theorem dX2_readOne_31 : decode cX2_readOne 31 = .ok (.iconst 0, 1) := by decide +kernel
theorem dX2_readOne_32 : decode cX2_readOne 32 = .ok (.ireturn, 1) := by decide +kernel
theorem dX2_readOne_33 : decode cX2_readOne 33 = .ok (.aload_n 0, 1) := by decide +kernel
theorem dX2_readOne_34 : decode cX2_readOne 34 = .ok (.getfield 107, 3) := by decide +kernel
theorem dX2_readOne_37 : decode cX2_readOne 37 = .ok (.istore_n 1, 1) := by decide +kernel
theorem dX2_readOne_38 : decode cX2_readOne 38 = .ok (.aload_n 0, 1) := by decide +kernel
theorem dX2_readOne_39 : decode cX2_readOne 39 = .ok (.iconst 0, 1) := by decide +kernel
theorem dX2_readOne_40 : decode cX2_readOne 40 = .ok (.bipush 8, 2) := by decide +kernel
theorem dX2_readOne_42 : decode cX2_readOne 42 = .ok (.invokevirtual 104, 3) := by decide +kernel
theorem dX2_readOne_45 : decode cX2_readOne 45 = .ok (.ifCond .ne 5, 3) := by decide +kernel
theorem dX2_readOne_48 : decode cX2_readOne 48 = .ok (.iconst 0, 1) := by decide +kernel
theorem dX2_readOne_49 : decode cX2_readOne 49 = .ok (.ireturn, 1) := by decide +kernel
theorem dX2_readOne_50 : decode cX2_readOne 50 = .ok (.aload_n 0, 1) := by decide +kernel
theorem dX2_readOne_51 : decode cX2_readOne 51 = .ok (.getfield 107, 3) := by decide +kernel
theorem dX2_readOne_54 : decode cX2_readOne 54 = .ok (.istore_n 2, 1) := by decide +kernel
theorem dX2_readOne_55 : decode cX2_readOne 55 = .ok (.iload_n 1, 1) := by decide +kernel
theorem dX2_readOne_56 : decode cX2_readOne 56 = .ok (.iload_n 2, 1) := by decide +kernel
theorem dX2_readOne_57 : decode cX2_readOne 57 = .ok (.if_icmp .ne 13, 3) := by decide +kernel
theorem dX2_readOne_60 : decode cX2_readOne 60 = .ok (.aload_n 0, 1) := by decide +kernel
theorem dX2_readOne_61 : decode cX2_readOne 61 = .ok (.iconst 4, 1) := by decide +kernel
theorem dX2_readOne_62 : decode cX2_readOne 62 = .ok (.aload_n 0, 1) := by decide +kernel
theorem dX2_readOne_63 : decode cX2_readOne 63 = .ok (.getfield 101, 3) := by decide +kernel
theorem dX2_readOne_66 : decode cX2_readOne 66 = .ok (.invokevirtual 58, 3) := by decide +kernel
theorem dX2_readOne_69 : decode cX2_readOne 69 = .ok (.ireturn, 1) := by decide +kernel
theorem dX2_readOne_70 : decode cX2_readOne 70 = .ok (.aload_n 0, 1) := by decide +kernel
theorem dX2_readOne_71 : decode cX2_readOne 71 = .ok (.iconst 0, 1) := by decide +kernel
theorem dX2_readOne_72 : decode cX2_readOne 72 = .ok (.bipush 40, 2) := by decide +kernel
theorem dX2_readOne_74 : decode cX2_readOne 74 = .ok (.invokevirtual 104, 3) := by decide +kernel
theorem dX2_readOne_77 : decode cX2_readOne 77 = .ok (.ifCond .ne 5, 3) := by decide +kernel
theorem dX2_readOne_80 : decode cX2_readOne 80 = .ok (.iconst 0, 1) := by decide +kernel
theorem dX2_readOne_81 : decode cX2_readOne 81 = .ok (.ireturn, 1) := by decide +kernel
theorem dX2_readOne_82 : decode cX2_readOne 82 = .ok (.aload_n 0, 1) := by decide +kernel
theorem dX2_readOne_83 : decode cX2_readOne 83 = .ok (.getfield 18, 3) := by decide +kernel
theorem dX2_readOne_86 : decode cX2_readOne 86 = .ok (.iload_n 1, 1) := by decide +kernel
theorem dX2_readOne_87 : decode cX2_readOne 87 = .ok (.iload_n 2, 1) := by decide +kernel
theorem dX2_readOne_88 : decode cX2_readOne 88 = .ok (.aload_n 0, 1) := by decide +kernel
theorem dX2_readOne_89 : decode cX2_readOne 89 = .ok (.getfield 107, 3) := by decide +kernel
theorem dX2_readOne_92 : decode cX2_readOne 92 = .ok (.invokevirtual 146, 3) := by decide +kernel
theorem dX2_readOne_95 : decode cX2_readOne 95 = .ok (.aload_n 0, 1) := by decide +kernel
theorem dX2_readOne_96 : decode cX2_readOne 96 = .ok (.invokevirtual 110, 3) := by decide +kernel
theorem dX2_readOne_99 : decode cX2_readOne 99 = .ok (.ireturn, 1) := by decide +kernel
theorem dX2_readRain_0 : decode cX2_readRain 0 = .ok (.aload_n 0, 1) := by decide +kernel
theorem dX2_readRain_1 : decode cX2_readRain 1 = .ok (.iconst 1, 1) := by decide +kernel
theorem dX2_readRain_2 : decode cX2_readRain 2 = .ok (.bipush 40, 2) := by decide +kernel
theorem dX2_readRain_4 : decode cX2_readRain 4 = .ok (.invokevirtual 104, 3) := by decide +kernel
theorem dX2_readRain_7 : decode cX2_readRain 7 = .ok (.ifCond .ne 5, 3) := by decide +kernel
theorem dX2_readRain_10 : decode cX2_readRain 10 = .ok (.iconst 0, 1) := by decide +kernel
theorem dX2_readRain_11 : decode cX2_readRain 11 = .ok (.ireturn, 1) := by decide +kernel
theorem dX2_readRain_12 : decode cX2_readRain 12 = .ok (.aload_n 0, 1) := by decide +kernel
theorem dX2_readRain_13 : decode cX2_readRain 13 = .ok (.getfield 18, 3) := by decide +kernel
theorem dX2_readRain_16 : decode cX2_readRain 16 = .ok (.aload_n 0, 1) := by decide +kernel
theorem dX2_readRain_17 : decode cX2_readRain 17 = .ok (.getfield 107, 3) := by decide +kernel
theorem dX2_readRain_20 : decode cX2_readRain 20 = .ok (.invokevirtual 150, 3) := by decide +kernel
theorem dX2_readRain_23 : decode cX2_readRain 23 = .ok (.ifCond .eq 13, 3) := by decide +kernel
theorem dX2_readRain_26 : decode cX2_readRain 26 = .ok (.aload_n 0, 1) := by decide +kernel
theorem dX2_readRain_27 : decode cX2_readRain 27 = .ok (.iconst 4, 1) := by decide +kernel
theorem dX2_readRain_28 : decode cX2_readRain 28 = .ok (.aload_n 0, 1) := by decide +kernel
theorem dX2_readRain_29 : decode cX2_readRain 29 = .ok (.getfield 101, 3) := by decide +kernel
theorem dX2_readRain_32 : decode cX2_readRain 32 = .ok (.invokevirtual 58, 3) := by decide +kernel
theorem dX2_readRain_35 : decode cX2_readRain 35 = .ok (.ireturn, 1) := by decide +kernel
theorem dX2_readRain_36 : decode cX2_readRain 36 = .ok (.aload_n 0, 1) := by decide +kernel
theorem dX2_readRain_37 : decode cX2_readRain 37 = .ok (.getfield 18, 3) := by decide +kernel
theorem dX2_readRain_40 : decode cX2_readRain 40 = .ok (.aload_n 0, 1) := by decide +kernel
theorem dX2_readRain_41 : decode cX2_readRain 41 = .ok (.getfield 107, 3) := by decide +kernel
theorem dX2_readRain_44 : decode cX2_readRain 44 = .ok (.iconst 1, 1) := by decide +kernel
theorem dX2_readRain_45 : decode cX2_readRain 45 = .ok (.invokevirtual 153, 3) := by decide +kernel
theorem dX2_readRain_48 : decode cX2_readRain 48 = .ok (.aload_n 0, 1) := by decide +kernel
theorem dX2_readRain_49 : decode cX2_readRain 49 = .ok (.invokevirtual 110, 3) := by decide +kernel
theorem dX2_readRain_52 : decode cX2_readRain 52 = .ok (.ireturn, 1) := by decide +kernel
theorem dX2_fail_0 : decode cX2_fail 0 = .ok (.aload_n 0, 1) := by decide +kernel
theorem dX2_fail_1 : decode cX2_fail 1 = .ok (.iload_n 1, 1) := by decide +kernel
theorem dX2_fail_2 : decode cX2_fail 2 = .ok (.putfield 29, 3) := by decide +kernel
theorem dX2_fail_5 : decode cX2_fail 5 = .ok (.aload_n 0, 1) := by decide +kernel
theorem dX2_fail_6 : decode cX2_fail 6 = .ok (.iload_n 2, 1) := by decide +kernel
theorem dX2_fail_7 : decode cX2_fail 7 = .ok (.putfield 32, 3) := by decide +kernel
theorem dX2_fail_10 : decode cX2_fail 10 = .ok (.iconst 0, 1) := by decide +kernel
theorem dX2_fail_11 : decode cX2_fail 11 = .ok (.ireturn, 1) := by decide +kernel
theorem dX2_nextSign_0 : decode cX2_nextSign 0 = .ok (.aload_n 0, 1) := by decide +kernel
theorem dX2_nextSign_1 : decode cX2_nextSign 1 = .ok (.invokevirtual 62, 3) := by decide +kernel
theorem dX2_nextSign_4 : decode cX2_nextSign 4 = .ok (.ifCond .eq 27, 3) := by decide +kernel
theorem dX2_nextSign_7 : decode cX2_nextSign 7 = .ok (.aload_n 0, 1) := by decide +kernel
theorem dX2_nextSign_8 : decode cX2_nextSign 8 = .ok (.getfield 65, 3) := by decide +kernel
theorem dX2_nextSign_11 : decode cX2_nextSign 11 = .ok (.iconst 3, 1) := by decide +kernel
theorem dX2_nextSign_12 : decode cX2_nextSign 12 = .ok (.if_icmp .eq 15, 3) := by decide +kernel
theorem dX2_nextSign_15 : decode cX2_nextSign 15 = .ok (.aload_n 0, 1) := by decide +kernel
theorem dX2_nextSign_16 : decode cX2_nextSign 16 = .ok (.iconst 2, 1) := by decide +kernel
theorem dX2_nextSign_17 : decode cX2_nextSign 17 = .ok (.aload_n 0, 1) := by decide +kernel
theorem dX2_nextSign_18 : decode cX2_nextSign 18 = .ok (.getfield 101, 3) := by decide +kernel
theorem dX2_nextSign_21 : decode cX2_nextSign 21 = .ok (.invokevirtual 58, 3) := by decide +kernel
theorem dX2_nextSign_24 : decode cX2_nextSign 24 = .ok (.ifCond .eq 7, 3) := by decide +kernel
theorem dX2_nextSign_27 : decode cX2_nextSign 27 = .ok (.iconst 1, 1) := by decide +kernel
theorem dX2_nextSign_28 : decode cX2_nextSign 28 = .ok (.goto 4, 3) := by decide +kernel
theorem dX2_nextSign_31 : decode cX2_nextSign 31 = .ok (.iconst 0, 1) := by decide +kernel
theorem dX2_nextSign_32 : decode cX2_nextSign 32 = .ok (.ireturn, 1) := by decide +kernel
theorem dX2_nextNumber_0 : decode cX2_nextNumber 0 = .ok (.aload_n 0, 1) := by decide +kernel
theorem dX2_nextNumber_1 : decode cX2_nextNumber 1 = .ok (.invokevirtual 62, 3) := by decide +kernel
theorem dX2_nextNumber_4 : decode cX2_nextNumber 4 = .ok (.ifCond .ne 5, 3) := by decide +kernel
theorem dX2_nextNumber_7 : decode cX2_nextNumber 7 = .ok (.iconst 0, 1) := by decide +kernel
theorem dX2_nextNumber_8 : decode cX2_nextNumber 8 = .ok (.ireturn, 1) := by decide +kernel
theorem dX2_nextNumber_9 : decode cX2_nextNumber 9 = .ok (.aload_n 0, 1) := by decide +kernel
theorem dX2_nextNumber_10 : decode cX2_nextNumber 10 = .ok (.getfield 65, 3) := by decide +kernel
theorem dX2_nextNumber_13 : decode cX2_nextNumber 13 = .ok (.iconst 2, 1) := by decide +kernel
theorem dX2_nextNumber_14 : decode cX2_nextNumber 14 = .ok (.if_icmp .eq 13, 3) := by decide +kernel
theorem dX2_nextNumber_17 : decode cX2_nextNumber 17 = .ok (.aload_n 0, 1) := by decide +kernel
theorem dX2_nextNumber_18 : decode cX2_nextNumber 18 = .ok (.iconst 2, 1) := by decide +kernel
theorem dX2_nextNumber_19 : decode cX2_nextNumber 19 = .ok (.aload_n 0, 1) := by decide +kernel
theorem dX2_nextNumber_20 : decode cX2_nextNumber 20 = .ok (.getfield 101, 3) := by decide +kernel
theorem dX2_nextNumber_23 : decode cX2_nextNumber 23 = .ok (.invokevirtual 58, 3) := by decide +kernel
theorem dX2_nextNumber_26 : decode cX2_nextNumber 26 = .ok (.ireturn, 1) := by decide +kernel
theorem dX2_nextNumber_27 : decode cX2_nextNumber 27 = .ok (.aload_n 0, 1) := by decide +kernel
theorem dX2_nextNumber_28 : decode cX2_nextNumber 28 = .ok (.getfield 107, 3) := by decide +kernel
theorem dX2_nextNumber_31 : decode cX2_nextNumber 31 = .ok (.iload_n 1, 1) := by decide +kernel
theorem dX2_nextNumber_32 : decode cX2_nextNumber 32 = .ok (.if_icmp .lt 11, 3) := by decide +kernel
theorem dX2_nextNumber_35 : decode cX2_nextNumber 35 = .ok (.aload_n 0, 1) := by decide +kernel
theorem dX2_nextNumber_36 : decode cX2_nextNumber 36 = .ok (.getfield 107, 3) := by decide +kernel
theorem dX2_nextNumber_39 : decode cX2_nextNumber 39 = .ok (.iload_n 2, 1) := by decide +kernel
theorem dX2_nextNumber_40 : decode cX2_nextNumber 40 = .ok (.if_icmp .le 15, 3) := by decide +kernel
theorem dX2_nextNumber_43 : decode cX2_nextNumber 43 = .ok (.aload_n 0, 1) := by decide +kernel
theorem dX2_nextNumber_44 : decode cX2_nextNumber 44 = .ok (.iconst 3, 1) := by decide +kernel
theorem dX2_nextNumber_45 : decode cX2_nextNumber 45 = .ok (.aload_n 0, 1) := by decide +kernel
theorem dX2_nextNumber_46 : decode cX2_nextNumber 46 = .ok (.getfield 101, 3) := by decide +kernel
theorem dX2_nextNumber_49 : decode cX2_nextNumber 49 = .ok (.invokevirtual 58, 3) := by decide +kernel
theorem dX2_nextNumber_52 : decode cX2_nextNumber 52 = .ok (.ifCond .eq 7, 3) := by decide +kernel
theorem dX2_nextNumber_55 : decode cX2_nextNumber 55 = .ok (.iconst 1, 1) := by decide +kernel
theorem dX2_nextNumber_56 : decode cX2_nextNumber 56 = .ok (.goto 4, 3) := by decide +kernel
theorem dX2_nextNumber_59 : decode cX2_nextNumber 59 = .ok (.iconst 0, 1) := by decide +kernel
theorem dX2_nextNumber_60 : decode cX2_nextNumber 60 = .ok (.ireturn, 1) := by decide +kernel
theorem dX2_nextToken_0 : decode cX2_nextToken 0 = .ok (.aload_n 0, 1) := by decide +kernel
theorem dX2_nextToken_1 : decode cX2_nextToken 1 = .ok (.aload_n 0, 1) := by decide +kernel
theorem dX2_nextToken_2 : decode cX2_nextToken 2 = .ok (.getfield 9, 3) := by decide +kernel
theorem dX2_nextToken_5 : decode cX2_nextToken 5 = .ok (.aload_n 0, 1) := by decide +kernel
theorem dX2_nextToken_6 : decode cX2_nextToken 6 = .ok (.getfield 39, 3) := by decide +kernel
theorem dX2_nextToken_9 : decode cX2_nextToken 9 = .ok (.bipush 32, 2) := by decide +kernel
theorem dX2_nextToken_11 : decode cX2_nextToken 11 = .ok (.bipush 32, 2) := by decide +kernel
theorem dX2_nextToken_13 : decode cX2_nextToken 13 = .ok (.invokevirtual 156, 3) := by decide +kernel
theorem dX2_nextToken_16 : decode cX2_nextToken 16 = .ok (.putfield 101, 3) := by decide +kernel
theorem dX2_nextToken_19 : decode cX2_nextToken 19 = .ok (.aload_n 0, 1) := by decide +kernel
theorem dX2_nextToken_20 : decode cX2_nextToken 20 = .ok (.aload_n 0, 1) := by decide +kernel
theorem dX2_nextToken_21 : decode cX2_nextToken 21 = .ok (.getfield 101, 3) := by decide +kernel
theorem dX2_nextToken_24 : decode cX2_nextToken 24 = .ok (.iconst 1, 1) := by decide +kernel
theorem dX2_nextToken_25 : decode cX2_nextToken 25 = .ok (.iadd, 1) := by decide +kernel
theorem dX2_nextToken_26 : decode cX2_nextToken 26 = .ok (.putfield 39, 3) := by decide +kernel
theorem dX2_nextToken_29 : decode cX2_nextToken 29 = .ok (.aload_n 0, 1) := by decide +kernel
theorem dX2_nextToken_30 : decode cX2_nextToken 30 = .ok (.getfield 9, 3) := by decide +kernel
theorem dX2_nextToken_33 : decode cX2_nextToken 33 = .ok (.aload_n 0, 1) := by decide +kernel
theorem dX2_nextToken_34 : decode cX2_nextToken 34 = .ok (.getfield 101, 3) := by decide +kernel
theorem dX2_nextToken_37 : decode cX2_nextToken 37 = .ok (.invokevirtual 160, 3) := by decide +kernel
theorem dX2_nextToken_40 : decode cX2_nextToken 40 = .ok (.istore_n 1, 1) := by decide +kernel
theorem dX2_nextToken_41 : decode cX2_nextToken 41 = .ok (.iload_n 1, 1) := by decide +kernel
theorem dX2_nextToken_42 : decode cX2_nextToken 42 = .ok (.ifCond .ge 11, 3) := by decide +kernel
theorem dX2_nextToken_45 : decode cX2_nextToken 45 = .ok (.aload_n 0, 1) := by decide +kernel
theorem dX2_nextToken_46 : decode cX2_nextToken 46 = .ok (.iconst 0, 1) := by decide +kernel
theorem dX2_nextToken_47 : decode cX2_nextToken 47 = .ok (.putfield 65, 3) := by decide +kernel
theorem dX2_nextToken_50 : decode cX2_nextToken 50 = .ok (.goto 152, 3) := by decide +kernel
theorem dX2_nextToken_53 : decode cX2_nextToken 53 = .ok (.iload_n 1, 1) := by decide +kernel
theorem dX2_nextToken_54 : decode cX2_nextToken 54 = .ok (.bipush 59, 2) := by decide +kernel
theorem dX2_nextToken_56 : decode cX2_nextToken 56 = .ok (.if_icmp .ne 11, 3) := by decide +kernel
theorem dX2_nextToken_59 : decode cX2_nextToken 59 = .ok (.aload_n 0, 1) := by decide +kernel
theorem dX2_nextToken_60 : decode cX2_nextToken 60 = .ok (.iconst 3, 1) := by decide +kernel
theorem dX2_nextToken_61 : decode cX2_nextToken 61 = .ok (.putfield 65, 3) := by decide +kernel
theorem dX2_nextToken_64 : decode cX2_nextToken 64 = .ok (.goto 138, 3) := by decide +kernel
theorem dX2_nextToken_67 : decode cX2_nextToken 67 = .ok (.iload_n 1, 1) := by decide +kernel
theorem dX2_nextToken_68 : decode cX2_nextToken 68 = .ok (.bipush 97, 2) := by decide +kernel
theorem dX2_nextToken_70 : decode cX2_nextToken 70 = .ok (.if_icmp .lt 36, 3) := by decide +kernel
theorem dX2_nextToken_73 : decode cX2_nextToken 73 = .ok (.iload_n 1, 1) := by decide +kernel
theorem dX2_nextToken_74 : decode cX2_nextToken 74 = .ok (.bipush 122, 2) := by decide +kernel
theorem dX2_nextToken_76 : decode cX2_nextToken 76 = .ok (.if_icmp .gt 30, 3) := by decide +kernel
theorem dX2_nextToken_79 : decode cX2_nextToken 79 = .ok (.aload_n 0, 1) := by decide +kernel
theorem dX2_nextToken_80 : decode cX2_nextToken 80 = .ok (.iconst 1, 1) := by decide +kernel
theorem dX2_nextToken_81 : decode cX2_nextToken 81 = .ok (.putfield 65, 3) := by decide +kernel
theorem dX2_nextToken_84 : decode cX2_nextToken 84 = .ok (.aload_n 0, 1) := by decide +kernel
theorem dX2_nextToken_85 : decode cX2_nextToken 85 = .ok (.aload_n 0, 1) := by decide +kernel
theorem dX2_nextToken_86 : decode cX2_nextToken 86 = .ok (.getfield 9, 3) := by decide +kernel
theorem dX2_nextToken_89 : decode cX2_nextToken 89 = .ok (.aload_n 0, 1) := by decide +kernel
theorem dX2_nextToken_90 : decode cX2_nextToken 90 = .ok (.getfield 101, 3) := by decide +kernel
theorem dX2_nextToken_93 : decode cX2_nextToken 93 = .ok (.bipush 97, 2) := by decide +kernel
theorem dX2_nextToken_95 : decode cX2_nextToken 95 = .ok (.bipush 122, 2) := by decide +kernel
theorem dX2_nextToken_97 : decode cX2_nextToken 97 = .ok (.invokevirtual 156, 3) := by decide +kernel
theorem dX2_nextToken_100 : decode cX2_nextToken 100 = .ok (.putfield 39, 3) := by decide +kernel
theorem dX2_nextToken_103 : decode cX2_nextToken 103 = .ok (.goto 99, 3) := by decide +kernel
theorem dX2_nextToken_106 : decode cX2_nextToken 106 = .ok (.iload_n 1, 1) := by decide +kernel
theorem dX2_nextToken_107 : decode cX2_nextToken 107 = .ok (.bipush 48, 2) := by decide +kernel
theorem dX2_nextToken_109 : decode cX2_nextToken 109 = .ok (.if_icmp .lt 83, 3) := by decide +kernel
theorem dX2_nextToken_112 : decode cX2_nextToken 112 = .ok (.iload_n 1, 1) := by decide +kernel
theorem dX2_nextToken_113 : decode cX2_nextToken 113 = .ok (.bipush 57, 2) := by decide +kernel
theorem dX2_nextToken_115 : decode cX2_nextToken 115 = .ok (.if_icmp .gt 77, 3) := by decide +kernel
theorem dX2_nextToken_118 : decode cX2_nextToken 118 = .ok (.aload_n 0, 1) := by decide +kernel
theorem dX2_nextToken_119 : decode cX2_nextToken 119 = .ok (.iconst 2, 1) := by decide +kernel
theorem dX2_nextToken_120 : decode cX2_nextToken 120 = .ok (.putfield 65, 3) := by decide +kernel
theorem dX2_nextToken_123 : decode cX2_nextToken 123 = .ok (.aload_n 0, 1) := by decide +kernel
theorem dX2_nextToken_124 : decode cX2_nextToken 124 = .ok (.aload_n 0, 1) := by decide +kernel
theorem dX2_nextToken_125 : decode cX2_nextToken 125 = .ok (.getfield 9, 3) := by decide +kernel
theorem dX2_nextToken_128 : decode cX2_nextToken 128 = .ok (.aload_n 0, 1) := by decide +kernel
theorem dX2_nextToken_129 : decode cX2_nextToken 129 = .ok (.getfield 101, 3) := by decide +kernel
theorem dX2_nextToken_132 : decode cX2_nextToken 132 = .ok (.bipush 48, 2) := by decide +kernel
theorem dX2_nextToken_134 : decode cX2_nextToken 134 = .ok (.bipush 57, 2) := by decide +kernel
theorem dX2_nextToken_136 : decode cX2_nextToken 136 = .ok (.invokevirtual 156, 3) := by decide +kernel
theorem dX2_nextToken_139 : decode cX2_nextToken 139 = .ok (.putfield 39, 3) := by decide +kernel
theorem dX2_nextToken_142 : decode cX2_nextToken 142 = .ok (.aload_n 0, 1) := by decide +kernel
theorem dX2_nextToken_143 : decode cX2_nextToken 143 = .ok (.aload_n 0, 1) := by decide +kernel
theorem dX2_nextToken_144 : decode cX2_nextToken 144 = .ok (.getfield 9, 3) := by decide +kernel
theorem dX2_nextToken_147 : decode cX2_nextToken 147 = .ok (.aload_n 0, 1) := by decide +kernel
theorem dX2_nextToken_148 : decode cX2_nextToken 148 = .ok (.getfield 101, 3) := by decide +kernel
theorem dX2_nextToken_151 : decode cX2_nextToken 151 = .ok (.aload_n 0, 1) := by decide +kernel
theorem dX2_nextToken_152 : decode cX2_nextToken 152 = .ok (.getfield 39, 3) := by decide +kernel
theorem dX2_nextToken_155 : decode cX2_nextToken 155 = .ok (.invokevirtual 164, 3) := by decide +kernel
theorem dX2_nextToken_158 : decode cX2_nextToken 158 = .ok (.putfield 107, 3) := by decide +kernel
theorem dX2_nextToken_161 : decode cX2_nextToken 161 = .ok (.aload_n 0, 1) := by decide +kernel
theorem dX2_nextToken_162 : decode cX2_nextToken 162 = .ok (.getfield 39, 3) := by decide +kernel
theorem dX2_nextToken_165 : decode cX2_nextToken 165 = .ok (.aload_n 0, 1) := by decide +kernel
theorem dX2_nextToken_166 : decode cX2_nextToken 166 = .ok (.getfield 101, 3) := by decide +kernel
theorem dX2_nextToken_169 : decode cX2_nextToken 169 = .ok (.isub, 1) := by decide +kernel
theorem dX2_nextToken_170 : decode cX2_nextToken 170 = .ok (.iconst 2, 1) := by decide +kernel
theorem dX2_nextToken_171 : decode cX2_nextToken 171 = .ok (.if_icmp .le 15, 3) := by decide +kernel
theorem dX2_nextToken_174 : decode cX2_nextToken 174 = .ok (.aload_n 0, 1) := by decide +kernel
theorem dX2_nextToken_175 : decode cX2_nextToken 175 = .ok (.iconst 1, 1) := by decide +kernel
theorem dX2_nextToken_176 : decode cX2_nextToken 176 = .ok (.aload_n 0, 1) := by decide +kernel
theorem dX2_nextToken_177 : decode cX2_nextToken 177 = .ok (.getfield 101, 3) := by decide +kernel
theorem dX2_nextToken_180 : decode cX2_nextToken 180 = .ok (.invokevirtual 58, 3) := by decide +kernel
theorem dX2_nextToken_183 : decode cX2_nextToken 183 = .ok (.ifCond .eq 7, 3) := by decide +kernel
theorem dX2_nextToken_186 : decode cX2_nextToken 186 = .ok (.iconst 1, 1) := by decide +kernel
theorem dX2_nextToken_187 : decode cX2_nextToken 187 = .ok (.goto 4, 3) := by decide +kernel
theorem dX2_nextToken_190 : decode cX2_nextToken 190 = .ok (.iconst 0, 1) := by decide +kernel
theorem dX2_nextToken_191 : decode cX2_nextToken 191 = .ok (.ireturn, 1) := by decide +kernel
theorem dX2_nextToken_192 : decode cX2_nextToken 192 = .ok (.aload_n 0, 1) := by decide +kernel
theorem dX2_nextToken_193 : decode cX2_nextToken 193 = .ok (.iconst 1, 1) := by decide +kernel
theorem dX2_nextToken_194 : decode cX2_nextToken 194 = .ok (.aload_n 0, 1) := by decide +kernel
theorem dX2_nextToken_195 : decode cX2_nextToken 195 = .ok (.getfield 101, 3) := by decide +kernel
theorem dX2_nextToken_198 : decode cX2_nextToken 198 = .ok (.invokevirtual 58, 3) := by decide +kernel
theorem dX2_nextToken_201 : decode cX2_nextToken 201 = .ok (.ireturn, 1) := by decide +kernel
theorem dX2_nextToken_202 : decode cX2_nextToken 202 = .ok (.iconst 1, 1) := by decide +kernel
theorem dX2_nextToken_203 : decode cX2_nextToken 203 = .ok (.ireturn, 1) := by decide +kernel
theorem dX2_nameIs_0 : decode cX2_nameIs 0 = .ok (.aload_n 0, 1) := by decide +kernel
theorem dX2_nameIs_1 : decode cX2_nameIs 1 = .ok (.getfield 39, 3) := by decide +kernel
theorem dX2_nameIs_4 : decode cX2_nameIs 4 = .ok (.aload_n 0, 1) := by decide +kernel
theorem dX2_nameIs_5 : decode cX2_nameIs 5 = .ok (.getfield 101, 3) := by decide +kernel
theorem dX2_nameIs_8 : decode cX2_nameIs 8 = .ok (.isub, 1) := by decide +kernel
theorem dX2_nameIs_9 : decode cX2_nameIs 9 = .ok (.aload_n 1, 1) := by decide +kernel
theorem dX2_nameIs_10 : decode cX2_nameIs 10 = .ok (.invokevirtual 168, 3) := by decide +kernel
theorem dX2_nameIs_13 : decode cX2_nameIs 13 = .ok (.if_icmp .eq 5, 3) := by decide +kernel
theorem dX2_nameIs_16 : decode cX2_nameIs 16 = .ok (.iconst 0, 1) := by decide +kernel
theorem dX2_nameIs_17 : decode cX2_nameIs 17 = .ok (.ireturn, 1) := by decide +kernel
theorem dX2_nameIs_18 : decode cX2_nameIs 18 = .ok (.iconst 0, 1) := by decide +kernel
theorem dX2_nameIs_19 : decode cX2_nameIs 19 = .ok (.istore_n 2, 1) := by decide +kernel
theorem dX2_nameIs_20 : decode cX2_nameIs 20 = .ok (.iload_n 2, 1) := by decide +kernel
theorem dX2_nameIs_21 : decode cX2_nameIs 21 = .ok (.aload_n 1, 1) := by decide +kernel
theorem dX2_nameIs_22 : decode cX2_nameIs 22 = .ok (.invokevirtual 168, 3) := by decide +kernel
theorem dX2_nameIs_25 : decode cX2_nameIs 25 = .ok (.if_icmp .ge 32, 3) := by decide +kernel
theorem dX2_nameIs_28 : decode cX2_nameIs 28 = .ok (.aload_n 0, 1) := by decide +kernel
theorem dX2_nameIs_29 : decode cX2_nameIs 29 = .ok (.getfield 9, 3) := by decide +kernel
theorem dX2_nameIs_32 : decode cX2_nameIs 32 = .ok (.aload_n 0, 1) := by decide +kernel
theorem dX2_nameIs_33 : decode cX2_nameIs 33 = .ok (.getfield 101, 3) := by decide +kernel
theorem dX2_nameIs_36 : decode cX2_nameIs 36 = .ok (.iload_n 2, 1) := by decide +kernel
theorem dX2_nameIs_37 : decode cX2_nameIs 37 = .ok (.iadd, 1) := by decide +kernel
theorem dX2_nameIs_38 : decode cX2_nameIs 38 = .ok (.invokevirtual 160, 3) := by decide +kernel
theorem dX2_nameIs_41 : decode cX2_nameIs 41 = .ok (.aload_n 1, 1) := by decide +kernel
theorem dX2_nameIs_42 : decode cX2_nameIs 42 = .ok (.iload_n 2, 1) := by decide +kernel
theorem dX2_nameIs_43 : decode cX2_nameIs 43 = .ok (.invokevirtual 172, 3) := by decide +kernel
theorem dX2_nameIs_46 : decode cX2_nameIs 46 = .ok (.if_icmp .eq 5, 3) := by decide +kernel
theorem dX2_nameIs_49 : decode cX2_nameIs 49 = .ok (.iconst 0, 1) := by decide +kernel
theorem dX2_nameIs_50 : decode cX2_nameIs 50 = .ok (.ireturn, 1) := by decide +kernel
theorem dX2_nameIs_51 : decode cX2_nameIs 51 = .ok (.iinc 2 1, 3) := by decide +kernel
theorem dX2_nameIs_54 : decode cX2_nameIs 54 = .ok (.goto (-34), 3) := by decide +kernel
theorem dX2_nameIs_57 : decode cX2_nameIs 57 = .ok (.iconst 1, 1) := by decide +kernel
theorem dX2_nameIs_58 : decode cX2_nameIs 58 = .ok (.ireturn, 1) := by decide +kernel
theorem dX3_clear_0 : decode cX3_clear 0 = .ok (.aload_n 0, 1) := by decide +kernel
theorem dX3_clear_1 : decode cX3_clear 1 = .ok (.iconst 5, 1) := by decide +kernel
theorem dX3_clear_2 : decode cX3_clear 2 = .ok (.putfield 39, 3) := by decide +kernel
theorem dX3_clear_5 : decode cX3_clear 5 = .ok (.aload_n 0, 1) := by decide +kernel
theorem dX3_clear_6 : decode cX3_clear 6 = .ok (.iconst 0, 1) := by decide +kernel
theorem dX3_clear_7 : decode cX3_clear 7 = .ok (.putfield 43, 3) := by decide +kernel
theorem dX3_clear_10 : decode cX3_clear 10 = .ok (.aload_n 0, 1) := by decide +kernel
theorem dX3_clear_11 : decode cX3_clear 11 = .ok (.iconst 0, 1) := by decide +kernel
theorem dX3_clear_12 : decode cX3_clear 12 = .ok (.putfield 46, 3) := by decide +kernel
theorem dX3_clear_15 : decode cX3_clear 15 = .ok (.aload_n 0, 1) := by decide +kernel
theorem dX3_clear_16 : decode cX3_clear 16 = .ok (.iconst 0, 1) := by decide +kernel
theorem dX3_clear_17 : decode cX3_clear 17 = .ok (.putfield 49, 3) := by decide +kernel
theorem dX3_clear_20 : decode cX3_clear 20 = .ok (.aload_n 0, 1) := by decide +kernel
theorem dX3_clear_21 : decode cX3_clear 21 = .ok (.iconst 0, 1) := by decide +kernel
theorem dX3_clear_22 : decode cX3_clear 22 = .ok (.putfield 52, 3) := by decide +kernel
theorem dX3_clear_25 : decode cX3_clear 25 = .ok (.aload_n 0, 1) := by decide +kernel
theorem dX3_clear_26 : decode cX3_clear 26 = .ok (.iconst 0, 1) := by decide +kernel
theorem dX3_clear_27 : decode cX3_clear 27 = .ok (.putfield 55, 3) := by decide +kernel
theorem dX3_clear_30 : decode cX3_clear 30 = .ok (.aload_n 0, 1) := by decide +kernel
theorem dX3_clear_31 : decode cX3_clear 31 = .ok (.lconst 0, 1) := by decide +kernel
theorem dX3_clear_32 : decode cX3_clear 32 = .ok (.putfield 58, 3) := by decide +kernel
theorem dX3_clear_35 : decode cX3_clear 35 = .ok (.aload_n 0, 1) := by decide +kernel
theorem dX3_clear_36 : decode cX3_clear 36 = .ok (.iconst 0, 1) := by decide +kernel
theorem dX3_clear_37 : decode cX3_clear 37 = .ok (.putfield 62, 3) := by decide +kernel
theorem dX3_clear_40 : decode cX3_clear 40 = .ok (.aload_n 0, 1) := by decide +kernel
theorem dX3_clear_41 : decode cX3_clear 41 = .ok (.iconst 0, 1) := by decide +kernel
theorem dX3_clear_42 : decode cX3_clear 42 = .ok (.putfield 65, 3) := by decide +kernel
theorem dX3_clear_45 : decode cX3_clear 45 = .ok (.return_, 1) := by decide +kernel
theorem dX3_copyOf_0 : decode cX3_copyOf 0 = .ok (.aload_n 0, 1) := by decide +kernel
theorem dX3_copyOf_1 : decode cX3_copyOf 1 = .ok (.aload_n 1, 1) := by decide +kernel
theorem dX3_copyOf_2 : decode cX3_copyOf 2 = .ok (.getfield 39, 3) := by decide +kernel
theorem dX3_copyOf_5 : decode cX3_copyOf 5 = .ok (.putfield 39, 3) := by decide +kernel
theorem dX3_copyOf_8 : decode cX3_copyOf 8 = .ok (.aload_n 0, 1) := by decide +kernel
theorem dX3_copyOf_9 : decode cX3_copyOf 9 = .ok (.aload_n 1, 1) := by decide +kernel
theorem dX3_copyOf_10 : decode cX3_copyOf 10 = .ok (.getfield 43, 3) := by decide +kernel
theorem dX3_copyOf_13 : decode cX3_copyOf 13 = .ok (.putfield 43, 3) := by decide +kernel
theorem dX3_copyOf_16 : decode cX3_copyOf 16 = .ok (.aload_n 0, 1) := by decide +kernel
theorem dX3_copyOf_17 : decode cX3_copyOf 17 = .ok (.aload_n 1, 1) := by decide +kernel
theorem dX3_copyOf_18 : decode cX3_copyOf 18 = .ok (.getfield 46, 3) := by decide +kernel
theorem dX3_copyOf_21 : decode cX3_copyOf 21 = .ok (.putfield 46, 3) := by decide +kernel
theorem dX3_copyOf_24 : decode cX3_copyOf 24 = .ok (.aload_n 0, 1) := by decide +kernel
theorem dX3_copyOf_25 : decode cX3_copyOf 25 = .ok (.aload_n 1, 1) := by decide +kernel
theorem dX3_copyOf_26 : decode cX3_copyOf 26 = .ok (.getfield 49, 3) := by decide +kernel
theorem dX3_copyOf_29 : decode cX3_copyOf 29 = .ok (.putfield 49, 3) := by decide +kernel
theorem dX3_copyOf_32 : decode cX3_copyOf 32 = .ok (.aload_n 0, 1) := by decide +kernel
theorem dX3_copyOf_33 : decode cX3_copyOf 33 = .ok (.aload_n 1, 1) := by decide +kernel
theorem dX3_copyOf_34 : decode cX3_copyOf 34 = .ok (.getfield 52, 3) := by decide +kernel
theorem dX3_copyOf_37 : decode cX3_copyOf 37 = .ok (.putfield 52, 3) := by decide +kernel
theorem dX3_copyOf_40 : decode cX3_copyOf 40 = .ok (.aload_n 0, 1) := by decide +kernel
theorem dX3_copyOf_41 : decode cX3_copyOf 41 = .ok (.aload_n 1, 1) := by decide +kernel
theorem dX3_copyOf_42 : decode cX3_copyOf 42 = .ok (.getfield 55, 3) := by decide +kernel
theorem dX3_copyOf_45 : decode cX3_copyOf 45 = .ok (.putfield 55, 3) := by decide +kernel
theorem dX3_copyOf_48 : decode cX3_copyOf 48 = .ok (.aload_n 0, 1) := by decide +kernel
theorem dX3_copyOf_49 : decode cX3_copyOf 49 = .ok (.aload_n 1, 1) := by decide +kernel
theorem dX3_copyOf_50 : decode cX3_copyOf 50 = .ok (.getfield 58, 3) := by decide +kernel
theorem dX3_copyOf_53 : decode cX3_copyOf 53 = .ok (.putfield 58, 3) := by decide +kernel
theorem dX3_copyOf_56 : decode cX3_copyOf 56 = .ok (.aload_n 0, 1) := by decide +kernel
theorem dX3_copyOf_57 : decode cX3_copyOf 57 = .ok (.aload_n 1, 1) := by decide +kernel
theorem dX3_copyOf_58 : decode cX3_copyOf 58 = .ok (.getfield 62, 3) := by decide +kernel
theorem dX3_copyOf_61 : decode cX3_copyOf 61 = .ok (.putfield 62, 3) := by decide +kernel
theorem dX3_copyOf_64 : decode cX3_copyOf 64 = .ok (.aload_n 0, 1) := by decide +kernel
theorem dX3_copyOf_65 : decode cX3_copyOf 65 = .ok (.aload_n 1, 1) := by decide +kernel
theorem dX3_copyOf_66 : decode cX3_copyOf 66 = .ok (.getfield 65, 3) := by decide +kernel
theorem dX3_copyOf_69 : decode cX3_copyOf 69 = .ok (.putfield 65, 3) := by decide +kernel
theorem dX3_copyOf_72 : decode cX3_copyOf 72 = .ok (.aload_n 1, 1) := by decide +kernel
theorem dX3_copyOf_73 : decode cX3_copyOf 73 = .ok (.getfield 9, 3) := by decide +kernel
theorem dX3_copyOf_76 : decode cX3_copyOf 76 = .ok (.iconst 0, 1) := by decide +kernel
theorem dX3_copyOf_77 : decode cX3_copyOf 77 = .ok (.aload_n 0, 1) := by decide +kernel
theorem dX3_copyOf_78 : decode cX3_copyOf 78 = .ok (.getfield 9, 3) := by decide +kernel
theorem dX3_copyOf_81 : decode cX3_copyOf 81 = .ok (.iconst 0, 1) := by decide +kernel
theorem dX3_copyOf_82 : decode cX3_copyOf 82 = .ok (.bipush 12, 2) := by decide +kernel
theorem dX3_copyOf_84 : decode cX3_copyOf 84 = .ok (.invokestatic 68, 3) := by decide +kernel
theorem dX3_copyOf_87 : decode cX3_copyOf 87 = .ok (.aload_n 1, 1) := by decide +kernel
theorem dX3_copyOf_88 : decode cX3_copyOf 88 = .ok (.getfield 15, 3) := by decide +kernel
theorem dX3_copyOf_91 : decode cX3_copyOf 91 = .ok (.iconst 0, 1) := by decide +kernel
theorem dX3_copyOf_92 : decode cX3_copyOf 92 = .ok (.aload_n 0, 1) := by decide +kernel
theorem dX3_copyOf_93 : decode cX3_copyOf 93 = .ok (.getfield 15, 3) := by decide +kernel
theorem dX3_copyOf_96 : decode cX3_copyOf 96 = .ok (.iconst 0, 1) := by decide +kernel
theorem dX3_copyOf_97 : decode cX3_copyOf 97 = .ok (.bipush 12, 2) := by decide +kernel
theorem dX3_copyOf_99 : decode cX3_copyOf 99 = .ok (.invokestatic 68, 3) := by decide +kernel
theorem dX3_copyOf_102 : decode cX3_copyOf 102 = .ok (.aload_n 1, 1) := by decide +kernel
theorem dX3_copyOf_103 : decode cX3_copyOf 103 = .ok (.getfield 18, 3) := by decide +kernel
theorem dX3_copyOf_106 : decode cX3_copyOf 106 = .ok (.iconst 0, 1) := by decide +kernel
theorem dX3_copyOf_107 : decode cX3_copyOf 107 = .ok (.aload_n 0, 1) := by decide +kernel
theorem dX3_copyOf_108 : decode cX3_copyOf 108 = .ok (.getfield 18, 3) := by decide +kernel
theorem dX3_copyOf_111 : decode cX3_copyOf 111 = .ok (.iconst 0, 1) := by decide +kernel
theorem dX3_copyOf_112 : decode cX3_copyOf 112 = .ok (.bipush 12, 2) := by decide +kernel
theorem dX3_copyOf_114 : decode cX3_copyOf 114 = .ok (.invokestatic 68, 3) := by decide +kernel
theorem dX3_copyOf_117 : decode cX3_copyOf 117 = .ok (.aload_n 1, 1) := by decide +kernel
theorem dX3_copyOf_118 : decode cX3_copyOf 118 = .ok (.getfield 21, 3) := by decide +kernel
theorem dX3_copyOf_121 : decode cX3_copyOf 121 = .ok (.iconst 0, 1) := by decide +kernel
theorem dX3_copyOf_122 : decode cX3_copyOf 122 = .ok (.aload_n 0, 1) := by decide +kernel
theorem dX3_copyOf_123 : decode cX3_copyOf 123 = .ok (.getfield 21, 3) := by decide +kernel
theorem dX3_copyOf_126 : decode cX3_copyOf 126 = .ok (.iconst 0, 1) := by decide +kernel
theorem dX3_copyOf_127 : decode cX3_copyOf 127 = .ok (.bipush 12, 2) := by decide +kernel
theorem dX3_copyOf_129 : decode cX3_copyOf 129 = .ok (.invokestatic 68, 3) := by decide +kernel
theorem dX3_copyOf_132 : decode cX3_copyOf 132 = .ok (.aload_n 1, 1) := by decide +kernel
theorem dX3_copyOf_133 : decode cX3_copyOf 133 = .ok (.getfield 24, 3) := by decide +kernel
theorem dX3_copyOf_136 : decode cX3_copyOf 136 = .ok (.iconst 0, 1) := by decide +kernel
theorem dX3_copyOf_137 : decode cX3_copyOf 137 = .ok (.aload_n 0, 1) := by decide +kernel
theorem dX3_copyOf_138 : decode cX3_copyOf 138 = .ok (.getfield 24, 3) := by decide +kernel
theorem dX3_copyOf_141 : decode cX3_copyOf 141 = .ok (.iconst 0, 1) := by decide +kernel
theorem dX3_copyOf_142 : decode cX3_copyOf 142 = .ok (.iconst 5, 1) := by decide +kernel
theorem dX3_copyOf_143 : decode cX3_copyOf 143 = .ok (.invokestatic 68, 3) := by decide +kernel
theorem dX3_copyOf_146 : decode cX3_copyOf 146 = .ok (.aload_n 1, 1) := by decide +kernel
theorem dX3_copyOf_147 : decode cX3_copyOf 147 = .ok (.getfield 27, 3) := by decide +kernel
theorem dX3_copyOf_150 : decode cX3_copyOf 150 = .ok (.iconst 0, 1) := by decide +kernel
theorem dX3_copyOf_151 : decode cX3_copyOf 151 = .ok (.aload_n 0, 1) := by decide +kernel
theorem dX3_copyOf_152 : decode cX3_copyOf 152 = .ok (.getfield 27, 3) := by decide +kernel
theorem dX3_copyOf_155 : decode cX3_copyOf 155 = .ok (.iconst 0, 1) := by decide +kernel
theorem dX3_copyOf_156 : decode cX3_copyOf 156 = .ok (.iconst 5, 1) := by decide +kernel
theorem dX3_copyOf_157 : decode cX3_copyOf 157 = .ok (.invokestatic 68, 3) := by decide +kernel
theorem dX3_copyOf_160 : decode cX3_copyOf 160 = .ok (.aload_n 1, 1) := by decide +kernel
theorem dX3_copyOf_161 : decode cX3_copyOf 161 = .ok (.getfield 30, 3) := by decide +kernel
theorem dX3_copyOf_164 : decode cX3_copyOf 164 = .ok (.iconst 0, 1) := by decide +kernel
theorem dX3_copyOf_165 : decode cX3_copyOf 165 = .ok (.aload_n 0, 1) := by decide +kernel
theorem dX3_copyOf_166 : decode cX3_copyOf 166 = .ok (.getfield 30, 3) := by decide +kernel
theorem dX3_copyOf_169 : decode cX3_copyOf 169 = .ok (.iconst 0, 1) := by decide +kernel
theorem dX3_copyOf_170 : decode cX3_copyOf 170 = .ok (.iconst 5, 1) := by decide +kernel
theorem dX3_copyOf_171 : decode cX3_copyOf 171 = .ok (.invokestatic 68, 3) := by decide +kernel
theorem dX3_copyOf_174 : decode cX3_copyOf 174 = .ok (.aload_n 1, 1) := by decide +kernel
theorem dX3_copyOf_175 : decode cX3_copyOf 175 = .ok (.getfield 33, 3) := by decide +kernel
theorem dX3_copyOf_178 : decode cX3_copyOf 178 = .ok (.iconst 0, 1) := by decide +kernel
theorem dX3_copyOf_179 : decode cX3_copyOf 179 = .ok (.aload_n 0, 1) := by decide +kernel
theorem dX3_copyOf_180 : decode cX3_copyOf 180 = .ok (.getfield 33, 3) := by decide +kernel
theorem dX3_copyOf_183 : decode cX3_copyOf 183 = .ok (.iconst 0, 1) := by decide +kernel
theorem dX3_copyOf_184 : decode cX3_copyOf 184 = .ok (.iconst 5, 1) := by decide +kernel
theorem dX3_copyOf_185 : decode cX3_copyOf 185 = .ok (.invokestatic 68, 3) := by decide +kernel
theorem dX3_copyOf_188 : decode cX3_copyOf 188 = .ok (.aload_n 1, 1) := by decide +kernel
theorem dX3_copyOf_189 : decode cX3_copyOf 189 = .ok (.getfield 36, 3) := by decide +kernel
theorem dX3_copyOf_192 : decode cX3_copyOf 192 = .ok (.iconst 0, 1) := by decide +kernel
theorem dX3_copyOf_193 : decode cX3_copyOf 193 = .ok (.aload_n 0, 1) := by decide +kernel
theorem dX3_copyOf_194 : decode cX3_copyOf 194 = .ok (.getfield 36, 3) := by decide +kernel
theorem dX3_copyOf_197 : decode cX3_copyOf 197 = .ok (.iconst 0, 1) := by decide +kernel
theorem dX3_copyOf_198 : decode cX3_copyOf 198 = .ok (.bipush 8, 2) := by decide +kernel
theorem dX3_copyOf_200 : decode cX3_copyOf 200 = .ok (.invokestatic 68, 3) := by decide +kernel
theorem dX3_copyOf_203 : decode cX3_copyOf 203 = .ok (.return_, 1) := by decide +kernel
theorem dX3_hasPoint_0 : decode cX3_hasPoint 0 = .ok (.iload_n 1, 1) := by decide +kernel
theorem dX3_hasPoint_1 : decode cX3_hasPoint 1 = .ok (.ifCond .lt 15, 3) := by decide +kernel
theorem dX3_hasPoint_4 : decode cX3_hasPoint 4 = .ok (.iload_n 1, 1) := by decide +kernel
theorem dX3_hasPoint_5 : decode cX3_hasPoint 5 = .ok (.aload_n 0, 1) := by decide +kernel
theorem dX3_hasPoint_6 : decode cX3_hasPoint 6 = .ok (.getfield 39, 3) := by decide +kernel
theorem dX3_hasPoint_9 : decode cX3_hasPoint 9 = .ok (.if_icmp .ge 7, 3) := by decide +kernel
theorem dX3_hasPoint_12 : decode cX3_hasPoint 12 = .ok (.iconst 1, 1) := by decide +kernel
theorem dX3_hasPoint_13 : decode cX3_hasPoint 13 = .ok (.goto 4, 3) := by decide +kernel
theorem dX3_hasPoint_16 : decode cX3_hasPoint 16 = .ok (.iconst 0, 1) := by decide +kernel
theorem dX3_hasPoint_17 : decode cX3_hasPoint 17 = .ok (.ireturn, 1) := by decide +kernel
theorem dX3_hasLine_0 : decode cX3_hasLine 0 = .ok (.iload_n 1, 1) := by decide +kernel
theorem dX3_hasLine_1 : decode cX3_hasLine 1 = .ok (.ifCond .lt 15, 3) := by decide +kernel
theorem dX3_hasLine_4 : decode cX3_hasLine 4 = .ok (.iload_n 1, 1) := by decide +kernel
theorem dX3_hasLine_5 : decode cX3_hasLine 5 = .ok (.aload_n 0, 1) := by decide +kernel
theorem dX3_hasLine_6 : decode cX3_hasLine 6 = .ok (.getfield 46, 3) := by decide +kernel
theorem dX3_hasLine_9 : decode cX3_hasLine 9 = .ok (.if_icmp .ge 7, 3) := by decide +kernel
theorem dX3_hasLine_12 : decode cX3_hasLine 12 = .ok (.iconst 1, 1) := by decide +kernel
theorem dX3_hasLine_13 : decode cX3_hasLine 13 = .ok (.goto 4, 3) := by decide +kernel
theorem dX3_hasLine_16 : decode cX3_hasLine 16 = .ok (.iconst 0, 1) := by decide +kernel
theorem dX3_hasLine_17 : decode cX3_hasLine 17 = .ok (.ireturn, 1) := by decide +kernel
theorem dX3_hasLines_0 : decode cX3_hasLines 0 = .ok (.iload_n 1, 1) := by decide +kernel
theorem dX3_hasLines_1 : decode cX3_hasLines 1 = .ok (.ifCond .lt 15, 3) := by decide +kernel
theorem dX3_hasLines_4 : decode cX3_hasLines 4 = .ok (.iload_n 1, 1) := by decide +kernel
theorem dX3_hasLines_5 : decode cX3_hasLines 5 = .ok (.aload_n 0, 1) := by decide +kernel
theorem dX3_hasLines_6 : decode cX3_hasLines 6 = .ok (.invokevirtual 74, 3) := by decide +kernel
theorem dX3_hasLines_9 : decode cX3_hasLines 9 = .ok (.if_icmp .gt 7, 3) := by decide +kernel
theorem dX3_hasLines_12 : decode cX3_hasLines 12 = .ok (.iconst 1, 1) := by decide +kernel
theorem dX3_hasLines_13 : decode cX3_hasLines 13 = .ok (.goto 4, 3) := by decide +kernel
theorem dX3_hasLines_16 : decode cX3_hasLines 16 = .ok (.iconst 0, 1) := by decide +kernel
theorem dX3_hasLines_17 : decode cX3_hasLines 17 = .ok (.ireturn, 1) := by decide +kernel
theorem dX3_hasDrawer_0 : decode cX3_hasDrawer 0 = .ok (.iload_n 1, 1) := by decide +kernel
theorem dX3_hasDrawer_1 : decode cX3_hasDrawer 1 = .ok (.ifCond .lt 15, 3) := by decide +kernel
theorem dX3_hasDrawer_4 : decode cX3_hasDrawer 4 = .ok (.iload_n 1, 1) := by decide +kernel
theorem dX3_hasDrawer_5 : decode cX3_hasDrawer 5 = .ok (.aload_n 0, 1) := by decide +kernel
theorem dX3_hasDrawer_6 : decode cX3_hasDrawer 6 = .ok (.getfield 52, 3) := by decide +kernel
theorem dX3_hasDrawer_9 : decode cX3_hasDrawer 9 = .ok (.if_icmp .ge 7, 3) := by decide +kernel
theorem dX3_hasDrawer_12 : decode cX3_hasDrawer 12 = .ok (.iconst 1, 1) := by decide +kernel
theorem dX3_hasDrawer_13 : decode cX3_hasDrawer 13 = .ok (.goto 4, 3) := by decide +kernel
theorem dX3_hasDrawer_16 : decode cX3_hasDrawer 16 = .ok (.iconst 0, 1) := by decide +kernel
theorem dX3_hasDrawer_17 : decode cX3_hasDrawer 17 = .ok (.ireturn, 1) := by decide +kernel
theorem dX3_hasOne_0 : decode cX3_hasOne 0 = .ok (.iload_n 1, 1) := by decide +kernel
theorem dX3_hasOne_1 : decode cX3_hasOne 1 = .ok (.ifCond .lt 15, 3) := by decide +kernel
theorem dX3_hasOne_4 : decode cX3_hasOne 4 = .ok (.iload_n 1, 1) := by decide +kernel
theorem dX3_hasOne_5 : decode cX3_hasOne 5 = .ok (.aload_n 0, 1) := by decide +kernel
theorem dX3_hasOne_6 : decode cX3_hasOne 6 = .ok (.getfield 55, 3) := by decide +kernel
theorem dX3_hasOne_9 : decode cX3_hasOne 9 = .ok (.if_icmp .ge 7, 3) := by decide +kernel
theorem dX3_hasOne_12 : decode cX3_hasOne 12 = .ok (.iconst 1, 1) := by decide +kernel
theorem dX3_hasOne_13 : decode cX3_hasOne 13 = .ok (.goto 4, 3) := by decide +kernel
theorem dX3_hasOne_16 : decode cX3_hasOne 16 = .ok (.iconst 0, 1) := by decide +kernel
theorem dX3_hasOne_17 : decode cX3_hasOne 17 = .ok (.ireturn, 1) := by decide +kernel
theorem dX3_hasRoof_0 : decode cX3_hasRoof 0 = .ok (.aload_n 0, 1) := by decide +kernel
theorem dX3_hasRoof_1 : decode cX3_hasRoof 1 = .ok (.getfield 49, 3) := by decide +kernel
theorem dX3_hasRoof_4 : decode cX3_hasRoof 4 = .ok (.iload_n 1, 1) := by decide +kernel
theorem dX3_hasRoof_5 : decode cX3_hasRoof 5 = .ok (.invokestatic 78, 3) := by decide +kernel
theorem dX3_hasRoof_8 : decode cX3_hasRoof 8 = .ok (.ireturn, 1) := by decide +kernel
theorem dX3_isHouse_0 : decode cX3_isHouse 0 = .ok (.aload_n 0, 1) := by decide +kernel
theorem dX3_isHouse_1 : decode cX3_isHouse 1 = .ok (.getfield 43, 3) := by decide +kernel
theorem dX3_isHouse_4 : decode cX3_isHouse 4 = .ok (.iload_n 1, 1) := by decide +kernel
theorem dX3_isHouse_5 : decode cX3_isHouse 5 = .ok (.invokestatic 78, 3) := by decide +kernel
theorem dX3_isHouse_8 : decode cX3_isHouse 8 = .ok (.ireturn, 1) := by decide +kernel
theorem dX3_setHouse_0 : decode cX3_setHouse 0 = .ok (.aload_n 0, 1) := by decide +kernel
theorem dX3_setHouse_1 : decode cX3_setHouse 1 = .ok (.iload_n 2, 1) := by decide +kernel
theorem dX3_setHouse_2 : decode cX3_setHouse 2 = .ok (.ifCond .eq 14, 3) := by decide +kernel
theorem dX3_setHouse_5 : decode cX3_setHouse 5 = .ok (.aload_n 0, 1) := by decide +kernel
theorem dX3_setHouse_6 : decode cX3_setHouse 6 = .ok (.getfield 43, 3) := by decide +kernel
theorem dX3_setHouse_9 : decode cX3_setHouse 9 = .ok (.iconst 1, 1) := by decide +kernel
theorem dX3_setHouse_10 : decode cX3_setHouse 10 = .ok (.iload_n 1, 1) := by decide +kernel
theorem dX3_setHouse_11 : decode cX3_setHouse 11 = .ok (.ishl, 1) := by decide +kernel
theorem dX3_setHouse_12 : decode cX3_setHouse 12 = .ok (.ior, 1) := by decide +kernel
theorem dX3_setHouse_13 : decode cX3_setHouse 13 = .ok (.goto 13, 3) := by decide +kernel
theorem dX3_setHouse_16 : decode cX3_setHouse 16 = .ok (.aload_n 0, 1) := by decide +kernel
theorem dX3_setHouse_17 : decode cX3_setHouse 17 = .ok (.getfield 43, 3) := by decide +kernel
theorem dX3_setHouse_20 : decode cX3_setHouse 20 = .ok (.iconst 1, 1) := by decide +kernel
theorem dX3_setHouse_21 : decode cX3_setHouse 21 = .ok (.iload_n 1, 1) := by decide +kernel
theorem dX3_setHouse_22 : decode cX3_setHouse 22 = .ok (.ishl, 1) := by decide +kernel
theorem dX3_setHouse_23 : decode cX3_setHouse 23 = .ok (.iconst (-1), 1) := by decide +kernel
theorem dX3_setHouse_24 : decode cX3_setHouse 24 = .ok (.ixor, 1) := by decide +kernel
theorem dX3_setHouse_25 : decode cX3_setHouse 25 = .ok (.iand, 1) := by decide +kernel
theorem dX3_setHouse_26 : decode cX3_setHouse 26 = .ok (.putfield 43, 3) := by decide +kernel
theorem dX3_setHouse_29 : decode cX3_setHouse 29 = .ok (.return_, 1) := by decide +kernel
theorem dX3_rainsIn_0 : decode cX3_rainsIn 0 = .ok (.iload_n 1, 1) := by decide +kernel
theorem dX3_rainsIn_1 : decode cX3_rainsIn 1 = .ok (.invokestatic 82, 3) := by decide +kernel
theorem dX3_rainsIn_4 : decode cX3_rainsIn 4 = .ok (.ifCond .eq 20, 3) := by decide +kernel
theorem dX3_rainsIn_7 : decode cX3_rainsIn 7 = .ok (.aload_n 0, 1) := by decide +kernel
theorem dX3_rainsIn_8 : decode cX3_rainsIn 8 = .ok (.getfield 58, 3) := by decide +kernel
theorem dX3_rainsIn_11 : decode cX3_rainsIn 11 = .ok (.iload_n 1, 1) := by decide +kernel
theorem dX3_rainsIn_12 : decode cX3_rainsIn 12 = .ok (.lshr, 1) := by decide +kernel
theorem dX3_rainsIn_13 : decode cX3_rainsIn 13 = .ok (.lconst 1, 1) := by decide +kernel
theorem dX3_rainsIn_14 : decode cX3_rainsIn 14 = .ok (.land, 1) := by decide +kernel
theorem dX3_rainsIn_15 : decode cX3_rainsIn 15 = .ok (.lconst 0, 1) := by decide +kernel
theorem dX3_rainsIn_16 : decode cX3_rainsIn 16 = .ok (.lcmp, 1) := by decide +kernel
theorem dX3_rainsIn_17 : decode cX3_rainsIn 17 = .ok (.ifCond .eq 7, 3) := by decide +kernel
theorem dX3_rainsIn_20 : decode cX3_rainsIn 20 = .ok (.iconst 1, 1) := by decide +kernel
theorem dX3_rainsIn_21 : decode cX3_rainsIn 21 = .ok (.goto 4, 3) := by decide +kernel
theorem dX3_rainsIn_24 : decode cX3_rainsIn 24 = .ok (.iconst 0, 1) := by decide +kernel
theorem dX3_rainsIn_25 : decode cX3_rainsIn 25 = .ok (.ireturn, 1) := by decide +kernel
theorem dX3_setRain_0 : decode cX3_setRain 0 = .ok (.aload_n 0, 1) := by decide +kernel
theorem dX3_setRain_1 : decode cX3_setRain 1 = .ok (.iload_n 2, 1) := by decide +kernel
theorem dX3_setRain_2 : decode cX3_setRain 2 = .ok (.ifCond .eq 14, 3) := by decide +kernel
theorem dX3_setRain_5 : decode cX3_setRain 5 = .ok (.aload_n 0, 1) := by decide +kernel
theorem dX3_setRain_6 : decode cX3_setRain 6 = .ok (.getfield 58, 3) := by decide +kernel
theorem dX3_setRain_9 : decode cX3_setRain 9 = .ok (.lconst 1, 1) := by decide +kernel
theorem dX3_setRain_10 : decode cX3_setRain 10 = .ok (.iload_n 1, 1) := by decide +kernel
theorem dX3_setRain_11 : decode cX3_setRain 11 = .ok (.lshl, 1) := by decide +kernel
theorem dX3_setRain_12 : decode cX3_setRain 12 = .ok (.lor, 1) := by decide +kernel
theorem dX3_setRain_13 : decode cX3_setRain 13 = .ok (.goto 15, 3) := by decide +kernel
theorem dX3_setRain_16 : decode cX3_setRain 16 = .ok (.aload_n 0, 1) := by decide +kernel
theorem dX3_setRain_17 : decode cX3_setRain 17 = .ok (.getfield 58, 3) := by decide +kernel
theorem dX3_setRain_20 : decode cX3_setRain 20 = .ok (.lconst 1, 1) := by decide +kernel
theorem dX3_setRain_21 : decode cX3_setRain 21 = .ok (.iload_n 1, 1) := by decide +kernel
theorem dX3_setRain_22 : decode cX3_setRain 22 = .ok (.lshl, 1) := by decide +kernel
theorem dX3_setRain_23 : decode cX3_setRain 23 = .ok (.ldc2_w 86, 3) := by decide +kernel
theorem dX3_setRain_26 : decode cX3_setRain 26 = .ok (.lxor, 1) := by decide +kernel
theorem dX3_setRain_27 : decode cX3_setRain 27 = .ok (.land, 1) := by decide +kernel
theorem dX3_setRain_28 : decode cX3_setRain 28 = .ok (.putfield 58, 3) := by decide +kernel
theorem dX3_setRain_31 : decode cX3_setRain 31 = .ok (.return_, 1) := by decide +kernel
theorem dX3_allLines_0 : decode cX3_allLines 0 = .ok (.iconst 1, 1) := by decide +kernel
theorem dX3_allLines_1 : decode cX3_allLines 1 = .ok (.aload_n 0, 1) := by decide +kernel
theorem dX3_allLines_2 : decode cX3_allLines 2 = .ok (.getfield 46, 3) := by decide +kernel
theorem dX3_allLines_5 : decode cX3_allLines 5 = .ok (.ishl, 1) := by decide +kernel
theorem dX3_allLines_6 : decode cX3_allLines 6 = .ok (.iconst 1, 1) := by decide +kernel
theorem dX3_allLines_7 : decode cX3_allLines 7 = .ok (.isub, 1) := by decide +kernel
theorem dX3_allLines_8 : decode cX3_allLines 8 = .ok (.ireturn, 1) := by decide +kernel
theorem dX3_wholeLines_0 : decode cX3_wholeLines 0 = .ok (.aload_n 0, 1) := by decide +kernel
theorem dX3_wholeLines_1 : decode cX3_wholeLines 1 = .ok (.aload_n 0, 1) := by decide +kernel
theorem dX3_wholeLines_2 : decode cX3_wholeLines 2 = .ok (.getfield 21, 3) := by decide +kernel
theorem dX3_wholeLines_5 : decode cX3_wholeLines 5 = .ok (.invokevirtual 88, 3) := by decide +kernel
theorem dX3_wholeLines_8 : decode cX3_wholeLines 8 = .ok (.ireturn, 1) := by decide +kernel
theorem dX3_wholeBy_0 : decode cX3_wholeBy 0 = .ok (.iconst 0, 1) := by decide +kernel
theorem dX3_wholeBy_1 : decode cX3_wholeBy 1 = .ok (.istore_n 2, 1) := by decide +kernel
theorem dX3_wholeBy_2 : decode cX3_wholeBy 2 = .ok (.iconst 0, 1) := by decide +kernel
theorem dX3_wholeBy_3 : decode cX3_wholeBy 3 = .ok (.istore_n 3, 1) := by decide +kernel
theorem dX3_wholeBy_4 : decode cX3_wholeBy 4 = .ok (.iload_n 3, 1) := by decide +kernel
theorem dX3_wholeBy_5 : decode cX3_wholeBy 5 = .ok (.aload_n 0, 1) := by decide +kernel
theorem dX3_wholeBy_6 : decode cX3_wholeBy 6 = .ok (.getfield 46, 3) := by decide +kernel
theorem dX3_wholeBy_9 : decode cX3_wholeBy 9 = .ok (.if_icmp .ge 21, 3) := by decide +kernel
theorem dX3_wholeBy_12 : decode cX3_wholeBy 12 = .ok (.aload_n 1, 1) := by decide +kernel
theorem dX3_wholeBy_13 : decode cX3_wholeBy 13 = .ok (.iload_n 3, 1) := by decide +kernel
theorem dX3_wholeBy_14 : decode cX3_wholeBy 14 = .ok (.iaload, 1) := by decide +kernel
theorem dX3_wholeBy_15 : decode cX3_wholeBy 15 = .ok (.ifCond .le 9, 3) := by decide +kernel
theorem dX3_wholeBy_18 : decode cX3_wholeBy 18 = .ok (.iload_n 2, 1) := by decide +kernel
theorem dX3_wholeBy_19 : decode cX3_wholeBy 19 = .ok (.iconst 1, 1) := by decide +kernel
theorem dX3_wholeBy_20 : decode cX3_wholeBy 20 = .ok (.iload_n 3, 1) := by decide +kernel
theorem dX3_wholeBy_21 : decode cX3_wholeBy 21 = .ok (.ishl, 1) := by decide +kernel
theorem dX3_wholeBy_22 : decode cX3_wholeBy 22 = .ok (.ior, 1) := by decide +kernel
theorem dX3_wholeBy_23 : decode cX3_wholeBy 23 = .ok (.istore_n 2, 1) := by decide +kernel
theorem dX3_wholeBy_24 : decode cX3_wholeBy 24 = .ok (.iinc 3 1, 3) := by decide +kernel
theorem dX3_wholeBy_27 : decode cX3_wholeBy 27 = .ok (.goto (-23), 3) := by decide +kernel
theorem dX3_wholeBy_30 : decode cX3_wholeBy 30 = .ok (.iload_n 2, 1) := by decide +kernel
theorem dX3_wholeBy_31 : decode cX3_wholeBy 31 = .ok (.ireturn, 1) := by decide +kernel
theorem dX3_rainRubs_0 : decode cX3_rainRubs 0 = .ok (.iconst 0, 1) := by decide +kernel
theorem dX3_rainRubs_1 : decode cX3_rainRubs 1 = .ok (.istore_n 2, 1) := by decide +kernel
theorem dX3_rainRubs_2 : decode cX3_rainRubs 2 = .ok (.iload_n 2, 1) := by decide +kernel
theorem dX3_rainRubs_3 : decode cX3_rainRubs 3 = .ok (.aload_n 0, 1) := by decide +kernel
theorem dX3_rainRubs_4 : decode cX3_rainRubs 4 = .ok (.getfield 46, 3) := by decide +kernel
theorem dX3_rainRubs_7 : decode cX3_rainRubs 7 = .ok (.if_icmp .ge 30, 3) := by decide +kernel
theorem dX3_rainRubs_10 : decode cX3_rainRubs 10 = .ok (.aload_n 0, 1) := by decide +kernel
theorem dX3_rainRubs_11 : decode cX3_rainRubs 11 = .ok (.iload_n 2, 1) := by decide +kernel
theorem dX3_rainRubs_12 : decode cX3_rainRubs 12 = .ok (.invokevirtual 92, 3) := by decide +kernel
theorem dX3_rainRubs_15 : decode cX3_rainRubs 15 = .ok (.ifCond .ne 16, 3) := by decide +kernel
theorem dX3_rainRubs_18 : decode cX3_rainRubs 18 = .ok (.aload_n 1, 1) := by decide +kernel
theorem dX3_rainRubs_19 : decode cX3_rainRubs 19 = .ok (.iload_n 2, 1) := by decide +kernel
theorem dX3_rainRubs_20 : decode cX3_rainRubs 20 = .ok (.iaload, 1) := by decide +kernel
theorem dX3_rainRubs_21 : decode cX3_rainRubs 21 = .ok (.ifCond .le 10, 3) := by decide +kernel
theorem dX3_rainRubs_24 : decode cX3_rainRubs 24 = .ok (.aload_n 1, 1) := by decide +kernel
theorem dX3_rainRubs_25 : decode cX3_rainRubs 25 = .ok (.iload_n 2, 1) := by decide +kernel
theorem dX3_rainRubs_26 : decode cX3_rainRubs 26 = .ok (.dup2, 1) := by decide +kernel
theorem dX3_rainRubs_27 : decode cX3_rainRubs 27 = .ok (.iaload, 1) := by decide +kernel
theorem dX3_rainRubs_28 : decode cX3_rainRubs 28 = .ok (.iconst 1, 1) := by decide +kernel
theorem dX3_rainRubs_29 : decode cX3_rainRubs 29 = .ok (.isub, 1) := by decide +kernel
theorem dX3_rainRubs_30 : decode cX3_rainRubs 30 = .ok (.iastore, 1) := by decide +kernel
theorem dX3_rainRubs_31 : decode cX3_rainRubs 31 = .ok (.iinc 2 1, 3) := by decide +kernel
theorem dX3_rainRubs_34 : decode cX3_rainRubs 34 = .ok (.goto (-32), 3) := by decide +kernel
theorem dX3_rainRubs_37 : decode cX3_rainRubs 37 = .ok (.return_, 1) := by decide +kernel
theorem dX3_highestPoint_0 : decode cX3_highestPoint 0 = .ok (.iconst 0, 1) := by decide +kernel
theorem dX3_highestPoint_1 : decode cX3_highestPoint 1 = .ok (.istore_n 1, 1) := by decide +kernel
theorem dX3_highestPoint_2 : decode cX3_highestPoint 2 = .ok (.iconst 0, 1) := by decide +kernel
theorem dX3_highestPoint_3 : decode cX3_highestPoint 3 = .ok (.istore_n 2, 1) := by decide +kernel
theorem dX3_highestPoint_4 : decode cX3_highestPoint 4 = .ok (.iload_n 2, 1) := by decide +kernel
theorem dX3_highestPoint_5 : decode cX3_highestPoint 5 = .ok (.bipush 9, 2) := by decide +kernel
theorem dX3_highestPoint_7 : decode cX3_highestPoint 7 = .ok (.if_icmp .ge 19, 3) := by decide +kernel
theorem dX3_highestPoint_10 : decode cX3_highestPoint 10 = .ok (.aload_n 0, 1) := by decide +kernel
theorem dX3_highestPoint_11 : decode cX3_highestPoint 11 = .ok (.iload_n 2, 1) := by decide +kernel
theorem dX3_highestPoint_12 : decode cX3_highestPoint 12 = .ok (.invokevirtual 95, 3) := by decide +kernel
theorem dX3_highestPoint_15 : decode cX3_highestPoint 15 = .ok (.ifCond .eq 5, 3) := by decide +kernel
theorem dX3_highestPoint_18 : decode cX3_highestPoint 18 = .ok (.iload_n 2, 1) := by decide +kernel
theorem dX3_highestPoint_19 : decode cX3_highestPoint 19 = .ok (.istore_n 1, 1) := by decide +kernel
theorem dX3_highestPoint_20 : decode cX3_highestPoint 20 = .ok (.iinc 2 1, 3) := by decide +kernel
theorem dX3_highestPoint_23 : decode cX3_highestPoint 23 = .ok (.goto (-19), 3) := by decide +kernel
theorem dX3_highestPoint_26 : decode cX3_highestPoint 26 = .ok (.iconst 0, 1) := by decide +kernel
theorem dX3_highestPoint_27 : decode cX3_highestPoint 27 = .ok (.istore_n 2, 1) := by decide +kernel
theorem dX3_highestPoint_28 : decode cX3_highestPoint 28 = .ok (.iload_n 2, 1) := by decide +kernel
theorem dX3_highestPoint_29 : decode cX3_highestPoint 29 = .ok (.aload_n 0, 1) := by decide +kernel
theorem dX3_highestPoint_30 : decode cX3_highestPoint 30 = .ok (.getfield 46, 3) := by decide +kernel
theorem dX3_highestPoint_33 : decode cX3_highestPoint 33 = .ok (.if_icmp .ge 29, 3) := by decide +kernel
theorem dX3_highestPoint_36 : decode cX3_highestPoint 36 = .ok (.iload_n 1, 1) := by decide +kernel
theorem dX3_highestPoint_37 : decode cX3_highestPoint 37 = .ok (.aload_n 0, 1) := by decide +kernel
theorem dX3_highestPoint_38 : decode cX3_highestPoint 38 = .ok (.getfield 9, 3) := by decide +kernel
theorem dX3_highestPoint_41 : decode cX3_highestPoint 41 = .ok (.iload_n 2, 1) := by decide +kernel
theorem dX3_highestPoint_42 : decode cX3_highestPoint 42 = .ok (.iaload, 1) := by decide +kernel
theorem dX3_highestPoint_43 : decode cX3_highestPoint 43 = .ok (.aload_n 0, 1) := by decide +kernel
theorem dX3_highestPoint_44 : decode cX3_highestPoint 44 = .ok (.getfield 15, 3) := by decide +kernel
theorem dX3_highestPoint_47 : decode cX3_highestPoint 47 = .ok (.iload_n 2, 1) := by decide +kernel
theorem dX3_highestPoint_48 : decode cX3_highestPoint 48 = .ok (.iaload, 1) := by decide +kernel
theorem dX3_highestPoint_49 : decode cX3_highestPoint 49 = .ok (.invokestatic 98, 3) := by decide +kernel
theorem dX3_highestPoint_52 : decode cX3_highestPoint 52 = .ok (.invokestatic 98, 3) := by decide +kernel
theorem dX3_highestPoint_55 : decode cX3_highestPoint 55 = .ok (.istore_n 1, 1) := by decide +kernel
theorem dX3_highestPoint_56 : decode cX3_highestPoint 56 = .ok (.iinc 2 1, 3) := by decide +kernel
theorem dX3_highestPoint_59 : decode cX3_highestPoint 59 = .ok (.goto (-31), 3) := by decide +kernel
theorem dX3_highestPoint_62 : decode cX3_highestPoint 62 = .ok (.iconst 0, 1) := by decide +kernel
theorem dX3_highestPoint_63 : decode cX3_highestPoint 63 = .ok (.istore_n 2, 1) := by decide +kernel
theorem dX3_highestPoint_64 : decode cX3_highestPoint 64 = .ok (.iload_n 2, 1) := by decide +kernel
theorem dX3_highestPoint_65 : decode cX3_highestPoint 65 = .ok (.aload_n 0, 1) := by decide +kernel
theorem dX3_highestPoint_66 : decode cX3_highestPoint 66 = .ok (.getfield 55, 3) := by decide +kernel
theorem dX3_highestPoint_69 : decode cX3_highestPoint 69 = .ok (.if_icmp .ge 29, 3) := by decide +kernel
theorem dX3_highestPoint_72 : decode cX3_highestPoint 72 = .ok (.iload_n 1, 1) := by decide +kernel
theorem dX3_highestPoint_73 : decode cX3_highestPoint 73 = .ok (.aload_n 0, 1) := by decide +kernel
theorem dX3_highestPoint_74 : decode cX3_highestPoint 74 = .ok (.getfield 27, 3) := by decide +kernel
theorem dX3_highestPoint_77 : decode cX3_highestPoint 77 = .ok (.iload_n 2, 1) := by decide +kernel
theorem dX3_highestPoint_78 : decode cX3_highestPoint 78 = .ok (.iaload, 1) := by decide +kernel
theorem dX3_highestPoint_79 : decode cX3_highestPoint 79 = .ok (.aload_n 0, 1) := by decide +kernel
theorem dX3_highestPoint_80 : decode cX3_highestPoint 80 = .ok (.getfield 30, 3) := by decide +kernel
theorem dX3_highestPoint_83 : decode cX3_highestPoint 83 = .ok (.iload_n 2, 1) := by decide +kernel
theorem dX3_highestPoint_84 : decode cX3_highestPoint 84 = .ok (.iaload, 1) := by decide +kernel
theorem dX3_highestPoint_85 : decode cX3_highestPoint 85 = .ok (.invokestatic 98, 3) := by decide +kernel
theorem dX3_highestPoint_88 : decode cX3_highestPoint 88 = .ok (.invokestatic 98, 3) := by decide +kernel
theorem dX3_highestPoint_91 : decode cX3_highestPoint 91 = .ok (.istore_n 1, 1) := by decide +kernel
theorem dX3_highestPoint_92 : decode cX3_highestPoint 92 = .ok (.iinc 2 1, 3) := by decide +kernel
theorem dX3_highestPoint_95 : decode cX3_highestPoint 95 = .ok (.goto (-31), 3) := by decide +kernel
theorem dX3_highestPoint_98 : decode cX3_highestPoint 98 = .ok (.iload_n 1, 1) := by decide +kernel
theorem dX3_highestPoint_99 : decode cX3_highestPoint 99 = .ok (.ireturn, 1) := by decide +kernel
theorem dX3_otherEnd_0 : decode cX3_otherEnd 0 = .ok (.aload_n 0, 1) := by decide +kernel
theorem dX3_otherEnd_1 : decode cX3_otherEnd 1 = .ok (.getfield 9, 3) := by decide +kernel
theorem dX3_otherEnd_4 : decode cX3_otherEnd 4 = .ok (.iload_n 1, 1) := by decide +kernel
theorem dX3_otherEnd_5 : decode cX3_otherEnd 5 = .ok (.iaload, 1) := by decide +kernel
theorem dX3_otherEnd_6 : decode cX3_otherEnd 6 = .ok (.iload_n 2, 1) := by decide +kernel
theorem dX3_otherEnd_7 : decode cX3_otherEnd 7 = .ok (.if_icmp .ne 12, 3) := by decide +kernel
theorem dX3_otherEnd_10 : decode cX3_otherEnd 10 = .ok (.aload_n 0, 1) := by decide +kernel
theorem dX3_otherEnd_11 : decode cX3_otherEnd 11 = .ok (.getfield 15, 3) := by decide +kernel
theorem dX3_otherEnd_14 : decode cX3_otherEnd 14 = .ok (.iload_n 1, 1) := by decide +kernel
theorem dX3_otherEnd_15 : decode cX3_otherEnd 15 = .ok (.iaload, 1) := by decide +kernel
theorem dX3_otherEnd_16 : decode cX3_otherEnd 16 = .ok (.goto 9, 3) := by decide +kernel
theorem dX3_otherEnd_19 : decode cX3_otherEnd 19 = .ok (.aload_n 0, 1) := by decide +kernel
theorem dX3_otherEnd_20 : decode cX3_otherEnd 20 = .ok (.getfield 9, 3) := by decide +kernel
theorem dX3_otherEnd_23 : decode cX3_otherEnd 23 = .ok (.iload_n 1, 1) := by decide +kernel
theorem dX3_otherEnd_24 : decode cX3_otherEnd 24 = .ok (.iaload, 1) := by decide +kernel
theorem dX3_otherEnd_25 : decode cX3_otherEnd 25 = .ok (.ireturn, 1) := by decide +kernel
theorem dX3_yardsOf_0 : decode cX3_yardsOf 0 = .ok (.iconst 0, 1) := by decide +kernel
theorem dX3_yardsOf_1 : decode cX3_yardsOf 1 = .ok (.istore_n 2, 1) := by decide +kernel
theorem dX3_yardsOf_2 : decode cX3_yardsOf 2 = .ok (.iconst 0, 1) := by decide +kernel
theorem dX3_yardsOf_3 : decode cX3_yardsOf 3 = .ok (.istore_n 3, 1) := by decide +kernel
theorem dX3_yardsOf_4 : decode cX3_yardsOf 4 = .ok (.iload_n 3, 1) := by decide +kernel
theorem dX3_yardsOf_5 : decode cX3_yardsOf 5 = .ok (.aload_n 0, 1) := by decide +kernel
theorem dX3_yardsOf_6 : decode cX3_yardsOf 6 = .ok (.getfield 46, 3) := by decide +kernel
theorem dX3_yardsOf_9 : decode cX3_yardsOf 9 = .ok (.if_icmp .ge 26, 3) := by decide +kernel
theorem dX3_yardsOf_12 : decode cX3_yardsOf 12 = .ok (.iload_n 1, 1) := by decide +kernel
theorem dX3_yardsOf_13 : decode cX3_yardsOf 13 = .ok (.iload_n 3, 1) := by decide +kernel
theorem dX3_yardsOf_14 : decode cX3_yardsOf 14 = .ok (.invokestatic 78, 3) := by decide +kernel
theorem dX3_yardsOf_17 : decode cX3_yardsOf 17 = .ok (.ifCond .eq 12, 3) := by decide +kernel
theorem dX3_yardsOf_20 : decode cX3_yardsOf 20 = .ok (.iload_n 2, 1) := by decide +kernel
theorem dX3_yardsOf_21 : decode cX3_yardsOf 21 = .ok (.aload_n 0, 1) := by decide +kernel
theorem dX3_yardsOf_22 : decode cX3_yardsOf 22 = .ok (.getfield 18, 3) := by decide +kernel
theorem dX3_yardsOf_25 : decode cX3_yardsOf 25 = .ok (.iload_n 3, 1) := by decide +kernel
theorem dX3_yardsOf_26 : decode cX3_yardsOf 26 = .ok (.iaload, 1) := by decide +kernel
theorem dX3_yardsOf_27 : decode cX3_yardsOf 27 = .ok (.iadd, 1) := by decide +kernel
theorem dX3_yardsOf_28 : decode cX3_yardsOf 28 = .ok (.istore_n 2, 1) := by decide +kernel
theorem dX3_yardsOf_29 : decode cX3_yardsOf 29 = .ok (.iinc 3 1, 3) := by decide +kernel
theorem dX3_yardsOf_32 : decode cX3_yardsOf 32 = .ok (.goto (-28), 3) := by decide +kernel
theorem dX3_yardsOf_35 : decode cX3_yardsOf 35 = .ok (.iload_n 2, 1) := by decide +kernel
theorem dX3_yardsOf_36 : decode cX3_yardsOf 36 = .ok (.ireturn, 1) := by decide +kernel
theorem dX3_addLine_0 : decode cX3_addLine 0 = .ok (.aload_n 0, 1) := by decide +kernel
theorem dX3_addLine_1 : decode cX3_addLine 1 = .ok (.getfield 46, 3) := by decide +kernel
theorem dX3_addLine_4 : decode cX3_addLine 4 = .ok (.bipush 12, 2) := by decide +kernel
theorem dX3_addLine_6 : decode cX3_addLine 6 = .ok (.if_icmp .lt 6, 3) := by decide +kernel
theorem dX3_addLine_9 : decode cX3_addLine 9 = .ok (.bipush (-3), 2) := by decide +kernel
theorem dX3_addLine_11 : decode cX3_addLine 11 = .ok (.ireturn, 1) := by decide +kernel
theorem dX3_addLine_12 : decode cX3_addLine 12 = .ok (.aload_n 0, 1) := by decide +kernel
theorem dX3_addLine_13 : decode cX3_addLine 13 = .ok (.getfield 9, 3) := by decide +kernel
theorem dX3_addLine_16 : decode cX3_addLine 16 = .ok (.aload_n 0, 1) := by decide +kernel
theorem dX3_addLine_17 : decode cX3_addLine 17 = .ok (.getfield 46, 3) := by decide +kernel
theorem dX3_addLine_20 : decode cX3_addLine 20 = .ok (.iload_n 1, 1) := by decide +kernel
theorem dX3_addLine_21 : decode cX3_addLine 21 = .ok (.iastore, 1) := by decide +kernel
theorem dX3_addLine_22 : decode cX3_addLine 22 = .ok (.aload_n 0, 1) := by decide +kernel
theorem dX3_addLine_23 : decode cX3_addLine 23 = .ok (.getfield 15, 3) := by decide +kernel
theorem dX3_addLine_26 : decode cX3_addLine 26 = .ok (.aload_n 0, 1) := by decide +kernel
theorem dX3_addLine_27 : decode cX3_addLine 27 = .ok (.getfield 46, 3) := by decide +kernel
theorem dX3_addLine_30 : decode cX3_addLine 30 = .ok (.iload_n 2, 1) := by decide +kernel
theorem dX3_addLine_31 : decode cX3_addLine 31 = .ok (.iastore, 1) := by decide +kernel
theorem dX3_addLine_32 : decode cX3_addLine 32 = .ok (.aload_n 0, 1) := by decide +kernel
theorem dX3_addLine_33 : decode cX3_addLine 33 = .ok (.getfield 18, 3) := by decide +kernel
theorem dX3_addLine_36 : decode cX3_addLine 36 = .ok (.aload_n 0, 1) := by decide +kernel
theorem dX3_addLine_37 : decode cX3_addLine 37 = .ok (.getfield 46, 3) := by decide +kernel
theorem dX3_addLine_40 : decode cX3_addLine 40 = .ok (.iload_n 3, 1) := by decide +kernel
theorem dX3_addLine_41 : decode cX3_addLine 41 = .ok (.iastore, 1) := by decide +kernel
theorem dX3_addLine_42 : decode cX3_addLine 42 = .ok (.aload_n 0, 1) := by decide +kernel
theorem dX3_addLine_43 : decode cX3_addLine 43 = .ok (.getfield 21, 3) := by decide +kernel
theorem dX3_addLine_46 : decode cX3_addLine 46 = .ok (.aload_n 0, 1) := by decide +kernel
theorem dX3_addLine_47 : decode cX3_addLine 47 = .ok (.getfield 46, 3) := by decide +kernel
theorem dX3_addLine_50 : decode cX3_addLine 50 = .ok (.iload 4, 2) := by decide +kernel
theorem dX3_addLine_52 : decode cX3_addLine 52 = .ok (.iastore, 1) := by decide +kernel
theorem dX3_addLine_53 : decode cX3_addLine 53 = .ok (.aload_n 0, 1) := by decide +kernel
theorem dX3_addLine_54 : decode cX3_addLine 54 = .ok (.dup, 1) := by decide +kernel
theorem dX3_addLine_55 : decode cX3_addLine 55 = .ok (.getfield 46, 3) := by decide +kernel
theorem dX3_addLine_58 : decode cX3_addLine 58 = .ok (.iconst 1, 1) := by decide +kernel
theorem dX3_addLine_59 : decode cX3_addLine 59 = .ok (.iadd, 1) := by decide +kernel
theorem dX3_addLine_60 : decode cX3_addLine 60 = .ok (.putfield 46, 3) := by decide +kernel
theorem dX3_addLine_63 : decode cX3_addLine 63 = .ok (.aload_n 0, 1) := by decide +kernel
theorem dX3_addLine_64 : decode cX3_addLine 64 = .ok (.getfield 46, 3) := by decide +kernel
theorem dX3_addLine_67 : decode cX3_addLine 67 = .ok (.iconst 1, 1) := by decide +kernel
theorem dX3_addLine_68 : decode cX3_addLine 68 = .ok (.isub, 1) := by decide +kernel
theorem dX3_addLine_69 : decode cX3_addLine 69 = .ok (.ireturn, 1) := by decide +kernel
theorem dX3_addDrawer_0 : decode cX3_addDrawer 0 = .ok (.aload_n 0, 1) := by decide +kernel
theorem dX3_addDrawer_1 : decode cX3_addDrawer 1 = .ok (.getfield 52, 3) := by decide +kernel
theorem dX3_addDrawer_4 : decode cX3_addDrawer 4 = .ok (.iconst 5, 1) := by decide +kernel
theorem dX3_addDrawer_5 : decode cX3_addDrawer 5 = .ok (.if_icmp .ge 23, 3) := by decide +kernel
theorem dX3_addDrawer_8 : decode cX3_addDrawer 8 = .ok (.aload_n 0, 1) := by decide +kernel
theorem dX3_addDrawer_9 : decode cX3_addDrawer 9 = .ok (.getfield 24, 3) := by decide +kernel
theorem dX3_addDrawer_12 : decode cX3_addDrawer 12 = .ok (.aload_n 0, 1) := by decide +kernel
theorem dX3_addDrawer_13 : decode cX3_addDrawer 13 = .ok (.getfield 52, 3) := by decide +kernel
theorem dX3_addDrawer_16 : decode cX3_addDrawer 16 = .ok (.iload_n 1, 1) := by decide +kernel
theorem dX3_addDrawer_17 : decode cX3_addDrawer 17 = .ok (.iastore, 1) := by decide +kernel
theorem dX3_addDrawer_18 : decode cX3_addDrawer 18 = .ok (.aload_n 0, 1) := by decide +kernel
theorem dX3_addDrawer_19 : decode cX3_addDrawer 19 = .ok (.dup, 1) := by decide +kernel
theorem dX3_addDrawer_20 : decode cX3_addDrawer 20 = .ok (.getfield 52, 3) := by decide +kernel
theorem dX3_addDrawer_23 : decode cX3_addDrawer 23 = .ok (.iconst 1, 1) := by decide +kernel
theorem dX3_addDrawer_24 : decode cX3_addDrawer 24 = .ok (.iadd, 1) := by decide +kernel
theorem dX3_addDrawer_25 : decode cX3_addDrawer 25 = .ok (.putfield 52, 3) := by decide +kernel
theorem dX3_addDrawer_28 : decode cX3_addDrawer 28 = .ok (.return_, 1) := by decide +kernel
theorem dX3_addOne_0 : decode cX3_addOne 0 = .ok (.aload_n 0, 1) := by decide +kernel
theorem dX3_addOne_1 : decode cX3_addOne 1 = .ok (.getfield 55, 3) := by decide +kernel
theorem dX3_addOne_4 : decode cX3_addOne 4 = .ok (.iconst 5, 1) := by decide +kernel
theorem dX3_addOne_5 : decode cX3_addOne 5 = .ok (.if_icmp .ge 43, 3) := by decide +kernel
theorem dX3_addOne_8 : decode cX3_addOne 8 = .ok (.aload_n 0, 1) := by decide +kernel
theorem dX3_addOne_9 : decode cX3_addOne 9 = .ok (.getfield 27, 3) := by decide +kernel
theorem dX3_addOne_12 : decode cX3_addOne 12 = .ok (.aload_n 0, 1) := by decide +kernel
theorem dX3_addOne_13 : decode cX3_addOne 13 = .ok (.getfield 55, 3) := by decide +kernel
theorem dX3_addOne_16 : decode cX3_addOne 16 = .ok (.iload_n 1, 1) := by decide +kernel
theorem dX3_addOne_17 : decode cX3_addOne 17 = .ok (.iastore, 1) := by decide +kernel
theorem dX3_addOne_18 : decode cX3_addOne 18 = .ok (.aload_n 0, 1) := by decide +kernel
theorem dX3_addOne_19 : decode cX3_addOne 19 = .ok (.getfield 30, 3) := by decide +kernel
theorem dX3_addOne_22 : decode cX3_addOne 22 = .ok (.aload_n 0, 1) := by decide +kernel
theorem dX3_addOne_23 : decode cX3_addOne 23 = .ok (.getfield 55, 3) := by decide +kernel
theorem dX3_addOne_26 : decode cX3_addOne 26 = .ok (.iload_n 2, 1) := by decide +kernel
theorem dX3_addOne_27 : decode cX3_addOne 27 = .ok (.iastore, 1) := by decide +kernel
theorem dX3_addOne_28 : decode cX3_addOne 28 = .ok (.aload_n 0, 1) := by decide +kernel
theorem dX3_addOne_29 : decode cX3_addOne 29 = .ok (.getfield 33, 3) := by decide +kernel
theorem dX3_addOne_32 : decode cX3_addOne 32 = .ok (.aload_n 0, 1) := by decide +kernel
theorem dX3_addOne_33 : decode cX3_addOne 33 = .ok (.getfield 55, 3) := by decide +kernel
theorem dX3_addOne_36 : decode cX3_addOne 36 = .ok (.iload_n 3, 1) := by decide +kernel
theorem dX3_addOne_37 : decode cX3_addOne 37 = .ok (.iastore, 1) := by decide +kernel
theorem dX3_addOne_38 : decode cX3_addOne 38 = .ok (.aload_n 0, 1) := by decide +kernel
theorem dX3_addOne_39 : decode cX3_addOne 39 = .ok (.dup, 1) := by decide +kernel
theorem dX3_addOne_40 : decode cX3_addOne 40 = .ok (.getfield 55, 3) := by decide +kernel
theorem dX3_addOne_43 : decode cX3_addOne 43 = .ok (.iconst 1, 1) := by decide +kernel
theorem dX3_addOne_44 : decode cX3_addOne 44 = .ok (.iadd, 1) := by decide +kernel
theorem dX3_addOne_45 : decode cX3_addOne 45 = .ok (.putfield 55, 3) := by decide +kernel
theorem dX3_addOne_48 : decode cX3_addOne 48 = .ok (.return_, 1) := by decide +kernel
theorem dX3_addHeard_0 : decode cX3_addHeard 0 = .ok (.iload_n 1, 1) := by decide +kernel
theorem dX3_addHeard_1 : decode cX3_addHeard 1 = .ok (.ifCond .eq 11, 3) := by decide +kernel
theorem dX3_addHeard_4 : decode cX3_addHeard 4 = .ok (.aload_n 0, 1) := by decide +kernel
theorem dX3_addHeard_5 : decode cX3_addHeard 5 = .ok (.iload_n 1, 1) := by decide +kernel
theorem dX3_addHeard_6 : decode cX3_addHeard 6 = .ok (.invokevirtual 104, 3) := by decide +kernel
theorem dX3_addHeard_9 : decode cX3_addHeard 9 = .ok (.ifCond .ne 5, 3) := by decide +kernel
theorem dX3_addHeard_12 : decode cX3_addHeard 12 = .ok (.iconst (-1), 1) := by decide +kernel
theorem dX3_addHeard_13 : decode cX3_addHeard 13 = .ok (.ireturn, 1) := by decide +kernel
theorem dX3_addHeard_14 : decode cX3_addHeard 14 = .ok (.aload_n 0, 1) := by decide +kernel
theorem dX3_addHeard_15 : decode cX3_addHeard 15 = .ok (.getfield 62, 3) := by decide +kernel
theorem dX3_addHeard_18 : decode cX3_addHeard 18 = .ok (.bipush 8, 2) := by decide +kernel
theorem dX3_addHeard_20 : decode cX3_addHeard 20 = .ok (.if_icmp .lt 6, 3) := by decide +kernel
theorem dX3_addHeard_23 : decode cX3_addHeard 23 = .ok (.bipush (-3), 2) := by decide +kernel
theorem dX3_addHeard_25 : decode cX3_addHeard 25 = .ok (.ireturn, 1) := by decide +kernel
theorem dX3_addHeard_26 : decode cX3_addHeard 26 = .ok (.aload_n 0, 1) := by decide +kernel
theorem dX3_addHeard_27 : decode cX3_addHeard 27 = .ok (.getfield 36, 3) := by decide +kernel
theorem dX3_addHeard_30 : decode cX3_addHeard 30 = .ok (.aload_n 0, 1) := by decide +kernel
theorem dX3_addHeard_31 : decode cX3_addHeard 31 = .ok (.getfield 62, 3) := by decide +kernel
theorem dX3_addHeard_34 : decode cX3_addHeard 34 = .ok (.iload_n 1, 1) := by decide +kernel
theorem dX3_addHeard_35 : decode cX3_addHeard 35 = .ok (.iastore, 1) := by decide +kernel
theorem dX3_addHeard_36 : decode cX3_addHeard 36 = .ok (.aload_n 0, 1) := by decide +kernel
theorem dX3_addHeard_37 : decode cX3_addHeard 37 = .ok (.iload_n 2, 1) := by decide +kernel
theorem dX3_addHeard_38 : decode cX3_addHeard 38 = .ok (.ifCond .eq 17, 3) := by decide +kernel
theorem dX3_addHeard_41 : decode cX3_addHeard 41 = .ok (.aload_n 0, 1) := by decide +kernel
theorem dX3_addHeard_42 : decode cX3_addHeard 42 = .ok (.getfield 65, 3) := by decide +kernel
theorem dX3_addHeard_45 : decode cX3_addHeard 45 = .ok (.iconst 1, 1) := by decide +kernel
theorem dX3_addHeard_46 : decode cX3_addHeard 46 = .ok (.aload_n 0, 1) := by decide +kernel
theorem dX3_addHeard_47 : decode cX3_addHeard 47 = .ok (.getfield 62, 3) := by decide +kernel
theorem dX3_addHeard_50 : decode cX3_addHeard 50 = .ok (.ishl, 1) := by decide +kernel
theorem dX3_addHeard_51 : decode cX3_addHeard 51 = .ok (.ior, 1) := by decide +kernel
theorem dX3_addHeard_52 : decode cX3_addHeard 52 = .ok (.goto 16, 3) := by decide +kernel
theorem dX3_addHeard_55 : decode cX3_addHeard 55 = .ok (.aload_n 0, 1) := by decide +kernel
theorem dX3_addHeard_56 : decode cX3_addHeard 56 = .ok (.getfield 65, 3) := by decide +kernel
theorem dX3_addHeard_59 : decode cX3_addHeard 59 = .ok (.iconst 1, 1) := by decide +kernel
theorem dX3_addHeard_60 : decode cX3_addHeard 60 = .ok (.aload_n 0, 1) := by decide +kernel
theorem dX3_addHeard_61 : decode cX3_addHeard 61 = .ok (.getfield 62, 3) := by decide +kernel
theorem dX3_addHeard_64 : decode cX3_addHeard 64 = .ok (.ishl, 1) := by decide +kernel
theorem dX3_addHeard_65 : decode cX3_addHeard 65 = .ok (.iconst (-1), 1) := by decide +kernel
theorem dX3_addHeard_66 : decode cX3_addHeard 66 = .ok (.ixor, 1) := by decide +kernel
theorem dX3_addHeard_67 : decode cX3_addHeard 67 = .ok (.iand, 1) := by decide +kernel
theorem dX3_addHeard_68 : decode cX3_addHeard 68 = .ok (.putfield 65, 3) := by decide +kernel
theorem dX3_addHeard_71 : decode cX3_addHeard 71 = .ok (.aload_n 0, 1) := by decide +kernel
theorem dX3_addHeard_72 : decode cX3_addHeard 72 = .ok (.dup, 1) := by decide +kernel
theorem dX3_addHeard_73 : decode cX3_addHeard 73 = .ok (.getfield 62, 3) := by decide +kernel
theorem dX3_addHeard_76 : decode cX3_addHeard 76 = .ok (.iconst 1, 1) := by decide +kernel
theorem dX3_addHeard_77 : decode cX3_addHeard 77 = .ok (.iadd, 1) := by decide +kernel
theorem dX3_addHeard_78 : decode cX3_addHeard 78 = .ok (.putfield 62, 3) := by decide +kernel
theorem dX3_addHeard_81 : decode cX3_addHeard 81 = .ok (.aload_n 0, 1) := by decide +kernel
theorem dX3_addHeard_82 : decode cX3_addHeard 82 = .ok (.getfield 62, 3) := by decide +kernel
theorem dX3_addHeard_85 : decode cX3_addHeard 85 = .ok (.ireturn, 1) := by decide +kernel
theorem dX4_fewestDrawers_0 : decode cX4_fewestDrawers 0 = .ok (.iconst 0, 1) := by decide +kernel
theorem dX4_fewestDrawers_1 : decode cX4_fewestDrawers 1 = .ok (.istore_n 2, 1) := by decide +kernel
theorem dX4_fewestDrawers_2 : decode cX4_fewestDrawers 2 = .ok (.iload_n 2, 1) := by decide +kernel
theorem dX4_fewestDrawers_3 : decode cX4_fewestDrawers 3 = .ok (.aload_n 0, 1) := by decide +kernel
theorem dX4_fewestDrawers_4 : decode cX4_fewestDrawers 4 = .ok (.getfield 9, 3) := by decide +kernel
theorem dX4_fewestDrawers_7 : decode cX4_fewestDrawers 7 = .ok (.getfield 22, 3) := by decide +kernel
theorem dX4_fewestDrawers_10 : decode cX4_fewestDrawers 10 = .ok (.if_icmp .gt 49, 3) := by decide +kernel
theorem dX4_fewestDrawers_13 : decode cX4_fewestDrawers 13 = .ok (.iconst 0, 1) := by decide +kernel
theorem dX4_fewestDrawers_14 : decode cX4_fewestDrawers 14 = .ok (.istore_n 3, 1) := by decide +kernel
theorem dX4_fewestDrawers_15 : decode cX4_fewestDrawers 15 = .ok (.iload_n 3, 1) := by decide +kernel
theorem dX4_fewestDrawers_16 : decode cX4_fewestDrawers 16 = .ok (.iconst 1, 1) := by decide +kernel
theorem dX4_fewestDrawers_17 : decode cX4_fewestDrawers 17 = .ok (.aload_n 0, 1) := by decide +kernel
theorem dX4_fewestDrawers_18 : decode cX4_fewestDrawers 18 = .ok (.getfield 9, 3) := by decide +kernel
theorem dX4_fewestDrawers_21 : decode cX4_fewestDrawers 21 = .ok (.getfield 22, 3) := by decide +kernel
theorem dX4_fewestDrawers_24 : decode cX4_fewestDrawers 24 = .ok (.ishl, 1) := by decide +kernel
theorem dX4_fewestDrawers_25 : decode cX4_fewestDrawers 25 = .ok (.if_icmp .ge 28, 3) := by decide +kernel
theorem dX4_fewestDrawers_28 : decode cX4_fewestDrawers 28 = .ok (.iload_n 3, 1) := by decide +kernel
theorem dX4_fewestDrawers_29 : decode cX4_fewestDrawers 29 = .ok (.invokestatic 28, 3) := by decide +kernel
theorem dX4_fewestDrawers_32 : decode cX4_fewestDrawers 32 = .ok (.iload_n 2, 1) := by decide +kernel
theorem dX4_fewestDrawers_33 : decode cX4_fewestDrawers 33 = .ok (.if_icmp .ne 14, 3) := by decide +kernel
theorem dX4_fewestDrawers_36 : decode cX4_fewestDrawers 36 = .ok (.aload_n 0, 1) := by decide +kernel
theorem dX4_fewestDrawers_37 : decode cX4_fewestDrawers 37 = .ok (.iload_n 1, 1) := by decide +kernel
theorem dX4_fewestDrawers_38 : decode cX4_fewestDrawers 38 = .ok (.iload_n 3, 1) := by decide +kernel
theorem dX4_fewestDrawers_39 : decode cX4_fewestDrawers 39 = .ok (.invokevirtual 34, 3) := by decide +kernel
theorem dX4_fewestDrawers_42 : decode cX4_fewestDrawers 42 = .ok (.ifCond .eq 5, 3) := by decide +kernel
theorem dX4_fewestDrawers_45 : decode cX4_fewestDrawers 45 = .ok (.iload_n 3, 1) := by decide +kernel
theorem dX4_fewestDrawers_46 : decode cX4_fewestDrawers 46 = .ok (.ireturn, 1) := by decide +kernel
theorem dX4_fewestDrawers_47 : decode cX4_fewestDrawers 47 = .ok (.iinc 3 1, 3) := by decide +kernel
theorem dX4_fewestDrawers_50 : decode cX4_fewestDrawers 50 = .ok (.goto (-35), 3) := by decide +kernel
theorem dX4_fewestDrawers_53 : decode cX4_fewestDrawers 53 = .ok (.iinc 2 1, 3) := by decide +kernel
theorem dX4_fewestDrawers_56 : decode cX4_fewestDrawers 56 = .ok (.goto (-54), 3) := by decide +kernel
theorem dX4_fewestDrawers_59 : decode cX4_fewestDrawers 59 = .ok (.bipush (-4), 2) := by decide +kernel
theorem dX4_fewestDrawers_61 : decode cX4_fewestDrawers 61 = .ok (.ireturn, 1) := by decide +kernel
theorem dX4_canDraw_0 : decode cX4_canDraw 0 = .ok (.iconst 0, 1) := by decide +kernel
theorem dX4_canDraw_1 : decode cX4_canDraw 1 = .ok (.istore_n 3, 1) := by decide +kernel
theorem dX4_canDraw_2 : decode cX4_canDraw 2 = .ok (.iconst 0, 1) := by decide +kernel
theorem dX4_canDraw_3 : decode cX4_canDraw 3 = .ok (.istore 4, 2) := by decide +kernel
theorem dX4_canDraw_5 : decode cX4_canDraw 5 = .ok (.iload 4, 2) := by decide +kernel
theorem dX4_canDraw_7 : decode cX4_canDraw 7 = .ok (.aload_n 0, 1) := by decide +kernel
theorem dX4_canDraw_8 : decode cX4_canDraw 8 = .ok (.getfield 9, 3) := by decide +kernel
theorem dX4_canDraw_11 : decode cX4_canDraw 11 = .ok (.getfield 22, 3) := by decide +kernel
theorem dX4_canDraw_14 : decode cX4_canDraw 14 = .ok (.if_icmp .ge 49, 3) := by decide +kernel
theorem dX4_canDraw_17 : decode cX4_canDraw 17 = .ok (.aload_n 0, 1) := by decide +kernel
theorem dX4_canDraw_18 : decode cX4_canDraw 18 = .ok (.getfield 15, 3) := by decide +kernel
theorem dX4_canDraw_21 : decode cX4_canDraw 21 = .ok (.iload 4, 2) := by decide +kernel
theorem dX4_canDraw_23 : decode cX4_canDraw 23 = .ok (.iload_n 2, 1) := by decide +kernel
theorem dX4_canDraw_24 : decode cX4_canDraw 24 = .ok (.iload 4, 2) := by decide +kernel
theorem dX4_canDraw_26 : decode cX4_canDraw 26 = .ok (.invokestatic 38, 3) := by decide +kernel
theorem dX4_canDraw_29 : decode cX4_canDraw 29 = .ok (.ifCond .eq 16, 3) := by decide +kernel
theorem dX4_canDraw_32 : decode cX4_canDraw 32 = .ok (.aload_n 0, 1) := by decide +kernel
theorem dX4_canDraw_33 : decode cX4_canDraw 33 = .ok (.getfield 9, 3) := by decide +kernel
theorem dX4_canDraw_36 : decode cX4_canDraw 36 = .ok (.getfield 41, 3) := by decide +kernel
theorem dX4_canDraw_39 : decode cX4_canDraw 39 = .ok (.iload 4, 2) := by decide +kernel
theorem dX4_canDraw_41 : decode cX4_canDraw 41 = .ok (.iaload, 1) := by decide +kernel
theorem dX4_canDraw_42 : decode cX4_canDraw 42 = .ok (.goto 4, 3) := by decide +kernel
theorem dX4_canDraw_45 : decode cX4_canDraw 45 = .ok (.iconst 0, 1) := by decide +kernel
theorem dX4_canDraw_46 : decode cX4_canDraw 46 = .ok (.iastore, 1) := by decide +kernel
theorem dX4_canDraw_47 : decode cX4_canDraw 47 = .ok (.iload_n 3, 1) := by decide +kernel
theorem dX4_canDraw_48 : decode cX4_canDraw 48 = .ok (.aload_n 0, 1) := by decide +kernel
theorem dX4_canDraw_49 : decode cX4_canDraw 49 = .ok (.getfield 15, 3) := by decide +kernel
theorem dX4_canDraw_52 : decode cX4_canDraw 52 = .ok (.iload 4, 2) := by decide +kernel
theorem dX4_canDraw_54 : decode cX4_canDraw 54 = .ok (.iaload, 1) := by decide +kernel
theorem dX4_canDraw_55 : decode cX4_canDraw 55 = .ok (.iadd, 1) := by decide +kernel
theorem dX4_canDraw_56 : decode cX4_canDraw 56 = .ok (.istore_n 3, 1) := by decide +kernel
theorem dX4_canDraw_57 : decode cX4_canDraw 57 = .ok (.iinc 4 1, 3) := by decide +kernel
theorem dX4_canDraw_60 : decode cX4_canDraw 60 = .ok (.goto (-55), 3) := by decide +kernel
theorem dX4_canDraw_63 : decode cX4_canDraw 63 = .ok (.iload_n 3, 1) := by decide +kernel
theorem dX4_canDraw_64 : decode cX4_canDraw 64 = .ok (.aload_n 0, 1) := by decide +kernel
theorem dX4_canDraw_65 : decode cX4_canDraw 65 = .ok (.getfield 9, 3) := by decide +kernel
theorem dX4_canDraw_68 : decode cX4_canDraw 68 = .ok (.iload_n 1, 1) := by decide +kernel
theorem dX4_canDraw_69 : decode cX4_canDraw 69 = .ok (.invokevirtual 44, 3) := by decide +kernel
theorem dX4_canDraw_72 : decode cX4_canDraw 72 = .ok (.if_icmp .lt 27, 3) := by decide +kernel
theorem dX4_canDraw_75 : decode cX4_canDraw 75 = .ok (.aload_n 0, 1) := by decide +kernel
theorem dX4_canDraw_76 : decode cX4_canDraw 76 = .ok (.getfield 9, 3) := by decide +kernel
theorem dX4_canDraw_79 : decode cX4_canDraw 79 = .ok (.iload_n 1, 1) := by decide +kernel
theorem dX4_canDraw_80 : decode cX4_canDraw 80 = .ok (.iconst 0, 1) := by decide +kernel
theorem dX4_canDraw_81 : decode cX4_canDraw 81 = .ok (.aload_n 0, 1) := by decide +kernel
theorem dX4_canDraw_82 : decode cX4_canDraw 82 = .ok (.getfield 15, 3) := by decide +kernel
theorem dX4_canDraw_85 : decode cX4_canDraw 85 = .ok (.aload_n 0, 1) := by decide +kernel
theorem dX4_canDraw_86 : decode cX4_canDraw 86 = .ok (.getfield 19, 3) := by decide +kernel
theorem dX4_canDraw_89 : decode cX4_canDraw 89 = .ok (.invokestatic 47, 3) := by decide +kernel
theorem dX4_canDraw_92 : decode cX4_canDraw 92 = .ok (.ifCond .eq 7, 3) := by decide +kernel
theorem dX4_canDraw_95 : decode cX4_canDraw 95 = .ok (.iconst 1, 1) := by decide +kernel
theorem dX4_canDraw_96 : decode cX4_canDraw 96 = .ok (.goto 4, 3) := by decide +kernel
theorem dX4_canDraw_99 : decode cX4_canDraw 99 = .ok (.iconst 0, 1) := by decide +kernel
theorem dX4_canDraw_100 : decode cX4_canDraw 100 = .ok (.ireturn, 1) := by decide +kernel
theorem dX4_give_0 : decode cX4_give 0 = .ok (.iload_n 2, 1) := by decide +kernel
theorem dX4_give_1 : decode cX4_give 1 = .ok (.aload_n 0, 1) := by decide +kernel
theorem dX4_give_2 : decode cX4_give 2 = .ok (.getfield 51, 3) := by decide +kernel
theorem dX4_give_5 : decode cX4_give 5 = .ok (.if_icmp .lt 5, 3) := by decide +kernel
theorem dX4_give_8 : decode cX4_give 8 = .ok (.iconst 1, 1) := by decide +kernel
theorem dX4_give_9 : decode cX4_give 9 = .ok (.ireturn, 1) := by decide +kernel
theorem dX4_give_10 : decode cX4_give 10 = .ok (.iload_n 1, 1) := by decide +kernel
theorem dX4_give_11 : decode cX4_give 11 = .ok (.iload_n 2, 1) := by decide +kernel
theorem dX4_give_12 : decode cX4_give 12 = .ok (.invokestatic 38, 3) := by decide +kernel
theorem dX4_give_15 : decode cX4_give 15 = .ok (.ifCond .ne 15, 3) := by decide +kernel
theorem dX4_give_18 : decode cX4_give 18 = .ok (.aload_n 0, 1) := by decide +kernel
theorem dX4_give_19 : decode cX4_give 19 = .ok (.iload_n 1, 1) := by decide +kernel
theorem dX4_give_20 : decode cX4_give 20 = .ok (.iload_n 2, 1) := by decide +kernel
theorem dX4_give_21 : decode cX4_give 21 = .ok (.iconst 1, 1) := by decide +kernel
theorem dX4_give_22 : decode cX4_give 22 = .ok (.iadd, 1) := by decide +kernel
theorem dX4_give_23 : decode cX4_give 23 = .ok (.aload_n 3, 1) := by decide +kernel
theorem dX4_give_24 : decode cX4_give 24 = .ok (.aload 4, 2) := by decide +kernel
theorem dX4_give_26 : decode cX4_give 26 = .ok (.invokestatic 47, 3) := by decide +kernel
theorem dX4_give_29 : decode cX4_give 29 = .ok (.ireturn, 1) := by decide +kernel
theorem dX4_give_30 : decode cX4_give 30 = .ok (.aload_n 0, 1) := by decide +kernel
theorem dX4_give_31 : decode cX4_give 31 = .ok (.getfield 54, 3) := by decide +kernel
theorem dX4_give_34 : decode cX4_give 34 = .ok (.iload_n 2, 1) := by decide +kernel
theorem dX4_give_35 : decode cX4_give 35 = .ok (.iaload, 1) := by decide +kernel
theorem dX4_give_36 : decode cX4_give 36 = .ok (.istore 5, 2) := by decide +kernel
theorem dX4_give_38 : decode cX4_give 38 = .ok (.iconst 0, 1) := by decide +kernel
theorem dX4_give_39 : decode cX4_give 39 = .ok (.istore 6, 2) := by decide +kernel
theorem dX4_give_41 : decode cX4_give 41 = .ok (.iload 6, 2) := by decide +kernel
theorem dX4_give_43 : decode cX4_give 43 = .ok (.aload_n 0, 1) := by decide +kernel
theorem dX4_give_44 : decode cX4_give 44 = .ok (.getfield 22, 3) := by decide +kernel
theorem dX4_give_47 : decode cX4_give 47 = .ok (.if_icmp .ge 58, 3) := by decide +kernel
theorem dX4_give_50 : decode cX4_give 50 = .ok (.aload_n 3, 1) := by decide +kernel
theorem dX4_give_51 : decode cX4_give 51 = .ok (.iload 6, 2) := by decide +kernel
theorem dX4_give_53 : decode cX4_give 53 = .ok (.iaload, 1) := by decide +kernel
theorem dX4_give_54 : decode cX4_give 54 = .ok (.iload 5, 2) := by decide +kernel
theorem dX4_give_56 : decode cX4_give 56 = .ok (.if_icmp .lt 43, 3) := by decide +kernel
theorem dX4_give_59 : decode cX4_give 59 = .ok (.aload_n 3, 1) := by decide +kernel
theorem dX4_give_60 : decode cX4_give 60 = .ok (.iload 6, 2) := by decide +kernel
theorem dX4_give_62 : decode cX4_give 62 = .ok (.dup2, 1) := by decide +kernel
theorem dX4_give_63 : decode cX4_give 63 = .ok (.iaload, 1) := by decide +kernel
theorem dX4_give_64 : decode cX4_give 64 = .ok (.iload 5, 2) := by decide +kernel
theorem dX4_give_66 : decode cX4_give 66 = .ok (.isub, 1) := by decide +kernel
theorem dX4_give_67 : decode cX4_give 67 = .ok (.iastore, 1) := by decide +kernel
theorem dX4_give_68 : decode cX4_give 68 = .ok (.aload 4, 2) := by decide +kernel
theorem dX4_give_70 : decode cX4_give 70 = .ok (.iload_n 2, 1) := by decide +kernel
theorem dX4_give_71 : decode cX4_give 71 = .ok (.iload 6, 2) := by decide +kernel
theorem dX4_give_73 : decode cX4_give 73 = .ok (.iastore, 1) := by decide +kernel
theorem dX4_give_74 : decode cX4_give 74 = .ok (.aload_n 0, 1) := by decide +kernel
theorem dX4_give_75 : decode cX4_give 75 = .ok (.iload_n 1, 1) := by decide +kernel
theorem dX4_give_76 : decode cX4_give 76 = .ok (.iload_n 2, 1) := by decide +kernel
theorem dX4_give_77 : decode cX4_give 77 = .ok (.iconst 1, 1) := by decide +kernel
theorem dX4_give_78 : decode cX4_give 78 = .ok (.iadd, 1) := by decide +kernel
theorem dX4_give_79 : decode cX4_give 79 = .ok (.aload_n 3, 1) := by decide +kernel
theorem dX4_give_80 : decode cX4_give 80 = .ok (.aload 4, 2) := by decide +kernel
theorem dX4_give_82 : decode cX4_give 82 = .ok (.invokestatic 47, 3) := by decide +kernel
theorem dX4_give_85 : decode cX4_give 85 = .ok (.ifCond .eq 5, 3) := by decide +kernel
theorem dX4_give_88 : decode cX4_give 88 = .ok (.iconst 1, 1) := by decide +kernel
theorem dX4_give_89 : decode cX4_give 89 = .ok (.ireturn, 1) := by decide +kernel
theorem dX4_give_90 : decode cX4_give 90 = .ok (.aload_n 3, 1) := by decide +kernel
theorem dX4_give_91 : decode cX4_give 91 = .ok (.iload 6, 2) := by decide +kernel
theorem dX4_give_93 : decode cX4_give 93 = .ok (.dup2, 1) := by decide +kernel
theorem dX4_give_94 : decode cX4_give 94 = .ok (.iaload, 1) := by decide +kernel
theorem dX4_give_95 : decode cX4_give 95 = .ok (.iload 5, 2) := by decide +kernel
theorem dX4_give_97 : decode cX4_give 97 = .ok (.iadd, 1) := by decide +kernel
theorem dX4_give_98 : decode cX4_give 98 = .ok (.iastore, 1) := by decide +kernel
theorem dX4_give_99 : decode cX4_give 99 = .ok (.iinc 6 1, 3) := by decide +kernel
theorem dX4_give_102 : decode cX4_give 102 = .ok (.goto (-61), 3) := by decide +kernel
theorem dX4_give_105 : decode cX4_give 105 = .ok (.iconst 0, 1) := by decide +kernel
theorem dX4_give_106 : decode cX4_give 106 = .ok (.ireturn, 1) := by decide +kernel
theorem dX5_hasSheet_0 : decode cX5_hasSheet 0 = .ok (.iload_n 1, 1) := by decide +kernel
theorem dX5_hasSheet_1 : decode cX5_hasSheet 1 = .ok (.ifCond .lt 12, 3) := by decide +kernel
theorem dX5_hasSheet_4 : decode cX5_hasSheet 4 = .ok (.iload_n 1, 1) := by decide +kernel
theorem dX5_hasSheet_5 : decode cX5_hasSheet 5 = .ok (.iconst 4, 1) := by decide +kernel
theorem dX5_hasSheet_6 : decode cX5_hasSheet 6 = .ok (.if_icmp .ge 7, 3) := by decide +kernel
theorem dX5_hasSheet_9 : decode cX5_hasSheet 9 = .ok (.iconst 1, 1) := by decide +kernel
theorem dX5_hasSheet_10 : decode cX5_hasSheet 10 = .ok (.goto 4, 3) := by decide +kernel
theorem dX5_hasSheet_13 : decode cX5_hasSheet 13 = .ok (.iconst 0, 1) := by decide +kernel
theorem dX5_hasSheet_14 : decode cX5_hasSheet 14 = .ok (.ireturn, 1) := by decide +kernel
theorem dX5_hasLane_0 : decode cX5_hasLane 0 = .ok (.iload_n 1, 1) := by decide +kernel
theorem dX5_hasLane_1 : decode cX5_hasLane 1 = .ok (.ifCond .lt 12, 3) := by decide +kernel
theorem dX5_hasLane_4 : decode cX5_hasLane 4 = .ok (.iload_n 1, 1) := by decide +kernel
theorem dX5_hasLane_5 : decode cX5_hasLane 5 = .ok (.iconst 2, 1) := by decide +kernel
theorem dX5_hasLane_6 : decode cX5_hasLane 6 = .ok (.if_icmp .gt 7, 3) := by decide +kernel
theorem dX5_hasLane_9 : decode cX5_hasLane 9 = .ok (.iconst 1, 1) := by decide +kernel
theorem dX5_hasLane_10 : decode cX5_hasLane 10 = .ok (.goto 4, 3) := by decide +kernel
theorem dX5_hasLane_13 : decode cX5_hasLane 13 = .ok (.iconst 0, 1) := by decide +kernel
theorem dX5_hasLane_14 : decode cX5_hasLane 14 = .ok (.ireturn, 1) := by decide +kernel
theorem dX5_isNothing_0 : decode cX5_isNothing 0 = .ok (.aload_n 0, 1) := by decide +kernel
theorem dX5_isNothing_1 : decode cX5_isNothing 1 = .ok (.getfield 18, 3) := by decide +kernel
theorem dX5_isNothing_4 : decode cX5_isNothing 4 = .ok (.iload_n 1, 1) := by decide +kernel
theorem dX5_isNothing_5 : decode cX5_isNothing 5 = .ok (.iaload, 1) := by decide +kernel
theorem dX5_isNothing_6 : decode cX5_isNothing 6 = .ok (.iconst (-1), 1) := by decide +kernel
theorem dX5_isNothing_7 : decode cX5_isNothing 7 = .ok (.if_icmp .ne 7, 3) := by decide +kernel
theorem dX5_isNothing_10 : decode cX5_isNothing 10 = .ok (.iconst 1, 1) := by decide +kernel
theorem dX5_isNothing_11 : decode cX5_isNothing 11 = .ok (.goto 4, 3) := by decide +kernel
theorem dX5_isNothing_14 : decode cX5_isNothing 14 = .ok (.iconst 0, 1) := by decide +kernel
theorem dX5_isNothing_15 : decode cX5_isNothing 15 = .ok (.ireturn, 1) := by decide +kernel
theorem dX5_sizeOf_0 : decode cX5_sizeOf 0 = .ok (.aload_n 0, 1) := by decide +kernel
theorem dX5_sizeOf_1 : decode cX5_sizeOf 1 = .ok (.getfield 18, 3) := by decide +kernel
theorem dX5_sizeOf_4 : decode cX5_sizeOf 4 = .ok (.iload_n 1, 1) := by decide +kernel
theorem dX5_sizeOf_5 : decode cX5_sizeOf 5 = .ok (.iaload, 1) := by decide +kernel
theorem dX5_sizeOf_6 : decode cX5_sizeOf 6 = .ok (.ireturn, 1) := by decide +kernel
theorem dX5_hasCell_0 : decode cX5_hasCell 0 = .ok (.iload_n 2, 1) := by decide +kernel
theorem dX5_hasCell_1 : decode cX5_hasCell 1 = .ok (.ifCond .lt 17, 3) := by decide +kernel
theorem dX5_hasCell_4 : decode cX5_hasCell 4 = .ok (.iload_n 2, 1) := by decide +kernel
theorem dX5_hasCell_5 : decode cX5_hasCell 5 = .ok (.aload_n 0, 1) := by decide +kernel
theorem dX5_hasCell_6 : decode cX5_hasCell 6 = .ok (.getfield 18, 3) := by decide +kernel
theorem dX5_hasCell_9 : decode cX5_hasCell 9 = .ok (.iload_n 1, 1) := by decide +kernel
theorem dX5_hasCell_10 : decode cX5_hasCell 10 = .ok (.iaload, 1) := by decide +kernel
theorem dX5_hasCell_11 : decode cX5_hasCell 11 = .ok (.if_icmp .ge 7, 3) := by decide +kernel
theorem dX5_hasCell_14 : decode cX5_hasCell 14 = .ok (.iconst 1, 1) := by decide +kernel
theorem dX5_hasCell_15 : decode cX5_hasCell 15 = .ok (.goto 4, 3) := by decide +kernel
theorem dX5_hasCell_18 : decode cX5_hasCell 18 = .ok (.iconst 0, 1) := by decide +kernel
theorem dX5_hasCell_19 : decode cX5_hasCell 19 = .ok (.ireturn, 1) := by decide +kernel
theorem dX5_hasTwoCells_0 : decode cX5_hasTwoCells 0 = .ok (.aload_n 0, 1) := by decide +kernel
theorem dX5_hasTwoCells_1 : decode cX5_hasTwoCells 1 = .ok (.iload_n 1, 1) := by decide +kernel
theorem dX5_hasTwoCells_2 : decode cX5_hasTwoCells 2 = .ok (.iload_n 2, 1) := by decide +kernel
theorem dX5_hasTwoCells_3 : decode cX5_hasTwoCells 3 = .ok (.invokevirtual 21, 3) := by decide +kernel
theorem dX5_hasTwoCells_6 : decode cX5_hasTwoCells 6 = .ok (.ifCond .eq 18, 3) := by decide +kernel
theorem dX5_hasTwoCells_9 : decode cX5_hasTwoCells 9 = .ok (.aload_n 0, 1) := by decide +kernel
theorem dX5_hasTwoCells_10 : decode cX5_hasTwoCells 10 = .ok (.iload_n 1, 1) := by decide +kernel
theorem dX5_hasTwoCells_11 : decode cX5_hasTwoCells 11 = .ok (.iload_n 2, 1) := by decide +kernel
theorem dX5_hasTwoCells_12 : decode cX5_hasTwoCells 12 = .ok (.iconst 1, 1) := by decide +kernel
theorem dX5_hasTwoCells_13 : decode cX5_hasTwoCells 13 = .ok (.iadd, 1) := by decide +kernel
theorem dX5_hasTwoCells_14 : decode cX5_hasTwoCells 14 = .ok (.invokevirtual 21, 3) := by decide +kernel
theorem dX5_hasTwoCells_17 : decode cX5_hasTwoCells 17 = .ok (.ifCond .eq 7, 3) := by decide +kernel
theorem dX5_hasTwoCells_20 : decode cX5_hasTwoCells 20 = .ok (.iconst 1, 1) := by decide +kernel
theorem dX5_hasTwoCells_21 : decode cX5_hasTwoCells 21 = .ok (.goto 4, 3) := by decide +kernel
theorem dX5_hasTwoCells_24 : decode cX5_hasTwoCells 24 = .ok (.iconst 0, 1) := by decide +kernel
theorem dX5_hasTwoCells_25 : decode cX5_hasTwoCells 25 = .ok (.ireturn, 1) := by decide +kernel
theorem dX5_cell_0 : decode cX5_cell 0 = .ok (.aload_n 0, 1) := by decide +kernel
theorem dX5_cell_1 : decode cX5_cell 1 = .ok (.getfield 11, 3) := by decide +kernel
theorem dX5_cell_4 : decode cX5_cell 4 = .ok (.iload_n 1, 1) := by decide +kernel
theorem dX5_cell_5 : decode cX5_cell 5 = .ok (.bipush 40, 2) := by decide +kernel
theorem dX5_cell_7 : decode cX5_cell 7 = .ok (.imul, 1) := by decide +kernel
theorem dX5_cell_8 : decode cX5_cell 8 = .ok (.iload_n 2, 1) := by decide +kernel
theorem dX5_cell_9 : decode cX5_cell 9 = .ok (.iadd, 1) := by decide +kernel
theorem dX5_cell_10 : decode cX5_cell 10 = .ok (.iaload, 1) := by decide +kernel
theorem dX5_cell_11 : decode cX5_cell 11 = .ok (.ireturn, 1) := by decide +kernel
theorem dX5_makeAnew_0 : decode cX5_makeAnew 0 = .ok (.aload_n 0, 1) := by decide +kernel
theorem dX5_makeAnew_1 : decode cX5_makeAnew 1 = .ok (.getfield 15, 3) := by decide +kernel
theorem dX5_makeAnew_4 : decode cX5_makeAnew 4 = .ok (.iload_n 1, 1) := by decide +kernel
theorem dX5_makeAnew_5 : decode cX5_makeAnew 5 = .ok (.iload_n 2, 1) := by decide +kernel
theorem dX5_makeAnew_6 : decode cX5_makeAnew 6 = .ok (.iastore, 1) := by decide +kernel
theorem dX5_makeAnew_7 : decode cX5_makeAnew 7 = .ok (.aload_n 0, 1) := by decide +kernel
theorem dX5_makeAnew_8 : decode cX5_makeAnew 8 = .ok (.getfield 18, 3) := by decide +kernel
theorem dX5_makeAnew_11 : decode cX5_makeAnew 11 = .ok (.iload_n 1, 1) := by decide +kernel
theorem dX5_makeAnew_12 : decode cX5_makeAnew 12 = .ok (.iload_n 3, 1) := by decide +kernel
theorem dX5_makeAnew_13 : decode cX5_makeAnew 13 = .ok (.iastore, 1) := by decide +kernel
theorem dX5_makeAnew_14 : decode cX5_makeAnew 14 = .ok (.iconst 0, 1) := by decide +kernel
theorem dX5_makeAnew_15 : decode cX5_makeAnew 15 = .ok (.istore 4, 2) := by decide +kernel
theorem dX5_makeAnew_17 : decode cX5_makeAnew 17 = .ok (.iload 4, 2) := by decide +kernel
theorem dX5_makeAnew_19 : decode cX5_makeAnew 19 = .ok (.iload_n 3, 1) := by decide +kernel
theorem dX5_makeAnew_20 : decode cX5_makeAnew 20 = .ok (.if_icmp .ge 22, 3) := by decide +kernel
theorem dX5_makeAnew_23 : decode cX5_makeAnew 23 = .ok (.aload_n 0, 1) := by decide +kernel
theorem dX5_makeAnew_24 : decode cX5_makeAnew 24 = .ok (.getfield 11, 3) := by decide +kernel
theorem dX5_makeAnew_27 : decode cX5_makeAnew 27 = .ok (.iload_n 1, 1) := by decide +kernel
theorem dX5_makeAnew_28 : decode cX5_makeAnew 28 = .ok (.bipush 40, 2) := by decide +kernel
theorem dX5_makeAnew_30 : decode cX5_makeAnew 30 = .ok (.imul, 1) := by decide +kernel
theorem dX5_makeAnew_31 : decode cX5_makeAnew 31 = .ok (.iload 4, 2) := by decide +kernel
theorem dX5_makeAnew_33 : decode cX5_makeAnew 33 = .ok (.iadd, 1) := by decide +kernel
theorem dX5_makeAnew_34 : decode cX5_makeAnew 34 = .ok (.iconst 0, 1) := by decide +kernel
theorem dX5_makeAnew_35 : decode cX5_makeAnew 35 = .ok (.iastore, 1) := by decide +kernel
theorem dX5_makeAnew_36 : decode cX5_makeAnew 36 = .ok (.iinc 4 1, 3) := by decide +kernel
theorem dX5_makeAnew_39 : decode cX5_makeAnew 39 = .ok (.goto (-22), 3) := by decide +kernel
theorem dX5_makeAnew_42 : decode cX5_makeAnew 42 = .ok (.return_, 1) := by decide +kernel
theorem dX5_setCell_0 : decode cX5_setCell 0 = .ok (.iload_n 3, 1) := by decide +kernel
theorem dX5_setCell_1 : decode cX5_setCell 1 = .ok (.istore 4, 2) := by decide +kernel
theorem dX5_setCell_3 : decode cX5_setCell 3 = .ok (.aload_n 0, 1) := by decide +kernel
theorem dX5_setCell_4 : decode cX5_setCell 4 = .ok (.getfield 15, 3) := by decide +kernel
theorem dX5_setCell_7 : decode cX5_setCell 7 = .ok (.iload_n 1, 1) := by decide +kernel
theorem dX5_setCell_8 : decode cX5_setCell 8 = .ok (.iaload, 1) := by decide +kernel
theorem dX5_setCell_9 : decode cX5_setCell 9 = .ok (.ifCond .ne 10, 3) := by decide +kernel
theorem dX5_setCell_12 : decode cX5_setCell 12 = .ok (.iload_n 3, 1) := by decide +kernel
theorem dX5_setCell_13 : decode cX5_setCell 13 = .ok (.i2b, 1) := by decide +kernel
theorem dX5_setCell_14 : decode cX5_setCell 14 = .ok (.istore 4, 2) := by decide +kernel
theorem dX5_setCell_16 : decode cX5_setCell 16 = .ok (.goto 17, 3) := by decide +kernel
theorem dX5_setCell_19 : decode cX5_setCell 19 = .ok (.aload_n 0, 1) := by decide +kernel
theorem dX5_setCell_20 : decode cX5_setCell 20 = .ok (.getfield 15, 3) := by decide +kernel
theorem dX5_setCell_23 : decode cX5_setCell 23 = .ok (.iload_n 1, 1) := by decide +kernel
theorem dX5_setCell_24 : decode cX5_setCell 24 = .ok (.iaload, 1) := by decide +kernel
theorem dX5_setCell_25 : decode cX5_setCell 25 = .ok (.iconst 1, 1) := by decide +kernel
theorem dX5_setCell_26 : decode cX5_setCell 26 = .ok (.if_icmp .ne 7, 3) := by decide +kernel
theorem dX5_setCell_29 : decode cX5_setCell 29 = .ok (.iload_n 3, 1) := by decide +kernel
theorem dX5_setCell_30 : decode cX5_setCell 30 = .ok (.i2s, 1) := by decide +kernel
theorem dX5_setCell_31 : decode cX5_setCell 31 = .ok (.istore 4, 2) := by decide +kernel
theorem dX5_setCell_33 : decode cX5_setCell 33 = .ok (.aload_n 0, 1) := by decide +kernel
theorem dX5_setCell_34 : decode cX5_setCell 34 = .ok (.getfield 11, 3) := by decide +kernel
theorem dX5_setCell_37 : decode cX5_setCell 37 = .ok (.iload_n 1, 1) := by decide +kernel
theorem dX5_setCell_38 : decode cX5_setCell 38 = .ok (.bipush 40, 2) := by decide +kernel
theorem dX5_setCell_40 : decode cX5_setCell 40 = .ok (.imul, 1) := by decide +kernel
theorem dX5_setCell_41 : decode cX5_setCell 41 = .ok (.iload_n 2, 1) := by decide +kernel
theorem dX5_setCell_42 : decode cX5_setCell 42 = .ok (.iadd, 1) := by decide +kernel
theorem dX5_setCell_43 : decode cX5_setCell 43 = .ok (.iload 4, 2) := by decide +kernel
theorem dX5_setCell_45 : decode cX5_setCell 45 = .ok (.iastore, 1) := by decide +kernel
theorem dX5_setCell_46 : decode cX5_setCell 46 = .ok (.return_, 1) := by decide +kernel
theorem dX5_faultOfTaking_0 : decode cX5_faultOfTaking 0 = .ok (.aload_n 0, 1) := by decide +kernel
theorem dX5_faultOfTaking_1 : decode cX5_faultOfTaking 1 = .ok (.iload_n 1, 1) := by decide +kernel
theorem dX5_faultOfTaking_2 : decode cX5_faultOfTaking 2 = .ok (.invokevirtual 25, 3) := by decide +kernel
theorem dX5_faultOfTaking_5 : decode cX5_faultOfTaking 5 = .ok (.ifCond .eq 5, 3) := by decide +kernel
theorem dX5_faultOfTaking_8 : decode cX5_faultOfTaking 8 = .ok (.iconst 1, 1) := by decide +kernel
theorem dX5_faultOfTaking_9 : decode cX5_faultOfTaking 9 = .ok (.ireturn, 1) := by decide +kernel
theorem dX5_faultOfTaking_10 : decode cX5_faultOfTaking 10 = .ok (.aload_n 0, 1) := by decide +kernel
theorem dX5_faultOfTaking_11 : decode cX5_faultOfTaking 11 = .ok (.getfield 15, 3) := by decide +kernel
theorem dX5_faultOfTaking_14 : decode cX5_faultOfTaking 14 = .ok (.iload_n 1, 1) := by decide +kernel
theorem dX5_faultOfTaking_15 : decode cX5_faultOfTaking 15 = .ok (.iaload, 1) := by decide +kernel
theorem dX5_faultOfTaking_16 : decode cX5_faultOfTaking 16 = .ok (.iload_n 2, 1) := by decide +kernel
theorem dX5_faultOfTaking_17 : decode cX5_faultOfTaking 17 = .ok (.if_icmp .ne 7, 3) := by decide +kernel
theorem dX5_faultOfTaking_20 : decode cX5_faultOfTaking 20 = .ok (.iconst 0, 1) := by decide +kernel
theorem dX5_faultOfTaking_21 : decode cX5_faultOfTaking 21 = .ok (.goto 4, 3) := by decide +kernel
theorem dX5_faultOfTaking_24 : decode cX5_faultOfTaking 24 = .ok (.iconst 3, 1) := by decide +kernel
theorem dX5_faultOfTaking_25 : decode cX5_faultOfTaking 25 = .ok (.ireturn, 1) := by decide +kernel
theorem dX6_append_0 : decode cX6_append 0 = .ok (.aload_n 0, 1) := by decide +kernel
theorem dX6_append_1 : decode cX6_append 1 = .ok (.getfield 15, 3) := by decide +kernel
theorem dX6_append_4 : decode cX6_append 4 = .ok (.bipush 8, 2) := by decide +kernel
theorem dX6_append_6 : decode cX6_append 6 = .ok (.iadd, 1) := by decide +kernel
theorem dX6_append_7 : decode cX6_append 7 = .ok (.sipush 400, 3) := by decide +kernel
theorem dX6_append_10 : decode cX6_append 10 = .ok (.if_icmp .le 6, 3) := by decide +kernel
theorem dX6_append_13 : decode cX6_append 13 = .ok (.bipush (-3), 2) := by decide +kernel
theorem dX6_append_15 : decode cX6_append 15 = .ok (.ireturn, 1) := by decide +kernel
theorem dX6_append_16 : decode cX6_append 16 = .ok (.iconst 0, 1) := by decide +kernel
theorem dX6_append_17 : decode cX6_append 17 = .ok (.istore_n 3, 1) := by decide +kernel
theorem dX6_append_18 : decode cX6_append 18 = .ok (.iload_n 3, 1) := by decide +kernel
theorem dX6_append_19 : decode cX6_append 19 = .ok (.bipush 8, 2) := by decide +kernel
theorem dX6_append_21 : decode cX6_append 21 = .ok (.if_icmp .ge 34, 3) := by decide +kernel
theorem dX6_append_24 : decode cX6_append 24 = .ok (.aload_n 0, 1) := by decide +kernel
theorem dX6_append_25 : decode cX6_append 25 = .ok (.getfield 11, 3) := by decide +kernel
theorem dX6_append_28 : decode cX6_append 28 = .ok (.aload_n 0, 1) := by decide +kernel
theorem dX6_append_29 : decode cX6_append 29 = .ok (.getfield 15, 3) := by decide +kernel
theorem dX6_append_32 : decode cX6_append 32 = .ok (.iload_n 3, 1) := by decide +kernel
theorem dX6_append_33 : decode cX6_append 33 = .ok (.iadd, 1) := by decide +kernel
theorem dX6_append_34 : decode cX6_append 34 = .ok (.lload_n 1, 1) := by decide +kernel
theorem dX6_append_35 : decode cX6_append 35 = .ok (.bipush 56, 2) := by decide +kernel
theorem dX6_append_37 : decode cX6_append 37 = .ok (.bipush 8, 2) := by decide +kernel
theorem dX6_append_39 : decode cX6_append 39 = .ok (.iload_n 3, 1) := by decide +kernel
theorem dX6_append_40 : decode cX6_append 40 = .ok (.imul, 1) := by decide +kernel
theorem dX6_append_41 : decode cX6_append 41 = .ok (.isub, 1) := by decide +kernel
theorem dX6_append_42 : decode cX6_append 42 = .ok (.lshr, 1) := by decide +kernel
theorem dX6_append_43 : decode cX6_append 43 = .ok (.ldc2_w 19, 3) := by decide +kernel
theorem dX6_append_46 : decode cX6_append 46 = .ok (.land, 1) := by decide +kernel
theorem dX6_append_47 : decode cX6_append 47 = .ok (.l2i, 1) := by decide +kernel
theorem dX6_append_48 : decode cX6_append 48 = .ok (.iastore, 1) := by decide +kernel
theorem dX6_append_49 : decode cX6_append 49 = .ok (.iinc 3 1, 3) := by decide +kernel
theorem dX6_append_52 : decode cX6_append 52 = .ok (.goto (-34), 3) := by decide +kernel
theorem dX6_append_55 : decode cX6_append 55 = .ok (.aload_n 0, 1) := by decide +kernel
theorem dX6_append_56 : decode cX6_append 56 = .ok (.dup, 1) := by decide +kernel
theorem dX6_append_57 : decode cX6_append 57 = .ok (.getfield 15, 3) := by decide +kernel
theorem dX6_append_60 : decode cX6_append 60 = .ok (.bipush 8, 2) := by decide +kernel
theorem dX6_append_62 : decode cX6_append 62 = .ok (.iadd, 1) := by decide +kernel
theorem dX6_append_63 : decode cX6_append 63 = .ok (.putfield 15, 3) := by decide +kernel
theorem dX6_append_66 : decode cX6_append 66 = .ok (.aload_n 0, 1) := by decide +kernel
theorem dX6_append_67 : decode cX6_append 67 = .ok (.getfield 15, 3) := by decide +kernel
theorem dX6_append_70 : decode cX6_append 70 = .ok (.ireturn, 1) := by decide +kernel
theorem dX6_cut_0 : decode cX6_cut 0 = .ok (.iload_n 1, 1) := by decide +kernel
theorem dX6_cut_1 : decode cX6_cut 1 = .ok (.ifCond .lt 11, 3) := by decide +kernel
theorem dX6_cut_4 : decode cX6_cut 4 = .ok (.iload_n 1, 1) := by decide +kernel
theorem dX6_cut_5 : decode cX6_cut 5 = .ok (.aload_n 0, 1) := by decide +kernel
theorem dX6_cut_6 : decode cX6_cut 6 = .ok (.getfield 15, 3) := by decide +kernel
theorem dX6_cut_9 : decode cX6_cut 9 = .ok (.if_icmp .le 5, 3) := by decide +kernel
theorem dX6_cut_12 : decode cX6_cut 12 = .ok (.iconst (-1), 1) := by decide +kernel
theorem dX6_cut_13 : decode cX6_cut 13 = .ok (.ireturn, 1) := by decide +kernel
theorem dX6_cut_14 : decode cX6_cut 14 = .ok (.aload_n 0, 1) := by decide +kernel
theorem dX6_cut_15 : decode cX6_cut 15 = .ok (.getfield 15, 3) := by decide +kernel
theorem dX6_cut_18 : decode cX6_cut 18 = .ok (.istore_n 2, 1) := by decide +kernel
theorem dX6_cut_19 : decode cX6_cut 19 = .ok (.aload_n 0, 1) := by decide +kernel
theorem dX6_cut_20 : decode cX6_cut 20 = .ok (.iload_n 1, 1) := by decide +kernel
theorem dX6_cut_21 : decode cX6_cut 21 = .ok (.putfield 15, 3) := by decide +kernel
theorem dX6_cut_24 : decode cX6_cut 24 = .ok (.iload_n 2, 1) := by decide +kernel
theorem dX6_cut_25 : decode cX6_cut 25 = .ok (.ireturn, 1) := by decide +kernel
theorem dX6_byteAt_0 : decode cX6_byteAt 0 = .ok (.iload_n 1, 1) := by decide +kernel
theorem dX6_byteAt_1 : decode cX6_byteAt 1 = .ok (.ifCond .lt 20, 3) := by decide +kernel
theorem dX6_byteAt_4 : decode cX6_byteAt 4 = .ok (.iload_n 1, 1) := by decide +kernel
theorem dX6_byteAt_5 : decode cX6_byteAt 5 = .ok (.aload_n 0, 1) := by decide +kernel
theorem dX6_byteAt_6 : decode cX6_byteAt 6 = .ok (.getfield 15, 3) := by decide +kernel
theorem dX6_byteAt_9 : decode cX6_byteAt 9 = .ok (.if_icmp .ge 12, 3) := by decide +kernel
theorem dX6_byteAt_12 : decode cX6_byteAt 12 = .ok (.aload_n 0, 1) := by decide +kernel
theorem dX6_byteAt_13 : decode cX6_byteAt 13 = .ok (.getfield 11, 3) := by decide +kernel
theorem dX6_byteAt_16 : decode cX6_byteAt 16 = .ok (.iload_n 1, 1) := by decide +kernel
theorem dX6_byteAt_17 : decode cX6_byteAt 17 = .ok (.iaload, 1) := by decide +kernel
theorem dX6_byteAt_18 : decode cX6_byteAt 18 = .ok (.goto 4, 3) := by decide +kernel
theorem dX6_byteAt_21 : decode cX6_byteAt 21 = .ok (.iconst (-1), 1) := by decide +kernel
theorem dX6_byteAt_22 : decode cX6_byteAt 22 = .ok (.ireturn, 1) := by decide +kernel
theorem dX6_behindAll_0 : decode cX6_behindAll 0 = .ok (.iload_n 1, 1) := by decide +kernel
theorem dX6_behindAll_1 : decode cX6_behindAll 1 = .ok (.istore 4, 2) := by decide +kernel
theorem dX6_behindAll_3 : decode cX6_behindAll 3 = .ok (.iload 4, 2) := by decide +kernel
theorem dX6_behindAll_5 : decode cX6_behindAll 5 = .ok (.ifCond .lt 40, 3) := by decide +kernel
theorem dX6_behindAll_8 : decode cX6_behindAll 8 = .ok (.iload 4, 2) := by decide +kernel
theorem dX6_behindAll_10 : decode cX6_behindAll 10 = .ok (.aload_n 0, 1) := by decide +kernel
theorem dX6_behindAll_11 : decode cX6_behindAll 11 = .ok (.getfield 15, 3) := by decide +kernel
theorem dX6_behindAll_14 : decode cX6_behindAll 14 = .ok (.if_icmp .ge 31, 3) := by decide +kernel
theorem dX6_behindAll_17 : decode cX6_behindAll 17 = .ok (.aload_n 0, 1) := by decide +kernel
theorem dX6_behindAll_18 : decode cX6_behindAll 18 = .ok (.getfield 11, 3) := by decide +kernel
theorem dX6_behindAll_21 : decode cX6_behindAll 21 = .ok (.iload 4, 2) := by decide +kernel
theorem dX6_behindAll_23 : decode cX6_behindAll 23 = .ok (.iaload, 1) := by decide +kernel
theorem dX6_behindAll_24 : decode cX6_behindAll 24 = .ok (.iload_n 2, 1) := by decide +kernel
theorem dX6_behindAll_25 : decode cX6_behindAll 25 = .ok (.if_icmp .lt 20, 3) := by decide +kernel
theorem dX6_behindAll_28 : decode cX6_behindAll 28 = .ok (.aload_n 0, 1) := by decide +kernel
theorem dX6_behindAll_29 : decode cX6_behindAll 29 = .ok (.getfield 11, 3) := by decide +kernel
theorem dX6_behindAll_32 : decode cX6_behindAll 32 = .ok (.iload 4, 2) := by decide +kernel
theorem dX6_behindAll_34 : decode cX6_behindAll 34 = .ok (.iaload, 1) := by decide +kernel
theorem dX6_behindAll_35 : decode cX6_behindAll 35 = .ok (.iload_n 3, 1) := by decide +kernel
theorem dX6_behindAll_36 : decode cX6_behindAll 36 = .ok (.if_icmp .gt 9, 3) := by decide +kernel
theorem dX6_behindAll_39 : decode cX6_behindAll 39 = .ok (.iinc 4 1, 3) := by decide +kernel
theorem dX6_behindAll_42 : decode cX6_behindAll 42 = .ok (.goto (-39), 3) := by decide +kernel
theorem dX6_behindAll_45 : decode cX6_behindAll 45 = .ok (.iload 4, 2) := by decide +kernel
theorem dX6_behindAll_47 : decode cX6_behindAll 47 = .ok (.ireturn, 1) := by decide +kernel
theorem dX6_numberOf_0 : decode cX6_numberOf 0 = .ok (.iconst 0, 1) := by decide +kernel
theorem dX6_numberOf_1 : decode cX6_numberOf 1 = .ok (.istore_n 3, 1) := by decide +kernel
theorem dX6_numberOf_2 : decode cX6_numberOf 2 = .ok (.iload_n 1, 1) := by decide +kernel
theorem dX6_numberOf_3 : decode cX6_numberOf 3 = .ok (.istore 4, 2) := by decide +kernel
theorem dX6_numberOf_5 : decode cX6_numberOf 5 = .ok (.iload 4, 2) := by decide +kernel
theorem dX6_numberOf_7 : decode cX6_numberOf 7 = .ok (.ifCond .lt 48, 3) := by decide +kernel
theorem dX6_numberOf_10 : decode cX6_numberOf 10 = .ok (.iload 4, 2) := by decide +kernel
theorem dX6_numberOf_12 : decode cX6_numberOf 12 = .ok (.aload_n 0, 1) := by decide +kernel
theorem dX6_numberOf_13 : decode cX6_numberOf 13 = .ok (.getfield 15, 3) := by decide +kernel
theorem dX6_numberOf_16 : decode cX6_numberOf 16 = .ok (.if_icmp .ge 39, 3) := by decide +kernel
theorem dX6_numberOf_19 : decode cX6_numberOf 19 = .ok (.iload 4, 2) := by decide +kernel
theorem dX6_numberOf_21 : decode cX6_numberOf 21 = .ok (.iload_n 2, 1) := by decide +kernel
theorem dX6_numberOf_22 : decode cX6_numberOf 22 = .ok (.if_icmp .ge 33, 3) := by decide +kernel
theorem dX6_numberOf_25 : decode cX6_numberOf 25 = .ok (.iload 4, 2) := by decide +kernel
theorem dX6_numberOf_27 : decode cX6_numberOf 27 = .ok (.iload_n 1, 1) := by decide +kernel
theorem dX6_numberOf_28 : decode cX6_numberOf 28 = .ok (.iconst 2, 1) := by decide +kernel
theorem dX6_numberOf_29 : decode cX6_numberOf 29 = .ok (.iadd, 1) := by decide +kernel
theorem dX6_numberOf_30 : decode cX6_numberOf 30 = .ok (.if_icmp .ge 25, 3) := by decide +kernel
theorem dX6_numberOf_33 : decode cX6_numberOf 33 = .ok (.iload_n 3, 1) := by decide +kernel
theorem dX6_numberOf_34 : decode cX6_numberOf 34 = .ok (.bipush 10, 2) := by decide +kernel
theorem dX6_numberOf_36 : decode cX6_numberOf 36 = .ok (.imul, 1) := by decide +kernel
theorem dX6_numberOf_37 : decode cX6_numberOf 37 = .ok (.aload_n 0, 1) := by decide +kernel
theorem dX6_numberOf_38 : decode cX6_numberOf 38 = .ok (.getfield 11, 3) := by decide +kernel
theorem dX6_numberOf_41 : decode cX6_numberOf 41 = .ok (.iload 4, 2) := by decide +kernel
theorem dX6_numberOf_43 : decode cX6_numberOf 43 = .ok (.iaload, 1) := by decide +kernel
theorem dX6_numberOf_44 : decode cX6_numberOf 44 = .ok (.iadd, 1) := by decide +kernel
theorem dX6_numberOf_45 : decode cX6_numberOf 45 = .ok (.bipush 48, 2) := by decide +kernel
theorem dX6_numberOf_47 : decode cX6_numberOf 47 = .ok (.isub, 1) := by decide +kernel
theorem dX6_numberOf_48 : decode cX6_numberOf 48 = .ok (.istore_n 3, 1) := by decide +kernel
theorem dX6_numberOf_49 : decode cX6_numberOf 49 = .ok (.iinc 4 1, 3) := by decide +kernel
theorem dX6_numberOf_52 : decode cX6_numberOf 52 = .ok (.goto (-47), 3) := by decide +kernel
theorem dX6_numberOf_55 : decode cX6_numberOf 55 = .ok (.iload_n 3, 1) := by decide +kernel
theorem dX6_numberOf_56 : decode cX6_numberOf 56 = .ok (.ireturn, 1) := by decide +kernel
theorem dX7_run_0 : decode cX7_run 0 = .ok (.aload_n 0, 1) := by decide +kernel
theorem dX7_run_1 : decode cX7_run 1 = .ok (.getfield 15, 3) := by decide +kernel
theorem dX7_run_4 : decode cX7_run 4 = .ok (.invokevirtual 38, 3) := by decide +kernel
theorem dX7_run_7 : decode cX7_run 7 = .ok (.aload_n 0, 1) := by decide +kernel
theorem dX7_run_8 : decode cX7_run 8 = .ok (.getfield 9, 3) := by decide +kernel
theorem dX7_run_11 : decode cX7_run 11 = .ok (.getfield 43, 3) := by decide +kernel
theorem dX7_run_14 : decode cX7_run 14 = .ok (.iconst 0, 1) := by decide +kernel
theorem dX7_run_15 : decode cX7_run 15 = .ok (.aload_n 0, 1) := by decide +kernel
theorem dX7_run_16 : decode cX7_run 16 = .ok (.getfield 19, 3) := by decide +kernel
theorem dX7_run_19 : decode cX7_run 19 = .ok (.iconst 0, 1) := by decide +kernel
theorem dX7_run_20 : decode cX7_run 20 = .ok (.bipush 12, 2) := by decide +kernel
theorem dX7_run_22 : decode cX7_run 22 = .ok (.invokestatic 48, 3) := by decide +kernel
theorem dX7_run_25 : decode cX7_run 25 = .ok (.aload_n 0, 1) := by decide +kernel
theorem dX7_run_26 : decode cX7_run 26 = .ok (.getfield 9, 3) := by decide +kernel
theorem dX7_run_29 : decode cX7_run 29 = .ok (.getfield 54, 3) := by decide +kernel
theorem dX7_run_32 : decode cX7_run 32 = .ok (.iconst 0, 1) := by decide +kernel
theorem dX7_run_33 : decode cX7_run 33 = .ok (.aload_n 0, 1) := by decide +kernel
theorem dX7_run_34 : decode cX7_run 34 = .ok (.getfield 23, 3) := by decide +kernel
theorem dX7_run_37 : decode cX7_run 37 = .ok (.iconst 0, 1) := by decide +kernel
theorem dX7_run_38 : decode cX7_run 38 = .ok (.iconst 5, 1) := by decide +kernel
theorem dX7_run_39 : decode cX7_run 39 = .ok (.invokestatic 48, 3) := by decide +kernel
theorem dX7_run_42 : decode cX7_run 42 = .ok (.iconst 0, 1) := by decide +kernel
theorem dX7_run_43 : decode cX7_run 43 = .ok (.istore_n 3, 1) := by decide +kernel
theorem dX7_run_44 : decode cX7_run 44 = .ok (.iload_n 3, 1) := by decide +kernel
theorem dX7_run_45 : decode cX7_run 45 = .ok (.iconst 5, 1) := by decide +kernel
theorem dX7_run_46 : decode cX7_run 46 = .ok (.if_icmp .ge 30, 3) := by decide +kernel
theorem dX7_run_49 : decode cX7_run 49 = .ok (.aload_n 0, 1) := by decide +kernel
theorem dX7_run_50 : decode cX7_run 50 = .ok (.getfield 26, 3) := by decide +kernel
theorem dX7_run_53 : decode cX7_run 53 = .ok (.iload_n 3, 1) := by decide +kernel
theorem dX7_run_54 : decode cX7_run 54 = .ok (.iconst 0, 1) := by decide +kernel
theorem dX7_run_55 : decode cX7_run 55 = .ok (.iastore, 1) := by decide +kernel
theorem dX7_run_56 : decode cX7_run 56 = .ok (.aload_n 0, 1) := by decide +kernel
theorem dX7_run_57 : decode cX7_run 57 = .ok (.getfield 32, 3) := by decide +kernel
theorem dX7_run_60 : decode cX7_run 60 = .ok (.iload_n 3, 1) := by decide +kernel
theorem dX7_run_61 : decode cX7_run 61 = .ok (.iconst 0, 1) := by decide +kernel
theorem dX7_run_62 : decode cX7_run 62 = .ok (.iastore, 1) := by decide +kernel
theorem dX7_run_63 : decode cX7_run 63 = .ok (.aload_n 0, 1) := by decide +kernel
theorem dX7_run_64 : decode cX7_run 64 = .ok (.getfield 35, 3) := by decide +kernel
theorem dX7_run_67 : decode cX7_run 67 = .ok (.iload_n 3, 1) := by decide +kernel
theorem dX7_run_68 : decode cX7_run 68 = .ok (.iconst 0, 1) := by decide +kernel
theorem dX7_run_69 : decode cX7_run 69 = .ok (.iastore, 1) := by decide +kernel
theorem dX7_run_70 : decode cX7_run 70 = .ok (.iinc 3 1, 3) := by decide +kernel
theorem dX7_run_73 : decode cX7_run 73 = .ok (.goto (-29), 3) := by decide +kernel
theorem dX7_run_76 : decode cX7_run 76 = .ok (.iconst 1, 1) := by decide +kernel
theorem dX7_run_77 : decode cX7_run 77 = .ok (.istore_n 3, 1) := by decide +kernel
theorem dX7_run_78 : decode cX7_run 78 = .ok (.iload_n 3, 1) := by decide +kernel
theorem dX7_run_79 : decode cX7_run 79 = .ok (.iload_n 1, 1) := by decide +kernel
theorem dX7_run_80 : decode cX7_run 80 = .ok (.if_icmp .gt 57, 3) := by decide +kernel
theorem dX7_run_83 : decode cX7_run 83 = .ok (.aload_n 0, 1) := by decide +kernel
theorem dX7_run_84 : decode cX7_run 84 = .ok (.getfield 9, 3) := by decide +kernel
theorem dX7_run_87 : decode cX7_run 87 = .ok (.iload_n 3, 1) := by decide +kernel
theorem dX7_run_88 : decode cX7_run 88 = .ok (.invokevirtual 57, 3) := by decide +kernel
theorem dX7_run_91 : decode cX7_run 91 = .ok (.ifCond .ne 8, 3) := by decide +kernel
theorem dX7_run_94 : decode cX7_run 94 = .ok (.iload_n 3, 1) := by decide +kernel
theorem dX7_run_95 : decode cX7_run 95 = .ok (.iload_n 2, 1) := by decide +kernel
theorem dX7_run_96 : decode cX7_run 96 = .ok (.if_icmp .ne 7, 3) := by decide +kernel
theorem dX7_run_99 : decode cX7_run 99 = .ok (.aload_n 0, 1) := by decide +kernel
theorem dX7_run_100 : decode cX7_run 100 = .ok (.invokevirtual 61, 3) := by decide +kernel
theorem dX7_run_103 : decode cX7_run 103 = .ok (.iconst 0, 1) := by decide +kernel
theorem dX7_run_104 : decode cX7_run 104 = .ok (.istore 4, 2) := by decide +kernel
theorem dX7_run_106 : decode cX7_run 106 = .ok (.iload 4, 2) := by decide +kernel
theorem dX7_run_108 : decode cX7_run 108 = .ok (.aload_n 0, 1) := by decide +kernel
theorem dX7_run_109 : decode cX7_run 109 = .ok (.getfield 9, 3) := by decide +kernel
theorem dX7_run_112 : decode cX7_run 112 = .ok (.getfield 64, 3) := by decide +kernel
theorem dX7_run_115 : decode cX7_run 115 = .ok (.if_icmp .ge 16, 3) := by decide +kernel
theorem dX7_run_118 : decode cX7_run 118 = .ok (.aload_n 0, 1) := by decide +kernel
theorem dX7_run_119 : decode cX7_run 119 = .ok (.iload 4, 2) := by decide +kernel
theorem dX7_run_121 : decode cX7_run 121 = .ok (.iload_n 3, 1) := by decide +kernel
theorem dX7_run_122 : decode cX7_run 122 = .ok (.invokevirtual 68, 3) := by decide +kernel
theorem dX7_run_125 : decode cX7_run 125 = .ok (.iinc 4 1, 3) := by decide +kernel
theorem dX7_run_128 : decode cX7_run 128 = .ok (.goto (-22), 3) := by decide +kernel
theorem dX7_run_131 : decode cX7_run 131 = .ok (.iinc 3 1, 3) := by decide +kernel
theorem dX7_run_134 : decode cX7_run 134 = .ok (.goto (-56), 3) := by decide +kernel
theorem dX7_run_137 : decode cX7_run 137 = .ok (.return_, 1) := by decide +kernel
theorem dX7_fallOfRain_0 : decode cX7_fallOfRain 0 = .ok (.aload_n 0, 1) := by decide +kernel
theorem dX7_fallOfRain_1 : decode cX7_fallOfRain 1 = .ok (.getfield 9, 3) := by decide +kernel
theorem dX7_fallOfRain_4 : decode cX7_fallOfRain 4 = .ok (.aload_n 0, 1) := by decide +kernel
theorem dX7_fallOfRain_5 : decode cX7_fallOfRain 5 = .ok (.getfield 19, 3) := by decide +kernel
theorem dX7_fallOfRain_8 : decode cX7_fallOfRain 8 = .ok (.invokevirtual 72, 3) := by decide +kernel
theorem dX7_fallOfRain_11 : decode cX7_fallOfRain 11 = .ok (.iconst 0, 1) := by decide +kernel
theorem dX7_fallOfRain_12 : decode cX7_fallOfRain 12 = .ok (.istore_n 1, 1) := by decide +kernel
theorem dX7_fallOfRain_13 : decode cX7_fallOfRain 13 = .ok (.iload_n 1, 1) := by decide +kernel
theorem dX7_fallOfRain_14 : decode cX7_fallOfRain 14 = .ok (.aload_n 0, 1) := by decide +kernel
theorem dX7_fallOfRain_15 : decode cX7_fallOfRain 15 = .ok (.getfield 9, 3) := by decide +kernel
theorem dX7_fallOfRain_18 : decode cX7_fallOfRain 18 = .ok (.getfield 76, 3) := by decide +kernel
theorem dX7_fallOfRain_21 : decode cX7_fallOfRain 21 = .ok (.if_icmp .ge 14, 3) := by decide +kernel
theorem dX7_fallOfRain_24 : decode cX7_fallOfRain 24 = .ok (.aload_n 0, 1) := by decide +kernel
theorem dX7_fallOfRain_25 : decode cX7_fallOfRain 25 = .ok (.iload_n 1, 1) := by decide +kernel
theorem dX7_fallOfRain_26 : decode cX7_fallOfRain 26 = .ok (.invokevirtual 79, 3) := by decide +kernel
theorem dX7_fallOfRain_29 : decode cX7_fallOfRain 29 = .ok (.iinc 1 1, 3) := by decide +kernel
theorem dX7_fallOfRain_32 : decode cX7_fallOfRain 32 = .ok (.goto (-19), 3) := by decide +kernel
theorem dX7_fallOfRain_35 : decode cX7_fallOfRain 35 = .ok (.return_, 1) := by decide +kernel
theorem dX7_loseIfBroken_0 : decode cX7_loseIfBroken 0 = .ok (.aload_n 0, 1) := by decide +kernel
theorem dX7_loseIfBroken_1 : decode cX7_loseIfBroken 1 = .ok (.getfield 19, 3) := by decide +kernel
theorem dX7_loseIfBroken_4 : decode cX7_loseIfBroken 4 = .ok (.iload_n 1, 1) := by decide +kernel
theorem dX7_loseIfBroken_5 : decode cX7_loseIfBroken 5 = .ok (.iaload, 1) := by decide +kernel
theorem dX7_loseIfBroken_6 : decode cX7_loseIfBroken 6 = .ok (.ifCond .le 4, 3) := by decide +kernel
theorem dX7_loseIfBroken_9 : decode cX7_loseIfBroken 9 = .ok (.return_, 1) := by decide +kernel
theorem dX7_loseIfBroken_10 : decode cX7_loseIfBroken 10 = .ok (.iconst 0, 1) := by decide +kernel
theorem dX7_loseIfBroken_11 : decode cX7_loseIfBroken 11 = .ok (.istore_n 2, 1) := by decide +kernel
theorem dX7_loseIfBroken_12 : decode cX7_loseIfBroken 12 = .ok (.iload_n 2, 1) := by decide +kernel
theorem dX7_loseIfBroken_13 : decode cX7_loseIfBroken 13 = .ok (.aload_n 0, 1) := by decide +kernel
theorem dX7_loseIfBroken_14 : decode cX7_loseIfBroken 14 = .ok (.getfield 9, 3) := by decide +kernel
theorem dX7_loseIfBroken_17 : decode cX7_loseIfBroken 17 = .ok (.getfield 64, 3) := by decide +kernel
theorem dX7_loseIfBroken_20 : decode cX7_loseIfBroken 20 = .ok (.if_icmp .ge 30, 3) := by decide +kernel
theorem dX7_loseIfBroken_23 : decode cX7_loseIfBroken 23 = .ok (.aload_n 0, 1) := by decide +kernel
theorem dX7_loseIfBroken_24 : decode cX7_loseIfBroken 24 = .ok (.getfield 23, 3) := by decide +kernel
theorem dX7_loseIfBroken_27 : decode cX7_loseIfBroken 27 = .ok (.iload_n 2, 1) := by decide +kernel
theorem dX7_loseIfBroken_28 : decode cX7_loseIfBroken 28 = .ok (.iaload, 1) := by decide +kernel
theorem dX7_loseIfBroken_29 : decode cX7_loseIfBroken 29 = .ok (.bipush 100, 2) := by decide +kernel
theorem dX7_loseIfBroken_31 : decode cX7_loseIfBroken 31 = .ok (.iload_n 1, 1) := by decide +kernel
theorem dX7_loseIfBroken_32 : decode cX7_loseIfBroken 32 = .ok (.iadd, 1) := by decide +kernel
theorem dX7_loseIfBroken_33 : decode cX7_loseIfBroken 33 = .ok (.if_icmp .ne 11, 3) := by decide +kernel
theorem dX7_loseIfBroken_36 : decode cX7_loseIfBroken 36 = .ok (.aload_n 0, 1) := by decide +kernel
theorem dX7_loseIfBroken_37 : decode cX7_loseIfBroken 37 = .ok (.getfield 23, 3) := by decide +kernel
theorem dX7_loseIfBroken_40 : decode cX7_loseIfBroken 40 = .ok (.iload_n 2, 1) := by decide +kernel
theorem dX7_loseIfBroken_41 : decode cX7_loseIfBroken 41 = .ok (.bipush (-4), 2) := by decide +kernel
theorem dX7_loseIfBroken_43 : decode cX7_loseIfBroken 43 = .ok (.iastore, 1) := by decide +kernel
theorem dX7_loseIfBroken_44 : decode cX7_loseIfBroken 44 = .ok (.iinc 2 1, 3) := by decide +kernel
theorem dX7_loseIfBroken_47 : decode cX7_loseIfBroken 47 = .ok (.goto (-35), 3) := by decide +kernel
theorem dX7_loseIfBroken_50 : decode cX7_loseIfBroken 50 = .ok (.return_, 1) := by decide +kernel
theorem dX7_step_0 : decode cX7_step 0 = .ok (.aload_n 0, 1) := by decide +kernel
theorem dX7_step_1 : decode cX7_step 1 = .ok (.getfield 23, 3) := by decide +kernel
theorem dX7_step_4 : decode cX7_step 4 = .ok (.iload_n 1, 1) := by decide +kernel
theorem dX7_step_5 : decode cX7_step 5 = .ok (.iaload, 1) := by decide +kernel
theorem dX7_step_6 : decode cX7_step 6 = .ok (.istore_n 3, 1) := by decide +kernel
theorem dX7_step_7 : decode cX7_step 7 = .ok (.iload_n 3, 1) := by decide +kernel
theorem dX7_step_8 : decode cX7_step 8 = .ok (.bipush 100, 2) := by decide +kernel
theorem dX7_step_10 : decode cX7_step 10 = .ok (.if_icmp .lt 16, 3) := by decide +kernel
theorem dX7_step_13 : decode cX7_step 13 = .ok (.aload_n 0, 1) := by decide +kernel
theorem dX7_step_14 : decode cX7_step 14 = .ok (.iload_n 1, 1) := by decide +kernel
theorem dX7_step_15 : decode cX7_step 15 = .ok (.iload_n 3, 1) := by decide +kernel
theorem dX7_step_16 : decode cX7_step 16 = .ok (.bipush 100, 2) := by decide +kernel
theorem dX7_step_18 : decode cX7_step 18 = .ok (.isub, 1) := by decide +kernel
theorem dX7_step_19 : decode cX7_step 19 = .ok (.iload_n 2, 1) := by decide +kernel
theorem dX7_step_20 : decode cX7_step 20 = .ok (.invokevirtual 83, 3) := by decide +kernel
theorem dX7_step_23 : decode cX7_step 23 = .ok (.goto 39, 3) := by decide +kernel
theorem dX7_step_26 : decode cX7_step 26 = .ok (.iload_n 3, 1) := by decide +kernel
theorem dX7_step_27 : decode cX7_step 27 = .ok (.ifCond .lt 35, 3) := by decide +kernel
theorem dX7_step_30 : decode cX7_step 30 = .ok (.iload_n 3, 1) := by decide +kernel
theorem dX7_step_31 : decode cX7_step 31 = .ok (.aload_n 0, 1) := by decide +kernel
theorem dX7_step_32 : decode cX7_step 32 = .ok (.getfield 9, 3) := by decide +kernel
theorem dX7_step_35 : decode cX7_step 35 = .ok (.getfield 87, 3) := by decide +kernel
theorem dX7_step_38 : decode cX7_step 38 = .ok (.iload_n 1, 1) := by decide +kernel
theorem dX7_step_39 : decode cX7_step 39 = .ok (.iaload, 1) := by decide +kernel
theorem dX7_step_40 : decode cX7_step 40 = .ok (.if_icmp .eq 22, 3) := by decide +kernel
theorem dX7_step_43 : decode cX7_step 43 = .ok (.iload_n 2, 1) := by decide +kernel
theorem dX7_step_44 : decode cX7_step 44 = .ok (.aload_n 0, 1) := by decide +kernel
theorem dX7_step_45 : decode cX7_step 45 = .ok (.getfield 9, 3) := by decide +kernel
theorem dX7_step_48 : decode cX7_step 48 = .ok (.getfield 90, 3) := by decide +kernel
theorem dX7_step_51 : decode cX7_step 51 = .ok (.iload_n 1, 1) := by decide +kernel
theorem dX7_step_52 : decode cX7_step 52 = .ok (.iaload, 1) := by decide +kernel
theorem dX7_step_53 : decode cX7_step 53 = .ok (.if_icmp .le 9, 3) := by decide +kernel
theorem dX7_step_56 : decode cX7_step 56 = .ok (.aload_n 0, 1) := by decide +kernel
theorem dX7_step_57 : decode cX7_step 57 = .ok (.iload_n 1, 1) := by decide +kernel
theorem dX7_step_58 : decode cX7_step 58 = .ok (.iload_n 3, 1) := by decide +kernel
theorem dX7_step_59 : decode cX7_step 59 = .ok (.invokevirtual 93, 3) := by decide +kernel
theorem dX7_step_62 : decode cX7_step 62 = .ok (.return_, 1) := by decide +kernel
theorem dX7_goOn_0 : decode cX7_goOn 0 = .ok (.aload_n 0, 1) := by decide +kernel
theorem dX7_goOn_1 : decode cX7_goOn 1 = .ok (.getfield 26, 3) := by decide +kernel
theorem dX7_goOn_4 : decode cX7_goOn 4 = .ok (.iload_n 1, 1) := by decide +kernel
theorem dX7_goOn_5 : decode cX7_goOn 5 = .ok (.dup2, 1) := by decide +kernel
theorem dX7_goOn_6 : decode cX7_goOn 6 = .ok (.iaload, 1) := by decide +kernel
theorem dX7_goOn_7 : decode cX7_goOn 7 = .ok (.iconst 1, 1) := by decide +kernel
theorem dX7_goOn_8 : decode cX7_goOn 8 = .ok (.isub, 1) := by decide +kernel
theorem dX7_goOn_9 : decode cX7_goOn 9 = .ok (.iastore, 1) := by decide +kernel
theorem dX7_goOn_10 : decode cX7_goOn 10 = .ok (.aload_n 0, 1) := by decide +kernel
theorem dX7_goOn_11 : decode cX7_goOn 11 = .ok (.getfield 26, 3) := by decide +kernel
theorem dX7_goOn_14 : decode cX7_goOn 14 = .ok (.iload_n 1, 1) := by decide +kernel
theorem dX7_goOn_15 : decode cX7_goOn 15 = .ok (.iaload, 1) := by decide +kernel
theorem dX7_goOn_16 : decode cX7_goOn 16 = .ok (.ifCond .le 4, 3) := by decide +kernel
theorem dX7_goOn_19 : decode cX7_goOn 19 = .ok (.return_, 1) := by decide +kernel
theorem dX7_goOn_20 : decode cX7_goOn 20 = .ok (.aload_n 0, 1) := by decide +kernel
theorem dX7_goOn_21 : decode cX7_goOn 21 = .ok (.getfield 23, 3) := by decide +kernel
theorem dX7_goOn_24 : decode cX7_goOn 24 = .ok (.iload_n 1, 1) := by decide +kernel
theorem dX7_goOn_25 : decode cX7_goOn 25 = .ok (.aload_n 0, 1) := by decide +kernel
theorem dX7_goOn_26 : decode cX7_goOn 26 = .ok (.getfield 29, 3) := by decide +kernel
theorem dX7_goOn_29 : decode cX7_goOn 29 = .ok (.iload_n 1, 1) := by decide +kernel
theorem dX7_goOn_30 : decode cX7_goOn 30 = .ok (.iaload, 1) := by decide +kernel
theorem dX7_goOn_31 : decode cX7_goOn 31 = .ok (.iastore, 1) := by decide +kernel
theorem dX7_goOn_32 : decode cX7_goOn 32 = .ok (.aload_n 0, 1) := by decide +kernel
theorem dX7_goOn_33 : decode cX7_goOn 33 = .ok (.getfield 23, 3) := by decide +kernel
theorem dX7_goOn_36 : decode cX7_goOn 36 = .ok (.iload_n 1, 1) := by decide +kernel
theorem dX7_goOn_37 : decode cX7_goOn 37 = .ok (.iaload, 1) := by decide +kernel
theorem dX7_goOn_38 : decode cX7_goOn 38 = .ok (.aload_n 0, 1) := by decide +kernel
theorem dX7_goOn_39 : decode cX7_goOn 39 = .ok (.getfield 9, 3) := by decide +kernel
theorem dX7_goOn_42 : decode cX7_goOn 42 = .ok (.getfield 87, 3) := by decide +kernel
theorem dX7_goOn_45 : decode cX7_goOn 45 = .ok (.iload_n 1, 1) := by decide +kernel
theorem dX7_goOn_46 : decode cX7_goOn 46 = .ok (.iaload, 1) := by decide +kernel
theorem dX7_goOn_47 : decode cX7_goOn 47 = .ok (.if_icmp .ne 10, 3) := by decide +kernel
theorem dX7_goOn_50 : decode cX7_goOn 50 = .ok (.aload_n 0, 1) := by decide +kernel
theorem dX7_goOn_51 : decode cX7_goOn 51 = .ok (.getfield 35, 3) := by decide +kernel
theorem dX7_goOn_54 : decode cX7_goOn 54 = .ok (.iload_n 1, 1) := by decide +kernel
theorem dX7_goOn_55 : decode cX7_goOn 55 = .ok (.iload_n 3, 1) := by decide +kernel
theorem dX7_goOn_56 : decode cX7_goOn 56 = .ok (.iastore, 1) := by decide +kernel
theorem dX7_goOn_57 : decode cX7_goOn 57 = .ok (.aload_n 0, 1) := by decide +kernel
theorem dX7_goOn_58 : decode cX7_goOn 58 = .ok (.getfield 19, 3) := by decide +kernel
theorem dX7_goOn_61 : decode cX7_goOn 61 = .ok (.iload_n 2, 1) := by decide +kernel
theorem dX7_goOn_62 : decode cX7_goOn 62 = .ok (.iconst 0, 1) := by decide +kernel
theorem dX7_goOn_63 : decode cX7_goOn 63 = .ok (.aload_n 0, 1) := by decide +kernel
theorem dX7_goOn_64 : decode cX7_goOn 64 = .ok (.getfield 19, 3) := by decide +kernel
theorem dX7_goOn_67 : decode cX7_goOn 67 = .ok (.iload_n 2, 1) := by decide +kernel
theorem dX7_goOn_68 : decode cX7_goOn 68 = .ok (.iaload, 1) := by decide +kernel
theorem dX7_goOn_69 : decode cX7_goOn 69 = .ok (.iconst 1, 1) := by decide +kernel
theorem dX7_goOn_70 : decode cX7_goOn 70 = .ok (.isub, 1) := by decide +kernel
theorem dX7_goOn_71 : decode cX7_goOn 71 = .ok (.invokestatic 96, 3) := by decide +kernel
theorem dX7_goOn_74 : decode cX7_goOn 74 = .ok (.iastore, 1) := by decide +kernel
theorem dX7_goOn_75 : decode cX7_goOn 75 = .ok (.aload_n 0, 1) := by decide +kernel
theorem dX7_goOn_76 : decode cX7_goOn 76 = .ok (.iload_n 2, 1) := by decide +kernel
theorem dX7_goOn_77 : decode cX7_goOn 77 = .ok (.invokevirtual 79, 3) := by decide +kernel
theorem dX7_goOn_80 : decode cX7_goOn 80 = .ok (.return_, 1) := by decide +kernel
theorem dX7_setOut_0 : decode cX7_setOut 0 = .ok (.aload_n 0, 1) := by decide +kernel
theorem dX7_setOut_1 : decode cX7_setOut 1 = .ok (.getfield 15, 3) := by decide +kernel
theorem dX7_setOut_4 : decode cX7_setOut 4 = .ok (.iload_n 2, 1) := by decide +kernel
theorem dX7_setOut_5 : decode cX7_setOut 5 = .ok (.aload_n 0, 1) := by decide +kernel
theorem dX7_setOut_6 : decode cX7_setOut 6 = .ok (.getfield 9, 3) := by decide +kernel
theorem dX7_setOut_9 : decode cX7_setOut 9 = .ok (.getfield 87, 3) := by decide +kernel
theorem dX7_setOut_12 : decode cX7_setOut 12 = .ok (.iload_n 1, 1) := by decide +kernel
theorem dX7_setOut_13 : decode cX7_setOut 13 = .ok (.iaload, 1) := by decide +kernel
theorem dX7_setOut_14 : decode cX7_setOut 14 = .ok (.aload_n 0, 1) := by decide +kernel
theorem dX7_setOut_15 : decode cX7_setOut 15 = .ok (.getfield 9, 3) := by decide +kernel
theorem dX7_setOut_18 : decode cX7_setOut 18 = .ok (.aload_n 0, 1) := by decide +kernel
theorem dX7_setOut_19 : decode cX7_setOut 19 = .ok (.getfield 19, 3) := by decide +kernel
theorem dX7_setOut_22 : decode cX7_setOut 22 = .ok (.invokevirtual 102, 3) := by decide +kernel
theorem dX7_setOut_25 : decode cX7_setOut 25 = .ok (.invokevirtual 106, 3) := by decide +kernel
theorem dX7_setOut_28 : decode cX7_setOut 28 = .ok (.istore_n 3, 1) := by decide +kernel
theorem dX7_setOut_29 : decode cX7_setOut 29 = .ok (.iload_n 3, 1) := by decide +kernel
theorem dX7_setOut_30 : decode cX7_setOut 30 = .ok (.bipush (-4), 2) := by decide +kernel
theorem dX7_setOut_32 : decode cX7_setOut 32 = .ok (.if_icmp .ne 14, 3) := by decide +kernel
theorem dX7_setOut_35 : decode cX7_setOut 35 = .ok (.aload_n 0, 1) := by decide +kernel
theorem dX7_setOut_36 : decode cX7_setOut 36 = .ok (.getfield 32, 3) := by decide +kernel
theorem dX7_setOut_39 : decode cX7_setOut 39 = .ok (.iload_n 1, 1) := by decide +kernel
theorem dX7_setOut_40 : decode cX7_setOut 40 = .ok (.dup2, 1) := by decide +kernel
theorem dX7_setOut_41 : decode cX7_setOut 41 = .ok (.iaload, 1) := by decide +kernel
theorem dX7_setOut_42 : decode cX7_setOut 42 = .ok (.iconst 1, 1) := by decide +kernel
theorem dX7_setOut_43 : decode cX7_setOut 43 = .ok (.iadd, 1) := by decide +kernel
theorem dX7_setOut_44 : decode cX7_setOut 44 = .ok (.iastore, 1) := by decide +kernel
theorem dX7_setOut_45 : decode cX7_setOut 45 = .ok (.return_, 1) := by decide +kernel
theorem dX7_setOut_46 : decode cX7_setOut 46 = .ok (.aload_n 0, 1) := by decide +kernel
theorem dX7_setOut_47 : decode cX7_setOut 47 = .ok (.getfield 23, 3) := by decide +kernel
theorem dX7_setOut_50 : decode cX7_setOut 50 = .ok (.iload_n 1, 1) := by decide +kernel
theorem dX7_setOut_51 : decode cX7_setOut 51 = .ok (.bipush 100, 2) := by decide +kernel
theorem dX7_setOut_53 : decode cX7_setOut 53 = .ok (.iload_n 3, 1) := by decide +kernel
theorem dX7_setOut_54 : decode cX7_setOut 54 = .ok (.iadd, 1) := by decide +kernel
theorem dX7_setOut_55 : decode cX7_setOut 55 = .ok (.iastore, 1) := by decide +kernel
theorem dX7_setOut_56 : decode cX7_setOut 56 = .ok (.aload_n 0, 1) := by decide +kernel
theorem dX7_setOut_57 : decode cX7_setOut 57 = .ok (.getfield 26, 3) := by decide +kernel
theorem dX7_setOut_60 : decode cX7_setOut 60 = .ok (.iload_n 1, 1) := by decide +kernel
theorem dX7_setOut_61 : decode cX7_setOut 61 = .ok (.aload_n 0, 1) := by decide +kernel
theorem dX7_setOut_62 : decode cX7_setOut 62 = .ok (.getfield 9, 3) := by decide +kernel
theorem dX7_setOut_65 : decode cX7_setOut 65 = .ok (.getfield 110, 3) := by decide +kernel
theorem dX7_setOut_68 : decode cX7_setOut 68 = .ok (.iload_n 3, 1) := by decide +kernel
theorem dX7_setOut_69 : decode cX7_setOut 69 = .ok (.iaload, 1) := by decide +kernel
theorem dX7_setOut_70 : decode cX7_setOut 70 = .ok (.iastore, 1) := by decide +kernel
theorem dX7_setOut_71 : decode cX7_setOut 71 = .ok (.aload_n 0, 1) := by decide +kernel
theorem dX7_setOut_72 : decode cX7_setOut 72 = .ok (.getfield 29, 3) := by decide +kernel
theorem dX7_setOut_75 : decode cX7_setOut 75 = .ok (.iload_n 1, 1) := by decide +kernel
theorem dX7_setOut_76 : decode cX7_setOut 76 = .ok (.aload_n 0, 1) := by decide +kernel
theorem dX7_setOut_77 : decode cX7_setOut 77 = .ok (.getfield 9, 3) := by decide +kernel
theorem dX7_setOut_80 : decode cX7_setOut 80 = .ok (.iload_n 3, 1) := by decide +kernel
theorem dX7_setOut_81 : decode cX7_setOut 81 = .ok (.iload_n 2, 1) := by decide +kernel
theorem dX7_setOut_82 : decode cX7_setOut 82 = .ok (.invokevirtual 113, 3) := by decide +kernel
theorem dX7_setOut_85 : decode cX7_setOut 85 = .ok (.iastore, 1) := by decide +kernel
theorem dX7_setOut_86 : decode cX7_setOut 86 = .ok (.return_, 1) := by decide +kernel
theorem dX7_whoIsLost_0 : decode cX7_whoIsLost 0 = .ok (.iconst 0, 1) := by decide +kernel
theorem dX7_whoIsLost_1 : decode cX7_whoIsLost 1 = .ok (.istore_n 1, 1) := by decide +kernel
theorem dX7_whoIsLost_2 : decode cX7_whoIsLost 2 = .ok (.iconst 0, 1) := by decide +kernel
theorem dX7_whoIsLost_3 : decode cX7_whoIsLost 3 = .ok (.istore_n 2, 1) := by decide +kernel
theorem dX7_whoIsLost_4 : decode cX7_whoIsLost 4 = .ok (.iload_n 2, 1) := by decide +kernel
theorem dX7_whoIsLost_5 : decode cX7_whoIsLost 5 = .ok (.aload_n 0, 1) := by decide +kernel
theorem dX7_whoIsLost_6 : decode cX7_whoIsLost 6 = .ok (.getfield 9, 3) := by decide +kernel
theorem dX7_whoIsLost_9 : decode cX7_whoIsLost 9 = .ok (.getfield 64, 3) := by decide +kernel
theorem dX7_whoIsLost_12 : decode cX7_whoIsLost 12 = .ok (.if_icmp .ge 26, 3) := by decide +kernel
theorem dX7_whoIsLost_15 : decode cX7_whoIsLost 15 = .ok (.aload_n 0, 1) := by decide +kernel
theorem dX7_whoIsLost_16 : decode cX7_whoIsLost 16 = .ok (.getfield 23, 3) := by decide +kernel
theorem dX7_whoIsLost_19 : decode cX7_whoIsLost 19 = .ok (.iload_n 2, 1) := by decide +kernel
theorem dX7_whoIsLost_20 : decode cX7_whoIsLost 20 = .ok (.iaload, 1) := by decide +kernel
theorem dX7_whoIsLost_21 : decode cX7_whoIsLost 21 = .ok (.bipush (-4), 2) := by decide +kernel
theorem dX7_whoIsLost_23 : decode cX7_whoIsLost 23 = .ok (.if_icmp .ne 9, 3) := by decide +kernel
theorem dX7_whoIsLost_26 : decode cX7_whoIsLost 26 = .ok (.iload_n 1, 1) := by decide +kernel
theorem dX7_whoIsLost_27 : decode cX7_whoIsLost 27 = .ok (.iconst 1, 1) := by decide +kernel
theorem dX7_whoIsLost_28 : decode cX7_whoIsLost 28 = .ok (.iload_n 2, 1) := by decide +kernel
theorem dX7_whoIsLost_29 : decode cX7_whoIsLost 29 = .ok (.ishl, 1) := by decide +kernel
theorem dX7_whoIsLost_30 : decode cX7_whoIsLost 30 = .ok (.ior, 1) := by decide +kernel
theorem dX7_whoIsLost_31 : decode cX7_whoIsLost 31 = .ok (.istore_n 1, 1) := by decide +kernel
theorem dX7_whoIsLost_32 : decode cX7_whoIsLost 32 = .ok (.iinc 2 1, 3) := by decide +kernel
theorem dX7_whoIsLost_35 : decode cX7_whoIsLost 35 = .ok (.goto (-31), 3) := by decide +kernel
theorem dX7_whoIsLost_38 : decode cX7_whoIsLost 38 = .ok (.iload_n 1, 1) := by decide +kernel
theorem dX7_whoIsLost_39 : decode cX7_whoIsLost 39 = .ok (.ireturn, 1) := by decide +kernel
theorem dX7_whoIsInTheOpen_0 : decode cX7_whoIsInTheOpen 0 = .ok (.iconst 0, 1) := by decide +kernel
theorem dX7_whoIsInTheOpen_1 : decode cX7_whoIsInTheOpen 1 = .ok (.istore_n 1, 1) := by decide +kernel
theorem dX7_whoIsInTheOpen_2 : decode cX7_whoIsInTheOpen 2 = .ok (.iconst 0, 1) := by decide +kernel
theorem dX7_whoIsInTheOpen_3 : decode cX7_whoIsInTheOpen 3 = .ok (.istore_n 2, 1) := by decide +kernel
theorem dX7_whoIsInTheOpen_4 : decode cX7_whoIsInTheOpen 4 = .ok (.iload_n 2, 1) := by decide +kernel
theorem dX7_whoIsInTheOpen_5 : decode cX7_whoIsInTheOpen 5 = .ok (.aload_n 0, 1) := by decide +kernel
theorem dX7_whoIsInTheOpen_6 : decode cX7_whoIsInTheOpen 6 = .ok (.getfield 9, 3) := by decide +kernel
theorem dX7_whoIsInTheOpen_9 : decode cX7_whoIsInTheOpen 9 = .ok (.getfield 64, 3) := by decide +kernel
theorem dX7_whoIsInTheOpen_12 : decode cX7_whoIsInTheOpen 12 = .ok (.if_icmp .ge 45, 3) := by decide +kernel
theorem dX7_whoIsInTheOpen_15 : decode cX7_whoIsInTheOpen 15 = .ok (.aload_n 0, 1) := by decide +kernel
theorem dX7_whoIsInTheOpen_16 : decode cX7_whoIsInTheOpen 16 = .ok (.getfield 23, 3) := by decide +kernel
theorem dX7_whoIsInTheOpen_19 : decode cX7_whoIsInTheOpen 19 = .ok (.iload_n 2, 1) := by decide +kernel
theorem dX7_whoIsInTheOpen_20 : decode cX7_whoIsInTheOpen 20 = .ok (.iaload, 1) := by decide +kernel
theorem dX7_whoIsInTheOpen_21 : decode cX7_whoIsInTheOpen 21 = .ok (.bipush 100, 2) := by decide +kernel
theorem dX7_whoIsInTheOpen_23 : decode cX7_whoIsInTheOpen 23 = .ok (.if_icmp .lt 28, 3) := by decide +kernel
theorem dX7_whoIsInTheOpen_26 : decode cX7_whoIsInTheOpen 26 = .ok (.aload_n 0, 1) := by decide +kernel
theorem dX7_whoIsInTheOpen_27 : decode cX7_whoIsInTheOpen 27 = .ok (.getfield 9, 3) := by decide +kernel
theorem dX7_whoIsInTheOpen_30 : decode cX7_whoIsInTheOpen 30 = .ok (.aload_n 0, 1) := by decide +kernel
theorem dX7_whoIsInTheOpen_31 : decode cX7_whoIsInTheOpen 31 = .ok (.getfield 23, 3) := by decide +kernel
theorem dX7_whoIsInTheOpen_34 : decode cX7_whoIsInTheOpen 34 = .ok (.iload_n 2, 1) := by decide +kernel
theorem dX7_whoIsInTheOpen_35 : decode cX7_whoIsInTheOpen 35 = .ok (.iaload, 1) := by decide +kernel
theorem dX7_whoIsInTheOpen_36 : decode cX7_whoIsInTheOpen 36 = .ok (.bipush 100, 2) := by decide +kernel
theorem dX7_whoIsInTheOpen_38 : decode cX7_whoIsInTheOpen 38 = .ok (.isub, 1) := by decide +kernel
theorem dX7_whoIsInTheOpen_39 : decode cX7_whoIsInTheOpen 39 = .ok (.invokevirtual 116, 3) := by decide +kernel
theorem dX7_whoIsInTheOpen_42 : decode cX7_whoIsInTheOpen 42 = .ok (.ifCond .ne 9, 3) := by decide +kernel
theorem dX7_whoIsInTheOpen_45 : decode cX7_whoIsInTheOpen 45 = .ok (.iload_n 1, 1) := by decide +kernel
theorem dX7_whoIsInTheOpen_46 : decode cX7_whoIsInTheOpen 46 = .ok (.iconst 1, 1) := by decide +kernel
theorem dX7_whoIsInTheOpen_47 : decode cX7_whoIsInTheOpen 47 = .ok (.iload_n 2, 1) := by decide +kernel
theorem dX7_whoIsInTheOpen_48 : decode cX7_whoIsInTheOpen 48 = .ok (.ishl, 1) := by decide +kernel
theorem dX7_whoIsInTheOpen_49 : decode cX7_whoIsInTheOpen 49 = .ok (.ior, 1) := by decide +kernel
theorem dX7_whoIsInTheOpen_50 : decode cX7_whoIsInTheOpen 50 = .ok (.istore_n 1, 1) := by decide +kernel
theorem dX7_whoIsInTheOpen_51 : decode cX7_whoIsInTheOpen 51 = .ok (.iinc 2 1, 3) := by decide +kernel
theorem dX7_whoIsInTheOpen_54 : decode cX7_whoIsInTheOpen 54 = .ok (.goto (-50), 3) := by decide +kernel
theorem dX7_whoIsInTheOpen_57 : decode cX7_whoIsInTheOpen 57 = .ok (.iload_n 1, 1) := by decide +kernel
theorem dX7_whoIsInTheOpen_58 : decode cX7_whoIsInTheOpen 58 = .ok (.ireturn, 1) := by decide +kernel
theorem dX8_beginAnew_0 : decode cX8_beginAnew 0 = .ok (.iconst 0, 1) := by decide +kernel
theorem dX8_beginAnew_1 : decode cX8_beginAnew 1 = .ok (.istore_n 1, 1) := by decide +kernel
theorem dX8_beginAnew_2 : decode cX8_beginAnew 2 = .ok (.iload_n 1, 1) := by decide +kernel
theorem dX8_beginAnew_3 : decode cX8_beginAnew 3 = .ok (.bipush 9, 2) := by decide +kernel
theorem dX8_beginAnew_5 : decode cX8_beginAnew 5 = .ok (.if_icmp .ge 16, 3) := by decide +kernel
theorem dX8_beginAnew_8 : decode cX8_beginAnew 8 = .ok (.aload_n 0, 1) := by decide +kernel
theorem dX8_beginAnew_9 : decode cX8_beginAnew 9 = .ok (.getfield 19, 3) := by decide +kernel
theorem dX8_beginAnew_12 : decode cX8_beginAnew 12 = .ok (.iload_n 1, 1) := by decide +kernel
theorem dX8_beginAnew_13 : decode cX8_beginAnew 13 = .ok (.iconst (-1), 1) := by decide +kernel
theorem dX8_beginAnew_14 : decode cX8_beginAnew 14 = .ok (.iastore, 1) := by decide +kernel
theorem dX8_beginAnew_15 : decode cX8_beginAnew 15 = .ok (.iinc 1 1, 3) := by decide +kernel
theorem dX8_beginAnew_18 : decode cX8_beginAnew 18 = .ok (.goto (-16), 3) := by decide +kernel
theorem dX8_beginAnew_21 : decode cX8_beginAnew 21 = .ok (.return_, 1) := by decide +kernel
theorem dX8_yardsOfWay_0 : decode cX8_yardsOfWay 0 = .ok (.aload_n 0, 1) := by decide +kernel
theorem dX8_yardsOfWay_1 : decode cX8_yardsOfWay 1 = .ok (.iload_n 2, 1) := by decide +kernel
theorem dX8_yardsOfWay_2 : decode cX8_yardsOfWay 2 = .ok (.iload_n 3, 1) := by decide +kernel
theorem dX8_yardsOfWay_3 : decode cX8_yardsOfWay 3 = .ok (.invokevirtual 22, 3) := by decide +kernel
theorem dX8_yardsOfWay_6 : decode cX8_yardsOfWay 6 = .ok (.aload_n 0, 1) := by decide +kernel
theorem dX8_yardsOfWay_7 : decode cX8_yardsOfWay 7 = .ok (.getfield 15, 3) := by decide +kernel
theorem dX8_yardsOfWay_10 : decode cX8_yardsOfWay 10 = .ok (.iload_n 2, 1) := by decide +kernel
theorem dX8_yardsOfWay_11 : decode cX8_yardsOfWay 11 = .ok (.bipush 9, 2) := by decide +kernel
theorem dX8_yardsOfWay_13 : decode cX8_yardsOfWay 13 = .ok (.imul, 1) := by decide +kernel
theorem dX8_yardsOfWay_14 : decode cX8_yardsOfWay 14 = .ok (.iload_n 1, 1) := by decide +kernel
theorem dX8_yardsOfWay_15 : decode cX8_yardsOfWay 15 = .ok (.iadd, 1) := by decide +kernel
theorem dX8_yardsOfWay_16 : decode cX8_yardsOfWay 16 = .ok (.iaload, 1) := by decide +kernel
theorem dX8_yardsOfWay_17 : decode cX8_yardsOfWay 17 = .ok (.istore 4, 2) := by decide +kernel
theorem dX8_yardsOfWay_19 : decode cX8_yardsOfWay 19 = .ok (.iload 4, 2) := by decide +kernel
theorem dX8_yardsOfWay_21 : decode cX8_yardsOfWay 21 = .ok (.ldc 26, 2) := by decide +kernel
theorem dX8_yardsOfWay_23 : decode cX8_yardsOfWay 23 = .ok (.if_icmp .lt 8, 3) := by decide +kernel
theorem dX8_yardsOfWay_26 : decode cX8_yardsOfWay 26 = .ok (.bipush (-4), 2) := by decide +kernel
theorem dX8_yardsOfWay_28 : decode cX8_yardsOfWay 28 = .ok (.goto 8, 3) := by decide +kernel
theorem dX8_yardsOfWay_31 : decode cX8_yardsOfWay 31 = .ok (.iload 4, 2) := by decide +kernel
theorem dX8_yardsOfWay_33 : decode cX8_yardsOfWay 33 = .ok (.bipush 16, 2) := by decide +kernel
theorem dX8_yardsOfWay_35 : decode cX8_yardsOfWay 35 = .ok (.idiv, 1) := by decide +kernel
theorem dX8_yardsOfWay_36 : decode cX8_yardsOfWay 36 = .ok (.ireturn, 1) := by decide +kernel
theorem dX8_linesOfWay_0 : decode cX8_linesOfWay 0 = .ok (.aload_n 0, 1) := by decide +kernel
theorem dX8_linesOfWay_1 : decode cX8_linesOfWay 1 = .ok (.iload_n 2, 1) := by decide +kernel
theorem dX8_linesOfWay_2 : decode cX8_linesOfWay 2 = .ok (.iload_n 3, 1) := by decide +kernel
theorem dX8_linesOfWay_3 : decode cX8_linesOfWay 3 = .ok (.invokevirtual 22, 3) := by decide +kernel
theorem dX8_linesOfWay_6 : decode cX8_linesOfWay 6 = .ok (.aload_n 0, 1) := by decide +kernel
theorem dX8_linesOfWay_7 : decode cX8_linesOfWay 7 = .ok (.getfield 15, 3) := by decide +kernel
theorem dX8_linesOfWay_10 : decode cX8_linesOfWay 10 = .ok (.iload_n 2, 1) := by decide +kernel
theorem dX8_linesOfWay_11 : decode cX8_linesOfWay 11 = .ok (.bipush 9, 2) := by decide +kernel
theorem dX8_linesOfWay_13 : decode cX8_linesOfWay 13 = .ok (.imul, 1) := by decide +kernel
theorem dX8_linesOfWay_14 : decode cX8_linesOfWay 14 = .ok (.iload_n 1, 1) := by decide +kernel
theorem dX8_linesOfWay_15 : decode cX8_linesOfWay 15 = .ok (.iadd, 1) := by decide +kernel
theorem dX8_linesOfWay_16 : decode cX8_linesOfWay 16 = .ok (.iaload, 1) := by decide +kernel
theorem dX8_linesOfWay_17 : decode cX8_linesOfWay 17 = .ok (.istore 4, 2) := by decide +kernel
theorem dX8_linesOfWay_19 : decode cX8_linesOfWay 19 = .ok (.iload 4, 2) := by decide +kernel
theorem dX8_linesOfWay_21 : decode cX8_linesOfWay 21 = .ok (.ldc 26, 2) := by decide +kernel
theorem dX8_linesOfWay_23 : decode cX8_linesOfWay 23 = .ok (.if_icmp .lt 8, 3) := by decide +kernel
theorem dX8_linesOfWay_26 : decode cX8_linesOfWay 26 = .ok (.bipush (-4), 2) := by decide +kernel
theorem dX8_linesOfWay_28 : decode cX8_linesOfWay 28 = .ok (.goto 8, 3) := by decide +kernel
theorem dX8_linesOfWay_31 : decode cX8_linesOfWay 31 = .ok (.iload 4, 2) := by decide +kernel
theorem dX8_linesOfWay_33 : decode cX8_linesOfWay 33 = .ok (.bipush 16, 2) := by decide +kernel
theorem dX8_linesOfWay_35 : decode cX8_linesOfWay 35 = .ok (.irem, 1) := by decide +kernel
theorem dX8_linesOfWay_36 : decode cX8_linesOfWay 36 = .ok (.ireturn, 1) := by decide +kernel
theorem dX8_lineOfWay_0 : decode cX8_lineOfWay 0 = .ok (.iload_n 1, 1) := by decide +kernel
theorem dX8_lineOfWay_1 : decode cX8_lineOfWay 1 = .ok (.istore 5, 2) := by decide +kernel
theorem dX8_lineOfWay_3 : decode cX8_lineOfWay 3 = .ok (.iconst 0, 1) := by decide +kernel
theorem dX8_lineOfWay_4 : decode cX8_lineOfWay 4 = .ok (.istore 6, 2) := by decide +kernel
theorem dX8_lineOfWay_6 : decode cX8_lineOfWay 6 = .ok (.iload 6, 2) := by decide +kernel
theorem dX8_lineOfWay_8 : decode cX8_lineOfWay 8 = .ok (.iload_n 3, 1) := by decide +kernel
theorem dX8_lineOfWay_9 : decode cX8_lineOfWay 9 = .ok (.if_icmp .ge 43, 3) := by decide +kernel
theorem dX8_lineOfWay_12 : decode cX8_lineOfWay 12 = .ok (.aload_n 0, 1) := by decide +kernel
theorem dX8_lineOfWay_13 : decode cX8_lineOfWay 13 = .ok (.iload 5, 2) := by decide +kernel
theorem dX8_lineOfWay_15 : decode cX8_lineOfWay 15 = .ok (.iload_n 2, 1) := by decide +kernel
theorem dX8_lineOfWay_16 : decode cX8_lineOfWay 16 = .ok (.iload 4, 2) := by decide +kernel
theorem dX8_lineOfWay_18 : decode cX8_lineOfWay 18 = .ok (.invokevirtual 27, 3) := by decide +kernel
theorem dX8_lineOfWay_21 : decode cX8_lineOfWay 21 = .ok (.istore 7, 2) := by decide +kernel
theorem dX8_lineOfWay_23 : decode cX8_lineOfWay 23 = .ok (.iload 7, 2) := by decide +kernel
theorem dX8_lineOfWay_25 : decode cX8_lineOfWay 25 = .ok (.bipush (-4), 2) := by decide +kernel
theorem dX8_lineOfWay_27 : decode cX8_lineOfWay 27 = .ok (.if_icmp .ne 6, 3) := by decide +kernel
theorem dX8_lineOfWay_30 : decode cX8_lineOfWay 30 = .ok (.bipush (-4), 2) := by decide +kernel
theorem dX8_lineOfWay_32 : decode cX8_lineOfWay 32 = .ok (.ireturn, 1) := by decide +kernel
theorem dX8_lineOfWay_33 : decode cX8_lineOfWay 33 = .ok (.aload_n 0, 1) := by decide +kernel
theorem dX8_lineOfWay_34 : decode cX8_lineOfWay 34 = .ok (.getfield 9, 3) := by decide +kernel
theorem dX8_lineOfWay_37 : decode cX8_lineOfWay 37 = .ok (.iload 7, 2) := by decide +kernel
theorem dX8_lineOfWay_39 : decode cX8_lineOfWay 39 = .ok (.iload 5, 2) := by decide +kernel
theorem dX8_lineOfWay_41 : decode cX8_lineOfWay 41 = .ok (.invokevirtual 31, 3) := by decide +kernel
theorem dX8_lineOfWay_44 : decode cX8_lineOfWay 44 = .ok (.istore 5, 2) := by decide +kernel
theorem dX8_lineOfWay_46 : decode cX8_lineOfWay 46 = .ok (.iinc 6 1, 3) := by decide +kernel
theorem dX8_lineOfWay_49 : decode cX8_lineOfWay 49 = .ok (.goto (-43), 3) := by decide +kernel
theorem dX8_lineOfWay_52 : decode cX8_lineOfWay 52 = .ok (.aload_n 0, 1) := by decide +kernel
theorem dX8_lineOfWay_53 : decode cX8_lineOfWay 53 = .ok (.iload 5, 2) := by decide +kernel
theorem dX8_lineOfWay_55 : decode cX8_lineOfWay 55 = .ok (.iload_n 2, 1) := by decide +kernel
theorem dX8_lineOfWay_56 : decode cX8_lineOfWay 56 = .ok (.iload 4, 2) := by decide +kernel
theorem dX8_lineOfWay_58 : decode cX8_lineOfWay 58 = .ok (.invokevirtual 27, 3) := by decide +kernel
theorem dX8_lineOfWay_61 : decode cX8_lineOfWay 61 = .ok (.ireturn, 1) := by decide +kernel
theorem dX8_firstLine_0 : decode cX8_firstLine 0 = .ok (.aload_n 0, 1) := by decide +kernel
theorem dX8_firstLine_1 : decode cX8_firstLine 1 = .ok (.iload_n 2, 1) := by decide +kernel
theorem dX8_firstLine_2 : decode cX8_firstLine 2 = .ok (.iload_n 3, 1) := by decide +kernel
theorem dX8_firstLine_3 : decode cX8_firstLine 3 = .ok (.invokevirtual 22, 3) := by decide +kernel
theorem dX8_firstLine_6 : decode cX8_firstLine 6 = .ok (.aload_n 0, 1) := by decide +kernel
theorem dX8_firstLine_7 : decode cX8_firstLine 7 = .ok (.getfield 15, 3) := by decide +kernel
theorem dX8_firstLine_10 : decode cX8_firstLine 10 = .ok (.iload_n 2, 1) := by decide +kernel
theorem dX8_firstLine_11 : decode cX8_firstLine 11 = .ok (.bipush 9, 2) := by decide +kernel
theorem dX8_firstLine_13 : decode cX8_firstLine 13 = .ok (.imul, 1) := by decide +kernel
theorem dX8_firstLine_14 : decode cX8_firstLine 14 = .ok (.iload_n 1, 1) := by decide +kernel
theorem dX8_firstLine_15 : decode cX8_firstLine 15 = .ok (.iadd, 1) := by decide +kernel
theorem dX8_firstLine_16 : decode cX8_firstLine 16 = .ok (.iaload, 1) := by decide +kernel
theorem dX8_firstLine_17 : decode cX8_firstLine 17 = .ok (.istore 4, 2) := by decide +kernel
theorem dX8_firstLine_19 : decode cX8_firstLine 19 = .ok (.iload 4, 2) := by decide +kernel
theorem dX8_firstLine_21 : decode cX8_firstLine 21 = .ok (.ldc 26, 2) := by decide +kernel
theorem dX8_firstLine_23 : decode cX8_firstLine 23 = .ok (.if_icmp .lt 6, 3) := by decide +kernel
theorem dX8_firstLine_26 : decode cX8_firstLine 26 = .ok (.bipush (-4), 2) := by decide +kernel
theorem dX8_firstLine_28 : decode cX8_firstLine 28 = .ok (.ireturn, 1) := by decide +kernel
theorem dX8_firstLine_29 : decode cX8_firstLine 29 = .ok (.iconst 0, 1) := by decide +kernel
theorem dX8_firstLine_30 : decode cX8_firstLine 30 = .ok (.istore 5, 2) := by decide +kernel
theorem dX8_firstLine_32 : decode cX8_firstLine 32 = .ok (.iload 5, 2) := by decide +kernel
theorem dX8_firstLine_34 : decode cX8_firstLine 34 = .ok (.aload_n 0, 1) := by decide +kernel
theorem dX8_firstLine_35 : decode cX8_firstLine 35 = .ok (.getfield 9, 3) := by decide +kernel
theorem dX8_firstLine_38 : decode cX8_firstLine 38 = .ok (.getfield 37, 3) := by decide +kernel
theorem dX8_firstLine_41 : decode cX8_firstLine 41 = .ok (.if_icmp .ge 85, 3) := by decide +kernel
theorem dX8_firstLine_44 : decode cX8_firstLine 44 = .ok (.iload_n 3, 1) := by decide +kernel
theorem dX8_firstLine_45 : decode cX8_firstLine 45 = .ok (.iload 5, 2) := by decide +kernel
theorem dX8_firstLine_47 : decode cX8_firstLine 47 = .ok (.invokestatic 41, 3) := by decide +kernel
theorem dX8_firstLine_50 : decode cX8_firstLine 50 = .ok (.ifCond .eq 70, 3) := by decide +kernel
theorem dX8_firstLine_53 : decode cX8_firstLine 53 = .ok (.aload_n 0, 1) := by decide +kernel
theorem dX8_firstLine_54 : decode cX8_firstLine 54 = .ok (.getfield 9, 3) := by decide +kernel
theorem dX8_firstLine_57 : decode cX8_firstLine 57 = .ok (.getfield 45, 3) := by decide +kernel
theorem dX8_firstLine_60 : decode cX8_firstLine 60 = .ok (.iload 5, 2) := by decide +kernel
theorem dX8_firstLine_62 : decode cX8_firstLine 62 = .ok (.iaload, 1) := by decide +kernel
theorem dX8_firstLine_63 : decode cX8_firstLine 63 = .ok (.iload_n 1, 1) := by decide +kernel
theorem dX8_firstLine_64 : decode cX8_firstLine 64 = .ok (.if_icmp .eq 17, 3) := by decide +kernel
theorem dX8_firstLine_67 : decode cX8_firstLine 67 = .ok (.aload_n 0, 1) := by decide +kernel
theorem dX8_firstLine_68 : decode cX8_firstLine 68 = .ok (.getfield 9, 3) := by decide +kernel
theorem dX8_firstLine_71 : decode cX8_firstLine 71 = .ok (.getfield 48, 3) := by decide +kernel
theorem dX8_firstLine_74 : decode cX8_firstLine 74 = .ok (.iload 5, 2) := by decide +kernel
theorem dX8_firstLine_76 : decode cX8_firstLine 76 = .ok (.iaload, 1) := by decide +kernel
theorem dX8_firstLine_77 : decode cX8_firstLine 77 = .ok (.iload_n 1, 1) := by decide +kernel
theorem dX8_firstLine_78 : decode cX8_firstLine 78 = .ok (.if_icmp .ne 42, 3) := by decide +kernel
theorem dX8_firstLine_81 : decode cX8_firstLine 81 = .ok (.iload_n 2, 1) := by decide +kernel
theorem dX8_firstLine_82 : decode cX8_firstLine 82 = .ok (.bipush 9, 2) := by decide +kernel
theorem dX8_firstLine_84 : decode cX8_firstLine 84 = .ok (.imul, 1) := by decide +kernel
theorem dX8_firstLine_85 : decode cX8_firstLine 85 = .ok (.aload_n 0, 1) := by decide +kernel
theorem dX8_firstLine_86 : decode cX8_firstLine 86 = .ok (.getfield 9, 3) := by decide +kernel
theorem dX8_firstLine_89 : decode cX8_firstLine 89 = .ok (.iload 5, 2) := by decide +kernel
theorem dX8_firstLine_91 : decode cX8_firstLine 91 = .ok (.iload_n 1, 1) := by decide +kernel
theorem dX8_firstLine_92 : decode cX8_firstLine 92 = .ok (.invokevirtual 31, 3) := by decide +kernel
theorem dX8_firstLine_95 : decode cX8_firstLine 95 = .ok (.iadd, 1) := by decide +kernel
theorem dX8_firstLine_96 : decode cX8_firstLine 96 = .ok (.istore 6, 2) := by decide +kernel
theorem dX8_firstLine_98 : decode cX8_firstLine 98 = .ok (.aload_n 0, 1) := by decide +kernel
theorem dX8_firstLine_99 : decode cX8_firstLine 99 = .ok (.getfield 15, 3) := by decide +kernel
theorem dX8_firstLine_102 : decode cX8_firstLine 102 = .ok (.iload 6, 2) := by decide +kernel
theorem dX8_firstLine_104 : decode cX8_firstLine 104 = .ok (.iaload, 1) := by decide +kernel
theorem dX8_firstLine_105 : decode cX8_firstLine 105 = .ok (.aload_n 0, 1) := by decide +kernel
theorem dX8_firstLine_106 : decode cX8_firstLine 106 = .ok (.iload 5, 2) := by decide +kernel
theorem dX8_firstLine_108 : decode cX8_firstLine 108 = .ok (.invokevirtual 51, 3) := by decide +kernel
theorem dX8_firstLine_111 : decode cX8_firstLine 111 = .ok (.iadd, 1) := by decide +kernel
theorem dX8_firstLine_112 : decode cX8_firstLine 112 = .ok (.iload 4, 2) := by decide +kernel
theorem dX8_firstLine_114 : decode cX8_firstLine 114 = .ok (.if_icmp .ne 6, 3) := by decide +kernel
theorem dX8_firstLine_117 : decode cX8_firstLine 117 = .ok (.iload 5, 2) := by decide +kernel
theorem dX8_firstLine_119 : decode cX8_firstLine 119 = .ok (.ireturn, 1) := by decide +kernel
theorem dX8_firstLine_120 : decode cX8_firstLine 120 = .ok (.iinc 5 1, 3) := by decide +kernel
theorem dX8_firstLine_123 : decode cX8_firstLine 123 = .ok (.goto (-91), 3) := by decide +kernel
theorem dX8_firstLine_126 : decode cX8_firstLine 126 = .ok (.bipush (-4), 2) := by decide +kernel
theorem dX8_firstLine_128 : decode cX8_firstLine 128 = .ok (.ireturn, 1) := by decide +kernel
theorem dX8_costOver_0 : decode cX8_costOver 0 = .ok (.aload_n 0, 1) := by decide +kernel
theorem dX8_costOver_1 : decode cX8_costOver 1 = .ok (.getfield 9, 3) := by decide +kernel
theorem dX8_costOver_4 : decode cX8_costOver 4 = .ok (.getfield 55, 3) := by decide +kernel
theorem dX8_costOver_7 : decode cX8_costOver 7 = .ok (.iload_n 1, 1) := by decide +kernel
theorem dX8_costOver_8 : decode cX8_costOver 8 = .ok (.iaload, 1) := by decide +kernel
theorem dX8_costOver_9 : decode cX8_costOver 9 = .ok (.bipush 16, 2) := by decide +kernel
theorem dX8_costOver_11 : decode cX8_costOver 11 = .ok (.imul, 1) := by decide +kernel
theorem dX8_costOver_12 : decode cX8_costOver 12 = .ok (.iconst 1, 1) := by decide +kernel
theorem dX8_costOver_13 : decode cX8_costOver 13 = .ok (.iadd, 1) := by decide +kernel
theorem dX8_costOver_14 : decode cX8_costOver 14 = .ok (.ireturn, 1) := by decide +kernel
theorem dX8_reckonTo_0 : decode cX8_reckonTo 0 = .ok (.aload_n 0, 1) := by decide +kernel
theorem dX8_reckonTo_1 : decode cX8_reckonTo 1 = .ok (.getfield 19, 3) := by decide +kernel
theorem dX8_reckonTo_4 : decode cX8_reckonTo 4 = .ok (.iload_n 1, 1) := by decide +kernel
theorem dX8_reckonTo_5 : decode cX8_reckonTo 5 = .ok (.iaload, 1) := by decide +kernel
theorem dX8_reckonTo_6 : decode cX8_reckonTo 6 = .ok (.iload_n 2, 1) := by decide +kernel
theorem dX8_reckonTo_7 : decode cX8_reckonTo 7 = .ok (.if_icmp .ne 4, 3) := by decide +kernel
theorem dX8_reckonTo_10 : decode cX8_reckonTo 10 = .ok (.return_, 1) := by decide +kernel
theorem dX8_reckonTo_11 : decode cX8_reckonTo 11 = .ok (.aload_n 0, 1) := by decide +kernel
theorem dX8_reckonTo_12 : decode cX8_reckonTo 12 = .ok (.getfield 19, 3) := by decide +kernel
theorem dX8_reckonTo_15 : decode cX8_reckonTo 15 = .ok (.iload_n 1, 1) := by decide +kernel
theorem dX8_reckonTo_16 : decode cX8_reckonTo 16 = .ok (.iload_n 2, 1) := by decide +kernel
theorem dX8_reckonTo_17 : decode cX8_reckonTo 17 = .ok (.iastore, 1) := by decide +kernel
theorem dX8_reckonTo_18 : decode cX8_reckonTo 18 = .ok (.iload_n 1, 1) := by decide +kernel
theorem dX8_reckonTo_19 : decode cX8_reckonTo 19 = .ok (.bipush 9, 2) := by decide +kernel
theorem dX8_reckonTo_21 : decode cX8_reckonTo 21 = .ok (.imul, 1) := by decide +kernel
theorem dX8_reckonTo_22 : decode cX8_reckonTo 22 = .ok (.istore_n 3, 1) := by decide +kernel
theorem dX8_reckonTo_23 : decode cX8_reckonTo 23 = .ok (.iconst 0, 1) := by decide +kernel
theorem dX8_reckonTo_24 : decode cX8_reckonTo 24 = .ok (.istore 4, 2) := by decide +kernel
theorem dX8_reckonTo_26 : decode cX8_reckonTo 26 = .ok (.iload 4, 2) := by decide +kernel
theorem dX8_reckonTo_28 : decode cX8_reckonTo 28 = .ok (.bipush 9, 2) := by decide +kernel
theorem dX8_reckonTo_30 : decode cX8_reckonTo 30 = .ok (.if_icmp .ge 30, 3) := by decide +kernel
theorem dX8_reckonTo_33 : decode cX8_reckonTo 33 = .ok (.aload_n 0, 1) := by decide +kernel
theorem dX8_reckonTo_34 : decode cX8_reckonTo 34 = .ok (.getfield 15, 3) := by decide +kernel
theorem dX8_reckonTo_37 : decode cX8_reckonTo 37 = .ok (.iload_n 3, 1) := by decide +kernel
theorem dX8_reckonTo_38 : decode cX8_reckonTo 38 = .ok (.iload 4, 2) := by decide +kernel
theorem dX8_reckonTo_40 : decode cX8_reckonTo 40 = .ok (.iadd, 1) := by decide +kernel
theorem dX8_reckonTo_41 : decode cX8_reckonTo 41 = .ok (.iload 4, 2) := by decide +kernel
theorem dX8_reckonTo_43 : decode cX8_reckonTo 43 = .ok (.iload_n 1, 1) := by decide +kernel
theorem dX8_reckonTo_44 : decode cX8_reckonTo 44 = .ok (.if_icmp .ne 7, 3) := by decide +kernel
theorem dX8_reckonTo_47 : decode cX8_reckonTo 47 = .ok (.iconst 0, 1) := by decide +kernel
theorem dX8_reckonTo_48 : decode cX8_reckonTo 48 = .ok (.goto 5, 3) := by decide +kernel
theorem dX8_reckonTo_51 : decode cX8_reckonTo 51 = .ok (.ldc 26, 2) := by decide +kernel
theorem dX8_reckonTo_53 : decode cX8_reckonTo 53 = .ok (.iastore, 1) := by decide +kernel
theorem dX8_reckonTo_54 : decode cX8_reckonTo 54 = .ok (.iinc 4 1, 3) := by decide +kernel
theorem dX8_reckonTo_57 : decode cX8_reckonTo 57 = .ok (.goto (-31), 3) := by decide +kernel
theorem dX8_reckonTo_60 : decode cX8_reckonTo 60 = .ok (.iconst 1, 1) := by decide +kernel
theorem dX8_reckonTo_61 : decode cX8_reckonTo 61 = .ok (.istore 4, 2) := by decide +kernel
theorem dX8_reckonTo_63 : decode cX8_reckonTo 63 = .ok (.iconst 0, 1) := by decide +kernel
theorem dX8_reckonTo_64 : decode cX8_reckonTo 64 = .ok (.istore 5, 2) := by decide +kernel
theorem dX8_reckonTo_66 : decode cX8_reckonTo 66 = .ok (.iload 5, 2) := by decide +kernel
theorem dX8_reckonTo_68 : decode cX8_reckonTo 68 = .ok (.bipush 9, 2) := by decide +kernel
theorem dX8_reckonTo_70 : decode cX8_reckonTo 70 = .ok (.if_icmp .ge 169, 3) := by decide +kernel
theorem dX8_reckonTo_73 : decode cX8_reckonTo 73 = .ok (.iload 4, 2) := by decide +kernel
theorem dX8_reckonTo_75 : decode cX8_reckonTo 75 = .ok (.ifCond .eq 164, 3) := by decide +kernel
theorem dX8_reckonTo_78 : decode cX8_reckonTo 78 = .ok (.iconst 0, 1) := by decide +kernel
theorem dX8_reckonTo_79 : decode cX8_reckonTo 79 = .ok (.istore 4, 2) := by decide +kernel
theorem dX8_reckonTo_81 : decode cX8_reckonTo 81 = .ok (.iconst 0, 1) := by decide +kernel
theorem dX8_reckonTo_82 : decode cX8_reckonTo 82 = .ok (.istore 6, 2) := by decide +kernel
theorem dX8_reckonTo_84 : decode cX8_reckonTo 84 = .ok (.iload 6, 2) := by decide +kernel
theorem dX8_reckonTo_86 : decode cX8_reckonTo 86 = .ok (.aload_n 0, 1) := by decide +kernel
theorem dX8_reckonTo_87 : decode cX8_reckonTo 87 = .ok (.getfield 9, 3) := by decide +kernel
theorem dX8_reckonTo_90 : decode cX8_reckonTo 90 = .ok (.getfield 37, 3) := by decide +kernel
theorem dX8_reckonTo_93 : decode cX8_reckonTo 93 = .ok (.if_icmp .ge 140, 3) := by decide +kernel
theorem dX8_reckonTo_96 : decode cX8_reckonTo 96 = .ok (.iload_n 3, 1) := by decide +kernel
theorem dX8_reckonTo_97 : decode cX8_reckonTo 97 = .ok (.aload_n 0, 1) := by decide +kernel
theorem dX8_reckonTo_98 : decode cX8_reckonTo 98 = .ok (.getfield 9, 3) := by decide +kernel
theorem dX8_reckonTo_101 : decode cX8_reckonTo 101 = .ok (.getfield 45, 3) := by decide +kernel
theorem dX8_reckonTo_104 : decode cX8_reckonTo 104 = .ok (.iload 6, 2) := by decide +kernel
theorem dX8_reckonTo_106 : decode cX8_reckonTo 106 = .ok (.iaload, 1) := by decide +kernel
theorem dX8_reckonTo_107 : decode cX8_reckonTo 107 = .ok (.iadd, 1) := by decide +kernel
theorem dX8_reckonTo_108 : decode cX8_reckonTo 108 = .ok (.istore 7, 2) := by decide +kernel
theorem dX8_reckonTo_110 : decode cX8_reckonTo 110 = .ok (.iload_n 3, 1) := by decide +kernel
theorem dX8_reckonTo_111 : decode cX8_reckonTo 111 = .ok (.aload_n 0, 1) := by decide +kernel
theorem dX8_reckonTo_112 : decode cX8_reckonTo 112 = .ok (.getfield 9, 3) := by decide +kernel
theorem dX8_reckonTo_115 : decode cX8_reckonTo 115 = .ok (.getfield 48, 3) := by decide +kernel
theorem dX8_reckonTo_118 : decode cX8_reckonTo 118 = .ok (.iload 6, 2) := by decide +kernel
theorem dX8_reckonTo_120 : decode cX8_reckonTo 120 = .ok (.iaload, 1) := by decide +kernel
theorem dX8_reckonTo_121 : decode cX8_reckonTo 121 = .ok (.iadd, 1) := by decide +kernel
theorem dX8_reckonTo_122 : decode cX8_reckonTo 122 = .ok (.istore 8, 2) := by decide +kernel
theorem dX8_reckonTo_124 : decode cX8_reckonTo 124 = .ok (.iload_n 2, 1) := by decide +kernel
theorem dX8_reckonTo_125 : decode cX8_reckonTo 125 = .ok (.iload 6, 2) := by decide +kernel
theorem dX8_reckonTo_127 : decode cX8_reckonTo 127 = .ok (.invokestatic 41, 3) := by decide +kernel
theorem dX8_reckonTo_130 : decode cX8_reckonTo 130 = .ok (.ifCond .eq 97, 3) := by decide +kernel
theorem dX8_reckonTo_133 : decode cX8_reckonTo 133 = .ok (.aload_n 0, 1) := by decide +kernel
theorem dX8_reckonTo_134 : decode cX8_reckonTo 134 = .ok (.getfield 15, 3) := by decide +kernel
theorem dX8_reckonTo_137 : decode cX8_reckonTo 137 = .ok (.iload 7, 2) := by decide +kernel
theorem dX8_reckonTo_139 : decode cX8_reckonTo 139 = .ok (.iaload, 1) := by decide +kernel
theorem dX8_reckonTo_140 : decode cX8_reckonTo 140 = .ok (.aload_n 0, 1) := by decide +kernel
theorem dX8_reckonTo_141 : decode cX8_reckonTo 141 = .ok (.getfield 15, 3) := by decide +kernel
theorem dX8_reckonTo_144 : decode cX8_reckonTo 144 = .ok (.iload 8, 2) := by decide +kernel
theorem dX8_reckonTo_146 : decode cX8_reckonTo 146 = .ok (.iaload, 1) := by decide +kernel
theorem dX8_reckonTo_147 : decode cX8_reckonTo 147 = .ok (.isub, 1) := by decide +kernel
theorem dX8_reckonTo_148 : decode cX8_reckonTo 148 = .ok (.invokestatic 58, 3) := by decide +kernel
theorem dX8_reckonTo_151 : decode cX8_reckonTo 151 = .ok (.aload_n 0, 1) := by decide +kernel
theorem dX8_reckonTo_152 : decode cX8_reckonTo 152 = .ok (.iload 6, 2) := by decide +kernel
theorem dX8_reckonTo_154 : decode cX8_reckonTo 154 = .ok (.invokevirtual 51, 3) := by decide +kernel
theorem dX8_reckonTo_157 : decode cX8_reckonTo 157 = .ok (.if_icmp .le 70, 3) := by decide +kernel
theorem dX8_reckonTo_160 : decode cX8_reckonTo 160 = .ok (.aload_n 0, 1) := by decide +kernel
theorem dX8_reckonTo_161 : decode cX8_reckonTo 161 = .ok (.getfield 15, 3) := by decide +kernel
theorem dX8_reckonTo_164 : decode cX8_reckonTo 164 = .ok (.iload 7, 2) := by decide +kernel
theorem dX8_reckonTo_166 : decode cX8_reckonTo 166 = .ok (.iaload, 1) := by decide +kernel
theorem dX8_reckonTo_167 : decode cX8_reckonTo 167 = .ok (.aload_n 0, 1) := by decide +kernel
theorem dX8_reckonTo_168 : decode cX8_reckonTo 168 = .ok (.getfield 15, 3) := by decide +kernel
theorem dX8_reckonTo_171 : decode cX8_reckonTo 171 = .ok (.iload 8, 2) := by decide +kernel
theorem dX8_reckonTo_173 : decode cX8_reckonTo 173 = .ok (.iaload, 1) := by decide +kernel
theorem dX8_reckonTo_174 : decode cX8_reckonTo 174 = .ok (.invokestatic 63, 3) := by decide +kernel
theorem dX8_reckonTo_177 : decode cX8_reckonTo 177 = .ok (.aload_n 0, 1) := by decide +kernel
theorem dX8_reckonTo_178 : decode cX8_reckonTo 178 = .ok (.iload 6, 2) := by decide +kernel
theorem dX8_reckonTo_180 : decode cX8_reckonTo 180 = .ok (.invokevirtual 51, 3) := by decide +kernel
theorem dX8_reckonTo_183 : decode cX8_reckonTo 183 = .ok (.iadd, 1) := by decide +kernel
theorem dX8_reckonTo_184 : decode cX8_reckonTo 184 = .ok (.istore 9, 2) := by decide +kernel
theorem dX8_reckonTo_186 : decode cX8_reckonTo 186 = .ok (.aload_n 0, 1) := by decide +kernel
theorem dX8_reckonTo_187 : decode cX8_reckonTo 187 = .ok (.getfield 15, 3) := by decide +kernel
theorem dX8_reckonTo_190 : decode cX8_reckonTo 190 = .ok (.iload 7, 2) := by decide +kernel
theorem dX8_reckonTo_192 : decode cX8_reckonTo 192 = .ok (.aload_n 0, 1) := by decide +kernel
theorem dX8_reckonTo_193 : decode cX8_reckonTo 193 = .ok (.getfield 15, 3) := by decide +kernel
theorem dX8_reckonTo_196 : decode cX8_reckonTo 196 = .ok (.iload 7, 2) := by decide +kernel
theorem dX8_reckonTo_198 : decode cX8_reckonTo 198 = .ok (.iaload, 1) := by decide +kernel
theorem dX8_reckonTo_199 : decode cX8_reckonTo 199 = .ok (.iload 9, 2) := by decide +kernel
theorem dX8_reckonTo_201 : decode cX8_reckonTo 201 = .ok (.invokestatic 63, 3) := by decide +kernel
theorem dX8_reckonTo_204 : decode cX8_reckonTo 204 = .ok (.iastore, 1) := by decide +kernel
theorem dX8_reckonTo_205 : decode cX8_reckonTo 205 = .ok (.aload_n 0, 1) := by decide +kernel
theorem dX8_reckonTo_206 : decode cX8_reckonTo 206 = .ok (.getfield 15, 3) := by decide +kernel
theorem dX8_reckonTo_209 : decode cX8_reckonTo 209 = .ok (.iload 8, 2) := by decide +kernel
theorem dX8_reckonTo_211 : decode cX8_reckonTo 211 = .ok (.aload_n 0, 1) := by decide +kernel
theorem dX8_reckonTo_212 : decode cX8_reckonTo 212 = .ok (.getfield 15, 3) := by decide +kernel
theorem dX8_reckonTo_215 : decode cX8_reckonTo 215 = .ok (.iload 8, 2) := by decide +kernel
theorem dX8_reckonTo_217 : decode cX8_reckonTo 217 = .ok (.iaload, 1) := by decide +kernel
theorem dX8_reckonTo_218 : decode cX8_reckonTo 218 = .ok (.iload 9, 2) := by decide +kernel
theorem dX8_reckonTo_220 : decode cX8_reckonTo 220 = .ok (.invokestatic 63, 3) := by decide +kernel
theorem dX8_reckonTo_223 : decode cX8_reckonTo 223 = .ok (.iastore, 1) := by decide +kernel
theorem dX8_reckonTo_224 : decode cX8_reckonTo 224 = .ok (.iconst 1, 1) := by decide +kernel
theorem dX8_reckonTo_225 : decode cX8_reckonTo 225 = .ok (.istore 4, 2) := by decide +kernel
theorem dX8_reckonTo_227 : decode cX8_reckonTo 227 = .ok (.iinc 6 1, 3) := by decide +kernel
theorem dX8_reckonTo_230 : decode cX8_reckonTo 230 = .ok (.goto (-146), 3) := by decide +kernel
theorem dX8_reckonTo_233 : decode cX8_reckonTo 233 = .ok (.iinc 5 1, 3) := by decide +kernel
theorem dX8_reckonTo_236 : decode cX8_reckonTo 236 = .ok (.goto (-170), 3) := by decide +kernel
theorem dX8_reckonTo_239 : decode cX8_reckonTo 239 = .ok (.return_, 1) := by decide +kernel
theorem dX8_reached_0 : decode cX8_reached 0 = .ok (.iconst 1, 1) := by decide +kernel
theorem dX8_reached_1 : decode cX8_reached 1 = .ok (.iload_n 1, 1) := by decide +kernel
theorem dX8_reached_2 : decode cX8_reached 2 = .ok (.ishl, 1) := by decide +kernel
theorem dX8_reached_3 : decode cX8_reached 3 = .ok (.istore_n 3, 1) := by decide +kernel
theorem dX8_reached_4 : decode cX8_reached 4 = .ok (.iconst 0, 1) := by decide +kernel
theorem dX8_reached_5 : decode cX8_reached 5 = .ok (.istore 4, 2) := by decide +kernel
theorem dX8_reached_7 : decode cX8_reached 7 = .ok (.iconst 0, 1) := by decide +kernel
theorem dX8_reached_8 : decode cX8_reached 8 = .ok (.istore 5, 2) := by decide +kernel
theorem dX8_reached_10 : decode cX8_reached 10 = .ok (.iload 5, 2) := by decide +kernel
theorem dX8_reached_12 : decode cX8_reached 12 = .ok (.bipush 9, 2) := by decide +kernel
theorem dX8_reached_14 : decode cX8_reached 14 = .ok (.if_icmp .ge 87, 3) := by decide +kernel
theorem dX8_reached_17 : decode cX8_reached 17 = .ok (.iload_n 3, 1) := by decide +kernel
theorem dX8_reached_18 : decode cX8_reached 18 = .ok (.iload 4, 2) := by decide +kernel
theorem dX8_reached_20 : decode cX8_reached 20 = .ok (.if_icmp .eq 81, 3) := by decide +kernel
theorem dX8_reached_23 : decode cX8_reached 23 = .ok (.iload_n 3, 1) := by decide +kernel
theorem dX8_reached_24 : decode cX8_reached 24 = .ok (.istore 4, 2) := by decide +kernel
theorem dX8_reached_26 : decode cX8_reached 26 = .ok (.iconst 0, 1) := by decide +kernel
theorem dX8_reached_27 : decode cX8_reached 27 = .ok (.istore 6, 2) := by decide +kernel
theorem dX8_reached_29 : decode cX8_reached 29 = .ok (.iload 6, 2) := by decide +kernel
theorem dX8_reached_31 : decode cX8_reached 31 = .ok (.aload_n 0, 1) := by decide +kernel
theorem dX8_reached_32 : decode cX8_reached 32 = .ok (.getfield 9, 3) := by decide +kernel
theorem dX8_reached_35 : decode cX8_reached 35 = .ok (.getfield 37, 3) := by decide +kernel
theorem dX8_reached_38 : decode cX8_reached 38 = .ok (.if_icmp .ge 57, 3) := by decide +kernel
theorem dX8_reached_41 : decode cX8_reached 41 = .ok (.iconst 1, 1) := by decide +kernel
theorem dX8_reached_42 : decode cX8_reached 42 = .ok (.aload_n 0, 1) := by decide +kernel
theorem dX8_reached_43 : decode cX8_reached 43 = .ok (.getfield 9, 3) := by decide +kernel
theorem dX8_reached_46 : decode cX8_reached 46 = .ok (.getfield 45, 3) := by decide +kernel
theorem dX8_reached_49 : decode cX8_reached 49 = .ok (.iload 6, 2) := by decide +kernel
theorem dX8_reached_51 : decode cX8_reached 51 = .ok (.iaload, 1) := by decide +kernel
theorem dX8_reached_52 : decode cX8_reached 52 = .ok (.ishl, 1) := by decide +kernel
theorem dX8_reached_53 : decode cX8_reached 53 = .ok (.iconst 1, 1) := by decide +kernel
theorem dX8_reached_54 : decode cX8_reached 54 = .ok (.aload_n 0, 1) := by decide +kernel
theorem dX8_reached_55 : decode cX8_reached 55 = .ok (.getfield 9, 3) := by decide +kernel
theorem dX8_reached_58 : decode cX8_reached 58 = .ok (.getfield 48, 3) := by decide +kernel
theorem dX8_reached_61 : decode cX8_reached 61 = .ok (.iload 6, 2) := by decide +kernel
theorem dX8_reached_63 : decode cX8_reached 63 = .ok (.iaload, 1) := by decide +kernel
theorem dX8_reached_64 : decode cX8_reached 64 = .ok (.ishl, 1) := by decide +kernel
theorem dX8_reached_65 : decode cX8_reached 65 = .ok (.ior, 1) := by decide +kernel
theorem dX8_reached_66 : decode cX8_reached 66 = .ok (.istore 7, 2) := by decide +kernel
theorem dX8_reached_68 : decode cX8_reached 68 = .ok (.iload_n 2, 1) := by decide +kernel
theorem dX8_reached_69 : decode cX8_reached 69 = .ok (.iload 6, 2) := by decide +kernel
theorem dX8_reached_71 : decode cX8_reached 71 = .ok (.invokestatic 41, 3) := by decide +kernel
theorem dX8_reached_74 : decode cX8_reached 74 = .ok (.ifCond .eq 15, 3) := by decide +kernel
theorem dX8_reached_77 : decode cX8_reached 77 = .ok (.iload_n 3, 1) := by decide +kernel
theorem dX8_reached_78 : decode cX8_reached 78 = .ok (.iload 7, 2) := by decide +kernel
theorem dX8_reached_80 : decode cX8_reached 80 = .ok (.iand, 1) := by decide +kernel
theorem dX8_reached_81 : decode cX8_reached 81 = .ok (.ifCond .eq 8, 3) := by decide +kernel
theorem dX8_reached_84 : decode cX8_reached 84 = .ok (.iload_n 3, 1) := by decide +kernel
theorem dX8_reached_85 : decode cX8_reached 85 = .ok (.iload 7, 2) := by decide +kernel
theorem dX8_reached_87 : decode cX8_reached 87 = .ok (.ior, 1) := by decide +kernel
theorem dX8_reached_88 : decode cX8_reached 88 = .ok (.istore_n 3, 1) := by decide +kernel
theorem dX8_reached_89 : decode cX8_reached 89 = .ok (.iinc 6 1, 3) := by decide +kernel
theorem dX8_reached_92 : decode cX8_reached 92 = .ok (.goto (-63), 3) := by decide +kernel
theorem dX8_reached_95 : decode cX8_reached 95 = .ok (.iinc 5 1, 3) := by decide +kernel
theorem dX8_reached_98 : decode cX8_reached 98 = .ok (.goto (-88), 3) := by decide +kernel
theorem dX8_reached_101 : decode cX8_reached 101 = .ok (.iload_n 3, 1) := by decide +kernel
theorem dX8_reached_102 : decode cX8_reached 102 = .ok (.ireturn, 1) := by decide +kernel
theorem dX8_housesMeet_0 : decode cX8_housesMeet 0 = .ok (.aload_n 0, 1) := by decide +kernel
theorem dX8_housesMeet_1 : decode cX8_housesMeet 1 = .ok (.getfield 9, 3) := by decide +kernel
theorem dX8_housesMeet_4 : decode cX8_housesMeet 4 = .ok (.getfield 66, 3) := by decide +kernel
theorem dX8_housesMeet_7 : decode cX8_housesMeet 7 = .ok (.istore_n 2, 1) := by decide +kernel
theorem dX8_housesMeet_8 : decode cX8_housesMeet 8 = .ok (.iload_n 2, 1) := by decide +kernel
theorem dX8_housesMeet_9 : decode cX8_housesMeet 9 = .ok (.ifCond .ne 5, 3) := by decide +kernel
theorem dX8_housesMeet_12 : decode cX8_housesMeet 12 = .ok (.iconst 1, 1) := by decide +kernel
theorem dX8_housesMeet_13 : decode cX8_housesMeet 13 = .ok (.ireturn, 1) := by decide +kernel
theorem dX8_housesMeet_14 : decode cX8_housesMeet 14 = .ok (.iload_n 2, 1) := by decide +kernel
theorem dX8_housesMeet_15 : decode cX8_housesMeet 15 = .ok (.invokestatic 69, 3) := by decide +kernel
theorem dX8_housesMeet_18 : decode cX8_housesMeet 18 = .ok (.istore_n 3, 1) := by decide +kernel
theorem dX8_housesMeet_19 : decode cX8_housesMeet 19 = .ok (.iload_n 2, 1) := by decide +kernel
theorem dX8_housesMeet_20 : decode cX8_housesMeet 20 = .ok (.aload_n 0, 1) := by decide +kernel
theorem dX8_housesMeet_21 : decode cX8_housesMeet 21 = .ok (.iload_n 3, 1) := by decide +kernel
theorem dX8_housesMeet_22 : decode cX8_housesMeet 22 = .ok (.iload_n 1, 1) := by decide +kernel
theorem dX8_housesMeet_23 : decode cX8_housesMeet 23 = .ok (.invokevirtual 74, 3) := by decide +kernel
theorem dX8_housesMeet_26 : decode cX8_housesMeet 26 = .ok (.iconst (-1), 1) := by decide +kernel
theorem dX8_housesMeet_27 : decode cX8_housesMeet 27 = .ok (.ixor, 1) := by decide +kernel
theorem dX8_housesMeet_28 : decode cX8_housesMeet 28 = .ok (.iand, 1) := by decide +kernel
theorem dX8_housesMeet_29 : decode cX8_housesMeet 29 = .ok (.ifCond .ne 7, 3) := by decide +kernel
theorem dX8_housesMeet_32 : decode cX8_housesMeet 32 = .ok (.iconst 1, 1) := by decide +kernel
theorem dX8_housesMeet_33 : decode cX8_housesMeet 33 = .ok (.goto 4, 3) := by decide +kernel
theorem dX8_housesMeet_36 : decode cX8_housesMeet 36 = .ok (.iconst 0, 1) := by decide +kernel
theorem dX8_housesMeet_37 : decode cX8_housesMeet 37 = .ok (.ireturn, 1) := by decide +kernel
theorem dX8_linesNeeded_0 : decode cX8_linesNeeded 0 = .ok (.iconst 0, 1) := by decide +kernel
theorem dX8_linesNeeded_1 : decode cX8_linesNeeded 1 = .ok (.istore_n 2, 1) := by decide +kernel
theorem dX8_linesNeeded_2 : decode cX8_linesNeeded 2 = .ok (.iconst 0, 1) := by decide +kernel
theorem dX8_linesNeeded_3 : decode cX8_linesNeeded 3 = .ok (.istore_n 3, 1) := by decide +kernel
theorem dX8_linesNeeded_4 : decode cX8_linesNeeded 4 = .ok (.iload_n 3, 1) := by decide +kernel
theorem dX8_linesNeeded_5 : decode cX8_linesNeeded 5 = .ok (.aload_n 0, 1) := by decide +kernel
theorem dX8_linesNeeded_6 : decode cX8_linesNeeded 6 = .ok (.getfield 9, 3) := by decide +kernel
theorem dX8_linesNeeded_9 : decode cX8_linesNeeded 9 = .ok (.getfield 37, 3) := by decide +kernel
theorem dX8_linesNeeded_12 : decode cX8_linesNeeded 12 = .ok (.if_icmp .ge 37, 3) := by decide +kernel
theorem dX8_linesNeeded_15 : decode cX8_linesNeeded 15 = .ok (.iload_n 1, 1) := by decide +kernel
theorem dX8_linesNeeded_16 : decode cX8_linesNeeded 16 = .ok (.iload_n 3, 1) := by decide +kernel
theorem dX8_linesNeeded_17 : decode cX8_linesNeeded 17 = .ok (.invokestatic 41, 3) := by decide +kernel
theorem dX8_linesNeeded_20 : decode cX8_linesNeeded 20 = .ok (.ifCond .eq 23, 3) := by decide +kernel
theorem dX8_linesNeeded_23 : decode cX8_linesNeeded 23 = .ok (.aload_n 0, 1) := by decide +kernel
theorem dX8_linesNeeded_24 : decode cX8_linesNeeded 24 = .ok (.iload_n 1, 1) := by decide +kernel
theorem dX8_linesNeeded_25 : decode cX8_linesNeeded 25 = .ok (.iconst 1, 1) := by decide +kernel
theorem dX8_linesNeeded_26 : decode cX8_linesNeeded 26 = .ok (.iload_n 3, 1) := by decide +kernel
theorem dX8_linesNeeded_27 : decode cX8_linesNeeded 27 = .ok (.ishl, 1) := by decide +kernel
theorem dX8_linesNeeded_28 : decode cX8_linesNeeded 28 = .ok (.iconst (-1), 1) := by decide +kernel
theorem dX8_linesNeeded_29 : decode cX8_linesNeeded 29 = .ok (.ixor, 1) := by decide +kernel
theorem dX8_linesNeeded_30 : decode cX8_linesNeeded 30 = .ok (.iand, 1) := by decide +kernel
theorem dX8_linesNeeded_31 : decode cX8_linesNeeded 31 = .ok (.invokevirtual 77, 3) := by decide +kernel
theorem dX8_linesNeeded_34 : decode cX8_linesNeeded 34 = .ok (.ifCond .ne 9, 3) := by decide +kernel
theorem dX8_linesNeeded_37 : decode cX8_linesNeeded 37 = .ok (.iload_n 2, 1) := by decide +kernel
theorem dX8_linesNeeded_38 : decode cX8_linesNeeded 38 = .ok (.iconst 1, 1) := by decide +kernel
theorem dX8_linesNeeded_39 : decode cX8_linesNeeded 39 = .ok (.iload_n 3, 1) := by decide +kernel
theorem dX8_linesNeeded_40 : decode cX8_linesNeeded 40 = .ok (.ishl, 1) := by decide +kernel
theorem dX8_linesNeeded_41 : decode cX8_linesNeeded 41 = .ok (.ior, 1) := by decide +kernel
theorem dX8_linesNeeded_42 : decode cX8_linesNeeded 42 = .ok (.istore_n 2, 1) := by decide +kernel
theorem dX8_linesNeeded_43 : decode cX8_linesNeeded 43 = .ok (.iinc 3 1, 3) := by decide +kernel
theorem dX8_linesNeeded_46 : decode cX8_linesNeeded 46 = .ok (.goto (-42), 3) := by decide +kernel
theorem dX8_linesNeeded_49 : decode cX8_linesNeeded 49 = .ok (.iload_n 2, 1) := by decide +kernel
theorem dX8_linesNeeded_50 : decode cX8_linesNeeded 50 = .ok (.ireturn, 1) := by decide +kernel
theorem dX9_feed_0 : decode cX9_feed 0 = .ok (.aload_n 0, 1) := by decide +kernel
theorem dX9_feed_1 : decode cX9_feed 1 = .ok (.getfield 19, 3) := by decide +kernel
theorem dX9_feed_4 : decode cX9_feed 4 = .ok (.lload_n 1, 1) := by decide +kernel
theorem dX9_feed_5 : decode cX9_feed 5 = .ok (.invokevirtual 89, 3) := by decide +kernel
theorem dX9_feed_8 : decode cX9_feed 8 = .ok (.ireturn, 1) := by decide +kernel
theorem dX9_end_0 : decode cX9_end 0 = .ok (.aload_n 0, 1) := by decide +kernel
theorem dX9_end_1 : decode cX9_end 1 = .ok (.getfield 19, 3) := by decide +kernel
theorem dX9_end_4 : decode cX9_end 4 = .ok (.iload_n 1, 1) := by decide +kernel
theorem dX9_end_5 : decode cX9_end 5 = .ok (.invokevirtual 93, 3) := by decide +kernel
theorem dX9_end_8 : decode cX9_end 8 = .ok (.ireturn, 1) := by decide +kernel
theorem dX9_text_0 : decode cX9_text 0 = .ok (.aload_n 0, 1) := by decide +kernel
theorem dX9_text_1 : decode cX9_text 1 = .ok (.getfield 28, 3) := by decide +kernel
theorem dX9_text_4 : decode cX9_text 4 = .ok (.invokevirtual 97, 3) := by decide +kernel
theorem dX9_text_7 : decode cX9_text 7 = .ok (.istore_n 1, 1) := by decide +kernel
theorem dX9_text_8 : decode cX9_text 8 = .ok (.aload_n 0, 1) := by decide +kernel
theorem dX9_text_9 : decode cX9_text 9 = .ok (.getfield 19, 3) := by decide +kernel
theorem dX9_text_12 : decode cX9_text 12 = .ok (.iconst 0, 1) := by decide +kernel
theorem dX9_text_13 : decode cX9_text 13 = .ok (.invokevirtual 93, 3) := by decide +kernel
theorem dX9_text_16 : decode cX9_text 16 = .ok (.pop, 1) := by decide +kernel
theorem dX9_text_17 : decode cX9_text 17 = .ok (.iload_n 1, 1) := by decide +kernel
theorem dX9_text_18 : decode cX9_text 18 = .ok (.ifCond .eq 14, 3) := by decide +kernel
theorem dX9_text_21 : decode cX9_text 21 = .ok (.bipush (-10), 2) := by decide +kernel
theorem dX9_text_23 : decode cX9_text 23 = .ok (.aload_n 0, 1) := by decide +kernel
theorem dX9_text_24 : decode cX9_text 24 = .ok (.getfield 28, 3) := by decide +kernel
theorem dX9_text_27 : decode cX9_text 27 = .ok (.getfield 101, 3) := by decide +kernel
theorem dX9_text_30 : decode cX9_text 30 = .ok (.isub, 1) := by decide +kernel
theorem dX9_text_31 : decode cX9_text 31 = .ok (.ireturn, 1) := by decide +kernel
theorem dX9_text_32 : decode cX9_text 32 = .ok (.aload_n 0, 1) := by decide +kernel
theorem dX9_text_33 : decode cX9_text 33 = .ok (.getfield 10, 3) := by decide +kernel
theorem dX9_text_36 : decode cX9_text 36 = .ok (.aload_n 0, 1) := by decide +kernel
theorem dX9_text_37 : decode cX9_text 37 = .ok (.getfield 28, 3) := by decide +kernel
theorem dX9_text_40 : decode cX9_text 40 = .ok (.getfield 104, 3) := by decide +kernel
theorem dX9_text_43 : decode cX9_text 43 = .ok (.invokevirtual 107, 3) := by decide +kernel
theorem dX9_text_46 : decode cX9_text 46 = .ok (.aload_n 0, 1) := by decide +kernel
theorem dX9_text_47 : decode cX9_text 47 = .ok (.iconst 0, 1) := by decide +kernel
theorem dX9_text_48 : decode cX9_text 48 = .ok (.putfield 82, 3) := by decide +kernel
theorem dX9_text_51 : decode cX9_text 51 = .ok (.aload_n 0, 1) := by decide +kernel
theorem dX9_text_52 : decode cX9_text 52 = .ok (.getfield 28, 3) := by decide +kernel
theorem dX9_text_55 : decode cX9_text 55 = .ok (.getfield 110, 3) := by decide +kernel
theorem dX9_text_58 : decode cX9_text 58 = .ok (.ireturn, 1) := by decide +kernel
theorem dX9_fault_0 : decode cX9_fault 0 = .ok (.aload_n 0, 1) := by decide +kernel
theorem dX9_fault_1 : decode cX9_fault 1 = .ok (.getfield 28, 3) := by decide +kernel
theorem dX9_fault_4 : decode cX9_fault 4 = .ok (.getfield 113, 3) := by decide +kernel
theorem dX9_fault_7 : decode cX9_fault 7 = .ok (.ireturn, 1) := by decide +kernel
theorem dX9_rule_0 : decode cX9_rule 0 = .ok (.iload_n 1, 1) := by decide +kernel
theorem dX9_rule_1 : decode cX9_rule 1 = .ok (.tableswitch 75 0 4 #[35, 43, 51, 59, 67], 35) := by decide +kernel
theorem dX9_rule_36 : decode cX9_rule 36 = .ok (.aload_n 0, 1) := by decide +kernel
theorem dX9_rule_37 : decode cX9_rule 37 = .ok (.getfield 10, 3) := by decide +kernel
theorem dX9_rule_40 : decode cX9_rule 40 = .ok (.getfield 116, 3) := by decide +kernel
theorem dX9_rule_43 : decode cX9_rule 43 = .ok (.ireturn, 1) := by decide +kernel
theorem dX9_rule_44 : decode cX9_rule 44 = .ok (.aload_n 0, 1) := by decide +kernel
theorem dX9_rule_45 : decode cX9_rule 45 = .ok (.getfield 10, 3) := by decide +kernel
theorem dX9_rule_48 : decode cX9_rule 48 = .ok (.getfield 119, 3) := by decide +kernel
theorem dX9_rule_51 : decode cX9_rule 51 = .ok (.ireturn, 1) := by decide +kernel
theorem dX9_rule_52 : decode cX9_rule 52 = .ok (.aload_n 0, 1) := by decide +kernel
theorem dX9_rule_53 : decode cX9_rule 53 = .ok (.getfield 10, 3) := by decide +kernel
theorem dX9_rule_56 : decode cX9_rule 56 = .ok (.getfield 122, 3) := by decide +kernel
theorem dX9_rule_59 : decode cX9_rule 59 = .ok (.ireturn, 1) := by decide +kernel
theorem dX9_rule_60 : decode cX9_rule 60 = .ok (.aload_n 0, 1) := by decide +kernel
theorem dX9_rule_61 : decode cX9_rule 61 = .ok (.getfield 10, 3) := by decide +kernel
theorem dX9_rule_64 : decode cX9_rule 64 = .ok (.getfield 125, 3) := by decide +kernel
theorem dX9_rule_67 : decode cX9_rule 67 = .ok (.ireturn, 1) := by decide +kernel
theorem dX9_rule_68 : decode cX9_rule 68 = .ok (.aload_n 0, 1) := by decide +kernel
theorem dX9_rule_69 : decode cX9_rule 69 = .ok (.getfield 10, 3) := by decide +kernel
theorem dX9_rule_72 : decode cX9_rule 72 = .ok (.getfield 128, 3) := by decide +kernel
theorem dX9_rule_75 : decode cX9_rule 75 = .ok (.ireturn, 1) := by decide +kernel
theorem dX9_rule_76 : decode cX9_rule 76 = .ok (.iconst (-1), 1) := by decide +kernel
theorem dX9_rule_77 : decode cX9_rule 77 = .ok (.ireturn, 1) := by decide +kernel
theorem dX9_line_0 : decode cX9_line 0 = .ok (.aload_n 0, 1) := by decide +kernel
theorem dX9_line_1 : decode cX9_line 1 = .ok (.getfield 10, 3) := by decide +kernel
theorem dX9_line_4 : decode cX9_line 4 = .ok (.iload_n 1, 1) := by decide +kernel
theorem dX9_line_5 : decode cX9_line 5 = .ok (.invokevirtual 131, 3) := by decide +kernel
theorem dX9_line_8 : decode cX9_line 8 = .ok (.ifCond .ne 5, 3) := by decide +kernel
theorem dX9_line_11 : decode cX9_line 11 = .ok (.iconst (-1), 1) := by decide +kernel
theorem dX9_line_12 : decode cX9_line 12 = .ok (.ireturn, 1) := by decide +kernel
theorem dX9_line_13 : decode cX9_line 13 = .ok (.iload_n 2, 1) := by decide +kernel
theorem dX9_line_14 : decode cX9_line 14 = .ok (.tableswitch 86 0 4 #[34, 44, 54, 64, 74], 34) := by decide +kernel
theorem dX9_line_48 : decode cX9_line 48 = .ok (.aload_n 0, 1) := by decide +kernel
theorem dX9_line_49 : decode cX9_line 49 = .ok (.getfield 10, 3) := by decide +kernel
theorem dX9_line_52 : decode cX9_line 52 = .ok (.getfield 135, 3) := by decide +kernel
theorem dX9_line_55 : decode cX9_line 55 = .ok (.iload_n 1, 1) := by decide +kernel
theorem dX9_line_56 : decode cX9_line 56 = .ok (.iaload, 1) := by decide +kernel
theorem dX9_line_57 : decode cX9_line 57 = .ok (.ireturn, 1) := by decide +kernel
theorem dX9_line_58 : decode cX9_line 58 = .ok (.aload_n 0, 1) := by decide +kernel
theorem dX9_line_59 : decode cX9_line 59 = .ok (.getfield 10, 3) := by decide +kernel
theorem dX9_line_62 : decode cX9_line 62 = .ok (.getfield 139, 3) := by decide +kernel
theorem dX9_line_65 : decode cX9_line 65 = .ok (.iload_n 1, 1) := by decide +kernel
theorem dX9_line_66 : decode cX9_line 66 = .ok (.iaload, 1) := by decide +kernel
theorem dX9_line_67 : decode cX9_line 67 = .ok (.ireturn, 1) := by decide +kernel
theorem dX9_line_68 : decode cX9_line 68 = .ok (.aload_n 0, 1) := by decide +kernel
theorem dX9_line_69 : decode cX9_line 69 = .ok (.getfield 10, 3) := by decide +kernel
theorem dX9_line_72 : decode cX9_line 72 = .ok (.getfield 142, 3) := by decide +kernel
theorem dX9_line_75 : decode cX9_line 75 = .ok (.iload_n 1, 1) := by decide +kernel
theorem dX9_line_76 : decode cX9_line 76 = .ok (.iaload, 1) := by decide +kernel
theorem dX9_line_77 : decode cX9_line 77 = .ok (.ireturn, 1) := by decide +kernel
theorem dX9_line_78 : decode cX9_line 78 = .ok (.aload_n 0, 1) := by decide +kernel
theorem dX9_line_79 : decode cX9_line 79 = .ok (.getfield 10, 3) := by decide +kernel
theorem dX9_line_82 : decode cX9_line 82 = .ok (.getfield 145, 3) := by decide +kernel
theorem dX9_line_85 : decode cX9_line 85 = .ok (.iload_n 1, 1) := by decide +kernel
theorem dX9_line_86 : decode cX9_line 86 = .ok (.iaload, 1) := by decide +kernel
theorem dX9_line_87 : decode cX9_line 87 = .ok (.ireturn, 1) := by decide +kernel
theorem dX9_line_88 : decode cX9_line 88 = .ok (.aload_n 0, 1) := by decide +kernel
theorem dX9_line_89 : decode cX9_line 89 = .ok (.getfield 10, 3) := by decide +kernel
theorem dX9_line_92 : decode cX9_line 92 = .ok (.iload_n 1, 1) := by decide +kernel
theorem dX9_line_93 : decode cX9_line 93 = .ok (.invokevirtual 148, 3) := by decide +kernel
theorem dX9_line_96 : decode cX9_line 96 = .ok (.invokestatic 151, 3) := by decide +kernel
theorem dX9_line_99 : decode cX9_line 99 = .ok (.ireturn, 1) := by decide +kernel
theorem dX9_line_100 : decode cX9_line 100 = .ok (.iconst (-1), 1) := by decide +kernel
theorem dX9_line_101 : decode cX9_line 101 = .ok (.ireturn, 1) := by decide +kernel
theorem dX9_chalk_0 : decode cX9_chalk 0 = .ok (.aload_n 0, 1) := by decide +kernel
theorem dX9_chalk_1 : decode cX9_chalk 1 = .ok (.getfield 10, 3) := by decide +kernel
theorem dX9_chalk_4 : decode cX9_chalk 4 = .ok (.iload_n 1, 1) := by decide +kernel
theorem dX9_chalk_5 : decode cX9_chalk 5 = .ok (.invokevirtual 155, 3) := by decide +kernel
theorem dX9_chalk_8 : decode cX9_chalk 8 = .ok (.ifCond .ne 5, 3) := by decide +kernel
theorem dX9_chalk_11 : decode cX9_chalk 11 = .ok (.iconst (-1), 1) := by decide +kernel
theorem dX9_chalk_12 : decode cX9_chalk 12 = .ok (.ireturn, 1) := by decide +kernel
theorem dX9_chalk_13 : decode cX9_chalk 13 = .ok (.aload_n 0, 1) := by decide +kernel
theorem dX9_chalk_14 : decode cX9_chalk 14 = .ok (.getfield 10, 3) := by decide +kernel
theorem dX9_chalk_17 : decode cX9_chalk 17 = .ok (.getfield 158, 3) := by decide +kernel
theorem dX9_chalk_20 : decode cX9_chalk 20 = .ok (.iload_n 1, 1) := by decide +kernel
theorem dX9_chalk_21 : decode cX9_chalk 21 = .ok (.iaload, 1) := by decide +kernel
theorem dX9_chalk_22 : decode cX9_chalk 22 = .ok (.ireturn, 1) := by decide +kernel
theorem dX9_one_0 : decode cX9_one 0 = .ok (.aload_n 0, 1) := by decide +kernel
theorem dX9_one_1 : decode cX9_one 1 = .ok (.getfield 10, 3) := by decide +kernel
theorem dX9_one_4 : decode cX9_one 4 = .ok (.iload_n 1, 1) := by decide +kernel
theorem dX9_one_5 : decode cX9_one 5 = .ok (.invokevirtual 161, 3) := by decide +kernel
theorem dX9_one_8 : decode cX9_one 8 = .ok (.ifCond .ne 5, 3) := by decide +kernel
theorem dX9_one_11 : decode cX9_one 11 = .ok (.iconst (-1), 1) := by decide +kernel
theorem dX9_one_12 : decode cX9_one 12 = .ok (.ireturn, 1) := by decide +kernel
theorem dX9_one_13 : decode cX9_one 13 = .ok (.iload_n 2, 1) := by decide +kernel
theorem dX9_one_14 : decode cX9_one 14 = .ok (.tableswitch 56 0 2 #[26, 36, 46], 26) := by decide +kernel
theorem dX9_one_40 : decode cX9_one 40 = .ok (.aload_n 0, 1) := by decide +kernel
theorem dX9_one_41 : decode cX9_one 41 = .ok (.getfield 10, 3) := by decide +kernel
theorem dX9_one_44 : decode cX9_one 44 = .ok (.getfield 164, 3) := by decide +kernel
theorem dX9_one_47 : decode cX9_one 47 = .ok (.iload_n 1, 1) := by decide +kernel
theorem dX9_one_48 : decode cX9_one 48 = .ok (.iaload, 1) := by decide +kernel
theorem dX9_one_49 : decode cX9_one 49 = .ok (.ireturn, 1) := by decide +kernel
theorem dX9_one_50 : decode cX9_one 50 = .ok (.aload_n 0, 1) := by decide +kernel
theorem dX9_one_51 : decode cX9_one 51 = .ok (.getfield 10, 3) := by decide +kernel
theorem dX9_one_54 : decode cX9_one 54 = .ok (.getfield 167, 3) := by decide +kernel
theorem dX9_one_57 : decode cX9_one 57 = .ok (.iload_n 1, 1) := by decide +kernel
theorem dX9_one_58 : decode cX9_one 58 = .ok (.iaload, 1) := by decide +kernel
theorem dX9_one_59 : decode cX9_one 59 = .ok (.ireturn, 1) := by decide +kernel
theorem dX9_one_60 : decode cX9_one 60 = .ok (.aload_n 0, 1) := by decide +kernel
theorem dX9_one_61 : decode cX9_one 61 = .ok (.getfield 10, 3) := by decide +kernel
theorem dX9_one_64 : decode cX9_one 64 = .ok (.getfield 170, 3) := by decide +kernel
theorem dX9_one_67 : decode cX9_one 67 = .ok (.iload_n 1, 1) := by decide +kernel
theorem dX9_one_68 : decode cX9_one 68 = .ok (.iaload, 1) := by decide +kernel
theorem dX9_one_69 : decode cX9_one 69 = .ok (.ireturn, 1) := by decide +kernel
theorem dX9_one_70 : decode cX9_one 70 = .ok (.iconst (-1), 1) := by decide +kernel
theorem dX9_one_71 : decode cX9_one 71 = .ok (.ireturn, 1) := by decide +kernel
theorem dX9_rain_0 : decode cX9_rain 0 = .ok (.iload_n 1, 1) := by decide +kernel
theorem dX9_rain_1 : decode cX9_rain 1 = .ok (.invokestatic 173, 3) := by decide +kernel
theorem dX9_rain_4 : decode cX9_rain 4 = .ok (.ifCond .ne 5, 3) := by decide +kernel
theorem dX9_rain_7 : decode cX9_rain 7 = .ok (.iconst (-1), 1) := by decide +kernel
theorem dX9_rain_8 : decode cX9_rain 8 = .ok (.ireturn, 1) := by decide +kernel
theorem dX9_rain_9 : decode cX9_rain 9 = .ok (.aload_n 0, 1) := by decide +kernel
theorem dX9_rain_10 : decode cX9_rain 10 = .ok (.getfield 10, 3) := by decide +kernel
theorem dX9_rain_13 : decode cX9_rain 13 = .ok (.iload_n 1, 1) := by decide +kernel
theorem dX9_rain_14 : decode cX9_rain 14 = .ok (.invokevirtual 176, 3) := by decide +kernel
theorem dX9_rain_17 : decode cX9_rain 17 = .ok (.invokestatic 151, 3) := by decide +kernel
theorem dX9_rain_20 : decode cX9_rain 20 = .ok (.ireturn, 1) := by decide +kernel
theorem dX9_draw_0 : decode cX9_draw 0 = .ok (.aload_n 0, 1) := by decide +kernel
theorem dX9_draw_1 : decode cX9_draw 1 = .ok (.getfield 10, 3) := by decide +kernel
theorem dX9_draw_4 : decode cX9_draw 4 = .ok (.iload_n 1, 1) := by decide +kernel
theorem dX9_draw_5 : decode cX9_draw 5 = .ok (.invokevirtual 155, 3) := by decide +kernel
theorem dX9_draw_8 : decode cX9_draw 8 = .ok (.ifCond .eq 14, 3) := by decide +kernel
theorem dX9_draw_11 : decode cX9_draw 11 = .ok (.aload_n 0, 1) := by decide +kernel
theorem dX9_draw_12 : decode cX9_draw 12 = .ok (.getfield 10, 3) := by decide +kernel
theorem dX9_draw_15 : decode cX9_draw 15 = .ok (.iload_n 2, 1) := by decide +kernel
theorem dX9_draw_16 : decode cX9_draw 16 = .ok (.invokevirtual 131, 3) := by decide +kernel
theorem dX9_draw_19 : decode cX9_draw 19 = .ok (.ifCond .ne 5, 3) := by decide +kernel
theorem dX9_draw_22 : decode cX9_draw 22 = .ok (.iconst (-1), 1) := by decide +kernel
theorem dX9_draw_23 : decode cX9_draw 23 = .ok (.ireturn, 1) := by decide +kernel
theorem dX9_draw_24 : decode cX9_draw 24 = .ok (.aload_n 0, 1) := by decide +kernel
theorem dX9_draw_25 : decode cX9_draw 25 = .ok (.getfield 10, 3) := by decide +kernel
theorem dX9_draw_28 : decode cX9_draw 28 = .ok (.getfield 158, 3) := by decide +kernel
theorem dX9_draw_31 : decode cX9_draw 31 = .ok (.iload_n 1, 1) := by decide +kernel
theorem dX9_draw_32 : decode cX9_draw 32 = .ok (.iaload, 1) := by decide +kernel
theorem dX9_draw_33 : decode cX9_draw 33 = .ok (.aload_n 0, 1) := by decide +kernel
theorem dX9_draw_34 : decode cX9_draw 34 = .ok (.getfield 10, 3) := by decide +kernel
theorem dX9_draw_37 : decode cX9_draw 37 = .ok (.getfield 142, 3) := by decide +kernel
theorem dX9_draw_40 : decode cX9_draw 40 = .ok (.iload_n 2, 1) := by decide +kernel
theorem dX9_draw_41 : decode cX9_draw 41 = .ok (.iaload, 1) := by decide +kernel
theorem dX9_draw_42 : decode cX9_draw 42 = .ok (.if_icmp .ge 6, 3) := by decide +kernel
theorem dX9_draw_45 : decode cX9_draw 45 = .ok (.bipush (-2), 2) := by decide +kernel
theorem dX9_draw_47 : decode cX9_draw 47 = .ok (.ireturn, 1) := by decide +kernel
theorem dX9_draw_48 : decode cX9_draw 48 = .ok (.aload_n 0, 1) := by decide +kernel
theorem dX9_draw_49 : decode cX9_draw 49 = .ok (.getfield 10, 3) := by decide +kernel
theorem dX9_draw_52 : decode cX9_draw 52 = .ok (.getfield 145, 3) := by decide +kernel
theorem dX9_draw_55 : decode cX9_draw 55 = .ok (.iload_n 2, 1) := by decide +kernel
theorem dX9_draw_56 : decode cX9_draw 56 = .ok (.bipush 9, 2) := by decide +kernel
theorem dX9_draw_58 : decode cX9_draw 58 = .ok (.iastore, 1) := by decide +kernel
theorem dX9_draw_59 : decode cX9_draw 59 = .ok (.aload_n 0, 1) := by decide +kernel
theorem dX9_draw_60 : decode cX9_draw 60 = .ok (.getfield 10, 3) := by decide +kernel
theorem dX9_draw_63 : decode cX9_draw 63 = .ok (.getfield 158, 3) := by decide +kernel
theorem dX9_draw_66 : decode cX9_draw 66 = .ok (.iload_n 1, 1) := by decide +kernel
theorem dX9_draw_67 : decode cX9_draw 67 = .ok (.dup2, 1) := by decide +kernel
theorem dX9_draw_68 : decode cX9_draw 68 = .ok (.iaload, 1) := by decide +kernel
theorem dX9_draw_69 : decode cX9_draw 69 = .ok (.aload_n 0, 1) := by decide +kernel
theorem dX9_draw_70 : decode cX9_draw 70 = .ok (.getfield 10, 3) := by decide +kernel
theorem dX9_draw_73 : decode cX9_draw 73 = .ok (.getfield 142, 3) := by decide +kernel
theorem dX9_draw_76 : decode cX9_draw 76 = .ok (.iload_n 2, 1) := by decide +kernel
theorem dX9_draw_77 : decode cX9_draw 77 = .ok (.iaload, 1) := by decide +kernel
theorem dX9_draw_78 : decode cX9_draw 78 = .ok (.isub, 1) := by decide +kernel
theorem dX9_draw_79 : decode cX9_draw 79 = .ok (.iastore, 1) := by decide +kernel
theorem dX9_draw_80 : decode cX9_draw 80 = .ok (.aload_n 0, 1) := by decide +kernel
theorem dX9_draw_81 : decode cX9_draw 81 = .ok (.getfield 10, 3) := by decide +kernel
theorem dX9_draw_84 : decode cX9_draw 84 = .ok (.getfield 158, 3) := by decide +kernel
theorem dX9_draw_87 : decode cX9_draw 87 = .ok (.iload_n 1, 1) := by decide +kernel
theorem dX9_draw_88 : decode cX9_draw 88 = .ok (.iaload, 1) := by decide +kernel
theorem dX9_draw_89 : decode cX9_draw 89 = .ok (.ireturn, 1) := by decide +kernel
theorem dX9_rub_0 : decode cX9_rub 0 = .ok (.aload_n 0, 1) := by decide +kernel
theorem dX9_rub_1 : decode cX9_rub 1 = .ok (.getfield 10, 3) := by decide +kernel
theorem dX9_rub_4 : decode cX9_rub 4 = .ok (.iload_n 1, 1) := by decide +kernel
theorem dX9_rub_5 : decode cX9_rub 5 = .ok (.invokevirtual 131, 3) := by decide +kernel
theorem dX9_rub_8 : decode cX9_rub 8 = .ok (.ifCond .eq 13, 3) := by decide +kernel
theorem dX9_rub_11 : decode cX9_rub 11 = .ok (.iload_n 2, 1) := by decide +kernel
theorem dX9_rub_12 : decode cX9_rub 12 = .ok (.ifCond .lt 9, 3) := by decide +kernel
theorem dX9_rub_15 : decode cX9_rub 15 = .ok (.iload_n 2, 1) := by decide +kernel
theorem dX9_rub_16 : decode cX9_rub 16 = .ok (.bipush 9, 2) := by decide +kernel
theorem dX9_rub_18 : decode cX9_rub 18 = .ok (.if_icmp .le 5, 3) := by decide +kernel
theorem dX9_rub_21 : decode cX9_rub 21 = .ok (.iconst (-1), 1) := by decide +kernel
theorem dX9_rub_22 : decode cX9_rub 22 = .ok (.ireturn, 1) := by decide +kernel
theorem dX9_rub_23 : decode cX9_rub 23 = .ok (.aload_n 0, 1) := by decide +kernel
theorem dX9_rub_24 : decode cX9_rub 24 = .ok (.getfield 10, 3) := by decide +kernel
theorem dX9_rub_27 : decode cX9_rub 27 = .ok (.getfield 145, 3) := by decide +kernel
theorem dX9_rub_30 : decode cX9_rub 30 = .ok (.iload_n 1, 1) := by decide +kernel
theorem dX9_rub_31 : decode cX9_rub 31 = .ok (.iaload, 1) := by decide +kernel
theorem dX9_rub_32 : decode cX9_rub 32 = .ok (.istore_n 3, 1) := by decide +kernel
theorem dX9_rub_33 : decode cX9_rub 33 = .ok (.aload_n 0, 1) := by decide +kernel
theorem dX9_rub_34 : decode cX9_rub 34 = .ok (.getfield 10, 3) := by decide +kernel
theorem dX9_rub_37 : decode cX9_rub 37 = .ok (.getfield 145, 3) := by decide +kernel
theorem dX9_rub_40 : decode cX9_rub 40 = .ok (.iload_n 1, 1) := by decide +kernel
theorem dX9_rub_41 : decode cX9_rub 41 = .ok (.iload_n 2, 1) := by decide +kernel
theorem dX9_rub_42 : decode cX9_rub 42 = .ok (.iastore, 1) := by decide +kernel
theorem dX9_rub_43 : decode cX9_rub 43 = .ok (.iload_n 3, 1) := by decide +kernel
theorem dX9_rub_44 : decode cX9_rub 44 = .ok (.ireturn, 1) := by decide +kernel
theorem dX9_wet_0 : decode cX9_wet 0 = .ok (.aload_n 0, 1) := by decide +kernel
theorem dX9_wet_1 : decode cX9_wet 1 = .ok (.getfield 10, 3) := by decide +kernel
theorem dX9_wet_4 : decode cX9_wet 4 = .ok (.invokevirtual 179, 3) := by decide +kernel
theorem dX9_wet_7 : decode cX9_wet 7 = .ok (.istore_n 1, 1) := by decide +kernel
theorem dX9_wet_8 : decode cX9_wet 8 = .ok (.aload_n 0, 1) := by decide +kernel
theorem dX9_wet_9 : decode cX9_wet 9 = .ok (.getfield 10, 3) := by decide +kernel
theorem dX9_wet_12 : decode cX9_wet 12 = .ok (.aload_n 0, 1) := by decide +kernel
theorem dX9_wet_13 : decode cX9_wet 13 = .ok (.getfield 10, 3) := by decide +kernel
theorem dX9_wet_16 : decode cX9_wet 16 = .ok (.getfield 145, 3) := by decide +kernel
theorem dX9_wet_19 : decode cX9_wet 19 = .ok (.invokevirtual 182, 3) := by decide +kernel
theorem dX9_wet_22 : decode cX9_wet 22 = .ok (.iload_n 1, 1) := by decide +kernel
theorem dX9_wet_23 : decode cX9_wet 23 = .ok (.aload_n 0, 1) := by decide +kernel
theorem dX9_wet_24 : decode cX9_wet 24 = .ok (.getfield 10, 3) := by decide +kernel
theorem dX9_wet_27 : decode cX9_wet 27 = .ok (.invokevirtual 179, 3) := by decide +kernel
theorem dX9_wet_30 : decode cX9_wet 30 = .ok (.iconst (-1), 1) := by decide +kernel
theorem dX9_wet_31 : decode cX9_wet 31 = .ok (.ixor, 1) := by decide +kernel
theorem dX9_wet_32 : decode cX9_wet 32 = .ok (.iand, 1) := by decide +kernel
theorem dX9_wet_33 : decode cX9_wet 33 = .ok (.ireturn, 1) := by decide +kernel
theorem dX9_cloud_0 : decode cX9_cloud 0 = .ok (.iload_n 1, 1) := by decide +kernel
theorem dX9_cloud_1 : decode cX9_cloud 1 = .ok (.invokestatic 173, 3) := by decide +kernel
theorem dX9_cloud_4 : decode cX9_cloud 4 = .ok (.ifCond .ne 5, 3) := by decide +kernel
theorem dX9_cloud_7 : decode cX9_cloud 7 = .ok (.iconst (-1), 1) := by decide +kernel
theorem dX9_cloud_8 : decode cX9_cloud 8 = .ok (.ireturn, 1) := by decide +kernel
theorem dX9_cloud_9 : decode cX9_cloud 9 = .ok (.aload_n 0, 1) := by decide +kernel
theorem dX9_cloud_10 : decode cX9_cloud 10 = .ok (.getfield 10, 3) := by decide +kernel
theorem dX9_cloud_13 : decode cX9_cloud 13 = .ok (.iload_n 1, 1) := by decide +kernel
theorem dX9_cloud_14 : decode cX9_cloud 14 = .ok (.invokevirtual 176, 3) := by decide +kernel
theorem dX9_cloud_17 : decode cX9_cloud 17 = .ok (.invokestatic 151, 3) := by decide +kernel
theorem dX9_cloud_20 : decode cX9_cloud 20 = .ok (.istore_n 3, 1) := by decide +kernel
theorem dX9_cloud_21 : decode cX9_cloud 21 = .ok (.aload_n 0, 1) := by decide +kernel
theorem dX9_cloud_22 : decode cX9_cloud 22 = .ok (.getfield 10, 3) := by decide +kernel
theorem dX9_cloud_25 : decode cX9_cloud 25 = .ok (.iload_n 1, 1) := by decide +kernel
theorem dX9_cloud_26 : decode cX9_cloud 26 = .ok (.iload_n 2, 1) := by decide +kernel
theorem dX9_cloud_27 : decode cX9_cloud 27 = .ok (.invokevirtual 186, 3) := by decide +kernel
theorem dX9_cloud_30 : decode cX9_cloud 30 = .ok (.iload_n 3, 1) := by decide +kernel
theorem dX9_cloud_31 : decode cX9_cloud 31 = .ok (.ireturn, 1) := by decide +kernel
theorem dX9_build_0 : decode cX9_build 0 = .ok (.aload_n 0, 1) := by decide +kernel
theorem dX9_build_1 : decode cX9_build 1 = .ok (.getfield 10, 3) := by decide +kernel
theorem dX9_build_4 : decode cX9_build 4 = .ok (.iload_n 1, 1) := by decide +kernel
theorem dX9_build_5 : decode cX9_build 5 = .ok (.invokevirtual 190, 3) := by decide +kernel
theorem dX9_build_8 : decode cX9_build 8 = .ok (.ifCond .ne 5, 3) := by decide +kernel
theorem dX9_build_11 : decode cX9_build 11 = .ok (.iconst (-1), 1) := by decide +kernel
theorem dX9_build_12 : decode cX9_build 12 = .ok (.ireturn, 1) := by decide +kernel
theorem dX9_build_13 : decode cX9_build 13 = .ok (.aload_n 0, 1) := by decide +kernel
theorem dX9_build_14 : decode cX9_build 14 = .ok (.getfield 10, 3) := by decide +kernel
theorem dX9_build_17 : decode cX9_build 17 = .ok (.iload_n 1, 1) := by decide +kernel
theorem dX9_build_18 : decode cX9_build 18 = .ok (.invokevirtual 193, 3) := by decide +kernel
theorem dX9_build_21 : decode cX9_build 21 = .ok (.invokestatic 151, 3) := by decide +kernel
theorem dX9_build_24 : decode cX9_build 24 = .ok (.istore_n 3, 1) := by decide +kernel
theorem dX9_build_25 : decode cX9_build 25 = .ok (.aload_n 0, 1) := by decide +kernel
theorem dX9_build_26 : decode cX9_build 26 = .ok (.getfield 10, 3) := by decide +kernel
theorem dX9_build_29 : decode cX9_build 29 = .ok (.iload_n 1, 1) := by decide +kernel
theorem dX9_build_30 : decode cX9_build 30 = .ok (.iload_n 2, 1) := by decide +kernel
theorem dX9_build_31 : decode cX9_build 31 = .ok (.invokevirtual 196, 3) := by decide +kernel
theorem dX9_build_34 : decode cX9_build 34 = .ok (.iload_n 3, 1) := by decide +kernel
theorem dX9_build_35 : decode cX9_build 35 = .ok (.ireturn, 1) := by decide +kernel
theorem dX9_plan_0 : decode cX9_plan 0 = .ok (.aload_n 0, 1) := by decide +kernel
theorem dX9_plan_1 : decode cX9_plan 1 = .ok (.getfield 10, 3) := by decide +kernel
theorem dX9_plan_4 : decode cX9_plan 4 = .ok (.iload_n 1, 1) := by decide +kernel
theorem dX9_plan_5 : decode cX9_plan 5 = .ok (.invokevirtual 190, 3) := by decide +kernel
theorem dX9_plan_8 : decode cX9_plan 8 = .ok (.ifCond .eq 30, 3) := by decide +kernel
theorem dX9_plan_11 : decode cX9_plan 11 = .ok (.aload_n 0, 1) := by decide +kernel
theorem dX9_plan_12 : decode cX9_plan 12 = .ok (.getfield 10, 3) := by decide +kernel
theorem dX9_plan_15 : decode cX9_plan 15 = .ok (.iload_n 2, 1) := by decide +kernel
theorem dX9_plan_16 : decode cX9_plan 16 = .ok (.invokevirtual 190, 3) := by decide +kernel
theorem dX9_plan_19 : decode cX9_plan 19 = .ok (.ifCond .eq 19, 3) := by decide +kernel
theorem dX9_plan_22 : decode cX9_plan 22 = .ok (.iload_n 1, 1) := by decide +kernel
theorem dX9_plan_23 : decode cX9_plan 23 = .ok (.iload_n 2, 1) := by decide +kernel
theorem dX9_plan_24 : decode cX9_plan 24 = .ok (.if_icmp .eq 14, 3) := by decide +kernel
theorem dX9_plan_27 : decode cX9_plan 27 = .ok (.iload_n 3, 1) := by decide +kernel
theorem dX9_plan_28 : decode cX9_plan 28 = .ok (.iconst 1, 1) := by decide +kernel
theorem dX9_plan_29 : decode cX9_plan 29 = .ok (.if_icmp .lt 9, 3) := by decide +kernel
theorem dX9_plan_32 : decode cX9_plan 32 = .ok (.iload_n 3, 1) := by decide +kernel
theorem dX9_plan_33 : decode cX9_plan 33 = .ok (.bipush 9, 2) := by decide +kernel
theorem dX9_plan_35 : decode cX9_plan 35 = .ok (.if_icmp .le 5, 3) := by decide +kernel
theorem dX9_plan_38 : decode cX9_plan 38 = .ok (.iconst (-1), 1) := by decide +kernel
theorem dX9_plan_39 : decode cX9_plan 39 = .ok (.ireturn, 1) := by decide +kernel
theorem dX9_plan_40 : decode cX9_plan 40 = .ok (.aload_n 0, 1) := by decide +kernel
theorem dX9_plan_41 : decode cX9_plan 41 = .ok (.getfield 10, 3) := by decide +kernel
theorem dX9_plan_44 : decode cX9_plan 44 = .ok (.iload_n 1, 1) := by decide +kernel
theorem dX9_plan_45 : decode cX9_plan 45 = .ok (.iload_n 2, 1) := by decide +kernel
theorem dX9_plan_46 : decode cX9_plan 46 = .ok (.iload_n 3, 1) := by decide +kernel
theorem dX9_plan_47 : decode cX9_plan 47 = .ok (.iconst 0, 1) := by decide +kernel
theorem dX9_plan_48 : decode cX9_plan 48 = .ok (.invokevirtual 199, 3) := by decide +kernel
theorem dX9_plan_51 : decode cX9_plan 51 = .ok (.ireturn, 1) := by decide +kernel
theorem dX9_way_0 : decode cX9_way 0 = .ok (.aload_n 0, 1) := by decide +kernel
theorem dX9_way_1 : decode cX9_way 1 = .ok (.getfield 10, 3) := by decide +kernel
theorem dX9_way_4 : decode cX9_way 4 = .ok (.iload_n 1, 1) := by decide +kernel
theorem dX9_way_5 : decode cX9_way 5 = .ok (.invokevirtual 190, 3) := by decide +kernel
theorem dX9_way_8 : decode cX9_way 8 = .ok (.ifCond .eq 21, 3) := by decide +kernel
theorem dX9_way_11 : decode cX9_way 11 = .ok (.aload_n 0, 1) := by decide +kernel
theorem dX9_way_12 : decode cX9_way 12 = .ok (.getfield 10, 3) := by decide +kernel
theorem dX9_way_15 : decode cX9_way 15 = .ok (.iload_n 2, 1) := by decide +kernel
theorem dX9_way_16 : decode cX9_way 16 = .ok (.invokevirtual 190, 3) := by decide +kernel
theorem dX9_way_19 : decode cX9_way 19 = .ok (.ifCond .eq 10, 3) := by decide +kernel
theorem dX9_way_22 : decode cX9_way 22 = .ok (.iload_n 3, 1) := by decide +kernel
theorem dX9_way_23 : decode cX9_way 23 = .ok (.invokestatic 203, 3) := by decide +kernel
theorem dX9_way_26 : decode cX9_way 26 = .ok (.ifCond .ne 5, 3) := by decide +kernel
theorem dX9_way_29 : decode cX9_way 29 = .ok (.iconst (-1), 1) := by decide +kernel
theorem dX9_way_30 : decode cX9_way 30 = .ok (.ireturn, 1) := by decide +kernel
theorem dX9_way_31 : decode cX9_way 31 = .ok (.aload_n 0, 1) := by decide +kernel
theorem dX9_way_32 : decode cX9_way 32 = .ok (.getfield 10, 3) := by decide +kernel
theorem dX9_way_35 : decode cX9_way 35 = .ok (.invokevirtual 179, 3) := by decide +kernel
theorem dX9_way_38 : decode cX9_way 38 = .ok (.istore 4, 2) := by decide +kernel
theorem dX9_way_40 : decode cX9_way 40 = .ok (.aload_n 0, 1) := by decide +kernel
theorem dX9_way_41 : decode cX9_way 41 = .ok (.getfield 37, 3) := by decide +kernel
theorem dX9_way_44 : decode cX9_way 44 = .ok (.invokevirtual 206, 3) := by decide +kernel
theorem dX9_way_47 : decode cX9_way 47 = .ok (.iload_n 3, 1) := by decide +kernel
theorem dX9_way_48 : decode cX9_way 48 = .ok (.ifCond .ne 15, 3) := by decide +kernel
theorem dX9_way_51 : decode cX9_way 51 = .ok (.aload_n 0, 1) := by decide +kernel
theorem dX9_way_52 : decode cX9_way 52 = .ok (.getfield 37, 3) := by decide +kernel
theorem dX9_way_55 : decode cX9_way 55 = .ok (.iload_n 1, 1) := by decide +kernel
theorem dX9_way_56 : decode cX9_way 56 = .ok (.iload_n 2, 1) := by decide +kernel
theorem dX9_way_57 : decode cX9_way 57 = .ok (.iload 4, 2) := by decide +kernel
theorem dX9_way_59 : decode cX9_way 59 = .ok (.invokevirtual 209, 3) := by decide +kernel
theorem dX9_way_62 : decode cX9_way 62 = .ok (.ireturn, 1) := by decide +kernel
theorem dX9_way_63 : decode cX9_way 63 = .ok (.iload_n 3, 1) := by decide +kernel
theorem dX9_way_64 : decode cX9_way 64 = .ok (.iconst 1, 1) := by decide +kernel
theorem dX9_way_65 : decode cX9_way 65 = .ok (.if_icmp .ne 15, 3) := by decide +kernel
theorem dX9_way_68 : decode cX9_way 68 = .ok (.aload_n 0, 1) := by decide +kernel
theorem dX9_way_69 : decode cX9_way 69 = .ok (.getfield 37, 3) := by decide +kernel
theorem dX9_way_72 : decode cX9_way 72 = .ok (.iload_n 1, 1) := by decide +kernel
theorem dX9_way_73 : decode cX9_way 73 = .ok (.iload_n 2, 1) := by decide +kernel
theorem dX9_way_74 : decode cX9_way 74 = .ok (.iload 4, 2) := by decide +kernel
theorem dX9_way_76 : decode cX9_way 76 = .ok (.invokevirtual 213, 3) := by decide +kernel
theorem dX9_way_79 : decode cX9_way 79 = .ok (.ireturn, 1) := by decide +kernel
theorem dX9_way_80 : decode cX9_way 80 = .ok (.aload_n 0, 1) := by decide +kernel
theorem dX9_way_81 : decode cX9_way 81 = .ok (.getfield 37, 3) := by decide +kernel
theorem dX9_way_84 : decode cX9_way 84 = .ok (.iload_n 1, 1) := by decide +kernel
theorem dX9_way_85 : decode cX9_way 85 = .ok (.iload_n 2, 1) := by decide +kernel
theorem dX9_way_86 : decode cX9_way 86 = .ok (.iload_n 3, 1) := by decide +kernel
theorem dX9_way_87 : decode cX9_way 87 = .ok (.bipush 10, 2) := by decide +kernel
theorem dX9_way_89 : decode cX9_way 89 = .ok (.isub, 1) := by decide +kernel
theorem dX9_way_90 : decode cX9_way 90 = .ok (.iload 4, 2) := by decide +kernel
theorem dX9_way_92 : decode cX9_way 92 = .ok (.invokevirtual 216, 3) := by decide +kernel
theorem dX9_way_95 : decode cX9_way 95 = .ok (.ireturn, 1) := by decide +kernel
theorem dX9_part_0 : decode cX9_part 0 = .ok (.aload_n 0, 1) := by decide +kernel
theorem dX9_part_1 : decode cX9_part 1 = .ok (.getfield 10, 3) := by decide +kernel
theorem dX9_part_4 : decode cX9_part 4 = .ok (.iload_n 1, 1) := by decide +kernel
theorem dX9_part_5 : decode cX9_part 5 = .ok (.invokevirtual 190, 3) := by decide +kernel
theorem dX9_part_8 : decode cX9_part 8 = .ok (.ifCond .ne 5, 3) := by decide +kernel
theorem dX9_part_11 : decode cX9_part 11 = .ok (.iconst (-1), 1) := by decide +kernel
theorem dX9_part_12 : decode cX9_part 12 = .ok (.ireturn, 1) := by decide +kernel
theorem dX9_part_13 : decode cX9_part 13 = .ok (.aload_n 0, 1) := by decide +kernel
theorem dX9_part_14 : decode cX9_part 14 = .ok (.getfield 37, 3) := by decide +kernel
theorem dX9_part_17 : decode cX9_part 17 = .ok (.iload_n 1, 1) := by decide +kernel
theorem dX9_part_18 : decode cX9_part 18 = .ok (.aload_n 0, 1) := by decide +kernel
theorem dX9_part_19 : decode cX9_part 19 = .ok (.getfield 10, 3) := by decide +kernel
theorem dX9_part_22 : decode cX9_part 22 = .ok (.invokevirtual 179, 3) := by decide +kernel
theorem dX9_part_25 : decode cX9_part 25 = .ok (.invokevirtual 219, 3) := by decide +kernel
theorem dX9_part_28 : decode cX9_part 28 = .ok (.ireturn, 1) := by decide +kernel
theorem dX9_meet_0 : decode cX9_meet 0 = .ok (.aload_n 0, 1) := by decide +kernel
theorem dX9_meet_1 : decode cX9_meet 1 = .ok (.getfield 10, 3) := by decide +kernel
theorem dX9_meet_4 : decode cX9_meet 4 = .ok (.iload_n 1, 1) := by decide +kernel
theorem dX9_meet_5 : decode cX9_meet 5 = .ok (.invokevirtual 223, 3) := by decide +kernel
theorem dX9_meet_8 : decode cX9_meet 8 = .ok (.ifCond .ne 5, 3) := by decide +kernel
theorem dX9_meet_11 : decode cX9_meet 11 = .ok (.iconst (-1), 1) := by decide +kernel
theorem dX9_meet_12 : decode cX9_meet 12 = .ok (.ireturn, 1) := by decide +kernel
theorem dX9_meet_13 : decode cX9_meet 13 = .ok (.aload_n 0, 1) := by decide +kernel
theorem dX9_meet_14 : decode cX9_meet 14 = .ok (.getfield 37, 3) := by decide +kernel
theorem dX9_meet_17 : decode cX9_meet 17 = .ok (.iload_n 1, 1) := by decide +kernel
theorem dX9_meet_18 : decode cX9_meet 18 = .ok (.invokevirtual 226, 3) := by decide +kernel
theorem dX9_meet_21 : decode cX9_meet 21 = .ok (.invokestatic 151, 3) := by decide +kernel
theorem dX9_meet_24 : decode cX9_meet 24 = .ok (.ireturn, 1) := by decide +kernel
theorem dX9_needed_0 : decode cX9_needed 0 = .ok (.aload_n 0, 1) := by decide +kernel
theorem dX9_needed_1 : decode cX9_needed 1 = .ok (.getfield 10, 3) := by decide +kernel
theorem dX9_needed_4 : decode cX9_needed 4 = .ok (.invokevirtual 179, 3) := by decide +kernel
theorem dX9_needed_7 : decode cX9_needed 7 = .ok (.istore_n 1, 1) := by decide +kernel
theorem dX9_needed_8 : decode cX9_needed 8 = .ok (.aload_n 0, 1) := by decide +kernel
theorem dX9_needed_9 : decode cX9_needed 9 = .ok (.getfield 37, 3) := by decide +kernel
theorem dX9_needed_12 : decode cX9_needed 12 = .ok (.iload_n 1, 1) := by decide +kernel
theorem dX9_needed_13 : decode cX9_needed 13 = .ok (.invokevirtual 226, 3) := by decide +kernel
theorem dX9_needed_16 : decode cX9_needed 16 = .ok (.ifCond .ne 6, 3) := by decide +kernel
theorem dX9_needed_19 : decode cX9_needed 19 = .ok (.bipush (-2), 2) := by decide +kernel
theorem dX9_needed_21 : decode cX9_needed 21 = .ok (.ireturn, 1) := by decide +kernel
theorem dX9_needed_22 : decode cX9_needed 22 = .ok (.aload_n 0, 1) := by decide +kernel
theorem dX9_needed_23 : decode cX9_needed 23 = .ok (.getfield 37, 3) := by decide +kernel
theorem dX9_needed_26 : decode cX9_needed 26 = .ok (.iload_n 1, 1) := by decide +kernel
theorem dX9_needed_27 : decode cX9_needed 27 = .ok (.invokevirtual 229, 3) := by decide +kernel
theorem dX9_needed_30 : decode cX9_needed 30 = .ok (.ireturn, 1) := by decide +kernel
theorem dX9_where_0 : decode cX9_where 0 = .ok (.aload_n 0, 1) := by decide +kernel
theorem dX9_where_1 : decode cX9_where 1 = .ok (.getfield 10, 3) := by decide +kernel
theorem dX9_where_4 : decode cX9_where 4 = .ok (.iload_n 1, 1) := by decide +kernel
theorem dX9_where_5 : decode cX9_where 5 = .ok (.invokevirtual 161, 3) := by decide +kernel
theorem dX9_where_8 : decode cX9_where 8 = .ok (.ifCond .eq 10, 3) := by decide +kernel
theorem dX9_where_11 : decode cX9_where 11 = .ok (.iload_n 2, 1) := by decide +kernel
theorem dX9_where_12 : decode cX9_where 12 = .ok (.invokestatic 232, 3) := by decide +kernel
theorem dX9_where_15 : decode cX9_where 15 = .ok (.ifCond .ne 5, 3) := by decide +kernel
theorem dX9_where_18 : decode cX9_where 18 = .ok (.iconst (-1), 1) := by decide +kernel
theorem dX9_where_19 : decode cX9_where 19 = .ok (.ireturn, 1) := by decide +kernel
theorem dX9_where_20 : decode cX9_where 20 = .ok (.aload_n 0, 1) := by decide +kernel
theorem dX9_where_21 : decode cX9_where 21 = .ok (.getfield 46, 3) := by decide +kernel
theorem dX9_where_24 : decode cX9_where 24 = .ok (.iload_n 2, 1) := by decide +kernel
theorem dX9_where_25 : decode cX9_where 25 = .ok (.iconst 0, 1) := by decide +kernel
theorem dX9_where_26 : decode cX9_where 26 = .ok (.invokevirtual 235, 3) := by decide +kernel
theorem dX9_where_29 : decode cX9_where 29 = .ok (.aload_n 0, 1) := by decide +kernel
theorem dX9_where_30 : decode cX9_where 30 = .ok (.getfield 46, 3) := by decide +kernel
theorem dX9_where_33 : decode cX9_where 33 = .ok (.getfield 239, 3) := by decide +kernel
theorem dX9_where_36 : decode cX9_where 36 = .ok (.iload_n 1, 1) := by decide +kernel
theorem dX9_where_37 : decode cX9_where 37 = .ok (.iaload, 1) := by decide +kernel
theorem dX9_where_38 : decode cX9_where 38 = .ok (.ireturn, 1) := by decide +kernel
theorem dX9_strength_0 : decode cX9_strength 0 = .ok (.aload_n 0, 1) := by decide +kernel
theorem dX9_strength_1 : decode cX9_strength 1 = .ok (.getfield 10, 3) := by decide +kernel
theorem dX9_strength_4 : decode cX9_strength 4 = .ok (.iload_n 1, 1) := by decide +kernel
theorem dX9_strength_5 : decode cX9_strength 5 = .ok (.invokevirtual 131, 3) := by decide +kernel
theorem dX9_strength_8 : decode cX9_strength 8 = .ok (.ifCond .eq 10, 3) := by decide +kernel
theorem dX9_strength_11 : decode cX9_strength 11 = .ok (.iload_n 2, 1) := by decide +kernel
theorem dX9_strength_12 : decode cX9_strength 12 = .ok (.invokestatic 232, 3) := by decide +kernel
theorem dX9_strength_15 : decode cX9_strength 15 = .ok (.ifCond .ne 5, 3) := by decide +kernel
theorem dX9_strength_18 : decode cX9_strength 18 = .ok (.iconst (-1), 1) := by decide +kernel
theorem dX9_strength_19 : decode cX9_strength 19 = .ok (.ireturn, 1) := by decide +kernel
theorem dX9_strength_20 : decode cX9_strength 20 = .ok (.aload_n 0, 1) := by decide +kernel
theorem dX9_strength_21 : decode cX9_strength 21 = .ok (.getfield 46, 3) := by decide +kernel
theorem dX9_strength_24 : decode cX9_strength 24 = .ok (.iload_n 2, 1) := by decide +kernel
theorem dX9_strength_25 : decode cX9_strength 25 = .ok (.iconst 0, 1) := by decide +kernel
theorem dX9_strength_26 : decode cX9_strength 26 = .ok (.invokevirtual 235, 3) := by decide +kernel
theorem dX9_strength_29 : decode cX9_strength 29 = .ok (.aload_n 0, 1) := by decide +kernel
theorem dX9_strength_30 : decode cX9_strength 30 = .ok (.getfield 46, 3) := by decide +kernel
theorem dX9_strength_33 : decode cX9_strength 33 = .ok (.getfield 242, 3) := by decide +kernel
theorem dX9_strength_36 : decode cX9_strength 36 = .ok (.iload_n 1, 1) := by decide +kernel
theorem dX9_strength_37 : decode cX9_strength 37 = .ok (.iaload, 1) := by decide +kernel
theorem dX9_strength_38 : decode cX9_strength 38 = .ok (.ireturn, 1) := by decide +kernel
theorem dX9_comes_0 : decode cX9_comes 0 = .ok (.aload_n 0, 1) := by decide +kernel
theorem dX9_comes_1 : decode cX9_comes 1 = .ok (.getfield 10, 3) := by decide +kernel
theorem dX9_comes_4 : decode cX9_comes 4 = .ok (.iload_n 1, 1) := by decide +kernel
theorem dX9_comes_5 : decode cX9_comes 5 = .ok (.invokevirtual 161, 3) := by decide +kernel
theorem dX9_comes_8 : decode cX9_comes 8 = .ok (.ifCond .ne 5, 3) := by decide +kernel
theorem dX9_comes_11 : decode cX9_comes 11 = .ok (.iconst (-1), 1) := by decide +kernel
theorem dX9_comes_12 : decode cX9_comes 12 = .ok (.ireturn, 1) := by decide +kernel
theorem dX9_comes_13 : decode cX9_comes 13 = .ok (.aload_n 0, 1) := by decide +kernel
theorem dX9_comes_14 : decode cX9_comes 14 = .ok (.getfield 46, 3) := by decide +kernel
theorem dX9_comes_17 : decode cX9_comes 17 = .ok (.bipush 60, 2) := by decide +kernel
theorem dX9_comes_19 : decode cX9_comes 19 = .ok (.iconst 0, 1) := by decide +kernel
theorem dX9_comes_20 : decode cX9_comes 20 = .ok (.invokevirtual 235, 3) := by decide +kernel
theorem dX9_comes_23 : decode cX9_comes 23 = .ok (.aload_n 0, 1) := by decide +kernel
theorem dX9_comes_24 : decode cX9_comes 24 = .ok (.getfield 46, 3) := by decide +kernel
theorem dX9_comes_27 : decode cX9_comes 27 = .ok (.getfield 245, 3) := by decide +kernel
theorem dX9_comes_30 : decode cX9_comes 30 = .ok (.iload_n 1, 1) := by decide +kernel
theorem dX9_comes_31 : decode cX9_comes 31 = .ok (.iaload, 1) := by decide +kernel
theorem dX9_comes_32 : decode cX9_comes 32 = .ok (.ifCond .le 15, 3) := by decide +kernel
theorem dX9_comes_35 : decode cX9_comes 35 = .ok (.aload_n 0, 1) := by decide +kernel
theorem dX9_comes_36 : decode cX9_comes 36 = .ok (.getfield 46, 3) := by decide +kernel
theorem dX9_comes_39 : decode cX9_comes 39 = .ok (.getfield 245, 3) := by decide +kernel
theorem dX9_comes_42 : decode cX9_comes 42 = .ok (.iload_n 1, 1) := by decide +kernel
theorem dX9_comes_43 : decode cX9_comes 43 = .ok (.iaload, 1) := by decide +kernel
theorem dX9_comes_44 : decode cX9_comes 44 = .ok (.goto 5, 3) := by decide +kernel
theorem dX9_comes_47 : decode cX9_comes 47 = .ok (.bipush (-4), 2) := by decide +kernel
theorem dX9_comes_49 : decode cX9_comes 49 = .ok (.ireturn, 1) := by decide +kernel
theorem dX9_waited_0 : decode cX9_waited 0 = .ok (.aload_n 0, 1) := by decide +kernel
theorem dX9_waited_1 : decode cX9_waited 1 = .ok (.getfield 10, 3) := by decide +kernel
theorem dX9_waited_4 : decode cX9_waited 4 = .ok (.iload_n 1, 1) := by decide +kernel
theorem dX9_waited_5 : decode cX9_waited 5 = .ok (.invokevirtual 161, 3) := by decide +kernel
theorem dX9_waited_8 : decode cX9_waited 8 = .ok (.ifCond .eq 10, 3) := by decide +kernel
theorem dX9_waited_11 : decode cX9_waited 11 = .ok (.iload_n 2, 1) := by decide +kernel
theorem dX9_waited_12 : decode cX9_waited 12 = .ok (.invokestatic 232, 3) := by decide +kernel
theorem dX9_waited_15 : decode cX9_waited 15 = .ok (.ifCond .ne 5, 3) := by decide +kernel
theorem dX9_waited_18 : decode cX9_waited 18 = .ok (.iconst (-1), 1) := by decide +kernel
theorem dX9_waited_19 : decode cX9_waited 19 = .ok (.ireturn, 1) := by decide +kernel
theorem dX9_waited_20 : decode cX9_waited 20 = .ok (.aload_n 0, 1) := by decide +kernel
theorem dX9_waited_21 : decode cX9_waited 21 = .ok (.getfield 46, 3) := by decide +kernel
theorem dX9_waited_24 : decode cX9_waited 24 = .ok (.iload_n 2, 1) := by decide +kernel
theorem dX9_waited_25 : decode cX9_waited 25 = .ok (.iconst 0, 1) := by decide +kernel
theorem dX9_waited_26 : decode cX9_waited 26 = .ok (.invokevirtual 235, 3) := by decide +kernel
theorem dX9_waited_29 : decode cX9_waited 29 = .ok (.aload_n 0, 1) := by decide +kernel
theorem dX9_waited_30 : decode cX9_waited 30 = .ok (.getfield 46, 3) := by decide +kernel
theorem dX9_waited_33 : decode cX9_waited 33 = .ok (.getfield 248, 3) := by decide +kernel
theorem dX9_waited_36 : decode cX9_waited 36 = .ok (.iload_n 1, 1) := by decide +kernel
theorem dX9_waited_37 : decode cX9_waited 37 = .ok (.iaload, 1) := by decide +kernel
theorem dX9_waited_38 : decode cX9_waited 38 = .ok (.ireturn, 1) := by decide +kernel
theorem dX9_lost_0 : decode cX9_lost 0 = .ok (.iload_n 1, 1) := by decide +kernel
theorem dX9_lost_1 : decode cX9_lost 1 = .ok (.invokestatic 232, 3) := by decide +kernel
theorem dX9_lost_4 : decode cX9_lost 4 = .ok (.ifCond .ne 5, 3) := by decide +kernel
theorem dX9_lost_7 : decode cX9_lost 7 = .ok (.iconst (-1), 1) := by decide +kernel
theorem dX9_lost_8 : decode cX9_lost 8 = .ok (.ireturn, 1) := by decide +kernel
theorem dX9_lost_9 : decode cX9_lost 9 = .ok (.aload_n 0, 1) := by decide +kernel
theorem dX9_lost_10 : decode cX9_lost 10 = .ok (.getfield 46, 3) := by decide +kernel
theorem dX9_lost_13 : decode cX9_lost 13 = .ok (.iload_n 1, 1) := by decide +kernel
theorem dX9_lost_14 : decode cX9_lost 14 = .ok (.iconst 0, 1) := by decide +kernel
theorem dX9_lost_15 : decode cX9_lost 15 = .ok (.invokevirtual 235, 3) := by decide +kernel
theorem dX9_lost_18 : decode cX9_lost 18 = .ok (.aload_n 0, 1) := by decide +kernel
theorem dX9_lost_19 : decode cX9_lost 19 = .ok (.getfield 46, 3) := by decide +kernel
theorem dX9_lost_22 : decode cX9_lost 22 = .ok (.invokevirtual 251, 3) := by decide +kernel
theorem dX9_lost_25 : decode cX9_lost 25 = .ok (.ireturn, 1) := by decide +kernel
theorem dX9_storm_0 : decode cX9_storm 0 = .ok (.iload_n 1, 1) := by decide +kernel
theorem dX9_storm_1 : decode cX9_storm 1 = .ok (.invokestatic 232, 3) := by decide +kernel
theorem dX9_storm_4 : decode cX9_storm 4 = .ok (.ifCond .ne 5, 3) := by decide +kernel
theorem dX9_storm_7 : decode cX9_storm 7 = .ok (.iconst (-1), 1) := by decide +kernel
theorem dX9_storm_8 : decode cX9_storm 8 = .ok (.ireturn, 1) := by decide +kernel
theorem dX9_storm_9 : decode cX9_storm 9 = .ok (.aload_n 0, 1) := by decide +kernel
theorem dX9_storm_10 : decode cX9_storm 10 = .ok (.getfield 46, 3) := by decide +kernel
theorem dX9_storm_13 : decode cX9_storm 13 = .ok (.iload_n 1, 1) := by decide +kernel
theorem dX9_storm_14 : decode cX9_storm 14 = .ok (.iconst 0, 1) := by decide +kernel
theorem dX9_storm_15 : decode cX9_storm 15 = .ok (.invokevirtual 235, 3) := by decide +kernel
theorem dX9_storm_18 : decode cX9_storm 18 = .ok (.aload_n 0, 1) := by decide +kernel
theorem dX9_storm_19 : decode cX9_storm 19 = .ok (.getfield 46, 3) := by decide +kernel
theorem dX9_storm_22 : decode cX9_storm 22 = .ok (.invokevirtual 254, 3) := by decide +kernel
theorem dX9_storm_25 : decode cX9_storm 25 = .ok (.ireturn, 1) := by decide +kernel
theorem dX9_worst_0 : decode cX9_worst 0 = .ok (.iload_n 1, 1) := by decide +kernel
theorem dX9_worst_1 : decode cX9_worst 1 = .ok (.ifCond .eq 10, 3) := by decide +kernel
theorem dX9_worst_4 : decode cX9_worst 4 = .ok (.iload_n 1, 1) := by decide +kernel
theorem dX9_worst_5 : decode cX9_worst 5 = .ok (.iconst 1, 1) := by decide +kernel
theorem dX9_worst_6 : decode cX9_worst 6 = .ok (.if_icmp .eq 5, 3) := by decide +kernel
theorem dX9_worst_9 : decode cX9_worst 9 = .ok (.iconst (-1), 1) := by decide +kernel
theorem dX9_worst_10 : decode cX9_worst 10 = .ok (.ireturn, 1) := by decide +kernel
theorem dX9_worst_11 : decode cX9_worst 11 = .ok (.aload_n 0, 1) := by decide +kernel
theorem dX9_worst_12 : decode cX9_worst 12 = .ok (.getfield 46, 3) := by decide +kernel
theorem dX9_worst_15 : decode cX9_worst 15 = .ok (.bipush 60, 2) := by decide +kernel
theorem dX9_worst_17 : decode cX9_worst 17 = .ok (.iconst 0, 1) := by decide +kernel
theorem dX9_worst_18 : decode cX9_worst 18 = .ok (.invokevirtual 235, 3) := by decide +kernel
theorem dX9_worst_21 : decode cX9_worst 21 = .ok (.aload_n 0, 1) := by decide +kernel
theorem dX9_worst_22 : decode cX9_worst 22 = .ok (.getfield 46, 3) := by decide +kernel
theorem dX9_worst_25 : decode cX9_worst 25 = .ok (.invokevirtual 251, 3) := by decide +kernel
theorem dX9_worst_28 : decode cX9_worst 28 = .ok (.invokestatic 257, 3) := by decide +kernel
theorem dX9_worst_31 : decode cX9_worst 31 = .ok (.istore_n 2, 1) := by decide +kernel
theorem dX9_worst_32 : decode cX9_worst 32 = .ok (.bipush (-4), 2) := by decide +kernel
theorem dX9_worst_34 : decode cX9_worst 34 = .ok (.istore_n 3, 1) := by decide +kernel
theorem dX9_worst_35 : decode cX9_worst 35 = .ok (.iconst 1, 1) := by decide +kernel
theorem dX9_worst_36 : decode cX9_worst 36 = .ok (.istore 4, 2) := by decide +kernel
theorem dX9_worst_38 : decode cX9_worst 38 = .ok (.iload 4, 2) := by decide +kernel
theorem dX9_worst_40 : decode cX9_worst 40 = .ok (.bipush 40, 2) := by decide +kernel
theorem dX9_worst_42 : decode cX9_worst 42 = .ok (.if_icmp .gt 44, 3) := by decide +kernel
theorem dX9_worst_45 : decode cX9_worst 45 = .ok (.aload_n 0, 1) := by decide +kernel
theorem dX9_worst_46 : decode cX9_worst 46 = .ok (.getfield 46, 3) := by decide +kernel
theorem dX9_worst_49 : decode cX9_worst 49 = .ok (.bipush 60, 2) := by decide +kernel
theorem dX9_worst_51 : decode cX9_worst 51 = .ok (.iload 4, 2) := by decide +kernel
theorem dX9_worst_53 : decode cX9_worst 53 = .ok (.invokevirtual 235, 3) := by decide +kernel
theorem dX9_worst_56 : decode cX9_worst 56 = .ok (.aload_n 0, 1) := by decide +kernel
theorem dX9_worst_57 : decode cX9_worst 57 = .ok (.getfield 46, 3) := by decide +kernel
theorem dX9_worst_60 : decode cX9_worst 60 = .ok (.invokevirtual 251, 3) := by decide +kernel
theorem dX9_worst_63 : decode cX9_worst 63 = .ok (.invokestatic 257, 3) := by decide +kernel
theorem dX9_worst_66 : decode cX9_worst 66 = .ok (.istore 5, 2) := by decide +kernel
theorem dX9_worst_68 : decode cX9_worst 68 = .ok (.iload 5, 2) := by decide +kernel
theorem dX9_worst_70 : decode cX9_worst 70 = .ok (.iload_n 2, 1) := by decide +kernel
theorem dX9_worst_71 : decode cX9_worst 71 = .ok (.if_icmp .le 9, 3) := by decide +kernel
theorem dX9_worst_74 : decode cX9_worst 74 = .ok (.iload 5, 2) := by decide +kernel
theorem dX9_worst_76 : decode cX9_worst 76 = .ok (.istore_n 2, 1) := by decide +kernel
theorem dX9_worst_77 : decode cX9_worst 77 = .ok (.iload 4, 2) := by decide +kernel
theorem dX9_worst_79 : decode cX9_worst 79 = .ok (.istore_n 3, 1) := by decide +kernel
theorem dX9_worst_80 : decode cX9_worst 80 = .ok (.iinc 4 1, 3) := by decide +kernel
theorem dX9_worst_83 : decode cX9_worst 83 = .ok (.goto (-45), 3) := by decide +kernel
theorem dX9_worst_86 : decode cX9_worst 86 = .ok (.iload_n 3, 1) := by decide +kernel
theorem dX9_worst_87 : decode cX9_worst 87 = .ok (.bipush (-4), 2) := by decide +kernel
theorem dX9_worst_89 : decode cX9_worst 89 = .ok (.if_icmp .eq 7, 3) := by decide +kernel
theorem dX9_worst_92 : decode cX9_worst 92 = .ok (.iload_n 1, 1) := by decide +kernel
theorem dX9_worst_93 : decode cX9_worst 93 = .ok (.ifCond .ne 7, 3) := by decide +kernel
theorem dX9_worst_96 : decode cX9_worst 96 = .ok (.iload_n 3, 1) := by decide +kernel
theorem dX9_worst_97 : decode cX9_worst 97 = .ok (.goto 4, 3) := by decide +kernel
theorem dX9_worst_100 : decode cX9_worst 100 = .ok (.iload_n 2, 1) := by decide +kernel
theorem dX9_worst_101 : decode cX9_worst 101 = .ok (.ireturn, 1) := by decide +kernel
theorem dX9_dawn_0 : decode cX9_dawn 0 = .ok (.aload_n 0, 1) := by decide +kernel
theorem dX9_dawn_1 : decode cX9_dawn 1 = .ok (.getfield 53, 3) := by decide +kernel
theorem dX9_dawn_4 : decode cX9_dawn 4 = .ok (.iload_n 1, 1) := by decide +kernel
theorem dX9_dawn_5 : decode cX9_dawn 5 = .ok (.iconst 0, 1) := by decide +kernel
theorem dX9_dawn_6 : decode cX9_dawn 6 = .ok (.invokevirtual 262, 3) := by decide +kernel
theorem dX9_dawn_9 : decode cX9_dawn 9 = .ok (.ireturn, 1) := by decide +kernel
theorem dX9_sure_0 : decode cX9_sure 0 = .ok (.aload_n 0, 1) := by decide +kernel
theorem dX9_sure_1 : decode cX9_sure 1 = .ok (.getfield 53, 3) := by decide +kernel
theorem dX9_sure_4 : decode cX9_sure 4 = .ok (.iload_n 1, 1) := by decide +kernel
theorem dX9_sure_5 : decode cX9_sure 5 = .ok (.iconst 1, 1) := by decide +kernel
theorem dX9_sure_6 : decode cX9_sure 6 = .ok (.invokevirtual 262, 3) := by decide +kernel
theorem dX9_sure_9 : decode cX9_sure 9 = .ok (.ireturn, 1) := by decide +kernel
theorem dX9_share_0 : decode cX9_share 0 = .ok (.iload_n 2, 1) := by decide +kernel
theorem dX9_share_1 : decode cX9_share 1 = .ok (.bipush 10, 2) := by decide +kernel
theorem dX9_share_3 : decode cX9_share 3 = .ok (.isub, 1) := by decide +kernel
theorem dX9_share_4 : decode cX9_share 4 = .ok (.istore_n 3, 1) := by decide +kernel
theorem dX9_share_5 : decode cX9_share 5 = .ok (.aload_n 0, 1) := by decide +kernel
theorem dX9_share_6 : decode cX9_share 6 = .ok (.getfield 10, 3) := by decide +kernel
theorem dX9_share_9 : decode cX9_share 9 = .ok (.iload_n 1, 1) := by decide +kernel
theorem dX9_share_10 : decode cX9_share 10 = .ok (.invokevirtual 223, 3) := by decide +kernel
theorem dX9_share_13 : decode cX9_share 13 = .ok (.ifCond .eq 12, 3) := by decide +kernel
theorem dX9_share_16 : decode cX9_share 16 = .ok (.iload_n 1, 1) := by decide +kernel
theorem dX9_share_17 : decode cX9_share 17 = .ok (.invokestatic 257, 3) := by decide +kernel
theorem dX9_share_20 : decode cX9_share 20 = .ok (.bipush 8, 2) := by decide +kernel
theorem dX9_share_22 : decode cX9_share 22 = .ok (.if_icmp .le 5, 3) := by decide +kernel
theorem dX9_share_25 : decode cX9_share 25 = .ok (.iconst (-1), 1) := by decide +kernel
theorem dX9_share_26 : decode cX9_share 26 = .ok (.ireturn, 1) := by decide +kernel
theorem dX9_share_27 : decode cX9_share 27 = .ok (.iload_n 2, 1) := by decide +kernel
theorem dX9_share_28 : decode cX9_share 28 = .ok (.ifCond .eq 27, 3) := by decide +kernel
theorem dX9_share_31 : decode cX9_share 31 = .ok (.iload_n 2, 1) := by decide +kernel
theorem dX9_share_32 : decode cX9_share 32 = .ok (.iconst 1, 1) := by decide +kernel
theorem dX9_share_33 : decode cX9_share 33 = .ok (.if_icmp .eq 22, 3) := by decide +kernel
theorem dX9_share_36 : decode cX9_share 36 = .ok (.iload_n 2, 1) := by decide +kernel
theorem dX9_share_37 : decode cX9_share 37 = .ok (.bipush 10, 2) := by decide +kernel
theorem dX9_share_39 : decode cX9_share 39 = .ok (.if_icmp .lt 14, 3) := by decide +kernel
theorem dX9_share_42 : decode cX9_share 42 = .ok (.aload_n 0, 1) := by decide +kernel
theorem dX9_share_43 : decode cX9_share 43 = .ok (.getfield 10, 3) := by decide +kernel
theorem dX9_share_46 : decode cX9_share 46 = .ok (.iload_n 3, 1) := by decide +kernel
theorem dX9_share_47 : decode cX9_share 47 = .ok (.invokevirtual 131, 3) := by decide +kernel
theorem dX9_share_50 : decode cX9_share 50 = .ok (.ifCond .ne 5, 3) := by decide +kernel
theorem dX9_share_53 : decode cX9_share 53 = .ok (.iconst (-1), 1) := by decide +kernel
theorem dX9_share_54 : decode cX9_share 54 = .ok (.ireturn, 1) := by decide +kernel
theorem dX9_share_55 : decode cX9_share 55 = .ok (.aload_n 0, 1) := by decide +kernel
theorem dX9_share_56 : decode cX9_share 56 = .ok (.getfield 60, 3) := by decide +kernel
theorem dX9_share_59 : decode cX9_share 59 = .ok (.iload_n 1, 1) := by decide +kernel
theorem dX9_share_60 : decode cX9_share 60 = .ok (.invokevirtual 266, 3) := by decide +kernel
theorem dX9_share_63 : decode cX9_share 63 = .ok (.istore 4, 2) := by decide +kernel
theorem dX9_share_65 : decode cX9_share 65 = .ok (.iload 4, 2) := by decide +kernel
theorem dX9_share_67 : decode cX9_share 67 = .ok (.bipush (-4), 2) := by decide +kernel
theorem dX9_share_69 : decode cX9_share 69 = .ok (.if_icmp .eq 8, 3) := by decide +kernel
theorem dX9_share_72 : decode cX9_share 72 = .ok (.iload_n 2, 1) := by decide +kernel
theorem dX9_share_73 : decode cX9_share 73 = .ok (.iconst 1, 1) := by decide +kernel
theorem dX9_share_74 : decode cX9_share 74 = .ok (.if_icmp .ne 6, 3) := by decide +kernel
theorem dX9_share_77 : decode cX9_share 77 = .ok (.iload 4, 2) := by decide +kernel
theorem dX9_share_79 : decode cX9_share 79 = .ok (.ireturn, 1) := by decide +kernel
theorem dX9_share_80 : decode cX9_share 80 = .ok (.iload_n 2, 1) := by decide +kernel
theorem dX9_share_81 : decode cX9_share 81 = .ok (.ifCond .ne 9, 3) := by decide +kernel
theorem dX9_share_84 : decode cX9_share 84 = .ok (.iload 4, 2) := by decide +kernel
theorem dX9_share_86 : decode cX9_share 86 = .ok (.invokestatic 257, 3) := by decide +kernel
theorem dX9_share_89 : decode cX9_share 89 = .ok (.ireturn, 1) := by decide +kernel
theorem dX9_share_90 : decode cX9_share 90 = .ok (.iload_n 1, 1) := by decide +kernel
theorem dX9_share_91 : decode cX9_share 91 = .ok (.iload_n 3, 1) := by decide +kernel
theorem dX9_share_92 : decode cX9_share 92 = .ok (.invokestatic 269, 3) := by decide +kernel
theorem dX9_share_95 : decode cX9_share 95 = .ok (.ifCond .eq 15, 3) := by decide +kernel
theorem dX9_share_98 : decode cX9_share 98 = .ok (.aload_n 0, 1) := by decide +kernel
theorem dX9_share_99 : decode cX9_share 99 = .ok (.getfield 60, 3) := by decide +kernel
theorem dX9_share_102 : decode cX9_share 102 = .ok (.getfield 273, 3) := by decide +kernel
theorem dX9_share_105 : decode cX9_share 105 = .ok (.iload_n 3, 1) := by decide +kernel
theorem dX9_share_106 : decode cX9_share 106 = .ok (.iaload, 1) := by decide +kernel
theorem dX9_share_107 : decode cX9_share 107 = .ok (.goto 5, 3) := by decide +kernel
theorem dX9_share_110 : decode cX9_share 110 = .ok (.bipush (-4), 2) := by decide +kernel
theorem dX9_share_112 : decode cX9_share 112 = .ok (.ireturn, 1) := by decide +kernel
theorem dX9_hear_0 : decode cX9_hear 0 = .ok (.aload_n 0, 1) := by decide +kernel
theorem dX9_hear_1 : decode cX9_hear 1 = .ok (.getfield 10, 3) := by decide +kernel
theorem dX9_hear_4 : decode cX9_hear 4 = .ok (.iload_n 1, 1) := by decide +kernel
theorem dX9_hear_5 : decode cX9_hear 5 = .ok (.iload_n 2, 1) := by decide +kernel
theorem dX9_hear_6 : decode cX9_hear 6 = .ok (.invokevirtual 276, 3) := by decide +kernel
theorem dX9_hear_9 : decode cX9_hear 9 = .ok (.ireturn, 1) := by decide +kernel
theorem dX9_forget_0 : decode cX9_forget 0 = .ok (.iload_n 1, 1) := by decide +kernel
theorem dX9_forget_1 : decode cX9_forget 1 = .ok (.ifCond .lt 14, 3) := by decide +kernel
theorem dX9_forget_4 : decode cX9_forget 4 = .ok (.iload_n 1, 1) := by decide +kernel
theorem dX9_forget_5 : decode cX9_forget 5 = .ok (.aload_n 0, 1) := by decide +kernel
theorem dX9_forget_6 : decode cX9_forget 6 = .ok (.getfield 10, 3) := by decide +kernel
theorem dX9_forget_9 : decode cX9_forget 9 = .ok (.getfield 279, 3) := by decide +kernel
theorem dX9_forget_12 : decode cX9_forget 12 = .ok (.if_icmp .le 5, 3) := by decide +kernel
theorem dX9_forget_15 : decode cX9_forget 15 = .ok (.iconst (-1), 1) := by decide +kernel
theorem dX9_forget_16 : decode cX9_forget 16 = .ok (.ireturn, 1) := by decide +kernel
theorem dX9_forget_17 : decode cX9_forget 17 = .ok (.aload_n 0, 1) := by decide +kernel
theorem dX9_forget_18 : decode cX9_forget 18 = .ok (.getfield 10, 3) := by decide +kernel
theorem dX9_forget_21 : decode cX9_forget 21 = .ok (.getfield 279, 3) := by decide +kernel
theorem dX9_forget_24 : decode cX9_forget 24 = .ok (.istore_n 2, 1) := by decide +kernel
theorem dX9_forget_25 : decode cX9_forget 25 = .ok (.aload_n 0, 1) := by decide +kernel
theorem dX9_forget_26 : decode cX9_forget 26 = .ok (.getfield 10, 3) := by decide +kernel
theorem dX9_forget_29 : decode cX9_forget 29 = .ok (.iload_n 1, 1) := by decide +kernel
theorem dX9_forget_30 : decode cX9_forget 30 = .ok (.putfield 279, 3) := by decide +kernel
theorem dX9_forget_33 : decode cX9_forget 33 = .ok (.iload_n 2, 1) := by decide +kernel
theorem dX9_forget_34 : decode cX9_forget 34 = .ok (.ireturn, 1) := by decide +kernel
theorem dX9_breaks_0 : decode cX9_breaks 0 = .ok (.iload_n 1, 1) := by decide +kernel
theorem dX9_breaks_1 : decode cX9_breaks 1 = .ok (.ifCond .lt 8, 3) := by decide +kernel
theorem dX9_breaks_4 : decode cX9_breaks 4 = .ok (.iload_n 1, 1) := by decide +kernel
theorem dX9_breaks_5 : decode cX9_breaks 5 = .ok (.iconst 3, 1) := by decide +kernel
theorem dX9_breaks_6 : decode cX9_breaks 6 = .ok (.if_icmp .le 5, 3) := by decide +kernel
theorem dX9_breaks_9 : decode cX9_breaks 9 = .ok (.iconst (-1), 1) := by decide +kernel
theorem dX9_breaks_10 : decode cX9_breaks 10 = .ok (.ireturn, 1) := by decide +kernel
theorem dX9_breaks_11 : decode cX9_breaks 11 = .ok (.aload_n 0, 1) := by decide +kernel
theorem dX9_breaks_12 : decode cX9_breaks 12 = .ok (.getfield 67, 3) := by decide +kernel
theorem dX9_breaks_15 : decode cX9_breaks 15 = .ok (.invokevirtual 282, 3) := by decide +kernel
theorem dX9_breaks_18 : decode cX9_breaks 18 = .ok (.iload_n 1, 1) := by decide +kernel
theorem dX9_breaks_19 : decode cX9_breaks 19 = .ok (.ifCond .ne 11, 3) := by decide +kernel
theorem dX9_breaks_22 : decode cX9_breaks 22 = .ok (.aload_n 0, 1) := by decide +kernel
theorem dX9_breaks_23 : decode cX9_breaks 23 = .ok (.getfield 67, 3) := by decide +kernel
theorem dX9_breaks_26 : decode cX9_breaks 26 = .ok (.getfield 285, 3) := by decide +kernel
theorem dX9_breaks_29 : decode cX9_breaks 29 = .ok (.ireturn, 1) := by decide +kernel
theorem dX9_breaks_30 : decode cX9_breaks 30 = .ok (.iload_n 1, 1) := by decide +kernel
theorem dX9_breaks_31 : decode cX9_breaks 31 = .ok (.iconst 3, 1) := by decide +kernel
theorem dX9_breaks_32 : decode cX9_breaks 32 = .ok (.if_icmp .ne 11, 3) := by decide +kernel
theorem dX9_breaks_35 : decode cX9_breaks 35 = .ok (.aload_n 0, 1) := by decide +kernel
theorem dX9_breaks_36 : decode cX9_breaks 36 = .ok (.getfield 67, 3) := by decide +kernel
theorem dX9_breaks_39 : decode cX9_breaks 39 = .ok (.getfield 288, 3) := by decide +kernel
theorem dX9_breaks_42 : decode cX9_breaks 42 = .ok (.ireturn, 1) := by decide +kernel
theorem dX9_breaks_43 : decode cX9_breaks 43 = .ok (.aload_n 0, 1) := by decide +kernel
theorem dX9_breaks_44 : decode cX9_breaks 44 = .ok (.getfield 67, 3) := by decide +kernel
theorem dX9_breaks_47 : decode cX9_breaks 47 = .ok (.getfield 285, 3) := by decide +kernel
theorem dX9_breaks_50 : decode cX9_breaks 50 = .ok (.ifCond .ne 6, 3) := by decide +kernel
theorem dX9_breaks_53 : decode cX9_breaks 53 = .ok (.bipush (-4), 2) := by decide +kernel
theorem dX9_breaks_55 : decode cX9_breaks 55 = .ok (.ireturn, 1) := by decide +kernel
theorem dX9_breaks_56 : decode cX9_breaks 56 = .ok (.iload_n 1, 1) := by decide +kernel
theorem dX9_breaks_57 : decode cX9_breaks 57 = .ok (.iconst 1, 1) := by decide +kernel
theorem dX9_breaks_58 : decode cX9_breaks 58 = .ok (.if_icmp .ne 13, 3) := by decide +kernel
theorem dX9_breaks_61 : decode cX9_breaks 61 = .ok (.aload_n 0, 1) := by decide +kernel
theorem dX9_breaks_62 : decode cX9_breaks 62 = .ok (.getfield 67, 3) := by decide +kernel
theorem dX9_breaks_65 : decode cX9_breaks 65 = .ok (.getfield 291, 3) := by decide +kernel
theorem dX9_breaks_68 : decode cX9_breaks 68 = .ok (.goto 10, 3) := by decide +kernel
theorem dX9_breaks_71 : decode cX9_breaks 71 = .ok (.aload_n 0, 1) := by decide +kernel
theorem dX9_breaks_72 : decode cX9_breaks 72 = .ok (.getfield 67, 3) := by decide +kernel
theorem dX9_breaks_75 : decode cX9_breaks 75 = .ok (.getfield 294, 3) := by decide +kernel
theorem dX9_breaks_78 : decode cX9_breaks 78 = .ok (.ireturn, 1) := by decide +kernel
theorem dX9_known_0 : decode cX9_known 0 = .ok (.iload_n 1, 1) := by decide +kernel
theorem dX9_known_1 : decode cX9_known 1 = .ok (.ifCond .eq 10, 3) := by decide +kernel
theorem dX9_known_4 : decode cX9_known 4 = .ok (.iload_n 1, 1) := by decide +kernel
theorem dX9_known_5 : decode cX9_known 5 = .ok (.iconst 1, 1) := by decide +kernel
theorem dX9_known_6 : decode cX9_known 6 = .ok (.if_icmp .eq 5, 3) := by decide +kernel
theorem dX9_known_9 : decode cX9_known 9 = .ok (.iconst (-1), 1) := by decide +kernel
theorem dX9_known_10 : decode cX9_known 10 = .ok (.ireturn, 1) := by decide +kernel
theorem dX9_known_11 : decode cX9_known 11 = .ok (.aload_n 0, 1) := by decide +kernel
theorem dX9_known_12 : decode cX9_known 12 = .ok (.getfield 67, 3) := by decide +kernel
theorem dX9_known_15 : decode cX9_known 15 = .ok (.invokevirtual 282, 3) := by decide +kernel
theorem dX9_known_18 : decode cX9_known 18 = .ok (.aload_n 0, 1) := by decide +kernel
theorem dX9_known_19 : decode cX9_known 19 = .ok (.getfield 67, 3) := by decide +kernel
theorem dX9_known_22 : decode cX9_known 22 = .ok (.getfield 285, 3) := by decide +kernel
theorem dX9_known_25 : decode cX9_known 25 = .ok (.ifCond .ne 6, 3) := by decide +kernel
theorem dX9_known_28 : decode cX9_known 28 = .ok (.bipush (-4), 2) := by decide +kernel
theorem dX9_known_30 : decode cX9_known 30 = .ok (.ireturn, 1) := by decide +kernel
theorem dX9_known_31 : decode cX9_known 31 = .ok (.iload_n 1, 1) := by decide +kernel
theorem dX9_known_32 : decode cX9_known 32 = .ok (.ifCond .ne 13, 3) := by decide +kernel
theorem dX9_known_35 : decode cX9_known 35 = .ok (.aload_n 0, 1) := by decide +kernel
theorem dX9_known_36 : decode cX9_known 36 = .ok (.getfield 67, 3) := by decide +kernel
theorem dX9_known_39 : decode cX9_known 39 = .ok (.getfield 297, 3) := by decide +kernel
theorem dX9_known_42 : decode cX9_known 42 = .ok (.goto 20, 3) := by decide +kernel
theorem dX9_known_45 : decode cX9_known 45 = .ok (.aload_n 0, 1) := by decide +kernel
theorem dX9_known_46 : decode cX9_known 46 = .ok (.getfield 10, 3) := by decide +kernel
theorem dX9_known_49 : decode cX9_known 49 = .ok (.invokevirtual 300, 3) := by decide +kernel
theorem dX9_known_52 : decode cX9_known 52 = .ok (.aload_n 0, 1) := by decide +kernel
theorem dX9_known_53 : decode cX9_known 53 = .ok (.getfield 67, 3) := by decide +kernel
theorem dX9_known_56 : decode cX9_known 56 = .ok (.getfield 303, 3) := by decide +kernel
theorem dX9_known_59 : decode cX9_known 59 = .ok (.iconst (-1), 1) := by decide +kernel
theorem dX9_known_60 : decode cX9_known 60 = .ok (.ixor, 1) := by decide +kernel
theorem dX9_known_61 : decode cX9_known 61 = .ok (.iand, 1) := by decide +kernel
theorem dX9_known_62 : decode cX9_known 62 = .ok (.ireturn, 1) := by decide +kernel
theorem dX9_ask_0 : decode cX9_ask 0 = .ok (.iload_n 1, 1) := by decide +kernel
theorem dX9_ask_1 : decode cX9_ask 1 = .ok (.ifCond .eq 10, 3) := by decide +kernel
theorem dX9_ask_4 : decode cX9_ask 4 = .ok (.iload_n 1, 1) := by decide +kernel
theorem dX9_ask_5 : decode cX9_ask 5 = .ok (.iconst 1, 1) := by decide +kernel
theorem dX9_ask_6 : decode cX9_ask 6 = .ok (.if_icmp .eq 5, 3) := by decide +kernel
theorem dX9_ask_9 : decode cX9_ask 9 = .ok (.iconst (-1), 1) := by decide +kernel
theorem dX9_ask_10 : decode cX9_ask 10 = .ok (.ireturn, 1) := by decide +kernel
theorem dX9_ask_11 : decode cX9_ask 11 = .ok (.aload_n 0, 1) := by decide +kernel
theorem dX9_ask_12 : decode cX9_ask 12 = .ok (.getfield 67, 3) := by decide +kernel
theorem dX9_ask_15 : decode cX9_ask 15 = .ok (.invokevirtual 282, 3) := by decide +kernel
theorem dX9_ask_18 : decode cX9_ask 18 = .ok (.aload_n 0, 1) := by decide +kernel
theorem dX9_ask_19 : decode cX9_ask 19 = .ok (.getfield 67, 3) := by decide +kernel
theorem dX9_ask_22 : decode cX9_ask 22 = .ok (.invokevirtual 306, 3) := by decide +kernel
theorem dX9_ask_25 : decode cX9_ask 25 = .ok (.istore_n 2, 1) := by decide +kernel
theorem dX9_ask_26 : decode cX9_ask 26 = .ok (.iload_n 2, 1) := by decide +kernel
theorem dX9_ask_27 : decode cX9_ask 27 = .ok (.bipush (-4), 2) := by decide +kernel
theorem dX9_ask_29 : decode cX9_ask 29 = .ok (.if_icmp .eq 7, 3) := by decide +kernel
theorem dX9_ask_32 : decode cX9_ask 32 = .ok (.iload_n 1, 1) := by decide +kernel
theorem dX9_ask_33 : decode cX9_ask 33 = .ok (.ifCond .ne 7, 3) := by decide +kernel
theorem dX9_ask_36 : decode cX9_ask 36 = .ok (.iload_n 2, 1) := by decide +kernel
theorem dX9_ask_37 : decode cX9_ask 37 = .ok (.goto 11, 3) := by decide +kernel
theorem dX9_ask_40 : decode cX9_ask 40 = .ok (.aload_n 0, 1) := by decide +kernel
theorem dX9_ask_41 : decode cX9_ask 41 = .ok (.getfield 67, 3) := by decide +kernel
theorem dX9_ask_44 : decode cX9_ask 44 = .ok (.iload_n 2, 1) := by decide +kernel
theorem dX9_ask_45 : decode cX9_ask 45 = .ok (.invokevirtual 309, 3) := by decide +kernel
theorem dX9_ask_48 : decode cX9_ask 48 = .ok (.ireturn, 1) := by decide +kernel
theorem dX9_keep_0 : decode cX9_keep 0 = .ok (.iload_n 1, 1) := by decide +kernel
theorem dX9_keep_1 : decode cX9_keep 1 = .ok (.ifCond .lt 8, 3) := by decide +kernel
theorem dX9_keep_4 : decode cX9_keep 4 = .ok (.iload_n 1, 1) := by decide +kernel
theorem dX9_keep_5 : decode cX9_keep 5 = .ok (.iconst 2, 1) := by decide +kernel
theorem dX9_keep_6 : decode cX9_keep 6 = .ok (.if_icmp .lt 5, 3) := by decide +kernel
theorem dX9_keep_9 : decode cX9_keep 9 = .ok (.iconst (-1), 1) := by decide +kernel
theorem dX9_keep_10 : decode cX9_keep 10 = .ok (.ireturn, 1) := by decide +kernel
theorem dX9_keep_11 : decode cX9_keep 11 = .ok (.aload_n 0, 1) := by decide +kernel
theorem dX9_keep_12 : decode cX9_keep 12 = .ok (.getfield 82, 3) := by decide +kernel
theorem dX9_keep_15 : decode cX9_keep 15 = .ok (.iload_n 1, 1) := by decide +kernel
theorem dX9_keep_16 : decode cX9_keep 16 = .ok (.invokestatic 269, 3) := by decide +kernel
theorem dX9_keep_19 : decode cX9_keep 19 = .ok (.invokestatic 151, 3) := by decide +kernel
theorem dX9_keep_22 : decode cX9_keep 22 = .ok (.istore_n 2, 1) := by decide +kernel
theorem dX9_keep_23 : decode cX9_keep 23 = .ok (.aload_n 0, 1) := by decide +kernel
theorem dX9_keep_24 : decode cX9_keep 24 = .ok (.getfield 78, 3) := by decide +kernel
theorem dX9_keep_27 : decode cX9_keep 27 = .ok (.iload_n 1, 1) := by decide +kernel
theorem dX9_keep_28 : decode cX9_keep 28 = .ok (.aaload, 1) := by decide +kernel
theorem dX9_keep_29 : decode cX9_keep 29 = .ok (.aload_n 0, 1) := by decide +kernel
theorem dX9_keep_30 : decode cX9_keep 30 = .ok (.getfield 10, 3) := by decide +kernel
theorem dX9_keep_33 : decode cX9_keep 33 = .ok (.invokevirtual 107, 3) := by decide +kernel
theorem dX9_keep_36 : decode cX9_keep 36 = .ok (.aload_n 0, 1) := by decide +kernel
theorem dX9_keep_37 : decode cX9_keep 37 = .ok (.dup, 1) := by decide +kernel
theorem dX9_keep_38 : decode cX9_keep 38 = .ok (.getfield 82, 3) := by decide +kernel
theorem dX9_keep_41 : decode cX9_keep 41 = .ok (.iconst 1, 1) := by decide +kernel
theorem dX9_keep_42 : decode cX9_keep 42 = .ok (.iload_n 1, 1) := by decide +kernel
theorem dX9_keep_43 : decode cX9_keep 43 = .ok (.ishl, 1) := by decide +kernel
theorem dX9_keep_44 : decode cX9_keep 44 = .ok (.ior, 1) := by decide +kernel
theorem dX9_keep_45 : decode cX9_keep 45 = .ok (.putfield 82, 3) := by decide +kernel
theorem dX9_keep_48 : decode cX9_keep 48 = .ok (.iload_n 2, 1) := by decide +kernel
theorem dX9_keep_49 : decode cX9_keep 49 = .ok (.ireturn, 1) := by decide +kernel
theorem dX9_back_0 : decode cX9_back 0 = .ok (.iload_n 1, 1) := by decide +kernel
theorem dX9_back_1 : decode cX9_back 1 = .ok (.ifCond .lt 8, 3) := by decide +kernel
theorem dX9_back_4 : decode cX9_back 4 = .ok (.iload_n 1, 1) := by decide +kernel
theorem dX9_back_5 : decode cX9_back 5 = .ok (.iconst 2, 1) := by decide +kernel
theorem dX9_back_6 : decode cX9_back 6 = .ok (.if_icmp .lt 5, 3) := by decide +kernel
theorem dX9_back_9 : decode cX9_back 9 = .ok (.iconst (-1), 1) := by decide +kernel
theorem dX9_back_10 : decode cX9_back 10 = .ok (.ireturn, 1) := by decide +kernel
theorem dX9_back_11 : decode cX9_back 11 = .ok (.aload_n 0, 1) := by decide +kernel
theorem dX9_back_12 : decode cX9_back 12 = .ok (.getfield 82, 3) := by decide +kernel
theorem dX9_back_15 : decode cX9_back 15 = .ok (.iload_n 1, 1) := by decide +kernel
theorem dX9_back_16 : decode cX9_back 16 = .ok (.invokestatic 269, 3) := by decide +kernel
theorem dX9_back_19 : decode cX9_back 19 = .ok (.ifCond .ne 6, 3) := by decide +kernel
theorem dX9_back_22 : decode cX9_back 22 = .ok (.bipush (-2), 2) := by decide +kernel
theorem dX9_back_24 : decode cX9_back 24 = .ok (.ireturn, 1) := by decide +kernel
theorem dX9_back_25 : decode cX9_back 25 = .ok (.aload_n 0, 1) := by decide +kernel
theorem dX9_back_26 : decode cX9_back 26 = .ok (.getfield 10, 3) := by decide +kernel
theorem dX9_back_29 : decode cX9_back 29 = .ok (.aload_n 0, 1) := by decide +kernel
theorem dX9_back_30 : decode cX9_back 30 = .ok (.getfield 78, 3) := by decide +kernel
theorem dX9_back_33 : decode cX9_back 33 = .ok (.iload_n 1, 1) := by decide +kernel
theorem dX9_back_34 : decode cX9_back 34 = .ok (.aaload, 1) := by decide +kernel
theorem dX9_back_35 : decode cX9_back 35 = .ok (.invokevirtual 107, 3) := by decide +kernel
theorem dX9_back_38 : decode cX9_back 38 = .ok (.aload_n 0, 1) := by decide +kernel
theorem dX9_back_39 : decode cX9_back 39 = .ok (.getfield 10, 3) := by decide +kernel
theorem dX9_back_42 : decode cX9_back 42 = .ok (.getfield 119, 3) := by decide +kernel
theorem dX9_back_45 : decode cX9_back 45 = .ok (.ireturn, 1) := by decide +kernel
theorem dX9_sheet_0 : decode cX9_sheet 0 = .ok (.aload_n 0, 1) := by decide +kernel
theorem dX9_sheet_1 : decode cX9_sheet 1 = .ok (.getfield 74, 3) := by decide +kernel
theorem dX9_sheet_4 : decode cX9_sheet 4 = .ok (.iload_n 1, 1) := by decide +kernel
theorem dX9_sheet_5 : decode cX9_sheet 5 = .ok (.invokevirtual 312, 3) := by decide +kernel
theorem dX9_sheet_8 : decode cX9_sheet 8 = .ok (.ifCond .eq 20, 3) := by decide +kernel
theorem dX9_sheet_11 : decode cX9_sheet 11 = .ok (.aload_n 0, 1) := by decide +kernel
theorem dX9_sheet_12 : decode cX9_sheet 12 = .ok (.getfield 74, 3) := by decide +kernel
theorem dX9_sheet_15 : decode cX9_sheet 15 = .ok (.iload_n 2, 1) := by decide +kernel
theorem dX9_sheet_16 : decode cX9_sheet 16 = .ok (.invokevirtual 315, 3) := by decide +kernel
theorem dX9_sheet_19 : decode cX9_sheet 19 = .ok (.ifCond .eq 9, 3) := by decide +kernel
theorem dX9_sheet_22 : decode cX9_sheet 22 = .ok (.iload_n 3, 1) := by decide +kernel
theorem dX9_sheet_23 : decode cX9_sheet 23 = .ok (.bipush 40, 2) := by decide +kernel
theorem dX9_sheet_25 : decode cX9_sheet 25 = .ok (.if_icmp .le 5, 3) := by decide +kernel
theorem dX9_sheet_28 : decode cX9_sheet 28 = .ok (.iconst (-1), 1) := by decide +kernel
theorem dX9_sheet_29 : decode cX9_sheet 29 = .ok (.ireturn, 1) := by decide +kernel
theorem dX9_sheet_30 : decode cX9_sheet 30 = .ok (.iload_n 3, 1) := by decide +kernel
theorem dX9_sheet_31 : decode cX9_sheet 31 = .ok (.ifCond .ge 6, 3) := by decide +kernel
theorem dX9_sheet_34 : decode cX9_sheet 34 = .ok (.bipush (-14), 2) := by decide +kernel
theorem dX9_sheet_36 : decode cX9_sheet 36 = .ok (.ireturn, 1) := by decide +kernel
theorem dX9_sheet_37 : decode cX9_sheet 37 = .ok (.aload_n 0, 1) := by decide +kernel
theorem dX9_sheet_38 : decode cX9_sheet 38 = .ok (.getfield 74, 3) := by decide +kernel
theorem dX9_sheet_41 : decode cX9_sheet 41 = .ok (.iload_n 1, 1) := by decide +kernel
theorem dX9_sheet_42 : decode cX9_sheet 42 = .ok (.iload_n 2, 1) := by decide +kernel
theorem dX9_sheet_43 : decode cX9_sheet 43 = .ok (.iload_n 3, 1) := by decide +kernel
theorem dX9_sheet_44 : decode cX9_sheet 44 = .ok (.invokevirtual 318, 3) := by decide +kernel
theorem dX9_sheet_47 : decode cX9_sheet 47 = .ok (.iconst 1, 1) := by decide +kernel
theorem dX9_sheet_48 : decode cX9_sheet 48 = .ok (.ireturn, 1) := by decide +kernel
theorem dX9_lay_0 : decode cX9_lay 0 = .ok (.aload_n 0, 1) := by decide +kernel
theorem dX9_lay_1 : decode cX9_lay 1 = .ok (.getfield 74, 3) := by decide +kernel
theorem dX9_lay_4 : decode cX9_lay 4 = .ok (.iload_n 1, 1) := by decide +kernel
theorem dX9_lay_5 : decode cX9_lay 5 = .ok (.invokevirtual 312, 3) := by decide +kernel
theorem dX9_lay_8 : decode cX9_lay 8 = .ok (.ifCond .ne 5, 3) := by decide +kernel
theorem dX9_lay_11 : decode cX9_lay 11 = .ok (.iconst (-1), 1) := by decide +kernel
theorem dX9_lay_12 : decode cX9_lay 12 = .ok (.ireturn, 1) := by decide +kernel
theorem dX9_lay_13 : decode cX9_lay 13 = .ok (.aload_n 0, 1) := by decide +kernel
theorem dX9_lay_14 : decode cX9_lay 14 = .ok (.getfield 74, 3) := by decide +kernel
theorem dX9_lay_17 : decode cX9_lay 17 = .ok (.iload_n 1, 1) := by decide +kernel
theorem dX9_lay_18 : decode cX9_lay 18 = .ok (.invokevirtual 322, 3) := by decide +kernel
theorem dX9_lay_21 : decode cX9_lay 21 = .ok (.ifCond .eq 6, 3) := by decide +kernel
theorem dX9_lay_24 : decode cX9_lay 24 = .ok (.bipush (-11), 2) := by decide +kernel
theorem dX9_lay_26 : decode cX9_lay 26 = .ok (.ireturn, 1) := by decide +kernel
theorem dX9_lay_27 : decode cX9_lay 27 = .ok (.aload_n 0, 1) := by decide +kernel
theorem dX9_lay_28 : decode cX9_lay 28 = .ok (.getfield 74, 3) := by decide +kernel
theorem dX9_lay_31 : decode cX9_lay 31 = .ok (.iload_n 1, 1) := by decide +kernel
theorem dX9_lay_32 : decode cX9_lay 32 = .ok (.iload_n 2, 1) := by decide +kernel
theorem dX9_lay_33 : decode cX9_lay 33 = .ok (.invokevirtual 325, 3) := by decide +kernel
theorem dX9_lay_36 : decode cX9_lay 36 = .ok (.ifCond .ne 6, 3) := by decide +kernel
theorem dX9_lay_39 : decode cX9_lay 39 = .ok (.bipush (-12), 2) := by decide +kernel
theorem dX9_lay_41 : decode cX9_lay 41 = .ok (.ireturn, 1) := by decide +kernel
theorem dX9_lay_42 : decode cX9_lay 42 = .ok (.aload_n 0, 1) := by decide +kernel
theorem dX9_lay_43 : decode cX9_lay 43 = .ok (.getfield 74, 3) := by decide +kernel
theorem dX9_lay_46 : decode cX9_lay 46 = .ok (.iload_n 1, 1) := by decide +kernel
theorem dX9_lay_47 : decode cX9_lay 47 = .ok (.iload_n 2, 1) := by decide +kernel
theorem dX9_lay_48 : decode cX9_lay 48 = .ok (.iload_n 3, 1) := by decide +kernel
theorem dX9_lay_49 : decode cX9_lay 49 = .ok (.invokevirtual 328, 3) := by decide +kernel
theorem dX9_lay_52 : decode cX9_lay 52 = .ok (.iconst 1, 1) := by decide +kernel
theorem dX9_lay_53 : decode cX9_lay 53 = .ok (.ireturn, 1) := by decide +kernel
theorem dX9_read_0 : decode cX9_read 0 = .ok (.aload_n 0, 1) := by decide +kernel
theorem dX9_read_1 : decode cX9_read 1 = .ok (.getfield 74, 3) := by decide +kernel
theorem dX9_read_4 : decode cX9_read 4 = .ok (.iload_n 1, 1) := by decide +kernel
theorem dX9_read_5 : decode cX9_read 5 = .ok (.invokevirtual 312, 3) := by decide +kernel
theorem dX9_read_8 : decode cX9_read 8 = .ok (.ifCond .eq 26, 3) := by decide +kernel
theorem dX9_read_11 : decode cX9_read 11 = .ok (.aload_n 0, 1) := by decide +kernel
theorem dX9_read_12 : decode cX9_read 12 = .ok (.getfield 74, 3) := by decide +kernel
theorem dX9_read_15 : decode cX9_read 15 = .ok (.iload_n 2, 1) := by decide +kernel
theorem dX9_read_16 : decode cX9_read 16 = .ok (.invokevirtual 315, 3) := by decide +kernel
theorem dX9_read_19 : decode cX9_read 19 = .ok (.ifCond .eq 15, 3) := by decide +kernel
theorem dX9_read_22 : decode cX9_read 22 = .ok (.iload 4, 2) := by decide +kernel
theorem dX9_read_24 : decode cX9_read 24 = .ok (.ifCond .lt 10, 3) := by decide +kernel
theorem dX9_read_27 : decode cX9_read 27 = .ok (.iload 4, 2) := by decide +kernel
theorem dX9_read_29 : decode cX9_read 29 = .ok (.bipush 8, 2) := by decide +kernel
theorem dX9_read_31 : decode cX9_read 31 = .ok (.if_icmp .le 5, 3) := by decide +kernel
theorem dX9_read_34 : decode cX9_read 34 = .ok (.iconst (-1), 1) := by decide +kernel
theorem dX9_read_35 : decode cX9_read 35 = .ok (.ireturn, 1) := by decide +kernel
theorem dX9_read_36 : decode cX9_read 36 = .ok (.aload_n 0, 1) := by decide +kernel
theorem dX9_read_37 : decode cX9_read 37 = .ok (.getfield 10, 3) := by decide +kernel
theorem dX9_read_40 : decode cX9_read 40 = .ok (.getfield 279, 3) := by decide +kernel
theorem dX9_read_43 : decode cX9_read 43 = .ok (.istore 5, 2) := by decide +kernel
theorem dX9_read_45 : decode cX9_read 45 = .ok (.iload 4, 2) := by decide +kernel
theorem dX9_read_47 : decode cX9_read 47 = .ok (.ifCond .ne 7, 3) := by decide +kernel
theorem dX9_read_50 : decode cX9_read 50 = .ok (.iconst 0, 1) := by decide +kernel
theorem dX9_read_51 : decode cX9_read 51 = .ok (.goto 12, 3) := by decide +kernel
theorem dX9_read_54 : decode cX9_read 54 = .ok (.aload_n 0, 1) := by decide +kernel
theorem dX9_read_55 : decode cX9_read 55 = .ok (.getfield 74, 3) := by decide +kernel
theorem dX9_read_58 : decode cX9_read 58 = .ok (.iload_n 1, 1) := by decide +kernel
theorem dX9_read_59 : decode cX9_read 59 = .ok (.iload_n 2, 1) := by decide +kernel
theorem dX9_read_60 : decode cX9_read 60 = .ok (.invokevirtual 331, 3) := by decide +kernel
theorem dX9_read_63 : decode cX9_read 63 = .ok (.istore 6, 2) := by decide +kernel
theorem dX9_read_65 : decode cX9_read 65 = .ok (.iconst 0, 1) := by decide +kernel
theorem dX9_read_66 : decode cX9_read 66 = .ok (.istore 7, 2) := by decide +kernel
theorem dX9_read_68 : decode cX9_read 68 = .ok (.iload 7, 2) := by decide +kernel
theorem dX9_read_70 : decode cX9_read 70 = .ok (.iload 4, 2) := by decide +kernel
theorem dX9_read_72 : decode cX9_read 72 = .ok (.if_icmp .ge 66, 3) := by decide +kernel
theorem dX9_read_75 : decode cX9_read 75 = .ok (.iload 6, 2) := by decide +kernel
theorem dX9_read_77 : decode cX9_read 77 = .ok (.ifCond .ne 61, 3) := by decide +kernel
theorem dX9_read_80 : decode cX9_read 80 = .ok (.aload_n 0, 1) := by decide +kernel
theorem dX9_read_81 : decode cX9_read 81 = .ok (.getfield 74, 3) := by decide +kernel
theorem dX9_read_84 : decode cX9_read 84 = .ok (.iload_n 1, 1) := by decide +kernel
theorem dX9_read_85 : decode cX9_read 85 = .ok (.iload_n 3, 1) := by decide +kernel
theorem dX9_read_86 : decode cX9_read 86 = .ok (.iconst 2, 1) := by decide +kernel
theorem dX9_read_87 : decode cX9_read 87 = .ok (.iload 7, 2) := by decide +kernel
theorem dX9_read_89 : decode cX9_read 89 = .ok (.imul, 1) := by decide +kernel
theorem dX9_read_90 : decode cX9_read 90 = .ok (.iadd, 1) := by decide +kernel
theorem dX9_read_91 : decode cX9_read 91 = .ok (.invokevirtual 334, 3) := by decide +kernel
theorem dX9_read_94 : decode cX9_read 94 = .ok (.ifCond .ne 9, 3) := by decide +kernel
theorem dX9_read_97 : decode cX9_read 97 = .ok (.iconst 2, 1) := by decide +kernel
theorem dX9_read_98 : decode cX9_read 98 = .ok (.istore 6, 2) := by decide +kernel
theorem dX9_read_100 : decode cX9_read 100 = .ok (.goto 32, 3) := by decide +kernel
theorem dX9_read_103 : decode cX9_read 103 = .ok (.aload_n 0, 1) := by decide +kernel
theorem dX9_read_104 : decode cX9_read 104 = .ok (.iload_n 1, 1) := by decide +kernel
theorem dX9_read_105 : decode cX9_read 105 = .ok (.iload_n 3, 1) := by decide +kernel
theorem dX9_read_106 : decode cX9_read 106 = .ok (.iconst 2, 1) := by decide +kernel
theorem dX9_read_107 : decode cX9_read 107 = .ok (.iload 7, 2) := by decide +kernel
theorem dX9_read_109 : decode cX9_read 109 = .ok (.imul, 1) := by decide +kernel
theorem dX9_read_110 : decode cX9_read 110 = .ok (.iadd, 1) := by decide +kernel
theorem dX9_read_111 : decode cX9_read 111 = .ok (.invokevirtual 337, 3) := by decide +kernel
theorem dX9_read_114 : decode cX9_read 114 = .ok (.ifCond .ne 18, 3) := by decide +kernel
theorem dX9_read_117 : decode cX9_read 117 = .ok (.aload_n 0, 1) := by decide +kernel
theorem dX9_read_118 : decode cX9_read 118 = .ok (.getfield 10, 3) := by decide +kernel
theorem dX9_read_121 : decode cX9_read 121 = .ok (.iload 5, 2) := by decide +kernel
theorem dX9_read_123 : decode cX9_read 123 = .ok (.putfield 279, 3) := by decide +kernel
theorem dX9_read_126 : decode cX9_read 126 = .ok (.bipush (-20), 2) := by decide +kernel
theorem dX9_read_128 : decode cX9_read 128 = .ok (.iload 7, 2) := by decide +kernel
theorem dX9_read_130 : decode cX9_read 130 = .ok (.isub, 1) := by decide +kernel
theorem dX9_read_131 : decode cX9_read 131 = .ok (.ireturn, 1) := by decide +kernel
theorem dX9_read_132 : decode cX9_read 132 = .ok (.iinc 7 1, 3) := by decide +kernel
theorem dX9_read_135 : decode cX9_read 135 = .ok (.goto (-67), 3) := by decide +kernel
theorem dX9_read_138 : decode cX9_read 138 = .ok (.aload_n 0, 1) := by decide +kernel
theorem dX9_read_139 : decode cX9_read 139 = .ok (.iload 6, 2) := by decide +kernel
theorem dX9_read_141 : decode cX9_read 141 = .ok (.putfield 86, 3) := by decide +kernel
theorem dX9_read_144 : decode cX9_read 144 = .ok (.aload_n 0, 1) := by decide +kernel
theorem dX9_read_145 : decode cX9_read 145 = .ok (.getfield 10, 3) := by decide +kernel
theorem dX9_read_148 : decode cX9_read 148 = .ok (.getfield 279, 3) := by decide +kernel
theorem dX9_read_151 : decode cX9_read 151 = .ok (.iload 5, 2) := by decide +kernel
theorem dX9_read_153 : decode cX9_read 153 = .ok (.isub, 1) := by decide +kernel
theorem dX9_read_154 : decode cX9_read 154 = .ok (.ireturn, 1) := by decide +kernel
theorem dX9_torn_0 : decode cX9_torn 0 = .ok (.aload_n 0, 1) := by decide +kernel
theorem dX9_torn_1 : decode cX9_torn 1 = .ok (.getfield 86, 3) := by decide +kernel
theorem dX9_torn_4 : decode cX9_torn 4 = .ok (.ireturn, 1) := by decide +kernel
theorem dX9_count_0 : decode cX9_count 0 = .ok (.iload_n 1, 1) := by decide +kernel
theorem dX9_count_1 : decode cX9_count 1 = .ok (.tableswitch 95 0 4 #[35, 46, 54, 62, 70], 35) := by decide +kernel
theorem dX9_count_36 : decode cX9_count 36 = .ok (.aload_n 0, 1) := by decide +kernel
theorem dX9_count_37 : decode cX9_count 37 = .ok (.getfield 10, 3) := by decide +kernel
theorem dX9_count_40 : decode cX9_count 40 = .ok (.invokevirtual 179, 3) := by decide +kernel
theorem dX9_count_43 : decode cX9_count 43 = .ok (.invokestatic 257, 3) := by decide +kernel
theorem dX9_count_46 : decode cX9_count 46 = .ok (.ireturn, 1) := by decide +kernel
theorem dX9_count_47 : decode cX9_count 47 = .ok (.aload_n 0, 1) := by decide +kernel
theorem dX9_count_48 : decode cX9_count 48 = .ok (.getfield 10, 3) := by decide +kernel
theorem dX9_count_51 : decode cX9_count 51 = .ok (.getfield 279, 3) := by decide +kernel
theorem dX9_count_54 : decode cX9_count 54 = .ok (.ireturn, 1) := by decide +kernel
theorem dX9_count_55 : decode cX9_count 55 = .ok (.aload_n 0, 1) := by decide +kernel
theorem dX9_count_56 : decode cX9_count 56 = .ok (.getfield 82, 3) := by decide +kernel
theorem dX9_count_59 : decode cX9_count 59 = .ok (.invokestatic 257, 3) := by decide +kernel
theorem dX9_count_62 : decode cX9_count 62 = .ok (.ireturn, 1) := by decide +kernel
theorem dX9_count_63 : decode cX9_count 63 = .ok (.aload_n 0, 1) := by decide +kernel
theorem dX9_count_64 : decode cX9_count 64 = .ok (.getfield 19, 3) := by decide +kernel
theorem dX9_count_67 : decode cX9_count 67 = .ok (.getfield 340, 3) := by decide +kernel
theorem dX9_count_70 : decode cX9_count 70 = .ok (.ireturn, 1) := by decide +kernel
theorem dX9_count_71 : decode cX9_count 71 = .ok (.aload_n 0, 1) := by decide +kernel
theorem dX9_count_72 : decode cX9_count 72 = .ok (.getfield 74, 3) := by decide +kernel
theorem dX9_count_75 : decode cX9_count 75 = .ok (.iconst 0, 1) := by decide +kernel
theorem dX9_count_76 : decode cX9_count 76 = .ok (.invokevirtual 322, 3) := by decide +kernel
theorem dX9_count_79 : decode cX9_count 79 = .ok (.ifCond .eq 8, 3) := by decide +kernel
theorem dX9_count_82 : decode cX9_count 82 = .ok (.bipush (-4), 2) := by decide +kernel
theorem dX9_count_84 : decode cX9_count 84 = .ok (.goto 11, 3) := by decide +kernel
theorem dX9_count_87 : decode cX9_count 87 = .ok (.aload_n 0, 1) := by decide +kernel
theorem dX9_count_88 : decode cX9_count 88 = .ok (.getfield 74, 3) := by decide +kernel
theorem dX9_count_91 : decode cX9_count 91 = .ok (.iconst 0, 1) := by decide +kernel
theorem dX9_count_92 : decode cX9_count 92 = .ok (.invokevirtual 343, 3) := by decide +kernel
theorem dX9_count_95 : decode cX9_count 95 = .ok (.ireturn, 1) := by decide +kernel
theorem dX9_count_96 : decode cX9_count 96 = .ok (.iconst (-1), 1) := by decide +kernel
theorem dX9_count_97 : decode cX9_count 97 = .ok (.ireturn, 1) := by decide +kernel
theorem dX9_hearCells_0 : decode cX9_hearCells 0 = .ok (.aload_n 0, 1) := by decide +kernel
theorem dX9_hearCells_1 : decode cX9_hearCells 1 = .ok (.getfield 74, 3) := by decide +kernel
theorem dX9_hearCells_4 : decode cX9_hearCells 4 = .ok (.iload_n 1, 1) := by decide +kernel
theorem dX9_hearCells_5 : decode cX9_hearCells 5 = .ok (.iload_n 2, 1) := by decide +kernel
theorem dX9_hearCells_6 : decode cX9_hearCells 6 = .ok (.iconst 1, 1) := by decide +kernel
theorem dX9_hearCells_7 : decode cX9_hearCells 7 = .ok (.iadd, 1) := by decide +kernel
theorem dX9_hearCells_8 : decode cX9_hearCells 8 = .ok (.invokevirtual 346, 3) := by decide +kernel
theorem dX9_hearCells_11 : decode cX9_hearCells 11 = .ok (.istore_n 3, 1) := by decide +kernel
theorem dX9_hearCells_12 : decode cX9_hearCells 12 = .ok (.iload_n 3, 1) := by decide +kernel
theorem dX9_hearCells_13 : decode cX9_hearCells 13 = .ok (.ifCond .eq 10, 3) := by decide +kernel
theorem dX9_hearCells_16 : decode cX9_hearCells 16 = .ok (.iload_n 3, 1) := by decide +kernel
theorem dX9_hearCells_17 : decode cX9_hearCells 17 = .ok (.iconst 1, 1) := by decide +kernel
theorem dX9_hearCells_18 : decode cX9_hearCells 18 = .ok (.if_icmp .eq 5, 3) := by decide +kernel
theorem dX9_hearCells_21 : decode cX9_hearCells 21 = .ok (.iconst 0, 1) := by decide +kernel
theorem dX9_hearCells_22 : decode cX9_hearCells 22 = .ok (.ireturn, 1) := by decide +kernel
theorem dX9_hearCells_23 : decode cX9_hearCells 23 = .ok (.aload_n 0, 1) := by decide +kernel
theorem dX9_hearCells_24 : decode cX9_hearCells 24 = .ok (.getfield 10, 3) := by decide +kernel
theorem dX9_hearCells_27 : decode cX9_hearCells 27 = .ok (.aload_n 0, 1) := by decide +kernel
theorem dX9_hearCells_28 : decode cX9_hearCells 28 = .ok (.getfield 74, 3) := by decide +kernel
theorem dX9_hearCells_31 : decode cX9_hearCells 31 = .ok (.iload_n 1, 1) := by decide +kernel
theorem dX9_hearCells_32 : decode cX9_hearCells 32 = .ok (.iload_n 2, 1) := by decide +kernel
theorem dX9_hearCells_33 : decode cX9_hearCells 33 = .ok (.invokevirtual 346, 3) := by decide +kernel
theorem dX9_hearCells_36 : decode cX9_hearCells 36 = .ok (.iload_n 3, 1) := by decide +kernel
theorem dX9_hearCells_37 : decode cX9_hearCells 37 = .ok (.iconst 1, 1) := by decide +kernel
theorem dX9_hearCells_38 : decode cX9_hearCells 38 = .ok (.if_icmp .ne 7, 3) := by decide +kernel
theorem dX9_hearCells_41 : decode cX9_hearCells 41 = .ok (.iconst 1, 1) := by decide +kernel
theorem dX9_hearCells_42 : decode cX9_hearCells 42 = .ok (.goto 4, 3) := by decide +kernel
theorem dX9_hearCells_45 : decode cX9_hearCells 45 = .ok (.iconst 0, 1) := by decide +kernel
theorem dX9_hearCells_46 : decode cX9_hearCells 46 = .ok (.invokevirtual 276, 3) := by decide +kernel
theorem dX9_hearCells_49 : decode cX9_hearCells 49 = .ok (.ifCond .le 7, 3) := by decide +kernel
theorem dX9_hearCells_52 : decode cX9_hearCells 52 = .ok (.iconst 1, 1) := by decide +kernel
theorem dX9_hearCells_53 : decode cX9_hearCells 53 = .ok (.goto 4, 3) := by decide +kernel
theorem dX9_hearCells_56 : decode cX9_hearCells 56 = .ok (.iconst 0, 1) := by decide +kernel
theorem dX9_hearCells_57 : decode cX9_hearCells 57 = .ok (.ireturn, 1) := by decide +kernel
theorem dX9_isRainQuarter_0 : decode cX9_isRainQuarter 0 = .ok (.iload_n 0, 1) := by decide +kernel
theorem dX9_isRainQuarter_1 : decode cX9_isRainQuarter 1 = .ok (.iconst 1, 1) := by decide +kernel
theorem dX9_isRainQuarter_2 : decode cX9_isRainQuarter 2 = .ok (.if_icmp .lt 13, 3) := by decide +kernel
theorem dX9_isRainQuarter_5 : decode cX9_isRainQuarter 5 = .ok (.iload_n 0, 1) := by decide +kernel
theorem dX9_isRainQuarter_6 : decode cX9_isRainQuarter 6 = .ok (.bipush 40, 2) := by decide +kernel
theorem dX9_isRainQuarter_8 : decode cX9_isRainQuarter 8 = .ok (.if_icmp .gt 7, 3) := by decide +kernel
theorem dX9_isRainQuarter_11 : decode cX9_isRainQuarter 11 = .ok (.iconst 1, 1) := by decide +kernel
theorem dX9_isRainQuarter_12 : decode cX9_isRainQuarter 12 = .ok (.goto 4, 3) := by decide +kernel
theorem dX9_isRainQuarter_15 : decode cX9_isRainQuarter 15 = .ok (.iconst 0, 1) := by decide +kernel
theorem dX9_isRainQuarter_16 : decode cX9_isRainQuarter 16 = .ok (.ireturn, 1) := by decide +kernel
theorem dX9_isQuarterBehind_0 : decode cX9_isQuarterBehind 0 = .ok (.iload_n 0, 1) := by decide +kernel
theorem dX9_isQuarterBehind_1 : decode cX9_isQuarterBehind 1 = .ok (.ifCond .lt 13, 3) := by decide +kernel
theorem dX9_isQuarterBehind_4 : decode cX9_isQuarterBehind 4 = .ok (.iload_n 0, 1) := by decide +kernel
theorem dX9_isQuarterBehind_5 : decode cX9_isQuarterBehind 5 = .ok (.bipush 60, 2) := by decide +kernel
theorem dX9_isQuarterBehind_7 : decode cX9_isQuarterBehind 7 = .ok (.if_icmp .gt 7, 3) := by decide +kernel
theorem dX9_isQuarterBehind_10 : decode cX9_isQuarterBehind 10 = .ok (.iconst 1, 1) := by decide +kernel
theorem dX9_isQuarterBehind_11 : decode cX9_isQuarterBehind 11 = .ok (.goto 4, 3) := by decide +kernel
theorem dX9_isQuarterBehind_14 : decode cX9_isQuarterBehind 14 = .ok (.iconst 0, 1) := by decide +kernel
theorem dX9_isQuarterBehind_15 : decode cX9_isQuarterBehind 15 = .ok (.ireturn, 1) := by decide +kernel
theorem dX9_isWayQuestion_0 : decode cX9_isWayQuestion 0 = .ok (.iload_n 0, 1) := by decide +kernel
theorem dX9_isWayQuestion_1 : decode cX9_isWayQuestion 1 = .ok (.ifCond .eq 20, 3) := by decide +kernel
theorem dX9_isWayQuestion_4 : decode cX9_isWayQuestion 4 = .ok (.iload_n 0, 1) := by decide +kernel
theorem dX9_isWayQuestion_5 : decode cX9_isWayQuestion 5 = .ok (.iconst 1, 1) := by decide +kernel
theorem dX9_isWayQuestion_6 : decode cX9_isWayQuestion 6 = .ok (.if_icmp .eq 15, 3) := by decide +kernel
theorem dX9_isWayQuestion_9 : decode cX9_isWayQuestion 9 = .ok (.iload_n 0, 1) := by decide +kernel
theorem dX9_isWayQuestion_10 : decode cX9_isWayQuestion 10 = .ok (.bipush 10, 2) := by decide +kernel
theorem dX9_isWayQuestion_12 : decode cX9_isWayQuestion 12 = .ok (.if_icmp .lt 13, 3) := by decide +kernel
theorem dX9_isWayQuestion_15 : decode cX9_isWayQuestion 15 = .ok (.iload_n 0, 1) := by decide +kernel
theorem dX9_isWayQuestion_16 : decode cX9_isWayQuestion 16 = .ok (.bipush 18, 2) := by decide +kernel
theorem dX9_isWayQuestion_18 : decode cX9_isWayQuestion 18 = .ok (.if_icmp .gt 7, 3) := by decide +kernel
theorem dX9_isWayQuestion_21 : decode cX9_isWayQuestion 21 = .ok (.iconst 1, 1) := by decide +kernel
theorem dX9_isWayQuestion_22 : decode cX9_isWayQuestion 22 = .ok (.goto 4, 3) := by decide +kernel
theorem dX9_isWayQuestion_25 : decode cX9_isWayQuestion 25 = .ok (.iconst 0, 1) := by decide +kernel
theorem dX9_isWayQuestion_26 : decode cX9_isWayQuestion 26 = .ok (.ireturn, 1) := by decide +kernel
theorem dX9_bit_0 : decode cX9_bit 0 = .ok (.iload_n 0, 1) := by decide +kernel
theorem dX9_bit_1 : decode cX9_bit 1 = .ok (.ifCond .eq 7, 3) := by decide +kernel
theorem dX9_bit_4 : decode cX9_bit 4 = .ok (.iconst 1, 1) := by decide +kernel
theorem dX9_bit_5 : decode cX9_bit 5 = .ok (.goto 4, 3) := by decide +kernel
theorem dX9_bit_8 : decode cX9_bit 8 = .ok (.iconst 0, 1) := by decide +kernel
theorem dX9_bit_9 : decode cX9_bit 9 = .ok (.ireturn, 1) := by decide +kernel
theorem dX9_has_0 : decode cX9_has 0 = .ok (.iload_n 0, 1) := by decide +kernel
theorem dX9_has_1 : decode cX9_has 1 = .ok (.iload_n 1, 1) := by decide +kernel
theorem dX9_has_2 : decode cX9_has 2 = .ok (.ishr, 1) := by decide +kernel
theorem dX9_has_3 : decode cX9_has 3 = .ok (.iconst 1, 1) := by decide +kernel
theorem dX9_has_4 : decode cX9_has 4 = .ok (.iand, 1) := by decide +kernel
theorem dX9_has_5 : decode cX9_has 5 = .ok (.ifCond .eq 7, 3) := by decide +kernel
theorem dX9_has_8 : decode cX9_has 8 = .ok (.iconst 1, 1) := by decide +kernel
theorem dX9_has_9 : decode cX9_has 9 = .ok (.goto 4, 3) := by decide +kernel
theorem dX9_has_12 : decode cX9_has 12 = .ok (.iconst 0, 1) := by decide +kernel
theorem dX9_has_13 : decode cX9_has 13 = .ok (.ireturn, 1) := by decide +kernel
theorem dX10_in_0 : decode cX10_in 0 = .ok (.lload_n 0, 1) := by decide +kernel
theorem dX10_in_1 : decode cX10_in 1 = .ok (.lload_n 2, 1) := by decide +kernel
theorem dX10_in_2 : decode cX10_in 2 = .ok (.lcmp, 1) := by decide +kernel
theorem dX10_in_3 : decode cX10_in 3 = .ok (.ifCond .lt 14, 3) := by decide +kernel
theorem dX10_in_6 : decode cX10_in 6 = .ok (.lload_n 0, 1) := by decide +kernel
theorem dX10_in_7 : decode cX10_in 7 = .ok (.lload 4, 2) := by decide +kernel
theorem dX10_in_9 : decode cX10_in 9 = .ok (.lcmp, 1) := by decide +kernel
theorem dX10_in_10 : decode cX10_in 10 = .ok (.ifCond .gt 7, 3) := by decide +kernel
theorem dX10_in_13 : decode cX10_in 13 = .ok (.iconst 1, 1) := by decide +kernel
theorem dX10_in_14 : decode cX10_in 14 = .ok (.goto 4, 3) := by decide +kernel
theorem dX10_in_17 : decode cX10_in 17 = .ok (.iconst 0, 1) := by decide +kernel
theorem dX10_in_18 : decode cX10_in 18 = .ok (.ireturn, 1) := by decide +kernel
theorem dX10_flag_0 : decode cX10_flag 0 = .ok (.iload_n 0, 1) := by decide +kernel
theorem dX10_flag_1 : decode cX10_flag 1 = .ok (.ifCond .eq 7, 3) := by decide +kernel
theorem dX10_flag_4 : decode cX10_flag 4 = .ok (.iconst 1, 1) := by decide +kernel
theorem dX10_flag_5 : decode cX10_flag 5 = .ok (.goto 4, 3) := by decide +kernel
theorem dX10_flag_8 : decode cX10_flag 8 = .ok (.iconst 0, 1) := by decide +kernel
theorem dX10_flag_9 : decode cX10_flag 9 = .ok (.ireturn, 1) := by decide +kernel
theorem dX10_bitsOf_0 : decode cX10_bitsOf 0 = .ok (.iconst 0, 1) := by decide +kernel
theorem dX10_bitsOf_1 : decode cX10_bitsOf 1 = .ok (.istore_n 1, 1) := by decide +kernel
theorem dX10_bitsOf_2 : decode cX10_bitsOf 2 = .ok (.iconst 0, 1) := by decide +kernel
theorem dX10_bitsOf_3 : decode cX10_bitsOf 3 = .ok (.istore_n 2, 1) := by decide +kernel
theorem dX10_bitsOf_4 : decode cX10_bitsOf 4 = .ok (.iload_n 2, 1) := by decide +kernel
theorem dX10_bitsOf_5 : decode cX10_bitsOf 5 = .ok (.bipush 12, 2) := by decide +kernel
theorem dX10_bitsOf_7 : decode cX10_bitsOf 7 = .ok (.if_icmp .ge 17, 3) := by decide +kernel
theorem dX10_bitsOf_10 : decode cX10_bitsOf 10 = .ok (.iload_n 1, 1) := by decide +kernel
theorem dX10_bitsOf_11 : decode cX10_bitsOf 11 = .ok (.iload_n 0, 1) := by decide +kernel
theorem dX10_bitsOf_12 : decode cX10_bitsOf 12 = .ok (.iload_n 2, 1) := by decide +kernel
theorem dX10_bitsOf_13 : decode cX10_bitsOf 13 = .ok (.ishr, 1) := by decide +kernel
theorem dX10_bitsOf_14 : decode cX10_bitsOf 14 = .ok (.iconst 1, 1) := by decide +kernel
theorem dX10_bitsOf_15 : decode cX10_bitsOf 15 = .ok (.iand, 1) := by decide +kernel
theorem dX10_bitsOf_16 : decode cX10_bitsOf 16 = .ok (.iadd, 1) := by decide +kernel
theorem dX10_bitsOf_17 : decode cX10_bitsOf 17 = .ok (.istore_n 1, 1) := by decide +kernel
theorem dX10_bitsOf_18 : decode cX10_bitsOf 18 = .ok (.iinc 2 1, 3) := by decide +kernel
theorem dX10_bitsOf_21 : decode cX10_bitsOf 21 = .ok (.goto (-17), 3) := by decide +kernel
theorem dX10_bitsOf_24 : decode cX10_bitsOf 24 = .ok (.iload_n 1, 1) := by decide +kernel
theorem dX10_bitsOf_25 : decode cX10_bitsOf 25 = .ok (.ireturn, 1) := by decide +kernel
theorem dX10_firstDraft_0 : decode cX10_firstDraft 0 = .ok (.iconst 0, 1) := by decide +kernel
theorem dX10_firstDraft_1 : decode cX10_firstDraft 1 = .ok (.istore_n 1, 1) := by decide +kernel
theorem dX10_firstDraft_2 : decode cX10_firstDraft 2 = .ok (.iload_n 1, 1) := by decide +kernel
theorem dX10_firstDraft_3 : decode cX10_firstDraft 3 = .ok (.bipush 125, 2) := by decide +kernel
theorem dX10_firstDraft_5 : decode cX10_firstDraft 5 = .ok (.if_icmp .ge 16, 3) := by decide +kernel
theorem dX10_firstDraft_8 : decode cX10_firstDraft 8 = .ok (.aload_n 0, 1) := by decide +kernel
theorem dX10_firstDraft_9 : decode cX10_firstDraft 9 = .ok (.getfield 20, 3) := by decide +kernel
theorem dX10_firstDraft_12 : decode cX10_firstDraft 12 = .ok (.iload_n 1, 1) := by decide +kernel
theorem dX10_firstDraft_13 : decode cX10_firstDraft 13 = .ok (.iconst 0, 1) := by decide +kernel
theorem dX10_firstDraft_14 : decode cX10_firstDraft 14 = .ok (.iastore, 1) := by decide +kernel
theorem dX10_firstDraft_15 : decode cX10_firstDraft 15 = .ok (.iinc 1 1, 3) := by decide +kernel
theorem dX10_firstDraft_18 : decode cX10_firstDraft 18 = .ok (.goto (-16), 3) := by decide +kernel
theorem dX10_firstDraft_21 : decode cX10_firstDraft 21 = .ok (.aload_n 0, 1) := by decide +kernel
theorem dX10_firstDraft_22 : decode cX10_firstDraft 22 = .ok (.iconst 5, 1) := by decide +kernel
theorem dX10_firstDraft_23 : decode cX10_firstDraft 23 = .ok (.putfield 77, 3) := by decide +kernel
theorem dX10_firstDraft_26 : decode cX10_firstDraft 26 = .ok (.aload_n 0, 1) := by decide +kernel
theorem dX10_firstDraft_27 : decode cX10_firstDraft 27 = .ok (.iconst 0, 1) := by decide +kernel
theorem dX10_firstDraft_28 : decode cX10_firstDraft 28 = .ok (.putfield 81, 3) := by decide +kernel
theorem dX10_firstDraft_31 : decode cX10_firstDraft 31 = .ok (.aload_n 0, 1) := by decide +kernel
theorem dX10_firstDraft_32 : decode cX10_firstDraft 32 = .ok (.iconst 0, 1) := by decide +kernel
theorem dX10_firstDraft_33 : decode cX10_firstDraft 33 = .ok (.putfield 84, 3) := by decide +kernel
theorem dX10_firstDraft_36 : decode cX10_firstDraft 36 = .ok (.aload_n 0, 1) := by decide +kernel
theorem dX10_firstDraft_37 : decode cX10_firstDraft 37 = .ok (.iconst 0, 1) := by decide +kernel
theorem dX10_firstDraft_38 : decode cX10_firstDraft 38 = .ok (.putfield 87, 3) := by decide +kernel
theorem dX10_firstDraft_41 : decode cX10_firstDraft 41 = .ok (.aload_n 0, 1) := by decide +kernel
theorem dX10_firstDraft_42 : decode cX10_firstDraft 42 = .ok (.bipush (-4), 2) := by decide +kernel
theorem dX10_firstDraft_44 : decode cX10_firstDraft 44 = .ok (.putfield 91, 3) := by decide +kernel
theorem dX10_firstDraft_47 : decode cX10_firstDraft 47 = .ok (.return_, 1) := by decide +kernel
theorem dX10_keepDraft_0 : decode cX10_keepDraft 0 = .ok (.iconst 0, 1) := by decide +kernel
theorem dX10_keepDraft_1 : decode cX10_keepDraft 1 = .ok (.istore_n 1, 1) := by decide +kernel
theorem dX10_keepDraft_2 : decode cX10_keepDraft 2 = .ok (.iload_n 1, 1) := by decide +kernel
theorem dX10_keepDraft_3 : decode cX10_keepDraft 3 = .ok (.bipush 125, 2) := by decide +kernel
theorem dX10_keepDraft_5 : decode cX10_keepDraft 5 = .ok (.if_icmp .ge 21, 3) := by decide +kernel
theorem dX10_keepDraft_8 : decode cX10_keepDraft 8 = .ok (.aload_n 0, 1) := by decide +kernel
theorem dX10_keepDraft_9 : decode cX10_keepDraft 9 = .ok (.getfield 7, 3) := by decide +kernel
theorem dX10_keepDraft_12 : decode cX10_keepDraft 12 = .ok (.iload_n 1, 1) := by decide +kernel
theorem dX10_keepDraft_13 : decode cX10_keepDraft 13 = .ok (.aload_n 0, 1) := by decide +kernel
theorem dX10_keepDraft_14 : decode cX10_keepDraft 14 = .ok (.getfield 20, 3) := by decide +kernel
theorem dX10_keepDraft_17 : decode cX10_keepDraft 17 = .ok (.iload_n 1, 1) := by decide +kernel
theorem dX10_keepDraft_18 : decode cX10_keepDraft 18 = .ok (.iaload, 1) := by decide +kernel
theorem dX10_keepDraft_19 : decode cX10_keepDraft 19 = .ok (.iastore, 1) := by decide +kernel
theorem dX10_keepDraft_20 : decode cX10_keepDraft 20 = .ok (.iinc 1 1, 3) := by decide +kernel
theorem dX10_keepDraft_23 : decode cX10_keepDraft 23 = .ok (.goto (-21), 3) := by decide +kernel
theorem dX10_keepDraft_26 : decode cX10_keepDraft 26 = .ok (.aload_n 0, 1) := by decide +kernel
theorem dX10_keepDraft_27 : decode cX10_keepDraft 27 = .ok (.aload_n 0, 1) := by decide +kernel
theorem dX10_keepDraft_28 : decode cX10_keepDraft 28 = .ok (.getfield 77, 3) := by decide +kernel
theorem dX10_keepDraft_31 : decode cX10_keepDraft 31 = .ok (.putfield 94, 3) := by decide +kernel
theorem dX10_keepDraft_34 : decode cX10_keepDraft 34 = .ok (.aload_n 0, 1) := by decide +kernel
theorem dX10_keepDraft_35 : decode cX10_keepDraft 35 = .ok (.aload_n 0, 1) := by decide +kernel
theorem dX10_keepDraft_36 : decode cX10_keepDraft 36 = .ok (.getfield 81, 3) := by decide +kernel
theorem dX10_keepDraft_39 : decode cX10_keepDraft 39 = .ok (.putfield 97, 3) := by decide +kernel
theorem dX10_keepDraft_42 : decode cX10_keepDraft 42 = .ok (.aload_n 0, 1) := by decide +kernel
theorem dX10_keepDraft_43 : decode cX10_keepDraft 43 = .ok (.aload_n 0, 1) := by decide +kernel
theorem dX10_keepDraft_44 : decode cX10_keepDraft 44 = .ok (.getfield 84, 3) := by decide +kernel
theorem dX10_keepDraft_47 : decode cX10_keepDraft 47 = .ok (.putfield 100, 3) := by decide +kernel
theorem dX10_keepDraft_50 : decode cX10_keepDraft 50 = .ok (.iconst 0, 1) := by decide +kernel
theorem dX10_keepDraft_51 : decode cX10_keepDraft 51 = .ok (.istore_n 1, 1) := by decide +kernel
theorem dX10_keepDraft_52 : decode cX10_keepDraft 52 = .ok (.iload_n 1, 1) := by decide +kernel
theorem dX10_keepDraft_53 : decode cX10_keepDraft 53 = .ok (.bipush 15, 2) := by decide +kernel
theorem dX10_keepDraft_55 : decode cX10_keepDraft 55 = .ok (.if_icmp .ge 21, 3) := by decide +kernel
theorem dX10_keepDraft_58 : decode cX10_keepDraft 58 = .ok (.aload_n 0, 1) := by decide +kernel
theorem dX10_keepDraft_59 : decode cX10_keepDraft 59 = .ok (.getfield 17, 3) := by decide +kernel
theorem dX10_keepDraft_62 : decode cX10_keepDraft 62 = .ok (.iload_n 1, 1) := by decide +kernel
theorem dX10_keepDraft_63 : decode cX10_keepDraft 63 = .ok (.aload_n 0, 1) := by decide +kernel
theorem dX10_keepDraft_64 : decode cX10_keepDraft 64 = .ok (.getfield 23, 3) := by decide +kernel
theorem dX10_keepDraft_67 : decode cX10_keepDraft 67 = .ok (.iload_n 1, 1) := by decide +kernel
theorem dX10_keepDraft_68 : decode cX10_keepDraft 68 = .ok (.iaload, 1) := by decide +kernel
theorem dX10_keepDraft_69 : decode cX10_keepDraft 69 = .ok (.iastore, 1) := by decide +kernel
theorem dX10_keepDraft_70 : decode cX10_keepDraft 70 = .ok (.iinc 1 1, 3) := by decide +kernel
theorem dX10_keepDraft_73 : decode cX10_keepDraft 73 = .ok (.goto (-21), 3) := by decide +kernel
theorem dX10_keepDraft_76 : decode cX10_keepDraft 76 = .ok (.aload_n 0, 1) := by decide +kernel
theorem dX10_keepDraft_77 : decode cX10_keepDraft 77 = .ok (.getfield 13, 3) := by decide +kernel
theorem dX10_keepDraft_80 : decode cX10_keepDraft 80 = .ok (.iconst 0, 1) := by decide +kernel
theorem dX10_keepDraft_81 : decode cX10_keepDraft 81 = .ok (.iconst 0, 1) := by decide +kernel
theorem dX10_keepDraft_82 : decode cX10_keepDraft 82 = .ok (.bastore, 1) := by decide +kernel
theorem dX10_keepDraft_83 : decode cX10_keepDraft 83 = .ok (.aload_n 0, 1) := by decide +kernel
theorem dX10_keepDraft_84 : decode cX10_keepDraft 84 = .ok (.getfield 13, 3) := by decide +kernel
theorem dX10_keepDraft_87 : decode cX10_keepDraft 87 = .ok (.iconst 1, 1) := by decide +kernel
theorem dX10_keepDraft_88 : decode cX10_keepDraft 88 = .ok (.iconst 0, 1) := by decide +kernel
theorem dX10_keepDraft_89 : decode cX10_keepDraft 89 = .ok (.bastore, 1) := by decide +kernel
theorem dX10_keepDraft_90 : decode cX10_keepDraft 90 = .ok (.return_, 1) := by decide +kernel
theorem dX10_feed_0 : decode cX10_feed 0 = .ok (.aload_n 0, 1) := by decide +kernel
theorem dX10_feed_1 : decode cX10_feed 1 = .ok (.getfield 103, 3) := by decide +kernel
theorem dX10_feed_4 : decode cX10_feed 4 = .ok (.bipush 8, 2) := by decide +kernel
theorem dX10_feed_6 : decode cX10_feed 6 = .ok (.iadd, 1) := by decide +kernel
theorem dX10_feed_7 : decode cX10_feed 7 = .ok (.sipush 400, 3) := by decide +kernel
theorem dX10_feed_10 : decode cX10_feed 10 = .ok (.if_icmp .le 6, 3) := by decide +kernel
theorem dX10_feed_13 : decode cX10_feed 13 = .ok (.bipush (-3), 2) := by decide +kernel
theorem dX10_feed_15 : decode cX10_feed 15 = .ok (.ireturn, 1) := by decide +kernel
theorem dX10_feed_16 : decode cX10_feed 16 = .ok (.bipush 56, 2) := by decide +kernel
theorem dX10_feed_18 : decode cX10_feed 18 = .ok (.istore_n 3, 1) := by decide +kernel
theorem dX10_feed_19 : decode cX10_feed 19 = .ok (.iload_n 3, 1) := by decide +kernel
theorem dX10_feed_20 : decode cX10_feed 20 = .ok (.ifCond .lt 36, 3) := by decide +kernel
theorem dX10_feed_23 : decode cX10_feed 23 = .ok (.aload_n 0, 1) := by decide +kernel
theorem dX10_feed_24 : decode cX10_feed 24 = .ok (.getfield 26, 3) := by decide +kernel
theorem dX10_feed_27 : decode cX10_feed 27 = .ok (.aload_n 0, 1) := by decide +kernel
theorem dX10_feed_28 : decode cX10_feed 28 = .ok (.getfield 103, 3) := by decide +kernel
theorem dX10_feed_31 : decode cX10_feed 31 = .ok (.lload_n 1, 1) := by decide +kernel
theorem dX10_feed_32 : decode cX10_feed 32 = .ok (.iload_n 3, 1) := by decide +kernel
theorem dX10_feed_33 : decode cX10_feed 33 = .ok (.lshr, 1) := by decide +kernel
theorem dX10_feed_34 : decode cX10_feed 34 = .ok (.ldc2_w 106, 3) := by decide +kernel
theorem dX10_feed_37 : decode cX10_feed 37 = .ok (.land, 1) := by decide +kernel
theorem dX10_feed_38 : decode cX10_feed 38 = .ok (.l2i, 1) := by decide +kernel
theorem dX10_feed_39 : decode cX10_feed 39 = .ok (.iastore, 1) := by decide +kernel
theorem dX10_feed_40 : decode cX10_feed 40 = .ok (.aload_n 0, 1) := by decide +kernel
theorem dX10_feed_41 : decode cX10_feed 41 = .ok (.dup, 1) := by decide +kernel
theorem dX10_feed_42 : decode cX10_feed 42 = .ok (.getfield 103, 3) := by decide +kernel
theorem dX10_feed_45 : decode cX10_feed 45 = .ok (.iconst 1, 1) := by decide +kernel
theorem dX10_feed_46 : decode cX10_feed 46 = .ok (.iadd, 1) := by decide +kernel
theorem dX10_feed_47 : decode cX10_feed 47 = .ok (.putfield 103, 3) := by decide +kernel
theorem dX10_feed_50 : decode cX10_feed 50 = .ok (.iinc 3 (-8), 3) := by decide +kernel
theorem dX10_feed_53 : decode cX10_feed 53 = .ok (.goto (-34), 3) := by decide +kernel
theorem dX10_feed_56 : decode cX10_feed 56 = .ok (.aload_n 0, 1) := by decide +kernel
theorem dX10_feed_57 : decode cX10_feed 57 = .ok (.getfield 103, 3) := by decide +kernel
theorem dX10_feed_60 : decode cX10_feed 60 = .ok (.ireturn, 1) := by decide +kernel
theorem dX10_end_0 : decode cX10_end 0 = .ok (.iload_n 1, 1) := by decide +kernel
theorem dX10_end_1 : decode cX10_end 1 = .ok (.i2l, 1) := by decide +kernel
theorem dX10_end_2 : decode cX10_end 2 = .ok (.lconst 0, 1) := by decide +kernel
theorem dX10_end_3 : decode cX10_end 3 = .ok (.aload_n 0, 1) := by decide +kernel
theorem dX10_end_4 : decode cX10_end 4 = .ok (.getfield 103, 3) := by decide +kernel
theorem dX10_end_7 : decode cX10_end 7 = .ok (.i2l, 1) := by decide +kernel
theorem dX10_end_8 : decode cX10_end 8 = .ok (.invokestatic 108, 3) := by decide +kernel
theorem dX10_end_11 : decode cX10_end 11 = .ok (.ifCond .ne 5, 3) := by decide +kernel
theorem dX10_end_14 : decode cX10_end 14 = .ok (.iconst (-1), 1) := by decide +kernel
theorem dX10_end_15 : decode cX10_end 15 = .ok (.ireturn, 1) := by decide +kernel
theorem dX10_end_16 : decode cX10_end 16 = .ok (.aload_n 0, 1) := by decide +kernel
theorem dX10_end_17 : decode cX10_end 17 = .ok (.getfield 103, 3) := by decide +kernel
theorem dX10_end_20 : decode cX10_end 20 = .ok (.istore_n 2, 1) := by decide +kernel
theorem dX10_end_21 : decode cX10_end 21 = .ok (.aload_n 0, 1) := by decide +kernel
theorem dX10_end_22 : decode cX10_end 22 = .ok (.iload_n 1, 1) := by decide +kernel
theorem dX10_end_23 : decode cX10_end 23 = .ok (.putfield 103, 3) := by decide +kernel
theorem dX10_end_26 : decode cX10_end 26 = .ok (.iload_n 2, 1) := by decide +kernel
theorem dX10_end_27 : decode cX10_end 27 = .ok (.ireturn, 1) := by decide +kernel
theorem dX10_needs_0 : decode cX10_needs 0 = .ok (.iload_n 1, 1) := by decide +kernel
theorem dX10_needs_1 : decode cX10_needs 1 = .ok (.ifCond .ne 23, 3) := by decide +kernel
theorem dX10_needs_4 : decode cX10_needs 4 = .ok (.aload_n 0, 1) := by decide +kernel
theorem dX10_needs_5 : decode cX10_needs 5 = .ok (.getfield 112, 3) := by decide +kernel
theorem dX10_needs_8 : decode cX10_needs 8 = .ok (.ifCond .ne 16, 3) := by decide +kernel
theorem dX10_needs_11 : decode cX10_needs 11 = .ok (.aload_n 0, 1) := by decide +kernel
theorem dX10_needs_12 : decode cX10_needs 12 = .ok (.iload_n 2, 1) := by decide +kernel
theorem dX10_needs_13 : decode cX10_needs 13 = .ok (.putfield 112, 3) := by decide +kernel
theorem dX10_needs_16 : decode cX10_needs 16 = .ok (.aload_n 0, 1) := by decide +kernel
theorem dX10_needs_17 : decode cX10_needs 17 = .ok (.aload_n 0, 1) := by decide +kernel
theorem dX10_needs_18 : decode cX10_needs 18 = .ok (.getfield 115, 3) := by decide +kernel
theorem dX10_needs_21 : decode cX10_needs 21 = .ok (.putfield 118, 3) := by decide +kernel
theorem dX10_needs_24 : decode cX10_needs 24 = .ok (.return_, 1) := by decide +kernel
theorem dX10_look_0 : decode cX10_look 0 = .ok (.iload_n 1, 1) := by decide +kernel
theorem dX10_look_1 : decode cX10_look 1 = .ok (.aload_n 0, 1) := by decide +kernel
theorem dX10_look_2 : decode cX10_look 2 = .ok (.getfield 103, 3) := by decide +kernel
theorem dX10_look_5 : decode cX10_look 5 = .ok (.if_icmp .ge 12, 3) := by decide +kernel
theorem dX10_look_8 : decode cX10_look 8 = .ok (.aload_n 0, 1) := by decide +kernel
theorem dX10_look_9 : decode cX10_look 9 = .ok (.getfield 26, 3) := by decide +kernel
theorem dX10_look_12 : decode cX10_look 12 = .ok (.iload_n 1, 1) := by decide +kernel
theorem dX10_look_13 : decode cX10_look 13 = .ok (.iaload, 1) := by decide +kernel
theorem dX10_look_14 : decode cX10_look 14 = .ok (.goto 4, 3) := by decide +kernel
theorem dX10_look_17 : decode cX10_look 17 = .ok (.iconst (-1), 1) := by decide +kernel
theorem dX10_look_18 : decode cX10_look 18 = .ok (.ireturn, 1) := by decide +kernel
theorem dX10_is_0 : decode cX10_is 0 = .ok (.aload_n 0, 1) := by decide +kernel
theorem dX10_is_1 : decode cX10_is 1 = .ok (.getfield 121, 3) := by decide +kernel
theorem dX10_is_4 : decode cX10_is 4 = .ok (.aload_n 0, 1) := by decide +kernel
theorem dX10_is_5 : decode cX10_is 5 = .ok (.getfield 115, 3) := by decide +kernel
theorem dX10_is_8 : decode cX10_is 8 = .ok (.isub, 1) := by decide +kernel
theorem dX10_is_9 : decode cX10_is 9 = .ok (.iload_n 1, 1) := by decide +kernel
theorem dX10_is_10 : decode cX10_is 10 = .ok (.if_icmp .ne 48, 3) := by decide +kernel
theorem dX10_is_13 : decode cX10_is 13 = .ok (.aload_n 0, 1) := by decide +kernel
theorem dX10_is_14 : decode cX10_is 14 = .ok (.aload_n 0, 1) := by decide +kernel
theorem dX10_is_15 : decode cX10_is 15 = .ok (.getfield 115, 3) := by decide +kernel
theorem dX10_is_18 : decode cX10_is 18 = .ok (.invokevirtual 124, 3) := by decide +kernel
theorem dX10_is_21 : decode cX10_is 21 = .ok (.iload_n 2, 1) := by decide +kernel
theorem dX10_is_22 : decode cX10_is 22 = .ok (.if_icmp .ne 36, 3) := by decide +kernel
theorem dX10_is_25 : decode cX10_is 25 = .ok (.aload_n 0, 1) := by decide +kernel
theorem dX10_is_26 : decode cX10_is 26 = .ok (.aload_n 0, 1) := by decide +kernel
theorem dX10_is_27 : decode cX10_is 27 = .ok (.getfield 115, 3) := by decide +kernel
theorem dX10_is_30 : decode cX10_is 30 = .ok (.iconst 1, 1) := by decide +kernel
theorem dX10_is_31 : decode cX10_is 31 = .ok (.iadd, 1) := by decide +kernel
theorem dX10_is_32 : decode cX10_is 32 = .ok (.invokevirtual 124, 3) := by decide +kernel
theorem dX10_is_35 : decode cX10_is 35 = .ok (.iload_n 3, 1) := by decide +kernel
theorem dX10_is_36 : decode cX10_is 36 = .ok (.if_icmp .ne 22, 3) := by decide +kernel
theorem dX10_is_39 : decode cX10_is 39 = .ok (.aload_n 0, 1) := by decide +kernel
theorem dX10_is_40 : decode cX10_is 40 = .ok (.aload_n 0, 1) := by decide +kernel
theorem dX10_is_41 : decode cX10_is 41 = .ok (.getfield 115, 3) := by decide +kernel
theorem dX10_is_44 : decode cX10_is 44 = .ok (.iconst 2, 1) := by decide +kernel
theorem dX10_is_45 : decode cX10_is 45 = .ok (.iadd, 1) := by decide +kernel
theorem dX10_is_46 : decode cX10_is 46 = .ok (.invokevirtual 124, 3) := by decide +kernel
theorem dX10_is_49 : decode cX10_is 49 = .ok (.iload 4, 2) := by decide +kernel
theorem dX10_is_51 : decode cX10_is 51 = .ok (.if_icmp .ne 7, 3) := by decide +kernel
theorem dX10_is_54 : decode cX10_is 54 = .ok (.iconst 1, 1) := by decide +kernel
theorem dX10_is_55 : decode cX10_is 55 = .ok (.goto 4, 3) := by decide +kernel
theorem dX10_is_58 : decode cX10_is 58 = .ok (.iconst 0, 1) := by decide +kernel
theorem dX10_is_59 : decode cX10_is 59 = .ok (.ireturn, 1) := by decide +kernel
theorem dX10_ends_0 : decode cX10_ends 0 = .ok (.aload_n 0, 1) := by decide +kernel
theorem dX10_ends_1 : decode cX10_ends 1 = .ok (.aload_n 0, 1) := by decide +kernel
theorem dX10_ends_2 : decode cX10_ends 2 = .ok (.getfield 115, 3) := by decide +kernel
theorem dX10_ends_5 : decode cX10_ends 5 = .ok (.iconst 3, 1) := by decide +kernel
theorem dX10_ends_6 : decode cX10_ends 6 = .ok (.iadd, 1) := by decide +kernel
theorem dX10_ends_7 : decode cX10_ends 7 = .ok (.invokevirtual 124, 3) := by decide +kernel
theorem dX10_ends_10 : decode cX10_ends 10 = .ok (.iload_n 1, 1) := by decide +kernel
theorem dX10_ends_11 : decode cX10_ends 11 = .ok (.if_icmp .ne 43, 3) := by decide +kernel
theorem dX10_ends_14 : decode cX10_ends 14 = .ok (.iload_n 2, 1) := by decide +kernel
theorem dX10_ends_15 : decode cX10_ends 15 = .ok (.ifCond .eq 17, 3) := by decide +kernel
theorem dX10_ends_18 : decode cX10_ends 18 = .ok (.aload_n 0, 1) := by decide +kernel
theorem dX10_ends_19 : decode cX10_ends 19 = .ok (.aload_n 0, 1) := by decide +kernel
theorem dX10_ends_20 : decode cX10_ends 20 = .ok (.getfield 115, 3) := by decide +kernel
theorem dX10_ends_23 : decode cX10_ends 23 = .ok (.iconst 4, 1) := by decide +kernel
theorem dX10_ends_24 : decode cX10_ends 24 = .ok (.iadd, 1) := by decide +kernel
theorem dX10_ends_25 : decode cX10_ends 25 = .ok (.invokevirtual 124, 3) := by decide +kernel
theorem dX10_ends_28 : decode cX10_ends 28 = .ok (.iload_n 2, 1) := by decide +kernel
theorem dX10_ends_29 : decode cX10_ends 29 = .ok (.if_icmp .ne 25, 3) := by decide +kernel
theorem dX10_ends_32 : decode cX10_ends 32 = .ok (.iload_n 3, 1) := by decide +kernel
theorem dX10_ends_33 : decode cX10_ends 33 = .ok (.ifCond .eq 17, 3) := by decide +kernel
theorem dX10_ends_36 : decode cX10_ends 36 = .ok (.aload_n 0, 1) := by decide +kernel
theorem dX10_ends_37 : decode cX10_ends 37 = .ok (.aload_n 0, 1) := by decide +kernel
theorem dX10_ends_38 : decode cX10_ends 38 = .ok (.getfield 115, 3) := by decide +kernel
theorem dX10_ends_41 : decode cX10_ends 41 = .ok (.iconst 5, 1) := by decide +kernel
theorem dX10_ends_42 : decode cX10_ends 42 = .ok (.iadd, 1) := by decide +kernel
theorem dX10_ends_43 : decode cX10_ends 43 = .ok (.invokevirtual 124, 3) := by decide +kernel
theorem dX10_ends_46 : decode cX10_ends 46 = .ok (.iload_n 3, 1) := by decide +kernel
theorem dX10_ends_47 : decode cX10_ends 47 = .ok (.if_icmp .ne 7, 3) := by decide +kernel
theorem dX10_ends_50 : decode cX10_ends 50 = .ok (.iconst 1, 1) := by decide +kernel
theorem dX10_ends_51 : decode cX10_ends 51 = .ok (.goto 4, 3) := by decide +kernel
theorem dX10_ends_54 : decode cX10_ends 54 = .ok (.iconst 0, 1) := by decide +kernel
theorem dX10_ends_55 : decode cX10_ends 55 = .ok (.ireturn, 1) := by decide +kernel
theorem dX10_lineNow_0 : decode cX10_lineNow 0 = .ok (.aload_n 0, 1) := by decide +kernel
theorem dX10_lineNow_1 : decode cX10_lineNow 1 = .ok (.bipush 6, 2) := by decide +kernel
theorem dX10_lineNow_3 : decode cX10_lineNow 3 = .ok (.bipush 112, 2) := by decide +kernel
theorem dX10_lineNow_5 : decode cX10_lineNow 5 = .ok (.bipush 111, 2) := by decide +kernel
theorem dX10_lineNow_7 : decode cX10_lineNow 7 = .ok (.bipush 105, 2) := by decide +kernel
theorem dX10_lineNow_9 : decode cX10_lineNow 9 = .ok (.invokevirtual 128, 3) := by decide +kernel
theorem dX10_lineNow_12 : decode cX10_lineNow 12 = .ok (.ifCond .eq 18, 3) := by decide +kernel
theorem dX10_lineNow_15 : decode cX10_lineNow 15 = .ok (.aload_n 0, 1) := by decide +kernel
theorem dX10_lineNow_16 : decode cX10_lineNow 16 = .ok (.bipush 110, 2) := by decide +kernel
theorem dX10_lineNow_18 : decode cX10_lineNow 18 = .ok (.bipush 116, 2) := by decide +kernel
theorem dX10_lineNow_20 : decode cX10_lineNow 20 = .ok (.bipush 115, 2) := by decide +kernel
theorem dX10_lineNow_22 : decode cX10_lineNow 22 = .ok (.invokevirtual 132, 3) := by decide +kernel
theorem dX10_lineNow_25 : decode cX10_lineNow 25 = .ok (.ifCond .eq 5, 3) := by decide +kernel
theorem dX10_lineNow_28 : decode cX10_lineNow 28 = .ok (.iconst 0, 1) := by decide +kernel
theorem dX10_lineNow_29 : decode cX10_lineNow 29 = .ok (.ireturn, 1) := by decide +kernel
theorem dX10_lineNow_30 : decode cX10_lineNow 30 = .ok (.aload_n 0, 1) := by decide +kernel
theorem dX10_lineNow_31 : decode cX10_lineNow 31 = .ok (.iconst 5, 1) := by decide +kernel
theorem dX10_lineNow_32 : decode cX10_lineNow 32 = .ok (.bipush 104, 2) := by decide +kernel
theorem dX10_lineNow_34 : decode cX10_lineNow 34 = .ok (.bipush 111, 2) := by decide +kernel
theorem dX10_lineNow_36 : decode cX10_lineNow 36 = .ok (.bipush 117, 2) := by decide +kernel
theorem dX10_lineNow_38 : decode cX10_lineNow 38 = .ok (.invokevirtual 128, 3) := by decide +kernel
theorem dX10_lineNow_41 : decode cX10_lineNow 41 = .ok (.ifCond .eq 17, 3) := by decide +kernel
theorem dX10_lineNow_44 : decode cX10_lineNow 44 = .ok (.aload_n 0, 1) := by decide +kernel
theorem dX10_lineNow_45 : decode cX10_lineNow 45 = .ok (.bipush 115, 2) := by decide +kernel
theorem dX10_lineNow_47 : decode cX10_lineNow 47 = .ok (.bipush 101, 2) := by decide +kernel
theorem dX10_lineNow_49 : decode cX10_lineNow 49 = .ok (.iconst 0, 1) := by decide +kernel
theorem dX10_lineNow_50 : decode cX10_lineNow 50 = .ok (.invokevirtual 132, 3) := by decide +kernel
theorem dX10_lineNow_53 : decode cX10_lineNow 53 = .ok (.ifCond .eq 5, 3) := by decide +kernel
theorem dX10_lineNow_56 : decode cX10_lineNow 56 = .ok (.iconst 1, 1) := by decide +kernel
theorem dX10_lineNow_57 : decode cX10_lineNow 57 = .ok (.ireturn, 1) := by decide +kernel
theorem dX10_lineNow_58 : decode cX10_lineNow 58 = .ok (.aload_n 0, 1) := by decide +kernel
theorem dX10_lineNow_59 : decode cX10_lineNow 59 = .ok (.iconst 4, 1) := by decide +kernel
theorem dX10_lineNow_60 : decode cX10_lineNow 60 = .ok (.bipush 108, 2) := by decide +kernel
theorem dX10_lineNow_62 : decode cX10_lineNow 62 = .ok (.bipush 105, 2) := by decide +kernel
theorem dX10_lineNow_64 : decode cX10_lineNow 64 = .ok (.bipush 110, 2) := by decide +kernel
theorem dX10_lineNow_66 : decode cX10_lineNow 66 = .ok (.invokevirtual 128, 3) := by decide +kernel
theorem dX10_lineNow_69 : decode cX10_lineNow 69 = .ok (.ifCond .eq 16, 3) := by decide +kernel
theorem dX10_lineNow_72 : decode cX10_lineNow 72 = .ok (.aload_n 0, 1) := by decide +kernel
theorem dX10_lineNow_73 : decode cX10_lineNow 73 = .ok (.bipush 101, 2) := by decide +kernel
theorem dX10_lineNow_75 : decode cX10_lineNow 75 = .ok (.iconst 0, 1) := by decide +kernel
theorem dX10_lineNow_76 : decode cX10_lineNow 76 = .ok (.iconst 0, 1) := by decide +kernel
theorem dX10_lineNow_77 : decode cX10_lineNow 77 = .ok (.invokevirtual 132, 3) := by decide +kernel
theorem dX10_lineNow_80 : decode cX10_lineNow 80 = .ok (.ifCond .eq 5, 3) := by decide +kernel
theorem dX10_lineNow_83 : decode cX10_lineNow 83 = .ok (.iconst 2, 1) := by decide +kernel
theorem dX10_lineNow_84 : decode cX10_lineNow 84 = .ok (.ireturn, 1) := by decide +kernel
theorem dX10_lineNow_85 : decode cX10_lineNow 85 = .ok (.aload_n 0, 1) := by decide +kernel
theorem dX10_lineNow_86 : decode cX10_lineNow 86 = .ok (.bipush 6, 2) := by decide +kernel
theorem dX10_lineNow_88 : decode cX10_lineNow 88 = .ok (.bipush 100, 2) := by decide +kernel
theorem dX10_lineNow_90 : decode cX10_lineNow 90 = .ok (.bipush 114, 2) := by decide +kernel
theorem dX10_lineNow_92 : decode cX10_lineNow 92 = .ok (.bipush 97, 2) := by decide +kernel
theorem dX10_lineNow_94 : decode cX10_lineNow 94 = .ok (.invokevirtual 128, 3) := by decide +kernel
theorem dX10_lineNow_97 : decode cX10_lineNow 97 = .ok (.ifCond .eq 18, 3) := by decide +kernel
theorem dX10_lineNow_100 : decode cX10_lineNow 100 = .ok (.aload_n 0, 1) := by decide +kernel
theorem dX10_lineNow_101 : decode cX10_lineNow 101 = .ok (.bipush 119, 2) := by decide +kernel
theorem dX10_lineNow_103 : decode cX10_lineNow 103 = .ok (.bipush 101, 2) := by decide +kernel
theorem dX10_lineNow_105 : decode cX10_lineNow 105 = .ok (.bipush 114, 2) := by decide +kernel
theorem dX10_lineNow_107 : decode cX10_lineNow 107 = .ok (.invokevirtual 132, 3) := by decide +kernel
theorem dX10_lineNow_110 : decode cX10_lineNow 110 = .ok (.ifCond .eq 5, 3) := by decide +kernel
theorem dX10_lineNow_113 : decode cX10_lineNow 113 = .ok (.iconst 3, 1) := by decide +kernel
theorem dX10_lineNow_114 : decode cX10_lineNow 114 = .ok (.ireturn, 1) := by decide +kernel
theorem dX10_lineNow_115 : decode cX10_lineNow 115 = .ok (.aload_n 0, 1) := by decide +kernel
theorem dX10_lineNow_116 : decode cX10_lineNow 116 = .ok (.iconst 3, 1) := by decide +kernel
theorem dX10_lineNow_117 : decode cX10_lineNow 117 = .ok (.bipush 111, 2) := by decide +kernel
theorem dX10_lineNow_119 : decode cX10_lineNow 119 = .ok (.bipush 110, 2) := by decide +kernel
theorem dX10_lineNow_121 : decode cX10_lineNow 121 = .ok (.bipush 101, 2) := by decide +kernel
theorem dX10_lineNow_123 : decode cX10_lineNow 123 = .ok (.invokevirtual 128, 3) := by decide +kernel
theorem dX10_lineNow_126 : decode cX10_lineNow 126 = .ok (.ifCond .eq 7, 3) := by decide +kernel
theorem dX10_lineNow_129 : decode cX10_lineNow 129 = .ok (.iconst 4, 1) := by decide +kernel
theorem dX10_lineNow_130 : decode cX10_lineNow 130 = .ok (.goto 34, 3) := by decide +kernel
theorem dX10_lineNow_133 : decode cX10_lineNow 133 = .ok (.aload_n 0, 1) := by decide +kernel
theorem dX10_lineNow_134 : decode cX10_lineNow 134 = .ok (.iconst 4, 1) := by decide +kernel
theorem dX10_lineNow_135 : decode cX10_lineNow 135 = .ok (.bipush 114, 2) := by decide +kernel
theorem dX10_lineNow_137 : decode cX10_lineNow 137 = .ok (.bipush 97, 2) := by decide +kernel
theorem dX10_lineNow_139 : decode cX10_lineNow 139 = .ok (.bipush 105, 2) := by decide +kernel
theorem dX10_lineNow_141 : decode cX10_lineNow 141 = .ok (.invokevirtual 128, 3) := by decide +kernel
theorem dX10_lineNow_144 : decode cX10_lineNow 144 = .ok (.ifCond .eq 18, 3) := by decide +kernel
theorem dX10_lineNow_147 : decode cX10_lineNow 147 = .ok (.aload_n 0, 1) := by decide +kernel
theorem dX10_lineNow_148 : decode cX10_lineNow 148 = .ok (.bipush 110, 2) := by decide +kernel
theorem dX10_lineNow_150 : decode cX10_lineNow 150 = .ok (.iconst 0, 1) := by decide +kernel
theorem dX10_lineNow_151 : decode cX10_lineNow 151 = .ok (.iconst 0, 1) := by decide +kernel
theorem dX10_lineNow_152 : decode cX10_lineNow 152 = .ok (.invokevirtual 132, 3) := by decide +kernel
theorem dX10_lineNow_155 : decode cX10_lineNow 155 = .ok (.ifCond .eq 7, 3) := by decide +kernel
theorem dX10_lineNow_158 : decode cX10_lineNow 158 = .ok (.iconst 5, 1) := by decide +kernel
theorem dX10_lineNow_159 : decode cX10_lineNow 159 = .ok (.goto 5, 3) := by decide +kernel
theorem dX10_lineNow_162 : decode cX10_lineNow 162 = .ok (.bipush (-4), 2) := by decide +kernel
theorem dX10_lineNow_164 : decode cX10_lineNow 164 = .ok (.ireturn, 1) := by decide +kernel
theorem dX10_isRoof_0 : decode cX10_isRoof 0 = .ok (.aload_n 0, 1) := by decide +kernel
theorem dX10_isRoof_1 : decode cX10_isRoof 1 = .ok (.getfield 136, 3) := by decide +kernel
theorem dX10_isRoof_4 : decode cX10_isRoof 4 = .ok (.iconst 1, 1) := by decide +kernel
theorem dX10_isRoof_5 : decode cX10_isRoof 5 = .ok (.if_icmp .ne 32, 3) := by decide +kernel
theorem dX10_isRoof_8 : decode cX10_isRoof 8 = .ok (.aload_n 0, 1) := by decide +kernel
theorem dX10_isRoof_9 : decode cX10_isRoof 9 = .ok (.iconst 4, 1) := by decide +kernel
theorem dX10_isRoof_10 : decode cX10_isRoof 10 = .ok (.bipush 114, 2) := by decide +kernel
theorem dX10_isRoof_12 : decode cX10_isRoof 12 = .ok (.bipush 111, 2) := by decide +kernel
theorem dX10_isRoof_14 : decode cX10_isRoof 14 = .ok (.bipush 111, 2) := by decide +kernel
theorem dX10_isRoof_16 : decode cX10_isRoof 16 = .ok (.invokevirtual 128, 3) := by decide +kernel
theorem dX10_isRoof_19 : decode cX10_isRoof 19 = .ok (.ifCond .eq 18, 3) := by decide +kernel
theorem dX10_isRoof_22 : decode cX10_isRoof 22 = .ok (.aload_n 0, 1) := by decide +kernel
theorem dX10_isRoof_23 : decode cX10_isRoof 23 = .ok (.bipush 102, 2) := by decide +kernel
theorem dX10_isRoof_25 : decode cX10_isRoof 25 = .ok (.iconst 0, 1) := by decide +kernel
theorem dX10_isRoof_26 : decode cX10_isRoof 26 = .ok (.iconst 0, 1) := by decide +kernel
theorem dX10_isRoof_27 : decode cX10_isRoof 27 = .ok (.invokevirtual 132, 3) := by decide +kernel
theorem dX10_isRoof_30 : decode cX10_isRoof 30 = .ok (.ifCond .eq 7, 3) := by decide +kernel
theorem dX10_isRoof_33 : decode cX10_isRoof 33 = .ok (.iconst 1, 1) := by decide +kernel
theorem dX10_isRoof_34 : decode cX10_isRoof 34 = .ok (.goto 4, 3) := by decide +kernel
theorem dX10_isRoof_37 : decode cX10_isRoof 37 = .ok (.iconst 0, 1) := by decide +kernel
theorem dX10_isRoof_38 : decode cX10_isRoof 38 = .ok (.ireturn, 1) := by decide +kernel
theorem dX10_next_0 : decode cX10_next 0 = .ok (.aload_n 0, 1) := by decide +kernel
theorem dX10_next_1 : decode cX10_next 1 = .ok (.getfield 112, 3) := by decide +kernel
theorem dX10_next_4 : decode cX10_next 4 = .ok (.ifCond .le 4, 3) := by decide +kernel
theorem dX10_next_7 : decode cX10_next 7 = .ok (.return_, 1) := by decide +kernel
theorem dX10_next_8 : decode cX10_next 8 = .ok (.aload_n 0, 1) := by decide +kernel
theorem dX10_next_9 : decode cX10_next 9 = .ok (.aload_n 0, 1) := by decide +kernel
theorem dX10_next_10 : decode cX10_next 10 = .ok (.getfield 121, 3) := by decide +kernel
theorem dX10_next_13 : decode cX10_next 13 = .ok (.invokevirtual 124, 3) := by decide +kernel
theorem dX10_next_16 : decode cX10_next 16 = .ok (.bipush 32, 2) := by decide +kernel
theorem dX10_next_18 : decode cX10_next 18 = .ok (.if_icmp .ne 16, 3) := by decide +kernel
theorem dX10_next_21 : decode cX10_next 21 = .ok (.aload_n 0, 1) := by decide +kernel
theorem dX10_next_22 : decode cX10_next 22 = .ok (.dup, 1) := by decide +kernel
theorem dX10_next_23 : decode cX10_next 23 = .ok (.getfield 121, 3) := by decide +kernel
theorem dX10_next_26 : decode cX10_next 26 = .ok (.iconst 1, 1) := by decide +kernel
theorem dX10_next_27 : decode cX10_next 27 = .ok (.iadd, 1) := by decide +kernel
theorem dX10_next_28 : decode cX10_next 28 = .ok (.putfield 121, 3) := by decide +kernel
theorem dX10_next_31 : decode cX10_next 31 = .ok (.goto (-23), 3) := by decide +kernel
theorem dX10_next_34 : decode cX10_next 34 = .ok (.aload_n 0, 1) := by decide +kernel
theorem dX10_next_35 : decode cX10_next 35 = .ok (.aload_n 0, 1) := by decide +kernel
theorem dX10_next_36 : decode cX10_next 36 = .ok (.getfield 121, 3) := by decide +kernel
theorem dX10_next_39 : decode cX10_next 39 = .ok (.putfield 115, 3) := by decide +kernel
theorem dX10_next_42 : decode cX10_next 42 = .ok (.aload_n 0, 1) := by decide +kernel
theorem dX10_next_43 : decode cX10_next 43 = .ok (.aload_n 0, 1) := by decide +kernel
theorem dX10_next_44 : decode cX10_next 44 = .ok (.getfield 121, 3) := by decide +kernel
theorem dX10_next_47 : decode cX10_next 47 = .ok (.invokevirtual 124, 3) := by decide +kernel
theorem dX10_next_50 : decode cX10_next 50 = .ok (.istore_n 1, 1) := by decide +kernel
theorem dX10_next_51 : decode cX10_next 51 = .ok (.iload_n 1, 1) := by decide +kernel
theorem dX10_next_52 : decode cX10_next 52 = .ok (.ifCond .ge 11, 3) := by decide +kernel
theorem dX10_next_55 : decode cX10_next 55 = .ok (.aload_n 0, 1) := by decide +kernel
theorem dX10_next_56 : decode cX10_next 56 = .ok (.iconst 0, 1) := by decide +kernel
theorem dX10_next_57 : decode cX10_next 57 = .ok (.putfield 136, 3) := by decide +kernel
theorem dX10_next_60 : decode cX10_next 60 = .ok (.goto 214, 3) := by decide +kernel
theorem dX10_next_63 : decode cX10_next 63 = .ok (.iload_n 1, 1) := by decide +kernel
theorem dX10_next_64 : decode cX10_next 64 = .ok (.i2l, 1) := by decide +kernel
theorem dX10_next_65 : decode cX10_next 65 = .ok (.ldc2_w 139, 3) := by decide +kernel
theorem dX10_next_68 : decode cX10_next 68 = .ok (.ldc2_w 141, 3) := by decide +kernel
theorem dX10_next_71 : decode cX10_next 71 = .ok (.invokestatic 108, 3) := by decide +kernel
theorem dX10_next_74 : decode cX10_next 74 = .ok (.ifCond .eq 42, 3) := by decide +kernel
theorem dX10_next_77 : decode cX10_next 77 = .ok (.aload_n 0, 1) := by decide +kernel
theorem dX10_next_78 : decode cX10_next 78 = .ok (.iconst 1, 1) := by decide +kernel
theorem dX10_next_79 : decode cX10_next 79 = .ok (.putfield 136, 3) := by decide +kernel
theorem dX10_next_82 : decode cX10_next 82 = .ok (.aload_n 0, 1) := by decide +kernel
theorem dX10_next_83 : decode cX10_next 83 = .ok (.aload_n 0, 1) := by decide +kernel
theorem dX10_next_84 : decode cX10_next 84 = .ok (.getfield 121, 3) := by decide +kernel
theorem dX10_next_87 : decode cX10_next 87 = .ok (.invokevirtual 124, 3) := by decide +kernel
theorem dX10_next_90 : decode cX10_next 90 = .ok (.i2l, 1) := by decide +kernel
theorem dX10_next_91 : decode cX10_next 91 = .ok (.ldc2_w 139, 3) := by decide +kernel
theorem dX10_next_94 : decode cX10_next 94 = .ok (.ldc2_w 141, 3) := by decide +kernel
theorem dX10_next_97 : decode cX10_next 97 = .ok (.invokestatic 108, 3) := by decide +kernel
theorem dX10_next_100 : decode cX10_next 100 = .ok (.ifCond .eq 174, 3) := by decide +kernel
theorem dX10_next_103 : decode cX10_next 103 = .ok (.aload_n 0, 1) := by decide +kernel
theorem dX10_next_104 : decode cX10_next 104 = .ok (.dup, 1) := by decide +kernel
theorem dX10_next_105 : decode cX10_next 105 = .ok (.getfield 121, 3) := by decide +kernel
theorem dX10_next_108 : decode cX10_next 108 = .ok (.iconst 1, 1) := by decide +kernel
theorem dX10_next_109 : decode cX10_next 109 = .ok (.iadd, 1) := by decide +kernel
theorem dX10_next_110 : decode cX10_next 110 = .ok (.putfield 121, 3) := by decide +kernel
theorem dX10_next_113 : decode cX10_next 113 = .ok (.goto (-31), 3) := by decide +kernel
theorem dX10_next_116 : decode cX10_next 116 = .ok (.iload_n 1, 1) := by decide +kernel
theorem dX10_next_117 : decode cX10_next 117 = .ok (.i2l, 1) := by decide +kernel
theorem dX10_next_118 : decode cX10_next 118 = .ok (.ldc2_w 143, 3) := by decide +kernel
theorem dX10_next_121 : decode cX10_next 121 = .ok (.ldc2_w 145, 3) := by decide +kernel
theorem dX10_next_124 : decode cX10_next 124 = .ok (.invokestatic 108, 3) := by decide +kernel
theorem dX10_next_127 : decode cX10_next 127 = .ok (.ifCond .eq 116, 3) := by decide +kernel
theorem dX10_next_130 : decode cX10_next 130 = .ok (.aload_n 0, 1) := by decide +kernel
theorem dX10_next_131 : decode cX10_next 131 = .ok (.iconst 2, 1) := by decide +kernel
theorem dX10_next_132 : decode cX10_next 132 = .ok (.putfield 136, 3) := by decide +kernel
theorem dX10_next_135 : decode cX10_next 135 = .ok (.aload_n 0, 1) := by decide +kernel
theorem dX10_next_136 : decode cX10_next 136 = .ok (.iconst 0, 1) := by decide +kernel
theorem dX10_next_137 : decode cX10_next 137 = .ok (.putfield 147, 3) := by decide +kernel
theorem dX10_next_140 : decode cX10_next 140 = .ok (.aload_n 0, 1) := by decide +kernel
theorem dX10_next_141 : decode cX10_next 141 = .ok (.aload_n 0, 1) := by decide +kernel
theorem dX10_next_142 : decode cX10_next 142 = .ok (.getfield 121, 3) := by decide +kernel
theorem dX10_next_145 : decode cX10_next 145 = .ok (.invokevirtual 124, 3) := by decide +kernel
theorem dX10_next_148 : decode cX10_next 148 = .ok (.i2l, 1) := by decide +kernel
theorem dX10_next_149 : decode cX10_next 149 = .ok (.ldc2_w 143, 3) := by decide +kernel
theorem dX10_next_152 : decode cX10_next 152 = .ok (.ldc2_w 145, 3) := by decide +kernel
theorem dX10_next_155 : decode cX10_next 155 = .ok (.invokestatic 108, 3) := by decide +kernel
theorem dX10_next_158 : decode cX10_next 158 = .ok (.ifCond .eq 59, 3) := by decide +kernel
theorem dX10_next_161 : decode cX10_next 161 = .ok (.aload_n 0, 1) := by decide +kernel
theorem dX10_next_162 : decode cX10_next 162 = .ok (.aload_n 0, 1) := by decide +kernel
theorem dX10_next_163 : decode cX10_next 163 = .ok (.getfield 121, 3) := by decide +kernel
theorem dX10_next_166 : decode cX10_next 166 = .ok (.aload_n 0, 1) := by decide +kernel
theorem dX10_next_167 : decode cX10_next 167 = .ok (.getfield 115, 3) := by decide +kernel
theorem dX10_next_170 : decode cX10_next 170 = .ok (.isub, 1) := by decide +kernel
theorem dX10_next_171 : decode cX10_next 171 = .ok (.iconst 2, 1) := by decide +kernel
theorem dX10_next_172 : decode cX10_next 172 = .ok (.if_icmp .ge 25, 3) := by decide +kernel
theorem dX10_next_175 : decode cX10_next 175 = .ok (.bipush 10, 2) := by decide +kernel
theorem dX10_next_177 : decode cX10_next 177 = .ok (.aload_n 0, 1) := by decide +kernel
theorem dX10_next_178 : decode cX10_next 178 = .ok (.getfield 147, 3) := by decide +kernel
theorem dX10_next_181 : decode cX10_next 181 = .ok (.imul, 1) := by decide +kernel
theorem dX10_next_182 : decode cX10_next 182 = .ok (.aload_n 0, 1) := by decide +kernel
theorem dX10_next_183 : decode cX10_next 183 = .ok (.aload_n 0, 1) := by decide +kernel
theorem dX10_next_184 : decode cX10_next 184 = .ok (.getfield 121, 3) := by decide +kernel
theorem dX10_next_187 : decode cX10_next 187 = .ok (.invokevirtual 124, 3) := by decide +kernel
theorem dX10_next_190 : decode cX10_next 190 = .ok (.iadd, 1) := by decide +kernel
theorem dX10_next_191 : decode cX10_next 191 = .ok (.bipush 48, 2) := by decide +kernel
theorem dX10_next_193 : decode cX10_next 193 = .ok (.isub, 1) := by decide +kernel
theorem dX10_next_194 : decode cX10_next 194 = .ok (.goto 7, 3) := by decide +kernel
theorem dX10_next_197 : decode cX10_next 197 = .ok (.aload_n 0, 1) := by decide +kernel
theorem dX10_next_198 : decode cX10_next 198 = .ok (.getfield 147, 3) := by decide +kernel
theorem dX10_next_201 : decode cX10_next 201 = .ok (.putfield 147, 3) := by decide +kernel
theorem dX10_next_204 : decode cX10_next 204 = .ok (.aload_n 0, 1) := by decide +kernel
theorem dX10_next_205 : decode cX10_next 205 = .ok (.dup, 1) := by decide +kernel
theorem dX10_next_206 : decode cX10_next 206 = .ok (.getfield 121, 3) := by decide +kernel
theorem dX10_next_209 : decode cX10_next 209 = .ok (.iconst 1, 1) := by decide +kernel
theorem dX10_next_210 : decode cX10_next 210 = .ok (.iadd, 1) := by decide +kernel
theorem dX10_next_211 : decode cX10_next 211 = .ok (.putfield 121, 3) := by decide +kernel
theorem dX10_next_214 : decode cX10_next 214 = .ok (.goto (-74), 3) := by decide +kernel
theorem dX10_next_217 : decode cX10_next 217 = .ok (.aload_n 0, 1) := by decide +kernel
theorem dX10_next_218 : decode cX10_next 218 = .ok (.aload_n 0, 1) := by decide +kernel
theorem dX10_next_219 : decode cX10_next 219 = .ok (.getfield 121, 3) := by decide +kernel
theorem dX10_next_222 : decode cX10_next 222 = .ok (.aload_n 0, 1) := by decide +kernel
theorem dX10_next_223 : decode cX10_next 223 = .ok (.getfield 115, 3) := by decide +kernel
theorem dX10_next_226 : decode cX10_next 226 = .ok (.isub, 1) := by decide +kernel
theorem dX10_next_227 : decode cX10_next 227 = .ok (.iconst 2, 1) := by decide +kernel
theorem dX10_next_228 : decode cX10_next 228 = .ok (.if_icmp .gt 7, 3) := by decide +kernel
theorem dX10_next_231 : decode cX10_next 231 = .ok (.iconst 1, 1) := by decide +kernel
theorem dX10_next_232 : decode cX10_next 232 = .ok (.goto 4, 3) := by decide +kernel
theorem dX10_next_235 : decode cX10_next 235 = .ok (.iconst 0, 1) := by decide +kernel
theorem dX10_next_236 : decode cX10_next 236 = .ok (.iconst 1, 1) := by decide +kernel
theorem dX10_next_237 : decode cX10_next 237 = .ok (.invokevirtual 150, 3) := by decide +kernel
theorem dX10_next_240 : decode cX10_next 240 = .ok (.goto 34, 3) := by decide +kernel
theorem dX10_next_243 : decode cX10_next 243 = .ok (.aload_n 0, 1) := by decide +kernel
theorem dX10_next_244 : decode cX10_next 244 = .ok (.iconst 3, 1) := by decide +kernel
theorem dX10_next_245 : decode cX10_next 245 = .ok (.putfield 136, 3) := by decide +kernel
theorem dX10_next_248 : decode cX10_next 248 = .ok (.aload_n 0, 1) := by decide +kernel
theorem dX10_next_249 : decode cX10_next 249 = .ok (.iload_n 1, 1) := by decide +kernel
theorem dX10_next_250 : decode cX10_next 250 = .ok (.bipush 59, 2) := by decide +kernel
theorem dX10_next_252 : decode cX10_next 252 = .ok (.if_icmp .ne 7, 3) := by decide +kernel
theorem dX10_next_255 : decode cX10_next 255 = .ok (.iconst 1, 1) := by decide +kernel
theorem dX10_next_256 : decode cX10_next 256 = .ok (.goto 4, 3) := by decide +kernel
theorem dX10_next_259 : decode cX10_next 259 = .ok (.iconst 0, 1) := by decide +kernel
theorem dX10_next_260 : decode cX10_next 260 = .ok (.iconst 1, 1) := by decide +kernel
theorem dX10_next_261 : decode cX10_next 261 = .ok (.invokevirtual 150, 3) := by decide +kernel
theorem dX10_next_264 : decode cX10_next 264 = .ok (.aload_n 0, 1) := by decide +kernel
theorem dX10_next_265 : decode cX10_next 265 = .ok (.dup, 1) := by decide +kernel
theorem dX10_next_266 : decode cX10_next 266 = .ok (.getfield 121, 3) := by decide +kernel
theorem dX10_next_269 : decode cX10_next 269 = .ok (.iconst 1, 1) := by decide +kernel
theorem dX10_next_270 : decode cX10_next 270 = .ok (.iadd, 1) := by decide +kernel
theorem dX10_next_271 : decode cX10_next 271 = .ok (.putfield 121, 3) := by decide +kernel
theorem dX10_next_274 : decode cX10_next 274 = .ok (.return_, 1) := by decide +kernel
theorem dX10_looked_0 : decode cX10_looked 0 = .ok (.aload_n 0, 1) := by decide +kernel
theorem dX10_looked_1 : decode cX10_looked 1 = .ok (.getfield 112, 3) := by decide +kernel
theorem dX10_looked_4 : decode cX10_looked 4 = .ok (.ifCond .ne 21, 3) := by decide +kernel
theorem dX10_looked_7 : decode cX10_looked 7 = .ok (.aload_n 0, 1) := by decide +kernel
theorem dX10_looked_8 : decode cX10_looked 8 = .ok (.aload_n 0, 1) := by decide +kernel
theorem dX10_looked_9 : decode cX10_looked 9 = .ok (.getfield 136, 3) := by decide +kernel
theorem dX10_looked_12 : decode cX10_looked 12 = .ok (.iconst 2, 1) := by decide +kernel
theorem dX10_looked_13 : decode cX10_looked 13 = .ok (.if_icmp .ne 7, 3) := by decide +kernel
theorem dX10_looked_16 : decode cX10_looked 16 = .ok (.iconst 1, 1) := by decide +kernel
theorem dX10_looked_17 : decode cX10_looked 17 = .ok (.goto 4, 3) := by decide +kernel
theorem dX10_looked_20 : decode cX10_looked 20 = .ok (.iconst 0, 1) := by decide +kernel
theorem dX10_looked_21 : decode cX10_looked 21 = .ok (.iconst 2, 1) := by decide +kernel
theorem dX10_looked_22 : decode cX10_looked 22 = .ok (.invokevirtual 150, 3) := by decide +kernel
theorem dX10_looked_25 : decode cX10_looked 25 = .ok (.aload_n 0, 1) := by decide +kernel
theorem dX10_looked_26 : decode cX10_looked 26 = .ok (.getfield 112, 3) := by decide +kernel
theorem dX10_looked_29 : decode cX10_looked 29 = .ok (.ifCond .ne 20, 3) := by decide +kernel
theorem dX10_looked_32 : decode cX10_looked 32 = .ok (.aload_n 0, 1) := by decide +kernel
theorem dX10_looked_33 : decode cX10_looked 33 = .ok (.aload_n 0, 1) := by decide +kernel
theorem dX10_looked_34 : decode cX10_looked 34 = .ok (.getfield 147, 3) := by decide +kernel
theorem dX10_looked_37 : decode cX10_looked 37 = .ok (.i2l, 1) := by decide +kernel
theorem dX10_looked_38 : decode cX10_looked 38 = .ok (.iload_n 1, 1) := by decide +kernel
theorem dX10_looked_39 : decode cX10_looked 39 = .ok (.i2l, 1) := by decide +kernel
theorem dX10_looked_40 : decode cX10_looked 40 = .ok (.iload_n 2, 1) := by decide +kernel
theorem dX10_looked_41 : decode cX10_looked 41 = .ok (.i2l, 1) := by decide +kernel
theorem dX10_looked_42 : decode cX10_looked 42 = .ok (.invokestatic 108, 3) := by decide +kernel
theorem dX10_looked_45 : decode cX10_looked 45 = .ok (.iconst 3, 1) := by decide +kernel
theorem dX10_looked_46 : decode cX10_looked 46 = .ok (.invokevirtual 150, 3) := by decide +kernel
theorem dX10_looked_49 : decode cX10_looked 49 = .ok (.aload_n 0, 1) := by decide +kernel
theorem dX10_looked_50 : decode cX10_looked 50 = .ok (.getfield 112, 3) := by decide +kernel
theorem dX10_looked_53 : decode cX10_looked 53 = .ok (.ifCond .ne 10, 3) := by decide +kernel
theorem dX10_looked_56 : decode cX10_looked 56 = .ok (.aload_n 0, 1) := by decide +kernel
theorem dX10_looked_57 : decode cX10_looked 57 = .ok (.getfield 147, 3) := by decide +kernel
theorem dX10_looked_60 : decode cX10_looked 60 = .ok (.goto 4, 3) := by decide +kernel
theorem dX10_looked_63 : decode cX10_looked 63 = .ok (.iconst 0, 1) := by decide +kernel
theorem dX10_looked_64 : decode cX10_looked 64 = .ok (.ireturn, 1) := by decide +kernel
theorem dX10_readNumber_0 : decode cX10_readNumber 0 = .ok (.aload_n 0, 1) := by decide +kernel
theorem dX10_readNumber_1 : decode cX10_readNumber 1 = .ok (.iload_n 1, 1) := by decide +kernel
theorem dX10_readNumber_2 : decode cX10_readNumber 2 = .ok (.iload_n 2, 1) := by decide +kernel
theorem dX10_readNumber_3 : decode cX10_readNumber 3 = .ok (.invokevirtual 154, 3) := by decide +kernel
theorem dX10_readNumber_6 : decode cX10_readNumber 6 = .ok (.istore_n 3, 1) := by decide +kernel
theorem dX10_readNumber_7 : decode cX10_readNumber 7 = .ok (.aload_n 0, 1) := by decide +kernel
theorem dX10_readNumber_8 : decode cX10_readNumber 8 = .ok (.invokevirtual 158, 3) := by decide +kernel
theorem dX10_readNumber_11 : decode cX10_readNumber 11 = .ok (.iload_n 3, 1) := by decide +kernel
theorem dX10_readNumber_12 : decode cX10_readNumber 12 = .ok (.ireturn, 1) := by decide +kernel
theorem dX10_lookedPoint_0 : decode cX10_lookedPoint 0 = .ok (.aload_n 0, 1) := by decide +kernel
theorem dX10_lookedPoint_1 : decode cX10_lookedPoint 1 = .ok (.iconst 0, 1) := by decide +kernel
theorem dX10_lookedPoint_2 : decode cX10_lookedPoint 2 = .ok (.bipush 8, 2) := by decide +kernel
theorem dX10_lookedPoint_4 : decode cX10_lookedPoint 4 = .ok (.invokevirtual 154, 3) := by decide +kernel
theorem dX10_lookedPoint_7 : decode cX10_lookedPoint 7 = .ok (.istore_n 1, 1) := by decide +kernel
theorem dX10_lookedPoint_8 : decode cX10_lookedPoint 8 = .ok (.aload_n 0, 1) := by decide +kernel
theorem dX10_lookedPoint_9 : decode cX10_lookedPoint 9 = .ok (.iload_n 1, 1) := by decide +kernel
theorem dX10_lookedPoint_10 : decode cX10_lookedPoint 10 = .ok (.aload_n 0, 1) := by decide +kernel
theorem dX10_lookedPoint_11 : decode cX10_lookedPoint 11 = .ok (.getfield 91, 3) := by decide +kernel
theorem dX10_lookedPoint_14 : decode cX10_lookedPoint 14 = .ok (.if_icmp .le 7, 3) := by decide +kernel
theorem dX10_lookedPoint_17 : decode cX10_lookedPoint 17 = .ok (.iload_n 1, 1) := by decide +kernel
theorem dX10_lookedPoint_18 : decode cX10_lookedPoint 18 = .ok (.goto 7, 3) := by decide +kernel
theorem dX10_lookedPoint_21 : decode cX10_lookedPoint 21 = .ok (.aload_n 0, 1) := by decide +kernel
theorem dX10_lookedPoint_22 : decode cX10_lookedPoint 22 = .ok (.getfield 91, 3) := by decide +kernel
theorem dX10_lookedPoint_25 : decode cX10_lookedPoint 25 = .ok (.putfield 91, 3) := by decide +kernel
theorem dX10_lookedPoint_28 : decode cX10_lookedPoint 28 = .ok (.iload_n 1, 1) := by decide +kernel
theorem dX10_lookedPoint_29 : decode cX10_lookedPoint 29 = .ok (.ireturn, 1) := by decide +kernel
theorem dX10_readPoint_0 : decode cX10_readPoint 0 = .ok (.aload_n 0, 1) := by decide +kernel
theorem dX10_readPoint_1 : decode cX10_readPoint 1 = .ok (.invokevirtual 161, 3) := by decide +kernel
theorem dX10_readPoint_4 : decode cX10_readPoint 4 = .ok (.istore_n 1, 1) := by decide +kernel
theorem dX10_readPoint_5 : decode cX10_readPoint 5 = .ok (.aload_n 0, 1) := by decide +kernel
theorem dX10_readPoint_6 : decode cX10_readPoint 6 = .ok (.invokevirtual 158, 3) := by decide +kernel
theorem dX10_readPoint_9 : decode cX10_readPoint 9 = .ok (.iload_n 1, 1) := by decide +kernel
theorem dX10_readPoint_10 : decode cX10_readPoint 10 = .ok (.ireturn, 1) := by decide +kernel
theorem dX10_readOther_0 : decode cX10_readOther 0 = .ok (.aload_n 0, 1) := by decide +kernel
theorem dX10_readOther_1 : decode cX10_readOther 1 = .ok (.invokevirtual 161, 3) := by decide +kernel
theorem dX10_readOther_4 : decode cX10_readOther 4 = .ok (.istore_n 2, 1) := by decide +kernel
theorem dX10_readOther_5 : decode cX10_readOther 5 = .ok (.aload_n 0, 1) := by decide +kernel
theorem dX10_readOther_6 : decode cX10_readOther 6 = .ok (.iload_n 2, 1) := by decide +kernel
theorem dX10_readOther_7 : decode cX10_readOther 7 = .ok (.iload_n 1, 1) := by decide +kernel
theorem dX10_readOther_8 : decode cX10_readOther 8 = .ok (.if_icmp .eq 7, 3) := by decide +kernel
theorem dX10_readOther_11 : decode cX10_readOther 11 = .ok (.iconst 1, 1) := by decide +kernel
theorem dX10_readOther_12 : decode cX10_readOther 12 = .ok (.goto 4, 3) := by decide +kernel
theorem dX10_readOther_15 : decode cX10_readOther 15 = .ok (.iconst 0, 1) := by decide +kernel
theorem dX10_readOther_16 : decode cX10_readOther 16 = .ok (.iconst 4, 1) := by decide +kernel
theorem dX10_readOther_17 : decode cX10_readOther 17 = .ok (.invokevirtual 150, 3) := by decide +kernel
theorem dX10_readOther_20 : decode cX10_readOther 20 = .ok (.aload_n 0, 1) := by decide +kernel
theorem dX10_readOther_21 : decode cX10_readOther 21 = .ok (.invokevirtual 158, 3) := by decide +kernel
theorem dX10_readOther_24 : decode cX10_readOther 24 = .ok (.iload_n 2, 1) := by decide +kernel
theorem dX10_readOther_25 : decode cX10_readOther 25 = .ok (.ireturn, 1) := by decide +kernel
theorem dX10_readLineAt_0 : decode cX10_readLineAt 0 = .ok (.iconst 1, 1) := by decide +kernel
theorem dX10_readLineAt_1 : decode cX10_readLineAt 1 = .ok (.iconst 5, 1) := by decide +kernel
theorem dX10_readLineAt_2 : decode cX10_readLineAt 2 = .ok (.aload_n 0, 1) := by decide +kernel
theorem dX10_readLineAt_3 : decode cX10_readLineAt 3 = .ok (.getfield 20, 3) := by decide +kernel
theorem dX10_readLineAt_6 : decode cX10_readLineAt 6 = .ok (.iconst 0, 1) := by decide +kernel
theorem dX10_readLineAt_7 : decode cX10_readLineAt 7 = .ok (.iaload, 1) := by decide +kernel
theorem dX10_readLineAt_8 : decode cX10_readLineAt 8 = .ok (.imul, 1) := by decide +kernel
theorem dX10_readLineAt_9 : decode cX10_readLineAt 9 = .ok (.iadd, 1) := by decide +kernel
theorem dX10_readLineAt_10 : decode cX10_readLineAt 10 = .ok (.istore_n 1, 1) := by decide +kernel
theorem dX10_readLineAt_11 : decode cX10_readLineAt 11 = .ok (.aload_n 0, 1) := by decide +kernel
theorem dX10_readLineAt_12 : decode cX10_readLineAt 12 = .ok (.getfield 20, 3) := by decide +kernel
theorem dX10_readLineAt_15 : decode cX10_readLineAt 15 = .ok (.iload_n 1, 1) := by decide +kernel
theorem dX10_readLineAt_16 : decode cX10_readLineAt 16 = .ok (.iconst 0, 1) := by decide +kernel
theorem dX10_readLineAt_17 : decode cX10_readLineAt 17 = .ok (.iadd, 1) := by decide +kernel
theorem dX10_readLineAt_18 : decode cX10_readLineAt 18 = .ok (.aload_n 0, 1) := by decide +kernel
theorem dX10_readLineAt_19 : decode cX10_readLineAt 19 = .ok (.invokevirtual 165, 3) := by decide +kernel
theorem dX10_readLineAt_22 : decode cX10_readLineAt 22 = .ok (.iastore, 1) := by decide +kernel
theorem dX10_readLineAt_23 : decode cX10_readLineAt 23 = .ok (.aload_n 0, 1) := by decide +kernel
theorem dX10_readLineAt_24 : decode cX10_readLineAt 24 = .ok (.getfield 20, 3) := by decide +kernel
theorem dX10_readLineAt_27 : decode cX10_readLineAt 27 = .ok (.iload_n 1, 1) := by decide +kernel
theorem dX10_readLineAt_28 : decode cX10_readLineAt 28 = .ok (.iconst 1, 1) := by decide +kernel
theorem dX10_readLineAt_29 : decode cX10_readLineAt 29 = .ok (.iadd, 1) := by decide +kernel
theorem dX10_readLineAt_30 : decode cX10_readLineAt 30 = .ok (.aload_n 0, 1) := by decide +kernel
theorem dX10_readLineAt_31 : decode cX10_readLineAt 31 = .ok (.aload_n 0, 1) := by decide +kernel
theorem dX10_readLineAt_32 : decode cX10_readLineAt 32 = .ok (.getfield 20, 3) := by decide +kernel
theorem dX10_readLineAt_35 : decode cX10_readLineAt 35 = .ok (.iload_n 1, 1) := by decide +kernel
theorem dX10_readLineAt_36 : decode cX10_readLineAt 36 = .ok (.iconst 0, 1) := by decide +kernel
theorem dX10_readLineAt_37 : decode cX10_readLineAt 37 = .ok (.iadd, 1) := by decide +kernel
theorem dX10_readLineAt_38 : decode cX10_readLineAt 38 = .ok (.iaload, 1) := by decide +kernel
theorem dX10_readLineAt_39 : decode cX10_readLineAt 39 = .ok (.invokevirtual 168, 3) := by decide +kernel
theorem dX10_readLineAt_42 : decode cX10_readLineAt 42 = .ok (.iastore, 1) := by decide +kernel
theorem dX10_readLineAt_43 : decode cX10_readLineAt 43 = .ok (.aload_n 0, 1) := by decide +kernel
theorem dX10_readLineAt_44 : decode cX10_readLineAt 44 = .ok (.getfield 20, 3) := by decide +kernel
theorem dX10_readLineAt_47 : decode cX10_readLineAt 47 = .ok (.iload_n 1, 1) := by decide +kernel
theorem dX10_readLineAt_48 : decode cX10_readLineAt 48 = .ok (.iconst 2, 1) := by decide +kernel
theorem dX10_readLineAt_49 : decode cX10_readLineAt 49 = .ok (.iadd, 1) := by decide +kernel
theorem dX10_readLineAt_50 : decode cX10_readLineAt 50 = .ok (.aload_n 0, 1) := by decide +kernel
theorem dX10_readLineAt_51 : decode cX10_readLineAt 51 = .ok (.iconst 1, 1) := by decide +kernel
theorem dX10_readLineAt_52 : decode cX10_readLineAt 52 = .ok (.bipush 9, 2) := by decide +kernel
theorem dX10_readLineAt_54 : decode cX10_readLineAt 54 = .ok (.invokevirtual 171, 3) := by decide +kernel
theorem dX10_readLineAt_57 : decode cX10_readLineAt 57 = .ok (.iastore, 1) := by decide +kernel
theorem dX10_readLineAt_58 : decode cX10_readLineAt 58 = .ok (.aload_n 0, 1) := by decide +kernel
theorem dX10_readLineAt_59 : decode cX10_readLineAt 59 = .ok (.getfield 20, 3) := by decide +kernel
theorem dX10_readLineAt_62 : decode cX10_readLineAt 62 = .ok (.iload_n 1, 1) := by decide +kernel
theorem dX10_readLineAt_63 : decode cX10_readLineAt 63 = .ok (.iconst 3, 1) := by decide +kernel
theorem dX10_readLineAt_64 : decode cX10_readLineAt 64 = .ok (.iadd, 1) := by decide +kernel
theorem dX10_readLineAt_65 : decode cX10_readLineAt 65 = .ok (.aload_n 0, 1) := by decide +kernel
theorem dX10_readLineAt_66 : decode cX10_readLineAt 66 = .ok (.iconst 0, 1) := by decide +kernel
theorem dX10_readLineAt_67 : decode cX10_readLineAt 67 = .ok (.bipush 9, 2) := by decide +kernel
theorem dX10_readLineAt_69 : decode cX10_readLineAt 69 = .ok (.invokevirtual 171, 3) := by decide +kernel
theorem dX10_readLineAt_72 : decode cX10_readLineAt 72 = .ok (.iastore, 1) := by decide +kernel
theorem dX10_readLineAt_73 : decode cX10_readLineAt 73 = .ok (.aload_n 0, 1) := by decide +kernel
theorem dX10_readLineAt_74 : decode cX10_readLineAt 74 = .ok (.getfield 20, 3) := by decide +kernel
theorem dX10_readLineAt_77 : decode cX10_readLineAt 77 = .ok (.iload_n 1, 1) := by decide +kernel
theorem dX10_readLineAt_78 : decode cX10_readLineAt 78 = .ok (.iconst 4, 1) := by decide +kernel
theorem dX10_readLineAt_79 : decode cX10_readLineAt 79 = .ok (.iadd, 1) := by decide +kernel
theorem dX10_readLineAt_80 : decode cX10_readLineAt 80 = .ok (.iconst 0, 1) := by decide +kernel
theorem dX10_readLineAt_81 : decode cX10_readLineAt 81 = .ok (.iastore, 1) := by decide +kernel
theorem dX10_readLineAt_82 : decode cX10_readLineAt 82 = .ok (.aload_n 0, 1) := by decide +kernel
theorem dX10_readLineAt_83 : decode cX10_readLineAt 83 = .ok (.getfield 112, 3) := by decide +kernel
theorem dX10_readLineAt_86 : decode cX10_readLineAt 86 = .ok (.ifCond .ne 33, 3) := by decide +kernel
theorem dX10_readLineAt_89 : decode cX10_readLineAt 89 = .ok (.aload_n 0, 1) := by decide +kernel
theorem dX10_readLineAt_90 : decode cX10_readLineAt 90 = .ok (.getfield 136, 3) := by decide +kernel
theorem dX10_readLineAt_93 : decode cX10_readLineAt 93 = .ok (.iconst 1, 1) := by decide +kernel
theorem dX10_readLineAt_94 : decode cX10_readLineAt 94 = .ok (.if_icmp .ne 25, 3) := by decide +kernel
theorem dX10_readLineAt_97 : decode cX10_readLineAt 97 = .ok (.aload_n 0, 1) := by decide +kernel
theorem dX10_readLineAt_98 : decode cX10_readLineAt 98 = .ok (.aload_n 0, 1) := by decide +kernel
theorem dX10_readLineAt_99 : decode cX10_readLineAt 99 = .ok (.invokevirtual 174, 3) := by decide +kernel
theorem dX10_readLineAt_102 : decode cX10_readLineAt 102 = .ok (.iconst 2, 1) := by decide +kernel
theorem dX10_readLineAt_103 : decode cX10_readLineAt 103 = .ok (.invokevirtual 150, 3) := by decide +kernel
theorem dX10_readLineAt_106 : decode cX10_readLineAt 106 = .ok (.aload_n 0, 1) := by decide +kernel
theorem dX10_readLineAt_107 : decode cX10_readLineAt 107 = .ok (.getfield 20, 3) := by decide +kernel
theorem dX10_readLineAt_110 : decode cX10_readLineAt 110 = .ok (.iload_n 1, 1) := by decide +kernel
theorem dX10_readLineAt_111 : decode cX10_readLineAt 111 = .ok (.iconst 4, 1) := by decide +kernel
theorem dX10_readLineAt_112 : decode cX10_readLineAt 112 = .ok (.iadd, 1) := by decide +kernel
theorem dX10_readLineAt_113 : decode cX10_readLineAt 113 = .ok (.iconst 1, 1) := by decide +kernel
theorem dX10_readLineAt_114 : decode cX10_readLineAt 114 = .ok (.iastore, 1) := by decide +kernel
theorem dX10_readLineAt_115 : decode cX10_readLineAt 115 = .ok (.aload_n 0, 1) := by decide +kernel
theorem dX10_readLineAt_116 : decode cX10_readLineAt 116 = .ok (.invokevirtual 158, 3) := by decide +kernel
theorem dX10_readLineAt_119 : decode cX10_readLineAt 119 = .ok (.aload_n 0, 1) := by decide +kernel
theorem dX10_readLineAt_120 : decode cX10_readLineAt 120 = .ok (.getfield 20, 3) := by decide +kernel
theorem dX10_readLineAt_123 : decode cX10_readLineAt 123 = .ok (.iconst 0, 1) := by decide +kernel
theorem dX10_readLineAt_124 : decode cX10_readLineAt 124 = .ok (.dup2, 1) := by decide +kernel
theorem dX10_readLineAt_125 : decode cX10_readLineAt 125 = .ok (.iaload, 1) := by decide +kernel
theorem dX10_readLineAt_126 : decode cX10_readLineAt 126 = .ok (.iconst 1, 1) := by decide +kernel
theorem dX10_readLineAt_127 : decode cX10_readLineAt 127 = .ok (.iadd, 1) := by decide +kernel
theorem dX10_readLineAt_128 : decode cX10_readLineAt 128 = .ok (.iastore, 1) := by decide +kernel
theorem dX10_readLineAt_129 : decode cX10_readLineAt 129 = .ok (.return_, 1) := by decide +kernel
theorem dX10_readOne_0 : decode cX10_readOne 0 = .ok (.iconst 3, 1) := by decide +kernel
theorem dX10_readOne_1 : decode cX10_readOne 1 = .ok (.aload_n 0, 1) := by decide +kernel
theorem dX10_readOne_2 : decode cX10_readOne 2 = .ok (.getfield 84, 3) := by decide +kernel
theorem dX10_readOne_5 : decode cX10_readOne 5 = .ok (.imul, 1) := by decide +kernel
theorem dX10_readOne_6 : decode cX10_readOne 6 = .ok (.istore_n 1, 1) := by decide +kernel
theorem dX10_readOne_7 : decode cX10_readOne 7 = .ok (.aload_n 0, 1) := by decide +kernel
theorem dX10_readOne_8 : decode cX10_readOne 8 = .ok (.getfield 23, 3) := by decide +kernel
theorem dX10_readOne_11 : decode cX10_readOne 11 = .ok (.iload_n 1, 1) := by decide +kernel
theorem dX10_readOne_12 : decode cX10_readOne 12 = .ok (.aload_n 0, 1) := by decide +kernel
theorem dX10_readOne_13 : decode cX10_readOne 13 = .ok (.invokevirtual 165, 3) := by decide +kernel
theorem dX10_readOne_16 : decode cX10_readOne 16 = .ok (.iastore, 1) := by decide +kernel
theorem dX10_readOne_17 : decode cX10_readOne 17 = .ok (.aload_n 0, 1) := by decide +kernel
theorem dX10_readOne_18 : decode cX10_readOne 18 = .ok (.getfield 23, 3) := by decide +kernel
theorem dX10_readOne_21 : decode cX10_readOne 21 = .ok (.iload_n 1, 1) := by decide +kernel
theorem dX10_readOne_22 : decode cX10_readOne 22 = .ok (.iconst 1, 1) := by decide +kernel
theorem dX10_readOne_23 : decode cX10_readOne 23 = .ok (.iadd, 1) := by decide +kernel
theorem dX10_readOne_24 : decode cX10_readOne 24 = .ok (.aload_n 0, 1) := by decide +kernel
theorem dX10_readOne_25 : decode cX10_readOne 25 = .ok (.aload_n 0, 1) := by decide +kernel
theorem dX10_readOne_26 : decode cX10_readOne 26 = .ok (.getfield 23, 3) := by decide +kernel
theorem dX10_readOne_29 : decode cX10_readOne 29 = .ok (.iload_n 1, 1) := by decide +kernel
theorem dX10_readOne_30 : decode cX10_readOne 30 = .ok (.iaload, 1) := by decide +kernel
theorem dX10_readOne_31 : decode cX10_readOne 31 = .ok (.invokevirtual 168, 3) := by decide +kernel
theorem dX10_readOne_34 : decode cX10_readOne 34 = .ok (.iastore, 1) := by decide +kernel
theorem dX10_readOne_35 : decode cX10_readOne 35 = .ok (.aload_n 0, 1) := by decide +kernel
theorem dX10_readOne_36 : decode cX10_readOne 36 = .ok (.getfield 23, 3) := by decide +kernel
theorem dX10_readOne_39 : decode cX10_readOne 39 = .ok (.iload_n 1, 1) := by decide +kernel
theorem dX10_readOne_40 : decode cX10_readOne 40 = .ok (.iconst 2, 1) := by decide +kernel
theorem dX10_readOne_41 : decode cX10_readOne 41 = .ok (.iadd, 1) := by decide +kernel
theorem dX10_readOne_42 : decode cX10_readOne 42 = .ok (.aload_n 0, 1) := by decide +kernel
theorem dX10_readOne_43 : decode cX10_readOne 43 = .ok (.iconst 0, 1) := by decide +kernel
theorem dX10_readOne_44 : decode cX10_readOne 44 = .ok (.bipush 40, 2) := by decide +kernel
theorem dX10_readOne_46 : decode cX10_readOne 46 = .ok (.invokevirtual 171, 3) := by decide +kernel
theorem dX10_readOne_49 : decode cX10_readOne 49 = .ok (.iastore, 1) := by decide +kernel
theorem dX10_readOne_50 : decode cX10_readOne 50 = .ok (.aload_n 0, 1) := by decide +kernel
theorem dX10_readOne_51 : decode cX10_readOne 51 = .ok (.dup, 1) := by decide +kernel
theorem dX10_readOne_52 : decode cX10_readOne 52 = .ok (.getfield 84, 3) := by decide +kernel
theorem dX10_readOne_55 : decode cX10_readOne 55 = .ok (.iconst 1, 1) := by decide +kernel
theorem dX10_readOne_56 : decode cX10_readOne 56 = .ok (.iadd, 1) := by decide +kernel
theorem dX10_readOne_57 : decode cX10_readOne 57 = .ok (.putfield 84, 3) := by decide +kernel
theorem dX10_readOne_60 : decode cX10_readOne 60 = .ok (.return_, 1) := by decide +kernel
theorem dX10_readLineOf_0 : decode cX10_readLineOf 0 = .ok (.iload_n 1, 1) := by decide +kernel
theorem dX10_readLineOf_1 : decode cX10_readLineOf 1 = .ok (.tableswitch 149 0 4 #[35, 54, 103, 110, 142], 35) := by decide +kernel
theorem dX10_readLineOf_36 : decode cX10_readLineOf 36 = .ok (.aload_n 0, 1) := by decide +kernel
theorem dX10_readLineOf_37 : decode cX10_readLineOf 37 = .ok (.iconst 1, 1) := by decide +kernel
theorem dX10_readLineOf_38 : decode cX10_readLineOf 38 = .ok (.putfield 87, 3) := by decide +kernel
theorem dX10_readLineOf_41 : decode cX10_readLineOf 41 = .ok (.aload_n 0, 1) := by decide +kernel
theorem dX10_readLineOf_42 : decode cX10_readLineOf 42 = .ok (.aload_n 0, 1) := by decide +kernel
theorem dX10_readLineOf_43 : decode cX10_readLineOf 43 = .ok (.iconst 2, 1) := by decide +kernel
theorem dX10_readLineOf_44 : decode cX10_readLineOf 44 = .ok (.bipush 9, 2) := by decide +kernel
theorem dX10_readLineOf_46 : decode cX10_readLineOf 46 = .ok (.invokevirtual 171, 3) := by decide +kernel
theorem dX10_readLineOf_49 : decode cX10_readLineOf 49 = .ok (.putfield 77, 3) := by decide +kernel
theorem dX10_readLineOf_52 : decode cX10_readLineOf 52 = .ok (.goto 142, 3) := by decide +kernel
theorem dX10_readLineOf_55 : decode cX10_readLineOf 55 = .ok (.aload_n 0, 1) := by decide +kernel
theorem dX10_readLineOf_56 : decode cX10_readLineOf 56 = .ok (.invokevirtual 161, 3) := by decide +kernel
theorem dX10_readLineOf_59 : decode cX10_readLineOf 59 = .ok (.istore_n 2, 1) := by decide +kernel
theorem dX10_readLineOf_60 : decode cX10_readLineOf 60 = .ok (.aload_n 0, 1) := by decide +kernel
theorem dX10_readLineOf_61 : decode cX10_readLineOf 61 = .ok (.aload_n 0, 1) := by decide +kernel
theorem dX10_readLineOf_62 : decode cX10_readLineOf 62 = .ok (.getfield 20, 3) := by decide +kernel
theorem dX10_readLineOf_65 : decode cX10_readLineOf 65 = .ok (.bipush 61, 2) := by decide +kernel
theorem dX10_readLineOf_67 : decode cX10_readLineOf 67 = .ok (.iaload, 1) := by decide +kernel
theorem dX10_readLineOf_68 : decode cX10_readLineOf 68 = .ok (.iload_n 2, 1) := by decide +kernel
theorem dX10_readLineOf_69 : decode cX10_readLineOf 69 = .ok (.ishr, 1) := by decide +kernel
theorem dX10_readLineOf_70 : decode cX10_readLineOf 70 = .ok (.iconst 1, 1) := by decide +kernel
theorem dX10_readLineOf_71 : decode cX10_readLineOf 71 = .ok (.iand, 1) := by decide +kernel
theorem dX10_readLineOf_72 : decode cX10_readLineOf 72 = .ok (.ifCond .ne 7, 3) := by decide +kernel
theorem dX10_readLineOf_75 : decode cX10_readLineOf 75 = .ok (.iconst 1, 1) := by decide +kernel
theorem dX10_readLineOf_76 : decode cX10_readLineOf 76 = .ok (.goto 4, 3) := by decide +kernel
theorem dX10_readLineOf_79 : decode cX10_readLineOf 79 = .ok (.iconst 0, 1) := by decide +kernel
theorem dX10_readLineOf_80 : decode cX10_readLineOf 80 = .ok (.iconst 4, 1) := by decide +kernel
theorem dX10_readLineOf_81 : decode cX10_readLineOf 81 = .ok (.invokevirtual 150, 3) := by decide +kernel
theorem dX10_readLineOf_84 : decode cX10_readLineOf 84 = .ok (.aload_n 0, 1) := by decide +kernel
theorem dX10_readLineOf_85 : decode cX10_readLineOf 85 = .ok (.getfield 20, 3) := by decide +kernel
theorem dX10_readLineOf_88 : decode cX10_readLineOf 88 = .ok (.bipush 61, 2) := by decide +kernel
theorem dX10_readLineOf_90 : decode cX10_readLineOf 90 = .ok (.dup2, 1) := by decide +kernel
theorem dX10_readLineOf_91 : decode cX10_readLineOf 91 = .ok (.iaload, 1) := by decide +kernel
theorem dX10_readLineOf_92 : decode cX10_readLineOf 92 = .ok (.iconst 1, 1) := by decide +kernel
theorem dX10_readLineOf_93 : decode cX10_readLineOf 93 = .ok (.iload_n 2, 1) := by decide +kernel
theorem dX10_readLineOf_94 : decode cX10_readLineOf 94 = .ok (.ishl, 1) := by decide +kernel
theorem dX10_readLineOf_95 : decode cX10_readLineOf 95 = .ok (.ior, 1) := by decide +kernel
theorem dX10_readLineOf_96 : decode cX10_readLineOf 96 = .ok (.iastore, 1) := by decide +kernel
theorem dX10_readLineOf_97 : decode cX10_readLineOf 97 = .ok (.aload_n 0, 1) := by decide +kernel
theorem dX10_readLineOf_98 : decode cX10_readLineOf 98 = .ok (.invokevirtual 158, 3) := by decide +kernel
theorem dX10_readLineOf_101 : decode cX10_readLineOf 101 = .ok (.goto 93, 3) := by decide +kernel
theorem dX10_readLineOf_104 : decode cX10_readLineOf 104 = .ok (.aload_n 0, 1) := by decide +kernel
theorem dX10_readLineOf_105 : decode cX10_readLineOf 105 = .ok (.invokevirtual 178, 3) := by decide +kernel
theorem dX10_readLineOf_108 : decode cX10_readLineOf 108 = .ok (.goto 86, 3) := by decide +kernel
theorem dX10_readLineOf_111 : decode cX10_readLineOf 111 = .ok (.aload_n 0, 1) := by decide +kernel
theorem dX10_readLineOf_112 : decode cX10_readLineOf 112 = .ok (.getfield 20, 3) := by decide +kernel
theorem dX10_readLineOf_115 : decode cX10_readLineOf 115 = .ok (.bipush 62, 2) := by decide +kernel
theorem dX10_readLineOf_117 : decode cX10_readLineOf 117 = .ok (.aload_n 0, 1) := by decide +kernel
theorem dX10_readLineOf_118 : decode cX10_readLineOf 118 = .ok (.getfield 81, 3) := by decide +kernel
theorem dX10_readLineOf_121 : decode cX10_readLineOf 121 = .ok (.iadd, 1) := by decide +kernel
theorem dX10_readLineOf_122 : decode cX10_readLineOf 122 = .ok (.aload_n 0, 1) := by decide +kernel
theorem dX10_readLineOf_123 : decode cX10_readLineOf 123 = .ok (.iconst 0, 1) := by decide +kernel
theorem dX10_readLineOf_124 : decode cX10_readLineOf 124 = .ok (.bipush 50, 2) := by decide +kernel
theorem dX10_readLineOf_126 : decode cX10_readLineOf 126 = .ok (.invokevirtual 171, 3) := by decide +kernel
theorem dX10_readLineOf_129 : decode cX10_readLineOf 129 = .ok (.iastore, 1) := by decide +kernel
theorem dX10_readLineOf_130 : decode cX10_readLineOf 130 = .ok (.aload_n 0, 1) := by decide +kernel
theorem dX10_readLineOf_131 : decode cX10_readLineOf 131 = .ok (.dup, 1) := by decide +kernel
theorem dX10_readLineOf_132 : decode cX10_readLineOf 132 = .ok (.getfield 81, 3) := by decide +kernel
theorem dX10_readLineOf_135 : decode cX10_readLineOf 135 = .ok (.iconst 1, 1) := by decide +kernel
theorem dX10_readLineOf_136 : decode cX10_readLineOf 136 = .ok (.iadd, 1) := by decide +kernel
theorem dX10_readLineOf_137 : decode cX10_readLineOf 137 = .ok (.putfield 81, 3) := by decide +kernel
theorem dX10_readLineOf_140 : decode cX10_readLineOf 140 = .ok (.goto 54, 3) := by decide +kernel
theorem dX10_readLineOf_143 : decode cX10_readLineOf 143 = .ok (.aload_n 0, 1) := by decide +kernel
theorem dX10_readLineOf_144 : decode cX10_readLineOf 144 = .ok (.invokevirtual 181, 3) := by decide +kernel
theorem dX10_readLineOf_147 : decode cX10_readLineOf 147 = .ok (.goto 47, 3) := by decide +kernel
theorem dX10_readLineOf_150 : decode cX10_readLineOf 150 = .ok (.aload_n 0, 1) := by decide +kernel
theorem dX10_readLineOf_151 : decode cX10_readLineOf 151 = .ok (.iconst 1, 1) := by decide +kernel
theorem dX10_readLineOf_152 : decode cX10_readLineOf 152 = .ok (.bipush 40, 2) := by decide +kernel
theorem dX10_readLineOf_154 : decode cX10_readLineOf 154 = .ok (.invokevirtual 154, 3) := by decide +kernel
theorem dX10_readLineOf_157 : decode cX10_readLineOf 157 = .ok (.istore_n 2, 1) := by decide +kernel
theorem dX10_readLineOf_158 : decode cX10_readLineOf 158 = .ok (.aload_n 0, 1) := by decide +kernel
theorem dX10_readLineOf_159 : decode cX10_readLineOf 159 = .ok (.aload_n 0, 1) := by decide +kernel
theorem dX10_readLineOf_160 : decode cX10_readLineOf 160 = .ok (.getfield 20, 3) := by decide +kernel
theorem dX10_readLineOf_163 : decode cX10_readLineOf 163 = .ok (.bipush 67, 2) := by decide +kernel
theorem dX10_readLineOf_165 : decode cX10_readLineOf 165 = .ok (.iload_n 2, 1) := by decide +kernel
theorem dX10_readLineOf_166 : decode cX10_readLineOf 166 = .ok (.iadd, 1) := by decide +kernel
theorem dX10_readLineOf_167 : decode cX10_readLineOf 167 = .ok (.iaload, 1) := by decide +kernel
theorem dX10_readLineOf_168 : decode cX10_readLineOf 168 = .ok (.ifCond .ne 7, 3) := by decide +kernel
theorem dX10_readLineOf_171 : decode cX10_readLineOf 171 = .ok (.iconst 1, 1) := by decide +kernel
theorem dX10_readLineOf_172 : decode cX10_readLineOf 172 = .ok (.goto 4, 3) := by decide +kernel
theorem dX10_readLineOf_175 : decode cX10_readLineOf 175 = .ok (.iconst 0, 1) := by decide +kernel
theorem dX10_readLineOf_176 : decode cX10_readLineOf 176 = .ok (.iconst 4, 1) := by decide +kernel
theorem dX10_readLineOf_177 : decode cX10_readLineOf 177 = .ok (.invokevirtual 150, 3) := by decide +kernel
theorem dX10_readLineOf_180 : decode cX10_readLineOf 180 = .ok (.aload_n 0, 1) := by decide +kernel
theorem dX10_readLineOf_181 : decode cX10_readLineOf 181 = .ok (.getfield 20, 3) := by decide +kernel
theorem dX10_readLineOf_184 : decode cX10_readLineOf 184 = .ok (.bipush 67, 2) := by decide +kernel
theorem dX10_readLineOf_186 : decode cX10_readLineOf 186 = .ok (.iload_n 2, 1) := by decide +kernel
theorem dX10_readLineOf_187 : decode cX10_readLineOf 187 = .ok (.iadd, 1) := by decide +kernel
theorem dX10_readLineOf_188 : decode cX10_readLineOf 188 = .ok (.iconst 1, 1) := by decide +kernel
theorem dX10_readLineOf_189 : decode cX10_readLineOf 189 = .ok (.iastore, 1) := by decide +kernel
theorem dX10_readLineOf_190 : decode cX10_readLineOf 190 = .ok (.aload_n 0, 1) := by decide +kernel
theorem dX10_readLineOf_191 : decode cX10_readLineOf 191 = .ok (.invokevirtual 158, 3) := by decide +kernel
theorem dX10_readLineOf_194 : decode cX10_readLineOf 194 = .ok (.return_, 1) := by decide +kernel
theorem dX10_readLine_0 : decode cX10_readLine 0 = .ok (.aload_n 0, 1) := by decide +kernel
theorem dX10_readLine_1 : decode cX10_readLine 1 = .ok (.getfield 136, 3) := by decide +kernel
theorem dX10_readLine_4 : decode cX10_readLine 4 = .ok (.iconst 1, 1) := by decide +kernel
theorem dX10_readLine_5 : decode cX10_readLine 5 = .ok (.if_icmp .ne 10, 3) := by decide +kernel
theorem dX10_readLine_8 : decode cX10_readLine 8 = .ok (.aload_n 0, 1) := by decide +kernel
theorem dX10_readLine_9 : decode cX10_readLine 9 = .ok (.invokevirtual 184, 3) := by decide +kernel
theorem dX10_readLine_12 : decode cX10_readLine 12 = .ok (.goto 5, 3) := by decide +kernel
theorem dX10_readLine_15 : decode cX10_readLine 15 = .ok (.bipush (-4), 2) := by decide +kernel
theorem dX10_readLine_17 : decode cX10_readLine 17 = .ok (.istore_n 1, 1) := by decide +kernel
theorem dX10_readLine_18 : decode cX10_readLine 18 = .ok (.aload_n 0, 1) := by decide +kernel
theorem dX10_readLine_19 : decode cX10_readLine 19 = .ok (.iload_n 1, 1) := by decide +kernel
theorem dX10_readLine_20 : decode cX10_readLine 20 = .ok (.bipush (-4), 2) := by decide +kernel
theorem dX10_readLine_22 : decode cX10_readLine 22 = .ok (.if_icmp .eq 7, 3) := by decide +kernel
theorem dX10_readLine_25 : decode cX10_readLine 25 = .ok (.iconst 1, 1) := by decide +kernel
theorem dX10_readLine_26 : decode cX10_readLine 26 = .ok (.goto 4, 3) := by decide +kernel
theorem dX10_readLine_29 : decode cX10_readLine 29 = .ok (.iconst 0, 1) := by decide +kernel
theorem dX10_readLine_30 : decode cX10_readLine 30 = .ok (.iconst 2, 1) := by decide +kernel
theorem dX10_readLine_31 : decode cX10_readLine 31 = .ok (.invokevirtual 150, 3) := by decide +kernel
theorem dX10_readLine_34 : decode cX10_readLine 34 = .ok (.aload_n 0, 1) := by decide +kernel
theorem dX10_readLine_35 : decode cX10_readLine 35 = .ok (.iload_n 1, 1) := by decide +kernel
theorem dX10_readLine_36 : decode cX10_readLine 36 = .ok (.iconst 2, 1) := by decide +kernel
theorem dX10_readLine_37 : decode cX10_readLine 37 = .ok (.if_icmp .ne 14, 3) := by decide +kernel
theorem dX10_readLine_40 : decode cX10_readLine 40 = .ok (.aload_n 0, 1) := by decide +kernel
theorem dX10_readLine_41 : decode cX10_readLine 41 = .ok (.getfield 20, 3) := by decide +kernel
theorem dX10_readLine_44 : decode cX10_readLine 44 = .ok (.iconst 0, 1) := by decide +kernel
theorem dX10_readLine_45 : decode cX10_readLine 45 = .ok (.iaload, 1) := by decide +kernel
theorem dX10_readLine_46 : decode cX10_readLine 46 = .ok (.bipush 12, 2) := by decide +kernel
theorem dX10_readLine_48 : decode cX10_readLine 48 = .ok (.if_icmp .ge 33, 3) := by decide +kernel
theorem dX10_readLine_51 : decode cX10_readLine 51 = .ok (.iload_n 1, 1) := by decide +kernel
theorem dX10_readLine_52 : decode cX10_readLine 52 = .ok (.iconst 3, 1) := by decide +kernel
theorem dX10_readLine_53 : decode cX10_readLine 53 = .ok (.if_icmp .ne 11, 3) := by decide +kernel
theorem dX10_readLine_56 : decode cX10_readLine 56 = .ok (.aload_n 0, 1) := by decide +kernel
theorem dX10_readLine_57 : decode cX10_readLine 57 = .ok (.getfield 81, 3) := by decide +kernel
theorem dX10_readLine_60 : decode cX10_readLine 60 = .ok (.iconst 5, 1) := by decide +kernel
theorem dX10_readLine_61 : decode cX10_readLine 61 = .ok (.if_icmp .ge 20, 3) := by decide +kernel
theorem dX10_readLine_64 : decode cX10_readLine 64 = .ok (.iload_n 1, 1) := by decide +kernel
theorem dX10_readLine_65 : decode cX10_readLine 65 = .ok (.iconst 4, 1) := by decide +kernel
theorem dX10_readLine_66 : decode cX10_readLine 66 = .ok (.if_icmp .ne 11, 3) := by decide +kernel
theorem dX10_readLine_69 : decode cX10_readLine 69 = .ok (.aload_n 0, 1) := by decide +kernel
theorem dX10_readLine_70 : decode cX10_readLine 70 = .ok (.getfield 84, 3) := by decide +kernel
theorem dX10_readLine_73 : decode cX10_readLine 73 = .ok (.iconst 5, 1) := by decide +kernel
theorem dX10_readLine_74 : decode cX10_readLine 74 = .ok (.if_icmp .ge 7, 3) := by decide +kernel
theorem dX10_readLine_77 : decode cX10_readLine 77 = .ok (.iconst 1, 1) := by decide +kernel
theorem dX10_readLine_78 : decode cX10_readLine 78 = .ok (.goto 4, 3) := by decide +kernel
theorem dX10_readLine_81 : decode cX10_readLine 81 = .ok (.iconst 0, 1) := by decide +kernel
theorem dX10_readLine_82 : decode cX10_readLine 82 = .ok (.iconst 5, 1) := by decide +kernel
theorem dX10_readLine_83 : decode cX10_readLine 83 = .ok (.invokevirtual 150, 3) := by decide +kernel
theorem dX10_readLine_86 : decode cX10_readLine 86 = .ok (.aload_n 0, 1) := by decide +kernel
theorem dX10_readLine_87 : decode cX10_readLine 87 = .ok (.iload_n 1, 1) := by decide +kernel
theorem dX10_readLine_88 : decode cX10_readLine 88 = .ok (.ifCond .ne 10, 3) := by decide +kernel
theorem dX10_readLine_91 : decode cX10_readLine 91 = .ok (.aload_n 0, 1) := by decide +kernel
theorem dX10_readLine_92 : decode cX10_readLine 92 = .ok (.getfield 87, 3) := by decide +kernel
theorem dX10_readLine_95 : decode cX10_readLine 95 = .ok (.ifCond .ne 7, 3) := by decide +kernel
theorem dX10_readLine_98 : decode cX10_readLine 98 = .ok (.iconst 1, 1) := by decide +kernel
theorem dX10_readLine_99 : decode cX10_readLine 99 = .ok (.goto 4, 3) := by decide +kernel
theorem dX10_readLine_102 : decode cX10_readLine 102 = .ok (.iconst 0, 1) := by decide +kernel
theorem dX10_readLine_103 : decode cX10_readLine 103 = .ok (.iconst 4, 1) := by decide +kernel
theorem dX10_readLine_104 : decode cX10_readLine 104 = .ok (.invokevirtual 150, 3) := by decide +kernel
theorem dX10_readLine_107 : decode cX10_readLine 107 = .ok (.aload_n 0, 1) := by decide +kernel
theorem dX10_readLine_108 : decode cX10_readLine 108 = .ok (.invokevirtual 158, 3) := by decide +kernel
theorem dX10_readLine_111 : decode cX10_readLine 111 = .ok (.aload_n 0, 1) := by decide +kernel
theorem dX10_readLine_112 : decode cX10_readLine 112 = .ok (.getfield 112, 3) := by decide +kernel
theorem dX10_readLine_115 : decode cX10_readLine 115 = .ok (.ifCond .le 4, 3) := by decide +kernel
theorem dX10_readLine_118 : decode cX10_readLine 118 = .ok (.return_, 1) := by decide +kernel
theorem dX10_readLine_119 : decode cX10_readLine 119 = .ok (.aload_n 0, 1) := by decide +kernel
theorem dX10_readLine_120 : decode cX10_readLine 120 = .ok (.iload_n 1, 1) := by decide +kernel
theorem dX10_readLine_121 : decode cX10_readLine 121 = .ok (.invokevirtual 187, 3) := by decide +kernel
theorem dX10_readLine_124 : decode cX10_readLine 124 = .ok (.aload_n 0, 1) := by decide +kernel
theorem dX10_readLine_125 : decode cX10_readLine 125 = .ok (.getfield 112, 3) := by decide +kernel
theorem dX10_readLine_128 : decode cX10_readLine 128 = .ok (.ifCond .ne 21, 3) := by decide +kernel
theorem dX10_readLine_131 : decode cX10_readLine 131 = .ok (.aload_n 0, 1) := by decide +kernel
theorem dX10_readLine_132 : decode cX10_readLine 132 = .ok (.aload_n 0, 1) := by decide +kernel
theorem dX10_readLine_133 : decode cX10_readLine 133 = .ok (.getfield 136, 3) := by decide +kernel
theorem dX10_readLine_136 : decode cX10_readLine 136 = .ok (.iconst 3, 1) := by decide +kernel
theorem dX10_readLine_137 : decode cX10_readLine 137 = .ok (.if_icmp .ne 7, 3) := by decide +kernel
theorem dX10_readLine_140 : decode cX10_readLine 140 = .ok (.iconst 1, 1) := by decide +kernel
theorem dX10_readLine_141 : decode cX10_readLine 141 = .ok (.goto 4, 3) := by decide +kernel
theorem dX10_readLine_144 : decode cX10_readLine 144 = .ok (.iconst 0, 1) := by decide +kernel
theorem dX10_readLine_145 : decode cX10_readLine 145 = .ok (.iconst 2, 1) := by decide +kernel
theorem dX10_readLine_146 : decode cX10_readLine 146 = .ok (.invokevirtual 150, 3) := by decide +kernel
theorem dX10_readLine_149 : decode cX10_readLine 149 = .ok (.aload_n 0, 1) := by decide +kernel
theorem dX10_readLine_150 : decode cX10_readLine 150 = .ok (.invokevirtual 158, 3) := by decide +kernel
theorem dX10_readLine_153 : decode cX10_readLine 153 = .ok (.return_, 1) := by decide +kernel
theorem dX10_text_0 : decode cX10_text 0 = .ok (.iconst 0, 1) := by decide +kernel
theorem dX10_text_1 : decode cX10_text 1 = .ok (.istore_n 1, 1) := by decide +kernel
theorem dX10_text_2 : decode cX10_text 2 = .ok (.aload_n 0, 1) := by decide +kernel
theorem dX10_text_3 : decode cX10_text 3 = .ok (.iconst 0, 1) := by decide +kernel
theorem dX10_text_4 : decode cX10_text 4 = .ok (.putfield 112, 3) := by decide +kernel
theorem dX10_text_7 : decode cX10_text 7 = .ok (.aload_n 0, 1) := by decide +kernel
theorem dX10_text_8 : decode cX10_text 8 = .ok (.iconst 0, 1) := by decide +kernel
theorem dX10_text_9 : decode cX10_text 9 = .ok (.putfield 121, 3) := by decide +kernel
theorem dX10_text_12 : decode cX10_text 12 = .ok (.aload_n 0, 1) := by decide +kernel
theorem dX10_text_13 : decode cX10_text 13 = .ok (.invokevirtual 71, 3) := by decide +kernel
theorem dX10_text_16 : decode cX10_text 16 = .ok (.aload_n 0, 1) := by decide +kernel
theorem dX10_text_17 : decode cX10_text 17 = .ok (.invokevirtual 158, 3) := by decide +kernel
theorem dX10_text_20 : decode cX10_text 20 = .ok (.aload_n 0, 1) := by decide +kernel
theorem dX10_text_21 : decode cX10_text 21 = .ok (.getfield 112, 3) := by decide +kernel
theorem dX10_text_24 : decode cX10_text 24 = .ok (.ifCond .ne 20, 3) := by decide +kernel
theorem dX10_text_27 : decode cX10_text 27 = .ok (.aload_n 0, 1) := by decide +kernel
theorem dX10_text_28 : decode cX10_text 28 = .ok (.getfield 136, 3) := by decide +kernel
theorem dX10_text_31 : decode cX10_text 31 = .ok (.ifCond .eq 13, 3) := by decide +kernel
theorem dX10_text_34 : decode cX10_text 34 = .ok (.aload_n 0, 1) := by decide +kernel
theorem dX10_text_35 : decode cX10_text 35 = .ok (.invokevirtual 191, 3) := by decide +kernel
theorem dX10_text_38 : decode cX10_text 38 = .ok (.iinc 1 1, 3) := by decide +kernel
theorem dX10_text_41 : decode cX10_text 41 = .ok (.goto (-21), 3) := by decide +kernel
theorem dX10_text_44 : decode cX10_text 44 = .ok (.aload_n 0, 1) := by decide +kernel
theorem dX10_text_45 : decode cX10_text 45 = .ok (.getfield 112, 3) := by decide +kernel
theorem dX10_text_48 : decode cX10_text 48 = .ok (.ifCond .ne 25, 3) := by decide +kernel
theorem dX10_text_51 : decode cX10_text 51 = .ok (.aload_n 0, 1) := by decide +kernel
theorem dX10_text_52 : decode cX10_text 52 = .ok (.aload_n 0, 1) := by decide +kernel
theorem dX10_text_53 : decode cX10_text 53 = .ok (.getfield 91, 3) := by decide +kernel
theorem dX10_text_56 : decode cX10_text 56 = .ok (.aload_n 0, 1) := by decide +kernel
theorem dX10_text_57 : decode cX10_text 57 = .ok (.getfield 77, 3) := by decide +kernel
theorem dX10_text_60 : decode cX10_text 60 = .ok (.if_icmp .ge 7, 3) := by decide +kernel
theorem dX10_text_63 : decode cX10_text 63 = .ok (.iconst 1, 1) := by decide +kernel
theorem dX10_text_64 : decode cX10_text 64 = .ok (.goto 4, 3) := by decide +kernel
theorem dX10_text_67 : decode cX10_text 67 = .ok (.iconst 0, 1) := by decide +kernel
theorem dX10_text_68 : decode cX10_text 68 = .ok (.bipush 6, 2) := by decide +kernel
theorem dX10_text_70 : decode cX10_text 70 = .ok (.invokevirtual 150, 3) := by decide +kernel
theorem dX10_text_73 : decode cX10_text 73 = .ok (.aload_n 0, 1) := by decide +kernel
theorem dX10_text_74 : decode cX10_text 74 = .ok (.iconst 0, 1) := by decide +kernel
theorem dX10_text_75 : decode cX10_text 75 = .ok (.putfield 103, 3) := by decide +kernel
theorem dX10_text_78 : decode cX10_text 78 = .ok (.aload_n 0, 1) := by decide +kernel
theorem dX10_text_79 : decode cX10_text 79 = .ok (.getfield 112, 3) := by decide +kernel
theorem dX10_text_82 : decode cX10_text 82 = .ok (.ifCond .le 11, 3) := by decide +kernel
theorem dX10_text_85 : decode cX10_text 85 = .ok (.bipush (-10), 2) := by decide +kernel
theorem dX10_text_87 : decode cX10_text 87 = .ok (.aload_n 0, 1) := by decide +kernel
theorem dX10_text_88 : decode cX10_text 88 = .ok (.getfield 118, 3) := by decide +kernel
theorem dX10_text_91 : decode cX10_text 91 = .ok (.isub, 1) := by decide +kernel
theorem dX10_text_92 : decode cX10_text 92 = .ok (.ireturn, 1) := by decide +kernel
theorem dX10_text_93 : decode cX10_text 93 = .ok (.aload_n 0, 1) := by decide +kernel
theorem dX10_text_94 : decode cX10_text 94 = .ok (.invokevirtual 74, 3) := by decide +kernel
theorem dX10_text_97 : decode cX10_text 97 = .ok (.iload_n 1, 1) := by decide +kernel
theorem dX10_text_98 : decode cX10_text 98 = .ok (.ireturn, 1) := by decide +kernel
theorem dX10_fault_0 : decode cX10_fault 0 = .ok (.aload_n 0, 1) := by decide +kernel
theorem dX10_fault_1 : decode cX10_fault 1 = .ok (.getfield 112, 3) := by decide +kernel
theorem dX10_fault_4 : decode cX10_fault 4 = .ok (.ireturn, 1) := by decide +kernel
theorem dX10_isPoint_0 : decode cX10_isPoint 0 = .ok (.iload_n 1, 1) := by decide +kernel
theorem dX10_isPoint_1 : decode cX10_isPoint 1 = .ok (.i2l, 1) := by decide +kernel
theorem dX10_isPoint_2 : decode cX10_isPoint 2 = .ok (.lconst 0, 1) := by decide +kernel
theorem dX10_isPoint_3 : decode cX10_isPoint 3 = .ok (.aload_n 0, 1) := by decide +kernel
theorem dX10_isPoint_4 : decode cX10_isPoint 4 = .ok (.getfield 94, 3) := by decide +kernel
theorem dX10_isPoint_7 : decode cX10_isPoint 7 = .ok (.iconst 1, 1) := by decide +kernel
theorem dX10_isPoint_8 : decode cX10_isPoint 8 = .ok (.isub, 1) := by decide +kernel
theorem dX10_isPoint_9 : decode cX10_isPoint 9 = .ok (.i2l, 1) := by decide +kernel
theorem dX10_isPoint_10 : decode cX10_isPoint 10 = .ok (.invokestatic 108, 3) := by decide +kernel
theorem dX10_isPoint_13 : decode cX10_isPoint 13 = .ok (.ireturn, 1) := by decide +kernel
theorem dX10_isLine_0 : decode cX10_isLine 0 = .ok (.iload_n 1, 1) := by decide +kernel
theorem dX10_isLine_1 : decode cX10_isLine 1 = .ok (.i2l, 1) := by decide +kernel
theorem dX10_isLine_2 : decode cX10_isLine 2 = .ok (.lconst 0, 1) := by decide +kernel
theorem dX10_isLine_3 : decode cX10_isLine 3 = .ok (.aload_n 0, 1) := by decide +kernel
theorem dX10_isLine_4 : decode cX10_isLine 4 = .ok (.getfield 7, 3) := by decide +kernel
theorem dX10_isLine_7 : decode cX10_isLine 7 = .ok (.iconst 0, 1) := by decide +kernel
theorem dX10_isLine_8 : decode cX10_isLine 8 = .ok (.iaload, 1) := by decide +kernel
theorem dX10_isLine_9 : decode cX10_isLine 9 = .ok (.iconst 1, 1) := by decide +kernel
theorem dX10_isLine_10 : decode cX10_isLine 10 = .ok (.isub, 1) := by decide +kernel
theorem dX10_isLine_11 : decode cX10_isLine 11 = .ok (.i2l, 1) := by decide +kernel
theorem dX10_isLine_12 : decode cX10_isLine 12 = .ok (.invokestatic 108, 3) := by decide +kernel
theorem dX10_isLine_15 : decode cX10_isLine 15 = .ok (.ireturn, 1) := by decide +kernel
theorem dX10_isOne_0 : decode cX10_isOne 0 = .ok (.iload_n 1, 1) := by decide +kernel
theorem dX10_isOne_1 : decode cX10_isOne 1 = .ok (.i2l, 1) := by decide +kernel
theorem dX10_isOne_2 : decode cX10_isOne 2 = .ok (.lconst 0, 1) := by decide +kernel
theorem dX10_isOne_3 : decode cX10_isOne 3 = .ok (.aload_n 0, 1) := by decide +kernel
theorem dX10_isOne_4 : decode cX10_isOne 4 = .ok (.getfield 100, 3) := by decide +kernel
theorem dX10_isOne_7 : decode cX10_isOne 7 = .ok (.iconst 1, 1) := by decide +kernel
theorem dX10_isOne_8 : decode cX10_isOne 8 = .ok (.isub, 1) := by decide +kernel
theorem dX10_isOne_9 : decode cX10_isOne 9 = .ok (.i2l, 1) := by decide +kernel
theorem dX10_isOne_10 : decode cX10_isOne 10 = .ok (.invokestatic 108, 3) := by decide +kernel
theorem dX10_isOne_13 : decode cX10_isOne 13 = .ok (.ireturn, 1) := by decide +kernel
theorem dX10_isDrawer_0 : decode cX10_isDrawer 0 = .ok (.iload_n 1, 1) := by decide +kernel
theorem dX10_isDrawer_1 : decode cX10_isDrawer 1 = .ok (.i2l, 1) := by decide +kernel
theorem dX10_isDrawer_2 : decode cX10_isDrawer 2 = .ok (.lconst 0, 1) := by decide +kernel
theorem dX10_isDrawer_3 : decode cX10_isDrawer 3 = .ok (.aload_n 0, 1) := by decide +kernel
theorem dX10_isDrawer_4 : decode cX10_isDrawer 4 = .ok (.getfield 97, 3) := by decide +kernel
theorem dX10_isDrawer_7 : decode cX10_isDrawer 7 = .ok (.iconst 1, 1) := by decide +kernel
theorem dX10_isDrawer_8 : decode cX10_isDrawer 8 = .ok (.isub, 1) := by decide +kernel
theorem dX10_isDrawer_9 : decode cX10_isDrawer 9 = .ok (.i2l, 1) := by decide +kernel
theorem dX10_isDrawer_10 : decode cX10_isDrawer 10 = .ok (.invokestatic 108, 3) := by decide +kernel
theorem dX10_isDrawer_13 : decode cX10_isDrawer 13 = .ok (.ireturn, 1) := by decide +kernel
theorem dX10_isRainy_0 : decode cX10_isRainy 0 = .ok (.iload_n 0, 1) := by decide +kernel
theorem dX10_isRainy_1 : decode cX10_isRainy 1 = .ok (.i2l, 1) := by decide +kernel
theorem dX10_isRainy_2 : decode cX10_isRainy 2 = .ok (.lconst 1, 1) := by decide +kernel
theorem dX10_isRainy_3 : decode cX10_isRainy 3 = .ok (.ldc2_w 194, 3) := by decide +kernel
theorem dX10_isRainy_6 : decode cX10_isRainy 6 = .ok (.invokestatic 108, 3) := by decide +kernel
theorem dX10_isRainy_9 : decode cX10_isRainy 9 = .ok (.ireturn, 1) := by decide +kernel
theorem dX10_of_0 : decode cX10_of 0 = .ok (.aload_n 0, 1) := by decide +kernel
theorem dX10_of_1 : decode cX10_of 1 = .ok (.getfield 7, 3) := by decide +kernel
theorem dX10_of_4 : decode cX10_of 4 = .ok (.iconst 1, 1) := by decide +kernel
theorem dX10_of_5 : decode cX10_of 5 = .ok (.iconst 5, 1) := by decide +kernel
theorem dX10_of_6 : decode cX10_of 6 = .ok (.iload_n 1, 1) := by decide +kernel
theorem dX10_of_7 : decode cX10_of 7 = .ok (.imul, 1) := by decide +kernel
theorem dX10_of_8 : decode cX10_of 8 = .ok (.iadd, 1) := by decide +kernel
theorem dX10_of_9 : decode cX10_of 9 = .ok (.iload_n 2, 1) := by decide +kernel
theorem dX10_of_10 : decode cX10_of 10 = .ok (.iadd, 1) := by decide +kernel
theorem dX10_of_11 : decode cX10_of 11 = .ok (.iaload, 1) := by decide +kernel
theorem dX10_of_12 : decode cX10_of 12 = .ok (.ireturn, 1) := by decide +kernel
theorem dX10_rule_0 : decode cX10_rule 0 = .ok (.iload_n 1, 1) := by decide +kernel
theorem dX10_rule_1 : decode cX10_rule 1 = .ok (.tableswitch 65 0 4 #[35, 40, 47, 52, 57], 35) := by decide +kernel
theorem dX10_rule_36 : decode cX10_rule 36 = .ok (.aload_n 0, 1) := by decide +kernel
theorem dX10_rule_37 : decode cX10_rule 37 = .ok (.getfield 94, 3) := by decide +kernel
theorem dX10_rule_40 : decode cX10_rule 40 = .ok (.ireturn, 1) := by decide +kernel
theorem dX10_rule_41 : decode cX10_rule 41 = .ok (.aload_n 0, 1) := by decide +kernel
theorem dX10_rule_42 : decode cX10_rule 42 = .ok (.getfield 7, 3) := by decide +kernel
theorem dX10_rule_45 : decode cX10_rule 45 = .ok (.iconst 0, 1) := by decide +kernel
theorem dX10_rule_46 : decode cX10_rule 46 = .ok (.iaload, 1) := by decide +kernel
theorem dX10_rule_47 : decode cX10_rule 47 = .ok (.ireturn, 1) := by decide +kernel
theorem dX10_rule_48 : decode cX10_rule 48 = .ok (.aload_n 0, 1) := by decide +kernel
theorem dX10_rule_49 : decode cX10_rule 49 = .ok (.getfield 97, 3) := by decide +kernel
theorem dX10_rule_52 : decode cX10_rule 52 = .ok (.ireturn, 1) := by decide +kernel
theorem dX10_rule_53 : decode cX10_rule 53 = .ok (.aload_n 0, 1) := by decide +kernel
theorem dX10_rule_54 : decode cX10_rule 54 = .ok (.getfield 100, 3) := by decide +kernel
theorem dX10_rule_57 : decode cX10_rule 57 = .ok (.ireturn, 1) := by decide +kernel
theorem dX10_rule_58 : decode cX10_rule 58 = .ok (.aload_n 0, 1) := by decide +kernel
theorem dX10_rule_59 : decode cX10_rule 59 = .ok (.getfield 7, 3) := by decide +kernel
theorem dX10_rule_62 : decode cX10_rule 62 = .ok (.bipush 61, 2) := by decide +kernel
theorem dX10_rule_64 : decode cX10_rule 64 = .ok (.iaload, 1) := by decide +kernel
theorem dX10_rule_65 : decode cX10_rule 65 = .ok (.ireturn, 1) := by decide +kernel
theorem dX10_rule_66 : decode cX10_rule 66 = .ok (.iconst (-1), 1) := by decide +kernel
theorem dX10_rule_67 : decode cX10_rule 67 = .ok (.ireturn, 1) := by decide +kernel
theorem dX10_line_0 : decode cX10_line 0 = .ok (.aload_n 0, 1) := by decide +kernel
theorem dX10_line_1 : decode cX10_line 1 = .ok (.iload_n 1, 1) := by decide +kernel
theorem dX10_line_2 : decode cX10_line 2 = .ok (.invokevirtual 196, 3) := by decide +kernel
theorem dX10_line_5 : decode cX10_line 5 = .ok (.ifCond .eq 24, 3) := by decide +kernel
theorem dX10_line_8 : decode cX10_line 8 = .ok (.iload_n 2, 1) := by decide +kernel
theorem dX10_line_9 : decode cX10_line 9 = .ok (.i2l, 1) := by decide +kernel
theorem dX10_line_10 : decode cX10_line 10 = .ok (.lconst 0, 1) := by decide +kernel
theorem dX10_line_11 : decode cX10_line 11 = .ok (.ldc2_w 200, 3) := by decide +kernel
theorem dX10_line_14 : decode cX10_line 14 = .ok (.invokestatic 108, 3) := by decide +kernel
theorem dX10_line_17 : decode cX10_line 17 = .ok (.ifCond .eq 12, 3) := by decide +kernel
theorem dX10_line_20 : decode cX10_line 20 = .ok (.aload_n 0, 1) := by decide +kernel
theorem dX10_line_21 : decode cX10_line 21 = .ok (.iload_n 1, 1) := by decide +kernel
theorem dX10_line_22 : decode cX10_line 22 = .ok (.iload_n 2, 1) := by decide +kernel
theorem dX10_line_23 : decode cX10_line 23 = .ok (.invokevirtual 202, 3) := by decide +kernel
theorem dX10_line_26 : decode cX10_line 26 = .ok (.goto 4, 3) := by decide +kernel
theorem dX10_line_29 : decode cX10_line 29 = .ok (.iconst (-1), 1) := by decide +kernel
theorem dX10_line_30 : decode cX10_line 30 = .ok (.ireturn, 1) := by decide +kernel
theorem dX10_chalk_0 : decode cX10_chalk 0 = .ok (.aload_n 0, 1) := by decide +kernel
theorem dX10_chalk_1 : decode cX10_chalk 1 = .ok (.iload_n 1, 1) := by decide +kernel
theorem dX10_chalk_2 : decode cX10_chalk 2 = .ok (.invokevirtual 205, 3) := by decide +kernel
theorem dX10_chalk_5 : decode cX10_chalk 5 = .ok (.ifCond .eq 15, 3) := by decide +kernel
theorem dX10_chalk_8 : decode cX10_chalk 8 = .ok (.aload_n 0, 1) := by decide +kernel
theorem dX10_chalk_9 : decode cX10_chalk 9 = .ok (.getfield 7, 3) := by decide +kernel
theorem dX10_chalk_12 : decode cX10_chalk 12 = .ok (.bipush 62, 2) := by decide +kernel
theorem dX10_chalk_14 : decode cX10_chalk 14 = .ok (.iload_n 1, 1) := by decide +kernel
theorem dX10_chalk_15 : decode cX10_chalk 15 = .ok (.iadd, 1) := by decide +kernel
theorem dX10_chalk_16 : decode cX10_chalk 16 = .ok (.iaload, 1) := by decide +kernel
theorem dX10_chalk_17 : decode cX10_chalk 17 = .ok (.goto 4, 3) := by decide +kernel
theorem dX10_chalk_20 : decode cX10_chalk 20 = .ok (.iconst (-1), 1) := by decide +kernel
theorem dX10_chalk_21 : decode cX10_chalk 21 = .ok (.ireturn, 1) := by decide +kernel
theorem dX10_one_0 : decode cX10_one 0 = .ok (.aload_n 0, 1) := by decide +kernel
theorem dX10_one_1 : decode cX10_one 1 = .ok (.iload_n 1, 1) := by decide +kernel
theorem dX10_one_2 : decode cX10_one 2 = .ok (.invokevirtual 208, 3) := by decide +kernel
theorem dX10_one_5 : decode cX10_one 5 = .ok (.ifCond .eq 28, 3) := by decide +kernel
theorem dX10_one_8 : decode cX10_one 8 = .ok (.iload_n 2, 1) := by decide +kernel
theorem dX10_one_9 : decode cX10_one 9 = .ok (.i2l, 1) := by decide +kernel
theorem dX10_one_10 : decode cX10_one 10 = .ok (.lconst 0, 1) := by decide +kernel
theorem dX10_one_11 : decode cX10_one 11 = .ok (.ldc2_w 211, 3) := by decide +kernel
theorem dX10_one_14 : decode cX10_one 14 = .ok (.invokestatic 108, 3) := by decide +kernel
theorem dX10_one_17 : decode cX10_one 17 = .ok (.ifCond .eq 16, 3) := by decide +kernel
theorem dX10_one_20 : decode cX10_one 20 = .ok (.aload_n 0, 1) := by decide +kernel
theorem dX10_one_21 : decode cX10_one 21 = .ok (.getfield 17, 3) := by decide +kernel
theorem dX10_one_24 : decode cX10_one 24 = .ok (.iconst 3, 1) := by decide +kernel
theorem dX10_one_25 : decode cX10_one 25 = .ok (.iload_n 1, 1) := by decide +kernel
theorem dX10_one_26 : decode cX10_one 26 = .ok (.imul, 1) := by decide +kernel
theorem dX10_one_27 : decode cX10_one 27 = .ok (.iload_n 2, 1) := by decide +kernel
theorem dX10_one_28 : decode cX10_one 28 = .ok (.iadd, 1) := by decide +kernel
theorem dX10_one_29 : decode cX10_one 29 = .ok (.iaload, 1) := by decide +kernel
theorem dX10_one_30 : decode cX10_one 30 = .ok (.goto 4, 3) := by decide +kernel
theorem dX10_one_33 : decode cX10_one 33 = .ok (.iconst (-1), 1) := by decide +kernel
theorem dX10_one_34 : decode cX10_one 34 = .ok (.ireturn, 1) := by decide +kernel
theorem dX10_rain_0 : decode cX10_rain 0 = .ok (.iload_n 1, 1) := by decide +kernel
theorem dX10_rain_1 : decode cX10_rain 1 = .ok (.invokestatic 213, 3) := by decide +kernel
theorem dX10_rain_4 : decode cX10_rain 4 = .ok (.ifCond .eq 15, 3) := by decide +kernel
theorem dX10_rain_7 : decode cX10_rain 7 = .ok (.aload_n 0, 1) := by decide +kernel
theorem dX10_rain_8 : decode cX10_rain 8 = .ok (.getfield 7, 3) := by decide +kernel
theorem dX10_rain_11 : decode cX10_rain 11 = .ok (.bipush 67, 2) := by decide +kernel
theorem dX10_rain_13 : decode cX10_rain 13 = .ok (.iload_n 1, 1) := by decide +kernel
theorem dX10_rain_14 : decode cX10_rain 14 = .ok (.iadd, 1) := by decide +kernel
theorem dX10_rain_15 : decode cX10_rain 15 = .ok (.iaload, 1) := by decide +kernel
theorem dX10_rain_16 : decode cX10_rain 16 = .ok (.goto 4, 3) := by decide +kernel
theorem dX10_rain_19 : decode cX10_rain 19 = .ok (.iconst (-1), 1) := by decide +kernel
theorem dX10_rain_20 : decode cX10_rain 20 = .ok (.ireturn, 1) := by decide +kernel
theorem dX10_draw_0 : decode cX10_draw 0 = .ok (.aload_n 0, 1) := by decide +kernel
theorem dX10_draw_1 : decode cX10_draw 1 = .ok (.iload_n 1, 1) := by decide +kernel
theorem dX10_draw_2 : decode cX10_draw 2 = .ok (.invokevirtual 205, 3) := by decide +kernel
theorem dX10_draw_5 : decode cX10_draw 5 = .ok (.ifCond .eq 11, 3) := by decide +kernel
theorem dX10_draw_8 : decode cX10_draw 8 = .ok (.aload_n 0, 1) := by decide +kernel
theorem dX10_draw_9 : decode cX10_draw 9 = .ok (.iload_n 2, 1) := by decide +kernel
theorem dX10_draw_10 : decode cX10_draw 10 = .ok (.invokevirtual 196, 3) := by decide +kernel
theorem dX10_draw_13 : decode cX10_draw 13 = .ok (.ifCond .ne 5, 3) := by decide +kernel
theorem dX10_draw_16 : decode cX10_draw 16 = .ok (.iconst (-1), 1) := by decide +kernel
theorem dX10_draw_17 : decode cX10_draw 17 = .ok (.ireturn, 1) := by decide +kernel
theorem dX10_draw_18 : decode cX10_draw 18 = .ok (.aload_n 0, 1) := by decide +kernel
theorem dX10_draw_19 : decode cX10_draw 19 = .ok (.getfield 7, 3) := by decide +kernel
theorem dX10_draw_22 : decode cX10_draw 22 = .ok (.bipush 62, 2) := by decide +kernel
theorem dX10_draw_24 : decode cX10_draw 24 = .ok (.iload_n 1, 1) := by decide +kernel
theorem dX10_draw_25 : decode cX10_draw 25 = .ok (.iadd, 1) := by decide +kernel
theorem dX10_draw_26 : decode cX10_draw 26 = .ok (.iaload, 1) := by decide +kernel
theorem dX10_draw_27 : decode cX10_draw 27 = .ok (.aload_n 0, 1) := by decide +kernel
theorem dX10_draw_28 : decode cX10_draw 28 = .ok (.iload_n 2, 1) := by decide +kernel
theorem dX10_draw_29 : decode cX10_draw 29 = .ok (.iconst 2, 1) := by decide +kernel
theorem dX10_draw_30 : decode cX10_draw 30 = .ok (.invokevirtual 202, 3) := by decide +kernel
theorem dX10_draw_33 : decode cX10_draw 33 = .ok (.if_icmp .ge 6, 3) := by decide +kernel
theorem dX10_draw_36 : decode cX10_draw 36 = .ok (.bipush (-2), 2) := by decide +kernel
theorem dX10_draw_38 : decode cX10_draw 38 = .ok (.ireturn, 1) := by decide +kernel
theorem dX10_draw_39 : decode cX10_draw 39 = .ok (.aload_n 0, 1) := by decide +kernel
theorem dX10_draw_40 : decode cX10_draw 40 = .ok (.getfield 7, 3) := by decide +kernel
theorem dX10_draw_43 : decode cX10_draw 43 = .ok (.bipush 62, 2) := by decide +kernel
theorem dX10_draw_45 : decode cX10_draw 45 = .ok (.iload_n 1, 1) := by decide +kernel
theorem dX10_draw_46 : decode cX10_draw 46 = .ok (.iadd, 1) := by decide +kernel
theorem dX10_draw_47 : decode cX10_draw 47 = .ok (.dup2, 1) := by decide +kernel
theorem dX10_draw_48 : decode cX10_draw 48 = .ok (.iaload, 1) := by decide +kernel
theorem dX10_draw_49 : decode cX10_draw 49 = .ok (.aload_n 0, 1) := by decide +kernel
theorem dX10_draw_50 : decode cX10_draw 50 = .ok (.iload_n 2, 1) := by decide +kernel
theorem dX10_draw_51 : decode cX10_draw 51 = .ok (.iconst 2, 1) := by decide +kernel
theorem dX10_draw_52 : decode cX10_draw 52 = .ok (.invokevirtual 202, 3) := by decide +kernel
theorem dX10_draw_55 : decode cX10_draw 55 = .ok (.isub, 1) := by decide +kernel
theorem dX10_draw_56 : decode cX10_draw 56 = .ok (.iastore, 1) := by decide +kernel
theorem dX10_draw_57 : decode cX10_draw 57 = .ok (.aload_n 0, 1) := by decide +kernel
theorem dX10_draw_58 : decode cX10_draw 58 = .ok (.getfield 7, 3) := by decide +kernel
theorem dX10_draw_61 : decode cX10_draw 61 = .ok (.iconst 1, 1) := by decide +kernel
theorem dX10_draw_62 : decode cX10_draw 62 = .ok (.iconst 5, 1) := by decide +kernel
theorem dX10_draw_63 : decode cX10_draw 63 = .ok (.iload_n 2, 1) := by decide +kernel
theorem dX10_draw_64 : decode cX10_draw 64 = .ok (.imul, 1) := by decide +kernel
theorem dX10_draw_65 : decode cX10_draw 65 = .ok (.iadd, 1) := by decide +kernel
theorem dX10_draw_66 : decode cX10_draw 66 = .ok (.iconst 3, 1) := by decide +kernel
theorem dX10_draw_67 : decode cX10_draw 67 = .ok (.iadd, 1) := by decide +kernel
theorem dX10_draw_68 : decode cX10_draw 68 = .ok (.bipush 9, 2) := by decide +kernel
theorem dX10_draw_70 : decode cX10_draw 70 = .ok (.iastore, 1) := by decide +kernel
theorem dX10_draw_71 : decode cX10_draw 71 = .ok (.aload_n 0, 1) := by decide +kernel
theorem dX10_draw_72 : decode cX10_draw 72 = .ok (.getfield 7, 3) := by decide +kernel
theorem dX10_draw_75 : decode cX10_draw 75 = .ok (.bipush 62, 2) := by decide +kernel
theorem dX10_draw_77 : decode cX10_draw 77 = .ok (.iload_n 1, 1) := by decide +kernel
theorem dX10_draw_78 : decode cX10_draw 78 = .ok (.iadd, 1) := by decide +kernel
theorem dX10_draw_79 : decode cX10_draw 79 = .ok (.iaload, 1) := by decide +kernel
theorem dX10_draw_80 : decode cX10_draw 80 = .ok (.ireturn, 1) := by decide +kernel
theorem dX10_rub_0 : decode cX10_rub 0 = .ok (.aload_n 0, 1) := by decide +kernel
theorem dX10_rub_1 : decode cX10_rub 1 = .ok (.iload_n 1, 1) := by decide +kernel
theorem dX10_rub_2 : decode cX10_rub 2 = .ok (.invokevirtual 196, 3) := by decide +kernel
theorem dX10_rub_5 : decode cX10_rub 5 = .ok (.ifCond .eq 15, 3) := by decide +kernel
theorem dX10_rub_8 : decode cX10_rub 8 = .ok (.iload_n 2, 1) := by decide +kernel
theorem dX10_rub_9 : decode cX10_rub 9 = .ok (.i2l, 1) := by decide +kernel
theorem dX10_rub_10 : decode cX10_rub 10 = .ok (.lconst 0, 1) := by decide +kernel
theorem dX10_rub_11 : decode cX10_rub 11 = .ok (.ldc2_w 216, 3) := by decide +kernel
theorem dX10_rub_14 : decode cX10_rub 14 = .ok (.invokestatic 108, 3) := by decide +kernel
theorem dX10_rub_17 : decode cX10_rub 17 = .ok (.ifCond .ne 5, 3) := by decide +kernel
theorem dX10_rub_20 : decode cX10_rub 20 = .ok (.iconst (-1), 1) := by decide +kernel
theorem dX10_rub_21 : decode cX10_rub 21 = .ok (.ireturn, 1) := by decide +kernel
theorem dX10_rub_22 : decode cX10_rub 22 = .ok (.aload_n 0, 1) := by decide +kernel
theorem dX10_rub_23 : decode cX10_rub 23 = .ok (.iload_n 1, 1) := by decide +kernel
theorem dX10_rub_24 : decode cX10_rub 24 = .ok (.iconst 3, 1) := by decide +kernel
theorem dX10_rub_25 : decode cX10_rub 25 = .ok (.invokevirtual 202, 3) := by decide +kernel
theorem dX10_rub_28 : decode cX10_rub 28 = .ok (.istore_n 3, 1) := by decide +kernel
theorem dX10_rub_29 : decode cX10_rub 29 = .ok (.aload_n 0, 1) := by decide +kernel
theorem dX10_rub_30 : decode cX10_rub 30 = .ok (.getfield 7, 3) := by decide +kernel
theorem dX10_rub_33 : decode cX10_rub 33 = .ok (.iconst 1, 1) := by decide +kernel
theorem dX10_rub_34 : decode cX10_rub 34 = .ok (.iconst 5, 1) := by decide +kernel
theorem dX10_rub_35 : decode cX10_rub 35 = .ok (.iload_n 1, 1) := by decide +kernel
theorem dX10_rub_36 : decode cX10_rub 36 = .ok (.imul, 1) := by decide +kernel
theorem dX10_rub_37 : decode cX10_rub 37 = .ok (.iadd, 1) := by decide +kernel
theorem dX10_rub_38 : decode cX10_rub 38 = .ok (.iconst 3, 1) := by decide +kernel
theorem dX10_rub_39 : decode cX10_rub 39 = .ok (.iadd, 1) := by decide +kernel
theorem dX10_rub_40 : decode cX10_rub 40 = .ok (.iload_n 2, 1) := by decide +kernel
theorem dX10_rub_41 : decode cX10_rub 41 = .ok (.iastore, 1) := by decide +kernel
theorem dX10_rub_42 : decode cX10_rub 42 = .ok (.iload_n 3, 1) := by decide +kernel
theorem dX10_rub_43 : decode cX10_rub 43 = .ok (.ireturn, 1) := by decide +kernel
theorem dX10_wet_0 : decode cX10_wet 0 = .ok (.iconst 0, 1) := by decide +kernel
theorem dX10_wet_1 : decode cX10_wet 1 = .ok (.istore_n 1, 1) := by decide +kernel
theorem dX10_wet_2 : decode cX10_wet 2 = .ok (.iconst 0, 1) := by decide +kernel
theorem dX10_wet_3 : decode cX10_wet 3 = .ok (.istore_n 2, 1) := by decide +kernel
theorem dX10_wet_4 : decode cX10_wet 4 = .ok (.iload_n 2, 1) := by decide +kernel
theorem dX10_wet_5 : decode cX10_wet 5 = .ok (.aload_n 0, 1) := by decide +kernel
theorem dX10_wet_6 : decode cX10_wet 6 = .ok (.getfield 7, 3) := by decide +kernel
theorem dX10_wet_9 : decode cX10_wet 9 = .ok (.iconst 0, 1) := by decide +kernel
theorem dX10_wet_10 : decode cX10_wet 10 = .ok (.iaload, 1) := by decide +kernel
theorem dX10_wet_11 : decode cX10_wet 11 = .ok (.if_icmp .ge 62, 3) := by decide +kernel
theorem dX10_wet_14 : decode cX10_wet 14 = .ok (.aload_n 0, 1) := by decide +kernel
theorem dX10_wet_15 : decode cX10_wet 15 = .ok (.iload_n 2, 1) := by decide +kernel
theorem dX10_wet_16 : decode cX10_wet 16 = .ok (.iconst 4, 1) := by decide +kernel
theorem dX10_wet_17 : decode cX10_wet 17 = .ok (.invokevirtual 202, 3) := by decide +kernel
theorem dX10_wet_20 : decode cX10_wet 20 = .ok (.ifCond .ne 47, 3) := by decide +kernel
theorem dX10_wet_23 : decode cX10_wet 23 = .ok (.aload_n 0, 1) := by decide +kernel
theorem dX10_wet_24 : decode cX10_wet 24 = .ok (.iload_n 2, 1) := by decide +kernel
theorem dX10_wet_25 : decode cX10_wet 25 = .ok (.iconst 3, 1) := by decide +kernel
theorem dX10_wet_26 : decode cX10_wet 26 = .ok (.invokevirtual 202, 3) := by decide +kernel
theorem dX10_wet_29 : decode cX10_wet 29 = .ok (.ifCond .le 38, 3) := by decide +kernel
theorem dX10_wet_32 : decode cX10_wet 32 = .ok (.aload_n 0, 1) := by decide +kernel
theorem dX10_wet_33 : decode cX10_wet 33 = .ok (.getfield 7, 3) := by decide +kernel
theorem dX10_wet_36 : decode cX10_wet 36 = .ok (.iconst 1, 1) := by decide +kernel
theorem dX10_wet_37 : decode cX10_wet 37 = .ok (.iconst 5, 1) := by decide +kernel
theorem dX10_wet_38 : decode cX10_wet 38 = .ok (.iload_n 2, 1) := by decide +kernel
theorem dX10_wet_39 : decode cX10_wet 39 = .ok (.imul, 1) := by decide +kernel
theorem dX10_wet_40 : decode cX10_wet 40 = .ok (.iadd, 1) := by decide +kernel
theorem dX10_wet_41 : decode cX10_wet 41 = .ok (.iconst 3, 1) := by decide +kernel
theorem dX10_wet_42 : decode cX10_wet 42 = .ok (.iadd, 1) := by decide +kernel
theorem dX10_wet_43 : decode cX10_wet 43 = .ok (.dup2, 1) := by decide +kernel
theorem dX10_wet_44 : decode cX10_wet 44 = .ok (.iaload, 1) := by decide +kernel
theorem dX10_wet_45 : decode cX10_wet 45 = .ok (.iconst 1, 1) := by decide +kernel
theorem dX10_wet_46 : decode cX10_wet 46 = .ok (.isub, 1) := by decide +kernel
theorem dX10_wet_47 : decode cX10_wet 47 = .ok (.iastore, 1) := by decide +kernel
theorem dX10_wet_48 : decode cX10_wet 48 = .ok (.iload_n 1, 1) := by decide +kernel
theorem dX10_wet_49 : decode cX10_wet 49 = .ok (.aload_n 0, 1) := by decide +kernel
theorem dX10_wet_50 : decode cX10_wet 50 = .ok (.iload_n 2, 1) := by decide +kernel
theorem dX10_wet_51 : decode cX10_wet 51 = .ok (.iconst 3, 1) := by decide +kernel
theorem dX10_wet_52 : decode cX10_wet 52 = .ok (.invokevirtual 202, 3) := by decide +kernel
theorem dX10_wet_55 : decode cX10_wet 55 = .ok (.ifCond .ne 9, 3) := by decide +kernel
theorem dX10_wet_58 : decode cX10_wet 58 = .ok (.iconst 1, 1) := by decide +kernel
theorem dX10_wet_59 : decode cX10_wet 59 = .ok (.iload_n 2, 1) := by decide +kernel
theorem dX10_wet_60 : decode cX10_wet 60 = .ok (.ishl, 1) := by decide +kernel
theorem dX10_wet_61 : decode cX10_wet 61 = .ok (.goto 4, 3) := by decide +kernel
theorem dX10_wet_64 : decode cX10_wet 64 = .ok (.iconst 0, 1) := by decide +kernel
theorem dX10_wet_65 : decode cX10_wet 65 = .ok (.ior, 1) := by decide +kernel
theorem dX10_wet_66 : decode cX10_wet 66 = .ok (.istore_n 1, 1) := by decide +kernel
theorem dX10_wet_67 : decode cX10_wet 67 = .ok (.iinc 2 1, 3) := by decide +kernel
theorem dX10_wet_70 : decode cX10_wet 70 = .ok (.goto (-66), 3) := by decide +kernel
theorem dX10_wet_73 : decode cX10_wet 73 = .ok (.iload_n 1, 1) := by decide +kernel
theorem dX10_wet_74 : decode cX10_wet 74 = .ok (.ireturn, 1) := by decide +kernel
theorem dX10_cloud_0 : decode cX10_cloud 0 = .ok (.iload_n 1, 1) := by decide +kernel
theorem dX10_cloud_1 : decode cX10_cloud 1 = .ok (.invokestatic 213, 3) := by decide +kernel
theorem dX10_cloud_4 : decode cX10_cloud 4 = .ok (.ifCond .ne 5, 3) := by decide +kernel
theorem dX10_cloud_7 : decode cX10_cloud 7 = .ok (.iconst (-1), 1) := by decide +kernel
theorem dX10_cloud_8 : decode cX10_cloud 8 = .ok (.ireturn, 1) := by decide +kernel
theorem dX10_cloud_9 : decode cX10_cloud 9 = .ok (.aload_n 0, 1) := by decide +kernel
theorem dX10_cloud_10 : decode cX10_cloud 10 = .ok (.getfield 7, 3) := by decide +kernel
theorem dX10_cloud_13 : decode cX10_cloud 13 = .ok (.bipush 67, 2) := by decide +kernel
theorem dX10_cloud_15 : decode cX10_cloud 15 = .ok (.iload_n 1, 1) := by decide +kernel
theorem dX10_cloud_16 : decode cX10_cloud 16 = .ok (.iadd, 1) := by decide +kernel
theorem dX10_cloud_17 : decode cX10_cloud 17 = .ok (.iaload, 1) := by decide +kernel
theorem dX10_cloud_18 : decode cX10_cloud 18 = .ok (.istore_n 3, 1) := by decide +kernel
theorem dX10_cloud_19 : decode cX10_cloud 19 = .ok (.aload_n 0, 1) := by decide +kernel
theorem dX10_cloud_20 : decode cX10_cloud 20 = .ok (.getfield 7, 3) := by decide +kernel
theorem dX10_cloud_23 : decode cX10_cloud 23 = .ok (.bipush 67, 2) := by decide +kernel
theorem dX10_cloud_25 : decode cX10_cloud 25 = .ok (.iload_n 1, 1) := by decide +kernel
theorem dX10_cloud_26 : decode cX10_cloud 26 = .ok (.iadd, 1) := by decide +kernel
theorem dX10_cloud_27 : decode cX10_cloud 27 = .ok (.iload_n 2, 1) := by decide +kernel
theorem dX10_cloud_28 : decode cX10_cloud 28 = .ok (.invokestatic 218, 3) := by decide +kernel
theorem dX10_cloud_31 : decode cX10_cloud 31 = .ok (.iastore, 1) := by decide +kernel
theorem dX10_cloud_32 : decode cX10_cloud 32 = .ok (.iload_n 3, 1) := by decide +kernel
theorem dX10_cloud_33 : decode cX10_cloud 33 = .ok (.ireturn, 1) := by decide +kernel
theorem dX10_build_0 : decode cX10_build 0 = .ok (.aload_n 0, 1) := by decide +kernel
theorem dX10_build_1 : decode cX10_build 1 = .ok (.iload_n 1, 1) := by decide +kernel
theorem dX10_build_2 : decode cX10_build 2 = .ok (.invokevirtual 222, 3) := by decide +kernel
theorem dX10_build_5 : decode cX10_build 5 = .ok (.ifCond .ne 5, 3) := by decide +kernel
theorem dX10_build_8 : decode cX10_build 8 = .ok (.iconst (-1), 1) := by decide +kernel
theorem dX10_build_9 : decode cX10_build 9 = .ok (.ireturn, 1) := by decide +kernel
theorem dX10_build_10 : decode cX10_build 10 = .ok (.aload_n 0, 1) := by decide +kernel
theorem dX10_build_11 : decode cX10_build 11 = .ok (.getfield 7, 3) := by decide +kernel
theorem dX10_build_14 : decode cX10_build 14 = .ok (.bipush 61, 2) := by decide +kernel
theorem dX10_build_16 : decode cX10_build 16 = .ok (.iaload, 1) := by decide +kernel
theorem dX10_build_17 : decode cX10_build 17 = .ok (.iload_n 1, 1) := by decide +kernel
theorem dX10_build_18 : decode cX10_build 18 = .ok (.ishr, 1) := by decide +kernel
theorem dX10_build_19 : decode cX10_build 19 = .ok (.iconst 1, 1) := by decide +kernel
theorem dX10_build_20 : decode cX10_build 20 = .ok (.iand, 1) := by decide +kernel
theorem dX10_build_21 : decode cX10_build 21 = .ok (.istore_n 3, 1) := by decide +kernel
theorem dX10_build_22 : decode cX10_build 22 = .ok (.aload_n 0, 1) := by decide +kernel
theorem dX10_build_23 : decode cX10_build 23 = .ok (.getfield 7, 3) := by decide +kernel
theorem dX10_build_26 : decode cX10_build 26 = .ok (.bipush 61, 2) := by decide +kernel
theorem dX10_build_28 : decode cX10_build 28 = .ok (.iload_n 2, 1) := by decide +kernel
theorem dX10_build_29 : decode cX10_build 29 = .ok (.ifCond .eq 17, 3) := by decide +kernel
theorem dX10_build_32 : decode cX10_build 32 = .ok (.aload_n 0, 1) := by decide +kernel
theorem dX10_build_33 : decode cX10_build 33 = .ok (.getfield 7, 3) := by decide +kernel
theorem dX10_build_36 : decode cX10_build 36 = .ok (.bipush 61, 2) := by decide +kernel
theorem dX10_build_38 : decode cX10_build 38 = .ok (.iaload, 1) := by decide +kernel
theorem dX10_build_39 : decode cX10_build 39 = .ok (.iconst 1, 1) := by decide +kernel
theorem dX10_build_40 : decode cX10_build 40 = .ok (.iload_n 1, 1) := by decide +kernel
theorem dX10_build_41 : decode cX10_build 41 = .ok (.ishl, 1) := by decide +kernel
theorem dX10_build_42 : decode cX10_build 42 = .ok (.ior, 1) := by decide +kernel
theorem dX10_build_43 : decode cX10_build 43 = .ok (.goto 16, 3) := by decide +kernel
theorem dX10_build_46 : decode cX10_build 46 = .ok (.aload_n 0, 1) := by decide +kernel
theorem dX10_build_47 : decode cX10_build 47 = .ok (.getfield 7, 3) := by decide +kernel
theorem dX10_build_50 : decode cX10_build 50 = .ok (.bipush 61, 2) := by decide +kernel
theorem dX10_build_52 : decode cX10_build 52 = .ok (.iaload, 1) := by decide +kernel
theorem dX10_build_53 : decode cX10_build 53 = .ok (.iconst 1, 1) := by decide +kernel
theorem dX10_build_54 : decode cX10_build 54 = .ok (.iload_n 1, 1) := by decide +kernel
theorem dX10_build_55 : decode cX10_build 55 = .ok (.ishl, 1) := by decide +kernel
theorem dX10_build_56 : decode cX10_build 56 = .ok (.iconst (-1), 1) := by decide +kernel
theorem dX10_build_57 : decode cX10_build 57 = .ok (.ixor, 1) := by decide +kernel
theorem dX10_build_58 : decode cX10_build 58 = .ok (.iand, 1) := by decide +kernel
theorem dX10_build_59 : decode cX10_build 59 = .ok (.iastore, 1) := by decide +kernel
theorem dX10_build_60 : decode cX10_build 60 = .ok (.iload_n 3, 1) := by decide +kernel
theorem dX10_build_61 : decode cX10_build 61 = .ok (.ireturn, 1) := by decide +kernel
theorem dX10_plan_0 : decode cX10_plan 0 = .ok (.aload_n 0, 1) := by decide +kernel
theorem dX10_plan_1 : decode cX10_plan 1 = .ok (.iload_n 1, 1) := by decide +kernel
theorem dX10_plan_2 : decode cX10_plan 2 = .ok (.invokevirtual 222, 3) := by decide +kernel
theorem dX10_plan_5 : decode cX10_plan 5 = .ok (.ifCond .eq 28, 3) := by decide +kernel
theorem dX10_plan_8 : decode cX10_plan 8 = .ok (.aload_n 0, 1) := by decide +kernel
theorem dX10_plan_9 : decode cX10_plan 9 = .ok (.iload_n 2, 1) := by decide +kernel
theorem dX10_plan_10 : decode cX10_plan 10 = .ok (.invokevirtual 222, 3) := by decide +kernel
theorem dX10_plan_13 : decode cX10_plan 13 = .ok (.ifCond .eq 20, 3) := by decide +kernel
theorem dX10_plan_16 : decode cX10_plan 16 = .ok (.iload_n 1, 1) := by decide +kernel
theorem dX10_plan_17 : decode cX10_plan 17 = .ok (.iload_n 2, 1) := by decide +kernel
theorem dX10_plan_18 : decode cX10_plan 18 = .ok (.if_icmp .eq 15, 3) := by decide +kernel
theorem dX10_plan_21 : decode cX10_plan 21 = .ok (.iload_n 3, 1) := by decide +kernel
theorem dX10_plan_22 : decode cX10_plan 22 = .ok (.i2l, 1) := by decide +kernel
theorem dX10_plan_23 : decode cX10_plan 23 = .ok (.lconst 1, 1) := by decide +kernel
theorem dX10_plan_24 : decode cX10_plan 24 = .ok (.ldc2_w 216, 3) := by decide +kernel
theorem dX10_plan_27 : decode cX10_plan 27 = .ok (.invokestatic 108, 3) := by decide +kernel
theorem dX10_plan_30 : decode cX10_plan 30 = .ok (.ifCond .ne 5, 3) := by decide +kernel
theorem dX10_plan_33 : decode cX10_plan 33 = .ok (.iconst (-1), 1) := by decide +kernel
theorem dX10_plan_34 : decode cX10_plan 34 = .ok (.ireturn, 1) := by decide +kernel
theorem dX10_plan_35 : decode cX10_plan 35 = .ok (.aload_n 0, 1) := by decide +kernel
theorem dX10_plan_36 : decode cX10_plan 36 = .ok (.getfield 7, 3) := by decide +kernel
theorem dX10_plan_39 : decode cX10_plan 39 = .ok (.iconst 0, 1) := by decide +kernel
theorem dX10_plan_40 : decode cX10_plan 40 = .ok (.iaload, 1) := by decide +kernel
theorem dX10_plan_41 : decode cX10_plan 41 = .ok (.bipush 12, 2) := by decide +kernel
theorem dX10_plan_43 : decode cX10_plan 43 = .ok (.if_icmp .ne 6, 3) := by decide +kernel
theorem dX10_plan_46 : decode cX10_plan 46 = .ok (.bipush (-3), 2) := by decide +kernel
theorem dX10_plan_48 : decode cX10_plan 48 = .ok (.ireturn, 1) := by decide +kernel
theorem dX10_plan_49 : decode cX10_plan 49 = .ok (.iconst 1, 1) := by decide +kernel
theorem dX10_plan_50 : decode cX10_plan 50 = .ok (.iconst 5, 1) := by decide +kernel
theorem dX10_plan_51 : decode cX10_plan 51 = .ok (.aload_n 0, 1) := by decide +kernel
theorem dX10_plan_52 : decode cX10_plan 52 = .ok (.getfield 7, 3) := by decide +kernel
theorem dX10_plan_55 : decode cX10_plan 55 = .ok (.iconst 0, 1) := by decide +kernel
theorem dX10_plan_56 : decode cX10_plan 56 = .ok (.iaload, 1) := by decide +kernel
theorem dX10_plan_57 : decode cX10_plan 57 = .ok (.imul, 1) := by decide +kernel
theorem dX10_plan_58 : decode cX10_plan 58 = .ok (.iadd, 1) := by decide +kernel
theorem dX10_plan_59 : decode cX10_plan 59 = .ok (.istore 4, 2) := by decide +kernel
theorem dX10_plan_61 : decode cX10_plan 61 = .ok (.aload_n 0, 1) := by decide +kernel
theorem dX10_plan_62 : decode cX10_plan 62 = .ok (.getfield 7, 3) := by decide +kernel
theorem dX10_plan_65 : decode cX10_plan 65 = .ok (.iload 4, 2) := by decide +kernel
theorem dX10_plan_67 : decode cX10_plan 67 = .ok (.iconst 0, 1) := by decide +kernel
theorem dX10_plan_68 : decode cX10_plan 68 = .ok (.iadd, 1) := by decide +kernel
theorem dX10_plan_69 : decode cX10_plan 69 = .ok (.iload_n 1, 1) := by decide +kernel
theorem dX10_plan_70 : decode cX10_plan 70 = .ok (.iastore, 1) := by decide +kernel
theorem dX10_plan_71 : decode cX10_plan 71 = .ok (.aload_n 0, 1) := by decide +kernel
theorem dX10_plan_72 : decode cX10_plan 72 = .ok (.getfield 7, 3) := by decide +kernel
theorem dX10_plan_75 : decode cX10_plan 75 = .ok (.iload 4, 2) := by decide +kernel
theorem dX10_plan_77 : decode cX10_plan 77 = .ok (.iconst 1, 1) := by decide +kernel
theorem dX10_plan_78 : decode cX10_plan 78 = .ok (.iadd, 1) := by decide +kernel
theorem dX10_plan_79 : decode cX10_plan 79 = .ok (.iload_n 2, 1) := by decide +kernel
theorem dX10_plan_80 : decode cX10_plan 80 = .ok (.iastore, 1) := by decide +kernel
theorem dX10_plan_81 : decode cX10_plan 81 = .ok (.aload_n 0, 1) := by decide +kernel
theorem dX10_plan_82 : decode cX10_plan 82 = .ok (.getfield 7, 3) := by decide +kernel
theorem dX10_plan_85 : decode cX10_plan 85 = .ok (.iload 4, 2) := by decide +kernel
theorem dX10_plan_87 : decode cX10_plan 87 = .ok (.iconst 2, 1) := by decide +kernel
theorem dX10_plan_88 : decode cX10_plan 88 = .ok (.iadd, 1) := by decide +kernel
theorem dX10_plan_89 : decode cX10_plan 89 = .ok (.iload_n 3, 1) := by decide +kernel
theorem dX10_plan_90 : decode cX10_plan 90 = .ok (.iastore, 1) := by decide +kernel
theorem dX10_plan_91 : decode cX10_plan 91 = .ok (.aload_n 0, 1) := by decide +kernel
theorem dX10_plan_92 : decode cX10_plan 92 = .ok (.getfield 7, 3) := by decide +kernel
theorem dX10_plan_95 : decode cX10_plan 95 = .ok (.iload 4, 2) := by decide +kernel
theorem dX10_plan_97 : decode cX10_plan 97 = .ok (.iconst 3, 1) := by decide +kernel
theorem dX10_plan_98 : decode cX10_plan 98 = .ok (.iadd, 1) := by decide +kernel
theorem dX10_plan_99 : decode cX10_plan 99 = .ok (.iconst 0, 1) := by decide +kernel
theorem dX10_plan_100 : decode cX10_plan 100 = .ok (.iastore, 1) := by decide +kernel
theorem dX10_plan_101 : decode cX10_plan 101 = .ok (.aload_n 0, 1) := by decide +kernel
theorem dX10_plan_102 : decode cX10_plan 102 = .ok (.getfield 7, 3) := by decide +kernel
theorem dX10_plan_105 : decode cX10_plan 105 = .ok (.iload 4, 2) := by decide +kernel
theorem dX10_plan_107 : decode cX10_plan 107 = .ok (.iconst 4, 1) := by decide +kernel
theorem dX10_plan_108 : decode cX10_plan 108 = .ok (.iadd, 1) := by decide +kernel
theorem dX10_plan_109 : decode cX10_plan 109 = .ok (.iconst 0, 1) := by decide +kernel
theorem dX10_plan_110 : decode cX10_plan 110 = .ok (.iastore, 1) := by decide +kernel
theorem dX10_plan_111 : decode cX10_plan 111 = .ok (.aload_n 0, 1) := by decide +kernel
theorem dX10_plan_112 : decode cX10_plan 112 = .ok (.getfield 7, 3) := by decide +kernel
theorem dX10_plan_115 : decode cX10_plan 115 = .ok (.iconst 0, 1) := by decide +kernel
theorem dX10_plan_116 : decode cX10_plan 116 = .ok (.dup2, 1) := by decide +kernel
theorem dX10_plan_117 : decode cX10_plan 117 = .ok (.iaload, 1) := by decide +kernel
theorem dX10_plan_118 : decode cX10_plan 118 = .ok (.iconst 1, 1) := by decide +kernel
theorem dX10_plan_119 : decode cX10_plan 119 = .ok (.iadd, 1) := by decide +kernel
theorem dX10_plan_120 : decode cX10_plan 120 = .ok (.iastore, 1) := by decide +kernel
theorem dX10_plan_121 : decode cX10_plan 121 = .ok (.aload_n 0, 1) := by decide +kernel
theorem dX10_plan_122 : decode cX10_plan 122 = .ok (.getfield 7, 3) := by decide +kernel
theorem dX10_plan_125 : decode cX10_plan 125 = .ok (.iconst 0, 1) := by decide +kernel
theorem dX10_plan_126 : decode cX10_plan 126 = .ok (.iaload, 1) := by decide +kernel
theorem dX10_plan_127 : decode cX10_plan 127 = .ok (.iconst 1, 1) := by decide +kernel
theorem dX10_plan_128 : decode cX10_plan 128 = .ok (.isub, 1) := by decide +kernel
theorem dX10_plan_129 : decode cX10_plan 129 = .ok (.ireturn, 1) := by decide +kernel
theorem dX10_strongNow_0 : decode cX10_strongNow 0 = .ok (.iconst 0, 1) := by decide +kernel
theorem dX10_strongNow_1 : decode cX10_strongNow 1 = .ok (.istore_n 1, 1) := by decide +kernel
theorem dX10_strongNow_2 : decode cX10_strongNow 2 = .ok (.iload_n 1, 1) := by decide +kernel
theorem dX10_strongNow_3 : decode cX10_strongNow 3 = .ok (.aload_n 0, 1) := by decide +kernel
theorem dX10_strongNow_4 : decode cX10_strongNow 4 = .ok (.getfield 7, 3) := by decide +kernel
theorem dX10_strongNow_7 : decode cX10_strongNow 7 = .ok (.iconst 0, 1) := by decide +kernel
theorem dX10_strongNow_8 : decode cX10_strongNow 8 = .ok (.iaload, 1) := by decide +kernel
theorem dX10_strongNow_9 : decode cX10_strongNow 9 = .ok (.if_icmp .ge 21, 3) := by decide +kernel
theorem dX10_strongNow_12 : decode cX10_strongNow 12 = .ok (.aload_n 0, 1) := by decide +kernel
theorem dX10_strongNow_13 : decode cX10_strongNow 13 = .ok (.getfield 29, 3) := by decide +kernel
theorem dX10_strongNow_16 : decode cX10_strongNow 16 = .ok (.iload_n 1, 1) := by decide +kernel
theorem dX10_strongNow_17 : decode cX10_strongNow 17 = .ok (.aload_n 0, 1) := by decide +kernel
theorem dX10_strongNow_18 : decode cX10_strongNow 18 = .ok (.iload_n 1, 1) := by decide +kernel
theorem dX10_strongNow_19 : decode cX10_strongNow 19 = .ok (.iconst 3, 1) := by decide +kernel
theorem dX10_strongNow_20 : decode cX10_strongNow 20 = .ok (.invokevirtual 202, 3) := by decide +kernel
theorem dX10_strongNow_23 : decode cX10_strongNow 23 = .ok (.iastore, 1) := by decide +kernel
theorem dX10_strongNow_24 : decode cX10_strongNow 24 = .ok (.iinc 1 1, 3) := by decide +kernel
theorem dX10_strongNow_27 : decode cX10_strongNow 27 = .ok (.goto (-25), 3) := by decide +kernel
theorem dX10_strongNow_30 : decode cX10_strongNow 30 = .ok (.return_, 1) := by decide +kernel
theorem dX10_otherEnd_0 : decode cX10_otherEnd 0 = .ok (.aload_n 0, 1) := by decide +kernel
theorem dX10_otherEnd_1 : decode cX10_otherEnd 1 = .ok (.iload_n 1, 1) := by decide +kernel
theorem dX10_otherEnd_2 : decode cX10_otherEnd 2 = .ok (.iconst 0, 1) := by decide +kernel
theorem dX10_otherEnd_3 : decode cX10_otherEnd 3 = .ok (.invokevirtual 202, 3) := by decide +kernel
theorem dX10_otherEnd_6 : decode cX10_otherEnd 6 = .ok (.iload_n 2, 1) := by decide +kernel
theorem dX10_otherEnd_7 : decode cX10_otherEnd 7 = .ok (.if_icmp .ne 12, 3) := by decide +kernel
theorem dX10_otherEnd_10 : decode cX10_otherEnd 10 = .ok (.aload_n 0, 1) := by decide +kernel
theorem dX10_otherEnd_11 : decode cX10_otherEnd 11 = .ok (.iload_n 1, 1) := by decide +kernel
theorem dX10_otherEnd_12 : decode cX10_otherEnd 12 = .ok (.iconst 1, 1) := by decide +kernel
theorem dX10_otherEnd_13 : decode cX10_otherEnd 13 = .ok (.invokevirtual 202, 3) := by decide +kernel
theorem dX10_otherEnd_16 : decode cX10_otherEnd 16 = .ok (.goto 24, 3) := by decide +kernel
theorem dX10_otherEnd_19 : decode cX10_otherEnd 19 = .ok (.aload_n 0, 1) := by decide +kernel
theorem dX10_otherEnd_20 : decode cX10_otherEnd 20 = .ok (.iload_n 1, 1) := by decide +kernel
theorem dX10_otherEnd_21 : decode cX10_otherEnd 21 = .ok (.iconst 1, 1) := by decide +kernel
theorem dX10_otherEnd_22 : decode cX10_otherEnd 22 = .ok (.invokevirtual 202, 3) := by decide +kernel
theorem dX10_otherEnd_25 : decode cX10_otherEnd 25 = .ok (.iload_n 2, 1) := by decide +kernel
theorem dX10_otherEnd_26 : decode cX10_otherEnd 26 = .ok (.if_icmp .ne 12, 3) := by decide +kernel
theorem dX10_otherEnd_29 : decode cX10_otherEnd 29 = .ok (.aload_n 0, 1) := by decide +kernel
theorem dX10_otherEnd_30 : decode cX10_otherEnd 30 = .ok (.iload_n 1, 1) := by decide +kernel
theorem dX10_otherEnd_31 : decode cX10_otherEnd 31 = .ok (.iconst 0, 1) := by decide +kernel
theorem dX10_otherEnd_32 : decode cX10_otherEnd 32 = .ok (.invokevirtual 202, 3) := by decide +kernel
theorem dX10_otherEnd_35 : decode cX10_otherEnd 35 = .ok (.goto 5, 3) := by decide +kernel
theorem dX10_otherEnd_38 : decode cX10_otherEnd 38 = .ok (.bipush (-4), 2) := by decide +kernel
theorem dX10_otherEnd_40 : decode cX10_otherEnd 40 = .ok (.ireturn, 1) := by decide +kernel
theorem dX10_findLeast_0 : decode cX10_findLeast 0 = .ok (.iconst 0, 1) := by decide +kernel
theorem dX10_findLeast_1 : decode cX10_findLeast 1 = .ok (.istore_n 2, 1) := by decide +kernel
theorem dX10_findLeast_2 : decode cX10_findLeast 2 = .ok (.iload_n 2, 1) := by decide +kernel
theorem dX10_findLeast_3 : decode cX10_findLeast 3 = .ok (.bipush 9, 2) := by decide +kernel
theorem dX10_findLeast_5 : decode cX10_findLeast 5 = .ok (.if_icmp .ge 26, 3) := by decide +kernel
theorem dX10_findLeast_8 : decode cX10_findLeast 8 = .ok (.aload_n 0, 1) := by decide +kernel
theorem dX10_findLeast_9 : decode cX10_findLeast 9 = .ok (.getfield 32, 3) := by decide +kernel
theorem dX10_findLeast_12 : decode cX10_findLeast 12 = .ok (.iload_n 2, 1) := by decide +kernel
theorem dX10_findLeast_13 : decode cX10_findLeast 13 = .ok (.iload_n 2, 1) := by decide +kernel
theorem dX10_findLeast_14 : decode cX10_findLeast 14 = .ok (.iload_n 1, 1) := by decide +kernel
theorem dX10_findLeast_15 : decode cX10_findLeast 15 = .ok (.if_icmp .ne 7, 3) := by decide +kernel
theorem dX10_findLeast_18 : decode cX10_findLeast 18 = .ok (.iconst 0, 1) := by decide +kernel
theorem dX10_findLeast_19 : decode cX10_findLeast 19 = .ok (.goto 5, 3) := by decide +kernel
theorem dX10_findLeast_22 : decode cX10_findLeast 22 = .ok (.ldc 225, 2) := by decide +kernel
theorem dX10_findLeast_24 : decode cX10_findLeast 24 = .ok (.iastore, 1) := by decide +kernel
theorem dX10_findLeast_25 : decode cX10_findLeast 25 = .ok (.iinc 2 1, 3) := by decide +kernel
theorem dX10_findLeast_28 : decode cX10_findLeast 28 = .ok (.goto (-26), 3) := by decide +kernel
theorem dX10_findLeast_31 : decode cX10_findLeast 31 = .ok (.iconst 1, 1) := by decide +kernel
theorem dX10_findLeast_32 : decode cX10_findLeast 32 = .ok (.istore_n 2, 1) := by decide +kernel
theorem dX10_findLeast_33 : decode cX10_findLeast 33 = .ok (.iload_n 2, 1) := by decide +kernel
theorem dX10_findLeast_34 : decode cX10_findLeast 34 = .ok (.ifCond .eq 132, 3) := by decide +kernel
theorem dX10_findLeast_37 : decode cX10_findLeast 37 = .ok (.iconst 0, 1) := by decide +kernel
theorem dX10_findLeast_38 : decode cX10_findLeast 38 = .ok (.istore_n 2, 1) := by decide +kernel
theorem dX10_findLeast_39 : decode cX10_findLeast 39 = .ok (.iconst 0, 1) := by decide +kernel
theorem dX10_findLeast_40 : decode cX10_findLeast 40 = .ok (.istore_n 3, 1) := by decide +kernel
theorem dX10_findLeast_41 : decode cX10_findLeast 41 = .ok (.iload_n 3, 1) := by decide +kernel
theorem dX10_findLeast_42 : decode cX10_findLeast 42 = .ok (.aload_n 0, 1) := by decide +kernel
theorem dX10_findLeast_43 : decode cX10_findLeast 43 = .ok (.getfield 7, 3) := by decide +kernel
theorem dX10_findLeast_46 : decode cX10_findLeast 46 = .ok (.iconst 0, 1) := by decide +kernel
theorem dX10_findLeast_47 : decode cX10_findLeast 47 = .ok (.iaload, 1) := by decide +kernel
theorem dX10_findLeast_48 : decode cX10_findLeast 48 = .ok (.if_icmp .ge 115, 3) := by decide +kernel
theorem dX10_findLeast_51 : decode cX10_findLeast 51 = .ok (.iconst 0, 1) := by decide +kernel
theorem dX10_findLeast_52 : decode cX10_findLeast 52 = .ok (.istore 4, 2) := by decide +kernel
theorem dX10_findLeast_54 : decode cX10_findLeast 54 = .ok (.iload 4, 2) := by decide +kernel
theorem dX10_findLeast_56 : decode cX10_findLeast 56 = .ok (.iconst 2, 1) := by decide +kernel
theorem dX10_findLeast_57 : decode cX10_findLeast 57 = .ok (.if_icmp .ge 100, 3) := by decide +kernel
theorem dX10_findLeast_60 : decode cX10_findLeast 60 = .ok (.aload_n 0, 1) := by decide +kernel
theorem dX10_findLeast_61 : decode cX10_findLeast 61 = .ok (.getfield 29, 3) := by decide +kernel
theorem dX10_findLeast_64 : decode cX10_findLeast 64 = .ok (.iload_n 3, 1) := by decide +kernel
theorem dX10_findLeast_65 : decode cX10_findLeast 65 = .ok (.iaload, 1) := by decide +kernel
theorem dX10_findLeast_66 : decode cX10_findLeast 66 = .ok (.ifCond .le 91, 3) := by decide +kernel
theorem dX10_findLeast_69 : decode cX10_findLeast 69 = .ok (.aload_n 0, 1) := by decide +kernel
theorem dX10_findLeast_70 : decode cX10_findLeast 70 = .ok (.iload_n 3, 1) := by decide +kernel
theorem dX10_findLeast_71 : decode cX10_findLeast 71 = .ok (.iload 4, 2) := by decide +kernel
theorem dX10_findLeast_73 : decode cX10_findLeast 73 = .ok (.invokevirtual 202, 3) := by decide +kernel
theorem dX10_findLeast_76 : decode cX10_findLeast 76 = .ok (.istore 5, 2) := by decide +kernel
theorem dX10_findLeast_78 : decode cX10_findLeast 78 = .ok (.aload_n 0, 1) := by decide +kernel
theorem dX10_findLeast_79 : decode cX10_findLeast 79 = .ok (.iload_n 3, 1) := by decide +kernel
theorem dX10_findLeast_80 : decode cX10_findLeast 80 = .ok (.iconst 1, 1) := by decide +kernel
theorem dX10_findLeast_81 : decode cX10_findLeast 81 = .ok (.iload 4, 2) := by decide +kernel
theorem dX10_findLeast_83 : decode cX10_findLeast 83 = .ok (.isub, 1) := by decide +kernel
theorem dX10_findLeast_84 : decode cX10_findLeast 84 = .ok (.invokevirtual 202, 3) := by decide +kernel
theorem dX10_findLeast_87 : decode cX10_findLeast 87 = .ok (.istore 6, 2) := by decide +kernel
theorem dX10_findLeast_89 : decode cX10_findLeast 89 = .ok (.aload_n 0, 1) := by decide +kernel
theorem dX10_findLeast_90 : decode cX10_findLeast 90 = .ok (.getfield 32, 3) := by decide +kernel
theorem dX10_findLeast_93 : decode cX10_findLeast 93 = .ok (.iload 6, 2) := by decide +kernel
theorem dX10_findLeast_95 : decode cX10_findLeast 95 = .ok (.iaload, 1) := by decide +kernel
theorem dX10_findLeast_96 : decode cX10_findLeast 96 = .ok (.ldc 225, 2) := by decide +kernel
theorem dX10_findLeast_98 : decode cX10_findLeast 98 = .ok (.if_icmp .ne 8, 3) := by decide +kernel
theorem dX10_findLeast_101 : decode cX10_findLeast 101 = .ok (.ldc 225, 2) := by decide +kernel
theorem dX10_findLeast_103 : decode cX10_findLeast 103 = .ok (.goto 23, 3) := by decide +kernel
theorem dX10_findLeast_106 : decode cX10_findLeast 106 = .ok (.aload_n 0, 1) := by decide +kernel
theorem dX10_findLeast_107 : decode cX10_findLeast 107 = .ok (.getfield 32, 3) := by decide +kernel
theorem dX10_findLeast_110 : decode cX10_findLeast 110 = .ok (.iload 6, 2) := by decide +kernel
theorem dX10_findLeast_112 : decode cX10_findLeast 112 = .ok (.iaload, 1) := by decide +kernel
theorem dX10_findLeast_113 : decode cX10_findLeast 113 = .ok (.sipush 1000, 3) := by decide +kernel
theorem dX10_findLeast_116 : decode cX10_findLeast 116 = .ok (.aload_n 0, 1) := by decide +kernel
theorem dX10_findLeast_117 : decode cX10_findLeast 117 = .ok (.iload_n 3, 1) := by decide +kernel
theorem dX10_findLeast_118 : decode cX10_findLeast 118 = .ok (.iconst 2, 1) := by decide +kernel
theorem dX10_findLeast_119 : decode cX10_findLeast 119 = .ok (.invokevirtual 202, 3) := by decide +kernel
theorem dX10_findLeast_122 : decode cX10_findLeast 122 = .ok (.imul, 1) := by decide +kernel
theorem dX10_findLeast_123 : decode cX10_findLeast 123 = .ok (.iadd, 1) := by decide +kernel
theorem dX10_findLeast_124 : decode cX10_findLeast 124 = .ok (.iconst 1, 1) := by decide +kernel
theorem dX10_findLeast_125 : decode cX10_findLeast 125 = .ok (.iadd, 1) := by decide +kernel
theorem dX10_findLeast_126 : decode cX10_findLeast 126 = .ok (.istore 7, 2) := by decide +kernel
theorem dX10_findLeast_128 : decode cX10_findLeast 128 = .ok (.iload 7, 2) := by decide +kernel
theorem dX10_findLeast_130 : decode cX10_findLeast 130 = .ok (.aload_n 0, 1) := by decide +kernel
theorem dX10_findLeast_131 : decode cX10_findLeast 131 = .ok (.getfield 32, 3) := by decide +kernel
theorem dX10_findLeast_134 : decode cX10_findLeast 134 = .ok (.iload 5, 2) := by decide +kernel
theorem dX10_findLeast_136 : decode cX10_findLeast 136 = .ok (.iaload, 1) := by decide +kernel
theorem dX10_findLeast_137 : decode cX10_findLeast 137 = .ok (.if_icmp .ge 14, 3) := by decide +kernel
theorem dX10_findLeast_140 : decode cX10_findLeast 140 = .ok (.aload_n 0, 1) := by decide +kernel
theorem dX10_findLeast_141 : decode cX10_findLeast 141 = .ok (.getfield 32, 3) := by decide +kernel
theorem dX10_findLeast_144 : decode cX10_findLeast 144 = .ok (.iload 5, 2) := by decide +kernel
theorem dX10_findLeast_146 : decode cX10_findLeast 146 = .ok (.iload 7, 2) := by decide +kernel
theorem dX10_findLeast_148 : decode cX10_findLeast 148 = .ok (.iastore, 1) := by decide +kernel
theorem dX10_findLeast_149 : decode cX10_findLeast 149 = .ok (.iconst 1, 1) := by decide +kernel
theorem dX10_findLeast_150 : decode cX10_findLeast 150 = .ok (.istore_n 2, 1) := by decide +kernel
theorem dX10_findLeast_151 : decode cX10_findLeast 151 = .ok (.iinc 4 1, 3) := by decide +kernel
theorem dX10_findLeast_154 : decode cX10_findLeast 154 = .ok (.goto (-100), 3) := by decide +kernel
theorem dX10_findLeast_157 : decode cX10_findLeast 157 = .ok (.iinc 3 1, 3) := by decide +kernel
theorem dX10_findLeast_160 : decode cX10_findLeast 160 = .ok (.goto (-119), 3) := by decide +kernel
theorem dX10_findLeast_163 : decode cX10_findLeast 163 = .ok (.goto (-130), 3) := by decide +kernel
theorem dX10_findLeast_166 : decode cX10_findLeast 166 = .ok (.return_, 1) := by decide +kernel
theorem dX10_firstLine_0 : decode cX10_firstLine 0 = .ok (.iconst 0, 1) := by decide +kernel
theorem dX10_firstLine_1 : decode cX10_firstLine 1 = .ok (.istore_n 2, 1) := by decide +kernel
theorem dX10_firstLine_2 : decode cX10_firstLine 2 = .ok (.iload_n 2, 1) := by decide +kernel
theorem dX10_firstLine_3 : decode cX10_firstLine 3 = .ok (.aload_n 0, 1) := by decide +kernel
theorem dX10_firstLine_4 : decode cX10_firstLine 4 = .ok (.getfield 7, 3) := by decide +kernel
theorem dX10_firstLine_7 : decode cX10_firstLine 7 = .ok (.iconst 0, 1) := by decide +kernel
theorem dX10_firstLine_8 : decode cX10_firstLine 8 = .ok (.iaload, 1) := by decide +kernel
theorem dX10_firstLine_9 : decode cX10_firstLine 9 = .ok (.if_icmp .ge 77, 3) := by decide +kernel
theorem dX10_firstLine_12 : decode cX10_firstLine 12 = .ok (.aload_n 0, 1) := by decide +kernel
theorem dX10_firstLine_13 : decode cX10_firstLine 13 = .ok (.getfield 29, 3) := by decide +kernel
theorem dX10_firstLine_16 : decode cX10_firstLine 16 = .ok (.iload_n 2, 1) := by decide +kernel
theorem dX10_firstLine_17 : decode cX10_firstLine 17 = .ok (.iaload, 1) := by decide +kernel
theorem dX10_firstLine_18 : decode cX10_firstLine 18 = .ok (.ifCond .le 12, 3) := by decide +kernel
theorem dX10_firstLine_21 : decode cX10_firstLine 21 = .ok (.aload_n 0, 1) := by decide +kernel
theorem dX10_firstLine_22 : decode cX10_firstLine 22 = .ok (.iload_n 2, 1) := by decide +kernel
theorem dX10_firstLine_23 : decode cX10_firstLine 23 = .ok (.iload_n 1, 1) := by decide +kernel
theorem dX10_firstLine_24 : decode cX10_firstLine 24 = .ok (.invokevirtual 226, 3) := by decide +kernel
theorem dX10_firstLine_27 : decode cX10_firstLine 27 = .ok (.goto 5, 3) := by decide +kernel
theorem dX10_firstLine_30 : decode cX10_firstLine 30 = .ok (.bipush (-4), 2) := by decide +kernel
theorem dX10_firstLine_32 : decode cX10_firstLine 32 = .ok (.istore_n 3, 1) := by decide +kernel
theorem dX10_firstLine_33 : decode cX10_firstLine 33 = .ok (.iload_n 3, 1) := by decide +kernel
theorem dX10_firstLine_34 : decode cX10_firstLine 34 = .ok (.bipush (-4), 2) := by decide +kernel
theorem dX10_firstLine_36 : decode cX10_firstLine 36 = .ok (.if_icmp .eq 44, 3) := by decide +kernel
theorem dX10_firstLine_39 : decode cX10_firstLine 39 = .ok (.aload_n 0, 1) := by decide +kernel
theorem dX10_firstLine_40 : decode cX10_firstLine 40 = .ok (.getfield 32, 3) := by decide +kernel
theorem dX10_firstLine_43 : decode cX10_firstLine 43 = .ok (.iload_n 3, 1) := by decide +kernel
theorem dX10_firstLine_44 : decode cX10_firstLine 44 = .ok (.iaload, 1) := by decide +kernel
theorem dX10_firstLine_45 : decode cX10_firstLine 45 = .ok (.ldc 225, 2) := by decide +kernel
theorem dX10_firstLine_47 : decode cX10_firstLine 47 = .ok (.if_icmp .eq 33, 3) := by decide +kernel
theorem dX10_firstLine_50 : decode cX10_firstLine 50 = .ok (.aload_n 0, 1) := by decide +kernel
theorem dX10_firstLine_51 : decode cX10_firstLine 51 = .ok (.getfield 32, 3) := by decide +kernel
theorem dX10_firstLine_54 : decode cX10_firstLine 54 = .ok (.iload_n 3, 1) := by decide +kernel
theorem dX10_firstLine_55 : decode cX10_firstLine 55 = .ok (.iaload, 1) := by decide +kernel
theorem dX10_firstLine_56 : decode cX10_firstLine 56 = .ok (.sipush 1000, 3) := by decide +kernel
theorem dX10_firstLine_59 : decode cX10_firstLine 59 = .ok (.aload_n 0, 1) := by decide +kernel
theorem dX10_firstLine_60 : decode cX10_firstLine 60 = .ok (.iload_n 2, 1) := by decide +kernel
theorem dX10_firstLine_61 : decode cX10_firstLine 61 = .ok (.iconst 2, 1) := by decide +kernel
theorem dX10_firstLine_62 : decode cX10_firstLine 62 = .ok (.invokevirtual 202, 3) := by decide +kernel
theorem dX10_firstLine_65 : decode cX10_firstLine 65 = .ok (.imul, 1) := by decide +kernel
theorem dX10_firstLine_66 : decode cX10_firstLine 66 = .ok (.iadd, 1) := by decide +kernel
theorem dX10_firstLine_67 : decode cX10_firstLine 67 = .ok (.iconst 1, 1) := by decide +kernel
theorem dX10_firstLine_68 : decode cX10_firstLine 68 = .ok (.iadd, 1) := by decide +kernel
theorem dX10_firstLine_69 : decode cX10_firstLine 69 = .ok (.aload_n 0, 1) := by decide +kernel
theorem dX10_firstLine_70 : decode cX10_firstLine 70 = .ok (.getfield 32, 3) := by decide +kernel
theorem dX10_firstLine_73 : decode cX10_firstLine 73 = .ok (.iload_n 1, 1) := by decide +kernel
theorem dX10_firstLine_74 : decode cX10_firstLine 74 = .ok (.iaload, 1) := by decide +kernel
theorem dX10_firstLine_75 : decode cX10_firstLine 75 = .ok (.if_icmp .ne 5, 3) := by decide +kernel
theorem dX10_firstLine_78 : decode cX10_firstLine 78 = .ok (.iload_n 2, 1) := by decide +kernel
theorem dX10_firstLine_79 : decode cX10_firstLine 79 = .ok (.ireturn, 1) := by decide +kernel
theorem dX10_firstLine_80 : decode cX10_firstLine 80 = .ok (.iinc 2 1, 3) := by decide +kernel
theorem dX10_firstLine_83 : decode cX10_firstLine 83 = .ok (.goto (-81), 3) := by decide +kernel
theorem dX10_firstLine_86 : decode cX10_firstLine 86 = .ok (.bipush (-4), 2) := by decide +kernel
theorem dX10_firstLine_88 : decode cX10_firstLine 88 = .ok (.ireturn, 1) := by decide +kernel
theorem dX10_way_0 : decode cX10_way 0 = .ok (.aload_n 0, 1) := by decide +kernel
theorem dX10_way_1 : decode cX10_way 1 = .ok (.iload_n 1, 1) := by decide +kernel
theorem dX10_way_2 : decode cX10_way 2 = .ok (.invokevirtual 222, 3) := by decide +kernel
theorem dX10_way_5 : decode cX10_way 5 = .ok (.ifCond .eq 35, 3) := by decide +kernel
theorem dX10_way_8 : decode cX10_way 8 = .ok (.aload_n 0, 1) := by decide +kernel
theorem dX10_way_9 : decode cX10_way 9 = .ok (.iload_n 2, 1) := by decide +kernel
theorem dX10_way_10 : decode cX10_way 10 = .ok (.invokevirtual 222, 3) := by decide +kernel
theorem dX10_way_13 : decode cX10_way 13 = .ok (.ifCond .eq 27, 3) := by decide +kernel
theorem dX10_way_16 : decode cX10_way 16 = .ok (.iload_n 3, 1) := by decide +kernel
theorem dX10_way_17 : decode cX10_way 17 = .ok (.i2l, 1) := by decide +kernel
theorem dX10_way_18 : decode cX10_way 18 = .ok (.lconst 0, 1) := by decide +kernel
theorem dX10_way_19 : decode cX10_way 19 = .ok (.lconst 1, 1) := by decide +kernel
theorem dX10_way_20 : decode cX10_way 20 = .ok (.invokestatic 108, 3) := by decide +kernel
theorem dX10_way_23 : decode cX10_way 23 = .ok (.ifCond .ne 19, 3) := by decide +kernel
theorem dX10_way_26 : decode cX10_way 26 = .ok (.iload_n 3, 1) := by decide +kernel
theorem dX10_way_27 : decode cX10_way 27 = .ok (.i2l, 1) := by decide +kernel
theorem dX10_way_28 : decode cX10_way 28 = .ok (.ldc2_w 229, 3) := by decide +kernel
theorem dX10_way_31 : decode cX10_way 31 = .ok (.ldc2_w 231, 3) := by decide +kernel
theorem dX10_way_34 : decode cX10_way 34 = .ok (.invokestatic 108, 3) := by decide +kernel
theorem dX10_way_37 : decode cX10_way 37 = .ok (.ifCond .ne 5, 3) := by decide +kernel
theorem dX10_way_40 : decode cX10_way 40 = .ok (.iconst (-1), 1) := by decide +kernel
theorem dX10_way_41 : decode cX10_way 41 = .ok (.ireturn, 1) := by decide +kernel
theorem dX10_way_42 : decode cX10_way 42 = .ok (.aload_n 0, 1) := by decide +kernel
theorem dX10_way_43 : decode cX10_way 43 = .ok (.invokevirtual 233, 3) := by decide +kernel
theorem dX10_way_46 : decode cX10_way 46 = .ok (.aload_n 0, 1) := by decide +kernel
theorem dX10_way_47 : decode cX10_way 47 = .ok (.iload_n 2, 1) := by decide +kernel
theorem dX10_way_48 : decode cX10_way 48 = .ok (.invokevirtual 236, 3) := by decide +kernel
theorem dX10_way_51 : decode cX10_way 51 = .ok (.aload_n 0, 1) := by decide +kernel
theorem dX10_way_52 : decode cX10_way 52 = .ok (.getfield 32, 3) := by decide +kernel
theorem dX10_way_55 : decode cX10_way 55 = .ok (.iload_n 1, 1) := by decide +kernel
theorem dX10_way_56 : decode cX10_way 56 = .ok (.iaload, 1) := by decide +kernel
theorem dX10_way_57 : decode cX10_way 57 = .ok (.ldc 225, 2) := by decide +kernel
theorem dX10_way_59 : decode cX10_way 59 = .ok (.if_icmp .ne 6, 3) := by decide +kernel
theorem dX10_way_62 : decode cX10_way 62 = .ok (.bipush (-4), 2) := by decide +kernel
theorem dX10_way_64 : decode cX10_way 64 = .ok (.ireturn, 1) := by decide +kernel
theorem dX10_way_65 : decode cX10_way 65 = .ok (.iload_n 3, 1) := by decide +kernel
theorem dX10_way_66 : decode cX10_way 66 = .ok (.iconst 2, 1) := by decide +kernel
theorem dX10_way_67 : decode cX10_way 67 = .ok (.if_icmp .ge 31, 3) := by decide +kernel
theorem dX10_way_70 : decode cX10_way 70 = .ok (.iload_n 3, 1) := by decide +kernel
theorem dX10_way_71 : decode cX10_way 71 = .ok (.ifCond .ne 16, 3) := by decide +kernel
theorem dX10_way_74 : decode cX10_way 74 = .ok (.aload_n 0, 1) := by decide +kernel
theorem dX10_way_75 : decode cX10_way 75 = .ok (.getfield 32, 3) := by decide +kernel
theorem dX10_way_78 : decode cX10_way 78 = .ok (.iload_n 1, 1) := by decide +kernel
theorem dX10_way_79 : decode cX10_way 79 = .ok (.iaload, 1) := by decide +kernel
theorem dX10_way_80 : decode cX10_way 80 = .ok (.sipush 1000, 3) := by decide +kernel
theorem dX10_way_83 : decode cX10_way 83 = .ok (.idiv, 1) := by decide +kernel
theorem dX10_way_84 : decode cX10_way 84 = .ok (.goto 13, 3) := by decide +kernel
theorem dX10_way_87 : decode cX10_way 87 = .ok (.aload_n 0, 1) := by decide +kernel
theorem dX10_way_88 : decode cX10_way 88 = .ok (.getfield 32, 3) := by decide +kernel
theorem dX10_way_91 : decode cX10_way 91 = .ok (.iload_n 1, 1) := by decide +kernel
theorem dX10_way_92 : decode cX10_way 92 = .ok (.iaload, 1) := by decide +kernel
theorem dX10_way_93 : decode cX10_way 93 = .ok (.sipush 1000, 3) := by decide +kernel
theorem dX10_way_96 : decode cX10_way 96 = .ok (.irem, 1) := by decide +kernel
theorem dX10_way_97 : decode cX10_way 97 = .ok (.ireturn, 1) := by decide +kernel
theorem dX10_way_98 : decode cX10_way 98 = .ok (.iload_n 3, 1) := by decide +kernel
theorem dX10_way_99 : decode cX10_way 99 = .ok (.bipush 10, 2) := by decide +kernel
theorem dX10_way_101 : decode cX10_way 101 = .ok (.isub, 1) := by decide +kernel
theorem dX10_way_102 : decode cX10_way 102 = .ok (.aload_n 0, 1) := by decide +kernel
theorem dX10_way_103 : decode cX10_way 103 = .ok (.getfield 32, 3) := by decide +kernel
theorem dX10_way_106 : decode cX10_way 106 = .ok (.iload_n 1, 1) := by decide +kernel
theorem dX10_way_107 : decode cX10_way 107 = .ok (.iaload, 1) := by decide +kernel
theorem dX10_way_108 : decode cX10_way 108 = .ok (.sipush 1000, 3) := by decide +kernel
theorem dX10_way_111 : decode cX10_way 111 = .ok (.irem, 1) := by decide +kernel
theorem dX10_way_112 : decode cX10_way 112 = .ok (.if_icmp .lt 6, 3) := by decide +kernel
theorem dX10_way_115 : decode cX10_way 115 = .ok (.bipush (-4), 2) := by decide +kernel
theorem dX10_way_117 : decode cX10_way 117 = .ok (.ireturn, 1) := by decide +kernel
theorem dX10_way_118 : decode cX10_way 118 = .ok (.iload_n 1, 1) := by decide +kernel
theorem dX10_way_119 : decode cX10_way 119 = .ok (.istore 4, 2) := by decide +kernel
theorem dX10_way_121 : decode cX10_way 121 = .ok (.bipush (-4), 2) := by decide +kernel
theorem dX10_way_123 : decode cX10_way 123 = .ok (.istore 5, 2) := by decide +kernel
theorem dX10_way_125 : decode cX10_way 125 = .ok (.iconst 0, 1) := by decide +kernel
theorem dX10_way_126 : decode cX10_way 126 = .ok (.istore 6, 2) := by decide +kernel
theorem dX10_way_128 : decode cX10_way 128 = .ok (.iload 6, 2) := by decide +kernel
theorem dX10_way_130 : decode cX10_way 130 = .ok (.iload_n 3, 1) := by decide +kernel
theorem dX10_way_131 : decode cX10_way 131 = .ok (.bipush 10, 2) := by decide +kernel
theorem dX10_way_133 : decode cX10_way 133 = .ok (.isub, 1) := by decide +kernel
theorem dX10_way_134 : decode cX10_way 134 = .ok (.if_icmp .gt 27, 3) := by decide +kernel
theorem dX10_way_137 : decode cX10_way 137 = .ok (.aload_n 0, 1) := by decide +kernel
theorem dX10_way_138 : decode cX10_way 138 = .ok (.iload 4, 2) := by decide +kernel
theorem dX10_way_140 : decode cX10_way 140 = .ok (.invokevirtual 239, 3) := by decide +kernel
theorem dX10_way_143 : decode cX10_way 143 = .ok (.istore 5, 2) := by decide +kernel
theorem dX10_way_145 : decode cX10_way 145 = .ok (.aload_n 0, 1) := by decide +kernel
theorem dX10_way_146 : decode cX10_way 146 = .ok (.iload 5, 2) := by decide +kernel
theorem dX10_way_148 : decode cX10_way 148 = .ok (.iload 4, 2) := by decide +kernel
theorem dX10_way_150 : decode cX10_way 150 = .ok (.invokevirtual 226, 3) := by decide +kernel
theorem dX10_way_153 : decode cX10_way 153 = .ok (.istore 4, 2) := by decide +kernel
theorem dX10_way_155 : decode cX10_way 155 = .ok (.iinc 6 1, 3) := by decide +kernel
theorem dX10_way_158 : decode cX10_way 158 = .ok (.goto (-30), 3) := by decide +kernel
theorem dX10_way_161 : decode cX10_way 161 = .ok (.iload 5, 2) := by decide +kernel
theorem dX10_way_163 : decode cX10_way 163 = .ok (.ireturn, 1) := by decide +kernel
theorem dX10_wholeLines_0 : decode cX10_wholeLines 0 = .ok (.iconst 0, 1) := by decide +kernel
theorem dX10_wholeLines_1 : decode cX10_wholeLines 1 = .ok (.istore_n 1, 1) := by decide +kernel
theorem dX10_wholeLines_2 : decode cX10_wholeLines 2 = .ok (.iconst 0, 1) := by decide +kernel
theorem dX10_wholeLines_3 : decode cX10_wholeLines 3 = .ok (.istore_n 2, 1) := by decide +kernel
theorem dX10_wholeLines_4 : decode cX10_wholeLines 4 = .ok (.iload_n 2, 1) := by decide +kernel
theorem dX10_wholeLines_5 : decode cX10_wholeLines 5 = .ok (.aload_n 0, 1) := by decide +kernel
theorem dX10_wholeLines_6 : decode cX10_wholeLines 6 = .ok (.getfield 7, 3) := by decide +kernel
theorem dX10_wholeLines_9 : decode cX10_wholeLines 9 = .ok (.iconst 0, 1) := by decide +kernel
theorem dX10_wholeLines_10 : decode cX10_wholeLines 10 = .ok (.iaload, 1) := by decide +kernel
theorem dX10_wholeLines_11 : decode cX10_wholeLines 11 = .ok (.if_icmp .ge 31, 3) := by decide +kernel
theorem dX10_wholeLines_14 : decode cX10_wholeLines 14 = .ok (.iload_n 1, 1) := by decide +kernel
theorem dX10_wholeLines_15 : decode cX10_wholeLines 15 = .ok (.aload_n 0, 1) := by decide +kernel
theorem dX10_wholeLines_16 : decode cX10_wholeLines 16 = .ok (.iload_n 2, 1) := by decide +kernel
theorem dX10_wholeLines_17 : decode cX10_wholeLines 17 = .ok (.iconst 3, 1) := by decide +kernel
theorem dX10_wholeLines_18 : decode cX10_wholeLines 18 = .ok (.invokevirtual 202, 3) := by decide +kernel
theorem dX10_wholeLines_21 : decode cX10_wholeLines 21 = .ok (.ifCond .le 7, 3) := by decide +kernel
theorem dX10_wholeLines_24 : decode cX10_wholeLines 24 = .ok (.iconst 1, 1) := by decide +kernel
theorem dX10_wholeLines_25 : decode cX10_wholeLines 25 = .ok (.goto 4, 3) := by decide +kernel
theorem dX10_wholeLines_28 : decode cX10_wholeLines 28 = .ok (.iconst 0, 1) := by decide +kernel
theorem dX10_wholeLines_29 : decode cX10_wholeLines 29 = .ok (.invokestatic 218, 3) := by decide +kernel
theorem dX10_wholeLines_32 : decode cX10_wholeLines 32 = .ok (.iload_n 2, 1) := by decide +kernel
theorem dX10_wholeLines_33 : decode cX10_wholeLines 33 = .ok (.ishl, 1) := by decide +kernel
theorem dX10_wholeLines_34 : decode cX10_wholeLines 34 = .ok (.ior, 1) := by decide +kernel
theorem dX10_wholeLines_35 : decode cX10_wholeLines 35 = .ok (.istore_n 1, 1) := by decide +kernel
theorem dX10_wholeLines_36 : decode cX10_wholeLines 36 = .ok (.iinc 2 1, 3) := by decide +kernel
theorem dX10_wholeLines_39 : decode cX10_wholeLines 39 = .ok (.goto (-35), 3) := by decide +kernel
theorem dX10_wholeLines_42 : decode cX10_wholeLines 42 = .ok (.iload_n 1, 1) := by decide +kernel
theorem dX10_wholeLines_43 : decode cX10_wholeLines 43 = .ok (.ireturn, 1) := by decide +kernel
theorem dX10_partOf_0 : decode cX10_partOf 0 = .ok (.iconst 1, 1) := by decide +kernel
theorem dX10_partOf_1 : decode cX10_partOf 1 = .ok (.iload_n 1, 1) := by decide +kernel
theorem dX10_partOf_2 : decode cX10_partOf 2 = .ok (.ishl, 1) := by decide +kernel
theorem dX10_partOf_3 : decode cX10_partOf 3 = .ok (.istore_n 3, 1) := by decide +kernel
theorem dX10_partOf_4 : decode cX10_partOf 4 = .ok (.iconst 0, 1) := by decide +kernel
theorem dX10_partOf_5 : decode cX10_partOf 5 = .ok (.istore 4, 2) := by decide +kernel
theorem dX10_partOf_7 : decode cX10_partOf 7 = .ok (.iload 4, 2) := by decide +kernel
theorem dX10_partOf_9 : decode cX10_partOf 9 = .ok (.bipush 9, 2) := by decide +kernel
theorem dX10_partOf_11 : decode cX10_partOf 11 = .ok (.if_icmp .ge 76, 3) := by decide +kernel
theorem dX10_partOf_14 : decode cX10_partOf 14 = .ok (.iconst 0, 1) := by decide +kernel
theorem dX10_partOf_15 : decode cX10_partOf 15 = .ok (.istore 5, 2) := by decide +kernel
theorem dX10_partOf_17 : decode cX10_partOf 17 = .ok (.iload 5, 2) := by decide +kernel
theorem dX10_partOf_19 : decode cX10_partOf 19 = .ok (.aload_n 0, 1) := by decide +kernel
theorem dX10_partOf_20 : decode cX10_partOf 20 = .ok (.getfield 7, 3) := by decide +kernel
theorem dX10_partOf_23 : decode cX10_partOf 23 = .ok (.iconst 0, 1) := by decide +kernel
theorem dX10_partOf_24 : decode cX10_partOf 24 = .ok (.iaload, 1) := by decide +kernel
theorem dX10_partOf_25 : decode cX10_partOf 25 = .ok (.if_icmp .ge 56, 3) := by decide +kernel
theorem dX10_partOf_28 : decode cX10_partOf 28 = .ok (.iconst 1, 1) := by decide +kernel
theorem dX10_partOf_29 : decode cX10_partOf 29 = .ok (.aload_n 0, 1) := by decide +kernel
theorem dX10_partOf_30 : decode cX10_partOf 30 = .ok (.iload 5, 2) := by decide +kernel
theorem dX10_partOf_32 : decode cX10_partOf 32 = .ok (.iconst 0, 1) := by decide +kernel
theorem dX10_partOf_33 : decode cX10_partOf 33 = .ok (.invokevirtual 202, 3) := by decide +kernel
theorem dX10_partOf_36 : decode cX10_partOf 36 = .ok (.ishl, 1) := by decide +kernel
theorem dX10_partOf_37 : decode cX10_partOf 37 = .ok (.iconst 1, 1) := by decide +kernel
theorem dX10_partOf_38 : decode cX10_partOf 38 = .ok (.aload_n 0, 1) := by decide +kernel
theorem dX10_partOf_39 : decode cX10_partOf 39 = .ok (.iload 5, 2) := by decide +kernel
theorem dX10_partOf_41 : decode cX10_partOf 41 = .ok (.iconst 1, 1) := by decide +kernel
theorem dX10_partOf_42 : decode cX10_partOf 42 = .ok (.invokevirtual 202, 3) := by decide +kernel
theorem dX10_partOf_45 : decode cX10_partOf 45 = .ok (.ishl, 1) := by decide +kernel
theorem dX10_partOf_46 : decode cX10_partOf 46 = .ok (.ior, 1) := by decide +kernel
theorem dX10_partOf_47 : decode cX10_partOf 47 = .ok (.istore 6, 2) := by decide +kernel
theorem dX10_partOf_49 : decode cX10_partOf 49 = .ok (.iload_n 3, 1) := by decide +kernel
theorem dX10_partOf_50 : decode cX10_partOf 50 = .ok (.iload_n 2, 1) := by decide +kernel
theorem dX10_partOf_51 : decode cX10_partOf 51 = .ok (.iload 5, 2) := by decide +kernel
theorem dX10_partOf_53 : decode cX10_partOf 53 = .ok (.ishr, 1) := by decide +kernel
theorem dX10_partOf_54 : decode cX10_partOf 54 = .ok (.iconst 1, 1) := by decide +kernel
theorem dX10_partOf_55 : decode cX10_partOf 55 = .ok (.iand, 1) := by decide +kernel
theorem dX10_partOf_56 : decode cX10_partOf 56 = .ok (.iconst 1, 1) := by decide +kernel
theorem dX10_partOf_57 : decode cX10_partOf 57 = .ok (.if_icmp .ne 15, 3) := by decide +kernel
theorem dX10_partOf_60 : decode cX10_partOf 60 = .ok (.iload_n 3, 1) := by decide +kernel
theorem dX10_partOf_61 : decode cX10_partOf 61 = .ok (.iload 6, 2) := by decide +kernel
theorem dX10_partOf_63 : decode cX10_partOf 63 = .ok (.iand, 1) := by decide +kernel
theorem dX10_partOf_64 : decode cX10_partOf 64 = .ok (.ifCond .eq 8, 3) := by decide +kernel
theorem dX10_partOf_67 : decode cX10_partOf 67 = .ok (.iload 6, 2) := by decide +kernel
theorem dX10_partOf_69 : decode cX10_partOf 69 = .ok (.goto 4, 3) := by decide +kernel
theorem dX10_partOf_72 : decode cX10_partOf 72 = .ok (.iconst 0, 1) := by decide +kernel
theorem dX10_partOf_73 : decode cX10_partOf 73 = .ok (.ior, 1) := by decide +kernel
theorem dX10_partOf_74 : decode cX10_partOf 74 = .ok (.istore_n 3, 1) := by decide +kernel
theorem dX10_partOf_75 : decode cX10_partOf 75 = .ok (.iinc 5 1, 3) := by decide +kernel
theorem dX10_partOf_78 : decode cX10_partOf 78 = .ok (.goto (-61), 3) := by decide +kernel
theorem dX10_partOf_81 : decode cX10_partOf 81 = .ok (.iinc 4 1, 3) := by decide +kernel
theorem dX10_partOf_84 : decode cX10_partOf 84 = .ok (.goto (-77), 3) := by decide +kernel
theorem dX10_partOf_87 : decode cX10_partOf 87 = .ok (.iload_n 3, 1) := by decide +kernel
theorem dX10_partOf_88 : decode cX10_partOf 88 = .ok (.ireturn, 1) := by decide +kernel
theorem dX10_part_0 : decode cX10_part 0 = .ok (.aload_n 0, 1) := by decide +kernel
theorem dX10_part_1 : decode cX10_part 1 = .ok (.iload_n 1, 1) := by decide +kernel
theorem dX10_part_2 : decode cX10_part 2 = .ok (.invokevirtual 222, 3) := by decide +kernel
theorem dX10_part_5 : decode cX10_part 5 = .ok (.ifCond .eq 15, 3) := by decide +kernel
theorem dX10_part_8 : decode cX10_part 8 = .ok (.aload_n 0, 1) := by decide +kernel
theorem dX10_part_9 : decode cX10_part 9 = .ok (.iload_n 1, 1) := by decide +kernel
theorem dX10_part_10 : decode cX10_part 10 = .ok (.aload_n 0, 1) := by decide +kernel
theorem dX10_part_11 : decode cX10_part 11 = .ok (.invokevirtual 242, 3) := by decide +kernel
theorem dX10_part_14 : decode cX10_part 14 = .ok (.invokevirtual 245, 3) := by decide +kernel
theorem dX10_part_17 : decode cX10_part 17 = .ok (.goto 4, 3) := by decide +kernel
theorem dX10_part_20 : decode cX10_part 20 = .ok (.iconst (-1), 1) := by decide +kernel
theorem dX10_part_21 : decode cX10_part 21 = .ok (.ireturn, 1) := by decide +kernel
theorem dX10_doMeet_0 : decode cX10_doMeet 0 = .ok (.iconst 0, 1) := by decide +kernel
theorem dX10_doMeet_1 : decode cX10_doMeet 1 = .ok (.istore_n 2, 1) := by decide +kernel
theorem dX10_doMeet_2 : decode cX10_doMeet 2 = .ok (.iload_n 2, 1) := by decide +kernel
theorem dX10_doMeet_3 : decode cX10_doMeet 3 = .ok (.bipush 9, 2) := by decide +kernel
theorem dX10_doMeet_5 : decode cX10_doMeet 5 = .ok (.if_icmp .ge 23, 3) := by decide +kernel
theorem dX10_doMeet_8 : decode cX10_doMeet 8 = .ok (.aload_n 0, 1) := by decide +kernel
theorem dX10_doMeet_9 : decode cX10_doMeet 9 = .ok (.getfield 7, 3) := by decide +kernel
theorem dX10_doMeet_12 : decode cX10_doMeet 12 = .ok (.bipush 61, 2) := by decide +kernel
theorem dX10_doMeet_14 : decode cX10_doMeet 14 = .ok (.iaload, 1) := by decide +kernel
theorem dX10_doMeet_15 : decode cX10_doMeet 15 = .ok (.iload_n 2, 1) := by decide +kernel
theorem dX10_doMeet_16 : decode cX10_doMeet 16 = .ok (.ishr, 1) := by decide +kernel
theorem dX10_doMeet_17 : decode cX10_doMeet 17 = .ok (.iconst 1, 1) := by decide +kernel
theorem dX10_doMeet_18 : decode cX10_doMeet 18 = .ok (.iand, 1) := by decide +kernel
theorem dX10_doMeet_19 : decode cX10_doMeet 19 = .ok (.ifCond .ne 9, 3) := by decide +kernel
theorem dX10_doMeet_22 : decode cX10_doMeet 22 = .ok (.iinc 2 1, 3) := by decide +kernel
theorem dX10_doMeet_25 : decode cX10_doMeet 25 = .ok (.goto (-23), 3) := by decide +kernel
theorem dX10_doMeet_28 : decode cX10_doMeet 28 = .ok (.iload_n 2, 1) := by decide +kernel
theorem dX10_doMeet_29 : decode cX10_doMeet 29 = .ok (.bipush 9, 2) := by decide +kernel
theorem dX10_doMeet_31 : decode cX10_doMeet 31 = .ok (.if_icmp .eq 22, 3) := by decide +kernel
theorem dX10_doMeet_34 : decode cX10_doMeet 34 = .ok (.aload_n 0, 1) := by decide +kernel
theorem dX10_doMeet_35 : decode cX10_doMeet 35 = .ok (.getfield 7, 3) := by decide +kernel
theorem dX10_doMeet_38 : decode cX10_doMeet 38 = .ok (.bipush 61, 2) := by decide +kernel
theorem dX10_doMeet_40 : decode cX10_doMeet 40 = .ok (.iaload, 1) := by decide +kernel
theorem dX10_doMeet_41 : decode cX10_doMeet 41 = .ok (.aload_n 0, 1) := by decide +kernel
theorem dX10_doMeet_42 : decode cX10_doMeet 42 = .ok (.iload_n 2, 1) := by decide +kernel
theorem dX10_doMeet_43 : decode cX10_doMeet 43 = .ok (.iload_n 1, 1) := by decide +kernel
theorem dX10_doMeet_44 : decode cX10_doMeet 44 = .ok (.invokevirtual 245, 3) := by decide +kernel
theorem dX10_doMeet_47 : decode cX10_doMeet 47 = .ok (.iconst (-1), 1) := by decide +kernel
theorem dX10_doMeet_48 : decode cX10_doMeet 48 = .ok (.ixor, 1) := by decide +kernel
theorem dX10_doMeet_49 : decode cX10_doMeet 49 = .ok (.iand, 1) := by decide +kernel
theorem dX10_doMeet_50 : decode cX10_doMeet 50 = .ok (.ifCond .ne 7, 3) := by decide +kernel
theorem dX10_doMeet_53 : decode cX10_doMeet 53 = .ok (.iconst 1, 1) := by decide +kernel
theorem dX10_doMeet_54 : decode cX10_doMeet 54 = .ok (.goto 4, 3) := by decide +kernel
theorem dX10_doMeet_57 : decode cX10_doMeet 57 = .ok (.iconst 0, 1) := by decide +kernel
theorem dX10_doMeet_58 : decode cX10_doMeet 58 = .ok (.ireturn, 1) := by decide +kernel
theorem dX10_areLines_0 : decode cX10_areLines 0 = .ok (.iload_n 1, 1) := by decide +kernel
theorem dX10_areLines_1 : decode cX10_areLines 1 = .ok (.i2l, 1) := by decide +kernel
theorem dX10_areLines_2 : decode cX10_areLines 2 = .ok (.lconst 0, 1) := by decide +kernel
theorem dX10_areLines_3 : decode cX10_areLines 3 = .ok (.iconst 1, 1) := by decide +kernel
theorem dX10_areLines_4 : decode cX10_areLines 4 = .ok (.aload_n 0, 1) := by decide +kernel
theorem dX10_areLines_5 : decode cX10_areLines 5 = .ok (.getfield 7, 3) := by decide +kernel
theorem dX10_areLines_8 : decode cX10_areLines 8 = .ok (.iconst 0, 1) := by decide +kernel
theorem dX10_areLines_9 : decode cX10_areLines 9 = .ok (.iaload, 1) := by decide +kernel
theorem dX10_areLines_10 : decode cX10_areLines 10 = .ok (.ishl, 1) := by decide +kernel
theorem dX10_areLines_11 : decode cX10_areLines 11 = .ok (.iconst 1, 1) := by decide +kernel
theorem dX10_areLines_12 : decode cX10_areLines 12 = .ok (.isub, 1) := by decide +kernel
theorem dX10_areLines_13 : decode cX10_areLines 13 = .ok (.i2l, 1) := by decide +kernel
theorem dX10_areLines_14 : decode cX10_areLines 14 = .ok (.invokestatic 108, 3) := by decide +kernel
theorem dX10_areLines_17 : decode cX10_areLines 17 = .ok (.ireturn, 1) := by decide +kernel
theorem dX10_meet_0 : decode cX10_meet 0 = .ok (.aload_n 0, 1) := by decide +kernel
theorem dX10_meet_1 : decode cX10_meet 1 = .ok (.iload_n 1, 1) := by decide +kernel
theorem dX10_meet_2 : decode cX10_meet 2 = .ok (.invokevirtual 248, 3) := by decide +kernel
theorem dX10_meet_5 : decode cX10_meet 5 = .ok (.ifCond .eq 14, 3) := by decide +kernel
theorem dX10_meet_8 : decode cX10_meet 8 = .ok (.aload_n 0, 1) := by decide +kernel
theorem dX10_meet_9 : decode cX10_meet 9 = .ok (.iload_n 1, 1) := by decide +kernel
theorem dX10_meet_10 : decode cX10_meet 10 = .ok (.invokevirtual 251, 3) := by decide +kernel
theorem dX10_meet_13 : decode cX10_meet 13 = .ok (.invokestatic 218, 3) := by decide +kernel
theorem dX10_meet_16 : decode cX10_meet 16 = .ok (.goto 4, 3) := by decide +kernel
theorem dX10_meet_19 : decode cX10_meet 19 = .ok (.iconst (-1), 1) := by decide +kernel
theorem dX10_meet_20 : decode cX10_meet 20 = .ok (.ireturn, 1) := by decide +kernel
theorem dX10_needed_0 : decode cX10_needed 0 = .ok (.aload_n 0, 1) := by decide +kernel
theorem dX10_needed_1 : decode cX10_needed 1 = .ok (.invokevirtual 242, 3) := by decide +kernel
theorem dX10_needed_4 : decode cX10_needed 4 = .ok (.istore_n 1, 1) := by decide +kernel
theorem dX10_needed_5 : decode cX10_needed 5 = .ok (.aload_n 0, 1) := by decide +kernel
theorem dX10_needed_6 : decode cX10_needed 6 = .ok (.iload_n 1, 1) := by decide +kernel
theorem dX10_needed_7 : decode cX10_needed 7 = .ok (.invokevirtual 251, 3) := by decide +kernel
theorem dX10_needed_10 : decode cX10_needed 10 = .ok (.ifCond .ne 6, 3) := by decide +kernel
theorem dX10_needed_13 : decode cX10_needed 13 = .ok (.bipush (-2), 2) := by decide +kernel
theorem dX10_needed_15 : decode cX10_needed 15 = .ok (.ireturn, 1) := by decide +kernel
theorem dX10_needed_16 : decode cX10_needed 16 = .ok (.iconst 0, 1) := by decide +kernel
theorem dX10_needed_17 : decode cX10_needed 17 = .ok (.istore_n 2, 1) := by decide +kernel
theorem dX10_needed_18 : decode cX10_needed 18 = .ok (.iconst 0, 1) := by decide +kernel
theorem dX10_needed_19 : decode cX10_needed 19 = .ok (.istore_n 3, 1) := by decide +kernel
theorem dX10_needed_20 : decode cX10_needed 20 = .ok (.iload_n 3, 1) := by decide +kernel
theorem dX10_needed_21 : decode cX10_needed 21 = .ok (.aload_n 0, 1) := by decide +kernel
theorem dX10_needed_22 : decode cX10_needed 22 = .ok (.getfield 7, 3) := by decide +kernel
theorem dX10_needed_25 : decode cX10_needed 25 = .ok (.iconst 0, 1) := by decide +kernel
theorem dX10_needed_26 : decode cX10_needed 26 = .ok (.iaload, 1) := by decide +kernel
theorem dX10_needed_27 : decode cX10_needed 27 = .ok (.if_icmp .ge 42, 3) := by decide +kernel
theorem dX10_needed_30 : decode cX10_needed 30 = .ok (.iload_n 2, 1) := by decide +kernel
theorem dX10_needed_31 : decode cX10_needed 31 = .ok (.iload_n 1, 1) := by decide +kernel
theorem dX10_needed_32 : decode cX10_needed 32 = .ok (.iload_n 3, 1) := by decide +kernel
theorem dX10_needed_33 : decode cX10_needed 33 = .ok (.ishr, 1) := by decide +kernel
theorem dX10_needed_34 : decode cX10_needed 34 = .ok (.iconst 1, 1) := by decide +kernel
theorem dX10_needed_35 : decode cX10_needed 35 = .ok (.iand, 1) := by decide +kernel
theorem dX10_needed_36 : decode cX10_needed 36 = .ok (.iconst 1, 1) := by decide +kernel
theorem dX10_needed_37 : decode cX10_needed 37 = .ok (.if_icmp .ne 23, 3) := by decide +kernel
theorem dX10_needed_40 : decode cX10_needed 40 = .ok (.aload_n 0, 1) := by decide +kernel
theorem dX10_needed_41 : decode cX10_needed 41 = .ok (.iload_n 1, 1) := by decide +kernel
theorem dX10_needed_42 : decode cX10_needed 42 = .ok (.iconst 1, 1) := by decide +kernel
theorem dX10_needed_43 : decode cX10_needed 43 = .ok (.iload_n 3, 1) := by decide +kernel
theorem dX10_needed_44 : decode cX10_needed 44 = .ok (.ishl, 1) := by decide +kernel
theorem dX10_needed_45 : decode cX10_needed 45 = .ok (.iconst (-1), 1) := by decide +kernel
theorem dX10_needed_46 : decode cX10_needed 46 = .ok (.ixor, 1) := by decide +kernel
theorem dX10_needed_47 : decode cX10_needed 47 = .ok (.iand, 1) := by decide +kernel
theorem dX10_needed_48 : decode cX10_needed 48 = .ok (.invokevirtual 251, 3) := by decide +kernel
theorem dX10_needed_51 : decode cX10_needed 51 = .ok (.ifCond .ne 9, 3) := by decide +kernel
theorem dX10_needed_54 : decode cX10_needed 54 = .ok (.iconst 1, 1) := by decide +kernel
theorem dX10_needed_55 : decode cX10_needed 55 = .ok (.iload_n 3, 1) := by decide +kernel
theorem dX10_needed_56 : decode cX10_needed 56 = .ok (.ishl, 1) := by decide +kernel
theorem dX10_needed_57 : decode cX10_needed 57 = .ok (.goto 4, 3) := by decide +kernel
theorem dX10_needed_60 : decode cX10_needed 60 = .ok (.iconst 0, 1) := by decide +kernel
theorem dX10_needed_61 : decode cX10_needed 61 = .ok (.ior, 1) := by decide +kernel
theorem dX10_needed_62 : decode cX10_needed 62 = .ok (.istore_n 2, 1) := by decide +kernel
theorem dX10_needed_63 : decode cX10_needed 63 = .ok (.iinc 3 1, 3) := by decide +kernel
theorem dX10_needed_66 : decode cX10_needed 66 = .ok (.goto (-46), 3) := by decide +kernel
theorem dX10_needed_69 : decode cX10_needed 69 = .ok (.iload_n 2, 1) := by decide +kernel
theorem dX10_needed_70 : decode cX10_needed 70 = .ok (.ireturn, 1) := by decide +kernel
theorem dX10_startRun_0 : decode cX10_startRun 0 = .ok (.aload_n 0, 1) := by decide +kernel
theorem dX10_startRun_1 : decode cX10_startRun 1 = .ok (.invokevirtual 233, 3) := by decide +kernel
theorem dX10_startRun_4 : decode cX10_startRun 4 = .ok (.aload_n 0, 1) := by decide +kernel
theorem dX10_startRun_5 : decode cX10_startRun 5 = .ok (.iconst 0, 1) := by decide +kernel
theorem dX10_startRun_6 : decode cX10_startRun 6 = .ok (.putfield 254, 3) := by decide +kernel
theorem dX10_startRun_9 : decode cX10_startRun 9 = .ok (.iconst 0, 1) := by decide +kernel
theorem dX10_startRun_10 : decode cX10_startRun 10 = .ok (.istore_n 1, 1) := by decide +kernel
theorem dX10_startRun_11 : decode cX10_startRun 11 = .ok (.iload_n 1, 1) := by decide +kernel
theorem dX10_startRun_12 : decode cX10_startRun 12 = .ok (.aload_n 0, 1) := by decide +kernel
theorem dX10_startRun_13 : decode cX10_startRun 13 = .ok (.getfield 100, 3) := by decide +kernel
theorem dX10_startRun_16 : decode cX10_startRun 16 = .ok (.if_icmp .ge 53, 3) := by decide +kernel
theorem dX10_startRun_19 : decode cX10_startRun 19 = .ok (.aload_n 0, 1) := by decide +kernel
theorem dX10_startRun_20 : decode cX10_startRun 20 = .ok (.getfield 35, 3) := by decide +kernel
theorem dX10_startRun_23 : decode cX10_startRun 23 = .ok (.iload_n 1, 1) := by decide +kernel
theorem dX10_startRun_24 : decode cX10_startRun 24 = .ok (.aload_n 0, 1) := by decide +kernel
theorem dX10_startRun_25 : decode cX10_startRun 25 = .ok (.getfield 17, 3) := by decide +kernel
theorem dX10_startRun_28 : decode cX10_startRun 28 = .ok (.iconst 3, 1) := by decide +kernel
theorem dX10_startRun_29 : decode cX10_startRun 29 = .ok (.iload_n 1, 1) := by decide +kernel
theorem dX10_startRun_30 : decode cX10_startRun 30 = .ok (.imul, 1) := by decide +kernel
theorem dX10_startRun_31 : decode cX10_startRun 31 = .ok (.iaload, 1) := by decide +kernel
theorem dX10_startRun_32 : decode cX10_startRun 32 = .ok (.iastore, 1) := by decide +kernel
theorem dX10_startRun_33 : decode cX10_startRun 33 = .ok (.aload_n 0, 1) := by decide +kernel
theorem dX10_startRun_34 : decode cX10_startRun 34 = .ok (.getfield 38, 3) := by decide +kernel
theorem dX10_startRun_37 : decode cX10_startRun 37 = .ok (.iload_n 1, 1) := by decide +kernel
theorem dX10_startRun_38 : decode cX10_startRun 38 = .ok (.bipush (-4), 2) := by decide +kernel
theorem dX10_startRun_40 : decode cX10_startRun 40 = .ok (.iastore, 1) := by decide +kernel
theorem dX10_startRun_41 : decode cX10_startRun 41 = .ok (.aload_n 0, 1) := by decide +kernel
theorem dX10_startRun_42 : decode cX10_startRun 42 = .ok (.getfield 41, 3) := by decide +kernel
theorem dX10_startRun_45 : decode cX10_startRun 45 = .ok (.iload_n 1, 1) := by decide +kernel
theorem dX10_startRun_46 : decode cX10_startRun 46 = .ok (.iconst 0, 1) := by decide +kernel
theorem dX10_startRun_47 : decode cX10_startRun 47 = .ok (.iastore, 1) := by decide +kernel
theorem dX10_startRun_48 : decode cX10_startRun 48 = .ok (.aload_n 0, 1) := by decide +kernel
theorem dX10_startRun_49 : decode cX10_startRun 49 = .ok (.getfield 44, 3) := by decide +kernel
theorem dX10_startRun_52 : decode cX10_startRun 52 = .ok (.iload_n 1, 1) := by decide +kernel
theorem dX10_startRun_53 : decode cX10_startRun 53 = .ok (.bipush (-4), 2) := by decide +kernel
theorem dX10_startRun_55 : decode cX10_startRun 55 = .ok (.iastore, 1) := by decide +kernel
theorem dX10_startRun_56 : decode cX10_startRun 56 = .ok (.aload_n 0, 1) := by decide +kernel
theorem dX10_startRun_57 : decode cX10_startRun 57 = .ok (.getfield 47, 3) := by decide +kernel
theorem dX10_startRun_60 : decode cX10_startRun 60 = .ok (.iload_n 1, 1) := by decide +kernel
theorem dX10_startRun_61 : decode cX10_startRun 61 = .ok (.iconst 0, 1) := by decide +kernel
theorem dX10_startRun_62 : decode cX10_startRun 62 = .ok (.iastore, 1) := by decide +kernel
theorem dX10_startRun_63 : decode cX10_startRun 63 = .ok (.iinc 1 1, 3) := by decide +kernel
theorem dX10_startRun_66 : decode cX10_startRun 66 = .ok (.goto (-55), 3) := by decide +kernel
theorem dX10_startRun_69 : decode cX10_startRun 69 = .ok (.return_, 1) := by decide +kernel
theorem dX10_loses_0 : decode cX10_loses 0 = .ok (.iconst 0, 1) := by decide +kernel
theorem dX10_loses_1 : decode cX10_loses 1 = .ok (.istore_n 1, 1) := by decide +kernel
theorem dX10_loses_2 : decode cX10_loses 2 = .ok (.iload_n 1, 1) := by decide +kernel
theorem dX10_loses_3 : decode cX10_loses 3 = .ok (.aload_n 0, 1) := by decide +kernel
theorem dX10_loses_4 : decode cX10_loses 4 = .ok (.getfield 100, 3) := by decide +kernel
theorem dX10_loses_7 : decode cX10_loses 7 = .ok (.if_icmp .ge 54, 3) := by decide +kernel
theorem dX10_loses_10 : decode cX10_loses 10 = .ok (.aload_n 0, 1) := by decide +kernel
theorem dX10_loses_11 : decode cX10_loses 11 = .ok (.getfield 38, 3) := by decide +kernel
theorem dX10_loses_14 : decode cX10_loses 14 = .ok (.iload_n 1, 1) := by decide +kernel
theorem dX10_loses_15 : decode cX10_loses 15 = .ok (.iaload, 1) := by decide +kernel
theorem dX10_loses_16 : decode cX10_loses 16 = .ok (.bipush (-4), 2) := by decide +kernel
theorem dX10_loses_18 : decode cX10_loses 18 = .ok (.if_icmp .eq 37, 3) := by decide +kernel
theorem dX10_loses_21 : decode cX10_loses 21 = .ok (.aload_n 0, 1) := by decide +kernel
theorem dX10_loses_22 : decode cX10_loses 22 = .ok (.getfield 29, 3) := by decide +kernel
theorem dX10_loses_25 : decode cX10_loses 25 = .ok (.aload_n 0, 1) := by decide +kernel
theorem dX10_loses_26 : decode cX10_loses 26 = .ok (.getfield 38, 3) := by decide +kernel
theorem dX10_loses_29 : decode cX10_loses 29 = .ok (.iload_n 1, 1) := by decide +kernel
theorem dX10_loses_30 : decode cX10_loses 30 = .ok (.iaload, 1) := by decide +kernel
theorem dX10_loses_31 : decode cX10_loses 31 = .ok (.iaload, 1) := by decide +kernel
theorem dX10_loses_32 : decode cX10_loses 32 = .ok (.ifCond .ne 23, 3) := by decide +kernel
theorem dX10_loses_35 : decode cX10_loses 35 = .ok (.aload_n 0, 1) := by decide +kernel
theorem dX10_loses_36 : decode cX10_loses 36 = .ok (.dup, 1) := by decide +kernel
theorem dX10_loses_37 : decode cX10_loses 37 = .ok (.getfield 254, 3) := by decide +kernel
theorem dX10_loses_40 : decode cX10_loses 40 = .ok (.iconst 1, 1) := by decide +kernel
theorem dX10_loses_41 : decode cX10_loses 41 = .ok (.iload_n 1, 1) := by decide +kernel
theorem dX10_loses_42 : decode cX10_loses 42 = .ok (.ishl, 1) := by decide +kernel
theorem dX10_loses_43 : decode cX10_loses 43 = .ok (.ior, 1) := by decide +kernel
theorem dX10_loses_44 : decode cX10_loses 44 = .ok (.putfield 254, 3) := by decide +kernel
theorem dX10_loses_47 : decode cX10_loses 47 = .ok (.aload_n 0, 1) := by decide +kernel
theorem dX10_loses_48 : decode cX10_loses 48 = .ok (.getfield 38, 3) := by decide +kernel
theorem dX10_loses_51 : decode cX10_loses 51 = .ok (.iload_n 1, 1) := by decide +kernel
theorem dX10_loses_52 : decode cX10_loses 52 = .ok (.bipush (-4), 2) := by decide +kernel
theorem dX10_loses_54 : decode cX10_loses 54 = .ok (.iastore, 1) := by decide +kernel
theorem dX10_loses_55 : decode cX10_loses 55 = .ok (.iinc 1 1, 3) := by decide +kernel
theorem dX10_loses_58 : decode cX10_loses 58 = .ok (.goto (-56), 3) := by decide +kernel
theorem dX10_loses_61 : decode cX10_loses 61 = .ok (.return_, 1) := by decide +kernel
theorem dX10_rains_0 : decode cX10_rains 0 = .ok (.iconst 0, 1) := by decide +kernel
theorem dX10_rains_1 : decode cX10_rains 1 = .ok (.istore_n 1, 1) := by decide +kernel
theorem dX10_rains_2 : decode cX10_rains 2 = .ok (.iload_n 1, 1) := by decide +kernel
theorem dX10_rains_3 : decode cX10_rains 3 = .ok (.aload_n 0, 1) := by decide +kernel
theorem dX10_rains_4 : decode cX10_rains 4 = .ok (.getfield 7, 3) := by decide +kernel
theorem dX10_rains_7 : decode cX10_rains 7 = .ok (.iconst 0, 1) := by decide +kernel
theorem dX10_rains_8 : decode cX10_rains 8 = .ok (.iaload, 1) := by decide +kernel
theorem dX10_rains_9 : decode cX10_rains 9 = .ok (.if_icmp .ge 41, 3) := by decide +kernel
theorem dX10_rains_12 : decode cX10_rains 12 = .ok (.aload_n 0, 1) := by decide +kernel
theorem dX10_rains_13 : decode cX10_rains 13 = .ok (.getfield 29, 3) := by decide +kernel
theorem dX10_rains_16 : decode cX10_rains 16 = .ok (.iload_n 1, 1) := by decide +kernel
theorem dX10_rains_17 : decode cX10_rains 17 = .ok (.dup2, 1) := by decide +kernel
theorem dX10_rains_18 : decode cX10_rains 18 = .ok (.iaload, 1) := by decide +kernel
theorem dX10_rains_19 : decode cX10_rains 19 = .ok (.aload_n 0, 1) := by decide +kernel
theorem dX10_rains_20 : decode cX10_rains 20 = .ok (.iload_n 1, 1) := by decide +kernel
theorem dX10_rains_21 : decode cX10_rains 21 = .ok (.iconst 4, 1) := by decide +kernel
theorem dX10_rains_22 : decode cX10_rains 22 = .ok (.invokevirtual 202, 3) := by decide +kernel
theorem dX10_rains_25 : decode cX10_rains 25 = .ok (.ifCond .ne 16, 3) := by decide +kernel
theorem dX10_rains_28 : decode cX10_rains 28 = .ok (.aload_n 0, 1) := by decide +kernel
theorem dX10_rains_29 : decode cX10_rains 29 = .ok (.getfield 29, 3) := by decide +kernel
theorem dX10_rains_32 : decode cX10_rains 32 = .ok (.iload_n 1, 1) := by decide +kernel
theorem dX10_rains_33 : decode cX10_rains 33 = .ok (.iaload, 1) := by decide +kernel
theorem dX10_rains_34 : decode cX10_rains 34 = .ok (.ifCond .le 7, 3) := by decide +kernel
theorem dX10_rains_37 : decode cX10_rains 37 = .ok (.iconst 1, 1) := by decide +kernel
theorem dX10_rains_38 : decode cX10_rains 38 = .ok (.goto 4, 3) := by decide +kernel
theorem dX10_rains_41 : decode cX10_rains 41 = .ok (.iconst 0, 1) := by decide +kernel
theorem dX10_rains_42 : decode cX10_rains 42 = .ok (.isub, 1) := by decide +kernel
theorem dX10_rains_43 : decode cX10_rains 43 = .ok (.iastore, 1) := by decide +kernel
theorem dX10_rains_44 : decode cX10_rains 44 = .ok (.iinc 1 1, 3) := by decide +kernel
theorem dX10_rains_47 : decode cX10_rains 47 = .ok (.goto (-45), 3) := by decide +kernel
theorem dX10_rains_50 : decode cX10_rains 50 = .ok (.aload_n 0, 1) := by decide +kernel
theorem dX10_rains_51 : decode cX10_rains 51 = .ok (.invokevirtual 257, 3) := by decide +kernel
theorem dX10_rains_54 : decode cX10_rains 54 = .ok (.return_, 1) := by decide +kernel
theorem dX10_arrives_0 : decode cX10_arrives 0 = .ok (.aload_n 0, 1) := by decide +kernel
theorem dX10_arrives_1 : decode cX10_arrives 1 = .ok (.getfield 38, 3) := by decide +kernel
theorem dX10_arrives_4 : decode cX10_arrives 4 = .ok (.iload_n 1, 1) := by decide +kernel
theorem dX10_arrives_5 : decode cX10_arrives 5 = .ok (.iaload, 1) := by decide +kernel
theorem dX10_arrives_6 : decode cX10_arrives 6 = .ok (.istore_n 3, 1) := by decide +kernel
theorem dX10_arrives_7 : decode cX10_arrives 7 = .ok (.aload_n 0, 1) := by decide +kernel
theorem dX10_arrives_8 : decode cX10_arrives 8 = .ok (.getfield 35, 3) := by decide +kernel
theorem dX10_arrives_11 : decode cX10_arrives 11 = .ok (.iload_n 1, 1) := by decide +kernel
theorem dX10_arrives_12 : decode cX10_arrives 12 = .ok (.aload_n 0, 1) := by decide +kernel
theorem dX10_arrives_13 : decode cX10_arrives 13 = .ok (.iload_n 3, 1) := by decide +kernel
theorem dX10_arrives_14 : decode cX10_arrives 14 = .ok (.aload_n 0, 1) := by decide +kernel
theorem dX10_arrives_15 : decode cX10_arrives 15 = .ok (.getfield 35, 3) := by decide +kernel
theorem dX10_arrives_18 : decode cX10_arrives 18 = .ok (.iload_n 1, 1) := by decide +kernel
theorem dX10_arrives_19 : decode cX10_arrives 19 = .ok (.iaload, 1) := by decide +kernel
theorem dX10_arrives_20 : decode cX10_arrives 20 = .ok (.invokevirtual 226, 3) := by decide +kernel
theorem dX10_arrives_23 : decode cX10_arrives 23 = .ok (.iastore, 1) := by decide +kernel
theorem dX10_arrives_24 : decode cX10_arrives 24 = .ok (.aload_n 0, 1) := by decide +kernel
theorem dX10_arrives_25 : decode cX10_arrives 25 = .ok (.getfield 38, 3) := by decide +kernel
theorem dX10_arrives_28 : decode cX10_arrives 28 = .ok (.iload_n 1, 1) := by decide +kernel
theorem dX10_arrives_29 : decode cX10_arrives 29 = .ok (.bipush (-4), 2) := by decide +kernel
theorem dX10_arrives_31 : decode cX10_arrives 31 = .ok (.iastore, 1) := by decide +kernel
theorem dX10_arrives_32 : decode cX10_arrives 32 = .ok (.aload_n 0, 1) := by decide +kernel
theorem dX10_arrives_33 : decode cX10_arrives 33 = .ok (.getfield 29, 3) := by decide +kernel
theorem dX10_arrives_36 : decode cX10_arrives 36 = .ok (.iload_n 3, 1) := by decide +kernel
theorem dX10_arrives_37 : decode cX10_arrives 37 = .ok (.dup2, 1) := by decide +kernel
theorem dX10_arrives_38 : decode cX10_arrives 38 = .ok (.iaload, 1) := by decide +kernel
theorem dX10_arrives_39 : decode cX10_arrives 39 = .ok (.aload_n 0, 1) := by decide +kernel
theorem dX10_arrives_40 : decode cX10_arrives 40 = .ok (.getfield 29, 3) := by decide +kernel
theorem dX10_arrives_43 : decode cX10_arrives 43 = .ok (.iload_n 3, 1) := by decide +kernel
theorem dX10_arrives_44 : decode cX10_arrives 44 = .ok (.iaload, 1) := by decide +kernel
theorem dX10_arrives_45 : decode cX10_arrives 45 = .ok (.ifCond .le 7, 3) := by decide +kernel
theorem dX10_arrives_48 : decode cX10_arrives 48 = .ok (.iconst 1, 1) := by decide +kernel
theorem dX10_arrives_49 : decode cX10_arrives 49 = .ok (.goto 4, 3) := by decide +kernel
theorem dX10_arrives_52 : decode cX10_arrives 52 = .ok (.iconst 0, 1) := by decide +kernel
theorem dX10_arrives_53 : decode cX10_arrives 53 = .ok (.isub, 1) := by decide +kernel
theorem dX10_arrives_54 : decode cX10_arrives 54 = .ok (.iastore, 1) := by decide +kernel
theorem dX10_arrives_55 : decode cX10_arrives 55 = .ok (.aload_n 0, 1) := by decide +kernel
theorem dX10_arrives_56 : decode cX10_arrives 56 = .ok (.getfield 44, 3) := by decide +kernel
theorem dX10_arrives_59 : decode cX10_arrives 59 = .ok (.iload_n 1, 1) := by decide +kernel
theorem dX10_arrives_60 : decode cX10_arrives 60 = .ok (.aload_n 0, 1) := by decide +kernel
theorem dX10_arrives_61 : decode cX10_arrives 61 = .ok (.getfield 35, 3) := by decide +kernel
theorem dX10_arrives_64 : decode cX10_arrives 64 = .ok (.iload_n 1, 1) := by decide +kernel
theorem dX10_arrives_65 : decode cX10_arrives 65 = .ok (.iaload, 1) := by decide +kernel
theorem dX10_arrives_66 : decode cX10_arrives 66 = .ok (.aload_n 0, 1) := by decide +kernel
theorem dX10_arrives_67 : decode cX10_arrives 67 = .ok (.getfield 17, 3) := by decide +kernel
theorem dX10_arrives_70 : decode cX10_arrives 70 = .ok (.iconst 3, 1) := by decide +kernel
theorem dX10_arrives_71 : decode cX10_arrives 71 = .ok (.iload_n 1, 1) := by decide +kernel
theorem dX10_arrives_72 : decode cX10_arrives 72 = .ok (.imul, 1) := by decide +kernel
theorem dX10_arrives_73 : decode cX10_arrives 73 = .ok (.iconst 1, 1) := by decide +kernel
theorem dX10_arrives_74 : decode cX10_arrives 74 = .ok (.iadd, 1) := by decide +kernel
theorem dX10_arrives_75 : decode cX10_arrives 75 = .ok (.iaload, 1) := by decide +kernel
theorem dX10_arrives_76 : decode cX10_arrives 76 = .ok (.if_icmp .ne 18, 3) := by decide +kernel
theorem dX10_arrives_79 : decode cX10_arrives 79 = .ok (.aload_n 0, 1) := by decide +kernel
theorem dX10_arrives_80 : decode cX10_arrives 80 = .ok (.getfield 44, 3) := by decide +kernel
theorem dX10_arrives_83 : decode cX10_arrives 83 = .ok (.iload_n 1, 1) := by decide +kernel
theorem dX10_arrives_84 : decode cX10_arrives 84 = .ok (.iaload, 1) := by decide +kernel
theorem dX10_arrives_85 : decode cX10_arrives 85 = .ok (.bipush (-4), 2) := by decide +kernel
theorem dX10_arrives_87 : decode cX10_arrives 87 = .ok (.if_icmp .ne 7, 3) := by decide +kernel
theorem dX10_arrives_90 : decode cX10_arrives 90 = .ok (.iload_n 2, 1) := by decide +kernel
theorem dX10_arrives_91 : decode cX10_arrives 91 = .ok (.goto 9, 3) := by decide +kernel
theorem dX10_arrives_94 : decode cX10_arrives 94 = .ok (.aload_n 0, 1) := by decide +kernel
theorem dX10_arrives_95 : decode cX10_arrives 95 = .ok (.getfield 44, 3) := by decide +kernel
theorem dX10_arrives_98 : decode cX10_arrives 98 = .ok (.iload_n 1, 1) := by decide +kernel
theorem dX10_arrives_99 : decode cX10_arrives 99 = .ok (.iaload, 1) := by decide +kernel
theorem dX10_arrives_100 : decode cX10_arrives 100 = .ok (.iastore, 1) := by decide +kernel
theorem dX10_arrives_101 : decode cX10_arrives 101 = .ok (.aload_n 0, 1) := by decide +kernel
theorem dX10_arrives_102 : decode cX10_arrives 102 = .ok (.invokevirtual 257, 3) := by decide +kernel
theorem dX10_arrives_105 : decode cX10_arrives 105 = .ok (.return_, 1) := by decide +kernel
theorem dX10_goesOne_0 : decode cX10_goesOne 0 = .ok (.aload_n 0, 1) := by decide +kernel
theorem dX10_goesOne_1 : decode cX10_goesOne 1 = .ok (.getfield 254, 3) := by decide +kernel
theorem dX10_goesOne_4 : decode cX10_goesOne 4 = .ok (.iload_n 1, 1) := by decide +kernel
theorem dX10_goesOne_5 : decode cX10_goesOne 5 = .ok (.ishr, 1) := by decide +kernel
theorem dX10_goesOne_6 : decode cX10_goesOne 6 = .ok (.iconst 1, 1) := by decide +kernel
theorem dX10_goesOne_7 : decode cX10_goesOne 7 = .ok (.iand, 1) := by decide +kernel
theorem dX10_goesOne_8 : decode cX10_goesOne 8 = .ok (.iconst 1, 1) := by decide +kernel
theorem dX10_goesOne_9 : decode cX10_goesOne 9 = .ok (.if_icmp .ne 4, 3) := by decide +kernel
theorem dX10_goesOne_12 : decode cX10_goesOne 12 = .ok (.return_, 1) := by decide +kernel
theorem dX10_goesOne_13 : decode cX10_goesOne 13 = .ok (.aload_n 0, 1) := by decide +kernel
theorem dX10_goesOne_14 : decode cX10_goesOne 14 = .ok (.getfield 38, 3) := by decide +kernel
theorem dX10_goesOne_17 : decode cX10_goesOne 17 = .ok (.iload_n 1, 1) := by decide +kernel
theorem dX10_goesOne_18 : decode cX10_goesOne 18 = .ok (.iaload, 1) := by decide +kernel
theorem dX10_goesOne_19 : decode cX10_goesOne 19 = .ok (.bipush (-4), 2) := by decide +kernel
theorem dX10_goesOne_21 : decode cX10_goesOne 21 = .ok (.if_icmp .eq 29, 3) := by decide +kernel
theorem dX10_goesOne_24 : decode cX10_goesOne 24 = .ok (.aload_n 0, 1) := by decide +kernel
theorem dX10_goesOne_25 : decode cX10_goesOne 25 = .ok (.getfield 41, 3) := by decide +kernel
theorem dX10_goesOne_28 : decode cX10_goesOne 28 = .ok (.iload_n 1, 1) := by decide +kernel
theorem dX10_goesOne_29 : decode cX10_goesOne 29 = .ok (.dup2, 1) := by decide +kernel
theorem dX10_goesOne_30 : decode cX10_goesOne 30 = .ok (.iaload, 1) := by decide +kernel
theorem dX10_goesOne_31 : decode cX10_goesOne 31 = .ok (.iconst 1, 1) := by decide +kernel
theorem dX10_goesOne_32 : decode cX10_goesOne 32 = .ok (.isub, 1) := by decide +kernel
theorem dX10_goesOne_33 : decode cX10_goesOne 33 = .ok (.iastore, 1) := by decide +kernel
theorem dX10_goesOne_34 : decode cX10_goesOne 34 = .ok (.aload_n 0, 1) := by decide +kernel
theorem dX10_goesOne_35 : decode cX10_goesOne 35 = .ok (.getfield 41, 3) := by decide +kernel
theorem dX10_goesOne_38 : decode cX10_goesOne 38 = .ok (.iload_n 1, 1) := by decide +kernel
theorem dX10_goesOne_39 : decode cX10_goesOne 39 = .ok (.iaload, 1) := by decide +kernel
theorem dX10_goesOne_40 : decode cX10_goesOne 40 = .ok (.ifCond .ne 9, 3) := by decide +kernel
theorem dX10_goesOne_43 : decode cX10_goesOne 43 = .ok (.aload_n 0, 1) := by decide +kernel
theorem dX10_goesOne_44 : decode cX10_goesOne 44 = .ok (.iload_n 1, 1) := by decide +kernel
theorem dX10_goesOne_45 : decode cX10_goesOne 45 = .ok (.iload_n 2, 1) := by decide +kernel
theorem dX10_goesOne_46 : decode cX10_goesOne 46 = .ok (.invokevirtual 260, 3) := by decide +kernel
theorem dX10_goesOne_49 : decode cX10_goesOne 49 = .ok (.return_, 1) := by decide +kernel
theorem dX10_goesOne_50 : decode cX10_goesOne 50 = .ok (.aload_n 0, 1) := by decide +kernel
theorem dX10_goesOne_51 : decode cX10_goesOne 51 = .ok (.getfield 35, 3) := by decide +kernel
theorem dX10_goesOne_54 : decode cX10_goesOne 54 = .ok (.iload_n 1, 1) := by decide +kernel
theorem dX10_goesOne_55 : decode cX10_goesOne 55 = .ok (.iaload, 1) := by decide +kernel
theorem dX10_goesOne_56 : decode cX10_goesOne 56 = .ok (.aload_n 0, 1) := by decide +kernel
theorem dX10_goesOne_57 : decode cX10_goesOne 57 = .ok (.getfield 17, 3) := by decide +kernel
theorem dX10_goesOne_60 : decode cX10_goesOne 60 = .ok (.iconst 3, 1) := by decide +kernel
theorem dX10_goesOne_61 : decode cX10_goesOne 61 = .ok (.iload_n 1, 1) := by decide +kernel
theorem dX10_goesOne_62 : decode cX10_goesOne 62 = .ok (.imul, 1) := by decide +kernel
theorem dX10_goesOne_63 : decode cX10_goesOne 63 = .ok (.iconst 1, 1) := by decide +kernel
theorem dX10_goesOne_64 : decode cX10_goesOne 64 = .ok (.iadd, 1) := by decide +kernel
theorem dX10_goesOne_65 : decode cX10_goesOne 65 = .ok (.iaload, 1) := by decide +kernel
theorem dX10_goesOne_66 : decode cX10_goesOne 66 = .ok (.if_icmp .eq 17, 3) := by decide +kernel
theorem dX10_goesOne_69 : decode cX10_goesOne 69 = .ok (.iload_n 2, 1) := by decide +kernel
theorem dX10_goesOne_70 : decode cX10_goesOne 70 = .ok (.aload_n 0, 1) := by decide +kernel
theorem dX10_goesOne_71 : decode cX10_goesOne 71 = .ok (.getfield 17, 3) := by decide +kernel
theorem dX10_goesOne_74 : decode cX10_goesOne 74 = .ok (.iconst 3, 1) := by decide +kernel
theorem dX10_goesOne_75 : decode cX10_goesOne 75 = .ok (.iload_n 1, 1) := by decide +kernel
theorem dX10_goesOne_76 : decode cX10_goesOne 76 = .ok (.imul, 1) := by decide +kernel
theorem dX10_goesOne_77 : decode cX10_goesOne 77 = .ok (.iconst 2, 1) := by decide +kernel
theorem dX10_goesOne_78 : decode cX10_goesOne 78 = .ok (.iadd, 1) := by decide +kernel
theorem dX10_goesOne_79 : decode cX10_goesOne 79 = .ok (.iaload, 1) := by decide +kernel
theorem dX10_goesOne_80 : decode cX10_goesOne 80 = .ok (.if_icmp .gt 4, 3) := by decide +kernel
theorem dX10_goesOne_83 : decode cX10_goesOne 83 = .ok (.return_, 1) := by decide +kernel
theorem dX10_goesOne_84 : decode cX10_goesOne 84 = .ok (.aload_n 0, 1) := by decide +kernel
theorem dX10_goesOne_85 : decode cX10_goesOne 85 = .ok (.aload_n 0, 1) := by decide +kernel
theorem dX10_goesOne_86 : decode cX10_goesOne 86 = .ok (.getfield 17, 3) := by decide +kernel
theorem dX10_goesOne_89 : decode cX10_goesOne 89 = .ok (.iconst 3, 1) := by decide +kernel
theorem dX10_goesOne_90 : decode cX10_goesOne 90 = .ok (.iload_n 1, 1) := by decide +kernel
theorem dX10_goesOne_91 : decode cX10_goesOne 91 = .ok (.imul, 1) := by decide +kernel
theorem dX10_goesOne_92 : decode cX10_goesOne 92 = .ok (.iconst 1, 1) := by decide +kernel
theorem dX10_goesOne_93 : decode cX10_goesOne 93 = .ok (.iadd, 1) := by decide +kernel
theorem dX10_goesOne_94 : decode cX10_goesOne 94 = .ok (.iaload, 1) := by decide +kernel
theorem dX10_goesOne_95 : decode cX10_goesOne 95 = .ok (.invokevirtual 236, 3) := by decide +kernel
theorem dX10_goesOne_98 : decode cX10_goesOne 98 = .ok (.aload_n 0, 1) := by decide +kernel
theorem dX10_goesOne_99 : decode cX10_goesOne 99 = .ok (.getfield 32, 3) := by decide +kernel
theorem dX10_goesOne_102 : decode cX10_goesOne 102 = .ok (.aload_n 0, 1) := by decide +kernel
theorem dX10_goesOne_103 : decode cX10_goesOne 103 = .ok (.getfield 35, 3) := by decide +kernel
theorem dX10_goesOne_106 : decode cX10_goesOne 106 = .ok (.iload_n 1, 1) := by decide +kernel
theorem dX10_goesOne_107 : decode cX10_goesOne 107 = .ok (.iaload, 1) := by decide +kernel
theorem dX10_goesOne_108 : decode cX10_goesOne 108 = .ok (.iaload, 1) := by decide +kernel
theorem dX10_goesOne_109 : decode cX10_goesOne 109 = .ok (.ldc 225, 2) := by decide +kernel
theorem dX10_goesOne_111 : decode cX10_goesOne 111 = .ok (.if_icmp .ne 14, 3) := by decide +kernel
theorem dX10_goesOne_114 : decode cX10_goesOne 114 = .ok (.aload_n 0, 1) := by decide +kernel
theorem dX10_goesOne_115 : decode cX10_goesOne 115 = .ok (.getfield 47, 3) := by decide +kernel
theorem dX10_goesOne_118 : decode cX10_goesOne 118 = .ok (.iload_n 1, 1) := by decide +kernel
theorem dX10_goesOne_119 : decode cX10_goesOne 119 = .ok (.dup2, 1) := by decide +kernel
theorem dX10_goesOne_120 : decode cX10_goesOne 120 = .ok (.iaload, 1) := by decide +kernel
theorem dX10_goesOne_121 : decode cX10_goesOne 121 = .ok (.iconst 1, 1) := by decide +kernel
theorem dX10_goesOne_122 : decode cX10_goesOne 122 = .ok (.iadd, 1) := by decide +kernel
theorem dX10_goesOne_123 : decode cX10_goesOne 123 = .ok (.iastore, 1) := by decide +kernel
theorem dX10_goesOne_124 : decode cX10_goesOne 124 = .ok (.return_, 1) := by decide +kernel
theorem dX10_goesOne_125 : decode cX10_goesOne 125 = .ok (.aload_n 0, 1) := by decide +kernel
theorem dX10_goesOne_126 : decode cX10_goesOne 126 = .ok (.getfield 38, 3) := by decide +kernel
theorem dX10_goesOne_129 : decode cX10_goesOne 129 = .ok (.iload_n 1, 1) := by decide +kernel
theorem dX10_goesOne_130 : decode cX10_goesOne 130 = .ok (.aload_n 0, 1) := by decide +kernel
theorem dX10_goesOne_131 : decode cX10_goesOne 131 = .ok (.aload_n 0, 1) := by decide +kernel
theorem dX10_goesOne_132 : decode cX10_goesOne 132 = .ok (.getfield 35, 3) := by decide +kernel
theorem dX10_goesOne_135 : decode cX10_goesOne 135 = .ok (.iload_n 1, 1) := by decide +kernel
theorem dX10_goesOne_136 : decode cX10_goesOne 136 = .ok (.iaload, 1) := by decide +kernel
theorem dX10_goesOne_137 : decode cX10_goesOne 137 = .ok (.invokevirtual 239, 3) := by decide +kernel
theorem dX10_goesOne_140 : decode cX10_goesOne 140 = .ok (.iastore, 1) := by decide +kernel
theorem dX10_goesOne_141 : decode cX10_goesOne 141 = .ok (.aload_n 0, 1) := by decide +kernel
theorem dX10_goesOne_142 : decode cX10_goesOne 142 = .ok (.getfield 41, 3) := by decide +kernel
theorem dX10_goesOne_145 : decode cX10_goesOne 145 = .ok (.iload_n 1, 1) := by decide +kernel
theorem dX10_goesOne_146 : decode cX10_goesOne 146 = .ok (.aload_n 0, 1) := by decide +kernel
theorem dX10_goesOne_147 : decode cX10_goesOne 147 = .ok (.aload_n 0, 1) := by decide +kernel
theorem dX10_goesOne_148 : decode cX10_goesOne 148 = .ok (.getfield 38, 3) := by decide +kernel
theorem dX10_goesOne_151 : decode cX10_goesOne 151 = .ok (.iload_n 1, 1) := by decide +kernel
theorem dX10_goesOne_152 : decode cX10_goesOne 152 = .ok (.iaload, 1) := by decide +kernel
theorem dX10_goesOne_153 : decode cX10_goesOne 153 = .ok (.iconst 2, 1) := by decide +kernel
theorem dX10_goesOne_154 : decode cX10_goesOne 154 = .ok (.invokevirtual 202, 3) := by decide +kernel
theorem dX10_goesOne_157 : decode cX10_goesOne 157 = .ok (.iastore, 1) := by decide +kernel
theorem dX10_goesOne_158 : decode cX10_goesOne 158 = .ok (.return_, 1) := by decide +kernel
theorem dX10_runs_0 : decode cX10_runs 0 = .ok (.aload_n 0, 1) := by decide +kernel
theorem dX10_runs_1 : decode cX10_runs 1 = .ok (.invokevirtual 264, 3) := by decide +kernel
theorem dX10_runs_4 : decode cX10_runs 4 = .ok (.iconst 1, 1) := by decide +kernel
theorem dX10_runs_5 : decode cX10_runs 5 = .ok (.istore_n 2, 1) := by decide +kernel
theorem dX10_runs_6 : decode cX10_runs 6 = .ok (.iload_n 2, 1) := by decide +kernel
theorem dX10_runs_7 : decode cX10_runs 7 = .ok (.iload_n 1, 1) := by decide +kernel
theorem dX10_runs_8 : decode cX10_runs 8 = .ok (.if_icmp .gt 62, 3) := by decide +kernel
theorem dX10_runs_11 : decode cX10_runs 11 = .ok (.iload_n 2, 1) := by decide +kernel
theorem dX10_runs_12 : decode cX10_runs 12 = .ok (.bipush 40, 2) := by decide +kernel
theorem dX10_runs_14 : decode cX10_runs 14 = .ok (.if_icmp .gt 16, 3) := by decide +kernel
theorem dX10_runs_17 : decode cX10_runs 17 = .ok (.aload_n 0, 1) := by decide +kernel
theorem dX10_runs_18 : decode cX10_runs 18 = .ok (.getfield 7, 3) := by decide +kernel
theorem dX10_runs_21 : decode cX10_runs 21 = .ok (.bipush 67, 2) := by decide +kernel
theorem dX10_runs_23 : decode cX10_runs 23 = .ok (.iload_n 2, 1) := by decide +kernel
theorem dX10_runs_24 : decode cX10_runs 24 = .ok (.iadd, 1) := by decide +kernel
theorem dX10_runs_25 : decode cX10_runs 25 = .ok (.iaload, 1) := by decide +kernel
theorem dX10_runs_26 : decode cX10_runs 26 = .ok (.iconst 1, 1) := by decide +kernel
theorem dX10_runs_27 : decode cX10_runs 27 = .ok (.if_icmp .eq 11, 3) := by decide +kernel
theorem dX10_runs_30 : decode cX10_runs 30 = .ok (.iload_n 2, 1) := by decide +kernel
theorem dX10_runs_31 : decode cX10_runs 31 = .ok (.aload_n 0, 1) := by decide +kernel
theorem dX10_runs_32 : decode cX10_runs 32 = .ok (.getfield 267, 3) := by decide +kernel
theorem dX10_runs_35 : decode cX10_runs 35 = .ok (.if_icmp .ne 7, 3) := by decide +kernel
theorem dX10_runs_38 : decode cX10_runs 38 = .ok (.aload_n 0, 1) := by decide +kernel
theorem dX10_runs_39 : decode cX10_runs 39 = .ok (.invokevirtual 270, 3) := by decide +kernel
theorem dX10_runs_42 : decode cX10_runs 42 = .ok (.iconst 0, 1) := by decide +kernel
theorem dX10_runs_43 : decode cX10_runs 43 = .ok (.istore_n 3, 1) := by decide +kernel
theorem dX10_runs_44 : decode cX10_runs 44 = .ok (.iload_n 3, 1) := by decide +kernel
theorem dX10_runs_45 : decode cX10_runs 45 = .ok (.aload_n 0, 1) := by decide +kernel
theorem dX10_runs_46 : decode cX10_runs 46 = .ok (.getfield 100, 3) := by decide +kernel
theorem dX10_runs_49 : decode cX10_runs 49 = .ok (.if_icmp .ge 15, 3) := by decide +kernel
theorem dX10_runs_52 : decode cX10_runs 52 = .ok (.aload_n 0, 1) := by decide +kernel
theorem dX10_runs_53 : decode cX10_runs 53 = .ok (.iload_n 3, 1) := by decide +kernel
theorem dX10_runs_54 : decode cX10_runs 54 = .ok (.iload_n 2, 1) := by decide +kernel
theorem dX10_runs_55 : decode cX10_runs 55 = .ok (.invokevirtual 273, 3) := by decide +kernel
theorem dX10_runs_58 : decode cX10_runs 58 = .ok (.iinc 3 1, 3) := by decide +kernel
theorem dX10_runs_61 : decode cX10_runs 61 = .ok (.goto (-17), 3) := by decide +kernel
theorem dX10_runs_64 : decode cX10_runs 64 = .ok (.iinc 2 1, 3) := by decide +kernel
theorem dX10_runs_67 : decode cX10_runs 67 = .ok (.goto (-61), 3) := by decide +kernel
theorem dX10_runs_70 : decode cX10_runs 70 = .ok (.return_, 1) := by decide +kernel
theorem dX10_isQuarter_0 : decode cX10_isQuarter 0 = .ok (.iload_n 0, 1) := by decide +kernel
theorem dX10_isQuarter_1 : decode cX10_isQuarter 1 = .ok (.i2l, 1) := by decide +kernel
theorem dX10_isQuarter_2 : decode cX10_isQuarter 2 = .ok (.lconst 0, 1) := by decide +kernel
theorem dX10_isQuarter_3 : decode cX10_isQuarter 3 = .ok (.ldc2_w 276, 3) := by decide +kernel
theorem dX10_isQuarter_6 : decode cX10_isQuarter 6 = .ok (.invokestatic 108, 3) := by decide +kernel
theorem dX10_isQuarter_9 : decode cX10_isQuarter 9 = .ok (.ireturn, 1) := by decide +kernel
theorem dX10_where_0 : decode cX10_where 0 = .ok (.aload_n 0, 1) := by decide +kernel
theorem dX10_where_1 : decode cX10_where 1 = .ok (.iload_n 1, 1) := by decide +kernel
theorem dX10_where_2 : decode cX10_where 2 = .ok (.invokevirtual 208, 3) := by decide +kernel
theorem dX10_where_5 : decode cX10_where 5 = .ok (.ifCond .eq 10, 3) := by decide +kernel
theorem dX10_where_8 : decode cX10_where 8 = .ok (.iload_n 2, 1) := by decide +kernel
theorem dX10_where_9 : decode cX10_where 9 = .ok (.invokestatic 278, 3) := by decide +kernel
theorem dX10_where_12 : decode cX10_where 12 = .ok (.ifCond .ne 5, 3) := by decide +kernel
theorem dX10_where_15 : decode cX10_where 15 = .ok (.iconst (-1), 1) := by decide +kernel
theorem dX10_where_16 : decode cX10_where 16 = .ok (.ireturn, 1) := by decide +kernel
theorem dX10_where_17 : decode cX10_where 17 = .ok (.aload_n 0, 1) := by decide +kernel
theorem dX10_where_18 : decode cX10_where 18 = .ok (.iload_n 2, 1) := by decide +kernel
theorem dX10_where_19 : decode cX10_where 19 = .ok (.invokevirtual 281, 3) := by decide +kernel
theorem dX10_where_22 : decode cX10_where 22 = .ok (.aload_n 0, 1) := by decide +kernel
theorem dX10_where_23 : decode cX10_where 23 = .ok (.getfield 254, 3) := by decide +kernel
theorem dX10_where_26 : decode cX10_where 26 = .ok (.iload_n 1, 1) := by decide +kernel
theorem dX10_where_27 : decode cX10_where 27 = .ok (.ishr, 1) := by decide +kernel
theorem dX10_where_28 : decode cX10_where 28 = .ok (.iconst 1, 1) := by decide +kernel
theorem dX10_where_29 : decode cX10_where 29 = .ok (.iand, 1) := by decide +kernel
theorem dX10_where_30 : decode cX10_where 30 = .ok (.iconst 1, 1) := by decide +kernel
theorem dX10_where_31 : decode cX10_where 31 = .ok (.if_icmp .ne 8, 3) := by decide +kernel
theorem dX10_where_34 : decode cX10_where 34 = .ok (.bipush (-4), 2) := by decide +kernel
theorem dX10_where_36 : decode cX10_where 36 = .ok (.goto 32, 3) := by decide +kernel
theorem dX10_where_39 : decode cX10_where 39 = .ok (.aload_n 0, 1) := by decide +kernel
theorem dX10_where_40 : decode cX10_where 40 = .ok (.getfield 38, 3) := by decide +kernel
theorem dX10_where_43 : decode cX10_where 43 = .ok (.iload_n 1, 1) := by decide +kernel
theorem dX10_where_44 : decode cX10_where 44 = .ok (.iaload, 1) := by decide +kernel
theorem dX10_where_45 : decode cX10_where 45 = .ok (.bipush (-4), 2) := by decide +kernel
theorem dX10_where_47 : decode cX10_where 47 = .ok (.if_icmp .ne 12, 3) := by decide +kernel
theorem dX10_where_50 : decode cX10_where 50 = .ok (.aload_n 0, 1) := by decide +kernel
theorem dX10_where_51 : decode cX10_where 51 = .ok (.getfield 35, 3) := by decide +kernel
theorem dX10_where_54 : decode cX10_where 54 = .ok (.iload_n 1, 1) := by decide +kernel
theorem dX10_where_55 : decode cX10_where 55 = .ok (.iaload, 1) := by decide +kernel
theorem dX10_where_56 : decode cX10_where 56 = .ok (.goto 12, 3) := by decide +kernel
theorem dX10_where_59 : decode cX10_where 59 = .ok (.bipush 100, 2) := by decide +kernel
theorem dX10_where_61 : decode cX10_where 61 = .ok (.aload_n 0, 1) := by decide +kernel
theorem dX10_where_62 : decode cX10_where 62 = .ok (.getfield 38, 3) := by decide +kernel
theorem dX10_where_65 : decode cX10_where 65 = .ok (.iload_n 1, 1) := by decide +kernel
theorem dX10_where_66 : decode cX10_where 66 = .ok (.iaload, 1) := by decide +kernel
theorem dX10_where_67 : decode cX10_where 67 = .ok (.iadd, 1) := by decide +kernel
theorem dX10_where_68 : decode cX10_where 68 = .ok (.ireturn, 1) := by decide +kernel
theorem dX10_strength_0 : decode cX10_strength 0 = .ok (.aload_n 0, 1) := by decide +kernel
theorem dX10_strength_1 : decode cX10_strength 1 = .ok (.iload_n 1, 1) := by decide +kernel
theorem dX10_strength_2 : decode cX10_strength 2 = .ok (.invokevirtual 196, 3) := by decide +kernel
theorem dX10_strength_5 : decode cX10_strength 5 = .ok (.ifCond .eq 10, 3) := by decide +kernel
theorem dX10_strength_8 : decode cX10_strength 8 = .ok (.iload_n 2, 1) := by decide +kernel
theorem dX10_strength_9 : decode cX10_strength 9 = .ok (.invokestatic 278, 3) := by decide +kernel
theorem dX10_strength_12 : decode cX10_strength 12 = .ok (.ifCond .ne 5, 3) := by decide +kernel
theorem dX10_strength_15 : decode cX10_strength 15 = .ok (.iconst (-1), 1) := by decide +kernel
theorem dX10_strength_16 : decode cX10_strength 16 = .ok (.ireturn, 1) := by decide +kernel
theorem dX10_strength_17 : decode cX10_strength 17 = .ok (.aload_n 0, 1) := by decide +kernel
theorem dX10_strength_18 : decode cX10_strength 18 = .ok (.iload_n 2, 1) := by decide +kernel
theorem dX10_strength_19 : decode cX10_strength 19 = .ok (.invokevirtual 281, 3) := by decide +kernel
theorem dX10_strength_22 : decode cX10_strength 22 = .ok (.aload_n 0, 1) := by decide +kernel
theorem dX10_strength_23 : decode cX10_strength 23 = .ok (.getfield 29, 3) := by decide +kernel
theorem dX10_strength_26 : decode cX10_strength 26 = .ok (.iload_n 1, 1) := by decide +kernel
theorem dX10_strength_27 : decode cX10_strength 27 = .ok (.iaload, 1) := by decide +kernel
theorem dX10_strength_28 : decode cX10_strength 28 = .ok (.ireturn, 1) := by decide +kernel
theorem dX10_comes_0 : decode cX10_comes 0 = .ok (.aload_n 0, 1) := by decide +kernel
theorem dX10_comes_1 : decode cX10_comes 1 = .ok (.iload_n 1, 1) := by decide +kernel
theorem dX10_comes_2 : decode cX10_comes 2 = .ok (.invokevirtual 208, 3) := by decide +kernel
theorem dX10_comes_5 : decode cX10_comes 5 = .ok (.ifCond .ne 5, 3) := by decide +kernel
theorem dX10_comes_8 : decode cX10_comes 8 = .ok (.iconst (-1), 1) := by decide +kernel
theorem dX10_comes_9 : decode cX10_comes 9 = .ok (.ireturn, 1) := by decide +kernel
theorem dX10_comes_10 : decode cX10_comes 10 = .ok (.aload_n 0, 1) := by decide +kernel
theorem dX10_comes_11 : decode cX10_comes 11 = .ok (.bipush 60, 2) := by decide +kernel
theorem dX10_comes_13 : decode cX10_comes 13 = .ok (.invokevirtual 281, 3) := by decide +kernel
theorem dX10_comes_16 : decode cX10_comes 16 = .ok (.aload_n 0, 1) := by decide +kernel
theorem dX10_comes_17 : decode cX10_comes 17 = .ok (.getfield 44, 3) := by decide +kernel
theorem dX10_comes_20 : decode cX10_comes 20 = .ok (.iload_n 1, 1) := by decide +kernel
theorem dX10_comes_21 : decode cX10_comes 21 = .ok (.iaload, 1) := by decide +kernel
theorem dX10_comes_22 : decode cX10_comes 22 = .ok (.ireturn, 1) := by decide +kernel
theorem dX10_waited_0 : decode cX10_waited 0 = .ok (.aload_n 0, 1) := by decide +kernel
theorem dX10_waited_1 : decode cX10_waited 1 = .ok (.iload_n 1, 1) := by decide +kernel
theorem dX10_waited_2 : decode cX10_waited 2 = .ok (.invokevirtual 208, 3) := by decide +kernel
theorem dX10_waited_5 : decode cX10_waited 5 = .ok (.ifCond .eq 10, 3) := by decide +kernel
theorem dX10_waited_8 : decode cX10_waited 8 = .ok (.iload_n 2, 1) := by decide +kernel
theorem dX10_waited_9 : decode cX10_waited 9 = .ok (.invokestatic 278, 3) := by decide +kernel
theorem dX10_waited_12 : decode cX10_waited 12 = .ok (.ifCond .ne 5, 3) := by decide +kernel
theorem dX10_waited_15 : decode cX10_waited 15 = .ok (.iconst (-1), 1) := by decide +kernel
theorem dX10_waited_16 : decode cX10_waited 16 = .ok (.ireturn, 1) := by decide +kernel
theorem dX10_waited_17 : decode cX10_waited 17 = .ok (.aload_n 0, 1) := by decide +kernel
theorem dX10_waited_18 : decode cX10_waited 18 = .ok (.iload_n 2, 1) := by decide +kernel
theorem dX10_waited_19 : decode cX10_waited 19 = .ok (.invokevirtual 281, 3) := by decide +kernel
theorem dX10_waited_22 : decode cX10_waited 22 = .ok (.aload_n 0, 1) := by decide +kernel
theorem dX10_waited_23 : decode cX10_waited 23 = .ok (.getfield 47, 3) := by decide +kernel
theorem dX10_waited_26 : decode cX10_waited 26 = .ok (.iload_n 1, 1) := by decide +kernel
theorem dX10_waited_27 : decode cX10_waited 27 = .ok (.iaload, 1) := by decide +kernel
theorem dX10_waited_28 : decode cX10_waited 28 = .ok (.ireturn, 1) := by decide +kernel
theorem dX10_lost_0 : decode cX10_lost 0 = .ok (.iload_n 1, 1) := by decide +kernel
theorem dX10_lost_1 : decode cX10_lost 1 = .ok (.invokestatic 278, 3) := by decide +kernel
theorem dX10_lost_4 : decode cX10_lost 4 = .ok (.ifCond .ne 5, 3) := by decide +kernel
theorem dX10_lost_7 : decode cX10_lost 7 = .ok (.iconst (-1), 1) := by decide +kernel
theorem dX10_lost_8 : decode cX10_lost 8 = .ok (.ireturn, 1) := by decide +kernel
theorem dX10_lost_9 : decode cX10_lost 9 = .ok (.aload_n 0, 1) := by decide +kernel
theorem dX10_lost_10 : decode cX10_lost 10 = .ok (.iload_n 1, 1) := by decide +kernel
theorem dX10_lost_11 : decode cX10_lost 11 = .ok (.invokevirtual 281, 3) := by decide +kernel
theorem dX10_lost_14 : decode cX10_lost 14 = .ok (.aload_n 0, 1) := by decide +kernel
theorem dX10_lost_15 : decode cX10_lost 15 = .ok (.getfield 254, 3) := by decide +kernel
theorem dX10_lost_18 : decode cX10_lost 18 = .ok (.ireturn, 1) := by decide +kernel
theorem dX10_storm_0 : decode cX10_storm 0 = .ok (.iload_n 1, 1) := by decide +kernel
theorem dX10_storm_1 : decode cX10_storm 1 = .ok (.invokestatic 278, 3) := by decide +kernel
theorem dX10_storm_4 : decode cX10_storm 4 = .ok (.ifCond .ne 5, 3) := by decide +kernel
theorem dX10_storm_7 : decode cX10_storm 7 = .ok (.iconst (-1), 1) := by decide +kernel
theorem dX10_storm_8 : decode cX10_storm 8 = .ok (.ireturn, 1) := by decide +kernel
theorem dX10_storm_9 : decode cX10_storm 9 = .ok (.aload_n 0, 1) := by decide +kernel
theorem dX10_storm_10 : decode cX10_storm 10 = .ok (.iload_n 1, 1) := by decide +kernel
theorem dX10_storm_11 : decode cX10_storm 11 = .ok (.invokevirtual 281, 3) := by decide +kernel
theorem dX10_storm_14 : decode cX10_storm 14 = .ok (.iconst 0, 1) := by decide +kernel
theorem dX10_storm_15 : decode cX10_storm 15 = .ok (.istore_n 2, 1) := by decide +kernel
theorem dX10_storm_16 : decode cX10_storm 16 = .ok (.iconst 0, 1) := by decide +kernel
theorem dX10_storm_17 : decode cX10_storm 17 = .ok (.istore_n 3, 1) := by decide +kernel
theorem dX10_storm_18 : decode cX10_storm 18 = .ok (.iload_n 3, 1) := by decide +kernel
theorem dX10_storm_19 : decode cX10_storm 19 = .ok (.aload_n 0, 1) := by decide +kernel
theorem dX10_storm_20 : decode cX10_storm 20 = .ok (.getfield 100, 3) := by decide +kernel
theorem dX10_storm_23 : decode cX10_storm 23 = .ok (.if_icmp .ge 47, 3) := by decide +kernel
theorem dX10_storm_26 : decode cX10_storm 26 = .ok (.iload_n 2, 1) := by decide +kernel
theorem dX10_storm_27 : decode cX10_storm 27 = .ok (.aload_n 0, 1) := by decide +kernel
theorem dX10_storm_28 : decode cX10_storm 28 = .ok (.getfield 38, 3) := by decide +kernel
theorem dX10_storm_31 : decode cX10_storm 31 = .ok (.iload_n 3, 1) := by decide +kernel
theorem dX10_storm_32 : decode cX10_storm 32 = .ok (.iaload, 1) := by decide +kernel
theorem dX10_storm_33 : decode cX10_storm 33 = .ok (.bipush (-4), 2) := by decide +kernel
theorem dX10_storm_35 : decode cX10_storm 35 = .ok (.if_icmp .eq 21, 3) := by decide +kernel
theorem dX10_storm_38 : decode cX10_storm 38 = .ok (.aload_n 0, 1) := by decide +kernel
theorem dX10_storm_39 : decode cX10_storm 39 = .ok (.aload_n 0, 1) := by decide +kernel
theorem dX10_storm_40 : decode cX10_storm 40 = .ok (.getfield 38, 3) := by decide +kernel
theorem dX10_storm_43 : decode cX10_storm 43 = .ok (.iload_n 3, 1) := by decide +kernel
theorem dX10_storm_44 : decode cX10_storm 44 = .ok (.iaload, 1) := by decide +kernel
theorem dX10_storm_45 : decode cX10_storm 45 = .ok (.iconst 4, 1) := by decide +kernel
theorem dX10_storm_46 : decode cX10_storm 46 = .ok (.invokevirtual 202, 3) := by decide +kernel
theorem dX10_storm_49 : decode cX10_storm 49 = .ok (.ifCond .ne 7, 3) := by decide +kernel
theorem dX10_storm_52 : decode cX10_storm 52 = .ok (.iconst 1, 1) := by decide +kernel
theorem dX10_storm_53 : decode cX10_storm 53 = .ok (.goto 4, 3) := by decide +kernel
theorem dX10_storm_56 : decode cX10_storm 56 = .ok (.iconst 0, 1) := by decide +kernel
theorem dX10_storm_57 : decode cX10_storm 57 = .ok (.invokestatic 218, 3) := by decide +kernel
theorem dX10_storm_60 : decode cX10_storm 60 = .ok (.iload_n 3, 1) := by decide +kernel
theorem dX10_storm_61 : decode cX10_storm 61 = .ok (.ishl, 1) := by decide +kernel
theorem dX10_storm_62 : decode cX10_storm 62 = .ok (.ior, 1) := by decide +kernel
theorem dX10_storm_63 : decode cX10_storm 63 = .ok (.istore_n 2, 1) := by decide +kernel
theorem dX10_storm_64 : decode cX10_storm 64 = .ok (.iinc 3 1, 3) := by decide +kernel
theorem dX10_storm_67 : decode cX10_storm 67 = .ok (.goto (-49), 3) := by decide +kernel
theorem dX10_storm_70 : decode cX10_storm 70 = .ok (.iload_n 2, 1) := by decide +kernel
theorem dX10_storm_71 : decode cX10_storm 71 = .ok (.ireturn, 1) := by decide +kernel
theorem dX10_worst_0 : decode cX10_worst 0 = .ok (.iload_n 1, 1) := by decide +kernel
theorem dX10_worst_1 : decode cX10_worst 1 = .ok (.i2l, 1) := by decide +kernel
theorem dX10_worst_2 : decode cX10_worst 2 = .ok (.lconst 0, 1) := by decide +kernel
theorem dX10_worst_3 : decode cX10_worst 3 = .ok (.lconst 1, 1) := by decide +kernel
theorem dX10_worst_4 : decode cX10_worst 4 = .ok (.invokestatic 108, 3) := by decide +kernel
theorem dX10_worst_7 : decode cX10_worst 7 = .ok (.ifCond .ne 5, 3) := by decide +kernel
theorem dX10_worst_10 : decode cX10_worst 10 = .ok (.iconst (-1), 1) := by decide +kernel
theorem dX10_worst_11 : decode cX10_worst 11 = .ok (.ireturn, 1) := by decide +kernel
theorem dX10_worst_12 : decode cX10_worst 12 = .ok (.aload_n 0, 1) := by decide +kernel
theorem dX10_worst_13 : decode cX10_worst 13 = .ok (.bipush 60, 2) := by decide +kernel
theorem dX10_worst_15 : decode cX10_worst 15 = .ok (.invokevirtual 281, 3) := by decide +kernel
theorem dX10_worst_18 : decode cX10_worst 18 = .ok (.aload_n 0, 1) := by decide +kernel
theorem dX10_worst_19 : decode cX10_worst 19 = .ok (.getfield 254, 3) := by decide +kernel
theorem dX10_worst_22 : decode cX10_worst 22 = .ok (.invokestatic 284, 3) := by decide +kernel
theorem dX10_worst_25 : decode cX10_worst 25 = .ok (.istore_n 2, 1) := by decide +kernel
theorem dX10_worst_26 : decode cX10_worst 26 = .ok (.bipush (-4), 2) := by decide +kernel
theorem dX10_worst_28 : decode cX10_worst 28 = .ok (.istore_n 3, 1) := by decide +kernel
theorem dX10_worst_29 : decode cX10_worst 29 = .ok (.iconst 1, 1) := by decide +kernel
theorem dX10_worst_30 : decode cX10_worst 30 = .ok (.istore 4, 2) := by decide +kernel
theorem dX10_worst_32 : decode cX10_worst 32 = .ok (.iload 4, 2) := by decide +kernel
theorem dX10_worst_34 : decode cX10_worst 34 = .ok (.bipush 40, 2) := by decide +kernel
theorem dX10_worst_36 : decode cX10_worst 36 = .ok (.if_icmp .gt 80, 3) := by decide +kernel
theorem dX10_worst_39 : decode cX10_worst 39 = .ok (.aload_n 0, 1) := by decide +kernel
theorem dX10_worst_40 : decode cX10_worst 40 = .ok (.aload_n 0, 1) := by decide +kernel
theorem dX10_worst_41 : decode cX10_worst 41 = .ok (.getfield 7, 3) := by decide +kernel
theorem dX10_worst_44 : decode cX10_worst 44 = .ok (.bipush 67, 2) := by decide +kernel
theorem dX10_worst_46 : decode cX10_worst 46 = .ok (.iload 4, 2) := by decide +kernel
theorem dX10_worst_48 : decode cX10_worst 48 = .ok (.iadd, 1) := by decide +kernel
theorem dX10_worst_49 : decode cX10_worst 49 = .ok (.iaload, 1) := by decide +kernel
theorem dX10_worst_50 : decode cX10_worst 50 = .ok (.iconst 1, 1) := by decide +kernel
theorem dX10_worst_51 : decode cX10_worst 51 = .ok (.if_icmp .ne 7, 3) := by decide +kernel
theorem dX10_worst_54 : decode cX10_worst 54 = .ok (.iconst 0, 1) := by decide +kernel
theorem dX10_worst_55 : decode cX10_worst 55 = .ok (.goto 5, 3) := by decide +kernel
theorem dX10_worst_58 : decode cX10_worst 58 = .ok (.iload 4, 2) := by decide +kernel
theorem dX10_worst_60 : decode cX10_worst 60 = .ok (.putfield 267, 3) := by decide +kernel
theorem dX10_worst_63 : decode cX10_worst 63 = .ok (.aload_n 0, 1) := by decide +kernel
theorem dX10_worst_64 : decode cX10_worst 64 = .ok (.bipush 60, 2) := by decide +kernel
theorem dX10_worst_66 : decode cX10_worst 66 = .ok (.invokevirtual 281, 3) := by decide +kernel
theorem dX10_worst_69 : decode cX10_worst 69 = .ok (.aload_n 0, 1) := by decide +kernel
theorem dX10_worst_70 : decode cX10_worst 70 = .ok (.getfield 254, 3) := by decide +kernel
theorem dX10_worst_73 : decode cX10_worst 73 = .ok (.invokestatic 284, 3) := by decide +kernel
theorem dX10_worst_76 : decode cX10_worst 76 = .ok (.iload_n 2, 1) := by decide +kernel
theorem dX10_worst_77 : decode cX10_worst 77 = .ok (.if_icmp .le 8, 3) := by decide +kernel
theorem dX10_worst_80 : decode cX10_worst 80 = .ok (.iload 4, 2) := by decide +kernel
theorem dX10_worst_82 : decode cX10_worst 82 = .ok (.goto 4, 3) := by decide +kernel
theorem dX10_worst_85 : decode cX10_worst 85 = .ok (.iload_n 3, 1) := by decide +kernel
theorem dX10_worst_86 : decode cX10_worst 86 = .ok (.istore_n 3, 1) := by decide +kernel
theorem dX10_worst_87 : decode cX10_worst 87 = .ok (.aload_n 0, 1) := by decide +kernel
theorem dX10_worst_88 : decode cX10_worst 88 = .ok (.getfield 254, 3) := by decide +kernel
theorem dX10_worst_91 : decode cX10_worst 91 = .ok (.invokestatic 284, 3) := by decide +kernel
theorem dX10_worst_94 : decode cX10_worst 94 = .ok (.iload_n 2, 1) := by decide +kernel
theorem dX10_worst_95 : decode cX10_worst 95 = .ok (.if_icmp .le 13, 3) := by decide +kernel
theorem dX10_worst_98 : decode cX10_worst 98 = .ok (.aload_n 0, 1) := by decide +kernel
theorem dX10_worst_99 : decode cX10_worst 99 = .ok (.getfield 254, 3) := by decide +kernel
theorem dX10_worst_102 : decode cX10_worst 102 = .ok (.invokestatic 284, 3) := by decide +kernel
theorem dX10_worst_105 : decode cX10_worst 105 = .ok (.goto 4, 3) := by decide +kernel
theorem dX10_worst_108 : decode cX10_worst 108 = .ok (.iload_n 2, 1) := by decide +kernel
theorem dX10_worst_109 : decode cX10_worst 109 = .ok (.istore_n 2, 1) := by decide +kernel
theorem dX10_worst_110 : decode cX10_worst 110 = .ok (.iinc 4 1, 3) := by decide +kernel
theorem dX10_worst_113 : decode cX10_worst 113 = .ok (.goto (-81), 3) := by decide +kernel
theorem dX10_worst_116 : decode cX10_worst 116 = .ok (.aload_n 0, 1) := by decide +kernel
theorem dX10_worst_117 : decode cX10_worst 117 = .ok (.iconst 0, 1) := by decide +kernel
theorem dX10_worst_118 : decode cX10_worst 118 = .ok (.putfield 267, 3) := by decide +kernel
theorem dX10_worst_121 : decode cX10_worst 121 = .ok (.iload_n 3, 1) := by decide +kernel
theorem dX10_worst_122 : decode cX10_worst 122 = .ok (.bipush (-4), 2) := by decide +kernel
theorem dX10_worst_124 : decode cX10_worst 124 = .ok (.if_icmp .ne 8, 3) := by decide +kernel
theorem dX10_worst_127 : decode cX10_worst 127 = .ok (.bipush (-4), 2) := by decide +kernel
theorem dX10_worst_129 : decode cX10_worst 129 = .ok (.goto 12, 3) := by decide +kernel
theorem dX10_worst_132 : decode cX10_worst 132 = .ok (.iload_n 1, 1) := by decide +kernel
theorem dX10_worst_133 : decode cX10_worst 133 = .ok (.ifCond .ne 7, 3) := by decide +kernel
theorem dX10_worst_136 : decode cX10_worst 136 = .ok (.iload_n 3, 1) := by decide +kernel
theorem dX10_worst_137 : decode cX10_worst 137 = .ok (.goto 4, 3) := by decide +kernel
theorem dX10_worst_140 : decode cX10_worst 140 = .ok (.iload_n 2, 1) := by decide +kernel
theorem dX10_worst_141 : decode cX10_worst 141 = .ok (.ireturn, 1) := by decide +kernel
theorem dX10_yardsOf_0 : decode cX10_yardsOf 0 = .ok (.iconst 0, 1) := by decide +kernel
theorem dX10_yardsOf_1 : decode cX10_yardsOf 1 = .ok (.istore_n 2, 1) := by decide +kernel
theorem dX10_yardsOf_2 : decode cX10_yardsOf 2 = .ok (.iconst 0, 1) := by decide +kernel
theorem dX10_yardsOf_3 : decode cX10_yardsOf 3 = .ok (.istore_n 3, 1) := by decide +kernel
theorem dX10_yardsOf_4 : decode cX10_yardsOf 4 = .ok (.iload_n 3, 1) := by decide +kernel
theorem dX10_yardsOf_5 : decode cX10_yardsOf 5 = .ok (.aload_n 0, 1) := by decide +kernel
theorem dX10_yardsOf_6 : decode cX10_yardsOf 6 = .ok (.getfield 7, 3) := by decide +kernel
theorem dX10_yardsOf_9 : decode cX10_yardsOf 9 = .ok (.iconst 0, 1) := by decide +kernel
theorem dX10_yardsOf_10 : decode cX10_yardsOf 10 = .ok (.iaload, 1) := by decide +kernel
theorem dX10_yardsOf_11 : decode cX10_yardsOf 11 = .ok (.if_icmp .ge 31, 3) := by decide +kernel
theorem dX10_yardsOf_14 : decode cX10_yardsOf 14 = .ok (.iload_n 2, 1) := by decide +kernel
theorem dX10_yardsOf_15 : decode cX10_yardsOf 15 = .ok (.iload_n 1, 1) := by decide +kernel
theorem dX10_yardsOf_16 : decode cX10_yardsOf 16 = .ok (.iload_n 3, 1) := by decide +kernel
theorem dX10_yardsOf_17 : decode cX10_yardsOf 17 = .ok (.ishr, 1) := by decide +kernel
theorem dX10_yardsOf_18 : decode cX10_yardsOf 18 = .ok (.iconst 1, 1) := by decide +kernel
theorem dX10_yardsOf_19 : decode cX10_yardsOf 19 = .ok (.iand, 1) := by decide +kernel
theorem dX10_yardsOf_20 : decode cX10_yardsOf 20 = .ok (.iconst 1, 1) := by decide +kernel
theorem dX10_yardsOf_21 : decode cX10_yardsOf 21 = .ok (.if_icmp .ne 12, 3) := by decide +kernel
theorem dX10_yardsOf_24 : decode cX10_yardsOf 24 = .ok (.aload_n 0, 1) := by decide +kernel
theorem dX10_yardsOf_25 : decode cX10_yardsOf 25 = .ok (.iload_n 3, 1) := by decide +kernel
theorem dX10_yardsOf_26 : decode cX10_yardsOf 26 = .ok (.iconst 2, 1) := by decide +kernel
theorem dX10_yardsOf_27 : decode cX10_yardsOf 27 = .ok (.invokevirtual 202, 3) := by decide +kernel
theorem dX10_yardsOf_30 : decode cX10_yardsOf 30 = .ok (.goto 4, 3) := by decide +kernel
theorem dX10_yardsOf_33 : decode cX10_yardsOf 33 = .ok (.iconst 0, 1) := by decide +kernel
theorem dX10_yardsOf_34 : decode cX10_yardsOf 34 = .ok (.iadd, 1) := by decide +kernel
theorem dX10_yardsOf_35 : decode cX10_yardsOf 35 = .ok (.istore_n 2, 1) := by decide +kernel
theorem dX10_yardsOf_36 : decode cX10_yardsOf 36 = .ok (.iinc 3 1, 3) := by decide +kernel
theorem dX10_yardsOf_39 : decode cX10_yardsOf 39 = .ok (.goto (-35), 3) := by decide +kernel
theorem dX10_yardsOf_42 : decode cX10_yardsOf 42 = .ok (.iload_n 2, 1) := by decide +kernel
theorem dX10_yardsOf_43 : decode cX10_yardsOf 43 = .ok (.ireturn, 1) := by decide +kernel
theorem dX10_areSure_0 : decode cX10_areSure 0 = .ok (.aload_n 0, 1) := by decide +kernel
theorem dX10_areSure_1 : decode cX10_areSure 1 = .ok (.iload_n 1, 1) := by decide +kernel
theorem dX10_areSure_2 : decode cX10_areSure 2 = .ok (.invokevirtual 251, 3) := by decide +kernel
theorem dX10_areSure_5 : decode cX10_areSure 5 = .ok (.istore_n 2, 1) := by decide +kernel
theorem dX10_areSure_6 : decode cX10_areSure 6 = .ok (.iconst 0, 1) := by decide +kernel
theorem dX10_areSure_7 : decode cX10_areSure 7 = .ok (.istore_n 3, 1) := by decide +kernel
theorem dX10_areSure_8 : decode cX10_areSure 8 = .ok (.iload_n 3, 1) := by decide +kernel
theorem dX10_areSure_9 : decode cX10_areSure 9 = .ok (.aload_n 0, 1) := by decide +kernel
theorem dX10_areSure_10 : decode cX10_areSure 10 = .ok (.getfield 7, 3) := by decide +kernel
theorem dX10_areSure_13 : decode cX10_areSure 13 = .ok (.iconst 0, 1) := by decide +kernel
theorem dX10_areSure_14 : decode cX10_areSure 14 = .ok (.iaload, 1) := by decide +kernel
theorem dX10_areSure_15 : decode cX10_areSure 15 = .ok (.if_icmp .ge 41, 3) := by decide +kernel
theorem dX10_areSure_18 : decode cX10_areSure 18 = .ok (.iload_n 2, 1) := by decide +kernel
theorem dX10_areSure_19 : decode cX10_areSure 19 = .ok (.ifCond .eq 37, 3) := by decide +kernel
theorem dX10_areSure_22 : decode cX10_areSure 22 = .ok (.iload_n 1, 1) := by decide +kernel
theorem dX10_areSure_23 : decode cX10_areSure 23 = .ok (.iload_n 3, 1) := by decide +kernel
theorem dX10_areSure_24 : decode cX10_areSure 24 = .ok (.ishr, 1) := by decide +kernel
theorem dX10_areSure_25 : decode cX10_areSure 25 = .ok (.iconst 1, 1) := by decide +kernel
theorem dX10_areSure_26 : decode cX10_areSure 26 = .ok (.iand, 1) := by decide +kernel
theorem dX10_areSure_27 : decode cX10_areSure 27 = .ok (.ifCond .eq 17, 3) := by decide +kernel
theorem dX10_areSure_30 : decode cX10_areSure 30 = .ok (.aload_n 0, 1) := by decide +kernel
theorem dX10_areSure_31 : decode cX10_areSure 31 = .ok (.iload_n 1, 1) := by decide +kernel
theorem dX10_areSure_32 : decode cX10_areSure 32 = .ok (.iconst 1, 1) := by decide +kernel
theorem dX10_areSure_33 : decode cX10_areSure 33 = .ok (.iload_n 3, 1) := by decide +kernel
theorem dX10_areSure_34 : decode cX10_areSure 34 = .ok (.ishl, 1) := by decide +kernel
theorem dX10_areSure_35 : decode cX10_areSure 35 = .ok (.iconst (-1), 1) := by decide +kernel
theorem dX10_areSure_36 : decode cX10_areSure 36 = .ok (.ixor, 1) := by decide +kernel
theorem dX10_areSure_37 : decode cX10_areSure 37 = .ok (.iand, 1) := by decide +kernel
theorem dX10_areSure_38 : decode cX10_areSure 38 = .ok (.invokevirtual 251, 3) := by decide +kernel
theorem dX10_areSure_41 : decode cX10_areSure 41 = .ok (.ifCond .eq 7, 3) := by decide +kernel
theorem dX10_areSure_44 : decode cX10_areSure 44 = .ok (.iconst 1, 1) := by decide +kernel
theorem dX10_areSure_45 : decode cX10_areSure 45 = .ok (.goto 4, 3) := by decide +kernel
theorem dX10_areSure_48 : decode cX10_areSure 48 = .ok (.iconst 0, 1) := by decide +kernel
theorem dX10_areSure_49 : decode cX10_areSure 49 = .ok (.istore_n 2, 1) := by decide +kernel
theorem dX10_areSure_50 : decode cX10_areSure 50 = .ok (.iinc 3 1, 3) := by decide +kernel
theorem dX10_areSure_53 : decode cX10_areSure 53 = .ok (.goto (-45), 3) := by decide +kernel
theorem dX10_areSure_56 : decode cX10_areSure 56 = .ok (.iload_n 2, 1) := by decide +kernel
theorem dX10_areSure_57 : decode cX10_areSure 57 = .ok (.ireturn, 1) := by decide +kernel
theorem dX10_findDawn_0 : decode cX10_findDawn 0 = .ok (.aload_n 0, 1) := by decide +kernel
theorem dX10_findDawn_1 : decode cX10_findDawn 1 = .ok (.invokevirtual 242, 3) := by decide +kernel
theorem dX10_findDawn_4 : decode cX10_findDawn 4 = .ok (.istore_n 3, 1) := by decide +kernel
theorem dX10_findDawn_5 : decode cX10_findDawn 5 = .ok (.bipush (-4), 2) := by decide +kernel
theorem dX10_findDawn_7 : decode cX10_findDawn 7 = .ok (.istore 4, 2) := by decide +kernel
theorem dX10_findDawn_9 : decode cX10_findDawn 9 = .ok (.ldc 225, 2) := by decide +kernel
theorem dX10_findDawn_11 : decode cX10_findDawn 11 = .ok (.istore 5, 2) := by decide +kernel
theorem dX10_findDawn_13 : decode cX10_findDawn 13 = .ok (.iconst 0, 1) := by decide +kernel
theorem dX10_findDawn_14 : decode cX10_findDawn 14 = .ok (.istore 6, 2) := by decide +kernel
theorem dX10_findDawn_16 : decode cX10_findDawn 16 = .ok (.iload 6, 2) := by decide +kernel
theorem dX10_findDawn_18 : decode cX10_findDawn 18 = .ok (.iconst 1, 1) := by decide +kernel
theorem dX10_findDawn_19 : decode cX10_findDawn 19 = .ok (.aload_n 0, 1) := by decide +kernel
theorem dX10_findDawn_20 : decode cX10_findDawn 20 = .ok (.getfield 7, 3) := by decide +kernel
theorem dX10_findDawn_23 : decode cX10_findDawn 23 = .ok (.iconst 0, 1) := by decide +kernel
theorem dX10_findDawn_24 : decode cX10_findDawn 24 = .ok (.iaload, 1) := by decide +kernel
theorem dX10_findDawn_25 : decode cX10_findDawn 25 = .ok (.ishl, 1) := by decide +kernel
theorem dX10_findDawn_26 : decode cX10_findDawn 26 = .ok (.if_icmp .ge 68, 3) := by decide +kernel
theorem dX10_findDawn_29 : decode cX10_findDawn 29 = .ok (.iload 6, 2) := by decide +kernel
theorem dX10_findDawn_31 : decode cX10_findDawn 31 = .ok (.iload_n 3, 1) := by decide +kernel
theorem dX10_findDawn_32 : decode cX10_findDawn 32 = .ok (.iand, 1) := by decide +kernel
theorem dX10_findDawn_33 : decode cX10_findDawn 33 = .ok (.ifCond .ne 55, 3) := by decide +kernel
theorem dX10_findDawn_36 : decode cX10_findDawn 36 = .ok (.aload_n 0, 1) := by decide +kernel
theorem dX10_findDawn_37 : decode cX10_findDawn 37 = .ok (.iload 6, 2) := by decide +kernel
theorem dX10_findDawn_39 : decode cX10_findDawn 39 = .ok (.invokevirtual 287, 3) := by decide +kernel
theorem dX10_findDawn_42 : decode cX10_findDawn 42 = .ok (.iload 5, 2) := by decide +kernel
theorem dX10_findDawn_44 : decode cX10_findDawn 44 = .ok (.if_icmp .ge 44, 3) := by decide +kernel
theorem dX10_findDawn_47 : decode cX10_findDawn 47 = .ok (.iload_n 1, 1) := by decide +kernel
theorem dX10_findDawn_48 : decode cX10_findDawn 48 = .ok (.ifCond .eq 17, 3) := by decide +kernel
theorem dX10_findDawn_51 : decode cX10_findDawn 51 = .ok (.aload_n 0, 1) := by decide +kernel
theorem dX10_findDawn_52 : decode cX10_findDawn 52 = .ok (.iload 6, 2) := by decide +kernel
theorem dX10_findDawn_54 : decode cX10_findDawn 54 = .ok (.iload_n 3, 1) := by decide +kernel
theorem dX10_findDawn_55 : decode cX10_findDawn 55 = .ok (.ior, 1) := by decide +kernel
theorem dX10_findDawn_56 : decode cX10_findDawn 56 = .ok (.invokevirtual 290, 3) := by decide +kernel
theorem dX10_findDawn_59 : decode cX10_findDawn 59 = .ok (.ifCond .eq 29, 3) := by decide +kernel
theorem dX10_findDawn_62 : decode cX10_findDawn 62 = .ok (.goto 14, 3) := by decide +kernel
theorem dX10_findDawn_65 : decode cX10_findDawn 65 = .ok (.aload_n 0, 1) := by decide +kernel
theorem dX10_findDawn_66 : decode cX10_findDawn 66 = .ok (.iload 6, 2) := by decide +kernel
theorem dX10_findDawn_68 : decode cX10_findDawn 68 = .ok (.iload_n 3, 1) := by decide +kernel
theorem dX10_findDawn_69 : decode cX10_findDawn 69 = .ok (.ior, 1) := by decide +kernel
theorem dX10_findDawn_70 : decode cX10_findDawn 70 = .ok (.invokevirtual 251, 3) := by decide +kernel
theorem dX10_findDawn_73 : decode cX10_findDawn 73 = .ok (.ifCond .eq 15, 3) := by decide +kernel
theorem dX10_findDawn_76 : decode cX10_findDawn 76 = .ok (.iload 6, 2) := by decide +kernel
theorem dX10_findDawn_78 : decode cX10_findDawn 78 = .ok (.istore 4, 2) := by decide +kernel
theorem dX10_findDawn_80 : decode cX10_findDawn 80 = .ok (.aload_n 0, 1) := by decide +kernel
theorem dX10_findDawn_81 : decode cX10_findDawn 81 = .ok (.iload 6, 2) := by decide +kernel
theorem dX10_findDawn_83 : decode cX10_findDawn 83 = .ok (.invokevirtual 287, 3) := by decide +kernel
theorem dX10_findDawn_86 : decode cX10_findDawn 86 = .ok (.istore 5, 2) := by decide +kernel
theorem dX10_findDawn_88 : decode cX10_findDawn 88 = .ok (.iinc 6 1, 3) := by decide +kernel
theorem dX10_findDawn_91 : decode cX10_findDawn 91 = .ok (.goto (-75), 3) := by decide +kernel
theorem dX10_findDawn_94 : decode cX10_findDawn 94 = .ok (.iload 4, 2) := by decide +kernel
theorem dX10_findDawn_96 : decode cX10_findDawn 96 = .ok (.bipush (-4), 2) := by decide +kernel
theorem dX10_findDawn_98 : decode cX10_findDawn 98 = .ok (.if_icmp .ne 8, 3) := by decide +kernel
theorem dX10_findDawn_101 : decode cX10_findDawn 101 = .ok (.bipush (-4), 2) := by decide +kernel
theorem dX10_findDawn_103 : decode cX10_findDawn 103 = .ok (.goto 14, 3) := by decide +kernel
theorem dX10_findDawn_106 : decode cX10_findDawn 106 = .ok (.iload_n 2, 1) := by decide +kernel
theorem dX10_findDawn_107 : decode cX10_findDawn 107 = .ok (.ifCond .ne 8, 3) := by decide +kernel
theorem dX10_findDawn_110 : decode cX10_findDawn 110 = .ok (.iload 5, 2) := by decide +kernel
theorem dX10_findDawn_112 : decode cX10_findDawn 112 = .ok (.goto 5, 3) := by decide +kernel
theorem dX10_findDawn_115 : decode cX10_findDawn 115 = .ok (.iload 4, 2) := by decide +kernel
theorem dX10_findDawn_117 : decode cX10_findDawn 117 = .ok (.ireturn, 1) := by decide +kernel
theorem dX10_dawn_0 : decode cX10_dawn 0 = .ok (.iload_n 1, 1) := by decide +kernel
theorem dX10_dawn_1 : decode cX10_dawn 1 = .ok (.i2l, 1) := by decide +kernel
theorem dX10_dawn_2 : decode cX10_dawn 2 = .ok (.lconst 0, 1) := by decide +kernel
theorem dX10_dawn_3 : decode cX10_dawn 3 = .ok (.lconst 1, 1) := by decide +kernel
theorem dX10_dawn_4 : decode cX10_dawn 4 = .ok (.invokestatic 108, 3) := by decide +kernel
theorem dX10_dawn_7 : decode cX10_dawn 7 = .ok (.ifCond .eq 12, 3) := by decide +kernel
theorem dX10_dawn_10 : decode cX10_dawn 10 = .ok (.aload_n 0, 1) := by decide +kernel
theorem dX10_dawn_11 : decode cX10_dawn 11 = .ok (.iconst 0, 1) := by decide +kernel
theorem dX10_dawn_12 : decode cX10_dawn 12 = .ok (.iload_n 1, 1) := by decide +kernel
theorem dX10_dawn_13 : decode cX10_dawn 13 = .ok (.invokevirtual 293, 3) := by decide +kernel
theorem dX10_dawn_16 : decode cX10_dawn 16 = .ok (.goto 4, 3) := by decide +kernel
theorem dX10_dawn_19 : decode cX10_dawn 19 = .ok (.iconst (-1), 1) := by decide +kernel
theorem dX10_dawn_20 : decode cX10_dawn 20 = .ok (.ireturn, 1) := by decide +kernel
theorem dX10_sure_0 : decode cX10_sure 0 = .ok (.iload_n 1, 1) := by decide +kernel
theorem dX10_sure_1 : decode cX10_sure 1 = .ok (.i2l, 1) := by decide +kernel
theorem dX10_sure_2 : decode cX10_sure 2 = .ok (.lconst 0, 1) := by decide +kernel
theorem dX10_sure_3 : decode cX10_sure 3 = .ok (.lconst 1, 1) := by decide +kernel
theorem dX10_sure_4 : decode cX10_sure 4 = .ok (.invokestatic 108, 3) := by decide +kernel
theorem dX10_sure_7 : decode cX10_sure 7 = .ok (.ifCond .eq 12, 3) := by decide +kernel
theorem dX10_sure_10 : decode cX10_sure 10 = .ok (.aload_n 0, 1) := by decide +kernel
theorem dX10_sure_11 : decode cX10_sure 11 = .ok (.iconst 1, 1) := by decide +kernel
theorem dX10_sure_12 : decode cX10_sure 12 = .ok (.iload_n 1, 1) := by decide +kernel
theorem dX10_sure_13 : decode cX10_sure 13 = .ok (.invokevirtual 293, 3) := by decide +kernel
theorem dX10_sure_16 : decode cX10_sure 16 = .ok (.goto 4, 3) := by decide +kernel
theorem dX10_sure_19 : decode cX10_sure 19 = .ok (.iconst (-1), 1) := by decide +kernel
theorem dX10_sure_20 : decode cX10_sure 20 = .ok (.ireturn, 1) := by decide +kernel
theorem dX10_findRow_0 : decode cX10_findRow 0 = .ok (.aload_n 0, 1) := by decide +kernel
theorem dX10_findRow_1 : decode cX10_findRow 1 = .ok (.iconst 0, 1) := by decide +kernel
theorem dX10_findRow_2 : decode cX10_findRow 2 = .ok (.putfield 297, 3) := by decide +kernel
theorem dX10_findRow_5 : decode cX10_findRow 5 = .ok (.iconst 0, 1) := by decide +kernel
theorem dX10_findRow_6 : decode cX10_findRow 6 = .ok (.istore_n 2, 1) := by decide +kernel
theorem dX10_findRow_7 : decode cX10_findRow 7 = .ok (.iload_n 2, 1) := by decide +kernel
theorem dX10_findRow_8 : decode cX10_findRow 8 = .ok (.aload_n 0, 1) := by decide +kernel
theorem dX10_findRow_9 : decode cX10_findRow 9 = .ok (.getfield 97, 3) := by decide +kernel
theorem dX10_findRow_12 : decode cX10_findRow 12 = .ok (.if_icmp .ge 38, 3) := by decide +kernel
theorem dX10_findRow_15 : decode cX10_findRow 15 = .ok (.iload_n 1, 1) := by decide +kernel
theorem dX10_findRow_16 : decode cX10_findRow 16 = .ok (.iload_n 2, 1) := by decide +kernel
theorem dX10_findRow_17 : decode cX10_findRow 17 = .ok (.ishr, 1) := by decide +kernel
theorem dX10_findRow_18 : decode cX10_findRow 18 = .ok (.iconst 1, 1) := by decide +kernel
theorem dX10_findRow_19 : decode cX10_findRow 19 = .ok (.iand, 1) := by decide +kernel
theorem dX10_findRow_20 : decode cX10_findRow 20 = .ok (.iconst 1, 1) := by decide +kernel
theorem dX10_findRow_21 : decode cX10_findRow 21 = .ok (.if_icmp .ne 23, 3) := by decide +kernel
theorem dX10_findRow_24 : decode cX10_findRow 24 = .ok (.aload_n 0, 1) := by decide +kernel
theorem dX10_findRow_25 : decode cX10_findRow 25 = .ok (.getfield 56, 3) := by decide +kernel
theorem dX10_findRow_28 : decode cX10_findRow 28 = .ok (.aload_n 0, 1) := by decide +kernel
theorem dX10_findRow_29 : decode cX10_findRow 29 = .ok (.getfield 297, 3) := by decide +kernel
theorem dX10_findRow_32 : decode cX10_findRow 32 = .ok (.iload_n 2, 1) := by decide +kernel
theorem dX10_findRow_33 : decode cX10_findRow 33 = .ok (.iastore, 1) := by decide +kernel
theorem dX10_findRow_34 : decode cX10_findRow 34 = .ok (.aload_n 0, 1) := by decide +kernel
theorem dX10_findRow_35 : decode cX10_findRow 35 = .ok (.dup, 1) := by decide +kernel
theorem dX10_findRow_36 : decode cX10_findRow 36 = .ok (.getfield 297, 3) := by decide +kernel
theorem dX10_findRow_39 : decode cX10_findRow 39 = .ok (.iconst 1, 1) := by decide +kernel
theorem dX10_findRow_40 : decode cX10_findRow 40 = .ok (.iadd, 1) := by decide +kernel
theorem dX10_findRow_41 : decode cX10_findRow 41 = .ok (.putfield 297, 3) := by decide +kernel
theorem dX10_findRow_44 : decode cX10_findRow 44 = .ok (.iinc 2 1, 3) := by decide +kernel
theorem dX10_findRow_47 : decode cX10_findRow 47 = .ok (.goto (-40), 3) := by decide +kernel
theorem dX10_findRow_50 : decode cX10_findRow 50 = .ok (.return_, 1) := by decide +kernel
theorem dX10_usedThen_0 : decode cX10_usedThen 0 = .ok (.iload_n 1, 1) := by decide +kernel
theorem dX10_usedThen_1 : decode cX10_usedThen 1 = .ok (.sipush 1000, 3) := by decide +kernel
theorem dX10_usedThen_4 : decode cX10_usedThen 4 = .ok (.idiv, 1) := by decide +kernel
theorem dX10_usedThen_5 : decode cX10_usedThen 5 = .ok (.istore_n 3, 1) := by decide +kernel
theorem dX10_usedThen_6 : decode cX10_usedThen 6 = .ok (.iload_n 1, 1) := by decide +kernel
theorem dX10_usedThen_7 : decode cX10_usedThen 7 = .ok (.sipush 1000, 3) := by decide +kernel
theorem dX10_usedThen_10 : decode cX10_usedThen 10 = .ok (.irem, 1) := by decide +kernel
theorem dX10_usedThen_11 : decode cX10_usedThen 11 = .ok (.iload_n 2, 1) := by decide +kernel
theorem dX10_usedThen_12 : decode cX10_usedThen 12 = .ok (.iadd, 1) := by decide +kernel
theorem dX10_usedThen_13 : decode cX10_usedThen 13 = .ok (.istore 4, 2) := by decide +kernel
theorem dX10_usedThen_15 : decode cX10_usedThen 15 = .ok (.iload_n 3, 1) := by decide +kernel
theorem dX10_usedThen_16 : decode cX10_usedThen 16 = .ok (.aload_n 0, 1) := by decide +kernel
theorem dX10_usedThen_17 : decode cX10_usedThen 17 = .ok (.getfield 297, 3) := by decide +kernel
theorem dX10_usedThen_20 : decode cX10_usedThen 20 = .ok (.if_icmp .ge 28, 3) := by decide +kernel
theorem dX10_usedThen_23 : decode cX10_usedThen 23 = .ok (.iload 4, 2) := by decide +kernel
theorem dX10_usedThen_25 : decode cX10_usedThen 25 = .ok (.aload_n 0, 1) := by decide +kernel
theorem dX10_usedThen_26 : decode cX10_usedThen 26 = .ok (.getfield 53, 3) := by decide +kernel
theorem dX10_usedThen_29 : decode cX10_usedThen 29 = .ok (.aload_n 0, 1) := by decide +kernel
theorem dX10_usedThen_30 : decode cX10_usedThen 30 = .ok (.getfield 56, 3) := by decide +kernel
theorem dX10_usedThen_33 : decode cX10_usedThen 33 = .ok (.iload_n 3, 1) := by decide +kernel
theorem dX10_usedThen_34 : decode cX10_usedThen 34 = .ok (.iaload, 1) := by decide +kernel
theorem dX10_usedThen_35 : decode cX10_usedThen 35 = .ok (.iaload, 1) := by decide +kernel
theorem dX10_usedThen_36 : decode cX10_usedThen 36 = .ok (.if_icmp .le 12, 3) := by decide +kernel
theorem dX10_usedThen_39 : decode cX10_usedThen 39 = .ok (.iinc 3 1, 3) := by decide +kernel
theorem dX10_usedThen_42 : decode cX10_usedThen 42 = .ok (.iload_n 2, 1) := by decide +kernel
theorem dX10_usedThen_43 : decode cX10_usedThen 43 = .ok (.istore 4, 2) := by decide +kernel
theorem dX10_usedThen_45 : decode cX10_usedThen 45 = .ok (.goto (-30), 3) := by decide +kernel
theorem dX10_usedThen_48 : decode cX10_usedThen 48 = .ok (.iload_n 3, 1) := by decide +kernel
theorem dX10_usedThen_49 : decode cX10_usedThen 49 = .ok (.aload_n 0, 1) := by decide +kernel
theorem dX10_usedThen_50 : decode cX10_usedThen 50 = .ok (.getfield 297, 3) := by decide +kernel
theorem dX10_usedThen_53 : decode cX10_usedThen 53 = .ok (.if_icmp .ge 14, 3) := by decide +kernel
theorem dX10_usedThen_56 : decode cX10_usedThen 56 = .ok (.sipush 1000, 3) := by decide +kernel
theorem dX10_usedThen_59 : decode cX10_usedThen 59 = .ok (.iload_n 3, 1) := by decide +kernel
theorem dX10_usedThen_60 : decode cX10_usedThen 60 = .ok (.imul, 1) := by decide +kernel
theorem dX10_usedThen_61 : decode cX10_usedThen 61 = .ok (.iload 4, 2) := by decide +kernel
theorem dX10_usedThen_63 : decode cX10_usedThen 63 = .ok (.iadd, 1) := by decide +kernel
theorem dX10_usedThen_64 : decode cX10_usedThen 64 = .ok (.goto 5, 3) := by decide +kernel
theorem dX10_usedThen_67 : decode cX10_usedThen 67 = .ok (.ldc 225, 2) := by decide +kernel
theorem dX10_usedThen_69 : decode cX10_usedThen 69 = .ok (.ireturn, 1) := by decide +kernel
theorem dX10_canDraw_0 : decode cX10_canDraw 0 = .ok (.iconst 0, 1) := by decide +kernel
theorem dX10_canDraw_1 : decode cX10_canDraw 1 = .ok (.istore_n 2, 1) := by decide +kernel
theorem dX10_canDraw_2 : decode cX10_canDraw 2 = .ok (.iload_n 2, 1) := by decide +kernel
theorem dX10_canDraw_3 : decode cX10_canDraw 3 = .ok (.iload_n 1, 1) := by decide +kernel
theorem dX10_canDraw_4 : decode cX10_canDraw 4 = .ok (.if_icmp .gt 133, 3) := by decide +kernel
theorem dX10_canDraw_7 : decode cX10_canDraw 7 = .ok (.iload_n 2, 1) := by decide +kernel
theorem dX10_canDraw_8 : decode cX10_canDraw 8 = .ok (.iload_n 1, 1) := by decide +kernel
theorem dX10_canDraw_9 : decode cX10_canDraw 9 = .ok (.iconst (-1), 1) := by decide +kernel
theorem dX10_canDraw_10 : decode cX10_canDraw 10 = .ok (.ixor, 1) := by decide +kernel
theorem dX10_canDraw_11 : decode cX10_canDraw 11 = .ok (.iand, 1) := by decide +kernel
theorem dX10_canDraw_12 : decode cX10_canDraw 12 = .ok (.ifCond .ne 119, 3) := by decide +kernel
theorem dX10_canDraw_15 : decode cX10_canDraw 15 = .ok (.aload_n 0, 1) := by decide +kernel
theorem dX10_canDraw_16 : decode cX10_canDraw 16 = .ok (.getfield 50, 3) := by decide +kernel
theorem dX10_canDraw_19 : decode cX10_canDraw 19 = .ok (.iload_n 2, 1) := by decide +kernel
theorem dX10_canDraw_20 : decode cX10_canDraw 20 = .ok (.iload_n 2, 1) := by decide +kernel
theorem dX10_canDraw_21 : decode cX10_canDraw 21 = .ok (.ifCond .ne 7, 3) := by decide +kernel
theorem dX10_canDraw_24 : decode cX10_canDraw 24 = .ok (.iconst 0, 1) := by decide +kernel
theorem dX10_canDraw_25 : decode cX10_canDraw 25 = .ok (.goto 5, 3) := by decide +kernel
theorem dX10_canDraw_28 : decode cX10_canDraw 28 = .ok (.ldc 225, 2) := by decide +kernel
theorem dX10_canDraw_30 : decode cX10_canDraw 30 = .ok (.iastore, 1) := by decide +kernel
theorem dX10_canDraw_31 : decode cX10_canDraw 31 = .ok (.iconst 0, 1) := by decide +kernel
theorem dX10_canDraw_32 : decode cX10_canDraw 32 = .ok (.istore_n 3, 1) := by decide +kernel
theorem dX10_canDraw_33 : decode cX10_canDraw 33 = .ok (.iload_n 3, 1) := by decide +kernel
theorem dX10_canDraw_34 : decode cX10_canDraw 34 = .ok (.aload_n 0, 1) := by decide +kernel
theorem dX10_canDraw_35 : decode cX10_canDraw 35 = .ok (.getfield 7, 3) := by decide +kernel
theorem dX10_canDraw_38 : decode cX10_canDraw 38 = .ok (.iconst 0, 1) := by decide +kernel
theorem dX10_canDraw_39 : decode cX10_canDraw 39 = .ok (.iaload, 1) := by decide +kernel
theorem dX10_canDraw_40 : decode cX10_canDraw 40 = .ok (.if_icmp .ge 91, 3) := by decide +kernel
theorem dX10_canDraw_43 : decode cX10_canDraw 43 = .ok (.iload_n 2, 1) := by decide +kernel
theorem dX10_canDraw_44 : decode cX10_canDraw 44 = .ok (.iload_n 3, 1) := by decide +kernel
theorem dX10_canDraw_45 : decode cX10_canDraw 45 = .ok (.ishr, 1) := by decide +kernel
theorem dX10_canDraw_46 : decode cX10_canDraw 46 = .ok (.iconst 1, 1) := by decide +kernel
theorem dX10_canDraw_47 : decode cX10_canDraw 47 = .ok (.iand, 1) := by decide +kernel
theorem dX10_canDraw_48 : decode cX10_canDraw 48 = .ok (.iconst 1, 1) := by decide +kernel
theorem dX10_canDraw_49 : decode cX10_canDraw 49 = .ok (.if_icmp .ne 18, 3) := by decide +kernel
theorem dX10_canDraw_52 : decode cX10_canDraw 52 = .ok (.aload_n 0, 1) := by decide +kernel
theorem dX10_canDraw_53 : decode cX10_canDraw 53 = .ok (.getfield 50, 3) := by decide +kernel
theorem dX10_canDraw_56 : decode cX10_canDraw 56 = .ok (.iload_n 2, 1) := by decide +kernel
theorem dX10_canDraw_57 : decode cX10_canDraw 57 = .ok (.iconst 1, 1) := by decide +kernel
theorem dX10_canDraw_58 : decode cX10_canDraw 58 = .ok (.iload_n 3, 1) := by decide +kernel
theorem dX10_canDraw_59 : decode cX10_canDraw 59 = .ok (.ishl, 1) := by decide +kernel
theorem dX10_canDraw_60 : decode cX10_canDraw 60 = .ok (.iconst (-1), 1) := by decide +kernel
theorem dX10_canDraw_61 : decode cX10_canDraw 61 = .ok (.ixor, 1) := by decide +kernel
theorem dX10_canDraw_62 : decode cX10_canDraw 62 = .ok (.iand, 1) := by decide +kernel
theorem dX10_canDraw_63 : decode cX10_canDraw 63 = .ok (.iaload, 1) := by decide +kernel
theorem dX10_canDraw_64 : decode cX10_canDraw 64 = .ok (.goto 5, 3) := by decide +kernel
theorem dX10_canDraw_67 : decode cX10_canDraw 67 = .ok (.ldc 225, 2) := by decide +kernel
theorem dX10_canDraw_69 : decode cX10_canDraw 69 = .ok (.istore 4, 2) := by decide +kernel
theorem dX10_canDraw_71 : decode cX10_canDraw 71 = .ok (.iload 4, 2) := by decide +kernel
theorem dX10_canDraw_73 : decode cX10_canDraw 73 = .ok (.ldc 225, 2) := by decide +kernel
theorem dX10_canDraw_75 : decode cX10_canDraw 75 = .ok (.if_icmp .ne 8, 3) := by decide +kernel
theorem dX10_canDraw_78 : decode cX10_canDraw 78 = .ok (.ldc 225, 2) := by decide +kernel
theorem dX10_canDraw_80 : decode cX10_canDraw 80 = .ok (.goto 15, 3) := by decide +kernel
theorem dX10_canDraw_83 : decode cX10_canDraw 83 = .ok (.aload_n 0, 1) := by decide +kernel
theorem dX10_canDraw_84 : decode cX10_canDraw 84 = .ok (.iload 4, 2) := by decide +kernel
theorem dX10_canDraw_86 : decode cX10_canDraw 86 = .ok (.aload_n 0, 1) := by decide +kernel
theorem dX10_canDraw_87 : decode cX10_canDraw 87 = .ok (.iload_n 3, 1) := by decide +kernel
theorem dX10_canDraw_88 : decode cX10_canDraw 88 = .ok (.iconst 2, 1) := by decide +kernel
theorem dX10_canDraw_89 : decode cX10_canDraw 89 = .ok (.invokevirtual 202, 3) := by decide +kernel
theorem dX10_canDraw_92 : decode cX10_canDraw 92 = .ok (.invokevirtual 300, 3) := by decide +kernel
theorem dX10_canDraw_95 : decode cX10_canDraw 95 = .ok (.istore 5, 2) := by decide +kernel
theorem dX10_canDraw_97 : decode cX10_canDraw 97 = .ok (.aload_n 0, 1) := by decide +kernel
theorem dX10_canDraw_98 : decode cX10_canDraw 98 = .ok (.getfield 50, 3) := by decide +kernel
theorem dX10_canDraw_101 : decode cX10_canDraw 101 = .ok (.iload_n 2, 1) := by decide +kernel
theorem dX10_canDraw_102 : decode cX10_canDraw 102 = .ok (.iload 5, 2) := by decide +kernel
theorem dX10_canDraw_104 : decode cX10_canDraw 104 = .ok (.aload_n 0, 1) := by decide +kernel
theorem dX10_canDraw_105 : decode cX10_canDraw 105 = .ok (.getfield 50, 3) := by decide +kernel
theorem dX10_canDraw_108 : decode cX10_canDraw 108 = .ok (.iload_n 2, 1) := by decide +kernel
theorem dX10_canDraw_109 : decode cX10_canDraw 109 = .ok (.iaload, 1) := by decide +kernel
theorem dX10_canDraw_110 : decode cX10_canDraw 110 = .ok (.if_icmp .ge 8, 3) := by decide +kernel
theorem dX10_canDraw_113 : decode cX10_canDraw 113 = .ok (.iload 5, 2) := by decide +kernel
theorem dX10_canDraw_115 : decode cX10_canDraw 115 = .ok (.goto 9, 3) := by decide +kernel
theorem dX10_canDraw_118 : decode cX10_canDraw 118 = .ok (.aload_n 0, 1) := by decide +kernel
theorem dX10_canDraw_119 : decode cX10_canDraw 119 = .ok (.getfield 50, 3) := by decide +kernel
theorem dX10_canDraw_122 : decode cX10_canDraw 122 = .ok (.iload_n 2, 1) := by decide +kernel
theorem dX10_canDraw_123 : decode cX10_canDraw 123 = .ok (.iaload, 1) := by decide +kernel
theorem dX10_canDraw_124 : decode cX10_canDraw 124 = .ok (.iastore, 1) := by decide +kernel
theorem dX10_canDraw_125 : decode cX10_canDraw 125 = .ok (.iinc 3 1, 3) := by decide +kernel
theorem dX10_canDraw_128 : decode cX10_canDraw 128 = .ok (.goto (-95), 3) := by decide +kernel
theorem dX10_canDraw_131 : decode cX10_canDraw 131 = .ok (.iinc 2 1, 3) := by decide +kernel
theorem dX10_canDraw_134 : decode cX10_canDraw 134 = .ok (.goto (-132), 3) := by decide +kernel
theorem dX10_canDraw_137 : decode cX10_canDraw 137 = .ok (.aload_n 0, 1) := by decide +kernel
theorem dX10_canDraw_138 : decode cX10_canDraw 138 = .ok (.getfield 50, 3) := by decide +kernel
theorem dX10_canDraw_141 : decode cX10_canDraw 141 = .ok (.iload_n 1, 1) := by decide +kernel
theorem dX10_canDraw_142 : decode cX10_canDraw 142 = .ok (.iaload, 1) := by decide +kernel
theorem dX10_canDraw_143 : decode cX10_canDraw 143 = .ok (.ldc 225, 2) := by decide +kernel
theorem dX10_canDraw_145 : decode cX10_canDraw 145 = .ok (.if_icmp .eq 7, 3) := by decide +kernel
theorem dX10_canDraw_148 : decode cX10_canDraw 148 = .ok (.iconst 1, 1) := by decide +kernel
theorem dX10_canDraw_149 : decode cX10_canDraw 149 = .ok (.goto 4, 3) := by decide +kernel
theorem dX10_canDraw_152 : decode cX10_canDraw 152 = .ok (.iconst 0, 1) := by decide +kernel
theorem dX10_canDraw_153 : decode cX10_canDraw 153 = .ok (.ireturn, 1) := by decide +kernel
theorem dX10_leftNow_0 : decode cX10_leftNow 0 = .ok (.iconst 0, 1) := by decide +kernel
theorem dX10_leftNow_1 : decode cX10_leftNow 1 = .ok (.istore_n 1, 1) := by decide +kernel
theorem dX10_leftNow_2 : decode cX10_leftNow 2 = .ok (.iload_n 1, 1) := by decide +kernel
theorem dX10_leftNow_3 : decode cX10_leftNow 3 = .ok (.aload_n 0, 1) := by decide +kernel
theorem dX10_leftNow_4 : decode cX10_leftNow 4 = .ok (.getfield 97, 3) := by decide +kernel
theorem dX10_leftNow_7 : decode cX10_leftNow 7 = .ok (.if_icmp .ge 24, 3) := by decide +kernel
theorem dX10_leftNow_10 : decode cX10_leftNow 10 = .ok (.aload_n 0, 1) := by decide +kernel
theorem dX10_leftNow_11 : decode cX10_leftNow 11 = .ok (.getfield 53, 3) := by decide +kernel
theorem dX10_leftNow_14 : decode cX10_leftNow 14 = .ok (.iload_n 1, 1) := by decide +kernel
theorem dX10_leftNow_15 : decode cX10_leftNow 15 = .ok (.aload_n 0, 1) := by decide +kernel
theorem dX10_leftNow_16 : decode cX10_leftNow 16 = .ok (.getfield 7, 3) := by decide +kernel
theorem dX10_leftNow_19 : decode cX10_leftNow 19 = .ok (.bipush 62, 2) := by decide +kernel
theorem dX10_leftNow_21 : decode cX10_leftNow 21 = .ok (.iload_n 1, 1) := by decide +kernel
theorem dX10_leftNow_22 : decode cX10_leftNow 22 = .ok (.iadd, 1) := by decide +kernel
theorem dX10_leftNow_23 : decode cX10_leftNow 23 = .ok (.iaload, 1) := by decide +kernel
theorem dX10_leftNow_24 : decode cX10_leftNow 24 = .ok (.iastore, 1) := by decide +kernel
theorem dX10_leftNow_25 : decode cX10_leftNow 25 = .ok (.iinc 1 1, 3) := by decide +kernel
theorem dX10_leftNow_28 : decode cX10_leftNow 28 = .ok (.goto (-26), 3) := by decide +kernel
theorem dX10_leftNow_31 : decode cX10_leftNow 31 = .ok (.return_, 1) := by decide +kernel
theorem dX10_fewestDrawers_0 : decode cX10_fewestDrawers 0 = .ok (.aload_n 0, 1) := by decide +kernel
theorem dX10_fewestDrawers_1 : decode cX10_fewestDrawers 1 = .ok (.invokevirtual 303, 3) := by decide +kernel
theorem dX10_fewestDrawers_4 : decode cX10_fewestDrawers 4 = .ok (.bipush (-4), 2) := by decide +kernel
theorem dX10_fewestDrawers_6 : decode cX10_fewestDrawers 6 = .ok (.istore_n 2, 1) := by decide +kernel
theorem dX10_fewestDrawers_7 : decode cX10_fewestDrawers 7 = .ok (.iconst 0, 1) := by decide +kernel
theorem dX10_fewestDrawers_8 : decode cX10_fewestDrawers 8 = .ok (.istore_n 3, 1) := by decide +kernel
theorem dX10_fewestDrawers_9 : decode cX10_fewestDrawers 9 = .ok (.iload_n 3, 1) := by decide +kernel
theorem dX10_fewestDrawers_10 : decode cX10_fewestDrawers 10 = .ok (.iconst 1, 1) := by decide +kernel
theorem dX10_fewestDrawers_11 : decode cX10_fewestDrawers 11 = .ok (.aload_n 0, 1) := by decide +kernel
theorem dX10_fewestDrawers_12 : decode cX10_fewestDrawers 12 = .ok (.getfield 97, 3) := by decide +kernel
theorem dX10_fewestDrawers_15 : decode cX10_fewestDrawers 15 = .ok (.ishl, 1) := by decide +kernel
theorem dX10_fewestDrawers_16 : decode cX10_fewestDrawers 16 = .ok (.if_icmp .ge 45, 3) := by decide +kernel
theorem dX10_fewestDrawers_19 : decode cX10_fewestDrawers 19 = .ok (.iload_n 2, 1) := by decide +kernel
theorem dX10_fewestDrawers_20 : decode cX10_fewestDrawers 20 = .ok (.bipush (-4), 2) := by decide +kernel
theorem dX10_fewestDrawers_22 : decode cX10_fewestDrawers 22 = .ok (.if_icmp .eq 14, 3) := by decide +kernel
theorem dX10_fewestDrawers_25 : decode cX10_fewestDrawers 25 = .ok (.iload_n 3, 1) := by decide +kernel
theorem dX10_fewestDrawers_26 : decode cX10_fewestDrawers 26 = .ok (.invokestatic 284, 3) := by decide +kernel
theorem dX10_fewestDrawers_29 : decode cX10_fewestDrawers 29 = .ok (.iload_n 2, 1) := by decide +kernel
theorem dX10_fewestDrawers_30 : decode cX10_fewestDrawers 30 = .ok (.invokestatic 284, 3) := by decide +kernel
theorem dX10_fewestDrawers_33 : decode cX10_fewestDrawers 33 = .ok (.if_icmp .ge 22, 3) := by decide +kernel
theorem dX10_fewestDrawers_36 : decode cX10_fewestDrawers 36 = .ok (.aload_n 0, 1) := by decide +kernel
theorem dX10_fewestDrawers_37 : decode cX10_fewestDrawers 37 = .ok (.iload_n 3, 1) := by decide +kernel
theorem dX10_fewestDrawers_38 : decode cX10_fewestDrawers 38 = .ok (.invokevirtual 306, 3) := by decide +kernel
theorem dX10_fewestDrawers_41 : decode cX10_fewestDrawers 41 = .ok (.aload_n 0, 1) := by decide +kernel
theorem dX10_fewestDrawers_42 : decode cX10_fewestDrawers 42 = .ok (.iload_n 1, 1) := by decide +kernel
theorem dX10_fewestDrawers_43 : decode cX10_fewestDrawers 43 = .ok (.invokevirtual 309, 3) := by decide +kernel
theorem dX10_fewestDrawers_46 : decode cX10_fewestDrawers 46 = .ok (.ifCond .eq 7, 3) := by decide +kernel
theorem dX10_fewestDrawers_49 : decode cX10_fewestDrawers 49 = .ok (.iload_n 3, 1) := by decide +kernel
theorem dX10_fewestDrawers_50 : decode cX10_fewestDrawers 50 = .ok (.goto 4, 3) := by decide +kernel
theorem dX10_fewestDrawers_53 : decode cX10_fewestDrawers 53 = .ok (.iload_n 2, 1) := by decide +kernel
theorem dX10_fewestDrawers_54 : decode cX10_fewestDrawers 54 = .ok (.istore_n 2, 1) := by decide +kernel
theorem dX10_fewestDrawers_55 : decode cX10_fewestDrawers 55 = .ok (.iinc 3 1, 3) := by decide +kernel
theorem dX10_fewestDrawers_58 : decode cX10_fewestDrawers 58 = .ok (.goto (-49), 3) := by decide +kernel
theorem dX10_fewestDrawers_61 : decode cX10_fewestDrawers 61 = .ok (.iload_n 2, 1) := by decide +kernel
theorem dX10_fewestDrawers_62 : decode cX10_fewestDrawers 62 = .ok (.ireturn, 1) := by decide +kernel
theorem dX10_share_0 : decode cX10_share 0 = .ok (.aload_n 0, 1) := by decide +kernel
theorem dX10_share_1 : decode cX10_share 1 = .ok (.iload_n 1, 1) := by decide +kernel
theorem dX10_share_2 : decode cX10_share 2 = .ok (.invokevirtual 248, 3) := by decide +kernel
theorem dX10_share_5 : decode cX10_share 5 = .ok (.ifCond .eq 33, 3) := by decide +kernel
theorem dX10_share_8 : decode cX10_share 8 = .ok (.iload_n 1, 1) := by decide +kernel
theorem dX10_share_9 : decode cX10_share 9 = .ok (.invokestatic 284, 3) := by decide +kernel
theorem dX10_share_12 : decode cX10_share 12 = .ok (.bipush 8, 2) := by decide +kernel
theorem dX10_share_14 : decode cX10_share 14 = .ok (.if_icmp .gt 24, 3) := by decide +kernel
theorem dX10_share_17 : decode cX10_share 17 = .ok (.iload_n 2, 1) := by decide +kernel
theorem dX10_share_18 : decode cX10_share 18 = .ok (.i2l, 1) := by decide +kernel
theorem dX10_share_19 : decode cX10_share 19 = .ok (.lconst 0, 1) := by decide +kernel
theorem dX10_share_20 : decode cX10_share 20 = .ok (.lconst 1, 1) := by decide +kernel
theorem dX10_share_21 : decode cX10_share 21 = .ok (.invokestatic 108, 3) := by decide +kernel
theorem dX10_share_24 : decode cX10_share 24 = .ok (.ifCond .ne 16, 3) := by decide +kernel
theorem dX10_share_27 : decode cX10_share 27 = .ok (.aload_n 0, 1) := by decide +kernel
theorem dX10_share_28 : decode cX10_share 28 = .ok (.iload_n 2, 1) := by decide +kernel
theorem dX10_share_29 : decode cX10_share 29 = .ok (.bipush 10, 2) := by decide +kernel
theorem dX10_share_31 : decode cX10_share 31 = .ok (.isub, 1) := by decide +kernel
theorem dX10_share_32 : decode cX10_share 32 = .ok (.invokevirtual 196, 3) := by decide +kernel
theorem dX10_share_35 : decode cX10_share 35 = .ok (.ifCond .ne 5, 3) := by decide +kernel
theorem dX10_share_38 : decode cX10_share 38 = .ok (.iconst (-1), 1) := by decide +kernel
theorem dX10_share_39 : decode cX10_share 39 = .ok (.ireturn, 1) := by decide +kernel
theorem dX10_share_40 : decode cX10_share 40 = .ok (.aload_n 0, 1) := by decide +kernel
theorem dX10_share_41 : decode cX10_share 41 = .ok (.iload_n 1, 1) := by decide +kernel
theorem dX10_share_42 : decode cX10_share 42 = .ok (.invokevirtual 312, 3) := by decide +kernel
theorem dX10_share_45 : decode cX10_share 45 = .ok (.istore_n 3, 1) := by decide +kernel
theorem dX10_share_46 : decode cX10_share 46 = .ok (.iload_n 3, 1) := by decide +kernel
theorem dX10_share_47 : decode cX10_share 47 = .ok (.bipush (-4), 2) := by decide +kernel
theorem dX10_share_49 : decode cX10_share 49 = .ok (.if_icmp .ne 6, 3) := by decide +kernel
theorem dX10_share_52 : decode cX10_share 52 = .ok (.bipush (-4), 2) := by decide +kernel
theorem dX10_share_54 : decode cX10_share 54 = .ok (.ireturn, 1) := by decide +kernel
theorem dX10_share_55 : decode cX10_share 55 = .ok (.iload_n 2, 1) := by decide +kernel
theorem dX10_share_56 : decode cX10_share 56 = .ok (.iconst 2, 1) := by decide +kernel
theorem dX10_share_57 : decode cX10_share 57 = .ok (.if_icmp .ge 16, 3) := by decide +kernel
theorem dX10_share_60 : decode cX10_share 60 = .ok (.iload_n 2, 1) := by decide +kernel
theorem dX10_share_61 : decode cX10_share 61 = .ok (.ifCond .ne 10, 3) := by decide +kernel
theorem dX10_share_64 : decode cX10_share 64 = .ok (.iload_n 3, 1) := by decide +kernel
theorem dX10_share_65 : decode cX10_share 65 = .ok (.invokestatic 284, 3) := by decide +kernel
theorem dX10_share_68 : decode cX10_share 68 = .ok (.goto 4, 3) := by decide +kernel
theorem dX10_share_71 : decode cX10_share 71 = .ok (.iload_n 3, 1) := by decide +kernel
theorem dX10_share_72 : decode cX10_share 72 = .ok (.ireturn, 1) := by decide +kernel
theorem dX10_share_73 : decode cX10_share 73 = .ok (.iload_n 1, 1) := by decide +kernel
theorem dX10_share_74 : decode cX10_share 74 = .ok (.iload_n 2, 1) := by decide +kernel
theorem dX10_share_75 : decode cX10_share 75 = .ok (.bipush 10, 2) := by decide +kernel
theorem dX10_share_77 : decode cX10_share 77 = .ok (.isub, 1) := by decide +kernel
theorem dX10_share_78 : decode cX10_share 78 = .ok (.ishr, 1) := by decide +kernel
theorem dX10_share_79 : decode cX10_share 79 = .ok (.iconst 1, 1) := by decide +kernel
theorem dX10_share_80 : decode cX10_share 80 = .ok (.iand, 1) := by decide +kernel
theorem dX10_share_81 : decode cX10_share 81 = .ok (.ifCond .ne 6, 3) := by decide +kernel
theorem dX10_share_84 : decode cX10_share 84 = .ok (.bipush (-4), 2) := by decide +kernel
theorem dX10_share_86 : decode cX10_share 86 = .ok (.ireturn, 1) := by decide +kernel
theorem dX10_share_87 : decode cX10_share 87 = .ok (.aload_n 0, 1) := by decide +kernel
theorem dX10_share_88 : decode cX10_share 88 = .ok (.iload_n 3, 1) := by decide +kernel
theorem dX10_share_89 : decode cX10_share 89 = .ok (.invokevirtual 306, 3) := by decide +kernel
theorem dX10_share_92 : decode cX10_share 92 = .ok (.iload_n 1, 1) := by decide +kernel
theorem dX10_share_93 : decode cX10_share 93 = .ok (.istore 4, 2) := by decide +kernel
theorem dX10_share_95 : decode cX10_share 95 = .ok (.bipush (-4), 2) := by decide +kernel
theorem dX10_share_97 : decode cX10_share 97 = .ok (.istore 5, 2) := by decide +kernel
theorem dX10_share_99 : decode cX10_share 99 = .ok (.iconst 0, 1) := by decide +kernel
theorem dX10_share_100 : decode cX10_share 100 = .ok (.istore 6, 2) := by decide +kernel
theorem dX10_share_102 : decode cX10_share 102 = .ok (.iload 6, 2) := by decide +kernel
theorem dX10_share_104 : decode cX10_share 104 = .ok (.iload_n 2, 1) := by decide +kernel
theorem dX10_share_105 : decode cX10_share 105 = .ok (.bipush 10, 2) := by decide +kernel
theorem dX10_share_107 : decode cX10_share 107 = .ok (.isub, 1) := by decide +kernel
theorem dX10_share_108 : decode cX10_share 108 = .ok (.if_icmp .gt 149, 3) := by decide +kernel
theorem dX10_share_111 : decode cX10_share 111 = .ok (.bipush (-4), 2) := by decide +kernel
theorem dX10_share_113 : decode cX10_share 113 = .ok (.istore 5, 2) := by decide +kernel
theorem dX10_share_115 : decode cX10_share 115 = .ok (.iload_n 1, 1) := by decide +kernel
theorem dX10_share_116 : decode cX10_share 116 = .ok (.iload 6, 2) := by decide +kernel
theorem dX10_share_118 : decode cX10_share 118 = .ok (.ishr, 1) := by decide +kernel
theorem dX10_share_119 : decode cX10_share 119 = .ok (.iconst 1, 1) := by decide +kernel
theorem dX10_share_120 : decode cX10_share 120 = .ok (.iand, 1) := by decide +kernel
theorem dX10_share_121 : decode cX10_share 121 = .ok (.iconst 1, 1) := by decide +kernel
theorem dX10_share_122 : decode cX10_share 122 = .ok (.if_icmp .ne 129, 3) := by decide +kernel
theorem dX10_share_125 : decode cX10_share 125 = .ok (.iload 4, 2) := by decide +kernel
theorem dX10_share_127 : decode cX10_share 127 = .ok (.iconst 1, 1) := by decide +kernel
theorem dX10_share_128 : decode cX10_share 128 = .ok (.iload 6, 2) := by decide +kernel
theorem dX10_share_130 : decode cX10_share 130 = .ok (.ishl, 1) := by decide +kernel
theorem dX10_share_131 : decode cX10_share 131 = .ok (.iconst (-1), 1) := by decide +kernel
theorem dX10_share_132 : decode cX10_share 132 = .ok (.ixor, 1) := by decide +kernel
theorem dX10_share_133 : decode cX10_share 133 = .ok (.iand, 1) := by decide +kernel
theorem dX10_share_134 : decode cX10_share 134 = .ok (.istore 4, 2) := by decide +kernel
theorem dX10_share_136 : decode cX10_share 136 = .ok (.iconst 0, 1) := by decide +kernel
theorem dX10_share_137 : decode cX10_share 137 = .ok (.istore 7, 2) := by decide +kernel
theorem dX10_share_139 : decode cX10_share 139 = .ok (.iload 7, 2) := by decide +kernel
theorem dX10_share_141 : decode cX10_share 141 = .ok (.aload_n 0, 1) := by decide +kernel
theorem dX10_share_142 : decode cX10_share 142 = .ok (.getfield 97, 3) := by decide +kernel
theorem dX10_share_145 : decode cX10_share 145 = .ok (.if_icmp .ge 106, 3) := by decide +kernel
theorem dX10_share_148 : decode cX10_share 148 = .ok (.iload 5, 2) := by decide +kernel
theorem dX10_share_150 : decode cX10_share 150 = .ok (.bipush (-4), 2) := by decide +kernel
theorem dX10_share_152 : decode cX10_share 152 = .ok (.if_icmp .ne 99, 3) := by decide +kernel
theorem dX10_share_155 : decode cX10_share 155 = .ok (.iload_n 3, 1) := by decide +kernel
theorem dX10_share_156 : decode cX10_share 156 = .ok (.iload 7, 2) := by decide +kernel
theorem dX10_share_158 : decode cX10_share 158 = .ok (.ishr, 1) := by decide +kernel
theorem dX10_share_159 : decode cX10_share 159 = .ok (.iconst 1, 1) := by decide +kernel
theorem dX10_share_160 : decode cX10_share 160 = .ok (.iand, 1) := by decide +kernel
theorem dX10_share_161 : decode cX10_share 161 = .ok (.iconst 1, 1) := by decide +kernel
theorem dX10_share_162 : decode cX10_share 162 = .ok (.if_icmp .ne 83, 3) := by decide +kernel
theorem dX10_share_165 : decode cX10_share 165 = .ok (.aload_n 0, 1) := by decide +kernel
theorem dX10_share_166 : decode cX10_share 166 = .ok (.getfield 53, 3) := by decide +kernel
theorem dX10_share_169 : decode cX10_share 169 = .ok (.iload 7, 2) := by decide +kernel
theorem dX10_share_171 : decode cX10_share 171 = .ok (.iaload, 1) := by decide +kernel
theorem dX10_share_172 : decode cX10_share 172 = .ok (.aload_n 0, 1) := by decide +kernel
theorem dX10_share_173 : decode cX10_share 173 = .ok (.iload 6, 2) := by decide +kernel
theorem dX10_share_175 : decode cX10_share 175 = .ok (.iconst 2, 1) := by decide +kernel
theorem dX10_share_176 : decode cX10_share 176 = .ok (.invokevirtual 202, 3) := by decide +kernel
theorem dX10_share_179 : decode cX10_share 179 = .ok (.if_icmp .lt 66, 3) := by decide +kernel
theorem dX10_share_182 : decode cX10_share 182 = .ok (.aload_n 0, 1) := by decide +kernel
theorem dX10_share_183 : decode cX10_share 183 = .ok (.getfield 53, 3) := by decide +kernel
theorem dX10_share_186 : decode cX10_share 186 = .ok (.iload 7, 2) := by decide +kernel
theorem dX10_share_188 : decode cX10_share 188 = .ok (.dup2, 1) := by decide +kernel
theorem dX10_share_189 : decode cX10_share 189 = .ok (.iaload, 1) := by decide +kernel
theorem dX10_share_190 : decode cX10_share 190 = .ok (.aload_n 0, 1) := by decide +kernel
theorem dX10_share_191 : decode cX10_share 191 = .ok (.iload 6, 2) := by decide +kernel
theorem dX10_share_193 : decode cX10_share 193 = .ok (.iconst 2, 1) := by decide +kernel
theorem dX10_share_194 : decode cX10_share 194 = .ok (.invokevirtual 202, 3) := by decide +kernel
theorem dX10_share_197 : decode cX10_share 197 = .ok (.isub, 1) := by decide +kernel
theorem dX10_share_198 : decode cX10_share 198 = .ok (.iastore, 1) := by decide +kernel
theorem dX10_share_199 : decode cX10_share 199 = .ok (.aload_n 0, 1) := by decide +kernel
theorem dX10_share_200 : decode cX10_share 200 = .ok (.iload 4, 2) := by decide +kernel
theorem dX10_share_202 : decode cX10_share 202 = .ok (.invokevirtual 309, 3) := by decide +kernel
theorem dX10_share_205 : decode cX10_share 205 = .ok (.ifCond .eq 8, 3) := by decide +kernel
theorem dX10_share_208 : decode cX10_share 208 = .ok (.iload 7, 2) := by decide +kernel
theorem dX10_share_210 : decode cX10_share 210 = .ok (.goto 5, 3) := by decide +kernel
theorem dX10_share_213 : decode cX10_share 213 = .ok (.bipush (-4), 2) := by decide +kernel
theorem dX10_share_215 : decode cX10_share 215 = .ok (.istore 5, 2) := by decide +kernel
theorem dX10_share_217 : decode cX10_share 217 = .ok (.aload_n 0, 1) := by decide +kernel
theorem dX10_share_218 : decode cX10_share 218 = .ok (.getfield 53, 3) := by decide +kernel
theorem dX10_share_221 : decode cX10_share 221 = .ok (.iload 7, 2) := by decide +kernel
theorem dX10_share_223 : decode cX10_share 223 = .ok (.dup2, 1) := by decide +kernel
theorem dX10_share_224 : decode cX10_share 224 = .ok (.iaload, 1) := by decide +kernel
theorem dX10_share_225 : decode cX10_share 225 = .ok (.iload 5, 2) := by decide +kernel
theorem dX10_share_227 : decode cX10_share 227 = .ok (.bipush (-4), 2) := by decide +kernel
theorem dX10_share_229 : decode cX10_share 229 = .ok (.if_icmp .ne 13, 3) := by decide +kernel
theorem dX10_share_232 : decode cX10_share 232 = .ok (.aload_n 0, 1) := by decide +kernel
theorem dX10_share_233 : decode cX10_share 233 = .ok (.iload 6, 2) := by decide +kernel
theorem dX10_share_235 : decode cX10_share 235 = .ok (.iconst 2, 1) := by decide +kernel
theorem dX10_share_236 : decode cX10_share 236 = .ok (.invokevirtual 202, 3) := by decide +kernel
theorem dX10_share_239 : decode cX10_share 239 = .ok (.goto 4, 3) := by decide +kernel
theorem dX10_share_242 : decode cX10_share 242 = .ok (.iconst 0, 1) := by decide +kernel
theorem dX10_share_243 : decode cX10_share 243 = .ok (.iadd, 1) := by decide +kernel
theorem dX10_share_244 : decode cX10_share 244 = .ok (.iastore, 1) := by decide +kernel
theorem dX10_share_245 : decode cX10_share 245 = .ok (.iinc 7 1, 3) := by decide +kernel
theorem dX10_share_248 : decode cX10_share 248 = .ok (.goto (-109), 3) := by decide +kernel
theorem dX10_share_251 : decode cX10_share 251 = .ok (.iinc 6 1, 3) := by decide +kernel
theorem dX10_share_254 : decode cX10_share 254 = .ok (.goto (-152), 3) := by decide +kernel
theorem dX10_share_257 : decode cX10_share 257 = .ok (.iload 5, 2) := by decide +kernel
theorem dX10_share_259 : decode cX10_share 259 = .ok (.ireturn, 1) := by decide +kernel
theorem dX10_hear_0 : decode cX10_hear 0 = .ok (.aload_n 0, 1) := by decide +kernel
theorem dX10_hear_1 : decode cX10_hear 1 = .ok (.iload_n 1, 1) := by decide +kernel
theorem dX10_hear_2 : decode cX10_hear 2 = .ok (.invokevirtual 248, 3) := by decide +kernel
theorem dX10_hear_5 : decode cX10_hear 5 = .ok (.ifCond .eq 7, 3) := by decide +kernel
theorem dX10_hear_8 : decode cX10_hear 8 = .ok (.iload_n 1, 1) := by decide +kernel
theorem dX10_hear_9 : decode cX10_hear 9 = .ok (.ifCond .ne 5, 3) := by decide +kernel
theorem dX10_hear_12 : decode cX10_hear 12 = .ok (.iconst (-1), 1) := by decide +kernel
theorem dX10_hear_13 : decode cX10_hear 13 = .ok (.ireturn, 1) := by decide +kernel
theorem dX10_hear_14 : decode cX10_hear 14 = .ok (.aload_n 0, 1) := by decide +kernel
theorem dX10_hear_15 : decode cX10_hear 15 = .ok (.getfield 7, 3) := by decide +kernel
theorem dX10_hear_18 : decode cX10_hear 18 = .ok (.bipush 108, 2) := by decide +kernel
theorem dX10_hear_20 : decode cX10_hear 20 = .ok (.iaload, 1) := by decide +kernel
theorem dX10_hear_21 : decode cX10_hear 21 = .ok (.bipush 8, 2) := by decide +kernel
theorem dX10_hear_23 : decode cX10_hear 23 = .ok (.if_icmp .ne 6, 3) := by decide +kernel
theorem dX10_hear_26 : decode cX10_hear 26 = .ok (.bipush (-3), 2) := by decide +kernel
theorem dX10_hear_28 : decode cX10_hear 28 = .ok (.ireturn, 1) := by decide +kernel
theorem dX10_hear_29 : decode cX10_hear 29 = .ok (.bipush 109, 2) := by decide +kernel
theorem dX10_hear_31 : decode cX10_hear 31 = .ok (.iconst 2, 1) := by decide +kernel
theorem dX10_hear_32 : decode cX10_hear 32 = .ok (.aload_n 0, 1) := by decide +kernel
theorem dX10_hear_33 : decode cX10_hear 33 = .ok (.getfield 7, 3) := by decide +kernel
theorem dX10_hear_36 : decode cX10_hear 36 = .ok (.bipush 108, 2) := by decide +kernel
theorem dX10_hear_38 : decode cX10_hear 38 = .ok (.iaload, 1) := by decide +kernel
theorem dX10_hear_39 : decode cX10_hear 39 = .ok (.imul, 1) := by decide +kernel
theorem dX10_hear_40 : decode cX10_hear 40 = .ok (.iadd, 1) := by decide +kernel
theorem dX10_hear_41 : decode cX10_hear 41 = .ok (.istore_n 3, 1) := by decide +kernel
theorem dX10_hear_42 : decode cX10_hear 42 = .ok (.aload_n 0, 1) := by decide +kernel
theorem dX10_hear_43 : decode cX10_hear 43 = .ok (.getfield 7, 3) := by decide +kernel
theorem dX10_hear_46 : decode cX10_hear 46 = .ok (.iload_n 3, 1) := by decide +kernel
theorem dX10_hear_47 : decode cX10_hear 47 = .ok (.iload_n 1, 1) := by decide +kernel
theorem dX10_hear_48 : decode cX10_hear 48 = .ok (.iastore, 1) := by decide +kernel
theorem dX10_hear_49 : decode cX10_hear 49 = .ok (.aload_n 0, 1) := by decide +kernel
theorem dX10_hear_50 : decode cX10_hear 50 = .ok (.getfield 7, 3) := by decide +kernel
theorem dX10_hear_53 : decode cX10_hear 53 = .ok (.iload_n 3, 1) := by decide +kernel
theorem dX10_hear_54 : decode cX10_hear 54 = .ok (.iconst 1, 1) := by decide +kernel
theorem dX10_hear_55 : decode cX10_hear 55 = .ok (.iadd, 1) := by decide +kernel
theorem dX10_hear_56 : decode cX10_hear 56 = .ok (.iload_n 2, 1) := by decide +kernel
theorem dX10_hear_57 : decode cX10_hear 57 = .ok (.invokestatic 218, 3) := by decide +kernel
theorem dX10_hear_60 : decode cX10_hear 60 = .ok (.iastore, 1) := by decide +kernel
theorem dX10_hear_61 : decode cX10_hear 61 = .ok (.aload_n 0, 1) := by decide +kernel
theorem dX10_hear_62 : decode cX10_hear 62 = .ok (.getfield 7, 3) := by decide +kernel
theorem dX10_hear_65 : decode cX10_hear 65 = .ok (.bipush 108, 2) := by decide +kernel
theorem dX10_hear_67 : decode cX10_hear 67 = .ok (.dup2, 1) := by decide +kernel
theorem dX10_hear_68 : decode cX10_hear 68 = .ok (.iaload, 1) := by decide +kernel
theorem dX10_hear_69 : decode cX10_hear 69 = .ok (.iconst 1, 1) := by decide +kernel
theorem dX10_hear_70 : decode cX10_hear 70 = .ok (.iadd, 1) := by decide +kernel
theorem dX10_hear_71 : decode cX10_hear 71 = .ok (.iastore, 1) := by decide +kernel
theorem dX10_hear_72 : decode cX10_hear 72 = .ok (.aload_n 0, 1) := by decide +kernel
theorem dX10_hear_73 : decode cX10_hear 73 = .ok (.getfield 7, 3) := by decide +kernel
theorem dX10_hear_76 : decode cX10_hear 76 = .ok (.bipush 108, 2) := by decide +kernel
theorem dX10_hear_78 : decode cX10_hear 78 = .ok (.iaload, 1) := by decide +kernel
theorem dX10_hear_79 : decode cX10_hear 79 = .ok (.ireturn, 1) := by decide +kernel
theorem dX10_forget_0 : decode cX10_forget 0 = .ok (.iload_n 1, 1) := by decide +kernel
theorem dX10_forget_1 : decode cX10_forget 1 = .ok (.i2l, 1) := by decide +kernel
theorem dX10_forget_2 : decode cX10_forget 2 = .ok (.lconst 0, 1) := by decide +kernel
theorem dX10_forget_3 : decode cX10_forget 3 = .ok (.aload_n 0, 1) := by decide +kernel
theorem dX10_forget_4 : decode cX10_forget 4 = .ok (.getfield 7, 3) := by decide +kernel
theorem dX10_forget_7 : decode cX10_forget 7 = .ok (.bipush 108, 2) := by decide +kernel
theorem dX10_forget_9 : decode cX10_forget 9 = .ok (.iaload, 1) := by decide +kernel
theorem dX10_forget_10 : decode cX10_forget 10 = .ok (.i2l, 1) := by decide +kernel
theorem dX10_forget_11 : decode cX10_forget 11 = .ok (.invokestatic 108, 3) := by decide +kernel
theorem dX10_forget_14 : decode cX10_forget 14 = .ok (.ifCond .ne 5, 3) := by decide +kernel
theorem dX10_forget_17 : decode cX10_forget 17 = .ok (.iconst (-1), 1) := by decide +kernel
theorem dX10_forget_18 : decode cX10_forget 18 = .ok (.ireturn, 1) := by decide +kernel
theorem dX10_forget_19 : decode cX10_forget 19 = .ok (.aload_n 0, 1) := by decide +kernel
theorem dX10_forget_20 : decode cX10_forget 20 = .ok (.getfield 7, 3) := by decide +kernel
theorem dX10_forget_23 : decode cX10_forget 23 = .ok (.bipush 108, 2) := by decide +kernel
theorem dX10_forget_25 : decode cX10_forget 25 = .ok (.iaload, 1) := by decide +kernel
theorem dX10_forget_26 : decode cX10_forget 26 = .ok (.istore_n 2, 1) := by decide +kernel
theorem dX10_forget_27 : decode cX10_forget 27 = .ok (.aload_n 0, 1) := by decide +kernel
theorem dX10_forget_28 : decode cX10_forget 28 = .ok (.getfield 7, 3) := by decide +kernel
theorem dX10_forget_31 : decode cX10_forget 31 = .ok (.bipush 108, 2) := by decide +kernel
theorem dX10_forget_33 : decode cX10_forget 33 = .ok (.iload_n 1, 1) := by decide +kernel
theorem dX10_forget_34 : decode cX10_forget 34 = .ok (.iastore, 1) := by decide +kernel
theorem dX10_forget_35 : decode cX10_forget 35 = .ok (.iload_n 2, 1) := by decide +kernel
theorem dX10_forget_36 : decode cX10_forget 36 = .ok (.ireturn, 1) := by decide +kernel
theorem dX10_isBreak_0 : decode cX10_isBreak 0 = .ok (.iconst 1, 1) := by decide +kernel
theorem dX10_isBreak_1 : decode cX10_isBreak 1 = .ok (.istore_n 2, 1) := by decide +kernel
theorem dX10_isBreak_2 : decode cX10_isBreak 2 = .ok (.iconst 0, 1) := by decide +kernel
theorem dX10_isBreak_3 : decode cX10_isBreak 3 = .ok (.istore_n 3, 1) := by decide +kernel
theorem dX10_isBreak_4 : decode cX10_isBreak 4 = .ok (.iload_n 3, 1) := by decide +kernel
theorem dX10_isBreak_5 : decode cX10_isBreak 5 = .ok (.aload_n 0, 1) := by decide +kernel
theorem dX10_isBreak_6 : decode cX10_isBreak 6 = .ok (.getfield 7, 3) := by decide +kernel
theorem dX10_isBreak_9 : decode cX10_isBreak 9 = .ok (.bipush 108, 2) := by decide +kernel
theorem dX10_isBreak_11 : decode cX10_isBreak 11 = .ok (.iaload, 1) := by decide +kernel
theorem dX10_isBreak_12 : decode cX10_isBreak 12 = .ok (.if_icmp .ge 65, 3) := by decide +kernel
theorem dX10_isBreak_15 : decode cX10_isBreak 15 = .ok (.bipush 109, 2) := by decide +kernel
theorem dX10_isBreak_17 : decode cX10_isBreak 17 = .ok (.iconst 2, 1) := by decide +kernel
theorem dX10_isBreak_18 : decode cX10_isBreak 18 = .ok (.iload_n 3, 1) := by decide +kernel
theorem dX10_isBreak_19 : decode cX10_isBreak 19 = .ok (.imul, 1) := by decide +kernel
theorem dX10_isBreak_20 : decode cX10_isBreak 20 = .ok (.iadd, 1) := by decide +kernel
theorem dX10_isBreak_21 : decode cX10_isBreak 21 = .ok (.istore 4, 2) := by decide +kernel
theorem dX10_isBreak_23 : decode cX10_isBreak 23 = .ok (.iload_n 2, 1) := by decide +kernel
theorem dX10_isBreak_24 : decode cX10_isBreak 24 = .ok (.ifCond .eq 45, 3) := by decide +kernel
theorem dX10_isBreak_27 : decode cX10_isBreak 27 = .ok (.aload_n 0, 1) := by decide +kernel
theorem dX10_isBreak_28 : decode cX10_isBreak 28 = .ok (.getfield 7, 3) := by decide +kernel
theorem dX10_isBreak_31 : decode cX10_isBreak 31 = .ok (.iload 4, 2) := by decide +kernel
theorem dX10_isBreak_33 : decode cX10_isBreak 33 = .ok (.iaload, 1) := by decide +kernel
theorem dX10_isBreak_34 : decode cX10_isBreak 34 = .ok (.iload_n 1, 1) := by decide +kernel
theorem dX10_isBreak_35 : decode cX10_isBreak 35 = .ok (.iand, 1) := by decide +kernel
theorem dX10_isBreak_36 : decode cX10_isBreak 36 = .ok (.ifCond .ne 7, 3) := by decide +kernel
theorem dX10_isBreak_39 : decode cX10_isBreak 39 = .ok (.iconst 1, 1) := by decide +kernel
theorem dX10_isBreak_40 : decode cX10_isBreak 40 = .ok (.goto 4, 3) := by decide +kernel
theorem dX10_isBreak_43 : decode cX10_isBreak 43 = .ok (.iconst 0, 1) := by decide +kernel
theorem dX10_isBreak_44 : decode cX10_isBreak 44 = .ok (.aload_n 0, 1) := by decide +kernel
theorem dX10_isBreak_45 : decode cX10_isBreak 45 = .ok (.getfield 7, 3) := by decide +kernel
theorem dX10_isBreak_48 : decode cX10_isBreak 48 = .ok (.iload 4, 2) := by decide +kernel
theorem dX10_isBreak_50 : decode cX10_isBreak 50 = .ok (.iconst 1, 1) := by decide +kernel
theorem dX10_isBreak_51 : decode cX10_isBreak 51 = .ok (.iadd, 1) := by decide +kernel
theorem dX10_isBreak_52 : decode cX10_isBreak 52 = .ok (.iaload, 1) := by decide +kernel
theorem dX10_isBreak_53 : decode cX10_isBreak 53 = .ok (.iconst 1, 1) := by decide +kernel
theorem dX10_isBreak_54 : decode cX10_isBreak 54 = .ok (.if_icmp .ne 7, 3) := by decide +kernel
theorem dX10_isBreak_57 : decode cX10_isBreak 57 = .ok (.iconst 1, 1) := by decide +kernel
theorem dX10_isBreak_58 : decode cX10_isBreak 58 = .ok (.goto 4, 3) := by decide +kernel
theorem dX10_isBreak_61 : decode cX10_isBreak 61 = .ok (.iconst 0, 1) := by decide +kernel
theorem dX10_isBreak_62 : decode cX10_isBreak 62 = .ok (.if_icmp .ne 7, 3) := by decide +kernel
theorem dX10_isBreak_65 : decode cX10_isBreak 65 = .ok (.iconst 1, 1) := by decide +kernel
theorem dX10_isBreak_66 : decode cX10_isBreak 66 = .ok (.goto 4, 3) := by decide +kernel
theorem dX10_isBreak_69 : decode cX10_isBreak 69 = .ok (.iconst 0, 1) := by decide +kernel
theorem dX10_isBreak_70 : decode cX10_isBreak 70 = .ok (.istore_n 2, 1) := by decide +kernel
theorem dX10_isBreak_71 : decode cX10_isBreak 71 = .ok (.iinc 3 1, 3) := by decide +kernel
theorem dX10_isBreak_74 : decode cX10_isBreak 74 = .ok (.goto (-70), 3) := by decide +kernel
theorem dX10_isBreak_77 : decode cX10_isBreak 77 = .ok (.iload_n 2, 1) := by decide +kernel
theorem dX10_isBreak_78 : decode cX10_isBreak 78 = .ok (.ireturn, 1) := by decide +kernel
theorem dX10_findBreaks_0 : decode cX10_findBreaks 0 = .ok (.aload_n 0, 1) := by decide +kernel
theorem dX10_findBreaks_1 : decode cX10_findBreaks 1 = .ok (.iconst 0, 1) := by decide +kernel
theorem dX10_findBreaks_2 : decode cX10_findBreaks 2 = .ok (.putfield 315, 3) := by decide +kernel
theorem dX10_findBreaks_5 : decode cX10_findBreaks 5 = .ok (.aload_n 0, 1) := by decide +kernel
theorem dX10_findBreaks_6 : decode cX10_findBreaks 6 = .ok (.bipush (-4), 2) := by decide +kernel
theorem dX10_findBreaks_8 : decode cX10_findBreaks 8 = .ok (.putfield 318, 3) := by decide +kernel
theorem dX10_findBreaks_11 : decode cX10_findBreaks 11 = .ok (.aload_n 0, 1) := by decide +kernel
theorem dX10_findBreaks_12 : decode cX10_findBreaks 12 = .ok (.bipush (-4), 2) := by decide +kernel
theorem dX10_findBreaks_14 : decode cX10_findBreaks 14 = .ok (.putfield 321, 3) := by decide +kernel
theorem dX10_findBreaks_17 : decode cX10_findBreaks 17 = .ok (.aload_n 0, 1) := by decide +kernel
theorem dX10_findBreaks_18 : decode cX10_findBreaks 18 = .ok (.iconst 0, 1) := by decide +kernel
theorem dX10_findBreaks_19 : decode cX10_findBreaks 19 = .ok (.putfield 324, 3) := by decide +kernel
theorem dX10_findBreaks_22 : decode cX10_findBreaks 22 = .ok (.aload_n 0, 1) := by decide +kernel
theorem dX10_findBreaks_23 : decode cX10_findBreaks 23 = .ok (.iconst 1, 1) := by decide +kernel
theorem dX10_findBreaks_24 : decode cX10_findBreaks 24 = .ok (.aload_n 0, 1) := by decide +kernel
theorem dX10_findBreaks_25 : decode cX10_findBreaks 25 = .ok (.getfield 7, 3) := by decide +kernel
theorem dX10_findBreaks_28 : decode cX10_findBreaks 28 = .ok (.iconst 0, 1) := by decide +kernel
theorem dX10_findBreaks_29 : decode cX10_findBreaks 29 = .ok (.iaload, 1) := by decide +kernel
theorem dX10_findBreaks_30 : decode cX10_findBreaks 30 = .ok (.ishl, 1) := by decide +kernel
theorem dX10_findBreaks_31 : decode cX10_findBreaks 31 = .ok (.iconst 1, 1) := by decide +kernel
theorem dX10_findBreaks_32 : decode cX10_findBreaks 32 = .ok (.isub, 1) := by decide +kernel
theorem dX10_findBreaks_33 : decode cX10_findBreaks 33 = .ok (.putfield 327, 3) := by decide +kernel
theorem dX10_findBreaks_36 : decode cX10_findBreaks 36 = .ok (.aload_n 0, 1) := by decide +kernel
theorem dX10_findBreaks_37 : decode cX10_findBreaks 37 = .ok (.iconst 0, 1) := by decide +kernel
theorem dX10_findBreaks_38 : decode cX10_findBreaks 38 = .ok (.putfield 330, 3) := by decide +kernel
theorem dX10_findBreaks_41 : decode cX10_findBreaks 41 = .ok (.iconst 0, 1) := by decide +kernel
theorem dX10_findBreaks_42 : decode cX10_findBreaks 42 = .ok (.istore_n 1, 1) := by decide +kernel
theorem dX10_findBreaks_43 : decode cX10_findBreaks 43 = .ok (.iload_n 1, 1) := by decide +kernel
theorem dX10_findBreaks_44 : decode cX10_findBreaks 44 = .ok (.bipush 12, 2) := by decide +kernel
theorem dX10_findBreaks_46 : decode cX10_findBreaks 46 = .ok (.if_icmp .ge 16, 3) := by decide +kernel
theorem dX10_findBreaks_49 : decode cX10_findBreaks 49 = .ok (.aload_n 0, 1) := by decide +kernel
theorem dX10_findBreaks_50 : decode cX10_findBreaks 50 = .ok (.getfield 59, 3) := by decide +kernel
theorem dX10_findBreaks_53 : decode cX10_findBreaks 53 = .ok (.iload_n 1, 1) := by decide +kernel
theorem dX10_findBreaks_54 : decode cX10_findBreaks 54 = .ok (.iconst 0, 1) := by decide +kernel
theorem dX10_findBreaks_55 : decode cX10_findBreaks 55 = .ok (.iastore, 1) := by decide +kernel
theorem dX10_findBreaks_56 : decode cX10_findBreaks 56 = .ok (.iinc 1 1, 3) := by decide +kernel
theorem dX10_findBreaks_59 : decode cX10_findBreaks 59 = .ok (.goto (-16), 3) := by decide +kernel
theorem dX10_findBreaks_62 : decode cX10_findBreaks 62 = .ok (.iconst 0, 1) := by decide +kernel
theorem dX10_findBreaks_63 : decode cX10_findBreaks 63 = .ok (.istore_n 1, 1) := by decide +kernel
theorem dX10_findBreaks_64 : decode cX10_findBreaks 64 = .ok (.iload_n 1, 1) := by decide +kernel
theorem dX10_findBreaks_65 : decode cX10_findBreaks 65 = .ok (.iconst 1, 1) := by decide +kernel
theorem dX10_findBreaks_66 : decode cX10_findBreaks 66 = .ok (.aload_n 0, 1) := by decide +kernel
theorem dX10_findBreaks_67 : decode cX10_findBreaks 67 = .ok (.getfield 7, 3) := by decide +kernel
theorem dX10_findBreaks_70 : decode cX10_findBreaks 70 = .ok (.iconst 0, 1) := by decide +kernel
theorem dX10_findBreaks_71 : decode cX10_findBreaks 71 = .ok (.iaload, 1) := by decide +kernel
theorem dX10_findBreaks_72 : decode cX10_findBreaks 72 = .ok (.ishl, 1) := by decide +kernel
theorem dX10_findBreaks_73 : decode cX10_findBreaks 73 = .ok (.if_icmp .ge 176, 3) := by decide +kernel
theorem dX10_findBreaks_76 : decode cX10_findBreaks 76 = .ok (.aload_n 0, 1) := by decide +kernel
theorem dX10_findBreaks_77 : decode cX10_findBreaks 77 = .ok (.iload_n 1, 1) := by decide +kernel
theorem dX10_findBreaks_78 : decode cX10_findBreaks 78 = .ok (.invokevirtual 333, 3) := by decide +kernel
theorem dX10_findBreaks_81 : decode cX10_findBreaks 81 = .ok (.ifCond .eq 162, 3) := by decide +kernel
theorem dX10_findBreaks_84 : decode cX10_findBreaks 84 = .ok (.aload_n 0, 1) := by decide +kernel
theorem dX10_findBreaks_85 : decode cX10_findBreaks 85 = .ok (.dup, 1) := by decide +kernel
theorem dX10_findBreaks_86 : decode cX10_findBreaks 86 = .ok (.getfield 315, 3) := by decide +kernel
theorem dX10_findBreaks_89 : decode cX10_findBreaks 89 = .ok (.iconst 1, 1) := by decide +kernel
theorem dX10_findBreaks_90 : decode cX10_findBreaks 90 = .ok (.iadd, 1) := by decide +kernel
theorem dX10_findBreaks_91 : decode cX10_findBreaks 91 = .ok (.putfield 315, 3) := by decide +kernel
theorem dX10_findBreaks_94 : decode cX10_findBreaks 94 = .ok (.aload_n 0, 1) := by decide +kernel
theorem dX10_findBreaks_95 : decode cX10_findBreaks 95 = .ok (.dup, 1) := by decide +kernel
theorem dX10_findBreaks_96 : decode cX10_findBreaks 96 = .ok (.getfield 327, 3) := by decide +kernel
theorem dX10_findBreaks_99 : decode cX10_findBreaks 99 = .ok (.iload_n 1, 1) := by decide +kernel
theorem dX10_findBreaks_100 : decode cX10_findBreaks 100 = .ok (.iand, 1) := by decide +kernel
theorem dX10_findBreaks_101 : decode cX10_findBreaks 101 = .ok (.putfield 327, 3) := by decide +kernel
theorem dX10_findBreaks_104 : decode cX10_findBreaks 104 = .ok (.aload_n 0, 1) := by decide +kernel
theorem dX10_findBreaks_105 : decode cX10_findBreaks 105 = .ok (.dup, 1) := by decide +kernel
theorem dX10_findBreaks_106 : decode cX10_findBreaks 106 = .ok (.getfield 330, 3) := by decide +kernel
theorem dX10_findBreaks_109 : decode cX10_findBreaks 109 = .ok (.iload_n 1, 1) := by decide +kernel
theorem dX10_findBreaks_110 : decode cX10_findBreaks 110 = .ok (.ior, 1) := by decide +kernel
theorem dX10_findBreaks_111 : decode cX10_findBreaks 111 = .ok (.putfield 330, 3) := by decide +kernel
theorem dX10_findBreaks_114 : decode cX10_findBreaks 114 = .ok (.iload_n 1, 1) := by decide +kernel
theorem dX10_findBreaks_115 : decode cX10_findBreaks 115 = .ok (.invokestatic 284, 3) := by decide +kernel
theorem dX10_findBreaks_118 : decode cX10_findBreaks 118 = .ok (.istore_n 2, 1) := by decide +kernel
theorem dX10_findBreaks_119 : decode cX10_findBreaks 119 = .ok (.aload_n 0, 1) := by decide +kernel
theorem dX10_findBreaks_120 : decode cX10_findBreaks 120 = .ok (.getfield 318, 3) := by decide +kernel
theorem dX10_findBreaks_123 : decode cX10_findBreaks 123 = .ok (.bipush (-4), 2) := by decide +kernel
theorem dX10_findBreaks_125 : decode cX10_findBreaks 125 = .ok (.if_icmp .eq 11, 3) := by decide +kernel
theorem dX10_findBreaks_128 : decode cX10_findBreaks 128 = .ok (.iload_n 2, 1) := by decide +kernel
theorem dX10_findBreaks_129 : decode cX10_findBreaks 129 = .ok (.aload_n 0, 1) := by decide +kernel
theorem dX10_findBreaks_130 : decode cX10_findBreaks 130 = .ok (.getfield 318, 3) := by decide +kernel
theorem dX10_findBreaks_133 : decode cX10_findBreaks 133 = .ok (.if_icmp .ge 7, 3) := by decide +kernel
theorem dX10_findBreaks_136 : decode cX10_findBreaks 136 = .ok (.iconst 1, 1) := by decide +kernel
theorem dX10_findBreaks_137 : decode cX10_findBreaks 137 = .ok (.goto 4, 3) := by decide +kernel
theorem dX10_findBreaks_140 : decode cX10_findBreaks 140 = .ok (.iconst 0, 1) := by decide +kernel
theorem dX10_findBreaks_141 : decode cX10_findBreaks 141 = .ok (.istore_n 3, 1) := by decide +kernel
theorem dX10_findBreaks_142 : decode cX10_findBreaks 142 = .ok (.aload_n 0, 1) := by decide +kernel
theorem dX10_findBreaks_143 : decode cX10_findBreaks 143 = .ok (.iload_n 3, 1) := by decide +kernel
theorem dX10_findBreaks_144 : decode cX10_findBreaks 144 = .ok (.ifCond .eq 7, 3) := by decide +kernel
theorem dX10_findBreaks_147 : decode cX10_findBreaks 147 = .ok (.iload_n 2, 1) := by decide +kernel
theorem dX10_findBreaks_148 : decode cX10_findBreaks 148 = .ok (.goto 7, 3) := by decide +kernel
theorem dX10_findBreaks_151 : decode cX10_findBreaks 151 = .ok (.aload_n 0, 1) := by decide +kernel
theorem dX10_findBreaks_152 : decode cX10_findBreaks 152 = .ok (.getfield 318, 3) := by decide +kernel
theorem dX10_findBreaks_155 : decode cX10_findBreaks 155 = .ok (.putfield 318, 3) := by decide +kernel
theorem dX10_findBreaks_158 : decode cX10_findBreaks 158 = .ok (.aload_n 0, 1) := by decide +kernel
theorem dX10_findBreaks_159 : decode cX10_findBreaks 159 = .ok (.iload_n 3, 1) := by decide +kernel
theorem dX10_findBreaks_160 : decode cX10_findBreaks 160 = .ok (.ifCond .eq 7, 3) := by decide +kernel
theorem dX10_findBreaks_163 : decode cX10_findBreaks 163 = .ok (.iload_n 1, 1) := by decide +kernel
theorem dX10_findBreaks_164 : decode cX10_findBreaks 164 = .ok (.goto 7, 3) := by decide +kernel
theorem dX10_findBreaks_167 : decode cX10_findBreaks 167 = .ok (.aload_n 0, 1) := by decide +kernel
theorem dX10_findBreaks_168 : decode cX10_findBreaks 168 = .ok (.getfield 321, 3) := by decide +kernel
theorem dX10_findBreaks_171 : decode cX10_findBreaks 171 = .ok (.putfield 321, 3) := by decide +kernel
theorem dX10_findBreaks_174 : decode cX10_findBreaks 174 = .ok (.aload_n 0, 1) := by decide +kernel
theorem dX10_findBreaks_175 : decode cX10_findBreaks 175 = .ok (.iload_n 3, 1) := by decide +kernel
theorem dX10_findBreaks_176 : decode cX10_findBreaks 176 = .ok (.ifCond .eq 7, 3) := by decide +kernel
theorem dX10_findBreaks_179 : decode cX10_findBreaks 179 = .ok (.iconst 1, 1) := by decide +kernel
theorem dX10_findBreaks_180 : decode cX10_findBreaks 180 = .ok (.goto 24, 3) := by decide +kernel
theorem dX10_findBreaks_183 : decode cX10_findBreaks 183 = .ok (.aload_n 0, 1) := by decide +kernel
theorem dX10_findBreaks_184 : decode cX10_findBreaks 184 = .ok (.getfield 324, 3) := by decide +kernel
theorem dX10_findBreaks_187 : decode cX10_findBreaks 187 = .ok (.iload_n 2, 1) := by decide +kernel
theorem dX10_findBreaks_188 : decode cX10_findBreaks 188 = .ok (.aload_n 0, 1) := by decide +kernel
theorem dX10_findBreaks_189 : decode cX10_findBreaks 189 = .ok (.getfield 318, 3) := by decide +kernel
theorem dX10_findBreaks_192 : decode cX10_findBreaks 192 = .ok (.if_icmp .ne 7, 3) := by decide +kernel
theorem dX10_findBreaks_195 : decode cX10_findBreaks 195 = .ok (.iconst 1, 1) := by decide +kernel
theorem dX10_findBreaks_196 : decode cX10_findBreaks 196 = .ok (.goto 4, 3) := by decide +kernel
theorem dX10_findBreaks_199 : decode cX10_findBreaks 199 = .ok (.iconst 0, 1) := by decide +kernel
theorem dX10_findBreaks_200 : decode cX10_findBreaks 200 = .ok (.invokestatic 218, 3) := by decide +kernel
theorem dX10_findBreaks_203 : decode cX10_findBreaks 203 = .ok (.iadd, 1) := by decide +kernel
theorem dX10_findBreaks_204 : decode cX10_findBreaks 204 = .ok (.putfield 324, 3) := by decide +kernel
theorem dX10_findBreaks_207 : decode cX10_findBreaks 207 = .ok (.iconst 0, 1) := by decide +kernel
theorem dX10_findBreaks_208 : decode cX10_findBreaks 208 = .ok (.istore 4, 2) := by decide +kernel
theorem dX10_findBreaks_210 : decode cX10_findBreaks 210 = .ok (.iload 4, 2) := by decide +kernel
theorem dX10_findBreaks_212 : decode cX10_findBreaks 212 = .ok (.aload_n 0, 1) := by decide +kernel
theorem dX10_findBreaks_213 : decode cX10_findBreaks 213 = .ok (.getfield 7, 3) := by decide +kernel
theorem dX10_findBreaks_216 : decode cX10_findBreaks 216 = .ok (.iconst 0, 1) := by decide +kernel
theorem dX10_findBreaks_217 : decode cX10_findBreaks 217 = .ok (.iaload, 1) := by decide +kernel
theorem dX10_findBreaks_218 : decode cX10_findBreaks 218 = .ok (.if_icmp .ge 25, 3) := by decide +kernel
theorem dX10_findBreaks_221 : decode cX10_findBreaks 221 = .ok (.aload_n 0, 1) := by decide +kernel
theorem dX10_findBreaks_222 : decode cX10_findBreaks 222 = .ok (.getfield 59, 3) := by decide +kernel
theorem dX10_findBreaks_225 : decode cX10_findBreaks 225 = .ok (.iload 4, 2) := by decide +kernel
theorem dX10_findBreaks_227 : decode cX10_findBreaks 227 = .ok (.dup2, 1) := by decide +kernel
theorem dX10_findBreaks_228 : decode cX10_findBreaks 228 = .ok (.iaload, 1) := by decide +kernel
theorem dX10_findBreaks_229 : decode cX10_findBreaks 229 = .ok (.iload_n 1, 1) := by decide +kernel
theorem dX10_findBreaks_230 : decode cX10_findBreaks 230 = .ok (.iload 4, 2) := by decide +kernel
theorem dX10_findBreaks_232 : decode cX10_findBreaks 232 = .ok (.ishr, 1) := by decide +kernel
theorem dX10_findBreaks_233 : decode cX10_findBreaks 233 = .ok (.iconst 1, 1) := by decide +kernel
theorem dX10_findBreaks_234 : decode cX10_findBreaks 234 = .ok (.iand, 1) := by decide +kernel
theorem dX10_findBreaks_235 : decode cX10_findBreaks 235 = .ok (.iadd, 1) := by decide +kernel
theorem dX10_findBreaks_236 : decode cX10_findBreaks 236 = .ok (.iastore, 1) := by decide +kernel
theorem dX10_findBreaks_237 : decode cX10_findBreaks 237 = .ok (.iinc 4 1, 3) := by decide +kernel
theorem dX10_findBreaks_240 : decode cX10_findBreaks 240 = .ok (.goto (-30), 3) := by decide +kernel
theorem dX10_findBreaks_243 : decode cX10_findBreaks 243 = .ok (.iinc 1 1, 3) := by decide +kernel
theorem dX10_findBreaks_246 : decode cX10_findBreaks 246 = .ok (.goto (-182), 3) := by decide +kernel
theorem dX10_findBreaks_249 : decode cX10_findBreaks 249 = .ok (.return_, 1) := by decide +kernel
theorem dX10_breaks_0 : decode cX10_breaks 0 = .ok (.iload_n 1, 1) := by decide +kernel
theorem dX10_breaks_1 : decode cX10_breaks 1 = .ok (.i2l, 1) := by decide +kernel
theorem dX10_breaks_2 : decode cX10_breaks 2 = .ok (.lconst 0, 1) := by decide +kernel
theorem dX10_breaks_3 : decode cX10_breaks 3 = .ok (.ldc2_w 336, 3) := by decide +kernel
theorem dX10_breaks_6 : decode cX10_breaks 6 = .ok (.invokestatic 108, 3) := by decide +kernel
theorem dX10_breaks_9 : decode cX10_breaks 9 = .ok (.ifCond .ne 5, 3) := by decide +kernel
theorem dX10_breaks_12 : decode cX10_breaks 12 = .ok (.iconst (-1), 1) := by decide +kernel
theorem dX10_breaks_13 : decode cX10_breaks 13 = .ok (.ireturn, 1) := by decide +kernel
theorem dX10_breaks_14 : decode cX10_breaks 14 = .ok (.aload_n 0, 1) := by decide +kernel
theorem dX10_breaks_15 : decode cX10_breaks 15 = .ok (.invokevirtual 338, 3) := by decide +kernel
theorem dX10_breaks_18 : decode cX10_breaks 18 = .ok (.iload_n 1, 1) := by decide +kernel
theorem dX10_breaks_19 : decode cX10_breaks 19 = .ok (.ifCond .ne 10, 3) := by decide +kernel
theorem dX10_breaks_22 : decode cX10_breaks 22 = .ok (.aload_n 0, 1) := by decide +kernel
theorem dX10_breaks_23 : decode cX10_breaks 23 = .ok (.getfield 315, 3) := by decide +kernel
theorem dX10_breaks_26 : decode cX10_breaks 26 = .ok (.goto 31, 3) := by decide +kernel
theorem dX10_breaks_29 : decode cX10_breaks 29 = .ok (.iload_n 1, 1) := by decide +kernel
theorem dX10_breaks_30 : decode cX10_breaks 30 = .ok (.iconst 1, 1) := by decide +kernel
theorem dX10_breaks_31 : decode cX10_breaks 31 = .ok (.if_icmp .ne 10, 3) := by decide +kernel
theorem dX10_breaks_34 : decode cX10_breaks 34 = .ok (.aload_n 0, 1) := by decide +kernel
theorem dX10_breaks_35 : decode cX10_breaks 35 = .ok (.getfield 318, 3) := by decide +kernel
theorem dX10_breaks_38 : decode cX10_breaks 38 = .ok (.goto 19, 3) := by decide +kernel
theorem dX10_breaks_41 : decode cX10_breaks 41 = .ok (.iload_n 1, 1) := by decide +kernel
theorem dX10_breaks_42 : decode cX10_breaks 42 = .ok (.iconst 2, 1) := by decide +kernel
theorem dX10_breaks_43 : decode cX10_breaks 43 = .ok (.if_icmp .ne 10, 3) := by decide +kernel
theorem dX10_breaks_46 : decode cX10_breaks 46 = .ok (.aload_n 0, 1) := by decide +kernel
theorem dX10_breaks_47 : decode cX10_breaks 47 = .ok (.getfield 321, 3) := by decide +kernel
theorem dX10_breaks_50 : decode cX10_breaks 50 = .ok (.goto 7, 3) := by decide +kernel
theorem dX10_breaks_53 : decode cX10_breaks 53 = .ok (.aload_n 0, 1) := by decide +kernel
theorem dX10_breaks_54 : decode cX10_breaks 54 = .ok (.getfield 324, 3) := by decide +kernel
theorem dX10_breaks_57 : decode cX10_breaks 57 = .ok (.ireturn, 1) := by decide +kernel
theorem dX10_known_0 : decode cX10_known 0 = .ok (.iload_n 1, 1) := by decide +kernel
theorem dX10_known_1 : decode cX10_known 1 = .ok (.i2l, 1) := by decide +kernel
theorem dX10_known_2 : decode cX10_known 2 = .ok (.lconst 0, 1) := by decide +kernel
theorem dX10_known_3 : decode cX10_known 3 = .ok (.lconst 1, 1) := by decide +kernel
theorem dX10_known_4 : decode cX10_known 4 = .ok (.invokestatic 108, 3) := by decide +kernel
theorem dX10_known_7 : decode cX10_known 7 = .ok (.ifCond .ne 5, 3) := by decide +kernel
theorem dX10_known_10 : decode cX10_known 10 = .ok (.iconst (-1), 1) := by decide +kernel
theorem dX10_known_11 : decode cX10_known 11 = .ok (.ireturn, 1) := by decide +kernel
theorem dX10_known_12 : decode cX10_known 12 = .ok (.aload_n 0, 1) := by decide +kernel
theorem dX10_known_13 : decode cX10_known 13 = .ok (.invokevirtual 338, 3) := by decide +kernel
theorem dX10_known_16 : decode cX10_known 16 = .ok (.aload_n 0, 1) := by decide +kernel
theorem dX10_known_17 : decode cX10_known 17 = .ok (.getfield 315, 3) := by decide +kernel
theorem dX10_known_20 : decode cX10_known 20 = .ok (.ifCond .ne 8, 3) := by decide +kernel
theorem dX10_known_23 : decode cX10_known 23 = .ok (.bipush (-4), 2) := by decide +kernel
theorem dX10_known_25 : decode cX10_known 25 = .ok (.goto 31, 3) := by decide +kernel
theorem dX10_known_28 : decode cX10_known 28 = .ok (.iload_n 1, 1) := by decide +kernel
theorem dX10_known_29 : decode cX10_known 29 = .ok (.ifCond .ne 10, 3) := by decide +kernel
theorem dX10_known_32 : decode cX10_known 32 = .ok (.aload_n 0, 1) := by decide +kernel
theorem dX10_known_33 : decode cX10_known 33 = .ok (.getfield 327, 3) := by decide +kernel
theorem dX10_known_36 : decode cX10_known 36 = .ok (.goto 20, 3) := by decide +kernel
theorem dX10_known_39 : decode cX10_known 39 = .ok (.iconst 1, 1) := by decide +kernel
theorem dX10_known_40 : decode cX10_known 40 = .ok (.aload_n 0, 1) := by decide +kernel
theorem dX10_known_41 : decode cX10_known 41 = .ok (.getfield 7, 3) := by decide +kernel
theorem dX10_known_44 : decode cX10_known 44 = .ok (.iconst 0, 1) := by decide +kernel
theorem dX10_known_45 : decode cX10_known 45 = .ok (.iaload, 1) := by decide +kernel
theorem dX10_known_46 : decode cX10_known 46 = .ok (.ishl, 1) := by decide +kernel
theorem dX10_known_47 : decode cX10_known 47 = .ok (.iconst 1, 1) := by decide +kernel
theorem dX10_known_48 : decode cX10_known 48 = .ok (.isub, 1) := by decide +kernel
theorem dX10_known_49 : decode cX10_known 49 = .ok (.aload_n 0, 1) := by decide +kernel
theorem dX10_known_50 : decode cX10_known 50 = .ok (.getfield 330, 3) := by decide +kernel
theorem dX10_known_53 : decode cX10_known 53 = .ok (.iconst (-1), 1) := by decide +kernel
theorem dX10_known_54 : decode cX10_known 54 = .ok (.ixor, 1) := by decide +kernel
theorem dX10_known_55 : decode cX10_known 55 = .ok (.iand, 1) := by decide +kernel
theorem dX10_known_56 : decode cX10_known 56 = .ok (.ireturn, 1) := by decide +kernel
theorem dX10_ask_0 : decode cX10_ask 0 = .ok (.iload_n 1, 1) := by decide +kernel
theorem dX10_ask_1 : decode cX10_ask 1 = .ok (.i2l, 1) := by decide +kernel
theorem dX10_ask_2 : decode cX10_ask 2 = .ok (.lconst 0, 1) := by decide +kernel
theorem dX10_ask_3 : decode cX10_ask 3 = .ok (.lconst 1, 1) := by decide +kernel
theorem dX10_ask_4 : decode cX10_ask 4 = .ok (.invokestatic 108, 3) := by decide +kernel
theorem dX10_ask_7 : decode cX10_ask 7 = .ok (.ifCond .ne 5, 3) := by decide +kernel
theorem dX10_ask_10 : decode cX10_ask 10 = .ok (.iconst (-1), 1) := by decide +kernel
theorem dX10_ask_11 : decode cX10_ask 11 = .ok (.ireturn, 1) := by decide +kernel
theorem dX10_ask_12 : decode cX10_ask 12 = .ok (.aload_n 0, 1) := by decide +kernel
theorem dX10_ask_13 : decode cX10_ask 13 = .ok (.invokevirtual 338, 3) := by decide +kernel
theorem dX10_ask_16 : decode cX10_ask 16 = .ok (.bipush (-4), 2) := by decide +kernel
theorem dX10_ask_18 : decode cX10_ask 18 = .ok (.istore_n 2, 1) := by decide +kernel
theorem dX10_ask_19 : decode cX10_ask 19 = .ok (.aload_n 0, 1) := by decide +kernel
theorem dX10_ask_20 : decode cX10_ask 20 = .ok (.getfield 315, 3) := by decide +kernel
theorem dX10_ask_23 : decode cX10_ask 23 = .ok (.istore_n 3, 1) := by decide +kernel
theorem dX10_ask_24 : decode cX10_ask 24 = .ok (.iconst 0, 1) := by decide +kernel
theorem dX10_ask_25 : decode cX10_ask 25 = .ok (.istore 4, 2) := by decide +kernel
theorem dX10_ask_27 : decode cX10_ask 27 = .ok (.iload 4, 2) := by decide +kernel
theorem dX10_ask_29 : decode cX10_ask 29 = .ok (.aload_n 0, 1) := by decide +kernel
theorem dX10_ask_30 : decode cX10_ask 30 = .ok (.getfield 7, 3) := by decide +kernel
theorem dX10_ask_33 : decode cX10_ask 33 = .ok (.iconst 0, 1) := by decide +kernel
theorem dX10_ask_34 : decode cX10_ask 34 = .ok (.iaload, 1) := by decide +kernel
theorem dX10_ask_35 : decode cX10_ask 35 = .ok (.if_icmp .ge 81, 3) := by decide +kernel
theorem dX10_ask_38 : decode cX10_ask 38 = .ok (.aload_n 0, 1) := by decide +kernel
theorem dX10_ask_39 : decode cX10_ask 39 = .ok (.getfield 59, 3) := by decide +kernel
theorem dX10_ask_42 : decode cX10_ask 42 = .ok (.iload 4, 2) := by decide +kernel
theorem dX10_ask_44 : decode cX10_ask 44 = .ok (.iaload, 1) := by decide +kernel
theorem dX10_ask_45 : decode cX10_ask 45 = .ok (.aload_n 0, 1) := by decide +kernel
theorem dX10_ask_46 : decode cX10_ask 46 = .ok (.getfield 315, 3) := by decide +kernel
theorem dX10_ask_49 : decode cX10_ask 49 = .ok (.aload_n 0, 1) := by decide +kernel
theorem dX10_ask_50 : decode cX10_ask 50 = .ok (.getfield 59, 3) := by decide +kernel
theorem dX10_ask_53 : decode cX10_ask 53 = .ok (.iload 4, 2) := by decide +kernel
theorem dX10_ask_55 : decode cX10_ask 55 = .ok (.iaload, 1) := by decide +kernel
theorem dX10_ask_56 : decode cX10_ask 56 = .ok (.isub, 1) := by decide +kernel
theorem dX10_ask_57 : decode cX10_ask 57 = .ok (.if_icmp .le 13, 3) := by decide +kernel
theorem dX10_ask_60 : decode cX10_ask 60 = .ok (.aload_n 0, 1) := by decide +kernel
theorem dX10_ask_61 : decode cX10_ask 61 = .ok (.getfield 59, 3) := by decide +kernel
theorem dX10_ask_64 : decode cX10_ask 64 = .ok (.iload 4, 2) := by decide +kernel
theorem dX10_ask_66 : decode cX10_ask 66 = .ok (.iaload, 1) := by decide +kernel
theorem dX10_ask_67 : decode cX10_ask 67 = .ok (.goto 15, 3) := by decide +kernel
theorem dX10_ask_70 : decode cX10_ask 70 = .ok (.aload_n 0, 1) := by decide +kernel
theorem dX10_ask_71 : decode cX10_ask 71 = .ok (.getfield 315, 3) := by decide +kernel
theorem dX10_ask_74 : decode cX10_ask 74 = .ok (.aload_n 0, 1) := by decide +kernel
theorem dX10_ask_75 : decode cX10_ask 75 = .ok (.getfield 59, 3) := by decide +kernel
theorem dX10_ask_78 : decode cX10_ask 78 = .ok (.iload 4, 2) := by decide +kernel
theorem dX10_ask_80 : decode cX10_ask 80 = .ok (.iaload, 1) := by decide +kernel
theorem dX10_ask_81 : decode cX10_ask 81 = .ok (.isub, 1) := by decide +kernel
theorem dX10_ask_82 : decode cX10_ask 82 = .ok (.istore 5, 2) := by decide +kernel
theorem dX10_ask_84 : decode cX10_ask 84 = .ok (.iload 5, 2) := by decide +kernel
theorem dX10_ask_86 : decode cX10_ask 86 = .ok (.iload_n 3, 1) := by decide +kernel
theorem dX10_ask_87 : decode cX10_ask 87 = .ok (.if_icmp .ge 8, 3) := by decide +kernel
theorem dX10_ask_90 : decode cX10_ask 90 = .ok (.iload 4, 2) := by decide +kernel
theorem dX10_ask_92 : decode cX10_ask 92 = .ok (.goto 4, 3) := by decide +kernel
theorem dX10_ask_95 : decode cX10_ask 95 = .ok (.iload_n 2, 1) := by decide +kernel
theorem dX10_ask_96 : decode cX10_ask 96 = .ok (.istore_n 2, 1) := by decide +kernel
theorem dX10_ask_97 : decode cX10_ask 97 = .ok (.iload 5, 2) := by decide +kernel
theorem dX10_ask_99 : decode cX10_ask 99 = .ok (.iload_n 3, 1) := by decide +kernel
theorem dX10_ask_100 : decode cX10_ask 100 = .ok (.if_icmp .ge 8, 3) := by decide +kernel
theorem dX10_ask_103 : decode cX10_ask 103 = .ok (.iload 5, 2) := by decide +kernel
theorem dX10_ask_105 : decode cX10_ask 105 = .ok (.goto 4, 3) := by decide +kernel
theorem dX10_ask_108 : decode cX10_ask 108 = .ok (.iload_n 3, 1) := by decide +kernel
theorem dX10_ask_109 : decode cX10_ask 109 = .ok (.istore_n 3, 1) := by decide +kernel
theorem dX10_ask_110 : decode cX10_ask 110 = .ok (.iinc 4 1, 3) := by decide +kernel
theorem dX10_ask_113 : decode cX10_ask 113 = .ok (.goto (-86), 3) := by decide +kernel
theorem dX10_ask_116 : decode cX10_ask 116 = .ok (.iload_n 2, 1) := by decide +kernel
theorem dX10_ask_117 : decode cX10_ask 117 = .ok (.bipush (-4), 2) := by decide +kernel
theorem dX10_ask_119 : decode cX10_ask 119 = .ok (.if_icmp .ne 8, 3) := by decide +kernel
theorem dX10_ask_122 : decode cX10_ask 122 = .ok (.bipush (-4), 2) := by decide +kernel
theorem dX10_ask_124 : decode cX10_ask 124 = .ok (.goto 12, 3) := by decide +kernel
theorem dX10_ask_127 : decode cX10_ask 127 = .ok (.iload_n 1, 1) := by decide +kernel
theorem dX10_ask_128 : decode cX10_ask 128 = .ok (.ifCond .ne 7, 3) := by decide +kernel
theorem dX10_ask_131 : decode cX10_ask 131 = .ok (.iload_n 2, 1) := by decide +kernel
theorem dX10_ask_132 : decode cX10_ask 132 = .ok (.goto 4, 3) := by decide +kernel
theorem dX10_ask_135 : decode cX10_ask 135 = .ok (.iload_n 3, 1) := by decide +kernel
theorem dX10_ask_136 : decode cX10_ask 136 = .ok (.ireturn, 1) := by decide +kernel
theorem dX10_copies_0 : decode cX10_copies 0 = .ok (.iconst 0, 1) := by decide +kernel
theorem dX10_copies_1 : decode cX10_copies 1 = .ok (.istore_n 3, 1) := by decide +kernel
theorem dX10_copies_2 : decode cX10_copies 2 = .ok (.iload_n 3, 1) := by decide +kernel
theorem dX10_copies_3 : decode cX10_copies 3 = .ok (.bipush 125, 2) := by decide +kernel
theorem dX10_copies_5 : decode cX10_copies 5 = .ok (.if_icmp .ge 25, 3) := by decide +kernel
theorem dX10_copies_8 : decode cX10_copies 8 = .ok (.aload_n 0, 1) := by decide +kernel
theorem dX10_copies_9 : decode cX10_copies 9 = .ok (.getfield 7, 3) := by decide +kernel
theorem dX10_copies_12 : decode cX10_copies 12 = .ok (.iload_n 1, 1) := by decide +kernel
theorem dX10_copies_13 : decode cX10_copies 13 = .ok (.iload_n 3, 1) := by decide +kernel
theorem dX10_copies_14 : decode cX10_copies 14 = .ok (.iadd, 1) := by decide +kernel
theorem dX10_copies_15 : decode cX10_copies 15 = .ok (.aload_n 0, 1) := by decide +kernel
theorem dX10_copies_16 : decode cX10_copies 16 = .ok (.getfield 7, 3) := by decide +kernel
theorem dX10_copies_19 : decode cX10_copies 19 = .ok (.iload_n 2, 1) := by decide +kernel
theorem dX10_copies_20 : decode cX10_copies 20 = .ok (.iload_n 3, 1) := by decide +kernel
theorem dX10_copies_21 : decode cX10_copies 21 = .ok (.iadd, 1) := by decide +kernel
theorem dX10_copies_22 : decode cX10_copies 22 = .ok (.iaload, 1) := by decide +kernel
theorem dX10_copies_23 : decode cX10_copies 23 = .ok (.iastore, 1) := by decide +kernel
theorem dX10_copies_24 : decode cX10_copies 24 = .ok (.iinc 3 1, 3) := by decide +kernel
theorem dX10_copies_27 : decode cX10_copies 27 = .ok (.goto (-25), 3) := by decide +kernel
theorem dX10_copies_30 : decode cX10_copies 30 = .ok (.return_, 1) := by decide +kernel
theorem dX10_keep_0 : decode cX10_keep 0 = .ok (.iload_n 1, 1) := by decide +kernel
theorem dX10_keep_1 : decode cX10_keep 1 = .ok (.i2l, 1) := by decide +kernel
theorem dX10_keep_2 : decode cX10_keep 2 = .ok (.lconst 0, 1) := by decide +kernel
theorem dX10_keep_3 : decode cX10_keep 3 = .ok (.lconst 1, 1) := by decide +kernel
theorem dX10_keep_4 : decode cX10_keep 4 = .ok (.invokestatic 108, 3) := by decide +kernel
theorem dX10_keep_7 : decode cX10_keep 7 = .ok (.ifCond .ne 5, 3) := by decide +kernel
theorem dX10_keep_10 : decode cX10_keep 10 = .ok (.iconst (-1), 1) := by decide +kernel
theorem dX10_keep_11 : decode cX10_keep 11 = .ok (.ireturn, 1) := by decide +kernel
theorem dX10_keep_12 : decode cX10_keep 12 = .ok (.aload_n 0, 1) := by decide +kernel
theorem dX10_keep_13 : decode cX10_keep 13 = .ok (.getfield 13, 3) := by decide +kernel
theorem dX10_keep_16 : decode cX10_keep 16 = .ok (.iload_n 1, 1) := by decide +kernel
theorem dX10_keep_17 : decode cX10_keep 17 = .ok (.baload, 1) := by decide +kernel
theorem dX10_keep_18 : decode cX10_keep 18 = .ok (.invokestatic 218, 3) := by decide +kernel
theorem dX10_keep_21 : decode cX10_keep 21 = .ok (.istore_n 2, 1) := by decide +kernel
theorem dX10_keep_22 : decode cX10_keep 22 = .ok (.aload_n 0, 1) := by decide +kernel
theorem dX10_keep_23 : decode cX10_keep 23 = .ok (.getfield 13, 3) := by decide +kernel
theorem dX10_keep_26 : decode cX10_keep 26 = .ok (.iload_n 1, 1) := by decide +kernel
theorem dX10_keep_27 : decode cX10_keep 27 = .ok (.iconst 1, 1) := by decide +kernel
theorem dX10_keep_28 : decode cX10_keep 28 = .ok (.bastore, 1) := by decide +kernel
theorem dX10_keep_29 : decode cX10_keep 29 = .ok (.aload_n 0, 1) := by decide +kernel
theorem dX10_keep_30 : decode cX10_keep 30 = .ok (.bipush 125, 2) := by decide +kernel
theorem dX10_keep_32 : decode cX10_keep 32 = .ok (.iload_n 1, 1) := by decide +kernel
theorem dX10_keep_33 : decode cX10_keep 33 = .ok (.iconst 1, 1) := by decide +kernel
theorem dX10_keep_34 : decode cX10_keep 34 = .ok (.iadd, 1) := by decide +kernel
theorem dX10_keep_35 : decode cX10_keep 35 = .ok (.imul, 1) := by decide +kernel
theorem dX10_keep_36 : decode cX10_keep 36 = .ok (.iconst 0, 1) := by decide +kernel
theorem dX10_keep_37 : decode cX10_keep 37 = .ok (.invokevirtual 341, 3) := by decide +kernel
theorem dX10_keep_40 : decode cX10_keep 40 = .ok (.iload_n 2, 1) := by decide +kernel
theorem dX10_keep_41 : decode cX10_keep 41 = .ok (.ireturn, 1) := by decide +kernel
theorem dX10_back_0 : decode cX10_back 0 = .ok (.iload_n 1, 1) := by decide +kernel
theorem dX10_back_1 : decode cX10_back 1 = .ok (.i2l, 1) := by decide +kernel
theorem dX10_back_2 : decode cX10_back 2 = .ok (.lconst 0, 1) := by decide +kernel
theorem dX10_back_3 : decode cX10_back 3 = .ok (.lconst 1, 1) := by decide +kernel
theorem dX10_back_4 : decode cX10_back 4 = .ok (.invokestatic 108, 3) := by decide +kernel
theorem dX10_back_7 : decode cX10_back 7 = .ok (.ifCond .ne 5, 3) := by decide +kernel
theorem dX10_back_10 : decode cX10_back 10 = .ok (.iconst (-1), 1) := by decide +kernel
theorem dX10_back_11 : decode cX10_back 11 = .ok (.ireturn, 1) := by decide +kernel
theorem dX10_back_12 : decode cX10_back 12 = .ok (.aload_n 0, 1) := by decide +kernel
theorem dX10_back_13 : decode cX10_back 13 = .ok (.getfield 13, 3) := by decide +kernel
theorem dX10_back_16 : decode cX10_back 16 = .ok (.iload_n 1, 1) := by decide +kernel
theorem dX10_back_17 : decode cX10_back 17 = .ok (.baload, 1) := by decide +kernel
theorem dX10_back_18 : decode cX10_back 18 = .ok (.ifCond .ne 6, 3) := by decide +kernel
theorem dX10_back_21 : decode cX10_back 21 = .ok (.bipush (-2), 2) := by decide +kernel
theorem dX10_back_23 : decode cX10_back 23 = .ok (.ireturn, 1) := by decide +kernel
theorem dX10_back_24 : decode cX10_back 24 = .ok (.aload_n 0, 1) := by decide +kernel
theorem dX10_back_25 : decode cX10_back 25 = .ok (.iconst 0, 1) := by decide +kernel
theorem dX10_back_26 : decode cX10_back 26 = .ok (.bipush 125, 2) := by decide +kernel
theorem dX10_back_28 : decode cX10_back 28 = .ok (.iload_n 1, 1) := by decide +kernel
theorem dX10_back_29 : decode cX10_back 29 = .ok (.iconst 1, 1) := by decide +kernel
theorem dX10_back_30 : decode cX10_back 30 = .ok (.iadd, 1) := by decide +kernel
theorem dX10_back_31 : decode cX10_back 31 = .ok (.imul, 1) := by decide +kernel
theorem dX10_back_32 : decode cX10_back 32 = .ok (.invokevirtual 341, 3) := by decide +kernel
theorem dX10_back_35 : decode cX10_back 35 = .ok (.aload_n 0, 1) := by decide +kernel
theorem dX10_back_36 : decode cX10_back 36 = .ok (.getfield 7, 3) := by decide +kernel
theorem dX10_back_39 : decode cX10_back 39 = .ok (.iconst 0, 1) := by decide +kernel
theorem dX10_back_40 : decode cX10_back 40 = .ok (.iaload, 1) := by decide +kernel
theorem dX10_back_41 : decode cX10_back 41 = .ok (.ireturn, 1) := by decide +kernel
theorem dX10_isSheet_0 : decode cX10_isSheet 0 = .ok (.iload_n 0, 1) := by decide +kernel
theorem dX10_isSheet_1 : decode cX10_isSheet 1 = .ok (.i2l, 1) := by decide +kernel
theorem dX10_isSheet_2 : decode cX10_isSheet 2 = .ok (.lconst 0, 1) := by decide +kernel
theorem dX10_isSheet_3 : decode cX10_isSheet 3 = .ok (.ldc2_w 336, 3) := by decide +kernel
theorem dX10_isSheet_6 : decode cX10_isSheet 6 = .ok (.invokestatic 108, 3) := by decide +kernel
theorem dX10_isSheet_9 : decode cX10_isSheet 9 = .ok (.ifCond .eq 19, 3) := by decide +kernel
theorem dX10_isSheet_12 : decode cX10_isSheet 12 = .ok (.iload_n 1, 1) := by decide +kernel
theorem dX10_isSheet_13 : decode cX10_isSheet 13 = .ok (.i2l, 1) := by decide +kernel
theorem dX10_isSheet_14 : decode cX10_isSheet 14 = .ok (.lconst 0, 1) := by decide +kernel
theorem dX10_isSheet_15 : decode cX10_isSheet 15 = .ok (.ldc2_w 211, 3) := by decide +kernel
theorem dX10_isSheet_18 : decode cX10_isSheet 18 = .ok (.invokestatic 108, 3) := by decide +kernel
theorem dX10_isSheet_21 : decode cX10_isSheet 21 = .ok (.ifCond .eq 7, 3) := by decide +kernel
theorem dX10_isSheet_24 : decode cX10_isSheet 24 = .ok (.iconst 1, 1) := by decide +kernel
theorem dX10_isSheet_25 : decode cX10_isSheet 25 = .ok (.goto 4, 3) := by decide +kernel
theorem dX10_isSheet_28 : decode cX10_isSheet 28 = .ok (.iconst 0, 1) := by decide +kernel
theorem dX10_isSheet_29 : decode cX10_isSheet 29 = .ok (.ireturn, 1) := by decide +kernel
theorem dX10_sheet_0 : decode cX10_sheet 0 = .ok (.iload_n 1, 1) := by decide +kernel
theorem dX10_sheet_1 : decode cX10_sheet 1 = .ok (.iload_n 2, 1) := by decide +kernel
theorem dX10_sheet_2 : decode cX10_sheet 2 = .ok (.invokestatic 344, 3) := by decide +kernel
theorem dX10_sheet_5 : decode cX10_sheet 5 = .ok (.ifCond .eq 9, 3) := by decide +kernel
theorem dX10_sheet_8 : decode cX10_sheet 8 = .ok (.iload_n 3, 1) := by decide +kernel
theorem dX10_sheet_9 : decode cX10_sheet 9 = .ok (.bipush 40, 2) := by decide +kernel
theorem dX10_sheet_11 : decode cX10_sheet 11 = .ok (.if_icmp .le 5, 3) := by decide +kernel
theorem dX10_sheet_14 : decode cX10_sheet 14 = .ok (.iconst (-1), 1) := by decide +kernel
theorem dX10_sheet_15 : decode cX10_sheet 15 = .ok (.ireturn, 1) := by decide +kernel
theorem dX10_sheet_16 : decode cX10_sheet 16 = .ok (.iload_n 3, 1) := by decide +kernel
theorem dX10_sheet_17 : decode cX10_sheet 17 = .ok (.ifCond .ge 6, 3) := by decide +kernel
theorem dX10_sheet_20 : decode cX10_sheet 20 = .ok (.bipush (-14), 2) := by decide +kernel
theorem dX10_sheet_22 : decode cX10_sheet 22 = .ok (.ireturn, 1) := by decide +kernel
theorem dX10_sheet_23 : decode cX10_sheet 23 = .ok (.aload_n 0, 1) := by decide +kernel
theorem dX10_sheet_24 : decode cX10_sheet 24 = .ok (.getfield 62, 3) := by decide +kernel
theorem dX10_sheet_27 : decode cX10_sheet 27 = .ok (.iload_n 1, 1) := by decide +kernel
theorem dX10_sheet_28 : decode cX10_sheet 28 = .ok (.iload_n 2, 1) := by decide +kernel
theorem dX10_sheet_29 : decode cX10_sheet 29 = .ok (.iastore, 1) := by decide +kernel
theorem dX10_sheet_30 : decode cX10_sheet 30 = .ok (.aload_n 0, 1) := by decide +kernel
theorem dX10_sheet_31 : decode cX10_sheet 31 = .ok (.getfield 65, 3) := by decide +kernel
theorem dX10_sheet_34 : decode cX10_sheet 34 = .ok (.iload_n 1, 1) := by decide +kernel
theorem dX10_sheet_35 : decode cX10_sheet 35 = .ok (.iload_n 3, 1) := by decide +kernel
theorem dX10_sheet_36 : decode cX10_sheet 36 = .ok (.iastore, 1) := by decide +kernel
theorem dX10_sheet_37 : decode cX10_sheet 37 = .ok (.iconst 0, 1) := by decide +kernel
theorem dX10_sheet_38 : decode cX10_sheet 38 = .ok (.istore 4, 2) := by decide +kernel
theorem dX10_sheet_40 : decode cX10_sheet 40 = .ok (.iload 4, 2) := by decide +kernel
theorem dX10_sheet_42 : decode cX10_sheet 42 = .ok (.bipush 40, 2) := by decide +kernel
theorem dX10_sheet_44 : decode cX10_sheet 44 = .ok (.if_icmp .ge 22, 3) := by decide +kernel
theorem dX10_sheet_47 : decode cX10_sheet 47 = .ok (.aload_n 0, 1) := by decide +kernel
theorem dX10_sheet_48 : decode cX10_sheet 48 = .ok (.getfield 68, 3) := by decide +kernel
theorem dX10_sheet_51 : decode cX10_sheet 51 = .ok (.bipush 40, 2) := by decide +kernel
theorem dX10_sheet_53 : decode cX10_sheet 53 = .ok (.iload_n 1, 1) := by decide +kernel
theorem dX10_sheet_54 : decode cX10_sheet 54 = .ok (.imul, 1) := by decide +kernel
theorem dX10_sheet_55 : decode cX10_sheet 55 = .ok (.iload 4, 2) := by decide +kernel
theorem dX10_sheet_57 : decode cX10_sheet 57 = .ok (.iadd, 1) := by decide +kernel
theorem dX10_sheet_58 : decode cX10_sheet 58 = .ok (.iconst 0, 1) := by decide +kernel
theorem dX10_sheet_59 : decode cX10_sheet 59 = .ok (.iastore, 1) := by decide +kernel
theorem dX10_sheet_60 : decode cX10_sheet 60 = .ok (.iinc 4 1, 3) := by decide +kernel
theorem dX10_sheet_63 : decode cX10_sheet 63 = .ok (.goto (-23), 3) := by decide +kernel
theorem dX10_sheet_66 : decode cX10_sheet 66 = .ok (.iconst 1, 1) := by decide +kernel
theorem dX10_sheet_67 : decode cX10_sheet 67 = .ok (.ireturn, 1) := by decide +kernel
theorem dX10_lay_0 : decode cX10_lay 0 = .ok (.iload_n 1, 1) := by decide +kernel
theorem dX10_lay_1 : decode cX10_lay 1 = .ok (.iconst 0, 1) := by decide +kernel
theorem dX10_lay_2 : decode cX10_lay 2 = .ok (.invokestatic 344, 3) := by decide +kernel
theorem dX10_lay_5 : decode cX10_lay 5 = .ok (.ifCond .ne 5, 3) := by decide +kernel
theorem dX10_lay_8 : decode cX10_lay 8 = .ok (.iconst (-1), 1) := by decide +kernel
theorem dX10_lay_9 : decode cX10_lay 9 = .ok (.ireturn, 1) := by decide +kernel
theorem dX10_lay_10 : decode cX10_lay 10 = .ok (.aload_n 0, 1) := by decide +kernel
theorem dX10_lay_11 : decode cX10_lay 11 = .ok (.getfield 62, 3) := by decide +kernel
theorem dX10_lay_14 : decode cX10_lay 14 = .ok (.iload_n 1, 1) := by decide +kernel
theorem dX10_lay_15 : decode cX10_lay 15 = .ok (.iaload, 1) := by decide +kernel
theorem dX10_lay_16 : decode cX10_lay 16 = .ok (.bipush (-4), 2) := by decide +kernel
theorem dX10_lay_18 : decode cX10_lay 18 = .ok (.if_icmp .ne 6, 3) := by decide +kernel
theorem dX10_lay_21 : decode cX10_lay 21 = .ok (.bipush (-11), 2) := by decide +kernel
theorem dX10_lay_23 : decode cX10_lay 23 = .ok (.ireturn, 1) := by decide +kernel
theorem dX10_lay_24 : decode cX10_lay 24 = .ok (.iload_n 2, 1) := by decide +kernel
theorem dX10_lay_25 : decode cX10_lay 25 = .ok (.i2l, 1) := by decide +kernel
theorem dX10_lay_26 : decode cX10_lay 26 = .ok (.lconst 0, 1) := by decide +kernel
theorem dX10_lay_27 : decode cX10_lay 27 = .ok (.aload_n 0, 1) := by decide +kernel
theorem dX10_lay_28 : decode cX10_lay 28 = .ok (.getfield 65, 3) := by decide +kernel
theorem dX10_lay_31 : decode cX10_lay 31 = .ok (.iload_n 1, 1) := by decide +kernel
theorem dX10_lay_32 : decode cX10_lay 32 = .ok (.iaload, 1) := by decide +kernel
theorem dX10_lay_33 : decode cX10_lay 33 = .ok (.iconst 1, 1) := by decide +kernel
theorem dX10_lay_34 : decode cX10_lay 34 = .ok (.isub, 1) := by decide +kernel
theorem dX10_lay_35 : decode cX10_lay 35 = .ok (.i2l, 1) := by decide +kernel
theorem dX10_lay_36 : decode cX10_lay 36 = .ok (.invokestatic 108, 3) := by decide +kernel
theorem dX10_lay_39 : decode cX10_lay 39 = .ok (.ifCond .ne 6, 3) := by decide +kernel
theorem dX10_lay_42 : decode cX10_lay 42 = .ok (.bipush (-12), 2) := by decide +kernel
theorem dX10_lay_44 : decode cX10_lay 44 = .ok (.ireturn, 1) := by decide +kernel
theorem dX10_lay_45 : decode cX10_lay 45 = .ok (.aload_n 0, 1) := by decide +kernel
theorem dX10_lay_46 : decode cX10_lay 46 = .ok (.getfield 68, 3) := by decide +kernel
theorem dX10_lay_49 : decode cX10_lay 49 = .ok (.bipush 40, 2) := by decide +kernel
theorem dX10_lay_51 : decode cX10_lay 51 = .ok (.iload_n 1, 1) := by decide +kernel
theorem dX10_lay_52 : decode cX10_lay 52 = .ok (.imul, 1) := by decide +kernel
theorem dX10_lay_53 : decode cX10_lay 53 = .ok (.iload_n 2, 1) := by decide +kernel
theorem dX10_lay_54 : decode cX10_lay 54 = .ok (.iadd, 1) := by decide +kernel
theorem dX10_lay_55 : decode cX10_lay 55 = .ok (.aload_n 0, 1) := by decide +kernel
theorem dX10_lay_56 : decode cX10_lay 56 = .ok (.getfield 62, 3) := by decide +kernel
theorem dX10_lay_59 : decode cX10_lay 59 = .ok (.iload_n 1, 1) := by decide +kernel
theorem dX10_lay_60 : decode cX10_lay 60 = .ok (.iaload, 1) := by decide +kernel
theorem dX10_lay_61 : decode cX10_lay 61 = .ok (.ifCond .ne 8, 3) := by decide +kernel
theorem dX10_lay_64 : decode cX10_lay 64 = .ok (.iload_n 3, 1) := by decide +kernel
theorem dX10_lay_65 : decode cX10_lay 65 = .ok (.i2b, 1) := by decide +kernel
theorem dX10_lay_66 : decode cX10_lay 66 = .ok (.goto 19, 3) := by decide +kernel
theorem dX10_lay_69 : decode cX10_lay 69 = .ok (.aload_n 0, 1) := by decide +kernel
theorem dX10_lay_70 : decode cX10_lay 70 = .ok (.getfield 62, 3) := by decide +kernel
theorem dX10_lay_73 : decode cX10_lay 73 = .ok (.iload_n 1, 1) := by decide +kernel
theorem dX10_lay_74 : decode cX10_lay 74 = .ok (.iaload, 1) := by decide +kernel
theorem dX10_lay_75 : decode cX10_lay 75 = .ok (.iconst 1, 1) := by decide +kernel
theorem dX10_lay_76 : decode cX10_lay 76 = .ok (.if_icmp .ne 8, 3) := by decide +kernel
theorem dX10_lay_79 : decode cX10_lay 79 = .ok (.iload_n 3, 1) := by decide +kernel
theorem dX10_lay_80 : decode cX10_lay 80 = .ok (.i2s, 1) := by decide +kernel
theorem dX10_lay_81 : decode cX10_lay 81 = .ok (.goto 4, 3) := by decide +kernel
theorem dX10_lay_84 : decode cX10_lay 84 = .ok (.iload_n 3, 1) := by decide +kernel
theorem dX10_lay_85 : decode cX10_lay 85 = .ok (.iastore, 1) := by decide +kernel
theorem dX10_lay_86 : decode cX10_lay 86 = .ok (.iconst 1, 1) := by decide +kernel
theorem dX10_lay_87 : decode cX10_lay 87 = .ok (.ireturn, 1) := by decide +kernel
theorem dX10_read_0 : decode cX10_read 0 = .ok (.iload_n 1, 1) := by decide +kernel
theorem dX10_read_1 : decode cX10_read 1 = .ok (.iload_n 2, 1) := by decide +kernel
theorem dX10_read_2 : decode cX10_read 2 = .ok (.invokestatic 344, 3) := by decide +kernel
theorem dX10_read_5 : decode cX10_read 5 = .ok (.ifCond .eq 16, 3) := by decide +kernel
theorem dX10_read_8 : decode cX10_read 8 = .ok (.iload 4, 2) := by decide +kernel
theorem dX10_read_10 : decode cX10_read 10 = .ok (.i2l, 1) := by decide +kernel
theorem dX10_read_11 : decode cX10_read 11 = .ok (.lconst 0, 1) := by decide +kernel
theorem dX10_read_12 : decode cX10_read 12 = .ok (.ldc2_w 348, 3) := by decide +kernel
theorem dX10_read_15 : decode cX10_read 15 = .ok (.invokestatic 108, 3) := by decide +kernel
theorem dX10_read_18 : decode cX10_read 18 = .ok (.ifCond .ne 5, 3) := by decide +kernel
theorem dX10_read_21 : decode cX10_read 21 = .ok (.iconst (-1), 1) := by decide +kernel
theorem dX10_read_22 : decode cX10_read 22 = .ok (.ireturn, 1) := by decide +kernel
theorem dX10_read_23 : decode cX10_read 23 = .ok (.aload_n 0, 1) := by decide +kernel
theorem dX10_read_24 : decode cX10_read 24 = .ok (.getfield 7, 3) := by decide +kernel
theorem dX10_read_27 : decode cX10_read 27 = .ok (.bipush 108, 2) := by decide +kernel
theorem dX10_read_29 : decode cX10_read 29 = .ok (.iaload, 1) := by decide +kernel
theorem dX10_read_30 : decode cX10_read 30 = .ok (.istore 5, 2) := by decide +kernel
theorem dX10_read_32 : decode cX10_read 32 = .ok (.iconst 0, 1) := by decide +kernel
theorem dX10_read_33 : decode cX10_read 33 = .ok (.istore 6, 2) := by decide +kernel
theorem dX10_read_35 : decode cX10_read 35 = .ok (.iconst 0, 1) := by decide +kernel
theorem dX10_read_36 : decode cX10_read 36 = .ok (.istore 7, 2) := by decide +kernel
theorem dX10_read_38 : decode cX10_read 38 = .ok (.iconst 0, 1) := by decide +kernel
theorem dX10_read_39 : decode cX10_read 39 = .ok (.istore 8, 2) := by decide +kernel
theorem dX10_read_41 : decode cX10_read 41 = .ok (.iload 8, 2) := by decide +kernel
theorem dX10_read_43 : decode cX10_read 43 = .ok (.iload 4, 2) := by decide +kernel
theorem dX10_read_45 : decode cX10_read 45 = .ok (.if_icmp .ge 190, 3) := by decide +kernel
theorem dX10_read_48 : decode cX10_read 48 = .ok (.iload 6, 2) := by decide +kernel
theorem dX10_read_50 : decode cX10_read 50 = .ok (.ifCond .ne 185, 3) := by decide +kernel
theorem dX10_read_53 : decode cX10_read 53 = .ok (.iconst 0, 1) := by decide +kernel
theorem dX10_read_54 : decode cX10_read 54 = .ok (.istore 9, 2) := by decide +kernel
theorem dX10_read_56 : decode cX10_read 56 = .ok (.iload 9, 2) := by decide +kernel
theorem dX10_read_58 : decode cX10_read 58 = .ok (.iconst 2, 1) := by decide +kernel
theorem dX10_read_59 : decode cX10_read 59 = .ok (.if_icmp .ge 84, 3) := by decide +kernel
theorem dX10_read_62 : decode cX10_read 62 = .ok (.iload 6, 2) := by decide +kernel
theorem dX10_read_64 : decode cX10_read 64 = .ok (.ifCond .ne 79, 3) := by decide +kernel
theorem dX10_read_67 : decode cX10_read 67 = .ok (.iload_n 3, 1) := by decide +kernel
theorem dX10_read_68 : decode cX10_read 68 = .ok (.i2l, 1) := by decide +kernel
theorem dX10_read_69 : decode cX10_read 69 = .ok (.iconst 2, 1) := by decide +kernel
theorem dX10_read_70 : decode cX10_read 70 = .ok (.iload 8, 2) := by decide +kernel
theorem dX10_read_72 : decode cX10_read 72 = .ok (.imul, 1) := by decide +kernel
theorem dX10_read_73 : decode cX10_read 73 = .ok (.i2l, 1) := by decide +kernel
theorem dX10_read_74 : decode cX10_read 74 = .ok (.ladd, 1) := by decide +kernel
theorem dX10_read_75 : decode cX10_read 75 = .ok (.iload 9, 2) := by decide +kernel
theorem dX10_read_77 : decode cX10_read 77 = .ok (.i2l, 1) := by decide +kernel
theorem dX10_read_78 : decode cX10_read 78 = .ok (.ladd, 1) := by decide +kernel
theorem dX10_read_79 : decode cX10_read 79 = .ok (.lstore 10, 2) := by decide +kernel
theorem dX10_read_81 : decode cX10_read 81 = .ok (.aload_n 0, 1) := by decide +kernel
theorem dX10_read_82 : decode cX10_read 82 = .ok (.getfield 62, 3) := by decide +kernel
theorem dX10_read_85 : decode cX10_read 85 = .ok (.iload_n 1, 1) := by decide +kernel
theorem dX10_read_86 : decode cX10_read 86 = .ok (.iaload, 1) := by decide +kernel
theorem dX10_read_87 : decode cX10_read 87 = .ok (.bipush (-4), 2) := by decide +kernel
theorem dX10_read_89 : decode cX10_read 89 = .ok (.if_icmp .ne 7, 3) := by decide +kernel
theorem dX10_read_92 : decode cX10_read 92 = .ok (.iconst 1, 1) := by decide +kernel
theorem dX10_read_93 : decode cX10_read 93 = .ok (.goto 42, 3) := by decide +kernel
theorem dX10_read_96 : decode cX10_read 96 = .ok (.aload_n 0, 1) := by decide +kernel
theorem dX10_read_97 : decode cX10_read 97 = .ok (.getfield 62, 3) := by decide +kernel
theorem dX10_read_100 : decode cX10_read 100 = .ok (.iload_n 1, 1) := by decide +kernel
theorem dX10_read_101 : decode cX10_read 101 = .ok (.iaload, 1) := by decide +kernel
theorem dX10_read_102 : decode cX10_read 102 = .ok (.iload_n 2, 1) := by decide +kernel
theorem dX10_read_103 : decode cX10_read 103 = .ok (.if_icmp .eq 7, 3) := by decide +kernel
theorem dX10_read_106 : decode cX10_read 106 = .ok (.iconst 3, 1) := by decide +kernel
theorem dX10_read_107 : decode cX10_read 107 = .ok (.goto 28, 3) := by decide +kernel
theorem dX10_read_110 : decode cX10_read 110 = .ok (.lload 10, 2) := by decide +kernel
theorem dX10_read_112 : decode cX10_read 112 = .ok (.lconst 0, 1) := by decide +kernel
theorem dX10_read_113 : decode cX10_read 113 = .ok (.lcmp, 1) := by decide +kernel
theorem dX10_read_114 : decode cX10_read 114 = .ok (.ifCond .lt 16, 3) := by decide +kernel
theorem dX10_read_117 : decode cX10_read 117 = .ok (.lload 10, 2) := by decide +kernel
theorem dX10_read_119 : decode cX10_read 119 = .ok (.aload_n 0, 1) := by decide +kernel
theorem dX10_read_120 : decode cX10_read 120 = .ok (.getfield 65, 3) := by decide +kernel
theorem dX10_read_123 : decode cX10_read 123 = .ok (.iload_n 1, 1) := by decide +kernel
theorem dX10_read_124 : decode cX10_read 124 = .ok (.iaload, 1) := by decide +kernel
theorem dX10_read_125 : decode cX10_read 125 = .ok (.i2l, 1) := by decide +kernel
theorem dX10_read_126 : decode cX10_read 126 = .ok (.lcmp, 1) := by decide +kernel
theorem dX10_read_127 : decode cX10_read 127 = .ok (.ifCond .lt 7, 3) := by decide +kernel
theorem dX10_read_130 : decode cX10_read 130 = .ok (.iconst 2, 1) := by decide +kernel
theorem dX10_read_131 : decode cX10_read 131 = .ok (.goto 4, 3) := by decide +kernel
theorem dX10_read_134 : decode cX10_read 134 = .ok (.iconst 0, 1) := by decide +kernel
theorem dX10_read_135 : decode cX10_read 135 = .ok (.istore 6, 2) := by decide +kernel
theorem dX10_read_137 : decode cX10_read 137 = .ok (.iinc 9 1, 3) := by decide +kernel
theorem dX10_read_140 : decode cX10_read 140 = .ok (.goto (-84), 3) := by decide +kernel
theorem dX10_read_143 : decode cX10_read 143 = .ok (.iload 6, 2) := by decide +kernel
theorem dX10_read_145 : decode cX10_read 145 = .ok (.ifCond .ne 84, 3) := by decide +kernel
theorem dX10_read_148 : decode cX10_read 148 = .ok (.bipush 40, 2) := by decide +kernel
theorem dX10_read_150 : decode cX10_read 150 = .ok (.iload_n 1, 1) := by decide +kernel
theorem dX10_read_151 : decode cX10_read 151 = .ok (.imul, 1) := by decide +kernel
theorem dX10_read_152 : decode cX10_read 152 = .ok (.iload_n 3, 1) := by decide +kernel
theorem dX10_read_153 : decode cX10_read 153 = .ok (.iadd, 1) := by decide +kernel
theorem dX10_read_154 : decode cX10_read 154 = .ok (.iconst 2, 1) := by decide +kernel
theorem dX10_read_155 : decode cX10_read 155 = .ok (.iload 8, 2) := by decide +kernel
theorem dX10_read_157 : decode cX10_read 157 = .ok (.imul, 1) := by decide +kernel
theorem dX10_read_158 : decode cX10_read 158 = .ok (.iadd, 1) := by decide +kernel
theorem dX10_read_159 : decode cX10_read 159 = .ok (.istore 9, 2) := by decide +kernel
theorem dX10_read_161 : decode cX10_read 161 = .ok (.aload_n 0, 1) := by decide +kernel
theorem dX10_read_162 : decode cX10_read 162 = .ok (.getfield 68, 3) := by decide +kernel
theorem dX10_read_165 : decode cX10_read 165 = .ok (.iload 9, 2) := by decide +kernel
theorem dX10_read_167 : decode cX10_read 167 = .ok (.iconst 1, 1) := by decide +kernel
theorem dX10_read_168 : decode cX10_read 168 = .ok (.iadd, 1) := by decide +kernel
theorem dX10_read_169 : decode cX10_read 169 = .ok (.iaload, 1) := by decide +kernel
theorem dX10_read_170 : decode cX10_read 170 = .ok (.i2l, 1) := by decide +kernel
theorem dX10_read_171 : decode cX10_read 171 = .ok (.lconst 0, 1) := by decide +kernel
theorem dX10_read_172 : decode cX10_read 172 = .ok (.lconst 1, 1) := by decide +kernel
theorem dX10_read_173 : decode cX10_read 173 = .ok (.invokestatic 108, 3) := by decide +kernel
theorem dX10_read_176 : decode cX10_read 176 = .ok (.ifCond .eq 35, 3) := by decide +kernel
theorem dX10_read_179 : decode cX10_read 179 = .ok (.aload_n 0, 1) := by decide +kernel
theorem dX10_read_180 : decode cX10_read 180 = .ok (.aload_n 0, 1) := by decide +kernel
theorem dX10_read_181 : decode cX10_read 181 = .ok (.getfield 68, 3) := by decide +kernel
theorem dX10_read_184 : decode cX10_read 184 = .ok (.iload 9, 2) := by decide +kernel
theorem dX10_read_186 : decode cX10_read 186 = .ok (.iaload, 1) := by decide +kernel
theorem dX10_read_187 : decode cX10_read 187 = .ok (.aload_n 0, 1) := by decide +kernel
theorem dX10_read_188 : decode cX10_read 188 = .ok (.getfield 68, 3) := by decide +kernel
theorem dX10_read_191 : decode cX10_read 191 = .ok (.iload 9, 2) := by decide +kernel
theorem dX10_read_193 : decode cX10_read 193 = .ok (.iconst 1, 1) := by decide +kernel
theorem dX10_read_194 : decode cX10_read 194 = .ok (.iadd, 1) := by decide +kernel
theorem dX10_read_195 : decode cX10_read 195 = .ok (.iaload, 1) := by decide +kernel
theorem dX10_read_196 : decode cX10_read 196 = .ok (.iconst 1, 1) := by decide +kernel
theorem dX10_read_197 : decode cX10_read 197 = .ok (.if_icmp .ne 7, 3) := by decide +kernel
theorem dX10_read_200 : decode cX10_read 200 = .ok (.iconst 1, 1) := by decide +kernel
theorem dX10_read_201 : decode cX10_read 201 = .ok (.goto 4, 3) := by decide +kernel
theorem dX10_read_204 : decode cX10_read 204 = .ok (.iconst 0, 1) := by decide +kernel
theorem dX10_read_205 : decode cX10_read 205 = .ok (.invokevirtual 350, 3) := by decide +kernel
theorem dX10_read_208 : decode cX10_read 208 = .ok (.ifCond .ge 18, 3) := by decide +kernel
theorem dX10_read_211 : decode cX10_read 211 = .ok (.aload_n 0, 1) := by decide +kernel
theorem dX10_read_212 : decode cX10_read 212 = .ok (.getfield 7, 3) := by decide +kernel
theorem dX10_read_215 : decode cX10_read 215 = .ok (.bipush 108, 2) := by decide +kernel
theorem dX10_read_217 : decode cX10_read 217 = .ok (.iload 5, 2) := by decide +kernel
theorem dX10_read_219 : decode cX10_read 219 = .ok (.iastore, 1) := by decide +kernel
theorem dX10_read_220 : decode cX10_read 220 = .ok (.bipush (-20), 2) := by decide +kernel
theorem dX10_read_222 : decode cX10_read 222 = .ok (.iload 8, 2) := by decide +kernel
theorem dX10_read_224 : decode cX10_read 224 = .ok (.isub, 1) := by decide +kernel
theorem dX10_read_225 : decode cX10_read 225 = .ok (.ireturn, 1) := by decide +kernel
theorem dX10_read_226 : decode cX10_read 226 = .ok (.iinc 7 1, 3) := by decide +kernel
theorem dX10_read_229 : decode cX10_read 229 = .ok (.iinc 8 1, 3) := by decide +kernel
theorem dX10_read_232 : decode cX10_read 232 = .ok (.goto (-191), 3) := by decide +kernel
theorem dX10_read_235 : decode cX10_read 235 = .ok (.aload_n 0, 1) := by decide +kernel
theorem dX10_read_236 : decode cX10_read 236 = .ok (.iload 6, 2) := by decide +kernel
theorem dX10_read_238 : decode cX10_read 238 = .ok (.putfield 354, 3) := by decide +kernel
theorem dX10_read_241 : decode cX10_read 241 = .ok (.iload 7, 2) := by decide +kernel
theorem dX10_read_243 : decode cX10_read 243 = .ok (.ireturn, 1) := by decide +kernel
theorem dX10_torn_0 : decode cX10_torn 0 = .ok (.aload_n 0, 1) := by decide +kernel
theorem dX10_torn_1 : decode cX10_torn 1 = .ok (.getfield 354, 3) := by decide +kernel
theorem dX10_torn_4 : decode cX10_torn 4 = .ok (.ireturn, 1) := by decide +kernel
theorem dX10_count_0 : decode cX10_count 0 = .ok (.iload_n 1, 1) := by decide +kernel
theorem dX10_count_1 : decode cX10_count 1 = .ok (.tableswitch 99 0 4 #[35, 43, 51, 71, 76], 35) := by decide +kernel
theorem dX10_count_36 : decode cX10_count 36 = .ok (.aload_n 0, 1) := by decide +kernel
theorem dX10_count_37 : decode cX10_count 37 = .ok (.invokevirtual 242, 3) := by decide +kernel
theorem dX10_count_40 : decode cX10_count 40 = .ok (.invokestatic 284, 3) := by decide +kernel
theorem dX10_count_43 : decode cX10_count 43 = .ok (.ireturn, 1) := by decide +kernel
theorem dX10_count_44 : decode cX10_count 44 = .ok (.aload_n 0, 1) := by decide +kernel
theorem dX10_count_45 : decode cX10_count 45 = .ok (.getfield 7, 3) := by decide +kernel
theorem dX10_count_48 : decode cX10_count 48 = .ok (.bipush 108, 2) := by decide +kernel
theorem dX10_count_50 : decode cX10_count 50 = .ok (.iaload, 1) := by decide +kernel
theorem dX10_count_51 : decode cX10_count 51 = .ok (.ireturn, 1) := by decide +kernel
theorem dX10_count_52 : decode cX10_count 52 = .ok (.aload_n 0, 1) := by decide +kernel
theorem dX10_count_53 : decode cX10_count 53 = .ok (.getfield 13, 3) := by decide +kernel
theorem dX10_count_56 : decode cX10_count 56 = .ok (.iconst 0, 1) := by decide +kernel
theorem dX10_count_57 : decode cX10_count 57 = .ok (.baload, 1) := by decide +kernel
theorem dX10_count_58 : decode cX10_count 58 = .ok (.invokestatic 218, 3) := by decide +kernel
theorem dX10_count_61 : decode cX10_count 61 = .ok (.aload_n 0, 1) := by decide +kernel
theorem dX10_count_62 : decode cX10_count 62 = .ok (.getfield 13, 3) := by decide +kernel
theorem dX10_count_65 : decode cX10_count 65 = .ok (.iconst 1, 1) := by decide +kernel
theorem dX10_count_66 : decode cX10_count 66 = .ok (.baload, 1) := by decide +kernel
theorem dX10_count_67 : decode cX10_count 67 = .ok (.invokestatic 218, 3) := by decide +kernel
theorem dX10_count_70 : decode cX10_count 70 = .ok (.iadd, 1) := by decide +kernel
theorem dX10_count_71 : decode cX10_count 71 = .ok (.ireturn, 1) := by decide +kernel
theorem dX10_count_72 : decode cX10_count 72 = .ok (.aload_n 0, 1) := by decide +kernel
theorem dX10_count_73 : decode cX10_count 73 = .ok (.getfield 103, 3) := by decide +kernel
theorem dX10_count_76 : decode cX10_count 76 = .ok (.ireturn, 1) := by decide +kernel
theorem dX10_count_77 : decode cX10_count 77 = .ok (.aload_n 0, 1) := by decide +kernel
theorem dX10_count_78 : decode cX10_count 78 = .ok (.getfield 62, 3) := by decide +kernel
theorem dX10_count_81 : decode cX10_count 81 = .ok (.iconst 0, 1) := by decide +kernel
theorem dX10_count_82 : decode cX10_count 82 = .ok (.iaload, 1) := by decide +kernel
theorem dX10_count_83 : decode cX10_count 83 = .ok (.bipush (-4), 2) := by decide +kernel
theorem dX10_count_85 : decode cX10_count 85 = .ok (.if_icmp .ne 8, 3) := by decide +kernel
theorem dX10_count_88 : decode cX10_count 88 = .ok (.bipush (-4), 2) := by decide +kernel
theorem dX10_count_90 : decode cX10_count 90 = .ok (.goto 9, 3) := by decide +kernel
theorem dX10_count_93 : decode cX10_count 93 = .ok (.aload_n 0, 1) := by decide +kernel
theorem dX10_count_94 : decode cX10_count 94 = .ok (.getfield 65, 3) := by decide +kernel
theorem dX10_count_97 : decode cX10_count 97 = .ok (.iconst 0, 1) := by decide +kernel
theorem dX10_count_98 : decode cX10_count 98 = .ok (.iaload, 1) := by decide +kernel
theorem dX10_count_99 : decode cX10_count 99 = .ok (.ireturn, 1) := by decide +kernel
theorem dX10_count_100 : decode cX10_count 100 = .ok (.iconst (-1), 1) := by decide +kernel
theorem dX10_count_101 : decode cX10_count 101 = .ok (.ireturn, 1) := by decide +kernel
theorem dJ6_numberOfTrailingZeros_0f7a4_0 : decode cJ6_numberOfTrailingZeros_0f7a4 0 = .ok (.iload_n 0, 1) := by decide +kernel
theorem dJ6_numberOfTrailingZeros_0f7a4_1 : decode cJ6_numberOfTrailingZeros_0f7a4 1 = .ok (.iconst (-1), 1) := by decide +kernel
theorem dJ6_numberOfTrailingZeros_0f7a4_2 : decode cJ6_numberOfTrailingZeros_0f7a4 2 = .ok (.ixor, 1) := by decide +kernel
theorem dJ6_numberOfTrailingZeros_0f7a4_3 : decode cJ6_numberOfTrailingZeros_0f7a4 3 = .ok (.iload_n 0, 1) := by decide +kernel
theorem dJ6_numberOfTrailingZeros_0f7a4_4 : decode cJ6_numberOfTrailingZeros_0f7a4 4 = .ok (.iconst 1, 1) := by decide +kernel
theorem dJ6_numberOfTrailingZeros_0f7a4_5 : decode cJ6_numberOfTrailingZeros_0f7a4 5 = .ok (.isub, 1) := by decide +kernel
theorem dJ6_numberOfTrailingZeros_0f7a4_6 : decode cJ6_numberOfTrailingZeros_0f7a4 6 = .ok (.iand, 1) := by decide +kernel
theorem dJ6_numberOfTrailingZeros_0f7a4_7 : decode cJ6_numberOfTrailingZeros_0f7a4 7 = .ok (.istore_n 0, 1) := by decide +kernel
theorem dJ6_numberOfTrailingZeros_0f7a4_8 : decode cJ6_numberOfTrailingZeros_0f7a4 8 = .ok (.iload_n 0, 1) := by decide +kernel
theorem dJ6_numberOfTrailingZeros_0f7a4_9 : decode cJ6_numberOfTrailingZeros_0f7a4 9 = .ok (.ifCond .gt 8, 3) := by decide +kernel
theorem dJ6_numberOfTrailingZeros_0f7a4_12 : decode cJ6_numberOfTrailingZeros_0f7a4 12 = .ok (.iload_n 0, 1) := by decide +kernel
theorem dJ6_numberOfTrailingZeros_0f7a4_13 : decode cJ6_numberOfTrailingZeros_0f7a4 13 = .ok (.bipush 32, 2) := by decide +kernel
theorem dJ6_numberOfTrailingZeros_0f7a4_15 : decode cJ6_numberOfTrailingZeros_0f7a4 15 = .ok (.iand, 1) := by decide +kernel
theorem dJ6_numberOfTrailingZeros_0f7a4_16 : decode cJ6_numberOfTrailingZeros_0f7a4 16 = .ok (.ireturn, 1) := by decide +kernel
theorem dJ6_numberOfTrailingZeros_0f7a4_17 : decode cJ6_numberOfTrailingZeros_0f7a4 17 = .ok (.iconst 1, 1) := by decide +kernel
theorem dJ6_numberOfTrailingZeros_0f7a4_18 : decode cJ6_numberOfTrailingZeros_0f7a4 18 = .ok (.istore_n 1, 1) := by decide +kernel
theorem dJ6_numberOfTrailingZeros_0f7a4_19 : decode cJ6_numberOfTrailingZeros_0f7a4 19 = .ok (.iload_n 0, 1) := by decide +kernel
theorem dJ6_numberOfTrailingZeros_0f7a4_20 : decode cJ6_numberOfTrailingZeros_0f7a4 20 = .ok (.ldc_w 264, 3) := by decide +kernel
theorem dJ6_numberOfTrailingZeros_0f7a4_23 : decode cJ6_numberOfTrailingZeros_0f7a4 23 = .ok (.if_icmp .le 11, 3) := by decide +kernel
theorem dJ6_numberOfTrailingZeros_0f7a4_26 : decode cJ6_numberOfTrailingZeros_0f7a4 26 = .ok (.iinc 1 16, 3) := by decide +kernel
theorem dJ6_numberOfTrailingZeros_0f7a4_29 : decode cJ6_numberOfTrailingZeros_0f7a4 29 = .ok (.iload_n 0, 1) := by decide +kernel
theorem dJ6_numberOfTrailingZeros_0f7a4_30 : decode cJ6_numberOfTrailingZeros_0f7a4 30 = .ok (.bipush 16, 2) := by decide +kernel
theorem dJ6_numberOfTrailingZeros_0f7a4_32 : decode cJ6_numberOfTrailingZeros_0f7a4 32 = .ok (.iushr, 1) := by decide +kernel
theorem dJ6_numberOfTrailingZeros_0f7a4_33 : decode cJ6_numberOfTrailingZeros_0f7a4 33 = .ok (.istore_n 0, 1) := by decide +kernel
theorem dJ6_numberOfTrailingZeros_0f7a4_34 : decode cJ6_numberOfTrailingZeros_0f7a4 34 = .ok (.iload_n 0, 1) := by decide +kernel
theorem dJ6_numberOfTrailingZeros_0f7a4_35 : decode cJ6_numberOfTrailingZeros_0f7a4 35 = .ok (.sipush 256, 3) := by decide +kernel
theorem dJ6_numberOfTrailingZeros_0f7a4_38 : decode cJ6_numberOfTrailingZeros_0f7a4 38 = .ok (.if_icmp .le 11, 3) := by decide +kernel
theorem dJ6_numberOfTrailingZeros_0f7a4_41 : decode cJ6_numberOfTrailingZeros_0f7a4 41 = .ok (.iinc 1 8, 3) := by decide +kernel
theorem dJ6_numberOfTrailingZeros_0f7a4_44 : decode cJ6_numberOfTrailingZeros_0f7a4 44 = .ok (.iload_n 0, 1) := by decide +kernel
theorem dJ6_numberOfTrailingZeros_0f7a4_45 : decode cJ6_numberOfTrailingZeros_0f7a4 45 = .ok (.bipush 8, 2) := by decide +kernel
theorem dJ6_numberOfTrailingZeros_0f7a4_47 : decode cJ6_numberOfTrailingZeros_0f7a4 47 = .ok (.iushr, 1) := by decide +kernel
theorem dJ6_numberOfTrailingZeros_0f7a4_48 : decode cJ6_numberOfTrailingZeros_0f7a4 48 = .ok (.istore_n 0, 1) := by decide +kernel
theorem dJ6_numberOfTrailingZeros_0f7a4_49 : decode cJ6_numberOfTrailingZeros_0f7a4 49 = .ok (.iload_n 0, 1) := by decide +kernel
theorem dJ6_numberOfTrailingZeros_0f7a4_50 : decode cJ6_numberOfTrailingZeros_0f7a4 50 = .ok (.bipush 16, 2) := by decide +kernel
theorem dJ6_numberOfTrailingZeros_0f7a4_52 : decode cJ6_numberOfTrailingZeros_0f7a4 52 = .ok (.if_icmp .le 10, 3) := by decide +kernel
theorem dJ6_numberOfTrailingZeros_0f7a4_55 : decode cJ6_numberOfTrailingZeros_0f7a4 55 = .ok (.iinc 1 4, 3) := by decide +kernel
theorem dJ6_numberOfTrailingZeros_0f7a4_58 : decode cJ6_numberOfTrailingZeros_0f7a4 58 = .ok (.iload_n 0, 1) := by decide +kernel
theorem dJ6_numberOfTrailingZeros_0f7a4_59 : decode cJ6_numberOfTrailingZeros_0f7a4 59 = .ok (.iconst 4, 1) := by decide +kernel
theorem dJ6_numberOfTrailingZeros_0f7a4_60 : decode cJ6_numberOfTrailingZeros_0f7a4 60 = .ok (.iushr, 1) := by decide +kernel
theorem dJ6_numberOfTrailingZeros_0f7a4_61 : decode cJ6_numberOfTrailingZeros_0f7a4 61 = .ok (.istore_n 0, 1) := by decide +kernel
theorem dJ6_numberOfTrailingZeros_0f7a4_62 : decode cJ6_numberOfTrailingZeros_0f7a4 62 = .ok (.iload_n 0, 1) := by decide +kernel
theorem dJ6_numberOfTrailingZeros_0f7a4_63 : decode cJ6_numberOfTrailingZeros_0f7a4 63 = .ok (.iconst 4, 1) := by decide +kernel
theorem dJ6_numberOfTrailingZeros_0f7a4_64 : decode cJ6_numberOfTrailingZeros_0f7a4 64 = .ok (.if_icmp .le 10, 3) := by decide +kernel
theorem dJ6_numberOfTrailingZeros_0f7a4_67 : decode cJ6_numberOfTrailingZeros_0f7a4 67 = .ok (.iinc 1 2, 3) := by decide +kernel
theorem dJ6_numberOfTrailingZeros_0f7a4_70 : decode cJ6_numberOfTrailingZeros_0f7a4 70 = .ok (.iload_n 0, 1) := by decide +kernel
theorem dJ6_numberOfTrailingZeros_0f7a4_71 : decode cJ6_numberOfTrailingZeros_0f7a4 71 = .ok (.iconst 2, 1) := by decide +kernel
theorem dJ6_numberOfTrailingZeros_0f7a4_72 : decode cJ6_numberOfTrailingZeros_0f7a4 72 = .ok (.iushr, 1) := by decide +kernel
theorem dJ6_numberOfTrailingZeros_0f7a4_73 : decode cJ6_numberOfTrailingZeros_0f7a4 73 = .ok (.istore_n 0, 1) := by decide +kernel
theorem dJ6_numberOfTrailingZeros_0f7a4_74 : decode cJ6_numberOfTrailingZeros_0f7a4 74 = .ok (.iload_n 1, 1) := by decide +kernel
theorem dJ6_numberOfTrailingZeros_0f7a4_75 : decode cJ6_numberOfTrailingZeros_0f7a4 75 = .ok (.iload_n 0, 1) := by decide +kernel
theorem dJ6_numberOfTrailingZeros_0f7a4_76 : decode cJ6_numberOfTrailingZeros_0f7a4 76 = .ok (.iconst 1, 1) := by decide +kernel
theorem dJ6_numberOfTrailingZeros_0f7a4_77 : decode cJ6_numberOfTrailingZeros_0f7a4 77 = .ok (.iushr, 1) := by decide +kernel
theorem dJ6_numberOfTrailingZeros_0f7a4_78 : decode cJ6_numberOfTrailingZeros_0f7a4 78 = .ok (.iadd, 1) := by decide +kernel
theorem dJ6_numberOfTrailingZeros_0f7a4_79 : decode cJ6_numberOfTrailingZeros_0f7a4 79 = .ok (.ireturn, 1) := by decide +kernel
theorem dJ6_bitCount_0f7a4_0 : decode cJ6_bitCount_0f7a4 0 = .ok (.iload_n 0, 1) := by decide +kernel
theorem dJ6_bitCount_0f7a4_1 : decode cJ6_bitCount_0f7a4 1 = .ok (.iload_n 0, 1) := by decide +kernel
theorem dJ6_bitCount_0f7a4_2 : decode cJ6_bitCount_0f7a4 2 = .ok (.iconst 1, 1) := by decide +kernel
theorem dJ6_bitCount_0f7a4_3 : decode cJ6_bitCount_0f7a4 3 = .ok (.iushr, 1) := by decide +kernel
theorem dJ6_bitCount_0f7a4_4 : decode cJ6_bitCount_0f7a4 4 = .ok (.ldc_w 265, 3) := by decide +kernel
theorem dJ6_bitCount_0f7a4_7 : decode cJ6_bitCount_0f7a4 7 = .ok (.iand, 1) := by decide +kernel
theorem dJ6_bitCount_0f7a4_8 : decode cJ6_bitCount_0f7a4 8 = .ok (.isub, 1) := by decide +kernel
theorem dJ6_bitCount_0f7a4_9 : decode cJ6_bitCount_0f7a4 9 = .ok (.istore_n 0, 1) := by decide +kernel
theorem dJ6_bitCount_0f7a4_10 : decode cJ6_bitCount_0f7a4 10 = .ok (.iload_n 0, 1) := by decide +kernel
theorem dJ6_bitCount_0f7a4_11 : decode cJ6_bitCount_0f7a4 11 = .ok (.ldc_w 266, 3) := by decide +kernel
theorem dJ6_bitCount_0f7a4_14 : decode cJ6_bitCount_0f7a4 14 = .ok (.iand, 1) := by decide +kernel
theorem dJ6_bitCount_0f7a4_15 : decode cJ6_bitCount_0f7a4 15 = .ok (.iload_n 0, 1) := by decide +kernel
theorem dJ6_bitCount_0f7a4_16 : decode cJ6_bitCount_0f7a4 16 = .ok (.iconst 2, 1) := by decide +kernel
theorem dJ6_bitCount_0f7a4_17 : decode cJ6_bitCount_0f7a4 17 = .ok (.iushr, 1) := by decide +kernel
theorem dJ6_bitCount_0f7a4_18 : decode cJ6_bitCount_0f7a4 18 = .ok (.ldc_w 266, 3) := by decide +kernel
theorem dJ6_bitCount_0f7a4_21 : decode cJ6_bitCount_0f7a4 21 = .ok (.iand, 1) := by decide +kernel
theorem dJ6_bitCount_0f7a4_22 : decode cJ6_bitCount_0f7a4 22 = .ok (.iadd, 1) := by decide +kernel
theorem dJ6_bitCount_0f7a4_23 : decode cJ6_bitCount_0f7a4 23 = .ok (.istore_n 0, 1) := by decide +kernel
theorem dJ6_bitCount_0f7a4_24 : decode cJ6_bitCount_0f7a4 24 = .ok (.iload_n 0, 1) := by decide +kernel
theorem dJ6_bitCount_0f7a4_25 : decode cJ6_bitCount_0f7a4 25 = .ok (.iload_n 0, 1) := by decide +kernel
theorem dJ6_bitCount_0f7a4_26 : decode cJ6_bitCount_0f7a4 26 = .ok (.iconst 4, 1) := by decide +kernel
theorem dJ6_bitCount_0f7a4_27 : decode cJ6_bitCount_0f7a4 27 = .ok (.iushr, 1) := by decide +kernel
theorem dJ6_bitCount_0f7a4_28 : decode cJ6_bitCount_0f7a4 28 = .ok (.iadd, 1) := by decide +kernel
theorem dJ6_bitCount_0f7a4_29 : decode cJ6_bitCount_0f7a4 29 = .ok (.ldc_w 267, 3) := by decide +kernel
theorem dJ6_bitCount_0f7a4_32 : decode cJ6_bitCount_0f7a4 32 = .ok (.iand, 1) := by decide +kernel
theorem dJ6_bitCount_0f7a4_33 : decode cJ6_bitCount_0f7a4 33 = .ok (.istore_n 0, 1) := by decide +kernel
theorem dJ6_bitCount_0f7a4_34 : decode cJ6_bitCount_0f7a4 34 = .ok (.iload_n 0, 1) := by decide +kernel
theorem dJ6_bitCount_0f7a4_35 : decode cJ6_bitCount_0f7a4 35 = .ok (.iload_n 0, 1) := by decide +kernel
theorem dJ6_bitCount_0f7a4_36 : decode cJ6_bitCount_0f7a4 36 = .ok (.bipush 8, 2) := by decide +kernel
theorem dJ6_bitCount_0f7a4_38 : decode cJ6_bitCount_0f7a4 38 = .ok (.iushr, 1) := by decide +kernel
theorem dJ6_bitCount_0f7a4_39 : decode cJ6_bitCount_0f7a4 39 = .ok (.iadd, 1) := by decide +kernel
theorem dJ6_bitCount_0f7a4_40 : decode cJ6_bitCount_0f7a4 40 = .ok (.istore_n 0, 1) := by decide +kernel
theorem dJ6_bitCount_0f7a4_41 : decode cJ6_bitCount_0f7a4 41 = .ok (.iload_n 0, 1) := by decide +kernel
theorem dJ6_bitCount_0f7a4_42 : decode cJ6_bitCount_0f7a4 42 = .ok (.iload_n 0, 1) := by decide +kernel
theorem dJ6_bitCount_0f7a4_43 : decode cJ6_bitCount_0f7a4 43 = .ok (.bipush 16, 2) := by decide +kernel
theorem dJ6_bitCount_0f7a4_45 : decode cJ6_bitCount_0f7a4 45 = .ok (.iushr, 1) := by decide +kernel
theorem dJ6_bitCount_0f7a4_46 : decode cJ6_bitCount_0f7a4 46 = .ok (.iadd, 1) := by decide +kernel
theorem dJ6_bitCount_0f7a4_47 : decode cJ6_bitCount_0f7a4 47 = .ok (.istore_n 0, 1) := by decide +kernel
theorem dJ6_bitCount_0f7a4_48 : decode cJ6_bitCount_0f7a4 48 = .ok (.iload_n 0, 1) := by decide +kernel
theorem dJ6_bitCount_0f7a4_49 : decode cJ6_bitCount_0f7a4 49 = .ok (.bipush 63, 2) := by decide +kernel
theorem dJ6_bitCount_0f7a4_51 : decode cJ6_bitCount_0f7a4 51 = .ok (.iand, 1) := by decide +kernel
theorem dJ6_bitCount_0f7a4_52 : decode cJ6_bitCount_0f7a4 52 = .ok (.ireturn, 1) := by decide +kernel
theorem dJ0_length_8abf5_0 : decode cJ0_length_8abf5 0 = .ok (.aload_n 0, 1) := by decide +kernel
theorem dJ0_length_8abf5_1 : decode cJ0_length_8abf5 1 = .ok (.getfield 9, 3) := by decide +kernel
theorem dJ0_length_8abf5_4 : decode cJ0_length_8abf5 4 = .ok (.arraylength, 1) := by decide +kernel
theorem dJ0_length_8abf5_5 : decode cJ0_length_8abf5 5 = .ok (.aload_n 0, 1) := by decide +kernel
theorem dJ0_length_8abf5_6 : decode cJ0_length_8abf5 6 = .ok (.invokevirtual 335, 3) := by decide +kernel
theorem dJ0_length_8abf5_9 : decode cJ0_length_8abf5 9 = .ok (.ishr, 1) := by decide +kernel
theorem dJ0_length_8abf5_10 : decode cJ0_length_8abf5 10 = .ok (.ireturn, 1) := by decide +kernel
theorem dJ0_charAt_5068e_0 : decode cJ0_charAt_5068e 0 = .ok (.aload_n 0, 1) := by decide +kernel
theorem dJ0_charAt_5068e_1 : decode cJ0_charAt_5068e 1 = .ok (.invokevirtual 492, 3) := by decide +kernel
theorem dJ0_charAt_5068e_4 : decode cJ0_charAt_5068e 4 = .ok (.ifCond .eq 12, 3) := by decide +kernel
theorem dJ0_charAt_5068e_7 : decode cJ0_charAt_5068e 7 = .ok (.aload_n 0, 1) := by decide +kernel
theorem dJ0_charAt_5068e_8 : decode cJ0_charAt_5068e 8 = .ok (.getfield 9, 3) := by decide +kernel
theorem dJ0_charAt_5068e_11 : decode cJ0_charAt_5068e 11 = .ok (.iload_n 1, 1) := by decide +kernel
theorem dJ0_charAt_5068e_12 : decode cJ0_charAt_5068e 12 = .ok (.invokestatic 495, 3) := by decide +kernel
theorem dJ0_charAt_5068e_15 : decode cJ0_charAt_5068e 15 = .ok (.ireturn, 1) := by decide +kernel
theorem dJ0_charAt_5068e_16 : decode cJ0_charAt_5068e 16 = .ok (.aload_n 0, 1) := by decide +kernel
theorem dJ0_charAt_5068e_17 : decode cJ0_charAt_5068e 17 = .ok (.getfield 9, 3) := by decide +kernel
theorem dJ0_charAt_5068e_20 : decode cJ0_charAt_5068e 20 = .ok (.iload_n 1, 1) := by decide +kernel
theorem dJ0_charAt_5068e_21 : decode cJ0_charAt_5068e 21 = .ok (.invokestatic 498, 3) := by decide +kernel
theorem dJ0_charAt_5068e_24 : decode cJ0_charAt_5068e 24 = .ok (.ireturn, 1) := by decide +kernel
theorem dJ0_coder_7d493_0 : decode cJ0_coder_7d493 0 = .ok (.getstatic 38, 3) := by decide +kernel
theorem dJ0_coder_7d493_3 : decode cJ0_coder_7d493 3 = .ok (.ifCond .eq 10, 3) := by decide +kernel
theorem dJ0_coder_7d493_6 : decode cJ0_coder_7d493 6 = .ok (.aload_n 0, 1) := by decide +kernel
theorem dJ0_coder_7d493_7 : decode cJ0_coder_7d493 7 = .ok (.getfield 15, 3) := by decide +kernel
theorem dJ0_coder_7d493_10 : decode cJ0_coder_7d493 10 = .ok (.goto 4, 3) := by decide +kernel
theorem dJ0_coder_7d493_13 : decode cJ0_coder_7d493 13 = .ok (.iconst 1, 1) := by decide +kernel
theorem dJ0_coder_7d493_14 : decode cJ0_coder_7d493 14 = .ok (.ireturn, 1) := by decide +kernel
theorem dJ0_isLatin1_aae02_0 : decode cJ0_isLatin1_aae02 0 = .ok (.getstatic 38, 3) := by decide +kernel
theorem dJ0_isLatin1_aae02_3 : decode cJ0_isLatin1_aae02 3 = .ok (.ifCond .eq 14, 3) := by decide +kernel
theorem dJ0_isLatin1_aae02_6 : decode cJ0_isLatin1_aae02 6 = .ok (.aload_n 0, 1) := by decide +kernel
theorem dJ0_isLatin1_aae02_7 : decode cJ0_isLatin1_aae02 7 = .ok (.getfield 15, 3) := by decide +kernel
theorem dJ0_isLatin1_aae02_10 : decode cJ0_isLatin1_aae02 10 = .ok (.ifCond .ne 7, 3) := by decide +kernel
theorem dJ0_isLatin1_aae02_13 : decode cJ0_isLatin1_aae02 13 = .ok (.iconst 1, 1) := by decide +kernel
theorem dJ0_isLatin1_aae02_14 : decode cJ0_isLatin1_aae02 14 = .ok (.goto 4, 3) := by decide +kernel
theorem dJ0_isLatin1_aae02_17 : decode cJ0_isLatin1_aae02 17 = .ok (.iconst 0, 1) := by decide +kernel
theorem dJ0_isLatin1_aae02_18 : decode cJ0_isLatin1_aae02 18 = .ok (.ireturn, 1) := by decide +kernel
theorem dJ0_checkIndex_df160_0 : decode cJ0_checkIndex_df160 0 = .ok (.iload_n 0, 1) := by decide +kernel
theorem dJ0_checkIndex_df160_1 : decode cJ0_checkIndex_df160 1 = .ok (.iload_n 1, 1) := by decide +kernel
theorem dJ0_checkIndex_df160_2 : decode cJ0_checkIndex_df160 2 = .ok (.getstatic 1053, 3) := by decide +kernel
theorem dJ0_checkIndex_df160_5 : decode cJ0_checkIndex_df160 5 = .ok (.invokestatic 1059, 3) := by decide +kernel
theorem dJ0_checkIndex_df160_8 : decode cJ0_checkIndex_df160 8 = .ok (.pop, 1) := by decide +kernel
theorem dJ0_checkIndex_df160_9 : decode cJ0_checkIndex_df160 9 = .ok (.return_, 1) := by decide +kernel
theorem dJ1_charAt_3b067_0 : decode cJ1_charAt_3b067 0 = .ok (.iload_n 1, 1) := by decide +kernel
theorem dJ1_charAt_3b067_1 : decode cJ1_charAt_3b067 1 = .ok (.aload_n 0, 1) := by decide +kernel
theorem dJ1_charAt_3b067_2 : decode cJ1_charAt_3b067 2 = .ok (.arraylength, 1) := by decide +kernel
theorem dJ1_charAt_3b067_3 : decode cJ1_charAt_3b067 3 = .ok (.invokestatic 9, 3) := by decide +kernel
theorem dJ1_charAt_3b067_6 : decode cJ1_charAt_3b067 6 = .ok (.aload_n 0, 1) := by decide +kernel
theorem dJ1_charAt_3b067_7 : decode cJ1_charAt_3b067 7 = .ok (.iload_n 1, 1) := by decide +kernel
theorem dJ1_charAt_3b067_8 : decode cJ1_charAt_3b067 8 = .ok (.baload, 1) := by decide +kernel
theorem dJ1_charAt_3b067_9 : decode cJ1_charAt_3b067 9 = .ok (.sipush 255, 3) := by decide +kernel
theorem dJ1_charAt_3b067_12 : decode cJ1_charAt_3b067 12 = .ok (.iand, 1) := by decide +kernel
theorem dJ1_charAt_3b067_13 : decode cJ1_charAt_3b067 13 = .ok (.i2c, 1) := by decide +kernel
theorem dJ1_charAt_3b067_14 : decode cJ1_charAt_3b067 14 = .ok (.ireturn, 1) := by decide +kernel
theorem dJ3_checkIndex_8e157_0 : decode cJ3_checkIndex_8e157 0 = .ok (.iload_n 0, 1) := by decide +kernel
theorem dJ3_checkIndex_8e157_1 : decode cJ3_checkIndex_8e157 1 = .ok (.ifCond .lt 8, 3) := by decide +kernel
theorem dJ3_checkIndex_8e157_4 : decode cJ3_checkIndex_8e157 4 = .ok (.iload_n 0, 1) := by decide +kernel
theorem dJ3_checkIndex_8e157_5 : decode cJ3_checkIndex_8e157 5 = .ok (.iload_n 1, 1) := by decide +kernel
theorem dJ3_checkIndex_8e157_6 : decode cJ3_checkIndex_8e157 6 = .ok (.if_icmp .lt 10, 3) := by decide +kernel
theorem dJ3_checkIndex_8e157_9 : decode cJ3_checkIndex_8e157 9 = .ok (.aload_n 2, 1) := by decide +kernel
theorem dJ3_checkIndex_8e157_10 : decode cJ3_checkIndex_8e157 10 = .ok (.iload_n 0, 1) := by decide +kernel
theorem dJ3_checkIndex_8e157_11 : decode cJ3_checkIndex_8e157 11 = .ok (.iload_n 1, 1) := by decide +kernel
theorem dJ3_checkIndex_8e157_12 : decode cJ3_checkIndex_8e157 12 = .ok (.invokestatic 95, 3) := by decide +kernel
theorem dJ3_checkIndex_8e157_15 : decode cJ3_checkIndex_8e157 15 = .ok (.athrow, 1) := by decide +kernel
theorem dJ3_checkIndex_8e157_16 : decode cJ3_checkIndex_8e157 16 = .ok (.iload_n 0, 1) := by decide +kernel
theorem dJ3_checkIndex_8e157_17 : decode cJ3_checkIndex_8e157 17 = .ok (.ireturn, 1) := by decide +kernel
