theorem dX12_compared_0 : decode cX12_compared 0 = .ok (.aload_n 0, 1) := by decide +kernel
theorem dX12_compared_1 : decode cX12_compared 1 = .ok (.invokevirtual 280, 3) := by decide +kernel
theorem dX12_compared_4 : decode cX12_compared 4 = .ok (.aload_n 0, 1) := by decide +kernel
theorem dX12_compared_5 : decode cX12_compared 5 = .ok (.invokevirtual 218, 3) := by decide +kernel
theorem dX12_compared_8 : decode cX12_compared 8 = .ok (.istore_n 1, 1) := by decide +kernel
theorem dX12_compared_9 : decode cX12_compared 9 = .ok (.iload_n 1, 1) := by decide +kernel
theorem dX12_compared_10 : decode cX12_compared 10 = .ok (.bipush 60, 2) := by decide +kernel
theorem dX12_compared_12 : decode cX12_compared 12 = .ok (.if_icmp .eq 25, 3) := by decide +kernel
theorem dX12_compared_15 : decode cX12_compared 15 = .ok (.iload_n 1, 1) := by decide +kernel
theorem dX12_compared_16 : decode cX12_compared 16 = .ok (.bipush 61, 2) := by decide +kernel
theorem dX12_compared_18 : decode cX12_compared 18 = .ok (.if_icmp .eq 19, 3) := by decide +kernel
theorem dX12_compared_21 : decode cX12_compared 21 = .ok (.iload_n 1, 1) := by decide +kernel
theorem dX12_compared_22 : decode cX12_compared 22 = .ok (.bipush 62, 2) := by decide +kernel
theorem dX12_compared_24 : decode cX12_compared 24 = .ok (.if_icmp .eq 13, 3) := by decide +kernel
theorem dX12_compared_27 : decode cX12_compared 27 = .ok (.aload_n 0, 1) := by decide +kernel
theorem dX12_compared_28 : decode cX12_compared 28 = .ok (.iconst 0, 1) := by decide +kernel
theorem dX12_compared_29 : decode cX12_compared 29 = .ok (.aload_n 0, 1) := by decide +kernel
theorem dX12_compared_30 : decode cX12_compared 30 = .ok (.getfield 215, 3) := by decide +kernel
theorem dX12_compared_33 : decode cX12_compared 33 = .ok (.invokevirtual 251, 3) := by decide +kernel
theorem dX12_compared_36 : decode cX12_compared 36 = .ok (.return_, 1) := by decide +kernel
theorem dX12_compared_37 : decode cX12_compared 37 = .ok (.aload_n 0, 1) := by decide +kernel
theorem dX12_compared_38 : decode cX12_compared 38 = .ok (.aload_n 0, 1) := by decide +kernel
theorem dX12_compared_39 : decode cX12_compared 39 = .ok (.getfield 215, 3) := by decide +kernel
theorem dX12_compared_42 : decode cX12_compared 42 = .ok (.invokevirtual 264, 3) := by decide +kernel
theorem dX12_compared_45 : decode cX12_compared 45 = .ok (.aload_n 0, 1) := by decide +kernel
theorem dX12_compared_46 : decode cX12_compared 46 = .ok (.dup, 1) := by decide +kernel
theorem dX12_compared_47 : decode cX12_compared 47 = .ok (.getfield 215, 3) := by decide +kernel
theorem dX12_compared_50 : decode cX12_compared 50 = .ok (.iconst 1, 1) := by decide +kernel
theorem dX12_compared_51 : decode cX12_compared 51 = .ok (.iadd, 1) := by decide +kernel
theorem dX12_compared_52 : decode cX12_compared 52 = .ok (.putfield 215, 3) := by decide +kernel
theorem dX12_compared_55 : decode cX12_compared 55 = .ok (.iload_n 1, 1) := by decide +kernel
theorem dX12_compared_56 : decode cX12_compared 56 = .ok (.bipush 61, 2) := by decide +kernel
theorem dX12_compared_58 : decode cX12_compared 58 = .ok (.if_icmp .eq 16, 3) := by decide +kernel
theorem dX12_compared_61 : decode cX12_compared 61 = .ok (.aload_n 0, 1) := by decide +kernel
theorem dX12_compared_62 : decode cX12_compared 62 = .ok (.invokevirtual 218, 3) := by decide +kernel
theorem dX12_compared_65 : decode cX12_compared 65 = .ok (.bipush 61, 2) := by decide +kernel
theorem dX12_compared_67 : decode cX12_compared 67 = .ok (.if_icmp .ne 7, 3) := by decide +kernel
theorem dX12_compared_70 : decode cX12_compared 70 = .ok (.iconst 1, 1) := by decide +kernel
theorem dX12_compared_71 : decode cX12_compared 71 = .ok (.goto 4, 3) := by decide +kernel
theorem dX12_compared_74 : decode cX12_compared 74 = .ok (.iconst 0, 1) := by decide +kernel
theorem dX12_compared_75 : decode cX12_compared 75 = .ok (.istore_n 2, 1) := by decide +kernel
theorem dX12_compared_76 : decode cX12_compared 76 = .ok (.aload_n 0, 1) := by decide +kernel
theorem dX12_compared_77 : decode cX12_compared 77 = .ok (.dup, 1) := by decide +kernel
theorem dX12_compared_78 : decode cX12_compared 78 = .ok (.getfield 215, 3) := by decide +kernel
theorem dX12_compared_81 : decode cX12_compared 81 = .ok (.iload_n 2, 1) := by decide +kernel
theorem dX12_compared_82 : decode cX12_compared 82 = .ok (.ifCond .eq 7, 3) := by decide +kernel
theorem dX12_compared_85 : decode cX12_compared 85 = .ok (.iconst 1, 1) := by decide +kernel
theorem dX12_compared_86 : decode cX12_compared 86 = .ok (.goto 4, 3) := by decide +kernel
theorem dX12_compared_89 : decode cX12_compared 89 = .ok (.iconst 0, 1) := by decide +kernel
theorem dX12_compared_90 : decode cX12_compared 90 = .ok (.iadd, 1) := by decide +kernel
theorem dX12_compared_91 : decode cX12_compared 91 = .ok (.putfield 215, 3) := by decide +kernel
theorem dX12_compared_94 : decode cX12_compared 94 = .ok (.aload_n 0, 1) := by decide +kernel
theorem dX12_compared_95 : decode cX12_compared 95 = .ok (.invokevirtual 280, 3) := by decide +kernel
theorem dX12_compared_98 : decode cX12_compared 98 = .ok (.aload_n 0, 1) := by decide +kernel
theorem dX12_compared_99 : decode cX12_compared 99 = .ok (.iload_n 1, 1) := by decide +kernel
theorem dX12_compared_100 : decode cX12_compared 100 = .ok (.bipush 61, 2) := by decide +kernel
theorem dX12_compared_102 : decode cX12_compared 102 = .ok (.if_icmp .ne 8, 3) := by decide +kernel
theorem dX12_compared_105 : decode cX12_compared 105 = .ok (.bipush 6, 2) := by decide +kernel
theorem dX12_compared_107 : decode cX12_compared 107 = .ok (.goto 32, 3) := by decide +kernel
theorem dX12_compared_110 : decode cX12_compared 110 = .ok (.iload_n 1, 1) := by decide +kernel
theorem dX12_compared_111 : decode cX12_compared 111 = .ok (.bipush 60, 2) := by decide +kernel
theorem dX12_compared_113 : decode cX12_compared 113 = .ok (.if_icmp .ne 15, 3) := by decide +kernel
theorem dX12_compared_116 : decode cX12_compared 116 = .ok (.iload_n 2, 1) := by decide +kernel
theorem dX12_compared_117 : decode cX12_compared 117 = .ok (.ifCond .eq 7, 3) := by decide +kernel
theorem dX12_compared_120 : decode cX12_compared 120 = .ok (.iconst 5, 1) := by decide +kernel
theorem dX12_compared_121 : decode cX12_compared 121 = .ok (.goto 18, 3) := by decide +kernel
theorem dX12_compared_124 : decode cX12_compared 124 = .ok (.iconst 4, 1) := by decide +kernel
theorem dX12_compared_125 : decode cX12_compared 125 = .ok (.goto 14, 3) := by decide +kernel
theorem dX12_compared_128 : decode cX12_compared 128 = .ok (.iload_n 2, 1) := by decide +kernel
theorem dX12_compared_129 : decode cX12_compared 129 = .ok (.ifCond .eq 8, 3) := by decide +kernel
theorem dX12_compared_132 : decode cX12_compared 132 = .ok (.bipush 7, 2) := by decide +kernel
theorem dX12_compared_134 : decode cX12_compared 134 = .ok (.goto 5, 3) := by decide +kernel
theorem dX12_compared_137 : decode cX12_compared 137 = .ok (.bipush 8, 2) := by decide +kernel
theorem dX12_compared_139 : decode cX12_compared 139 = .ok (.iconst 0, 1) := by decide +kernel
theorem dX12_compared_140 : decode cX12_compared 140 = .ok (.invokevirtual 267, 3) := by decide +kernel
theorem dX12_compared_143 : decode cX12_compared 143 = .ok (.return_, 1) := by decide +kernel
theorem dX12_top_0 : decode cX12_top 0 = .ok (.aload_n 0, 1) := by decide +kernel
theorem dX12_top_1 : decode cX12_top 1 = .ok (.getfield 283, 3) := by decide +kernel
theorem dX12_top_4 : decode cX12_top 4 = .ok (.ifCond .ne 7, 3) := by decide +kernel
theorem dX12_top_7 : decode cX12_top 7 = .ok (.iconst (-1), 1) := by decide +kernel
theorem dX12_top_8 : decode cX12_top 8 = .ok (.goto 14, 3) := by decide +kernel
theorem dX12_top_11 : decode cX12_top 11 = .ok (.aload_n 0, 1) := by decide +kernel
theorem dX12_top_12 : decode cX12_top 12 = .ok (.getfield 126, 3) := by decide +kernel
theorem dX12_top_15 : decode cX12_top 15 = .ok (.aload_n 0, 1) := by decide +kernel
theorem dX12_top_16 : decode cX12_top 16 = .ok (.getfield 283, 3) := by decide +kernel
theorem dX12_top_19 : decode cX12_top 19 = .ok (.iconst 1, 1) := by decide +kernel
theorem dX12_top_20 : decode cX12_top 20 = .ok (.isub, 1) := by decide +kernel
theorem dX12_top_21 : decode cX12_top 21 = .ok (.iaload, 1) := by decide +kernel
theorem dX12_top_22 : decode cX12_top 22 = .ok (.ireturn, 1) := by decide +kernel
theorem dX12_opens_0 : decode cX12_opens 0 = .ok (.iload_n 1, 1) := by decide +kernel
theorem dX12_opens_1 : decode cX12_opens 1 = .ok (.bipush 9, 2) := by decide +kernel
theorem dX12_opens_3 : decode cX12_opens 3 = .ok (.if_icmp .eq 9, 3) := by decide +kernel
theorem dX12_opens_6 : decode cX12_opens 6 = .ok (.iload_n 1, 1) := by decide +kernel
theorem dX12_opens_7 : decode cX12_opens 7 = .ok (.bipush 12, 2) := by decide +kernel
theorem dX12_opens_9 : decode cX12_opens 9 = .ok (.if_icmp .ne 31, 3) := by decide +kernel
theorem dX12_opens_12 : decode cX12_opens 12 = .ok (.aload_n 0, 1) := by decide +kernel
theorem dX12_opens_13 : decode cX12_opens 13 = .ok (.getfield 286, 3) := by decide +kernel
theorem dX12_opens_16 : decode cX12_opens 16 = .ok (.bipush 10, 2) := by decide +kernel
theorem dX12_opens_18 : decode cX12_opens 18 = .ok (.if_icmp .ne 12, 3) := by decide +kernel
theorem dX12_opens_21 : decode cX12_opens 21 = .ok (.aload_n 0, 1) := by decide +kernel
theorem dX12_opens_22 : decode cX12_opens 22 = .ok (.iconst 2, 1) := by decide +kernel
theorem dX12_opens_23 : decode cX12_opens 23 = .ok (.aload_n 0, 1) := by decide +kernel
theorem dX12_opens_24 : decode cX12_opens 24 = .ok (.getfield 215, 3) := by decide +kernel
theorem dX12_opens_27 : decode cX12_opens 27 = .ok (.invokevirtual 251, 3) := by decide +kernel
theorem dX12_opens_30 : decode cX12_opens 30 = .ok (.aload_n 0, 1) := by decide +kernel
theorem dX12_opens_31 : decode cX12_opens 31 = .ok (.dup, 1) := by decide +kernel
theorem dX12_opens_32 : decode cX12_opens 32 = .ok (.getfield 286, 3) := by decide +kernel
theorem dX12_opens_35 : decode cX12_opens 35 = .ok (.iconst 1, 1) := by decide +kernel
theorem dX12_opens_36 : decode cX12_opens 36 = .ok (.iadd, 1) := by decide +kernel
theorem dX12_opens_37 : decode cX12_opens 37 = .ok (.putfield 286, 3) := by decide +kernel
theorem dX12_opens_40 : decode cX12_opens 40 = .ok (.aload_n 0, 1) := by decide +kernel
theorem dX12_opens_41 : decode cX12_opens 41 = .ok (.getfield 126, 3) := by decide +kernel
theorem dX12_opens_44 : decode cX12_opens 44 = .ok (.aload_n 0, 1) := by decide +kernel
theorem dX12_opens_45 : decode cX12_opens 45 = .ok (.getfield 283, 3) := by decide +kernel
theorem dX12_opens_48 : decode cX12_opens 48 = .ok (.iload_n 1, 1) := by decide +kernel
theorem dX12_opens_49 : decode cX12_opens 49 = .ok (.iastore, 1) := by decide +kernel
theorem dX12_opens_50 : decode cX12_opens 50 = .ok (.aload_n 0, 1) := by decide +kernel
theorem dX12_opens_51 : decode cX12_opens 51 = .ok (.dup, 1) := by decide +kernel
theorem dX12_opens_52 : decode cX12_opens 52 = .ok (.getfield 283, 3) := by decide +kernel
theorem dX12_opens_55 : decode cX12_opens 55 = .ok (.iconst 1, 1) := by decide +kernel
theorem dX12_opens_56 : decode cX12_opens 56 = .ok (.iadd, 1) := by decide +kernel
theorem dX12_opens_57 : decode cX12_opens 57 = .ok (.putfield 283, 3) := by decide +kernel
theorem dX12_opens_60 : decode cX12_opens 60 = .ok (.return_, 1) := by decide +kernel
theorem dX12_answers_0 : decode cX12_answers 0 = .ok (.aload_n 0, 1) := by decide +kernel
theorem dX12_answers_1 : decode cX12_answers 1 = .ok (.invokevirtual 289, 3) := by decide +kernel
theorem dX12_answers_4 : decode cX12_answers 4 = .ok (.iload_n 1, 1) := by decide +kernel
theorem dX12_answers_5 : decode cX12_answers 5 = .ok (.if_icmp .ne 49, 3) := by decide +kernel
theorem dX12_answers_8 : decode cX12_answers 8 = .ok (.aload_n 0, 1) := by decide +kernel
theorem dX12_answers_9 : decode cX12_answers 9 = .ok (.getfield 212, 3) := by decide +kernel
theorem dX12_answers_12 : decode cX12_answers 12 = .ok (.ifCond .ne 42, 3) := by decide +kernel
theorem dX12_answers_15 : decode cX12_answers 15 = .ok (.aload_n 0, 1) := by decide +kernel
theorem dX12_answers_16 : decode cX12_answers 16 = .ok (.iload_n 1, 1) := by decide +kernel
theorem dX12_answers_17 : decode cX12_answers 17 = .ok (.iconst 0, 1) := by decide +kernel
theorem dX12_answers_18 : decode cX12_answers 18 = .ok (.invokevirtual 267, 3) := by decide +kernel
theorem dX12_answers_21 : decode cX12_answers 21 = .ok (.aload_n 0, 1) := by decide +kernel
theorem dX12_answers_22 : decode cX12_answers 22 = .ok (.dup, 1) := by decide +kernel
theorem dX12_answers_23 : decode cX12_answers 23 = .ok (.getfield 283, 3) := by decide +kernel
theorem dX12_answers_26 : decode cX12_answers 26 = .ok (.iconst 1, 1) := by decide +kernel
theorem dX12_answers_27 : decode cX12_answers 27 = .ok (.isub, 1) := by decide +kernel
theorem dX12_answers_28 : decode cX12_answers 28 = .ok (.putfield 283, 3) := by decide +kernel
theorem dX12_answers_31 : decode cX12_answers 31 = .ok (.aload_n 0, 1) := by decide +kernel
theorem dX12_answers_32 : decode cX12_answers 32 = .ok (.dup, 1) := by decide +kernel
theorem dX12_answers_33 : decode cX12_answers 33 = .ok (.getfield 286, 3) := by decide +kernel
theorem dX12_answers_36 : decode cX12_answers 36 = .ok (.iload_n 1, 1) := by decide +kernel
theorem dX12_answers_37 : decode cX12_answers 37 = .ok (.bipush 9, 2) := by decide +kernel
theorem dX12_answers_39 : decode cX12_answers 39 = .ok (.if_icmp .ne 7, 3) := by decide +kernel
theorem dX12_answers_42 : decode cX12_answers 42 = .ok (.iconst 1, 1) := by decide +kernel
theorem dX12_answers_43 : decode cX12_answers 43 = .ok (.goto 4, 3) := by decide +kernel
theorem dX12_answers_46 : decode cX12_answers 46 = .ok (.iconst 0, 1) := by decide +kernel
theorem dX12_answers_47 : decode cX12_answers 47 = .ok (.isub, 1) := by decide +kernel
theorem dX12_answers_48 : decode cX12_answers 48 = .ok (.putfield 286, 3) := by decide +kernel
theorem dX12_answers_51 : decode cX12_answers 51 = .ok (.goto (-51), 3) := by decide +kernel
theorem dX12_answers_54 : decode cX12_answers 54 = .ok (.return_, 1) := by decide +kernel
theorem dX12_fact_0 : decode cX12_fact 0 = .ok (.aload_n 0, 1) := by decide +kernel
theorem dX12_fact_1 : decode cX12_fact 1 = .ok (.invokevirtual 235, 3) := by decide +kernel
theorem dX12_fact_4 : decode cX12_fact 4 = .ok (.aload_n 0, 1) := by decide +kernel
theorem dX12_fact_5 : decode cX12_fact 5 = .ok (.ldc_w 292, 3) := by decide +kernel
theorem dX12_fact_8 : decode cX12_fact 8 = .ok (.invokevirtual 238, 3) := by decide +kernel
theorem dX12_fact_11 : decode cX12_fact 11 = .ok (.ifCond .eq 21, 3) := by decide +kernel
theorem dX12_fact_14 : decode cX12_fact 14 = .ok (.aload_n 0, 1) := by decide +kernel
theorem dX12_fact_15 : decode cX12_fact 15 = .ok (.bipush 9, 2) := by decide +kernel
theorem dX12_fact_17 : decode cX12_fact 17 = .ok (.invokevirtual 294, 3) := by decide +kernel
theorem dX12_fact_20 : decode cX12_fact 20 = .ok (.aload_n 0, 1) := by decide +kernel
theorem dX12_fact_21 : decode cX12_fact 21 = .ok (.dup, 1) := by decide +kernel
theorem dX12_fact_22 : decode cX12_fact 22 = .ok (.getfield 215, 3) := by decide +kernel
theorem dX12_fact_25 : decode cX12_fact 25 = .ok (.iconst 3, 1) := by decide +kernel
theorem dX12_fact_26 : decode cX12_fact 26 = .ok (.iadd, 1) := by decide +kernel
theorem dX12_fact_27 : decode cX12_fact 27 = .ok (.putfield 215, 3) := by decide +kernel
theorem dX12_fact_30 : decode cX12_fact 30 = .ok (.iconst 0, 1) := by decide +kernel
theorem dX12_fact_31 : decode cX12_fact 31 = .ok (.ireturn, 1) := by decide +kernel
theorem dX12_fact_32 : decode cX12_fact 32 = .ok (.aload_n 0, 1) := by decide +kernel
theorem dX12_fact_33 : decode cX12_fact 33 = .ok (.invokevirtual 218, 3) := by decide +kernel
theorem dX12_fact_36 : decode cX12_fact 36 = .ok (.bipush 91, 2) := by decide +kernel
theorem dX12_fact_38 : decode cX12_fact 38 = .ok (.if_icmp .ne 21, 3) := by decide +kernel
theorem dX12_fact_41 : decode cX12_fact 41 = .ok (.aload_n 0, 1) := by decide +kernel
theorem dX12_fact_42 : decode cX12_fact 42 = .ok (.bipush 12, 2) := by decide +kernel
theorem dX12_fact_44 : decode cX12_fact 44 = .ok (.invokevirtual 294, 3) := by decide +kernel
theorem dX12_fact_47 : decode cX12_fact 47 = .ok (.aload_n 0, 1) := by decide +kernel
theorem dX12_fact_48 : decode cX12_fact 48 = .ok (.dup, 1) := by decide +kernel
theorem dX12_fact_49 : decode cX12_fact 49 = .ok (.getfield 215, 3) := by decide +kernel
theorem dX12_fact_52 : decode cX12_fact 52 = .ok (.iconst 1, 1) := by decide +kernel
theorem dX12_fact_53 : decode cX12_fact 53 = .ok (.iadd, 1) := by decide +kernel
theorem dX12_fact_54 : decode cX12_fact 54 = .ok (.putfield 215, 3) := by decide +kernel
theorem dX12_fact_57 : decode cX12_fact 57 = .ok (.iconst 0, 1) := by decide +kernel
theorem dX12_fact_58 : decode cX12_fact 58 = .ok (.ireturn, 1) := by decide +kernel
theorem dX12_fact_59 : decode cX12_fact 59 = .ok (.aload_n 0, 1) := by decide +kernel
theorem dX12_fact_60 : decode cX12_fact 60 = .ok (.invokevirtual 297, 3) := by decide +kernel
theorem dX12_fact_63 : decode cX12_fact 63 = .ok (.iconst 1, 1) := by decide +kernel
theorem dX12_fact_64 : decode cX12_fact 64 = .ok (.ireturn, 1) := by decide +kernel
theorem dX12_test_0 : decode cX12_test 0 = .ok (.aload_n 0, 1) := by decide +kernel
theorem dX12_test_1 : decode cX12_test 1 = .ok (.iconst 0, 1) := by decide +kernel
theorem dX12_test_2 : decode cX12_test 2 = .ok (.putfield 283, 3) := by decide +kernel
theorem dX12_test_5 : decode cX12_test 5 = .ok (.iconst 1, 1) := by decide +kernel
theorem dX12_test_6 : decode cX12_test 6 = .ok (.istore_n 1, 1) := by decide +kernel
theorem dX12_test_7 : decode cX12_test 7 = .ok (.iconst 1, 1) := by decide +kernel
theorem dX12_test_8 : decode cX12_test 8 = .ok (.istore_n 2, 1) := by decide +kernel
theorem dX12_test_9 : decode cX12_test 9 = .ok (.iload_n 2, 1) := by decide +kernel
theorem dX12_test_10 : decode cX12_test 10 = .ok (.ifCond .eq 192, 3) := by decide +kernel
theorem dX12_test_13 : decode cX12_test 13 = .ok (.aload_n 0, 1) := by decide +kernel
theorem dX12_test_14 : decode cX12_test 14 = .ok (.getfield 212, 3) := by decide +kernel
theorem dX12_test_17 : decode cX12_test 17 = .ok (.ifCond .ne 185, 3) := by decide +kernel
theorem dX12_test_20 : decode cX12_test 20 = .ok (.iload_n 1, 1) := by decide +kernel
theorem dX12_test_21 : decode cX12_test 21 = .ok (.ifCond .eq 19, 3) := by decide +kernel
theorem dX12_test_24 : decode cX12_test 24 = .ok (.aload_n 0, 1) := by decide +kernel
theorem dX12_test_25 : decode cX12_test 25 = .ok (.invokevirtual 300, 3) := by decide +kernel
theorem dX12_test_28 : decode cX12_test 28 = .ok (.ifCond .ne 7, 3) := by decide +kernel
theorem dX12_test_31 : decode cX12_test 31 = .ok (.iconst 1, 1) := by decide +kernel
theorem dX12_test_32 : decode cX12_test 32 = .ok (.goto 4, 3) := by decide +kernel
theorem dX12_test_35 : decode cX12_test 35 = .ok (.iconst 0, 1) := by decide +kernel
theorem dX12_test_36 : decode cX12_test 36 = .ok (.istore_n 1, 1) := by decide +kernel
theorem dX12_test_37 : decode cX12_test 37 = .ok (.goto (-28), 3) := by decide +kernel
theorem dX12_test_40 : decode cX12_test 40 = .ok (.aload_n 0, 1) := by decide +kernel
theorem dX12_test_41 : decode cX12_test 41 = .ok (.bipush 9, 2) := by decide +kernel
theorem dX12_test_43 : decode cX12_test 43 = .ok (.invokevirtual 303, 3) := by decide +kernel
theorem dX12_test_46 : decode cX12_test 46 = .ok (.aload_n 0, 1) := by decide +kernel
theorem dX12_test_47 : decode cX12_test 47 = .ok (.invokevirtual 235, 3) := by decide +kernel
theorem dX12_test_50 : decode cX12_test 50 = .ok (.aload_n 0, 1) := by decide +kernel
theorem dX12_test_51 : decode cX12_test 51 = .ok (.ldc_w 306, 3) := by decide +kernel
theorem dX12_test_54 : decode cX12_test 54 = .ok (.invokevirtual 238, 3) := by decide +kernel
theorem dX12_test_57 : decode cX12_test 57 = .ok (.istore_n 3, 1) := by decide +kernel
theorem dX12_test_58 : decode cX12_test 58 = .ok (.aload_n 0, 1) := by decide +kernel
theorem dX12_test_59 : decode cX12_test 59 = .ok (.ldc_w 308, 3) := by decide +kernel
theorem dX12_test_62 : decode cX12_test 62 = .ok (.invokevirtual 238, 3) := by decide +kernel
theorem dX12_test_65 : decode cX12_test 65 = .ok (.istore 4, 2) := by decide +kernel
theorem dX12_test_67 : decode cX12_test 67 = .ok (.aload_n 0, 1) := by decide +kernel
theorem dX12_test_68 : decode cX12_test 68 = .ok (.bipush 10, 2) := by decide +kernel
theorem dX12_test_70 : decode cX12_test 70 = .ok (.invokevirtual 303, 3) := by decide +kernel
theorem dX12_test_73 : decode cX12_test 73 = .ok (.iload_n 3, 1) := by decide +kernel
theorem dX12_test_74 : decode cX12_test 74 = .ok (.ifCond .ne 8, 3) := by decide +kernel
theorem dX12_test_77 : decode cX12_test 77 = .ok (.iload 4, 2) := by decide +kernel
theorem dX12_test_79 : decode cX12_test 79 = .ok (.ifCond .eq 52, 3) := by decide +kernel
theorem dX12_test_82 : decode cX12_test 82 = .ok (.iload 4, 2) := by decide +kernel
theorem dX12_test_84 : decode cX12_test 84 = .ok (.ifCond .eq 9, 3) := by decide +kernel
theorem dX12_test_87 : decode cX12_test 87 = .ok (.aload_n 0, 1) := by decide +kernel
theorem dX12_test_88 : decode cX12_test 88 = .ok (.bipush 11, 2) := by decide +kernel
theorem dX12_test_90 : decode cX12_test 90 = .ok (.invokevirtual 303, 3) := by decide +kernel
theorem dX12_test_93 : decode cX12_test 93 = .ok (.aload_n 0, 1) := by decide +kernel
theorem dX12_test_94 : decode cX12_test 94 = .ok (.iload_n 3, 1) := by decide +kernel
theorem dX12_test_95 : decode cX12_test 95 = .ok (.ifCond .eq 8, 3) := by decide +kernel
theorem dX12_test_98 : decode cX12_test 98 = .ok (.bipush 10, 2) := by decide +kernel
theorem dX12_test_100 : decode cX12_test 100 = .ok (.goto 5, 3) := by decide +kernel
theorem dX12_test_103 : decode cX12_test 103 = .ok (.bipush 11, 2) := by decide +kernel
theorem dX12_test_105 : decode cX12_test 105 = .ok (.invokevirtual 294, 3) := by decide +kernel
theorem dX12_test_108 : decode cX12_test 108 = .ok (.aload_n 0, 1) := by decide +kernel
theorem dX12_test_109 : decode cX12_test 109 = .ok (.dup, 1) := by decide +kernel
theorem dX12_test_110 : decode cX12_test 110 = .ok (.getfield 215, 3) := by decide +kernel
theorem dX12_test_113 : decode cX12_test 113 = .ok (.iload_n 3, 1) := by decide +kernel
theorem dX12_test_114 : decode cX12_test 114 = .ok (.ifCond .eq 7, 3) := by decide +kernel
theorem dX12_test_117 : decode cX12_test 117 = .ok (.iconst 3, 1) := by decide +kernel
theorem dX12_test_118 : decode cX12_test 118 = .ok (.goto 4, 3) := by decide +kernel
theorem dX12_test_121 : decode cX12_test 121 = .ok (.iconst 2, 1) := by decide +kernel
theorem dX12_test_122 : decode cX12_test 122 = .ok (.iadd, 1) := by decide +kernel
theorem dX12_test_123 : decode cX12_test 123 = .ok (.putfield 215, 3) := by decide +kernel
theorem dX12_test_126 : decode cX12_test 126 = .ok (.iconst 1, 1) := by decide +kernel
theorem dX12_test_127 : decode cX12_test 127 = .ok (.istore_n 1, 1) := by decide +kernel
theorem dX12_test_128 : decode cX12_test 128 = .ok (.goto 71, 3) := by decide +kernel
theorem dX12_test_131 : decode cX12_test 131 = .ok (.aload_n 0, 1) := by decide +kernel
theorem dX12_test_132 : decode cX12_test 132 = .ok (.bipush 11, 2) := by decide +kernel
theorem dX12_test_134 : decode cX12_test 134 = .ok (.invokevirtual 303, 3) := by decide +kernel
theorem dX12_test_137 : decode cX12_test 137 = .ok (.aload_n 0, 1) := by decide +kernel
theorem dX12_test_138 : decode cX12_test 138 = .ok (.invokevirtual 289, 3) := by decide +kernel
theorem dX12_test_141 : decode cX12_test 141 = .ok (.bipush 12, 2) := by decide +kernel
theorem dX12_test_143 : decode cX12_test 143 = .ok (.if_icmp .ne 54, 3) := by decide +kernel
theorem dX12_test_146 : decode cX12_test 146 = .ok (.aload_n 0, 1) := by decide +kernel
theorem dX12_test_147 : decode cX12_test 147 = .ok (.invokevirtual 218, 3) := by decide +kernel
theorem dX12_test_150 : decode cX12_test 150 = .ok (.bipush 93, 2) := by decide +kernel
theorem dX12_test_152 : decode cX12_test 152 = .ok (.if_icmp .eq 12, 3) := by decide +kernel
theorem dX12_test_155 : decode cX12_test 155 = .ok (.aload_n 0, 1) := by decide +kernel
theorem dX12_test_156 : decode cX12_test 156 = .ok (.iconst 0, 1) := by decide +kernel
theorem dX12_test_157 : decode cX12_test 157 = .ok (.aload_n 0, 1) := by decide +kernel
theorem dX12_test_158 : decode cX12_test 158 = .ok (.getfield 215, 3) := by decide +kernel
theorem dX12_test_161 : decode cX12_test 161 = .ok (.invokevirtual 251, 3) := by decide +kernel
theorem dX12_test_164 : decode cX12_test 164 = .ok (.aload_n 0, 1) := by decide +kernel
theorem dX12_test_165 : decode cX12_test 165 = .ok (.dup, 1) := by decide +kernel
theorem dX12_test_166 : decode cX12_test 166 = .ok (.getfield 215, 3) := by decide +kernel
theorem dX12_test_169 : decode cX12_test 169 = .ok (.iconst 1, 1) := by decide +kernel
theorem dX12_test_170 : decode cX12_test 170 = .ok (.iadd, 1) := by decide +kernel
theorem dX12_test_171 : decode cX12_test 171 = .ok (.putfield 215, 3) := by decide +kernel
theorem dX12_test_174 : decode cX12_test 174 = .ok (.aload_n 0, 1) := by decide +kernel
theorem dX12_test_175 : decode cX12_test 175 = .ok (.dup, 1) := by decide +kernel
theorem dX12_test_176 : decode cX12_test 176 = .ok (.getfield 283, 3) := by decide +kernel
theorem dX12_test_179 : decode cX12_test 179 = .ok (.iconst 1, 1) := by decide +kernel
theorem dX12_test_180 : decode cX12_test 180 = .ok (.isub, 1) := by decide +kernel
theorem dX12_test_181 : decode cX12_test 181 = .ok (.putfield 283, 3) := by decide +kernel
theorem dX12_test_184 : decode cX12_test 184 = .ok (.aload_n 0, 1) := by decide +kernel
theorem dX12_test_185 : decode cX12_test 185 = .ok (.dup, 1) := by decide +kernel
theorem dX12_test_186 : decode cX12_test 186 = .ok (.getfield 286, 3) := by decide +kernel
theorem dX12_test_189 : decode cX12_test 189 = .ok (.iconst 1, 1) := by decide +kernel
theorem dX12_test_190 : decode cX12_test 190 = .ok (.isub, 1) := by decide +kernel
theorem dX12_test_191 : decode cX12_test 191 = .ok (.putfield 286, 3) := by decide +kernel
theorem dX12_test_194 : decode cX12_test 194 = .ok (.goto 5, 3) := by decide +kernel
theorem dX12_test_197 : decode cX12_test 197 = .ok (.iconst 0, 1) := by decide +kernel
theorem dX12_test_198 : decode cX12_test 198 = .ok (.istore_n 2, 1) := by decide +kernel
theorem dX12_test_199 : decode cX12_test 199 = .ok (.goto (-190), 3) := by decide +kernel
theorem dX12_test_202 : decode cX12_test 202 = .ok (.return_, 1) := by decide +kernel
theorem dX12_amount_0 : decode cX12_amount 0 = .ok (.aload_n 0, 1) := by decide +kernel
theorem dX12_amount_1 : decode cX12_amount 1 = .ok (.invokevirtual 235, 3) := by decide +kernel
theorem dX12_amount_4 : decode cX12_amount 4 = .ok (.aload_n 0, 1) := by decide +kernel
theorem dX12_amount_5 : decode cX12_amount 5 = .ok (.getfield 215, 3) := by decide +kernel
theorem dX12_amount_8 : decode cX12_amount 8 = .ok (.istore_n 3, 1) := by decide +kernel
theorem dX12_amount_9 : decode cX12_amount 9 = .ok (.aload_n 0, 1) := by decide +kernel
theorem dX12_amount_10 : decode cX12_amount 10 = .ok (.getfield 212, 3) := by decide +kernel
theorem dX12_amount_13 : decode cX12_amount 13 = .ok (.ifCond .ne 13, 3) := by decide +kernel
theorem dX12_amount_16 : decode cX12_amount 16 = .ok (.aload_n 0, 1) := by decide +kernel
theorem dX12_amount_17 : decode cX12_amount 17 = .ok (.ldc_w 259, 3) := by decide +kernel
theorem dX12_amount_20 : decode cX12_amount 20 = .ok (.invokevirtual 260, 3) := by decide +kernel
theorem dX12_amount_23 : decode cX12_amount 23 = .ok (.goto 4, 3) := by decide +kernel
theorem dX12_amount_26 : decode cX12_amount 26 = .ok (.iconst 0, 1) := by decide +kernel
theorem dX12_amount_27 : decode cX12_amount 27 = .ok (.istore 4, 2) := by decide +kernel
theorem dX12_amount_29 : decode cX12_amount 29 = .ok (.aload_n 0, 1) := by decide +kernel
theorem dX12_amount_30 : decode cX12_amount 30 = .ok (.getfield 212, 3) := by decide +kernel
theorem dX12_amount_33 : decode cX12_amount 33 = .ok (.ifCond .ne 22, 3) := by decide +kernel
theorem dX12_amount_36 : decode cX12_amount 36 = .ok (.iload 4, 2) := by decide +kernel
theorem dX12_amount_38 : decode cX12_amount 38 = .ok (.i2l, 1) := by decide +kernel
theorem dX12_amount_39 : decode cX12_amount 39 = .ok (.iload_n 1, 1) := by decide +kernel
theorem dX12_amount_40 : decode cX12_amount 40 = .ok (.i2l, 1) := by decide +kernel
theorem dX12_amount_41 : decode cX12_amount 41 = .ok (.iload_n 2, 1) := by decide +kernel
theorem dX12_amount_42 : decode cX12_amount 42 = .ok (.i2l, 1) := by decide +kernel
theorem dX12_amount_43 : decode cX12_amount 43 = .ok (.invokestatic 176, 3) := by decide +kernel
theorem dX12_amount_46 : decode cX12_amount 46 = .ok (.ifCond .ne 9, 3) := by decide +kernel
theorem dX12_amount_49 : decode cX12_amount 49 = .ok (.aload_n 0, 1) := by decide +kernel
theorem dX12_amount_50 : decode cX12_amount 50 = .ok (.iconst 1, 1) := by decide +kernel
theorem dX12_amount_51 : decode cX12_amount 51 = .ok (.iload_n 3, 1) := by decide +kernel
theorem dX12_amount_52 : decode cX12_amount 52 = .ok (.invokevirtual 251, 3) := by decide +kernel
theorem dX12_amount_55 : decode cX12_amount 55 = .ok (.iload 4, 2) := by decide +kernel
theorem dX12_amount_57 : decode cX12_amount 57 = .ok (.ireturn, 1) := by decide +kernel
theorem dX12_riverWord_0 : decode cX12_riverWord 0 = .ok (.iload_n 0, 1) := by decide +kernel
theorem dX12_riverWord_1 : decode cX12_riverWord 1 = .ok (.tableswitch 47 0 3 #[31, 35, 39, 43], 31) := by decide +kernel
theorem dX12_riverWord_32 : decode cX12_riverWord 32 = .ok (.ldc_w 310, 3) := by decide +kernel
theorem dX12_riverWord_35 : decode cX12_riverWord 35 = .ok (.areturn, 1) := by decide +kernel
theorem dX12_riverWord_36 : decode cX12_riverWord 36 = .ok (.ldc_w 312, 3) := by decide +kernel
theorem dX12_riverWord_39 : decode cX12_riverWord 39 = .ok (.areturn, 1) := by decide +kernel
theorem dX12_riverWord_40 : decode cX12_riverWord 40 = .ok (.ldc_w 314, 3) := by decide +kernel
theorem dX12_riverWord_43 : decode cX12_riverWord 43 = .ok (.areturn, 1) := by decide +kernel
theorem dX12_riverWord_44 : decode cX12_riverWord 44 = .ok (.ldc_w 316, 3) := by decide +kernel
theorem dX12_riverWord_47 : decode cX12_riverWord 47 = .ok (.areturn, 1) := by decide +kernel
theorem dX12_riverWord_48 : decode cX12_riverWord 48 = .ok (.ldc_w 318, 3) := by decide +kernel
theorem dX12_riverWord_51 : decode cX12_riverWord 51 = .ok (.areturn, 1) := by decide +kernel
theorem dX12_isNewBound_0 : decode cX12_isNewBound 0 = .ok (.iconst 0, 1) := by decide +kernel
theorem dX12_isNewBound_1 : decode cX12_isNewBound 1 = .ok (.istore_n 3, 1) := by decide +kernel
theorem dX12_isNewBound_2 : decode cX12_isNewBound 2 = .ok (.iload_n 3, 1) := by decide +kernel
theorem dX12_isNewBound_3 : decode cX12_isNewBound 3 = .ok (.aload_n 0, 1) := by decide +kernel
theorem dX12_isNewBound_4 : decode cX12_isNewBound 4 = .ok (.getfield 64, 3) := by decide +kernel
theorem dX12_isNewBound_7 : decode cX12_isNewBound 7 = .ok (.iconst 4, 1) := by decide +kernel
theorem dX12_isNewBound_8 : decode cX12_isNewBound 8 = .ok (.iaload, 1) := by decide +kernel
theorem dX12_isNewBound_9 : decode cX12_isNewBound 9 = .ok (.if_icmp .ge 51, 3) := by decide +kernel
theorem dX12_isNewBound_12 : decode cX12_isNewBound 12 = .ok (.aload_n 0, 1) := by decide +kernel
theorem dX12_isNewBound_13 : decode cX12_isNewBound 13 = .ok (.getfield 85, 3) := by decide +kernel
theorem dX12_isNewBound_16 : decode cX12_isNewBound 16 = .ok (.iload_n 3, 1) := by decide +kernel
theorem dX12_isNewBound_17 : decode cX12_isNewBound 17 = .ok (.iaload, 1) := by decide +kernel
theorem dX12_isNewBound_18 : decode cX12_isNewBound 18 = .ok (.iload_n 1, 1) := by decide +kernel
theorem dX12_isNewBound_19 : decode cX12_isNewBound 19 = .ok (.if_icmp .ne 13, 3) := by decide +kernel
theorem dX12_isNewBound_22 : decode cX12_isNewBound 22 = .ok (.aload_n 0, 1) := by decide +kernel
theorem dX12_isNewBound_23 : decode cX12_isNewBound 23 = .ok (.getfield 88, 3) := by decide +kernel
theorem dX12_isNewBound_26 : decode cX12_isNewBound 26 = .ok (.iload_n 3, 1) := by decide +kernel
theorem dX12_isNewBound_27 : decode cX12_isNewBound 27 = .ok (.iaload, 1) := by decide +kernel
theorem dX12_isNewBound_28 : decode cX12_isNewBound 28 = .ok (.iload_n 2, 1) := by decide +kernel
theorem dX12_isNewBound_29 : decode cX12_isNewBound 29 = .ok (.if_icmp .eq 23, 3) := by decide +kernel
theorem dX12_isNewBound_32 : decode cX12_isNewBound 32 = .ok (.aload_n 0, 1) := by decide +kernel
theorem dX12_isNewBound_33 : decode cX12_isNewBound 33 = .ok (.getfield 85, 3) := by decide +kernel
theorem dX12_isNewBound_36 : decode cX12_isNewBound 36 = .ok (.iload_n 3, 1) := by decide +kernel
theorem dX12_isNewBound_37 : decode cX12_isNewBound 37 = .ok (.iaload, 1) := by decide +kernel
theorem dX12_isNewBound_38 : decode cX12_isNewBound 38 = .ok (.iload_n 2, 1) := by decide +kernel
theorem dX12_isNewBound_39 : decode cX12_isNewBound 39 = .ok (.if_icmp .ne 15, 3) := by decide +kernel
theorem dX12_isNewBound_42 : decode cX12_isNewBound 42 = .ok (.aload_n 0, 1) := by decide +kernel
theorem dX12_isNewBound_43 : decode cX12_isNewBound 43 = .ok (.getfield 88, 3) := by decide +kernel
theorem dX12_isNewBound_46 : decode cX12_isNewBound 46 = .ok (.iload_n 3, 1) := by decide +kernel
theorem dX12_isNewBound_47 : decode cX12_isNewBound 47 = .ok (.iaload, 1) := by decide +kernel
theorem dX12_isNewBound_48 : decode cX12_isNewBound 48 = .ok (.iload_n 1, 1) := by decide +kernel
theorem dX12_isNewBound_49 : decode cX12_isNewBound 49 = .ok (.if_icmp .ne 5, 3) := by decide +kernel
theorem dX12_isNewBound_52 : decode cX12_isNewBound 52 = .ok (.iconst 1, 1) := by decide +kernel
theorem dX12_isNewBound_53 : decode cX12_isNewBound 53 = .ok (.ireturn, 1) := by decide +kernel
theorem dX12_isNewBound_54 : decode cX12_isNewBound 54 = .ok (.iinc 3 1, 3) := by decide +kernel
theorem dX12_isNewBound_57 : decode cX12_isNewBound 57 = .ok (.goto (-55), 3) := by decide +kernel
theorem dX12_isNewBound_60 : decode cX12_isNewBound 60 = .ok (.iconst 0, 1) := by decide +kernel
theorem dX12_isNewBound_61 : decode cX12_isNewBound 61 = .ok (.ireturn, 1) := by decide +kernel
theorem dX12_readsBound_0 : decode cX12_readsBound 0 = .ok (.aload_n 0, 1) := by decide +kernel
theorem dX12_readsBound_1 : decode cX12_readsBound 1 = .ok (.getfield 64, 3) := by decide +kernel
theorem dX12_readsBound_4 : decode cX12_readsBound 4 = .ok (.iconst 4, 1) := by decide +kernel
theorem dX12_readsBound_5 : decode cX12_readsBound 5 = .ok (.iaload, 1) := by decide +kernel
theorem dX12_readsBound_6 : decode cX12_readsBound 6 = .ok (.istore_n 1, 1) := by decide +kernel
theorem dX12_readsBound_7 : decode cX12_readsBound 7 = .ok (.aload_n 0, 1) := by decide +kernel
theorem dX12_readsBound_8 : decode cX12_readsBound 8 = .ok (.iconst 0, 1) := by decide +kernel
theorem dX12_readsBound_9 : decode cX12_readsBound 9 = .ok (.aload_n 0, 1) := by decide +kernel
theorem dX12_readsBound_10 : decode cX12_readsBound 10 = .ok (.getfield 64, 3) := by decide +kernel
theorem dX12_readsBound_13 : decode cX12_readsBound 13 = .ok (.iconst 3, 1) := by decide +kernel
theorem dX12_readsBound_14 : decode cX12_readsBound 14 = .ok (.iaload, 1) := by decide +kernel
theorem dX12_readsBound_15 : decode cX12_readsBound 15 = .ok (.iconst 1, 1) := by decide +kernel
theorem dX12_readsBound_16 : decode cX12_readsBound 16 = .ok (.isub, 1) := by decide +kernel
theorem dX12_readsBound_17 : decode cX12_readsBound 17 = .ok (.invokevirtual 320, 3) := by decide +kernel
theorem dX12_readsBound_20 : decode cX12_readsBound 20 = .ok (.istore_n 2, 1) := by decide +kernel
theorem dX12_readsBound_21 : decode cX12_readsBound 21 = .ok (.aload_n 0, 1) := by decide +kernel
theorem dX12_readsBound_22 : decode cX12_readsBound 22 = .ok (.invokevirtual 235, 3) := by decide +kernel
theorem dX12_readsBound_25 : decode cX12_readsBound 25 = .ok (.aload_n 0, 1) := by decide +kernel
theorem dX12_readsBound_26 : decode cX12_readsBound 26 = .ok (.getfield 215, 3) := by decide +kernel
theorem dX12_readsBound_29 : decode cX12_readsBound 29 = .ok (.istore_n 3, 1) := by decide +kernel
theorem dX12_readsBound_30 : decode cX12_readsBound 30 = .ok (.aload_n 0, 1) := by decide +kernel
theorem dX12_readsBound_31 : decode cX12_readsBound 31 = .ok (.iconst 0, 1) := by decide +kernel
theorem dX12_readsBound_32 : decode cX12_readsBound 32 = .ok (.aload_n 0, 1) := by decide +kernel
theorem dX12_readsBound_33 : decode cX12_readsBound 33 = .ok (.getfield 64, 3) := by decide +kernel
theorem dX12_readsBound_36 : decode cX12_readsBound 36 = .ok (.iconst 3, 1) := by decide +kernel
theorem dX12_readsBound_37 : decode cX12_readsBound 37 = .ok (.iaload, 1) := by decide +kernel
theorem dX12_readsBound_38 : decode cX12_readsBound 38 = .ok (.iconst 1, 1) := by decide +kernel
theorem dX12_readsBound_39 : decode cX12_readsBound 39 = .ok (.isub, 1) := by decide +kernel
theorem dX12_readsBound_40 : decode cX12_readsBound 40 = .ok (.invokevirtual 320, 3) := by decide +kernel
theorem dX12_readsBound_43 : decode cX12_readsBound 43 = .ok (.istore 4, 2) := by decide +kernel
theorem dX12_readsBound_45 : decode cX12_readsBound 45 = .ok (.aload_n 0, 1) := by decide +kernel
theorem dX12_readsBound_46 : decode cX12_readsBound 46 = .ok (.getfield 212, 3) := by decide +kernel
theorem dX12_readsBound_49 : decode cX12_readsBound 49 = .ok (.ifCond .ne 25, 3) := by decide +kernel
theorem dX12_readsBound_52 : decode cX12_readsBound 52 = .ok (.iload_n 2, 1) := by decide +kernel
theorem dX12_readsBound_53 : decode cX12_readsBound 53 = .ok (.iload 4, 2) := by decide +kernel
theorem dX12_readsBound_55 : decode cX12_readsBound 55 = .ok (.if_icmp .eq 13, 3) := by decide +kernel
theorem dX12_readsBound_58 : decode cX12_readsBound 58 = .ok (.aload_n 0, 1) := by decide +kernel
theorem dX12_readsBound_59 : decode cX12_readsBound 59 = .ok (.iload_n 2, 1) := by decide +kernel
theorem dX12_readsBound_60 : decode cX12_readsBound 60 = .ok (.iload 4, 2) := by decide +kernel
theorem dX12_readsBound_62 : decode cX12_readsBound 62 = .ok (.invokevirtual 324, 3) := by decide +kernel
theorem dX12_readsBound_65 : decode cX12_readsBound 65 = .ok (.ifCond .eq 9, 3) := by decide +kernel
theorem dX12_readsBound_68 : decode cX12_readsBound 68 = .ok (.aload_n 0, 1) := by decide +kernel
theorem dX12_readsBound_69 : decode cX12_readsBound 69 = .ok (.iconst 1, 1) := by decide +kernel
theorem dX12_readsBound_70 : decode cX12_readsBound 70 = .ok (.iload_n 3, 1) := by decide +kernel
theorem dX12_readsBound_71 : decode cX12_readsBound 71 = .ok (.invokevirtual 251, 3) := by decide +kernel
theorem dX12_readsBound_74 : decode cX12_readsBound 74 = .ok (.aload_n 0, 1) := by decide +kernel
theorem dX12_readsBound_75 : decode cX12_readsBound 75 = .ok (.getfield 85, 3) := by decide +kernel
theorem dX12_readsBound_78 : decode cX12_readsBound 78 = .ok (.iload_n 1, 1) := by decide +kernel
theorem dX12_readsBound_79 : decode cX12_readsBound 79 = .ok (.iload_n 2, 1) := by decide +kernel
theorem dX12_readsBound_80 : decode cX12_readsBound 80 = .ok (.iload 4, 2) := by decide +kernel
theorem dX12_readsBound_82 : decode cX12_readsBound 82 = .ok (.if_icmp .ge 7, 3) := by decide +kernel
theorem dX12_readsBound_85 : decode cX12_readsBound 85 = .ok (.iload_n 2, 1) := by decide +kernel
theorem dX12_readsBound_86 : decode cX12_readsBound 86 = .ok (.goto 5, 3) := by decide +kernel
theorem dX12_readsBound_89 : decode cX12_readsBound 89 = .ok (.iload 4, 2) := by decide +kernel
theorem dX12_readsBound_91 : decode cX12_readsBound 91 = .ok (.iastore, 1) := by decide +kernel
theorem dX12_readsBound_92 : decode cX12_readsBound 92 = .ok (.aload_n 0, 1) := by decide +kernel
theorem dX12_readsBound_93 : decode cX12_readsBound 93 = .ok (.getfield 88, 3) := by decide +kernel
theorem dX12_readsBound_96 : decode cX12_readsBound 96 = .ok (.iload_n 1, 1) := by decide +kernel
theorem dX12_readsBound_97 : decode cX12_readsBound 97 = .ok (.iload_n 2, 1) := by decide +kernel
theorem dX12_readsBound_98 : decode cX12_readsBound 98 = .ok (.iload 4, 2) := by decide +kernel
theorem dX12_readsBound_100 : decode cX12_readsBound 100 = .ok (.if_icmp .ge 8, 3) := by decide +kernel
theorem dX12_readsBound_103 : decode cX12_readsBound 103 = .ok (.iload 4, 2) := by decide +kernel
theorem dX12_readsBound_105 : decode cX12_readsBound 105 = .ok (.goto 4, 3) := by decide +kernel
theorem dX12_readsBound_108 : decode cX12_readsBound 108 = .ok (.iload_n 2, 1) := by decide +kernel
theorem dX12_readsBound_109 : decode cX12_readsBound 109 = .ok (.iastore, 1) := by decide +kernel
theorem dX12_readsBound_110 : decode cX12_readsBound 110 = .ok (.aload_n 0, 1) := by decide +kernel
theorem dX12_readsBound_111 : decode cX12_readsBound 111 = .ok (.getfield 91, 3) := by decide +kernel
theorem dX12_readsBound_114 : decode cX12_readsBound 114 = .ok (.iload_n 1, 1) := by decide +kernel
theorem dX12_readsBound_115 : decode cX12_readsBound 115 = .ok (.aload_n 0, 1) := by decide +kernel
theorem dX12_readsBound_116 : decode cX12_readsBound 116 = .ok (.iconst 1, 1) := by decide +kernel
theorem dX12_readsBound_117 : decode cX12_readsBound 117 = .ok (.bipush 9, 2) := by decide +kernel
theorem dX12_readsBound_119 : decode cX12_readsBound 119 = .ok (.invokevirtual 320, 3) := by decide +kernel
theorem dX12_readsBound_122 : decode cX12_readsBound 122 = .ok (.iastore, 1) := by decide +kernel
theorem dX12_readsBound_123 : decode cX12_readsBound 123 = .ok (.aload_n 0, 1) := by decide +kernel
theorem dX12_readsBound_124 : decode cX12_readsBound 124 = .ok (.getfield 64, 3) := by decide +kernel
theorem dX12_readsBound_127 : decode cX12_readsBound 127 = .ok (.iconst 4, 1) := by decide +kernel
theorem dX12_readsBound_128 : decode cX12_readsBound 128 = .ok (.dup2, 1) := by decide +kernel
theorem dX12_readsBound_129 : decode cX12_readsBound 129 = .ok (.iaload, 1) := by decide +kernel
theorem dX12_readsBound_130 : decode cX12_readsBound 130 = .ok (.iconst 1, 1) := by decide +kernel
theorem dX12_readsBound_131 : decode cX12_readsBound 131 = .ok (.iadd, 1) := by decide +kernel
theorem dX12_readsBound_132 : decode cX12_readsBound 132 = .ok (.iastore, 1) := by decide +kernel
theorem dX12_readsBound_133 : decode cX12_readsBound 133 = .ok (.return_, 1) := by decide +kernel
theorem dX12_readsRapid_0 : decode cX12_readsRapid 0 = .ok (.aload_n 0, 1) := by decide +kernel
theorem dX12_readsRapid_1 : decode cX12_readsRapid 1 = .ok (.getfield 64, 3) := by decide +kernel
theorem dX12_readsRapid_4 : decode cX12_readsRapid 4 = .ok (.iconst 5, 1) := by decide +kernel
theorem dX12_readsRapid_5 : decode cX12_readsRapid 5 = .ok (.iaload, 1) := by decide +kernel
theorem dX12_readsRapid_6 : decode cX12_readsRapid 6 = .ok (.istore_n 1, 1) := by decide +kernel
theorem dX12_readsRapid_7 : decode cX12_readsRapid 7 = .ok (.aload_n 0, 1) := by decide +kernel
theorem dX12_readsRapid_8 : decode cX12_readsRapid 8 = .ok (.invokevirtual 235, 3) := by decide +kernel
theorem dX12_readsRapid_11 : decode cX12_readsRapid 11 = .ok (.aload_n 0, 1) := by decide +kernel
theorem dX12_readsRapid_12 : decode cX12_readsRapid 12 = .ok (.getfield 215, 3) := by decide +kernel
theorem dX12_readsRapid_15 : decode cX12_readsRapid 15 = .ok (.istore_n 2, 1) := by decide +kernel
theorem dX12_readsRapid_16 : decode cX12_readsRapid 16 = .ok (.aload_n 0, 1) := by decide +kernel
theorem dX12_readsRapid_17 : decode cX12_readsRapid 17 = .ok (.iconst 1, 1) := by decide +kernel
theorem dX12_readsRapid_18 : decode cX12_readsRapid 18 = .ok (.aload_n 0, 1) := by decide +kernel
theorem dX12_readsRapid_19 : decode cX12_readsRapid 19 = .ok (.getfield 64, 3) := by decide +kernel
theorem dX12_readsRapid_22 : decode cX12_readsRapid 22 = .ok (.iconst 0, 1) := by decide +kernel
theorem dX12_readsRapid_23 : decode cX12_readsRapid 23 = .ok (.iaload, 1) := by decide +kernel
theorem dX12_readsRapid_24 : decode cX12_readsRapid 24 = .ok (.invokevirtual 320, 3) := by decide +kernel
theorem dX12_readsRapid_27 : decode cX12_readsRapid 27 = .ok (.istore_n 3, 1) := by decide +kernel
theorem dX12_readsRapid_28 : decode cX12_readsRapid 28 = .ok (.iconst 0, 1) := by decide +kernel
theorem dX12_readsRapid_29 : decode cX12_readsRapid 29 = .ok (.istore 4, 2) := by decide +kernel
theorem dX12_readsRapid_31 : decode cX12_readsRapid 31 = .ok (.iload 4, 2) := by decide +kernel
theorem dX12_readsRapid_33 : decode cX12_readsRapid 33 = .ok (.iload_n 1, 1) := by decide +kernel
theorem dX12_readsRapid_34 : decode cX12_readsRapid 34 = .ok (.if_icmp .ge 33, 3) := by decide +kernel
theorem dX12_readsRapid_37 : decode cX12_readsRapid 37 = .ok (.aload_n 0, 1) := by decide +kernel
theorem dX12_readsRapid_38 : decode cX12_readsRapid 38 = .ok (.getfield 94, 3) := by decide +kernel
theorem dX12_readsRapid_41 : decode cX12_readsRapid 41 = .ok (.iload 4, 2) := by decide +kernel
theorem dX12_readsRapid_43 : decode cX12_readsRapid 43 = .ok (.iaload, 1) := by decide +kernel
theorem dX12_readsRapid_44 : decode cX12_readsRapid 44 = .ok (.iload_n 3, 1) := by decide +kernel
theorem dX12_readsRapid_45 : decode cX12_readsRapid 45 = .ok (.if_icmp .ne 16, 3) := by decide +kernel
theorem dX12_readsRapid_48 : decode cX12_readsRapid 48 = .ok (.aload_n 0, 1) := by decide +kernel
theorem dX12_readsRapid_49 : decode cX12_readsRapid 49 = .ok (.getfield 212, 3) := by decide +kernel
theorem dX12_readsRapid_52 : decode cX12_readsRapid 52 = .ok (.ifCond .ne 9, 3) := by decide +kernel
theorem dX12_readsRapid_55 : decode cX12_readsRapid 55 = .ok (.aload_n 0, 1) := by decide +kernel
theorem dX12_readsRapid_56 : decode cX12_readsRapid 56 = .ok (.iconst 1, 1) := by decide +kernel
theorem dX12_readsRapid_57 : decode cX12_readsRapid 57 = .ok (.iload_n 2, 1) := by decide +kernel
theorem dX12_readsRapid_58 : decode cX12_readsRapid 58 = .ok (.invokevirtual 251, 3) := by decide +kernel
theorem dX12_readsRapid_61 : decode cX12_readsRapid 61 = .ok (.iinc 4 1, 3) := by decide +kernel
theorem dX12_readsRapid_64 : decode cX12_readsRapid 64 = .ok (.goto (-33), 3) := by decide +kernel
theorem dX12_readsRapid_67 : decode cX12_readsRapid 67 = .ok (.aload_n 0, 1) := by decide +kernel
theorem dX12_readsRapid_68 : decode cX12_readsRapid 68 = .ok (.getfield 94, 3) := by decide +kernel
theorem dX12_readsRapid_71 : decode cX12_readsRapid 71 = .ok (.iload_n 1, 1) := by decide +kernel
theorem dX12_readsRapid_72 : decode cX12_readsRapid 72 = .ok (.iload_n 3, 1) := by decide +kernel
theorem dX12_readsRapid_73 : decode cX12_readsRapid 73 = .ok (.iastore, 1) := by decide +kernel
theorem dX12_readsRapid_74 : decode cX12_readsRapid 74 = .ok (.aload_n 0, 1) := by decide +kernel
theorem dX12_readsRapid_75 : decode cX12_readsRapid 75 = .ok (.getfield 97, 3) := by decide +kernel
theorem dX12_readsRapid_78 : decode cX12_readsRapid 78 = .ok (.iload_n 1, 1) := by decide +kernel
theorem dX12_readsRapid_79 : decode cX12_readsRapid 79 = .ok (.aload_n 0, 1) := by decide +kernel
theorem dX12_readsRapid_80 : decode cX12_readsRapid 80 = .ok (.iconst 1, 1) := by decide +kernel
theorem dX12_readsRapid_81 : decode cX12_readsRapid 81 = .ok (.bipush 9, 2) := by decide +kernel
theorem dX12_readsRapid_83 : decode cX12_readsRapid 83 = .ok (.invokevirtual 320, 3) := by decide +kernel
theorem dX12_readsRapid_86 : decode cX12_readsRapid 86 = .ok (.iastore, 1) := by decide +kernel
theorem dX12_readsRapid_87 : decode cX12_readsRapid 87 = .ok (.aload_n 0, 1) := by decide +kernel
theorem dX12_readsRapid_88 : decode cX12_readsRapid 88 = .ok (.getfield 64, 3) := by decide +kernel
theorem dX12_readsRapid_91 : decode cX12_readsRapid 91 = .ok (.iconst 5, 1) := by decide +kernel
theorem dX12_readsRapid_92 : decode cX12_readsRapid 92 = .ok (.dup2, 1) := by decide +kernel
theorem dX12_readsRapid_93 : decode cX12_readsRapid 93 = .ok (.iaload, 1) := by decide +kernel
theorem dX12_readsRapid_94 : decode cX12_readsRapid 94 = .ok (.iconst 1, 1) := by decide +kernel
theorem dX12_readsRapid_95 : decode cX12_readsRapid 95 = .ok (.iadd, 1) := by decide +kernel
theorem dX12_readsRapid_96 : decode cX12_readsRapid 96 = .ok (.iastore, 1) := by decide +kernel
theorem dX12_readsRapid_97 : decode cX12_readsRapid 97 = .ok (.return_, 1) := by decide +kernel
theorem dX12_riverPart_0 : decode cX12_riverPart 0 = .ok (.iload_n 1, 1) := by decide +kernel
theorem dX12_riverPart_1 : decode cX12_riverPart 1 = .ok (.tableswitch 195 0 3 #[31, 60, 110, 188], 31) := by decide +kernel
theorem dX12_riverPart_32 : decode cX12_riverPart 32 = .ok (.aload_n 0, 1) := by decide +kernel
theorem dX12_riverPart_33 : decode cX12_riverPart 33 = .ok (.getfield 64, 3) := by decide +kernel
theorem dX12_riverPart_36 : decode cX12_riverPart 36 = .ok (.iconst 0, 1) := by decide +kernel
theorem dX12_riverPart_37 : decode cX12_riverPart 37 = .ok (.aload_n 0, 1) := by decide +kernel
theorem dX12_riverPart_38 : decode cX12_riverPart 38 = .ok (.iconst 2, 1) := by decide +kernel
theorem dX12_riverPart_39 : decode cX12_riverPart 39 = .ok (.bipush 99, 2) := by decide +kernel
theorem dX12_riverPart_41 : decode cX12_riverPart 41 = .ok (.invokevirtual 320, 3) := by decide +kernel
theorem dX12_riverPart_44 : decode cX12_riverPart 44 = .ok (.iastore, 1) := by decide +kernel
theorem dX12_riverPart_45 : decode cX12_riverPart 45 = .ok (.aload_n 0, 1) := by decide +kernel
theorem dX12_riverPart_46 : decode cX12_riverPart 46 = .ok (.getfield 64, 3) := by decide +kernel
theorem dX12_riverPart_49 : decode cX12_riverPart 49 = .ok (.iconst 1, 1) := by decide +kernel
theorem dX12_riverPart_50 : decode cX12_riverPart 50 = .ok (.aload_n 0, 1) := by decide +kernel
theorem dX12_riverPart_51 : decode cX12_riverPart 51 = .ok (.iconst 0, 1) := by decide +kernel
theorem dX12_riverPart_52 : decode cX12_riverPart 52 = .ok (.bipush 99, 2) := by decide +kernel
theorem dX12_riverPart_54 : decode cX12_riverPart 54 = .ok (.invokevirtual 320, 3) := by decide +kernel
theorem dX12_riverPart_57 : decode cX12_riverPart 57 = .ok (.iastore, 1) := by decide +kernel
theorem dX12_riverPart_58 : decode cX12_riverPart 58 = .ok (.goto 142, 3) := by decide +kernel
theorem dX12_riverPart_61 : decode cX12_riverPart 61 = .ok (.aload_n 0, 1) := by decide +kernel
theorem dX12_riverPart_62 : decode cX12_riverPart 62 = .ok (.getfield 64, 3) := by decide +kernel
theorem dX12_riverPart_65 : decode cX12_riverPart 65 = .ok (.iconst 2, 1) := by decide +kernel
theorem dX12_riverPart_66 : decode cX12_riverPart 66 = .ok (.iaload, 1) := by decide +kernel
theorem dX12_riverPart_67 : decode cX12_riverPart 67 = .ok (.istore_n 2, 1) := by decide +kernel
theorem dX12_riverPart_68 : decode cX12_riverPart 68 = .ok (.aload_n 0, 1) := by decide +kernel
theorem dX12_riverPart_69 : decode cX12_riverPart 69 = .ok (.getfield 67, 3) := by decide +kernel
theorem dX12_riverPart_72 : decode cX12_riverPart 72 = .ok (.iload_n 2, 1) := by decide +kernel
theorem dX12_riverPart_73 : decode cX12_riverPart 73 = .ok (.aload_n 0, 1) := by decide +kernel
theorem dX12_riverPart_74 : decode cX12_riverPart 74 = .ok (.iconst 1, 1) := by decide +kernel
theorem dX12_riverPart_75 : decode cX12_riverPart 75 = .ok (.aload_n 0, 1) := by decide +kernel
theorem dX12_riverPart_76 : decode cX12_riverPart 76 = .ok (.getfield 64, 3) := by decide +kernel
theorem dX12_riverPart_79 : decode cX12_riverPart 79 = .ok (.iconst 0, 1) := by decide +kernel
theorem dX12_riverPart_80 : decode cX12_riverPart 80 = .ok (.iaload, 1) := by decide +kernel
theorem dX12_riverPart_81 : decode cX12_riverPart 81 = .ok (.invokevirtual 320, 3) := by decide +kernel
theorem dX12_riverPart_84 : decode cX12_riverPart 84 = .ok (.iastore, 1) := by decide +kernel
theorem dX12_riverPart_85 : decode cX12_riverPart 85 = .ok (.aload_n 0, 1) := by decide +kernel
theorem dX12_riverPart_86 : decode cX12_riverPart 86 = .ok (.getfield 70, 3) := by decide +kernel
theorem dX12_riverPart_89 : decode cX12_riverPart 89 = .ok (.iload_n 2, 1) := by decide +kernel
theorem dX12_riverPart_90 : decode cX12_riverPart 90 = .ok (.aload_n 0, 1) := by decide +kernel
theorem dX12_riverPart_91 : decode cX12_riverPart 91 = .ok (.iconst 0, 1) := by decide +kernel
theorem dX12_riverPart_92 : decode cX12_riverPart 92 = .ok (.bipush 20, 2) := by decide +kernel
theorem dX12_riverPart_94 : decode cX12_riverPart 94 = .ok (.invokevirtual 320, 3) := by decide +kernel
theorem dX12_riverPart_97 : decode cX12_riverPart 97 = .ok (.iastore, 1) := by decide +kernel
theorem dX12_riverPart_98 : decode cX12_riverPart 98 = .ok (.aload_n 0, 1) := by decide +kernel
theorem dX12_riverPart_99 : decode cX12_riverPart 99 = .ok (.getfield 64, 3) := by decide +kernel
theorem dX12_riverPart_102 : decode cX12_riverPart 102 = .ok (.iconst 2, 1) := by decide +kernel
theorem dX12_riverPart_103 : decode cX12_riverPart 103 = .ok (.dup2, 1) := by decide +kernel
theorem dX12_riverPart_104 : decode cX12_riverPart 104 = .ok (.iaload, 1) := by decide +kernel
theorem dX12_riverPart_105 : decode cX12_riverPart 105 = .ok (.iconst 1, 1) := by decide +kernel
theorem dX12_riverPart_106 : decode cX12_riverPart 106 = .ok (.iadd, 1) := by decide +kernel
theorem dX12_riverPart_107 : decode cX12_riverPart 107 = .ok (.iastore, 1) := by decide +kernel
theorem dX12_riverPart_108 : decode cX12_riverPart 108 = .ok (.goto 92, 3) := by decide +kernel
theorem dX12_riverPart_111 : decode cX12_riverPart 111 = .ok (.aload_n 0, 1) := by decide +kernel
theorem dX12_riverPart_112 : decode cX12_riverPart 112 = .ok (.getfield 64, 3) := by decide +kernel
theorem dX12_riverPart_115 : decode cX12_riverPart 115 = .ok (.iconst 3, 1) := by decide +kernel
theorem dX12_riverPart_116 : decode cX12_riverPart 116 = .ok (.iaload, 1) := by decide +kernel
theorem dX12_riverPart_117 : decode cX12_riverPart 117 = .ok (.istore_n 2, 1) := by decide +kernel
theorem dX12_riverPart_118 : decode cX12_riverPart 118 = .ok (.aload_n 0, 1) := by decide +kernel
theorem dX12_riverPart_119 : decode cX12_riverPart 119 = .ok (.getfield 73, 3) := by decide +kernel
theorem dX12_riverPart_122 : decode cX12_riverPart 122 = .ok (.iload_n 2, 1) := by decide +kernel
theorem dX12_riverPart_123 : decode cX12_riverPart 123 = .ok (.aload_n 0, 1) := by decide +kernel
theorem dX12_riverPart_124 : decode cX12_riverPart 124 = .ok (.iconst 0, 1) := by decide +kernel
theorem dX12_riverPart_125 : decode cX12_riverPart 125 = .ok (.aload_n 0, 1) := by decide +kernel
theorem dX12_riverPart_126 : decode cX12_riverPart 126 = .ok (.getfield 64, 3) := by decide +kernel
theorem dX12_riverPart_129 : decode cX12_riverPart 129 = .ok (.iconst 2, 1) := by decide +kernel
theorem dX12_riverPart_130 : decode cX12_riverPart 130 = .ok (.iaload, 1) := by decide +kernel
theorem dX12_riverPart_131 : decode cX12_riverPart 131 = .ok (.iconst 1, 1) := by decide +kernel
theorem dX12_riverPart_132 : decode cX12_riverPart 132 = .ok (.isub, 1) := by decide +kernel
theorem dX12_riverPart_133 : decode cX12_riverPart 133 = .ok (.invokevirtual 320, 3) := by decide +kernel
theorem dX12_riverPart_136 : decode cX12_riverPart 136 = .ok (.iastore, 1) := by decide +kernel
theorem dX12_riverPart_137 : decode cX12_riverPart 137 = .ok (.aload_n 0, 1) := by decide +kernel
theorem dX12_riverPart_138 : decode cX12_riverPart 138 = .ok (.getfield 76, 3) := by decide +kernel
theorem dX12_riverPart_141 : decode cX12_riverPart 141 = .ok (.iload_n 2, 1) := by decide +kernel
theorem dX12_riverPart_142 : decode cX12_riverPart 142 = .ok (.aload_n 0, 1) := by decide +kernel
theorem dX12_riverPart_143 : decode cX12_riverPart 143 = .ok (.iconst 0, 1) := by decide +kernel
theorem dX12_riverPart_144 : decode cX12_riverPart 144 = .ok (.bipush 50, 2) := by decide +kernel
theorem dX12_riverPart_146 : decode cX12_riverPart 146 = .ok (.invokevirtual 320, 3) := by decide +kernel
theorem dX12_riverPart_149 : decode cX12_riverPart 149 = .ok (.iastore, 1) := by decide +kernel
theorem dX12_riverPart_150 : decode cX12_riverPart 150 = .ok (.aload_n 0, 1) := by decide +kernel
theorem dX12_riverPart_151 : decode cX12_riverPart 151 = .ok (.getfield 79, 3) := by decide +kernel
theorem dX12_riverPart_154 : decode cX12_riverPart 154 = .ok (.iload_n 2, 1) := by decide +kernel
theorem dX12_riverPart_155 : decode cX12_riverPart 155 = .ok (.aload_n 0, 1) := by decide +kernel
theorem dX12_riverPart_156 : decode cX12_riverPart 156 = .ok (.iconst 0, 1) := by decide +kernel
theorem dX12_riverPart_157 : decode cX12_riverPart 157 = .ok (.bipush 99, 2) := by decide +kernel
theorem dX12_riverPart_159 : decode cX12_riverPart 159 = .ok (.invokevirtual 320, 3) := by decide +kernel
theorem dX12_riverPart_162 : decode cX12_riverPart 162 = .ok (.iastore, 1) := by decide +kernel
theorem dX12_riverPart_163 : decode cX12_riverPart 163 = .ok (.aload_n 0, 1) := by decide +kernel
theorem dX12_riverPart_164 : decode cX12_riverPart 164 = .ok (.getfield 82, 3) := by decide +kernel
theorem dX12_riverPart_167 : decode cX12_riverPart 167 = .ok (.iload_n 2, 1) := by decide +kernel
theorem dX12_riverPart_168 : decode cX12_riverPart 168 = .ok (.aload_n 0, 1) := by decide +kernel
theorem dX12_riverPart_169 : decode cX12_riverPart 169 = .ok (.iconst 0, 1) := by decide +kernel
theorem dX12_riverPart_170 : decode cX12_riverPart 170 = .ok (.bipush 9, 2) := by decide +kernel
theorem dX12_riverPart_172 : decode cX12_riverPart 172 = .ok (.invokevirtual 320, 3) := by decide +kernel
theorem dX12_riverPart_175 : decode cX12_riverPart 175 = .ok (.iastore, 1) := by decide +kernel
theorem dX12_riverPart_176 : decode cX12_riverPart 176 = .ok (.aload_n 0, 1) := by decide +kernel
theorem dX12_riverPart_177 : decode cX12_riverPart 177 = .ok (.getfield 64, 3) := by decide +kernel
theorem dX12_riverPart_180 : decode cX12_riverPart 180 = .ok (.iconst 3, 1) := by decide +kernel
theorem dX12_riverPart_181 : decode cX12_riverPart 181 = .ok (.dup2, 1) := by decide +kernel
theorem dX12_riverPart_182 : decode cX12_riverPart 182 = .ok (.iaload, 1) := by decide +kernel
theorem dX12_riverPart_183 : decode cX12_riverPart 183 = .ok (.iconst 1, 1) := by decide +kernel
theorem dX12_riverPart_184 : decode cX12_riverPart 184 = .ok (.iadd, 1) := by decide +kernel
theorem dX12_riverPart_185 : decode cX12_riverPart 185 = .ok (.iastore, 1) := by decide +kernel
theorem dX12_riverPart_186 : decode cX12_riverPart 186 = .ok (.goto 14, 3) := by decide +kernel
theorem dX12_riverPart_189 : decode cX12_riverPart 189 = .ok (.aload_n 0, 1) := by decide +kernel
theorem dX12_riverPart_190 : decode cX12_riverPart 190 = .ok (.invokevirtual 328, 3) := by decide +kernel
theorem dX12_riverPart_193 : decode cX12_riverPart 193 = .ok (.goto 7, 3) := by decide +kernel
theorem dX12_riverPart_196 : decode cX12_riverPart 196 = .ok (.aload_n 0, 1) := by decide +kernel
theorem dX12_riverPart_197 : decode cX12_riverPart 197 = .ok (.invokevirtual 331, 3) := by decide +kernel
theorem dX12_riverPart_200 : decode cX12_riverPart 200 = .ok (.return_, 1) := by decide +kernel
theorem dX12_isFull_0 : decode cX12_isFull 0 = .ok (.iload_n 2, 1) := by decide +kernel
theorem dX12_isFull_1 : decode cX12_isFull 1 = .ok (.bipush 40, 2) := by decide +kernel
theorem dX12_isFull_3 : decode cX12_isFull 3 = .ok (.if_icmp .eq 24, 3) := by decide +kernel
theorem dX12_isFull_6 : decode cX12_isFull 6 = .ok (.iload_n 1, 1) := by decide +kernel
theorem dX12_isFull_7 : decode cX12_isFull 7 = .ok (.ifCond .ne 7, 3) := by decide +kernel
theorem dX12_isFull_10 : decode cX12_isFull 10 = .ok (.iconst 1, 1) := by decide +kernel
theorem dX12_isFull_11 : decode cX12_isFull 11 = .ok (.goto 4, 3) := by decide +kernel
theorem dX12_isFull_14 : decode cX12_isFull 14 = .ok (.iconst 0, 1) := by decide +kernel
theorem dX12_isFull_15 : decode cX12_isFull 15 = .ok (.iload_n 2, 1) := by decide +kernel
theorem dX12_isFull_16 : decode cX12_isFull 16 = .ok (.ifCond .ne 7, 3) := by decide +kernel
theorem dX12_isFull_19 : decode cX12_isFull 19 = .ok (.iconst 1, 1) := by decide +kernel
theorem dX12_isFull_20 : decode cX12_isFull 20 = .ok (.goto 4, 3) := by decide +kernel
theorem dX12_isFull_23 : decode cX12_isFull 23 = .ok (.iconst 0, 1) := by decide +kernel
theorem dX12_isFull_24 : decode cX12_isFull 24 = .ok (.if_icmp .eq 5, 3) := by decide +kernel
theorem dX12_isFull_27 : decode cX12_isFull 27 = .ok (.iconst 1, 1) := by decide +kernel
theorem dX12_isFull_28 : decode cX12_isFull 28 = .ok (.ireturn, 1) := by decide +kernel
theorem dX12_isFull_29 : decode cX12_isFull 29 = .ok (.iload_n 1, 1) := by decide +kernel
theorem dX12_isFull_30 : decode cX12_isFull 30 = .ok (.tableswitch 98 1 4 #[30, 47, 64, 81], 30) := by decide +kernel
theorem dX12_isFull_60 : decode cX12_isFull 60 = .ok (.aload_n 0, 1) := by decide +kernel
theorem dX12_isFull_61 : decode cX12_isFull 61 = .ok (.getfield 64, 3) := by decide +kernel
theorem dX12_isFull_64 : decode cX12_isFull 64 = .ok (.iconst 2, 1) := by decide +kernel
theorem dX12_isFull_65 : decode cX12_isFull 65 = .ok (.iaload, 1) := by decide +kernel
theorem dX12_isFull_66 : decode cX12_isFull 66 = .ok (.bipush 6, 2) := by decide +kernel
theorem dX12_isFull_68 : decode cX12_isFull 68 = .ok (.if_icmp .ne 7, 3) := by decide +kernel
theorem dX12_isFull_71 : decode cX12_isFull 71 = .ok (.iconst 1, 1) := by decide +kernel
theorem dX12_isFull_72 : decode cX12_isFull 72 = .ok (.goto 4, 3) := by decide +kernel
theorem dX12_isFull_75 : decode cX12_isFull 75 = .ok (.iconst 0, 1) := by decide +kernel
theorem dX12_isFull_76 : decode cX12_isFull 76 = .ok (.ireturn, 1) := by decide +kernel
theorem dX12_isFull_77 : decode cX12_isFull 77 = .ok (.aload_n 0, 1) := by decide +kernel
theorem dX12_isFull_78 : decode cX12_isFull 78 = .ok (.getfield 64, 3) := by decide +kernel
theorem dX12_isFull_81 : decode cX12_isFull 81 = .ok (.iconst 3, 1) := by decide +kernel
theorem dX12_isFull_82 : decode cX12_isFull 82 = .ok (.iaload, 1) := by decide +kernel
theorem dX12_isFull_83 : decode cX12_isFull 83 = .ok (.bipush 8, 2) := by decide +kernel
theorem dX12_isFull_85 : decode cX12_isFull 85 = .ok (.if_icmp .ne 7, 3) := by decide +kernel
theorem dX12_isFull_88 : decode cX12_isFull 88 = .ok (.iconst 1, 1) := by decide +kernel
theorem dX12_isFull_89 : decode cX12_isFull 89 = .ok (.goto 4, 3) := by decide +kernel
theorem dX12_isFull_92 : decode cX12_isFull 92 = .ok (.iconst 0, 1) := by decide +kernel
theorem dX12_isFull_93 : decode cX12_isFull 93 = .ok (.ireturn, 1) := by decide +kernel
theorem dX12_isFull_94 : decode cX12_isFull 94 = .ok (.aload_n 0, 1) := by decide +kernel
theorem dX12_isFull_95 : decode cX12_isFull 95 = .ok (.getfield 64, 3) := by decide +kernel
theorem dX12_isFull_98 : decode cX12_isFull 98 = .ok (.iconst 4, 1) := by decide +kernel
theorem dX12_isFull_99 : decode cX12_isFull 99 = .ok (.iaload, 1) := by decide +kernel
theorem dX12_isFull_100 : decode cX12_isFull 100 = .ok (.bipush 12, 2) := by decide +kernel
theorem dX12_isFull_102 : decode cX12_isFull 102 = .ok (.if_icmp .ne 7, 3) := by decide +kernel
theorem dX12_isFull_105 : decode cX12_isFull 105 = .ok (.iconst 1, 1) := by decide +kernel
theorem dX12_isFull_106 : decode cX12_isFull 106 = .ok (.goto 4, 3) := by decide +kernel
theorem dX12_isFull_109 : decode cX12_isFull 109 = .ok (.iconst 0, 1) := by decide +kernel
theorem dX12_isFull_110 : decode cX12_isFull 110 = .ok (.ireturn, 1) := by decide +kernel
theorem dX12_isFull_111 : decode cX12_isFull 111 = .ok (.aload_n 0, 1) := by decide +kernel
theorem dX12_isFull_112 : decode cX12_isFull 112 = .ok (.getfield 64, 3) := by decide +kernel
theorem dX12_isFull_115 : decode cX12_isFull 115 = .ok (.iconst 5, 1) := by decide +kernel
theorem dX12_isFull_116 : decode cX12_isFull 116 = .ok (.iaload, 1) := by decide +kernel
theorem dX12_isFull_117 : decode cX12_isFull 117 = .ok (.bipush 6, 2) := by decide +kernel
theorem dX12_isFull_119 : decode cX12_isFull 119 = .ok (.if_icmp .ne 7, 3) := by decide +kernel
theorem dX12_isFull_122 : decode cX12_isFull 122 = .ok (.iconst 1, 1) := by decide +kernel
theorem dX12_isFull_123 : decode cX12_isFull 123 = .ok (.goto 4, 3) := by decide +kernel
theorem dX12_isFull_126 : decode cX12_isFull 126 = .ok (.iconst 0, 1) := by decide +kernel
theorem dX12_isFull_127 : decode cX12_isFull 127 = .ok (.ireturn, 1) := by decide +kernel
theorem dX12_isFull_128 : decode cX12_isFull 128 = .ok (.iconst 0, 1) := by decide +kernel
theorem dX12_isFull_129 : decode cX12_isFull 129 = .ok (.ireturn, 1) := by decide +kernel
theorem dX12_riverClause_0 : decode cX12_riverClause 0 = .ok (.aload_n 0, 1) := by decide +kernel
theorem dX12_riverClause_1 : decode cX12_riverClause 1 = .ok (.invokevirtual 235, 3) := by decide +kernel
theorem dX12_riverClause_4 : decode cX12_riverClause 4 = .ok (.aload_n 0, 1) := by decide +kernel
theorem dX12_riverClause_5 : decode cX12_riverClause 5 = .ok (.getfield 215, 3) := by decide +kernel
theorem dX12_riverClause_8 : decode cX12_riverClause 8 = .ok (.istore_n 2, 1) := by decide +kernel
theorem dX12_riverClause_9 : decode cX12_riverClause 9 = .ok (.iconst 0, 1) := by decide +kernel
theorem dX12_riverClause_10 : decode cX12_riverClause 10 = .ok (.istore_n 3, 1) := by decide +kernel
theorem dX12_riverClause_11 : decode cX12_riverClause 11 = .ok (.iload_n 3, 1) := by decide +kernel
theorem dX12_riverClause_12 : decode cX12_riverClause 12 = .ok (.iconst 5, 1) := by decide +kernel
theorem dX12_riverClause_13 : decode cX12_riverClause 13 = .ok (.if_icmp .ge 20, 3) := by decide +kernel
theorem dX12_riverClause_16 : decode cX12_riverClause 16 = .ok (.aload_n 0, 1) := by decide +kernel
theorem dX12_riverClause_17 : decode cX12_riverClause 17 = .ok (.iload_n 3, 1) := by decide +kernel
theorem dX12_riverClause_18 : decode cX12_riverClause 18 = .ok (.invokestatic 334, 3) := by decide +kernel
theorem dX12_riverClause_21 : decode cX12_riverClause 21 = .ok (.invokevirtual 238, 3) := by decide +kernel
theorem dX12_riverClause_24 : decode cX12_riverClause 24 = .ok (.ifCond .ne 9, 3) := by decide +kernel
theorem dX12_riverClause_27 : decode cX12_riverClause 27 = .ok (.iinc 3 1, 3) := by decide +kernel
theorem dX12_riverClause_30 : decode cX12_riverClause 30 = .ok (.goto (-19), 3) := by decide +kernel
theorem dX12_riverClause_33 : decode cX12_riverClause 33 = .ok (.iload_n 3, 1) := by decide +kernel
theorem dX12_riverClause_34 : decode cX12_riverClause 34 = .ok (.iconst 5, 1) := by decide +kernel
theorem dX12_riverClause_35 : decode cX12_riverClause 35 = .ok (.if_icmp .ne 10, 3) := by decide +kernel
theorem dX12_riverClause_38 : decode cX12_riverClause 38 = .ok (.aload_n 0, 1) := by decide +kernel
theorem dX12_riverClause_39 : decode cX12_riverClause 39 = .ok (.iconst 0, 1) := by decide +kernel
theorem dX12_riverClause_40 : decode cX12_riverClause 40 = .ok (.iload_n 2, 1) := by decide +kernel
theorem dX12_riverClause_41 : decode cX12_riverClause 41 = .ok (.invokevirtual 251, 3) := by decide +kernel
theorem dX12_riverClause_44 : decode cX12_riverClause 44 = .ok (.return_, 1) := by decide +kernel
theorem dX12_riverClause_45 : decode cX12_riverClause 45 = .ok (.aload_n 0, 1) := by decide +kernel
theorem dX12_riverClause_46 : decode cX12_riverClause 46 = .ok (.iload_n 3, 1) := by decide +kernel
theorem dX12_riverClause_47 : decode cX12_riverClause 47 = .ok (.iload_n 1, 1) := by decide +kernel
theorem dX12_riverClause_48 : decode cX12_riverClause 48 = .ok (.invokevirtual 337, 3) := by decide +kernel
theorem dX12_riverClause_51 : decode cX12_riverClause 51 = .ok (.ifCond .eq 10, 3) := by decide +kernel
theorem dX12_riverClause_54 : decode cX12_riverClause 54 = .ok (.aload_n 0, 1) := by decide +kernel
theorem dX12_riverClause_55 : decode cX12_riverClause 55 = .ok (.iconst 4, 1) := by decide +kernel
theorem dX12_riverClause_56 : decode cX12_riverClause 56 = .ok (.iload_n 2, 1) := by decide +kernel
theorem dX12_riverClause_57 : decode cX12_riverClause 57 = .ok (.invokevirtual 251, 3) := by decide +kernel
theorem dX12_riverClause_60 : decode cX12_riverClause 60 = .ok (.return_, 1) := by decide +kernel
theorem dX12_riverClause_61 : decode cX12_riverClause 61 = .ok (.aload_n 0, 1) := by decide +kernel
theorem dX12_riverClause_62 : decode cX12_riverClause 62 = .ok (.dup, 1) := by decide +kernel
theorem dX12_riverClause_63 : decode cX12_riverClause 63 = .ok (.getfield 215, 3) := by decide +kernel
theorem dX12_riverClause_66 : decode cX12_riverClause 66 = .ok (.iload_n 3, 1) := by decide +kernel
theorem dX12_riverClause_67 : decode cX12_riverClause 67 = .ok (.invokestatic 334, 3) := by decide +kernel
theorem dX12_riverClause_70 : decode cX12_riverClause 70 = .ok (.invokevirtual 226, 3) := by decide +kernel
theorem dX12_riverClause_73 : decode cX12_riverClause 73 = .ok (.iadd, 1) := by decide +kernel
theorem dX12_riverClause_74 : decode cX12_riverClause 74 = .ok (.putfield 215, 3) := by decide +kernel
theorem dX12_riverClause_77 : decode cX12_riverClause 77 = .ok (.aload_n 0, 1) := by decide +kernel
theorem dX12_riverClause_78 : decode cX12_riverClause 78 = .ok (.iload_n 3, 1) := by decide +kernel
theorem dX12_riverClause_79 : decode cX12_riverClause 79 = .ok (.invokevirtual 340, 3) := by decide +kernel
theorem dX12_riverClause_82 : decode cX12_riverClause 82 = .ok (.return_, 1) := by decide +kernel
theorem dX12_copies_0 : decode cX12_copies 0 = .ok (.iconst 0, 1) := by decide +kernel
theorem dX12_copies_1 : decode cX12_copies 1 = .ok (.istore_n 2, 1) := by decide +kernel
theorem dX12_copies_2 : decode cX12_copies 2 = .ok (.iload_n 2, 1) := by decide +kernel
theorem dX12_copies_3 : decode cX12_copies 3 = .ok (.aload_n 0, 1) := by decide +kernel
theorem dX12_copies_4 : decode cX12_copies 4 = .ok (.arraylength, 1) := by decide +kernel
theorem dX12_copies_5 : decode cX12_copies 5 = .ok (.if_icmp .ge 15, 3) := by decide +kernel
theorem dX12_copies_8 : decode cX12_copies 8 = .ok (.aload_n 1, 1) := by decide +kernel
theorem dX12_copies_9 : decode cX12_copies 9 = .ok (.iload_n 2, 1) := by decide +kernel
theorem dX12_copies_10 : decode cX12_copies 10 = .ok (.aload_n 0, 1) := by decide +kernel
theorem dX12_copies_11 : decode cX12_copies 11 = .ok (.iload_n 2, 1) := by decide +kernel
theorem dX12_copies_12 : decode cX12_copies 12 = .ok (.iaload, 1) := by decide +kernel
theorem dX12_copies_13 : decode cX12_copies 13 = .ok (.iastore, 1) := by decide +kernel
theorem dX12_copies_14 : decode cX12_copies 14 = .ok (.iinc 2 1, 3) := by decide +kernel
theorem dX12_copies_17 : decode cX12_copies 17 = .ok (.goto (-15), 3) := by decide +kernel
theorem dX12_copies_20 : decode cX12_copies 20 = .ok (.return_, 1) := by decide +kernel
theorem dX12_goesOn_0 : decode cX12_goesOn 0 = .ok (.aload_n 0, 1) := by decide +kernel
theorem dX12_goesOn_1 : decode cX12_goesOn 1 = .ok (.invokevirtual 235, 3) := by decide +kernel
theorem dX12_goesOn_4 : decode cX12_goesOn 4 = .ok (.aload_n 0, 1) := by decide +kernel
theorem dX12_goesOn_5 : decode cX12_goesOn 5 = .ok (.getfield 212, 3) := by decide +kernel
theorem dX12_goesOn_8 : decode cX12_goesOn 8 = .ok (.ifCond .ne 32, 3) := by decide +kernel
theorem dX12_goesOn_11 : decode cX12_goesOn 11 = .ok (.aload_n 0, 1) := by decide +kernel
theorem dX12_goesOn_12 : decode cX12_goesOn 12 = .ok (.getfield 215, 3) := by decide +kernel
theorem dX12_goesOn_15 : decode cX12_goesOn 15 = .ok (.aload_n 0, 1) := by decide +kernel
theorem dX12_goesOn_16 : decode cX12_goesOn 16 = .ok (.getfield 184, 3) := by decide +kernel
theorem dX12_goesOn_19 : decode cX12_goesOn 19 = .ok (.if_icmp .ge 21, 3) := by decide +kernel
theorem dX12_goesOn_22 : decode cX12_goesOn 22 = .ok (.aload_n 0, 1) := by decide +kernel
theorem dX12_goesOn_23 : decode cX12_goesOn 23 = .ok (.invokevirtual 218, 3) := by decide +kernel
theorem dX12_goesOn_26 : decode cX12_goesOn 26 = .ok (.bipush 59, 2) := by decide +kernel
theorem dX12_goesOn_28 : decode cX12_goesOn 28 = .ok (.if_icmp .eq 12, 3) := by decide +kernel
theorem dX12_goesOn_31 : decode cX12_goesOn 31 = .ok (.aload_n 0, 1) := by decide +kernel
theorem dX12_goesOn_32 : decode cX12_goesOn 32 = .ok (.iconst 0, 1) := by decide +kernel
theorem dX12_goesOn_33 : decode cX12_goesOn 33 = .ok (.aload_n 0, 1) := by decide +kernel
theorem dX12_goesOn_34 : decode cX12_goesOn 34 = .ok (.getfield 215, 3) := by decide +kernel
theorem dX12_goesOn_37 : decode cX12_goesOn 37 = .ok (.invokevirtual 251, 3) := by decide +kernel
theorem dX12_goesOn_40 : decode cX12_goesOn 40 = .ok (.aload_n 0, 1) := by decide +kernel
theorem dX12_goesOn_41 : decode cX12_goesOn 41 = .ok (.getfield 212, 3) := by decide +kernel
theorem dX12_goesOn_44 : decode cX12_goesOn 44 = .ok (.ifCond .ne 18, 3) := by decide +kernel
theorem dX12_goesOn_47 : decode cX12_goesOn 47 = .ok (.aload_n 0, 1) := by decide +kernel
theorem dX12_goesOn_48 : decode cX12_goesOn 48 = .ok (.getfield 215, 3) := by decide +kernel
theorem dX12_goesOn_51 : decode cX12_goesOn 51 = .ok (.aload_n 0, 1) := by decide +kernel
theorem dX12_goesOn_52 : decode cX12_goesOn 52 = .ok (.getfield 184, 3) := by decide +kernel
theorem dX12_goesOn_55 : decode cX12_goesOn 55 = .ok (.if_icmp .ge 7, 3) := by decide +kernel
theorem dX12_goesOn_58 : decode cX12_goesOn 58 = .ok (.iconst 1, 1) := by decide +kernel
theorem dX12_goesOn_59 : decode cX12_goesOn 59 = .ok (.goto 4, 3) := by decide +kernel
theorem dX12_goesOn_62 : decode cX12_goesOn 62 = .ok (.iconst 0, 1) := by decide +kernel
theorem dX12_goesOn_63 : decode cX12_goesOn 63 = .ok (.istore_n 1, 1) := by decide +kernel
theorem dX12_goesOn_64 : decode cX12_goesOn 64 = .ok (.aload_n 0, 1) := by decide +kernel
theorem dX12_goesOn_65 : decode cX12_goesOn 65 = .ok (.dup, 1) := by decide +kernel
theorem dX12_goesOn_66 : decode cX12_goesOn 66 = .ok (.getfield 215, 3) := by decide +kernel
theorem dX12_goesOn_69 : decode cX12_goesOn 69 = .ok (.iconst 1, 1) := by decide +kernel
theorem dX12_goesOn_70 : decode cX12_goesOn 70 = .ok (.iadd, 1) := by decide +kernel
theorem dX12_goesOn_71 : decode cX12_goesOn 71 = .ok (.putfield 215, 3) := by decide +kernel
theorem dX12_goesOn_74 : decode cX12_goesOn 74 = .ok (.iload_n 1, 1) := by decide +kernel
theorem dX12_goesOn_75 : decode cX12_goesOn 75 = .ok (.ireturn, 1) := by decide +kernel
theorem dX12_starts_0 : decode cX12_starts 0 = .ok (.aload_n 0, 1) := by decide +kernel
theorem dX12_starts_1 : decode cX12_starts 1 = .ok (.iconst 0, 1) := by decide +kernel
theorem dX12_starts_2 : decode cX12_starts 2 = .ok (.putfield 215, 3) := by decide +kernel
theorem dX12_starts_5 : decode cX12_starts 5 = .ok (.aload_n 0, 1) := by decide +kernel
theorem dX12_starts_6 : decode cX12_starts 6 = .ok (.iconst 0, 1) := by decide +kernel
theorem dX12_starts_7 : decode cX12_starts 7 = .ok (.putfield 212, 3) := by decide +kernel
theorem dX12_starts_10 : decode cX12_starts 10 = .ok (.aload_n 0, 1) := by decide +kernel
theorem dX12_starts_11 : decode cX12_starts 11 = .ok (.iconst 0, 1) := by decide +kernel
theorem dX12_starts_12 : decode cX12_starts 12 = .ok (.putfield 245, 3) := by decide +kernel
theorem dX12_starts_15 : decode cX12_starts 15 = .ok (.aload_n 0, 1) := by decide +kernel
theorem dX12_starts_16 : decode cX12_starts 16 = .ok (.iconst 0, 1) := by decide +kernel
theorem dX12_starts_17 : decode cX12_starts 17 = .ok (.putfield 286, 3) := by decide +kernel
theorem dX12_starts_20 : decode cX12_starts 20 = .ok (.aload_n 0, 1) := by decide +kernel
theorem dX12_starts_21 : decode cX12_starts 21 = .ok (.iconst 0, 1) := by decide +kernel
theorem dX12_starts_22 : decode cX12_starts 22 = .ok (.putfield 248, 3) := by decide +kernel
theorem dX12_starts_25 : decode cX12_starts 25 = .ok (.return_, 1) := by decide +kernel
theorem dX12_readsAll_0 : decode cX12_readsAll 0 = .ok (.aload_n 0, 1) := by decide +kernel
theorem dX12_readsAll_1 : decode cX12_readsAll 1 = .ok (.invokevirtual 343, 3) := by decide +kernel
theorem dX12_readsAll_4 : decode cX12_readsAll 4 = .ok (.iconst 0, 1) := by decide +kernel
theorem dX12_readsAll_5 : decode cX12_readsAll 5 = .ok (.istore_n 1, 1) := by decide +kernel
theorem dX12_readsAll_6 : decode cX12_readsAll 6 = .ok (.iload_n 1, 1) := by decide +kernel
theorem dX12_readsAll_7 : decode cX12_readsAll 7 = .ok (.bipush 6, 2) := by decide +kernel
theorem dX12_readsAll_9 : decode cX12_readsAll 9 = .ok (.if_icmp .ge 16, 3) := by decide +kernel
theorem dX12_readsAll_12 : decode cX12_readsAll 12 = .ok (.aload_n 0, 1) := by decide +kernel
theorem dX12_readsAll_13 : decode cX12_readsAll 13 = .ok (.getfield 64, 3) := by decide +kernel
theorem dX12_readsAll_16 : decode cX12_readsAll 16 = .ok (.iload_n 1, 1) := by decide +kernel
theorem dX12_readsAll_17 : decode cX12_readsAll 17 = .ok (.iconst 0, 1) := by decide +kernel
theorem dX12_readsAll_18 : decode cX12_readsAll 18 = .ok (.iastore, 1) := by decide +kernel
theorem dX12_readsAll_19 : decode cX12_readsAll 19 = .ok (.iinc 1 1, 3) := by decide +kernel
theorem dX12_readsAll_22 : decode cX12_readsAll 22 = .ok (.goto (-16), 3) := by decide +kernel
theorem dX12_readsAll_25 : decode cX12_readsAll 25 = .ok (.iconst 0, 1) := by decide +kernel
theorem dX12_readsAll_26 : decode cX12_readsAll 26 = .ok (.istore_n 1, 1) := by decide +kernel
theorem dX12_readsAll_27 : decode cX12_readsAll 27 = .ok (.iconst 1, 1) := by decide +kernel
theorem dX12_readsAll_28 : decode cX12_readsAll 28 = .ok (.istore_n 2, 1) := by decide +kernel
theorem dX12_readsAll_29 : decode cX12_readsAll 29 = .ok (.iload_n 2, 1) := by decide +kernel
theorem dX12_readsAll_30 : decode cX12_readsAll 30 = .ok (.ifCond .eq 19, 3) := by decide +kernel
theorem dX12_readsAll_33 : decode cX12_readsAll 33 = .ok (.aload_n 0, 1) := by decide +kernel
theorem dX12_readsAll_34 : decode cX12_readsAll 34 = .ok (.iload_n 1, 1) := by decide +kernel
theorem dX12_readsAll_35 : decode cX12_readsAll 35 = .ok (.invokevirtual 346, 3) := by decide +kernel
theorem dX12_readsAll_38 : decode cX12_readsAll 38 = .ok (.iinc 1 1, 3) := by decide +kernel
theorem dX12_readsAll_41 : decode cX12_readsAll 41 = .ok (.aload_n 0, 1) := by decide +kernel
theorem dX12_readsAll_42 : decode cX12_readsAll 42 = .ok (.invokevirtual 349, 3) := by decide +kernel
theorem dX12_readsAll_45 : decode cX12_readsAll 45 = .ok (.istore_n 2, 1) := by decide +kernel
theorem dX12_readsAll_46 : decode cX12_readsAll 46 = .ok (.goto (-17), 3) := by decide +kernel
theorem dX12_readsAll_49 : decode cX12_readsAll 49 = .ok (.aload_n 0, 1) := by decide +kernel
theorem dX12_readsAll_50 : decode cX12_readsAll 50 = .ok (.iconst 0, 1) := by decide +kernel
theorem dX12_readsAll_51 : decode cX12_readsAll 51 = .ok (.putfield 184, 3) := by decide +kernel
theorem dX12_readsAll_54 : decode cX12_readsAll 54 = .ok (.return_, 1) := by decide +kernel
theorem dX12_river_0 : decode cX12_river 0 = .ok (.aload_n 0, 1) := by decide +kernel
theorem dX12_river_1 : decode cX12_river 1 = .ok (.invokevirtual 352, 3) := by decide +kernel
theorem dX12_river_4 : decode cX12_river 4 = .ok (.aload_n 0, 1) := by decide +kernel
theorem dX12_river_5 : decode cX12_river 5 = .ok (.getfield 212, 3) := by decide +kernel
theorem dX12_river_8 : decode cX12_river 8 = .ok (.ifCond .le 11, 3) := by decide +kernel
theorem dX12_river_11 : decode cX12_river 11 = .ok (.bipush (-2), 2) := by decide +kernel
theorem dX12_river_13 : decode cX12_river 13 = .ok (.aload_n 0, 1) := by decide +kernel
theorem dX12_river_14 : decode cX12_river 14 = .ok (.getfield 212, 3) := by decide +kernel
theorem dX12_river_17 : decode cX12_river 17 = .ok (.isub, 1) := by decide +kernel
theorem dX12_river_18 : decode cX12_river 18 = .ok (.ireturn, 1) := by decide +kernel
theorem dX12_river_19 : decode cX12_river 19 = .ok (.iconst 0, 1) := by decide +kernel
theorem dX12_river_20 : decode cX12_river 20 = .ok (.istore_n 1, 1) := by decide +kernel
theorem dX12_river_21 : decode cX12_river 21 = .ok (.iload_n 1, 1) := by decide +kernel
theorem dX12_river_22 : decode cX12_river 22 = .ok (.bipush 8, 2) := by decide +kernel
theorem dX12_river_24 : decode cX12_river 24 = .ok (.if_icmp .ge 31, 3) := by decide +kernel
theorem dX12_river_27 : decode cX12_river 27 = .ok (.aload_n 0, 1) := by decide +kernel
theorem dX12_river_28 : decode cX12_river 28 = .ok (.getfield 9, 3) := by decide +kernel
theorem dX12_river_31 : decode cX12_river 31 = .ok (.iload_n 1, 1) := by decide +kernel
theorem dX12_river_32 : decode cX12_river 32 = .ok (.iload_n 1, 1) := by decide +kernel
theorem dX12_river_33 : decode cX12_river 33 = .ok (.bipush 6, 2) := by decide +kernel
theorem dX12_river_35 : decode cX12_river 35 = .ok (.if_icmp .ge 12, 3) := by decide +kernel
theorem dX12_river_38 : decode cX12_river 38 = .ok (.aload_n 0, 1) := by decide +kernel
theorem dX12_river_39 : decode cX12_river 39 = .ok (.getfield 64, 3) := by decide +kernel
theorem dX12_river_42 : decode cX12_river 42 = .ok (.iload_n 1, 1) := by decide +kernel
theorem dX12_river_43 : decode cX12_river 43 = .ok (.iaload, 1) := by decide +kernel
theorem dX12_river_44 : decode cX12_river 44 = .ok (.goto 4, 3) := by decide +kernel
theorem dX12_river_47 : decode cX12_river 47 = .ok (.iconst 0, 1) := by decide +kernel
theorem dX12_river_48 : decode cX12_river 48 = .ok (.iastore, 1) := by decide +kernel
theorem dX12_river_49 : decode cX12_river 49 = .ok (.iinc 1 1, 3) := by decide +kernel
theorem dX12_river_52 : decode cX12_river 52 = .ok (.goto (-31), 3) := by decide +kernel
theorem dX12_river_55 : decode cX12_river 55 = .ok (.aload_n 0, 1) := by decide +kernel
theorem dX12_river_56 : decode cX12_river 56 = .ok (.getfield 67, 3) := by decide +kernel
theorem dX12_river_59 : decode cX12_river 59 = .ok (.aload_n 0, 1) := by decide +kernel
theorem dX12_river_60 : decode cX12_river 60 = .ok (.getfield 13, 3) := by decide +kernel
theorem dX12_river_63 : decode cX12_river 63 = .ok (.invokestatic 355, 3) := by decide +kernel
theorem dX12_river_66 : decode cX12_river 66 = .ok (.aload_n 0, 1) := by decide +kernel
theorem dX12_river_67 : decode cX12_river 67 = .ok (.getfield 70, 3) := by decide +kernel
theorem dX12_river_70 : decode cX12_river 70 = .ok (.aload_n 0, 1) := by decide +kernel
theorem dX12_river_71 : decode cX12_river 71 = .ok (.getfield 16, 3) := by decide +kernel
theorem dX12_river_74 : decode cX12_river 74 = .ok (.invokestatic 355, 3) := by decide +kernel
theorem dX12_river_77 : decode cX12_river 77 = .ok (.aload_n 0, 1) := by decide +kernel
theorem dX12_river_78 : decode cX12_river 78 = .ok (.getfield 73, 3) := by decide +kernel
theorem dX12_river_81 : decode cX12_river 81 = .ok (.aload_n 0, 1) := by decide +kernel
theorem dX12_river_82 : decode cX12_river 82 = .ok (.getfield 22, 3) := by decide +kernel
theorem dX12_river_85 : decode cX12_river 85 = .ok (.invokestatic 355, 3) := by decide +kernel
theorem dX12_river_88 : decode cX12_river 88 = .ok (.aload_n 0, 1) := by decide +kernel
theorem dX12_river_89 : decode cX12_river 89 = .ok (.getfield 76, 3) := by decide +kernel
theorem dX12_river_92 : decode cX12_river 92 = .ok (.aload_n 0, 1) := by decide +kernel
theorem dX12_river_93 : decode cX12_river 93 = .ok (.getfield 25, 3) := by decide +kernel
theorem dX12_river_96 : decode cX12_river 96 = .ok (.invokestatic 355, 3) := by decide +kernel
theorem dX12_river_99 : decode cX12_river 99 = .ok (.aload_n 0, 1) := by decide +kernel
theorem dX12_river_100 : decode cX12_river 100 = .ok (.getfield 79, 3) := by decide +kernel
theorem dX12_river_103 : decode cX12_river 103 = .ok (.aload_n 0, 1) := by decide +kernel
theorem dX12_river_104 : decode cX12_river 104 = .ok (.getfield 28, 3) := by decide +kernel
theorem dX12_river_107 : decode cX12_river 107 = .ok (.invokestatic 355, 3) := by decide +kernel
theorem dX12_river_110 : decode cX12_river 110 = .ok (.aload_n 0, 1) := by decide +kernel
theorem dX12_river_111 : decode cX12_river 111 = .ok (.getfield 82, 3) := by decide +kernel
theorem dX12_river_114 : decode cX12_river 114 = .ok (.aload_n 0, 1) := by decide +kernel
theorem dX12_river_115 : decode cX12_river 115 = .ok (.getfield 31, 3) := by decide +kernel
theorem dX12_river_118 : decode cX12_river 118 = .ok (.invokestatic 355, 3) := by decide +kernel
theorem dX12_river_121 : decode cX12_river 121 = .ok (.aload_n 0, 1) := by decide +kernel
theorem dX12_river_122 : decode cX12_river 122 = .ok (.getfield 85, 3) := by decide +kernel
theorem dX12_river_125 : decode cX12_river 125 = .ok (.aload_n 0, 1) := by decide +kernel
theorem dX12_river_126 : decode cX12_river 126 = .ok (.getfield 40, 3) := by decide +kernel
theorem dX12_river_129 : decode cX12_river 129 = .ok (.invokestatic 355, 3) := by decide +kernel
theorem dX12_river_132 : decode cX12_river 132 = .ok (.aload_n 0, 1) := by decide +kernel
theorem dX12_river_133 : decode cX12_river 133 = .ok (.getfield 88, 3) := by decide +kernel
theorem dX12_river_136 : decode cX12_river 136 = .ok (.aload_n 0, 1) := by decide +kernel
theorem dX12_river_137 : decode cX12_river 137 = .ok (.getfield 43, 3) := by decide +kernel
theorem dX12_river_140 : decode cX12_river 140 = .ok (.invokestatic 355, 3) := by decide +kernel
theorem dX12_river_143 : decode cX12_river 143 = .ok (.aload_n 0, 1) := by decide +kernel
theorem dX12_river_144 : decode cX12_river 144 = .ok (.getfield 91, 3) := by decide +kernel
theorem dX12_river_147 : decode cX12_river 147 = .ok (.aload_n 0, 1) := by decide +kernel
theorem dX12_river_148 : decode cX12_river 148 = .ok (.getfield 46, 3) := by decide +kernel
theorem dX12_river_151 : decode cX12_river 151 = .ok (.invokestatic 355, 3) := by decide +kernel
theorem dX12_river_154 : decode cX12_river 154 = .ok (.aload_n 0, 1) := by decide +kernel
theorem dX12_river_155 : decode cX12_river 155 = .ok (.getfield 94, 3) := by decide +kernel
theorem dX12_river_158 : decode cX12_river 158 = .ok (.aload_n 0, 1) := by decide +kernel
theorem dX12_river_159 : decode cX12_river 159 = .ok (.getfield 49, 3) := by decide +kernel
theorem dX12_river_162 : decode cX12_river 162 = .ok (.invokestatic 355, 3) := by decide +kernel
theorem dX12_river_165 : decode cX12_river 165 = .ok (.aload_n 0, 1) := by decide +kernel
theorem dX12_river_166 : decode cX12_river 166 = .ok (.getfield 97, 3) := by decide +kernel
theorem dX12_river_169 : decode cX12_river 169 = .ok (.aload_n 0, 1) := by decide +kernel
theorem dX12_river_170 : decode cX12_river 170 = .ok (.getfield 52, 3) := by decide +kernel
theorem dX12_river_173 : decode cX12_river 173 = .ok (.invokestatic 355, 3) := by decide +kernel
theorem dX12_river_176 : decode cX12_river 176 = .ok (.iconst 0, 1) := by decide +kernel
theorem dX12_river_177 : decode cX12_river 177 = .ok (.istore_n 1, 1) := by decide +kernel
theorem dX12_river_178 : decode cX12_river 178 = .ok (.iload_n 1, 1) := by decide +kernel
theorem dX12_river_179 : decode cX12_river 179 = .ok (.bipush 6, 2) := by decide +kernel
theorem dX12_river_181 : decode cX12_river 181 = .ok (.if_icmp .ge 16, 3) := by decide +kernel
theorem dX12_river_184 : decode cX12_river 184 = .ok (.aload_n 0, 1) := by decide +kernel
theorem dX12_river_185 : decode cX12_river 185 = .ok (.getfield 19, 3) := by decide +kernel
theorem dX12_river_188 : decode cX12_river 188 = .ok (.iload_n 1, 1) := by decide +kernel
theorem dX12_river_189 : decode cX12_river 189 = .ok (.iconst 0, 1) := by decide +kernel
theorem dX12_river_190 : decode cX12_river 190 = .ok (.iastore, 1) := by decide +kernel
theorem dX12_river_191 : decode cX12_river 191 = .ok (.iinc 1 1, 3) := by decide +kernel
theorem dX12_river_194 : decode cX12_river 194 = .ok (.goto (-16), 3) := by decide +kernel
theorem dX12_river_197 : decode cX12_river 197 = .ok (.iconst 0, 1) := by decide +kernel
theorem dX12_river_198 : decode cX12_river 198 = .ok (.istore_n 1, 1) := by decide +kernel
theorem dX12_river_199 : decode cX12_river 199 = .ok (.iload_n 1, 1) := by decide +kernel
theorem dX12_river_200 : decode cX12_river 200 = .ok (.bipush 8, 2) := by decide +kernel
theorem dX12_river_202 : decode cX12_river 202 = .ok (.if_icmp .ge 24, 3) := by decide +kernel
theorem dX12_river_205 : decode cX12_river 205 = .ok (.aload_n 0, 1) := by decide +kernel
theorem dX12_river_206 : decode cX12_river 206 = .ok (.getfield 34, 3) := by decide +kernel
theorem dX12_river_209 : decode cX12_river 209 = .ok (.iload_n 1, 1) := by decide +kernel
theorem dX12_river_210 : decode cX12_river 210 = .ok (.iconst 0, 1) := by decide +kernel
theorem dX12_river_211 : decode cX12_river 211 = .ok (.iastore, 1) := by decide +kernel
theorem dX12_river_212 : decode cX12_river 212 = .ok (.aload_n 0, 1) := by decide +kernel
theorem dX12_river_213 : decode cX12_river 213 = .ok (.getfield 37, 3) := by decide +kernel
theorem dX12_river_216 : decode cX12_river 216 = .ok (.iload_n 1, 1) := by decide +kernel
theorem dX12_river_217 : decode cX12_river 217 = .ok (.bipush (-2), 2) := by decide +kernel
theorem dX12_river_219 : decode cX12_river 219 = .ok (.iastore, 1) := by decide +kernel
theorem dX12_river_220 : decode cX12_river 220 = .ok (.iinc 1 1, 3) := by decide +kernel
theorem dX12_river_223 : decode cX12_river 223 = .ok (.goto (-24), 3) := by decide +kernel
theorem dX12_river_226 : decode cX12_river 226 = .ok (.aload_n 0, 1) := by decide +kernel
theorem dX12_river_227 : decode cX12_river 227 = .ok (.iconst 0, 1) := by decide +kernel
theorem dX12_river_228 : decode cX12_river 228 = .ok (.putfield 359, 3) := by decide +kernel
theorem dX12_river_231 : decode cX12_river 231 = .ok (.aload_n 0, 1) := by decide +kernel
theorem dX12_river_232 : decode cX12_river 232 = .ok (.getfield 9, 3) := by decide +kernel
theorem dX12_river_235 : decode cX12_river 235 = .ok (.iconst 3, 1) := by decide +kernel
theorem dX12_river_236 : decode cX12_river 236 = .ok (.iaload, 1) := by decide +kernel
theorem dX12_river_237 : decode cX12_river 237 = .ok (.ireturn, 1) := by decide +kernel
theorem dX12_ruleClause_0 : decode cX12_ruleClause 0 = .ok (.aload_n 0, 1) := by decide +kernel
theorem dX12_ruleClause_1 : decode cX12_ruleClause 1 = .ok (.invokevirtual 235, 3) := by decide +kernel
theorem dX12_ruleClause_4 : decode cX12_ruleClause 4 = .ok (.aload_n 0, 1) := by decide +kernel
theorem dX12_ruleClause_5 : decode cX12_ruleClause 5 = .ok (.getfield 215, 3) := by decide +kernel
theorem dX12_ruleClause_8 : decode cX12_ruleClause 8 = .ok (.istore_n 2, 1) := by decide +kernel
theorem dX12_ruleClause_9 : decode cX12_ruleClause 9 = .ok (.aload_n 0, 1) := by decide +kernel
theorem dX12_ruleClause_10 : decode cX12_ruleClause 10 = .ok (.ldc_w 362, 3) := by decide +kernel
theorem dX12_ruleClause_13 : decode cX12_ruleClause 13 = .ok (.invokevirtual 238, 3) := by decide +kernel
theorem dX12_ruleClause_16 : decode cX12_ruleClause 16 = .ok (.ifCond .ne 10, 3) := by decide +kernel
theorem dX12_ruleClause_19 : decode cX12_ruleClause 19 = .ok (.aload_n 0, 1) := by decide +kernel
theorem dX12_ruleClause_20 : decode cX12_ruleClause 20 = .ok (.iconst 0, 1) := by decide +kernel
theorem dX12_ruleClause_21 : decode cX12_ruleClause 21 = .ok (.iload_n 2, 1) := by decide +kernel
theorem dX12_ruleClause_22 : decode cX12_ruleClause 22 = .ok (.invokevirtual 251, 3) := by decide +kernel
theorem dX12_ruleClause_25 : decode cX12_ruleClause 25 = .ok (.return_, 1) := by decide +kernel
theorem dX12_ruleClause_26 : decode cX12_ruleClause 26 = .ok (.iload_n 1, 1) := by decide +kernel
theorem dX12_ruleClause_27 : decode cX12_ruleClause 27 = .ok (.bipush 12, 2) := by decide +kernel
theorem dX12_ruleClause_29 : decode cX12_ruleClause 29 = .ok (.if_icmp .ne 10, 3) := by decide +kernel
theorem dX12_ruleClause_32 : decode cX12_ruleClause 32 = .ok (.aload_n 0, 1) := by decide +kernel
theorem dX12_ruleClause_33 : decode cX12_ruleClause 33 = .ok (.iconst 4, 1) := by decide +kernel
theorem dX12_ruleClause_34 : decode cX12_ruleClause 34 = .ok (.iload_n 2, 1) := by decide +kernel
theorem dX12_ruleClause_35 : decode cX12_ruleClause 35 = .ok (.invokevirtual 251, 3) := by decide +kernel
theorem dX12_ruleClause_38 : decode cX12_ruleClause 38 = .ok (.return_, 1) := by decide +kernel
theorem dX12_ruleClause_39 : decode cX12_ruleClause 39 = .ok (.aload_n 0, 1) := by decide +kernel
theorem dX12_ruleClause_40 : decode cX12_ruleClause 40 = .ok (.dup, 1) := by decide +kernel
theorem dX12_ruleClause_41 : decode cX12_ruleClause 41 = .ok (.getfield 215, 3) := by decide +kernel
theorem dX12_ruleClause_44 : decode cX12_ruleClause 44 = .ok (.iconst 3, 1) := by decide +kernel
theorem dX12_ruleClause_45 : decode cX12_ruleClause 45 = .ok (.iadd, 1) := by decide +kernel
theorem dX12_ruleClause_46 : decode cX12_ruleClause 46 = .ok (.putfield 215, 3) := by decide +kernel
theorem dX12_ruleClause_49 : decode cX12_ruleClause 49 = .ok (.bipush 12, 2) := by decide +kernel
theorem dX12_ruleClause_51 : decode cX12_ruleClause 51 = .ok (.aload_n 0, 1) := by decide +kernel
theorem dX12_ruleClause_52 : decode cX12_ruleClause 52 = .ok (.getfield 242, 3) := by decide +kernel
theorem dX12_ruleClause_55 : decode cX12_ruleClause 55 = .ok (.imul, 1) := by decide +kernel
theorem dX12_ruleClause_56 : decode cX12_ruleClause 56 = .ok (.iload_n 1, 1) := by decide +kernel
theorem dX12_ruleClause_57 : decode cX12_ruleClause 57 = .ok (.iadd, 1) := by decide +kernel
theorem dX12_ruleClause_58 : decode cX12_ruleClause 58 = .ok (.istore_n 3, 1) := by decide +kernel
theorem dX12_ruleClause_59 : decode cX12_ruleClause 59 = .ok (.aload_n 0, 1) := by decide +kernel
theorem dX12_ruleClause_60 : decode cX12_ruleClause 60 = .ok (.getfield 117, 3) := by decide +kernel
theorem dX12_ruleClause_63 : decode cX12_ruleClause 63 = .ok (.iload_n 3, 1) := by decide +kernel
theorem dX12_ruleClause_64 : decode cX12_ruleClause 64 = .ok (.aload_n 0, 1) := by decide +kernel
theorem dX12_ruleClause_65 : decode cX12_ruleClause 65 = .ok (.getfield 245, 3) := by decide +kernel
theorem dX12_ruleClause_68 : decode cX12_ruleClause 68 = .ok (.iastore, 1) := by decide +kernel
theorem dX12_ruleClause_69 : decode cX12_ruleClause 69 = .ok (.aload_n 0, 1) := by decide +kernel
theorem dX12_ruleClause_70 : decode cX12_ruleClause 70 = .ok (.invokevirtual 280, 3) := by decide +kernel
theorem dX12_ruleClause_73 : decode cX12_ruleClause 73 = .ok (.aload_n 0, 1) := by decide +kernel
theorem dX12_ruleClause_74 : decode cX12_ruleClause 74 = .ok (.getfield 120, 3) := by decide +kernel
theorem dX12_ruleClause_77 : decode cX12_ruleClause 77 = .ok (.iload_n 3, 1) := by decide +kernel
theorem dX12_ruleClause_78 : decode cX12_ruleClause 78 = .ok (.aload_n 0, 1) := by decide +kernel
theorem dX12_ruleClause_79 : decode cX12_ruleClause 79 = .ok (.getfield 245, 3) := by decide +kernel
theorem dX12_ruleClause_82 : decode cX12_ruleClause 82 = .ok (.iastore, 1) := by decide +kernel
theorem dX12_ruleClause_83 : decode cX12_ruleClause 83 = .ok (.aload_n 0, 1) := by decide +kernel
theorem dX12_ruleClause_84 : decode cX12_ruleClause 84 = .ok (.getfield 212, 3) := by decide +kernel
theorem dX12_ruleClause_87 : decode cX12_ruleClause 87 = .ok (.ifCond .ne 17, 3) := by decide +kernel
theorem dX12_ruleClause_90 : decode cX12_ruleClause 90 = .ok (.aload_n 0, 1) := by decide +kernel
theorem dX12_ruleClause_91 : decode cX12_ruleClause 91 = .ok (.ldc_w 364, 3) := by decide +kernel
theorem dX12_ruleClause_94 : decode cX12_ruleClause 94 = .ok (.invokevirtual 366, 3) := by decide +kernel
theorem dX12_ruleClause_97 : decode cX12_ruleClause 97 = .ok (.ifCond .eq 7, 3) := by decide +kernel
theorem dX12_ruleClause_100 : decode cX12_ruleClause 100 = .ok (.aload_n 0, 1) := by decide +kernel
theorem dX12_ruleClause_101 : decode cX12_ruleClause 101 = .ok (.invokevirtual 369, 3) := by decide +kernel
theorem dX12_ruleClause_104 : decode cX12_ruleClause 104 = .ok (.aload_n 0, 1) := by decide +kernel
theorem dX12_ruleClause_105 : decode cX12_ruleClause 105 = .ok (.getfield 123, 3) := by decide +kernel
theorem dX12_ruleClause_108 : decode cX12_ruleClause 108 = .ok (.iload_n 3, 1) := by decide +kernel
theorem dX12_ruleClause_109 : decode cX12_ruleClause 109 = .ok (.aload_n 0, 1) := by decide +kernel
theorem dX12_ruleClause_110 : decode cX12_ruleClause 110 = .ok (.getfield 245, 3) := by decide +kernel
theorem dX12_ruleClause_113 : decode cX12_ruleClause 113 = .ok (.iastore, 1) := by decide +kernel
theorem dX12_ruleClause_114 : decode cX12_ruleClause 114 = .ok (.return_, 1) := by decide +kernel
theorem dX12_rule_0 : decode cX12_rule 0 = .ok (.aload_n 0, 1) := by decide +kernel
theorem dX12_rule_1 : decode cX12_rule 1 = .ok (.getfield 372, 3) := by decide +kernel
theorem dX12_rule_4 : decode cX12_rule 4 = .ok (.bipush 6, 2) := by decide +kernel
theorem dX12_rule_6 : decode cX12_rule 6 = .ok (.if_icmp .ne 5, 3) := by decide +kernel
theorem dX12_rule_9 : decode cX12_rule 9 = .ok (.iconst (-1), 1) := by decide +kernel
theorem dX12_rule_10 : decode cX12_rule 10 = .ok (.ireturn, 1) := by decide +kernel
theorem dX12_rule_11 : decode cX12_rule 11 = .ok (.aload_n 0, 1) := by decide +kernel
theorem dX12_rule_12 : decode cX12_rule 12 = .ok (.aload_n 0, 1) := by decide +kernel
theorem dX12_rule_13 : decode cX12_rule 13 = .ok (.getfield 372, 3) := by decide +kernel
theorem dX12_rule_16 : decode cX12_rule 16 = .ok (.putfield 242, 3) := by decide +kernel
theorem dX12_rule_19 : decode cX12_rule 19 = .ok (.aload_n 0, 1) := by decide +kernel
theorem dX12_rule_20 : decode cX12_rule 20 = .ok (.invokevirtual 343, 3) := by decide +kernel
theorem dX12_rule_23 : decode cX12_rule 23 = .ok (.iconst 0, 1) := by decide +kernel
theorem dX12_rule_24 : decode cX12_rule 24 = .ok (.istore_n 1, 1) := by decide +kernel
theorem dX12_rule_25 : decode cX12_rule 25 = .ok (.iconst 1, 1) := by decide +kernel
theorem dX12_rule_26 : decode cX12_rule 26 = .ok (.istore_n 2, 1) := by decide +kernel
theorem dX12_rule_27 : decode cX12_rule 27 = .ok (.iload_n 2, 1) := by decide +kernel
theorem dX12_rule_28 : decode cX12_rule 28 = .ok (.ifCond .eq 19, 3) := by decide +kernel
theorem dX12_rule_31 : decode cX12_rule 31 = .ok (.aload_n 0, 1) := by decide +kernel
theorem dX12_rule_32 : decode cX12_rule 32 = .ok (.iload_n 1, 1) := by decide +kernel
theorem dX12_rule_33 : decode cX12_rule 33 = .ok (.invokevirtual 375, 3) := by decide +kernel
theorem dX12_rule_36 : decode cX12_rule 36 = .ok (.iinc 1 1, 3) := by decide +kernel
theorem dX12_rule_39 : decode cX12_rule 39 = .ok (.aload_n 0, 1) := by decide +kernel
theorem dX12_rule_40 : decode cX12_rule 40 = .ok (.invokevirtual 349, 3) := by decide +kernel
theorem dX12_rule_43 : decode cX12_rule 43 = .ok (.istore_n 2, 1) := by decide +kernel
theorem dX12_rule_44 : decode cX12_rule 44 = .ok (.goto (-17), 3) := by decide +kernel
theorem dX12_rule_47 : decode cX12_rule 47 = .ok (.aload_n 0, 1) := by decide +kernel
theorem dX12_rule_48 : decode cX12_rule 48 = .ok (.iconst 0, 1) := by decide +kernel
theorem dX12_rule_49 : decode cX12_rule 49 = .ok (.putfield 184, 3) := by decide +kernel
theorem dX12_rule_52 : decode cX12_rule 52 = .ok (.aload_n 0, 1) := by decide +kernel
theorem dX12_rule_53 : decode cX12_rule 53 = .ok (.getfield 114, 3) := by decide +kernel
theorem dX12_rule_56 : decode cX12_rule 56 = .ok (.aload_n 0, 1) := by decide +kernel
theorem dX12_rule_57 : decode cX12_rule 57 = .ok (.getfield 242, 3) := by decide +kernel
theorem dX12_rule_60 : decode cX12_rule 60 = .ok (.iload_n 1, 1) := by decide +kernel
theorem dX12_rule_61 : decode cX12_rule 61 = .ok (.iastore, 1) := by decide +kernel
theorem dX12_rule_62 : decode cX12_rule 62 = .ok (.aload_n 0, 1) := by decide +kernel
theorem dX12_rule_63 : decode cX12_rule 63 = .ok (.dup, 1) := by decide +kernel
theorem dX12_rule_64 : decode cX12_rule 64 = .ok (.getfield 372, 3) := by decide +kernel
theorem dX12_rule_67 : decode cX12_rule 67 = .ok (.aload_n 0, 1) := by decide +kernel
theorem dX12_rule_68 : decode cX12_rule 68 = .ok (.getfield 212, 3) := by decide +kernel
theorem dX12_rule_71 : decode cX12_rule 71 = .ok (.ifCond .ne 7, 3) := by decide +kernel
theorem dX12_rule_74 : decode cX12_rule 74 = .ok (.iconst 1, 1) := by decide +kernel
theorem dX12_rule_75 : decode cX12_rule 75 = .ok (.goto 4, 3) := by decide +kernel
theorem dX12_rule_78 : decode cX12_rule 78 = .ok (.iconst 0, 1) := by decide +kernel
theorem dX12_rule_79 : decode cX12_rule 79 = .ok (.iadd, 1) := by decide +kernel
theorem dX12_rule_80 : decode cX12_rule 80 = .ok (.putfield 372, 3) := by decide +kernel
theorem dX12_rule_83 : decode cX12_rule 83 = .ok (.aload_n 0, 1) := by decide +kernel
theorem dX12_rule_84 : decode cX12_rule 84 = .ok (.getfield 212, 3) := by decide +kernel
theorem dX12_rule_87 : decode cX12_rule 87 = .ok (.ifCond .le 13, 3) := by decide +kernel
theorem dX12_rule_90 : decode cX12_rule 90 = .ok (.bipush (-2), 2) := by decide +kernel
theorem dX12_rule_92 : decode cX12_rule 92 = .ok (.aload_n 0, 1) := by decide +kernel
theorem dX12_rule_93 : decode cX12_rule 93 = .ok (.getfield 212, 3) := by decide +kernel
theorem dX12_rule_96 : decode cX12_rule 96 = .ok (.isub, 1) := by decide +kernel
theorem dX12_rule_97 : decode cX12_rule 97 = .ok (.goto 9, 3) := by decide +kernel
theorem dX12_rule_100 : decode cX12_rule 100 = .ok (.aload_n 0, 1) := by decide +kernel
theorem dX12_rule_101 : decode cX12_rule 101 = .ok (.getfield 372, 3) := by decide +kernel
theorem dX12_rule_104 : decode cX12_rule 104 = .ok (.iconst 1, 1) := by decide +kernel
theorem dX12_rule_105 : decode cX12_rule 105 = .ok (.isub, 1) := by decide +kernel
theorem dX12_rule_106 : decode cX12_rule 106 = .ok (.ireturn, 1) := by decide +kernel
theorem dX12_wanted_0 : decode cX12_wanted 0 = .ok (.bipush 12, 2) := by decide +kernel
theorem dX12_wanted_2 : decode cX12_wanted 2 = .ok (.iload_n 1, 1) := by decide +kernel
theorem dX12_wanted_3 : decode cX12_wanted 3 = .ok (.imul, 1) := by decide +kernel
theorem dX12_wanted_4 : decode cX12_wanted 4 = .ok (.istore_n 2, 1) := by decide +kernel
theorem dX12_wanted_5 : decode cX12_wanted 5 = .ok (.iload_n 2, 1) := by decide +kernel
theorem dX12_wanted_6 : decode cX12_wanted 6 = .ok (.bipush 12, 2) := by decide +kernel
theorem dX12_wanted_8 : decode cX12_wanted 8 = .ok (.iload_n 1, 1) := by decide +kernel
theorem dX12_wanted_9 : decode cX12_wanted 9 = .ok (.imul, 1) := by decide +kernel
theorem dX12_wanted_10 : decode cX12_wanted 10 = .ok (.aload_n 0, 1) := by decide +kernel
theorem dX12_wanted_11 : decode cX12_wanted 11 = .ok (.getfield 114, 3) := by decide +kernel
theorem dX12_wanted_14 : decode cX12_wanted 14 = .ok (.iload_n 1, 1) := by decide +kernel
theorem dX12_wanted_15 : decode cX12_wanted 15 = .ok (.iaload, 1) := by decide +kernel
theorem dX12_wanted_16 : decode cX12_wanted 16 = .ok (.iadd, 1) := by decide +kernel
theorem dX12_wanted_17 : decode cX12_wanted 17 = .ok (.if_icmp .ge 64, 3) := by decide +kernel
theorem dX12_wanted_20 : decode cX12_wanted 20 = .ok (.aload_n 0, 1) := by decide +kernel
theorem dX12_wanted_21 : decode cX12_wanted 21 = .ok (.getfield 120, 3) := by decide +kernel
theorem dX12_wanted_24 : decode cX12_wanted 24 = .ok (.iload_n 2, 1) := by decide +kernel
theorem dX12_wanted_25 : decode cX12_wanted 25 = .ok (.iaload, 1) := by decide +kernel
theorem dX12_wanted_26 : decode cX12_wanted 26 = .ok (.aload_n 0, 1) := by decide +kernel
theorem dX12_wanted_27 : decode cX12_wanted 27 = .ok (.getfield 123, 3) := by decide +kernel
theorem dX12_wanted_30 : decode cX12_wanted 30 = .ok (.iload_n 2, 1) := by decide +kernel
theorem dX12_wanted_31 : decode cX12_wanted 31 = .ok (.iaload, 1) := by decide +kernel
theorem dX12_wanted_32 : decode cX12_wanted 32 = .ok (.if_icmp .eq 25, 3) := by decide +kernel
theorem dX12_wanted_35 : decode cX12_wanted 35 = .ok (.aload_n 0, 1) := by decide +kernel
theorem dX12_wanted_36 : decode cX12_wanted 36 = .ok (.iload_n 1, 1) := by decide +kernel
theorem dX12_wanted_37 : decode cX12_wanted 37 = .ok (.aload_n 0, 1) := by decide +kernel
theorem dX12_wanted_38 : decode cX12_wanted 38 = .ok (.getfield 120, 3) := by decide +kernel
theorem dX12_wanted_41 : decode cX12_wanted 41 = .ok (.iload_n 2, 1) := by decide +kernel
theorem dX12_wanted_42 : decode cX12_wanted 42 = .ok (.iaload, 1) := by decide +kernel
theorem dX12_wanted_43 : decode cX12_wanted 43 = .ok (.aload_n 0, 1) := by decide +kernel
theorem dX12_wanted_44 : decode cX12_wanted 44 = .ok (.getfield 123, 3) := by decide +kernel
theorem dX12_wanted_47 : decode cX12_wanted 47 = .ok (.iload_n 2, 1) := by decide +kernel
theorem dX12_wanted_48 : decode cX12_wanted 48 = .ok (.iaload, 1) := by decide +kernel
theorem dX12_wanted_49 : decode cX12_wanted 49 = .ok (.invokevirtual 378, 3) := by decide +kernel
theorem dX12_wanted_52 : decode cX12_wanted 52 = .ok (.lconst 1, 1) := by decide +kernel
theorem dX12_wanted_53 : decode cX12_wanted 53 = .ok (.lcmp, 1) := by decide +kernel
theorem dX12_wanted_54 : decode cX12_wanted 54 = .ok (.ifCond .ne 21, 3) := by decide +kernel
theorem dX12_wanted_57 : decode cX12_wanted 57 = .ok (.aload_n 0, 1) := by decide +kernel
theorem dX12_wanted_58 : decode cX12_wanted 58 = .ok (.iload_n 1, 1) := by decide +kernel
theorem dX12_wanted_59 : decode cX12_wanted 59 = .ok (.aload_n 0, 1) := by decide +kernel
theorem dX12_wanted_60 : decode cX12_wanted 60 = .ok (.getfield 117, 3) := by decide +kernel
theorem dX12_wanted_63 : decode cX12_wanted 63 = .ok (.iload_n 2, 1) := by decide +kernel
theorem dX12_wanted_64 : decode cX12_wanted 64 = .ok (.iaload, 1) := by decide +kernel
theorem dX12_wanted_65 : decode cX12_wanted 65 = .ok (.aload_n 0, 1) := by decide +kernel
theorem dX12_wanted_66 : decode cX12_wanted 66 = .ok (.getfield 120, 3) := by decide +kernel
theorem dX12_wanted_69 : decode cX12_wanted 69 = .ok (.iload_n 2, 1) := by decide +kernel
theorem dX12_wanted_70 : decode cX12_wanted 70 = .ok (.iaload, 1) := by decide +kernel
theorem dX12_wanted_71 : decode cX12_wanted 71 = .ok (.invokevirtual 378, 3) := by decide +kernel
theorem dX12_wanted_74 : decode cX12_wanted 74 = .ok (.lreturn, 1) := by decide +kernel
theorem dX12_wanted_75 : decode cX12_wanted 75 = .ok (.iinc 2 1, 3) := by decide +kernel
theorem dX12_wanted_78 : decode cX12_wanted 78 = .ok (.goto (-73), 3) := by decide +kernel
theorem dX12_wanted_81 : decode cX12_wanted 81 = .ok (.lconst 0, 1) := by decide +kernel
theorem dX12_wanted_82 : decode cX12_wanted 82 = .ok (.lreturn, 1) := by decide +kernel
theorem dX12_isRule_0 : decode cX12_isRule 0 = .ok (.iload_n 1, 1) := by decide +kernel
theorem dX12_isRule_1 : decode cX12_isRule 1 = .ok (.i2l, 1) := by decide +kernel
theorem dX12_isRule_2 : decode cX12_isRule 2 = .ok (.lconst 0, 1) := by decide +kernel
theorem dX12_isRule_3 : decode cX12_isRule 3 = .ok (.aload_n 0, 1) := by decide +kernel
theorem dX12_isRule_4 : decode cX12_isRule 4 = .ok (.getfield 372, 3) := by decide +kernel
theorem dX12_isRule_7 : decode cX12_isRule 7 = .ok (.iconst 1, 1) := by decide +kernel
theorem dX12_isRule_8 : decode cX12_isRule 8 = .ok (.isub, 1) := by decide +kernel
theorem dX12_isRule_9 : decode cX12_isRule 9 = .ok (.i2l, 1) := by decide +kernel
theorem dX12_isRule_10 : decode cX12_isRule 10 = .ok (.invokestatic 176, 3) := by decide +kernel
theorem dX12_isRule_13 : decode cX12_isRule 13 = .ok (.ireturn, 1) := by decide +kernel
theorem dX12_truth_0 : decode cX12_truth 0 = .ok (.iload_n 0, 1) := by decide +kernel
theorem dX12_truth_1 : decode cX12_truth 1 = .ok (.ifCond .eq 7, 3) := by decide +kernel
theorem dX12_truth_4 : decode cX12_truth 4 = .ok (.lconst 1, 1) := by decide +kernel
theorem dX12_truth_5 : decode cX12_truth 5 = .ok (.goto 4, 3) := by decide +kernel
theorem dX12_truth_8 : decode cX12_truth 8 = .ok (.lconst 0, 1) := by decide +kernel
theorem dX12_truth_9 : decode cX12_truth 9 = .ok (.lreturn, 1) := by decide +kernel
theorem dX12_both_0 : decode cX12_both 0 = .ok (.iload_n 0, 1) := by decide +kernel
theorem dX12_both_1 : decode cX12_both 1 = .ok (.tableswitch 190 2 15 #[71, 75, 111, 126, 141, 156, 171, 190, 186, 190, 190, 79, 83, 97], 71) := by decide +kernel
theorem dX12_both_72 : decode cX12_both 72 = .ok (.lload_n 1, 1) := by decide +kernel
theorem dX12_both_73 : decode cX12_both 73 = .ok (.lload_n 3, 1) := by decide +kernel
theorem dX12_both_74 : decode cX12_both 74 = .ok (.ladd, 1) := by decide +kernel
theorem dX12_both_75 : decode cX12_both 75 = .ok (.lreturn, 1) := by decide +kernel
theorem dX12_both_76 : decode cX12_both 76 = .ok (.lload_n 1, 1) := by decide +kernel
theorem dX12_both_77 : decode cX12_both 77 = .ok (.lload_n 3, 1) := by decide +kernel
theorem dX12_both_78 : decode cX12_both 78 = .ok (.lsub, 1) := by decide +kernel
theorem dX12_both_79 : decode cX12_both 79 = .ok (.lreturn, 1) := by decide +kernel
theorem dX12_both_80 : decode cX12_both 80 = .ok (.lload_n 1, 1) := by decide +kernel
theorem dX12_both_81 : decode cX12_both 81 = .ok (.lload_n 3, 1) := by decide +kernel
theorem dX12_both_82 : decode cX12_both 82 = .ok (.lmul, 1) := by decide +kernel
theorem dX12_both_83 : decode cX12_both 83 = .ok (.lreturn, 1) := by decide +kernel
theorem dX12_both_84 : decode cX12_both 84 = .ok (.lload_n 3, 1) := by decide +kernel
theorem dX12_both_85 : decode cX12_both 85 = .ok (.lconst 0, 1) := by decide +kernel
theorem dX12_both_86 : decode cX12_both 86 = .ok (.lcmp, 1) := by decide +kernel
theorem dX12_both_87 : decode cX12_both 87 = .ok (.ifCond .ne 7, 3) := by decide +kernel
theorem dX12_both_90 : decode cX12_both 90 = .ok (.lconst 0, 1) := by decide +kernel
theorem dX12_both_91 : decode cX12_both 91 = .ok (.goto 6, 3) := by decide +kernel
theorem dX12_both_94 : decode cX12_both 94 = .ok (.lload_n 1, 1) := by decide +kernel
theorem dX12_both_95 : decode cX12_both 95 = .ok (.lload_n 3, 1) := by decide +kernel
theorem dX12_both_96 : decode cX12_both 96 = .ok (.ldiv, 1) := by decide +kernel
theorem dX12_both_97 : decode cX12_both 97 = .ok (.lreturn, 1) := by decide +kernel
theorem dX12_both_98 : decode cX12_both 98 = .ok (.lload_n 3, 1) := by decide +kernel
theorem dX12_both_99 : decode cX12_both 99 = .ok (.lconst 0, 1) := by decide +kernel
theorem dX12_both_100 : decode cX12_both 100 = .ok (.lcmp, 1) := by decide +kernel
theorem dX12_both_101 : decode cX12_both 101 = .ok (.ifCond .ne 7, 3) := by decide +kernel
theorem dX12_both_104 : decode cX12_both 104 = .ok (.lconst 0, 1) := by decide +kernel
theorem dX12_both_105 : decode cX12_both 105 = .ok (.goto 6, 3) := by decide +kernel
theorem dX12_both_108 : decode cX12_both 108 = .ok (.lload_n 1, 1) := by decide +kernel
theorem dX12_both_109 : decode cX12_both 109 = .ok (.lload_n 3, 1) := by decide +kernel
theorem dX12_both_110 : decode cX12_both 110 = .ok (.lrem, 1) := by decide +kernel
theorem dX12_both_111 : decode cX12_both 111 = .ok (.lreturn, 1) := by decide +kernel
theorem dX12_both_112 : decode cX12_both 112 = .ok (.lload_n 1, 1) := by decide +kernel
theorem dX12_both_113 : decode cX12_both 113 = .ok (.lload_n 3, 1) := by decide +kernel
theorem dX12_both_114 : decode cX12_both 114 = .ok (.lcmp, 1) := by decide +kernel
theorem dX12_both_115 : decode cX12_both 115 = .ok (.ifCond .ge 7, 3) := by decide +kernel
theorem dX12_both_118 : decode cX12_both 118 = .ok (.iconst 1, 1) := by decide +kernel
theorem dX12_both_119 : decode cX12_both 119 = .ok (.goto 4, 3) := by decide +kernel
theorem dX12_both_122 : decode cX12_both 122 = .ok (.iconst 0, 1) := by decide +kernel
theorem dX12_both_123 : decode cX12_both 123 = .ok (.invokestatic 382, 3) := by decide +kernel
theorem dX12_both_126 : decode cX12_both 126 = .ok (.lreturn, 1) := by decide +kernel
theorem dX12_both_127 : decode cX12_both 127 = .ok (.lload_n 1, 1) := by decide +kernel
theorem dX12_both_128 : decode cX12_both 128 = .ok (.lload_n 3, 1) := by decide +kernel
theorem dX12_both_129 : decode cX12_both 129 = .ok (.lcmp, 1) := by decide +kernel
theorem dX12_both_130 : decode cX12_both 130 = .ok (.ifCond .gt 7, 3) := by decide +kernel
theorem dX12_both_133 : decode cX12_both 133 = .ok (.iconst 1, 1) := by decide +kernel
theorem dX12_both_134 : decode cX12_both 134 = .ok (.goto 4, 3) := by decide +kernel
theorem dX12_both_137 : decode cX12_both 137 = .ok (.iconst 0, 1) := by decide +kernel
theorem dX12_both_138 : decode cX12_both 138 = .ok (.invokestatic 382, 3) := by decide +kernel
theorem dX12_both_141 : decode cX12_both 141 = .ok (.lreturn, 1) := by decide +kernel
theorem dX12_both_142 : decode cX12_both 142 = .ok (.lload_n 1, 1) := by decide +kernel
theorem dX12_both_143 : decode cX12_both 143 = .ok (.lload_n 3, 1) := by decide +kernel
theorem dX12_both_144 : decode cX12_both 144 = .ok (.lcmp, 1) := by decide +kernel
theorem dX12_both_145 : decode cX12_both 145 = .ok (.ifCond .ne 7, 3) := by decide +kernel
theorem dX12_both_148 : decode cX12_both 148 = .ok (.iconst 1, 1) := by decide +kernel
theorem dX12_both_149 : decode cX12_both 149 = .ok (.goto 4, 3) := by decide +kernel
theorem dX12_both_152 : decode cX12_both 152 = .ok (.iconst 0, 1) := by decide +kernel
theorem dX12_both_153 : decode cX12_both 153 = .ok (.invokestatic 382, 3) := by decide +kernel
theorem dX12_both_156 : decode cX12_both 156 = .ok (.lreturn, 1) := by decide +kernel
theorem dX12_both_157 : decode cX12_both 157 = .ok (.lload_n 1, 1) := by decide +kernel
theorem dX12_both_158 : decode cX12_both 158 = .ok (.lload_n 3, 1) := by decide +kernel
theorem dX12_both_159 : decode cX12_both 159 = .ok (.lcmp, 1) := by decide +kernel
theorem dX12_both_160 : decode cX12_both 160 = .ok (.ifCond .lt 7, 3) := by decide +kernel
theorem dX12_both_163 : decode cX12_both 163 = .ok (.iconst 1, 1) := by decide +kernel
theorem dX12_both_164 : decode cX12_both 164 = .ok (.goto 4, 3) := by decide +kernel
theorem dX12_both_167 : decode cX12_both 167 = .ok (.iconst 0, 1) := by decide +kernel
theorem dX12_both_168 : decode cX12_both 168 = .ok (.invokestatic 382, 3) := by decide +kernel
theorem dX12_both_171 : decode cX12_both 171 = .ok (.lreturn, 1) := by decide +kernel
theorem dX12_both_172 : decode cX12_both 172 = .ok (.lload_n 1, 1) := by decide +kernel
theorem dX12_both_173 : decode cX12_both 173 = .ok (.lload_n 3, 1) := by decide +kernel
theorem dX12_both_174 : decode cX12_both 174 = .ok (.lcmp, 1) := by decide +kernel
theorem dX12_both_175 : decode cX12_both 175 = .ok (.ifCond .le 7, 3) := by decide +kernel
theorem dX12_both_178 : decode cX12_both 178 = .ok (.iconst 1, 1) := by decide +kernel
theorem dX12_both_179 : decode cX12_both 179 = .ok (.goto 4, 3) := by decide +kernel
theorem dX12_both_182 : decode cX12_both 182 = .ok (.iconst 0, 1) := by decide +kernel
theorem dX12_both_183 : decode cX12_both 183 = .ok (.invokestatic 382, 3) := by decide +kernel
theorem dX12_both_186 : decode cX12_both 186 = .ok (.lreturn, 1) := by decide +kernel
theorem dX12_both_187 : decode cX12_both 187 = .ok (.lload_n 1, 1) := by decide +kernel
theorem dX12_both_188 : decode cX12_both 188 = .ok (.lload_n 3, 1) := by decide +kernel
theorem dX12_both_189 : decode cX12_both 189 = .ok (.land, 1) := by decide +kernel
theorem dX12_both_190 : decode cX12_both 190 = .ok (.lreturn, 1) := by decide +kernel
theorem dX12_both_191 : decode cX12_both 191 = .ok (.lload_n 1, 1) := by decide +kernel
theorem dX12_both_192 : decode cX12_both 192 = .ok (.lload_n 3, 1) := by decide +kernel
theorem dX12_both_193 : decode cX12_both 193 = .ok (.lor, 1) := by decide +kernel
theorem dX12_both_194 : decode cX12_both 194 = .ok (.lreturn, 1) := by decide +kernel
theorem dX12_answer_0 : decode cX12_answer 0 = .ok (.iconst 0, 1) := by decide +kernel
theorem dX12_answer_1 : decode cX12_answer 1 = .ok (.istore 4, 2) := by decide +kernel
theorem dX12_answer_3 : decode cX12_answer 3 = .ok (.iload_n 2, 1) := by decide +kernel
theorem dX12_answer_4 : decode cX12_answer 4 = .ok (.istore 5, 2) := by decide +kernel
theorem dX12_answer_6 : decode cX12_answer 6 = .ok (.iload 5, 2) := by decide +kernel
theorem dX12_answer_8 : decode cX12_answer 8 = .ok (.iload_n 3, 1) := by decide +kernel
theorem dX12_answer_9 : decode cX12_answer 9 = .ok (.if_icmp .ge 144, 3) := by decide +kernel
theorem dX12_answer_12 : decode cX12_answer 12 = .ok (.aload_n 0, 1) := by decide +kernel
theorem dX12_answer_13 : decode cX12_answer 13 = .ok (.getfield 108, 3) := by decide +kernel
theorem dX12_answer_16 : decode cX12_answer 16 = .ok (.sipush 300, 3) := by decide +kernel
theorem dX12_answer_19 : decode cX12_answer 19 = .ok (.iload_n 1, 1) := by decide +kernel
theorem dX12_answer_20 : decode cX12_answer 20 = .ok (.imul, 1) := by decide +kernel
theorem dX12_answer_21 : decode cX12_answer 21 = .ok (.iload 5, 2) := by decide +kernel
theorem dX12_answer_23 : decode cX12_answer 23 = .ok (.iadd, 1) := by decide +kernel
theorem dX12_answer_24 : decode cX12_answer 24 = .ok (.iaload, 1) := by decide +kernel
theorem dX12_answer_25 : decode cX12_answer 25 = .ok (.istore 6, 2) := by decide +kernel
theorem dX12_answer_27 : decode cX12_answer 27 = .ok (.aload_n 0, 1) := by decide +kernel
theorem dX12_answer_28 : decode cX12_answer 28 = .ok (.getfield 111, 3) := by decide +kernel
theorem dX12_answer_31 : decode cX12_answer 31 = .ok (.sipush 300, 3) := by decide +kernel
theorem dX12_answer_34 : decode cX12_answer 34 = .ok (.iload_n 1, 1) := by decide +kernel
theorem dX12_answer_35 : decode cX12_answer 35 = .ok (.imul, 1) := by decide +kernel
theorem dX12_answer_36 : decode cX12_answer 36 = .ok (.iload 5, 2) := by decide +kernel
theorem dX12_answer_38 : decode cX12_answer 38 = .ok (.iadd, 1) := by decide +kernel
theorem dX12_answer_39 : decode cX12_answer 39 = .ok (.iaload, 1) := by decide +kernel
theorem dX12_answer_40 : decode cX12_answer 40 = .ok (.istore 7, 2) := by decide +kernel
theorem dX12_answer_42 : decode cX12_answer 42 = .ok (.iload 6, 2) := by decide +kernel
theorem dX12_answer_44 : decode cX12_answer 44 = .ok (.ifCond .eq 9, 3) := by decide +kernel
theorem dX12_answer_47 : decode cX12_answer 47 = .ok (.iload 6, 2) := by decide +kernel
theorem dX12_answer_49 : decode cX12_answer 49 = .ok (.iconst 1, 1) := by decide +kernel
theorem dX12_answer_50 : decode cX12_answer 50 = .ok (.if_icmp .ne 34, 3) := by decide +kernel
theorem dX12_answer_53 : decode cX12_answer 53 = .ok (.aload_n 0, 1) := by decide +kernel
theorem dX12_answer_54 : decode cX12_answer 54 = .ok (.getfield 133, 3) := by decide +kernel
theorem dX12_answer_57 : decode cX12_answer 57 = .ok (.iload 4, 2) := by decide +kernel
theorem dX12_answer_59 : decode cX12_answer 59 = .ok (.iload 6, 2) := by decide +kernel
theorem dX12_answer_61 : decode cX12_answer 61 = .ok (.ifCond .ne 9, 3) := by decide +kernel
theorem dX12_answer_64 : decode cX12_answer 64 = .ok (.iload 7, 2) := by decide +kernel
theorem dX12_answer_66 : decode cX12_answer 66 = .ok (.i2l, 1) := by decide +kernel
theorem dX12_answer_67 : decode cX12_answer 67 = .ok (.goto 10, 3) := by decide +kernel
theorem dX12_answer_70 : decode cX12_answer 70 = .ok (.aload_n 0, 1) := by decide +kernel
theorem dX12_answer_71 : decode cX12_answer 71 = .ok (.getfield 129, 3) := by decide +kernel
theorem dX12_answer_74 : decode cX12_answer 74 = .ok (.iload 7, 2) := by decide +kernel
theorem dX12_answer_76 : decode cX12_answer 76 = .ok (.laload, 1) := by decide +kernel
theorem dX12_answer_77 : decode cX12_answer 77 = .ok (.lastore, 1) := by decide +kernel
theorem dX12_answer_78 : decode cX12_answer 78 = .ok (.iinc 4 1, 3) := by decide +kernel
theorem dX12_answer_81 : decode cX12_answer 81 = .ok (.goto 66, 3) := by decide +kernel
theorem dX12_answer_84 : decode cX12_answer 84 = .ok (.iload 6, 2) := by decide +kernel
theorem dX12_answer_86 : decode cX12_answer 86 = .ok (.bipush 9, 2) := by decide +kernel
theorem dX12_answer_88 : decode cX12_answer 88 = .ok (.if_icmp .ne 26, 3) := by decide +kernel
theorem dX12_answer_91 : decode cX12_answer 91 = .ok (.aload_n 0, 1) := by decide +kernel
theorem dX12_answer_92 : decode cX12_answer 92 = .ok (.getfield 133, 3) := by decide +kernel
theorem dX12_answer_95 : decode cX12_answer 95 = .ok (.iload 4, 2) := by decide +kernel
theorem dX12_answer_97 : decode cX12_answer 97 = .ok (.iconst 1, 1) := by decide +kernel
theorem dX12_answer_98 : decode cX12_answer 98 = .ok (.isub, 1) := by decide +kernel
theorem dX12_answer_99 : decode cX12_answer 99 = .ok (.lconst 1, 1) := by decide +kernel
theorem dX12_answer_100 : decode cX12_answer 100 = .ok (.aload_n 0, 1) := by decide +kernel
theorem dX12_answer_101 : decode cX12_answer 101 = .ok (.getfield 133, 3) := by decide +kernel
theorem dX12_answer_104 : decode cX12_answer 104 = .ok (.iload 4, 2) := by decide +kernel
theorem dX12_answer_106 : decode cX12_answer 106 = .ok (.iconst 1, 1) := by decide +kernel
theorem dX12_answer_107 : decode cX12_answer 107 = .ok (.isub, 1) := by decide +kernel
theorem dX12_answer_108 : decode cX12_answer 108 = .ok (.laload, 1) := by decide +kernel
theorem dX12_answer_109 : decode cX12_answer 109 = .ok (.lsub, 1) := by decide +kernel
theorem dX12_answer_110 : decode cX12_answer 110 = .ok (.lastore, 1) := by decide +kernel
theorem dX12_answer_111 : decode cX12_answer 111 = .ok (.goto 36, 3) := by decide +kernel
theorem dX12_answer_114 : decode cX12_answer 114 = .ok (.iinc 4 (-1), 3) := by decide +kernel
theorem dX12_answer_117 : decode cX12_answer 117 = .ok (.aload_n 0, 1) := by decide +kernel
theorem dX12_answer_118 : decode cX12_answer 118 = .ok (.getfield 133, 3) := by decide +kernel
theorem dX12_answer_121 : decode cX12_answer 121 = .ok (.iload 4, 2) := by decide +kernel
theorem dX12_answer_123 : decode cX12_answer 123 = .ok (.iconst 1, 1) := by decide +kernel
theorem dX12_answer_124 : decode cX12_answer 124 = .ok (.isub, 1) := by decide +kernel
theorem dX12_answer_125 : decode cX12_answer 125 = .ok (.iload 6, 2) := by decide +kernel
theorem dX12_answer_127 : decode cX12_answer 127 = .ok (.aload_n 0, 1) := by decide +kernel
theorem dX12_answer_128 : decode cX12_answer 128 = .ok (.getfield 133, 3) := by decide +kernel
theorem dX12_answer_131 : decode cX12_answer 131 = .ok (.iload 4, 2) := by decide +kernel
theorem dX12_answer_133 : decode cX12_answer 133 = .ok (.iconst 1, 1) := by decide +kernel
theorem dX12_answer_134 : decode cX12_answer 134 = .ok (.isub, 1) := by decide +kernel
theorem dX12_answer_135 : decode cX12_answer 135 = .ok (.laload, 1) := by decide +kernel
theorem dX12_answer_136 : decode cX12_answer 136 = .ok (.aload_n 0, 1) := by decide +kernel
theorem dX12_answer_137 : decode cX12_answer 137 = .ok (.getfield 133, 3) := by decide +kernel
theorem dX12_answer_140 : decode cX12_answer 140 = .ok (.iload 4, 2) := by decide +kernel
theorem dX12_answer_142 : decode cX12_answer 142 = .ok (.laload, 1) := by decide +kernel
theorem dX12_answer_143 : decode cX12_answer 143 = .ok (.invokestatic 386, 3) := by decide +kernel
theorem dX12_answer_146 : decode cX12_answer 146 = .ok (.lastore, 1) := by decide +kernel
theorem dX12_answer_147 : decode cX12_answer 147 = .ok (.iinc 5 1, 3) := by decide +kernel
theorem dX12_answer_150 : decode cX12_answer 150 = .ok (.goto (-144), 3) := by decide +kernel
theorem dX12_answer_153 : decode cX12_answer 153 = .ok (.aload_n 0, 1) := by decide +kernel
theorem dX12_answer_154 : decode cX12_answer 154 = .ok (.getfield 133, 3) := by decide +kernel
theorem dX12_answer_157 : decode cX12_answer 157 = .ok (.iconst 0, 1) := by decide +kernel
theorem dX12_answer_158 : decode cX12_answer 158 = .ok (.laload, 1) := by decide +kernel
theorem dX12_answer_159 : decode cX12_answer 159 = .ok (.lreturn, 1) := by decide +kernel
theorem dX12_afloat_0 : decode cX12_afloat 0 = .ok (.iconst 0, 1) := by decide +kernel
theorem dX12_afloat_1 : decode cX12_afloat 1 = .ok (.istore_n 1, 1) := by decide +kernel
theorem dX12_afloat_2 : decode cX12_afloat 2 = .ok (.iconst 0, 1) := by decide +kernel
theorem dX12_afloat_3 : decode cX12_afloat 3 = .ok (.istore_n 2, 1) := by decide +kernel
theorem dX12_afloat_4 : decode cX12_afloat 4 = .ok (.iload_n 2, 1) := by decide +kernel
theorem dX12_afloat_5 : decode cX12_afloat 5 = .ok (.aload_n 0, 1) := by decide +kernel
theorem dX12_afloat_6 : decode cX12_afloat 6 = .ok (.getfield 9, 3) := by decide +kernel
theorem dX12_afloat_9 : decode cX12_afloat 9 = .ok (.iconst 3, 1) := by decide +kernel
theorem dX12_afloat_10 : decode cX12_afloat 10 = .ok (.iaload, 1) := by decide +kernel
theorem dX12_afloat_11 : decode cX12_afloat 11 = .ok (.if_icmp .ge 28, 3) := by decide +kernel
theorem dX12_afloat_14 : decode cX12_afloat 14 = .ok (.iload_n 1, 1) := by decide +kernel
theorem dX12_afloat_15 : decode cX12_afloat 15 = .ok (.aload_n 0, 1) := by decide +kernel
theorem dX12_afloat_16 : decode cX12_afloat 16 = .ok (.getfield 34, 3) := by decide +kernel
theorem dX12_afloat_19 : decode cX12_afloat 19 = .ok (.iload_n 2, 1) := by decide +kernel
theorem dX12_afloat_20 : decode cX12_afloat 20 = .ok (.iaload, 1) := by decide +kernel
theorem dX12_afloat_21 : decode cX12_afloat 21 = .ok (.ifCond .ne 9, 3) := by decide +kernel
theorem dX12_afloat_24 : decode cX12_afloat 24 = .ok (.iconst 1, 1) := by decide +kernel
theorem dX12_afloat_25 : decode cX12_afloat 25 = .ok (.iload_n 2, 1) := by decide +kernel
theorem dX12_afloat_26 : decode cX12_afloat 26 = .ok (.ishl, 1) := by decide +kernel
theorem dX12_afloat_27 : decode cX12_afloat 27 = .ok (.goto 4, 3) := by decide +kernel
theorem dX12_afloat_30 : decode cX12_afloat 30 = .ok (.iconst 0, 1) := by decide +kernel
theorem dX12_afloat_31 : decode cX12_afloat 31 = .ok (.ior, 1) := by decide +kernel
theorem dX12_afloat_32 : decode cX12_afloat 32 = .ok (.istore_n 1, 1) := by decide +kernel
theorem dX12_afloat_33 : decode cX12_afloat 33 = .ok (.iinc 2 1, 3) := by decide +kernel
theorem dX12_afloat_36 : decode cX12_afloat 36 = .ok (.goto (-32), 3) := by decide +kernel
theorem dX12_afloat_39 : decode cX12_afloat 39 = .ok (.iload_n 1, 1) := by decide +kernel
theorem dX12_afloat_40 : decode cX12_afloat 40 = .ok (.ireturn, 1) := by decide +kernel
theorem dX12_allRopes_0 : decode cX12_allRopes 0 = .ok (.iconst 1, 1) := by decide +kernel
theorem dX12_allRopes_1 : decode cX12_allRopes 1 = .ok (.aload_n 0, 1) := by decide +kernel
theorem dX12_allRopes_2 : decode cX12_allRopes 2 = .ok (.getfield 9, 3) := by decide +kernel
theorem dX12_allRopes_5 : decode cX12_allRopes 5 = .ok (.iconst 4, 1) := by decide +kernel
theorem dX12_allRopes_6 : decode cX12_allRopes 6 = .ok (.iaload, 1) := by decide +kernel
theorem dX12_allRopes_7 : decode cX12_allRopes 7 = .ok (.ishl, 1) := by decide +kernel
theorem dX12_allRopes_8 : decode cX12_allRopes 8 = .ok (.iconst 1, 1) := by decide +kernel
theorem dX12_allRopes_9 : decode cX12_allRopes 9 = .ok (.isub, 1) := by decide +kernel
theorem dX12_allRopes_10 : decode cX12_allRopes 10 = .ok (.ireturn, 1) := by decide +kernel
theorem dX12_hangsWith_0 : decode cX12_hangsWith 0 = .ok (.iconst 1, 1) := by decide +kernel
theorem dX12_hangsWith_1 : decode cX12_hangsWith 1 = .ok (.iload_n 1, 1) := by decide +kernel
theorem dX12_hangsWith_2 : decode cX12_hangsWith 2 = .ok (.ishl, 1) := by decide +kernel
theorem dX12_hangsWith_3 : decode cX12_hangsWith 3 = .ok (.istore 4, 2) := by decide +kernel
theorem dX12_hangsWith_5 : decode cX12_hangsWith 5 = .ok (.iconst 1, 1) := by decide +kernel
theorem dX12_hangsWith_6 : decode cX12_hangsWith 6 = .ok (.istore 5, 2) := by decide +kernel
theorem dX12_hangsWith_8 : decode cX12_hangsWith 8 = .ok (.iload 5, 2) := by decide +kernel
theorem dX12_hangsWith_10 : decode cX12_hangsWith 10 = .ok (.ifCond .eq 98, 3) := by decide +kernel
theorem dX12_hangsWith_13 : decode cX12_hangsWith 13 = .ok (.iload 4, 2) := by decide +kernel
theorem dX12_hangsWith_15 : decode cX12_hangsWith 15 = .ok (.istore 6, 2) := by decide +kernel
theorem dX12_hangsWith_17 : decode cX12_hangsWith 17 = .ok (.iconst 0, 1) := by decide +kernel
theorem dX12_hangsWith_18 : decode cX12_hangsWith 18 = .ok (.istore 7, 2) := by decide +kernel
theorem dX12_hangsWith_20 : decode cX12_hangsWith 20 = .ok (.iload 7, 2) := by decide +kernel
theorem dX12_hangsWith_22 : decode cX12_hangsWith 22 = .ok (.aload_n 0, 1) := by decide +kernel
theorem dX12_hangsWith_23 : decode cX12_hangsWith 23 = .ok (.getfield 9, 3) := by decide +kernel
theorem dX12_hangsWith_26 : decode cX12_hangsWith 26 = .ok (.iconst 4, 1) := by decide +kernel
theorem dX12_hangsWith_27 : decode cX12_hangsWith 27 = .ok (.iaload, 1) := by decide +kernel
theorem dX12_hangsWith_28 : decode cX12_hangsWith 28 = .ok (.if_icmp .ge 63, 3) := by decide +kernel
theorem dX12_hangsWith_31 : decode cX12_hangsWith 31 = .ok (.iconst 1, 1) := by decide +kernel
theorem dX12_hangsWith_32 : decode cX12_hangsWith 32 = .ok (.aload_n 0, 1) := by decide +kernel
theorem dX12_hangsWith_33 : decode cX12_hangsWith 33 = .ok (.getfield 40, 3) := by decide +kernel
theorem dX12_hangsWith_36 : decode cX12_hangsWith 36 = .ok (.iload 7, 2) := by decide +kernel
theorem dX12_hangsWith_38 : decode cX12_hangsWith 38 = .ok (.iaload, 1) := by decide +kernel
theorem dX12_hangsWith_39 : decode cX12_hangsWith 39 = .ok (.ishl, 1) := by decide +kernel
theorem dX12_hangsWith_40 : decode cX12_hangsWith 40 = .ok (.iconst 1, 1) := by decide +kernel
theorem dX12_hangsWith_41 : decode cX12_hangsWith 41 = .ok (.aload_n 0, 1) := by decide +kernel
theorem dX12_hangsWith_42 : decode cX12_hangsWith 42 = .ok (.getfield 43, 3) := by decide +kernel
theorem dX12_hangsWith_45 : decode cX12_hangsWith 45 = .ok (.iload 7, 2) := by decide +kernel
theorem dX12_hangsWith_47 : decode cX12_hangsWith 47 = .ok (.iaload, 1) := by decide +kernel
theorem dX12_hangsWith_48 : decode cX12_hangsWith 48 = .ok (.ishl, 1) := by decide +kernel
theorem dX12_hangsWith_49 : decode cX12_hangsWith 49 = .ok (.ior, 1) := by decide +kernel
theorem dX12_hangsWith_50 : decode cX12_hangsWith 50 = .ok (.istore 8, 2) := by decide +kernel
theorem dX12_hangsWith_52 : decode cX12_hangsWith 52 = .ok (.iload_n 3, 1) := by decide +kernel
theorem dX12_hangsWith_53 : decode cX12_hangsWith 53 = .ok (.iload 7, 2) := by decide +kernel
theorem dX12_hangsWith_55 : decode cX12_hangsWith 55 = .ok (.invokestatic 390, 3) := by decide +kernel
theorem dX12_hangsWith_58 : decode cX12_hangsWith 58 = .ok (.ifCond .eq 27, 3) := by decide +kernel
theorem dX12_hangsWith_61 : decode cX12_hangsWith 61 = .ok (.iload 8, 2) := by decide +kernel
theorem dX12_hangsWith_63 : decode cX12_hangsWith 63 = .ok (.iload_n 2, 1) := by decide +kernel
theorem dX12_hangsWith_64 : decode cX12_hangsWith 64 = .ok (.iconst (-1), 1) := by decide +kernel
theorem dX12_hangsWith_65 : decode cX12_hangsWith 65 = .ok (.ixor, 1) := by decide +kernel
theorem dX12_hangsWith_66 : decode cX12_hangsWith 66 = .ok (.iand, 1) := by decide +kernel
theorem dX12_hangsWith_67 : decode cX12_hangsWith 67 = .ok (.ifCond .ne 18, 3) := by decide +kernel
theorem dX12_hangsWith_70 : decode cX12_hangsWith 70 = .ok (.iload 8, 2) := by decide +kernel
theorem dX12_hangsWith_72 : decode cX12_hangsWith 72 = .ok (.iload 4, 2) := by decide +kernel
theorem dX12_hangsWith_74 : decode cX12_hangsWith 74 = .ok (.iand, 1) := by decide +kernel
theorem dX12_hangsWith_75 : decode cX12_hangsWith 75 = .ok (.ifCond .eq 10, 3) := by decide +kernel
theorem dX12_hangsWith_78 : decode cX12_hangsWith 78 = .ok (.iload 4, 2) := by decide +kernel
theorem dX12_hangsWith_80 : decode cX12_hangsWith 80 = .ok (.iload 8, 2) := by decide +kernel
theorem dX12_hangsWith_82 : decode cX12_hangsWith 82 = .ok (.ior, 1) := by decide +kernel
theorem dX12_hangsWith_83 : decode cX12_hangsWith 83 = .ok (.istore 4, 2) := by decide +kernel
theorem dX12_hangsWith_85 : decode cX12_hangsWith 85 = .ok (.iinc 7 1, 3) := by decide +kernel
theorem dX12_hangsWith_88 : decode cX12_hangsWith 88 = .ok (.goto (-68), 3) := by decide +kernel
theorem dX12_hangsWith_91 : decode cX12_hangsWith 91 = .ok (.iload 4, 2) := by decide +kernel
theorem dX12_hangsWith_93 : decode cX12_hangsWith 93 = .ok (.iload 6, 2) := by decide +kernel
theorem dX12_hangsWith_95 : decode cX12_hangsWith 95 = .ok (.if_icmp .eq 7, 3) := by decide +kernel
theorem dX12_hangsWith_98 : decode cX12_hangsWith 98 = .ok (.iconst 1, 1) := by decide +kernel
theorem dX12_hangsWith_99 : decode cX12_hangsWith 99 = .ok (.goto 4, 3) := by decide +kernel
theorem dX12_hangsWith_102 : decode cX12_hangsWith 102 = .ok (.iconst 0, 1) := by decide +kernel
theorem dX12_hangsWith_103 : decode cX12_hangsWith 103 = .ok (.istore 5, 2) := by decide +kernel
theorem dX12_hangsWith_105 : decode cX12_hangsWith 105 = .ok (.goto (-97), 3) := by decide +kernel
theorem dX12_hangsWith_108 : decode cX12_hangsWith 108 = .ok (.iload 4, 2) := by decide +kernel
theorem dX12_hangsWith_110 : decode cX12_hangsWith 110 = .ok (.ireturn, 1) := by decide +kernel
theorem dX12_pieceOf_0 : decode cX12_pieceOf 0 = .ok (.aload_n 0, 1) := by decide +kernel
theorem dX12_pieceOf_1 : decode cX12_pieceOf 1 = .ok (.iload_n 1, 1) := by decide +kernel
theorem dX12_pieceOf_2 : decode cX12_pieceOf 2 = .ok (.aload_n 0, 1) := by decide +kernel
theorem dX12_pieceOf_3 : decode cX12_pieceOf 3 = .ok (.invokevirtual 393, 3) := by decide +kernel
theorem dX12_pieceOf_6 : decode cX12_pieceOf 6 = .ok (.aload_n 0, 1) := by decide +kernel
theorem dX12_pieceOf_7 : decode cX12_pieceOf 7 = .ok (.invokevirtual 396, 3) := by decide +kernel
theorem dX12_pieceOf_10 : decode cX12_pieceOf 10 = .ok (.invokevirtual 399, 3) := by decide +kernel
theorem dX12_pieceOf_13 : decode cX12_pieceOf 13 = .ok (.ireturn, 1) := by decide +kernel
theorem dX12_least_0 : decode cX12_least 0 = .ok (.iconst 0, 1) := by decide +kernel
theorem dX12_least_1 : decode cX12_least 1 = .ok (.istore_n 1, 1) := by decide +kernel
theorem dX12_least_2 : decode cX12_least 2 = .ok (.iload_n 0, 1) := by decide +kernel
theorem dX12_least_3 : decode cX12_least 3 = .ok (.iload_n 1, 1) := by decide +kernel
theorem dX12_least_4 : decode cX12_least 4 = .ok (.invokestatic 390, 3) := by decide +kernel
theorem dX12_least_7 : decode cX12_least 7 = .ok (.ifCond .ne 9, 3) := by decide +kernel
theorem dX12_least_10 : decode cX12_least 10 = .ok (.iinc 1 1, 3) := by decide +kernel
theorem dX12_least_13 : decode cX12_least 13 = .ok (.goto (-11), 3) := by decide +kernel
theorem dX12_least_16 : decode cX12_least 16 = .ok (.iload_n 1, 1) := by decide +kernel
theorem dX12_least_17 : decode cX12_least 17 = .ok (.ireturn, 1) := by decide +kernel
theorem dX12_riddenBy_0 : decode cX12_riddenBy 0 = .ok (.iconst 0, 1) := by decide +kernel
theorem dX12_riddenBy_1 : decode cX12_riddenBy 1 = .ok (.istore_n 3, 1) := by decide +kernel
theorem dX12_riddenBy_2 : decode cX12_riddenBy 2 = .ok (.iconst 0, 1) := by decide +kernel
theorem dX12_riddenBy_3 : decode cX12_riddenBy 3 = .ok (.istore 4, 2) := by decide +kernel
theorem dX12_riddenBy_5 : decode cX12_riddenBy 5 = .ok (.iconst 0, 1) := by decide +kernel
theorem dX12_riddenBy_6 : decode cX12_riddenBy 6 = .ok (.istore 5, 2) := by decide +kernel
theorem dX12_riddenBy_8 : decode cX12_riddenBy 8 = .ok (.aload_n 0, 1) := by decide +kernel
theorem dX12_riddenBy_9 : decode cX12_riddenBy 9 = .ok (.invokevirtual 393, 3) := by decide +kernel
theorem dX12_riddenBy_12 : decode cX12_riddenBy 12 = .ok (.istore 6, 2) := by decide +kernel
theorem dX12_riddenBy_14 : decode cX12_riddenBy 14 = .ok (.iconst 0, 1) := by decide +kernel
theorem dX12_riddenBy_15 : decode cX12_riddenBy 15 = .ok (.istore 7, 2) := by decide +kernel
theorem dX12_riddenBy_17 : decode cX12_riddenBy 17 = .ok (.iload 7, 2) := by decide +kernel
theorem dX12_riddenBy_19 : decode cX12_riddenBy 19 = .ok (.aload_n 0, 1) := by decide +kernel
theorem dX12_riddenBy_20 : decode cX12_riddenBy 20 = .ok (.getfield 9, 3) := by decide +kernel
theorem dX12_riddenBy_23 : decode cX12_riddenBy 23 = .ok (.iconst 3, 1) := by decide +kernel
theorem dX12_riddenBy_24 : decode cX12_riddenBy 24 = .ok (.iaload, 1) := by decide +kernel
theorem dX12_riddenBy_25 : decode cX12_riddenBy 25 = .ok (.if_icmp .ge 140, 3) := by decide +kernel
theorem dX12_riddenBy_28 : decode cX12_riddenBy 28 = .ok (.aload_n 0, 1) := by decide +kernel
theorem dX12_riddenBy_29 : decode cX12_riddenBy 29 = .ok (.getfield 19, 3) := by decide +kernel
theorem dX12_riddenBy_32 : decode cX12_riddenBy 32 = .ok (.iload_n 1, 1) := by decide +kernel
theorem dX12_riddenBy_33 : decode cX12_riddenBy 33 = .ok (.iaload, 1) := by decide +kernel
theorem dX12_riddenBy_34 : decode cX12_riddenBy 34 = .ok (.ifCond .ne 131, 3) := by decide +kernel
theorem dX12_riddenBy_37 : decode cX12_riddenBy 37 = .ok (.iload 6, 2) := by decide +kernel
theorem dX12_riddenBy_39 : decode cX12_riddenBy 39 = .ok (.iload 7, 2) := by decide +kernel
theorem dX12_riddenBy_41 : decode cX12_riddenBy 41 = .ok (.invokestatic 390, 3) := by decide +kernel
theorem dX12_riddenBy_44 : decode cX12_riddenBy 44 = .ok (.ifCond .eq 115, 3) := by decide +kernel
theorem dX12_riddenBy_47 : decode cX12_riddenBy 47 = .ok (.iload 5, 2) := by decide +kernel
theorem dX12_riddenBy_49 : decode cX12_riddenBy 49 = .ok (.iload 7, 2) := by decide +kernel
theorem dX12_riddenBy_51 : decode cX12_riddenBy 51 = .ok (.invokestatic 390, 3) := by decide +kernel
theorem dX12_riddenBy_54 : decode cX12_riddenBy 54 = .ok (.ifCond .ne 105, 3) := by decide +kernel
theorem dX12_riddenBy_57 : decode cX12_riddenBy 57 = .ok (.aload_n 0, 1) := by decide +kernel
theorem dX12_riddenBy_58 : decode cX12_riddenBy 58 = .ok (.iload 7, 2) := by decide +kernel
theorem dX12_riddenBy_60 : decode cX12_riddenBy 60 = .ok (.iload 6, 2) := by decide +kernel
theorem dX12_riddenBy_62 : decode cX12_riddenBy 62 = .ok (.iload_n 2, 1) := by decide +kernel
theorem dX12_riddenBy_63 : decode cX12_riddenBy 63 = .ok (.invokevirtual 399, 3) := by decide +kernel
theorem dX12_riddenBy_66 : decode cX12_riddenBy 66 = .ok (.istore 8, 2) := by decide +kernel
theorem dX12_riddenBy_68 : decode cX12_riddenBy 68 = .ok (.iload 5, 2) := by decide +kernel
theorem dX12_riddenBy_70 : decode cX12_riddenBy 70 = .ok (.iload 8, 2) := by decide +kernel
theorem dX12_riddenBy_72 : decode cX12_riddenBy 72 = .ok (.ior, 1) := by decide +kernel
theorem dX12_riddenBy_73 : decode cX12_riddenBy 73 = .ok (.istore 5, 2) := by decide +kernel
theorem dX12_riddenBy_75 : decode cX12_riddenBy 75 = .ok (.iconst 0, 1) := by decide +kernel
theorem dX12_riddenBy_76 : decode cX12_riddenBy 76 = .ok (.istore 9, 2) := by decide +kernel
theorem dX12_riddenBy_78 : decode cX12_riddenBy 78 = .ok (.iconst 0, 1) := by decide +kernel
theorem dX12_riddenBy_79 : decode cX12_riddenBy 79 = .ok (.istore 10, 2) := by decide +kernel
theorem dX12_riddenBy_81 : decode cX12_riddenBy 81 = .ok (.iload 10, 2) := by decide +kernel
theorem dX12_riddenBy_83 : decode cX12_riddenBy 83 = .ok (.aload_n 0, 1) := by decide +kernel
theorem dX12_riddenBy_84 : decode cX12_riddenBy 84 = .ok (.getfield 9, 3) := by decide +kernel
theorem dX12_riddenBy_87 : decode cX12_riddenBy 87 = .ok (.iconst 3, 1) := by decide +kernel
theorem dX12_riddenBy_88 : decode cX12_riddenBy 88 = .ok (.iaload, 1) := by decide +kernel
theorem dX12_riddenBy_89 : decode cX12_riddenBy 89 = .ok (.if_icmp .ge 40, 3) := by decide +kernel
theorem dX12_riddenBy_92 : decode cX12_riddenBy 92 = .ok (.iload 9, 2) := by decide +kernel
theorem dX12_riddenBy_94 : decode cX12_riddenBy 94 = .ok (.iload 8, 2) := by decide +kernel
theorem dX12_riddenBy_96 : decode cX12_riddenBy 96 = .ok (.iload 10, 2) := by decide +kernel
theorem dX12_riddenBy_98 : decode cX12_riddenBy 98 = .ok (.invokestatic 390, 3) := by decide +kernel
theorem dX12_riddenBy_101 : decode cX12_riddenBy 101 = .ok (.ifCond .eq 18, 3) := by decide +kernel
theorem dX12_riddenBy_104 : decode cX12_riddenBy 104 = .ok (.aload_n 0, 1) := by decide +kernel
theorem dX12_riddenBy_105 : decode cX12_riddenBy 105 = .ok (.getfield 22, 3) := by decide +kernel
theorem dX12_riddenBy_108 : decode cX12_riddenBy 108 = .ok (.iload 10, 2) := by decide +kernel
theorem dX12_riddenBy_110 : decode cX12_riddenBy 110 = .ok (.iaload, 1) := by decide +kernel
theorem dX12_riddenBy_111 : decode cX12_riddenBy 111 = .ok (.iload_n 1, 1) := by decide +kernel
theorem dX12_riddenBy_112 : decode cX12_riddenBy 112 = .ok (.if_icmp .ne 7, 3) := by decide +kernel
theorem dX12_riddenBy_115 : decode cX12_riddenBy 115 = .ok (.iconst 1, 1) := by decide +kernel
theorem dX12_riddenBy_116 : decode cX12_riddenBy 116 = .ok (.goto 4, 3) := by decide +kernel
theorem dX12_riddenBy_119 : decode cX12_riddenBy 119 = .ok (.iconst 0, 1) := by decide +kernel
theorem dX12_riddenBy_120 : decode cX12_riddenBy 120 = .ok (.iadd, 1) := by decide +kernel
theorem dX12_riddenBy_121 : decode cX12_riddenBy 121 = .ok (.istore 9, 2) := by decide +kernel
theorem dX12_riddenBy_123 : decode cX12_riddenBy 123 = .ok (.iinc 10 1, 3) := by decide +kernel
theorem dX12_riddenBy_126 : decode cX12_riddenBy 126 = .ok (.goto (-45), 3) := by decide +kernel
theorem dX12_riddenBy_129 : decode cX12_riddenBy 129 = .ok (.iload 9, 2) := by decide +kernel
theorem dX12_riddenBy_131 : decode cX12_riddenBy 131 = .ok (.iload 4, 2) := by decide +kernel
theorem dX12_riddenBy_133 : decode cX12_riddenBy 133 = .ok (.if_icmp .le 8, 3) := by decide +kernel
theorem dX12_riddenBy_136 : decode cX12_riddenBy 136 = .ok (.iload 8, 2) := by decide +kernel
theorem dX12_riddenBy_138 : decode cX12_riddenBy 138 = .ok (.goto 4, 3) := by decide +kernel
theorem dX12_riddenBy_141 : decode cX12_riddenBy 141 = .ok (.iload_n 3, 1) := by decide +kernel
theorem dX12_riddenBy_142 : decode cX12_riddenBy 142 = .ok (.istore_n 3, 1) := by decide +kernel
theorem dX12_riddenBy_143 : decode cX12_riddenBy 143 = .ok (.iload 9, 2) := by decide +kernel
theorem dX12_riddenBy_145 : decode cX12_riddenBy 145 = .ok (.iload 4, 2) := by decide +kernel
theorem dX12_riddenBy_147 : decode cX12_riddenBy 147 = .ok (.if_icmp .le 8, 3) := by decide +kernel
theorem dX12_riddenBy_150 : decode cX12_riddenBy 150 = .ok (.iload 9, 2) := by decide +kernel
theorem dX12_riddenBy_152 : decode cX12_riddenBy 152 = .ok (.goto 5, 3) := by decide +kernel
theorem dX12_riddenBy_155 : decode cX12_riddenBy 155 = .ok (.iload 4, 2) := by decide +kernel
theorem dX12_riddenBy_157 : decode cX12_riddenBy 157 = .ok (.istore 4, 2) := by decide +kernel
theorem dX12_riddenBy_159 : decode cX12_riddenBy 159 = .ok (.iinc 7 1, 3) := by decide +kernel
theorem dX12_riddenBy_162 : decode cX12_riddenBy 162 = .ok (.goto (-145), 3) := by decide +kernel
theorem dX12_riddenBy_165 : decode cX12_riddenBy 165 = .ok (.iload_n 3, 1) := by decide +kernel
theorem dX12_riddenBy_166 : decode cX12_riddenBy 166 = .ok (.ireturn, 1) := by decide +kernel
theorem dX12_floatOf_0 : decode cX12_floatOf 0 = .ok (.iconst 0, 1) := by decide +kernel
theorem dX12_floatOf_1 : decode cX12_floatOf 1 = .ok (.istore_n 2, 1) := by decide +kernel
theorem dX12_floatOf_2 : decode cX12_floatOf 2 = .ok (.iconst 0, 1) := by decide +kernel
theorem dX12_floatOf_3 : decode cX12_floatOf 3 = .ok (.istore_n 3, 1) := by decide +kernel
theorem dX12_floatOf_4 : decode cX12_floatOf 4 = .ok (.iload_n 3, 1) := by decide +kernel
theorem dX12_floatOf_5 : decode cX12_floatOf 5 = .ok (.aload_n 0, 1) := by decide +kernel
theorem dX12_floatOf_6 : decode cX12_floatOf 6 = .ok (.getfield 9, 3) := by decide +kernel
theorem dX12_floatOf_9 : decode cX12_floatOf 9 = .ok (.iconst 3, 1) := by decide +kernel
theorem dX12_floatOf_10 : decode cX12_floatOf 10 = .ok (.iaload, 1) := by decide +kernel
theorem dX12_floatOf_11 : decode cX12_floatOf 11 = .ok (.if_icmp .ge 30, 3) := by decide +kernel
theorem dX12_floatOf_14 : decode cX12_floatOf 14 = .ok (.iload_n 2, 1) := by decide +kernel
theorem dX12_floatOf_15 : decode cX12_floatOf 15 = .ok (.iload_n 1, 1) := by decide +kernel
theorem dX12_floatOf_16 : decode cX12_floatOf 16 = .ok (.iload_n 3, 1) := by decide +kernel
theorem dX12_floatOf_17 : decode cX12_floatOf 17 = .ok (.invokestatic 390, 3) := by decide +kernel
theorem dX12_floatOf_20 : decode cX12_floatOf 20 = .ok (.ifCond .eq 12, 3) := by decide +kernel
theorem dX12_floatOf_23 : decode cX12_floatOf 23 = .ok (.aload_n 0, 1) := by decide +kernel
theorem dX12_floatOf_24 : decode cX12_floatOf 24 = .ok (.getfield 28, 3) := by decide +kernel
theorem dX12_floatOf_27 : decode cX12_floatOf 27 = .ok (.iload_n 3, 1) := by decide +kernel
theorem dX12_floatOf_28 : decode cX12_floatOf 28 = .ok (.iaload, 1) := by decide +kernel
theorem dX12_floatOf_29 : decode cX12_floatOf 29 = .ok (.goto 4, 3) := by decide +kernel
theorem dX12_floatOf_32 : decode cX12_floatOf 32 = .ok (.iconst 0, 1) := by decide +kernel
theorem dX12_floatOf_33 : decode cX12_floatOf 33 = .ok (.iadd, 1) := by decide +kernel
theorem dX12_floatOf_34 : decode cX12_floatOf 34 = .ok (.istore_n 2, 1) := by decide +kernel
theorem dX12_floatOf_35 : decode cX12_floatOf 35 = .ok (.iinc 3 1, 3) := by decide +kernel
theorem dX12_floatOf_38 : decode cX12_floatOf 38 = .ok (.goto (-34), 3) := by decide +kernel
theorem dX12_floatOf_41 : decode cX12_floatOf 41 = .ok (.iload_n 2, 1) := by decide +kernel
theorem dX12_floatOf_42 : decode cX12_floatOf 42 = .ok (.ireturn, 1) := by decide +kernel
theorem dX12_weightOf_0 : decode cX12_weightOf 0 = .ok (.iconst 0, 1) := by decide +kernel
theorem dX12_weightOf_1 : decode cX12_weightOf 1 = .ok (.istore_n 2, 1) := by decide +kernel
theorem dX12_weightOf_2 : decode cX12_weightOf 2 = .ok (.iconst 0, 1) := by decide +kernel
theorem dX12_weightOf_3 : decode cX12_weightOf 3 = .ok (.istore_n 3, 1) := by decide +kernel
theorem dX12_weightOf_4 : decode cX12_weightOf 4 = .ok (.iload_n 3, 1) := by decide +kernel
theorem dX12_weightOf_5 : decode cX12_weightOf 5 = .ok (.aload_n 0, 1) := by decide +kernel
theorem dX12_weightOf_6 : decode cX12_weightOf 6 = .ok (.getfield 9, 3) := by decide +kernel
theorem dX12_weightOf_9 : decode cX12_weightOf 9 = .ok (.iconst 3, 1) := by decide +kernel
theorem dX12_weightOf_10 : decode cX12_weightOf 10 = .ok (.iaload, 1) := by decide +kernel
theorem dX12_weightOf_11 : decode cX12_weightOf 11 = .ok (.if_icmp .ge 30, 3) := by decide +kernel
theorem dX12_weightOf_14 : decode cX12_weightOf 14 = .ok (.iload_n 2, 1) := by decide +kernel
theorem dX12_weightOf_15 : decode cX12_weightOf 15 = .ok (.iload_n 1, 1) := by decide +kernel
theorem dX12_weightOf_16 : decode cX12_weightOf 16 = .ok (.iload_n 3, 1) := by decide +kernel
theorem dX12_weightOf_17 : decode cX12_weightOf 17 = .ok (.invokestatic 390, 3) := by decide +kernel
theorem dX12_weightOf_20 : decode cX12_weightOf 20 = .ok (.ifCond .eq 12, 3) := by decide +kernel
theorem dX12_weightOf_23 : decode cX12_weightOf 23 = .ok (.aload_n 0, 1) := by decide +kernel
theorem dX12_weightOf_24 : decode cX12_weightOf 24 = .ok (.getfield 25, 3) := by decide +kernel
theorem dX12_weightOf_27 : decode cX12_weightOf 27 = .ok (.iload_n 3, 1) := by decide +kernel
theorem dX12_weightOf_28 : decode cX12_weightOf 28 = .ok (.iaload, 1) := by decide +kernel
theorem dX12_weightOf_29 : decode cX12_weightOf 29 = .ok (.goto 4, 3) := by decide +kernel
theorem dX12_weightOf_32 : decode cX12_weightOf 32 = .ok (.iconst 0, 1) := by decide +kernel
theorem dX12_weightOf_33 : decode cX12_weightOf 33 = .ok (.iadd, 1) := by decide +kernel
theorem dX12_weightOf_34 : decode cX12_weightOf 34 = .ok (.istore_n 2, 1) := by decide +kernel
theorem dX12_weightOf_35 : decode cX12_weightOf 35 = .ok (.iinc 3 1, 3) := by decide +kernel
theorem dX12_weightOf_38 : decode cX12_weightOf 38 = .ok (.goto (-34), 3) := by decide +kernel
theorem dX12_weightOf_41 : decode cX12_weightOf 41 = .ok (.iload_n 2, 1) := by decide +kernel
theorem dX12_weightOf_42 : decode cX12_weightOf 42 = .ok (.ireturn, 1) := by decide +kernel
theorem dX12_ridersOf_0 : decode cX12_ridersOf 0 = .ok (.iconst 0, 1) := by decide +kernel
theorem dX12_ridersOf_1 : decode cX12_ridersOf 1 = .ok (.istore_n 3, 1) := by decide +kernel
theorem dX12_ridersOf_2 : decode cX12_ridersOf 2 = .ok (.iconst 0, 1) := by decide +kernel
theorem dX12_ridersOf_3 : decode cX12_ridersOf 3 = .ok (.istore 4, 2) := by decide +kernel
theorem dX12_ridersOf_5 : decode cX12_ridersOf 5 = .ok (.iload 4, 2) := by decide +kernel
theorem dX12_ridersOf_7 : decode cX12_ridersOf 7 = .ok (.aload_n 0, 1) := by decide +kernel
theorem dX12_ridersOf_8 : decode cX12_ridersOf 8 = .ok (.getfield 9, 3) := by decide +kernel
theorem dX12_ridersOf_11 : decode cX12_ridersOf 11 = .ok (.iconst 2, 1) := by decide +kernel
theorem dX12_ridersOf_12 : decode cX12_ridersOf 12 = .ok (.iaload, 1) := by decide +kernel
theorem dX12_ridersOf_13 : decode cX12_ridersOf 13 = .ok (.if_icmp .ge 34, 3) := by decide +kernel
theorem dX12_ridersOf_16 : decode cX12_ridersOf 16 = .ok (.iload_n 3, 1) := by decide +kernel
theorem dX12_ridersOf_17 : decode cX12_ridersOf 17 = .ok (.aload_n 0, 1) := by decide +kernel
theorem dX12_ridersOf_18 : decode cX12_ridersOf 18 = .ok (.iload 4, 2) := by decide +kernel
theorem dX12_ridersOf_20 : decode cX12_ridersOf 20 = .ok (.iload_n 2, 1) := by decide +kernel
theorem dX12_ridersOf_21 : decode cX12_ridersOf 21 = .ok (.invokevirtual 403, 3) := by decide +kernel
theorem dX12_ridersOf_24 : decode cX12_ridersOf 24 = .ok (.iload_n 1, 1) := by decide +kernel
theorem dX12_ridersOf_25 : decode cX12_ridersOf 25 = .ok (.if_icmp .ne 13, 3) := by decide +kernel
theorem dX12_ridersOf_28 : decode cX12_ridersOf 28 = .ok (.aload_n 0, 1) := by decide +kernel
theorem dX12_ridersOf_29 : decode cX12_ridersOf 29 = .ok (.getfield 16, 3) := by decide +kernel
theorem dX12_ridersOf_32 : decode cX12_ridersOf 32 = .ok (.iload 4, 2) := by decide +kernel
theorem dX12_ridersOf_34 : decode cX12_ridersOf 34 = .ok (.iaload, 1) := by decide +kernel
theorem dX12_ridersOf_35 : decode cX12_ridersOf 35 = .ok (.goto 4, 3) := by decide +kernel
theorem dX12_ridersOf_38 : decode cX12_ridersOf 38 = .ok (.iconst 0, 1) := by decide +kernel
theorem dX12_ridersOf_39 : decode cX12_ridersOf 39 = .ok (.iadd, 1) := by decide +kernel
theorem dX12_ridersOf_40 : decode cX12_ridersOf 40 = .ok (.istore_n 3, 1) := by decide +kernel
theorem dX12_ridersOf_41 : decode cX12_ridersOf 41 = .ok (.iinc 4 1, 3) := by decide +kernel
theorem dX12_ridersOf_44 : decode cX12_ridersOf 44 = .ok (.goto (-39), 3) := by decide +kernel
theorem dX12_ridersOf_47 : decode cX12_ridersOf 47 = .ok (.iload_n 3, 1) := by decide +kernel
theorem dX12_ridersOf_48 : decode cX12_ridersOf 48 = .ok (.ireturn, 1) := by decide +kernel
theorem dX12_marginOf_0 : decode cX12_marginOf 0 = .ok (.aload_n 0, 1) := by decide +kernel
theorem dX12_marginOf_1 : decode cX12_marginOf 1 = .ok (.iload_n 1, 1) := by decide +kernel
theorem dX12_marginOf_2 : decode cX12_marginOf 2 = .ok (.invokevirtual 406, 3) := by decide +kernel
theorem dX12_marginOf_5 : decode cX12_marginOf 5 = .ok (.aload_n 0, 1) := by decide +kernel
theorem dX12_marginOf_6 : decode cX12_marginOf 6 = .ok (.iload_n 1, 1) := by decide +kernel
theorem dX12_marginOf_7 : decode cX12_marginOf 7 = .ok (.invokevirtual 409, 3) := by decide +kernel
theorem dX12_marginOf_10 : decode cX12_marginOf 10 = .ok (.isub, 1) := by decide +kernel
theorem dX12_marginOf_11 : decode cX12_marginOf 11 = .ok (.aload_n 0, 1) := by decide +kernel
theorem dX12_marginOf_12 : decode cX12_marginOf 12 = .ok (.iload_n 1, 1) := by decide +kernel
theorem dX12_marginOf_13 : decode cX12_marginOf 13 = .ok (.iload_n 2, 1) := by decide +kernel
theorem dX12_marginOf_14 : decode cX12_marginOf 14 = .ok (.invokevirtual 412, 3) := by decide +kernel
theorem dX12_marginOf_17 : decode cX12_marginOf 17 = .ok (.isub, 1) := by decide +kernel
theorem dX12_marginOf_18 : decode cX12_marginOf 18 = .ok (.ireturn, 1) := by decide +kernel
theorem dX12_sinking_0 : decode cX12_sinking 0 = .ok (.aload_n 0, 1) := by decide +kernel
theorem dX12_sinking_1 : decode cX12_sinking 1 = .ok (.invokevirtual 393, 3) := by decide +kernel
theorem dX12_sinking_4 : decode cX12_sinking 4 = .ok (.istore_n 2, 1) := by decide +kernel
theorem dX12_sinking_5 : decode cX12_sinking 5 = .ok (.iconst 0, 1) := by decide +kernel
theorem dX12_sinking_6 : decode cX12_sinking 6 = .ok (.istore_n 3, 1) := by decide +kernel
theorem dX12_sinking_7 : decode cX12_sinking 7 = .ok (.iconst 0, 1) := by decide +kernel
theorem dX12_sinking_8 : decode cX12_sinking 8 = .ok (.istore 4, 2) := by decide +kernel
theorem dX12_sinking_10 : decode cX12_sinking 10 = .ok (.iconst 0, 1) := by decide +kernel
theorem dX12_sinking_11 : decode cX12_sinking 11 = .ok (.istore 5, 2) := by decide +kernel
theorem dX12_sinking_13 : decode cX12_sinking 13 = .ok (.iload 5, 2) := by decide +kernel
theorem dX12_sinking_15 : decode cX12_sinking 15 = .ok (.aload_n 0, 1) := by decide +kernel
theorem dX12_sinking_16 : decode cX12_sinking 16 = .ok (.getfield 9, 3) := by decide +kernel
theorem dX12_sinking_19 : decode cX12_sinking 19 = .ok (.iconst 3, 1) := by decide +kernel
theorem dX12_sinking_20 : decode cX12_sinking 20 = .ok (.iaload, 1) := by decide +kernel
theorem dX12_sinking_21 : decode cX12_sinking 21 = .ok (.if_icmp .ge 64, 3) := by decide +kernel
theorem dX12_sinking_24 : decode cX12_sinking 24 = .ok (.iload_n 2, 1) := by decide +kernel
theorem dX12_sinking_25 : decode cX12_sinking 25 = .ok (.iload 5, 2) := by decide +kernel
theorem dX12_sinking_27 : decode cX12_sinking 27 = .ok (.invokestatic 390, 3) := by decide +kernel
theorem dX12_sinking_30 : decode cX12_sinking 30 = .ok (.ifCond .eq 49, 3) := by decide +kernel
theorem dX12_sinking_33 : decode cX12_sinking 33 = .ok (.iload 4, 2) := by decide +kernel
theorem dX12_sinking_35 : decode cX12_sinking 35 = .ok (.iload 5, 2) := by decide +kernel
theorem dX12_sinking_37 : decode cX12_sinking 37 = .ok (.invokestatic 390, 3) := by decide +kernel
theorem dX12_sinking_40 : decode cX12_sinking 40 = .ok (.ifCond .ne 39, 3) := by decide +kernel
theorem dX12_sinking_43 : decode cX12_sinking 43 = .ok (.aload_n 0, 1) := by decide +kernel
theorem dX12_sinking_44 : decode cX12_sinking 44 = .ok (.iload 5, 2) := by decide +kernel
theorem dX12_sinking_46 : decode cX12_sinking 46 = .ok (.iload_n 2, 1) := by decide +kernel
theorem dX12_sinking_47 : decode cX12_sinking 47 = .ok (.iload_n 1, 1) := by decide +kernel
theorem dX12_sinking_48 : decode cX12_sinking 48 = .ok (.invokevirtual 399, 3) := by decide +kernel
theorem dX12_sinking_51 : decode cX12_sinking 51 = .ok (.istore 6, 2) := by decide +kernel
theorem dX12_sinking_53 : decode cX12_sinking 53 = .ok (.iload 4, 2) := by decide +kernel
theorem dX12_sinking_55 : decode cX12_sinking 55 = .ok (.iload 6, 2) := by decide +kernel
theorem dX12_sinking_57 : decode cX12_sinking 57 = .ok (.ior, 1) := by decide +kernel
theorem dX12_sinking_58 : decode cX12_sinking 58 = .ok (.istore 4, 2) := by decide +kernel
theorem dX12_sinking_60 : decode cX12_sinking 60 = .ok (.iload_n 3, 1) := by decide +kernel
theorem dX12_sinking_61 : decode cX12_sinking 61 = .ok (.aload_n 0, 1) := by decide +kernel
theorem dX12_sinking_62 : decode cX12_sinking 62 = .ok (.iload 6, 2) := by decide +kernel
theorem dX12_sinking_64 : decode cX12_sinking 64 = .ok (.iload_n 1, 1) := by decide +kernel
theorem dX12_sinking_65 : decode cX12_sinking 65 = .ok (.invokevirtual 415, 3) := by decide +kernel
theorem dX12_sinking_68 : decode cX12_sinking 68 = .ok (.ifCond .ge 8, 3) := by decide +kernel
theorem dX12_sinking_71 : decode cX12_sinking 71 = .ok (.iload 6, 2) := by decide +kernel
theorem dX12_sinking_73 : decode cX12_sinking 73 = .ok (.goto 4, 3) := by decide +kernel
theorem dX12_sinking_76 : decode cX12_sinking 76 = .ok (.iconst 0, 1) := by decide +kernel
theorem dX12_sinking_77 : decode cX12_sinking 77 = .ok (.ior, 1) := by decide +kernel
theorem dX12_sinking_78 : decode cX12_sinking 78 = .ok (.istore_n 3, 1) := by decide +kernel
theorem dX12_sinking_79 : decode cX12_sinking 79 = .ok (.iinc 5 1, 3) := by decide +kernel
theorem dX12_sinking_82 : decode cX12_sinking 82 = .ok (.goto (-69), 3) := by decide +kernel
theorem dX12_sinking_85 : decode cX12_sinking 85 = .ok (.iload_n 3, 1) := by decide +kernel
theorem dX12_sinking_86 : decode cX12_sinking 86 = .ok (.ireturn, 1) := by decide +kernel
theorem dX12_owner_0 : decode cX12_owner 0 = .ok (.aload_n 0, 1) := by decide +kernel
theorem dX12_owner_1 : decode cX12_owner 1 = .ok (.iload_n 1, 1) := by decide +kernel
theorem dX12_owner_2 : decode cX12_owner 2 = .ok (.invokevirtual 418, 3) := by decide +kernel
theorem dX12_owner_5 : decode cX12_owner 5 = .ok (.ifCond .ne 5, 3) := by decide +kernel
theorem dX12_owner_8 : decode cX12_owner 8 = .ok (.iconst (-1), 1) := by decide +kernel
theorem dX12_owner_9 : decode cX12_owner 9 = .ok (.ireturn, 1) := by decide +kernel
theorem dX12_owner_10 : decode cX12_owner 10 = .ok (.iload_n 2, 1) := by decide +kernel
theorem dX12_owner_11 : decode cX12_owner 11 = .ok (.tableswitch 73 0 3 #[29, 36, 43, 50], 29) := by decide +kernel
theorem dX12_owner_40 : decode cX12_owner 40 = .ok (.aload_n 0, 1) := by decide +kernel
theorem dX12_owner_41 : decode cX12_owner 41 = .ok (.getfield 13, 3) := by decide +kernel
theorem dX12_owner_44 : decode cX12_owner 44 = .ok (.iload_n 1, 1) := by decide +kernel
theorem dX12_owner_45 : decode cX12_owner 45 = .ok (.iaload, 1) := by decide +kernel
theorem dX12_owner_46 : decode cX12_owner 46 = .ok (.ireturn, 1) := by decide +kernel
theorem dX12_owner_47 : decode cX12_owner 47 = .ok (.aload_n 0, 1) := by decide +kernel
theorem dX12_owner_48 : decode cX12_owner 48 = .ok (.getfield 16, 3) := by decide +kernel
theorem dX12_owner_51 : decode cX12_owner 51 = .ok (.iload_n 1, 1) := by decide +kernel
theorem dX12_owner_52 : decode cX12_owner 52 = .ok (.iaload, 1) := by decide +kernel
theorem dX12_owner_53 : decode cX12_owner 53 = .ok (.ireturn, 1) := by decide +kernel
theorem dX12_owner_54 : decode cX12_owner 54 = .ok (.aload_n 0, 1) := by decide +kernel
theorem dX12_owner_55 : decode cX12_owner 55 = .ok (.getfield 19, 3) := by decide +kernel
theorem dX12_owner_58 : decode cX12_owner 58 = .ok (.iload_n 1, 1) := by decide +kernel
theorem dX12_owner_59 : decode cX12_owner 59 = .ok (.iaload, 1) := by decide +kernel
theorem dX12_owner_60 : decode cX12_owner 60 = .ok (.ireturn, 1) := by decide +kernel
theorem dX12_owner_61 : decode cX12_owner 61 = .ok (.aload_n 0, 1) := by decide +kernel
theorem dX12_owner_62 : decode cX12_owner 62 = .ok (.iload_n 1, 1) := by decide +kernel
theorem dX12_owner_63 : decode cX12_owner 63 = .ok (.aload_n 0, 1) := by decide +kernel
theorem dX12_owner_64 : decode cX12_owner 64 = .ok (.invokevirtual 396, 3) := by decide +kernel
theorem dX12_owner_67 : decode cX12_owner 67 = .ok (.invokevirtual 403, 3) := by decide +kernel
theorem dX12_owner_70 : decode cX12_owner 70 = .ok (.istore_n 3, 1) := by decide +kernel
theorem dX12_owner_71 : decode cX12_owner 71 = .ok (.iload_n 3, 1) := by decide +kernel
theorem dX12_owner_72 : decode cX12_owner 72 = .ok (.ifCond .ne 7, 3) := by decide +kernel
theorem dX12_owner_75 : decode cX12_owner 75 = .ok (.iconst (-1), 1) := by decide +kernel
theorem dX12_owner_76 : decode cX12_owner 76 = .ok (.goto 7, 3) := by decide +kernel
theorem dX12_owner_79 : decode cX12_owner 79 = .ok (.iload_n 3, 1) := by decide +kernel
theorem dX12_owner_80 : decode cX12_owner 80 = .ok (.invokestatic 421, 3) := by decide +kernel
theorem dX12_owner_83 : decode cX12_owner 83 = .ok (.ireturn, 1) := by decide +kernel
theorem dX12_owner_84 : decode cX12_owner 84 = .ok (.iconst (-1), 1) := by decide +kernel
theorem dX12_owner_85 : decode cX12_owner 85 = .ok (.ireturn, 1) := by decide +kernel
theorem dX12_thing_0 : decode cX12_thing 0 = .ok (.aload_n 0, 1) := by decide +kernel
theorem dX12_thing_1 : decode cX12_thing 1 = .ok (.iload_n 1, 1) := by decide +kernel
theorem dX12_thing_2 : decode cX12_thing 2 = .ok (.invokevirtual 180, 3) := by decide +kernel
theorem dX12_thing_5 : decode cX12_thing 5 = .ok (.ifCond .ne 5, 3) := by decide +kernel
theorem dX12_thing_8 : decode cX12_thing 8 = .ok (.iconst (-1), 1) := by decide +kernel
theorem dX12_thing_9 : decode cX12_thing 9 = .ok (.ireturn, 1) := by decide +kernel
theorem dX12_thing_10 : decode cX12_thing 10 = .ok (.iload_n 2, 1) := by decide +kernel
theorem dX12_thing_11 : decode cX12_thing 11 = .ok (.tableswitch 91 0 5 #[37, 44, 51, 58, 65, 72], 37) := by decide +kernel
theorem dX12_thing_48 : decode cX12_thing 48 = .ok (.aload_n 0, 1) := by decide +kernel
theorem dX12_thing_49 : decode cX12_thing 49 = .ok (.getfield 22, 3) := by decide +kernel
theorem dX12_thing_52 : decode cX12_thing 52 = .ok (.iload_n 1, 1) := by decide +kernel
theorem dX12_thing_53 : decode cX12_thing 53 = .ok (.iaload, 1) := by decide +kernel
theorem dX12_thing_54 : decode cX12_thing 54 = .ok (.ireturn, 1) := by decide +kernel
theorem dX12_thing_55 : decode cX12_thing 55 = .ok (.aload_n 0, 1) := by decide +kernel
theorem dX12_thing_56 : decode cX12_thing 56 = .ok (.getfield 25, 3) := by decide +kernel
theorem dX12_thing_59 : decode cX12_thing 59 = .ok (.iload_n 1, 1) := by decide +kernel
theorem dX12_thing_60 : decode cX12_thing 60 = .ok (.iaload, 1) := by decide +kernel
theorem dX12_thing_61 : decode cX12_thing 61 = .ok (.ireturn, 1) := by decide +kernel
theorem dX12_thing_62 : decode cX12_thing 62 = .ok (.aload_n 0, 1) := by decide +kernel
theorem dX12_thing_63 : decode cX12_thing 63 = .ok (.getfield 28, 3) := by decide +kernel
theorem dX12_thing_66 : decode cX12_thing 66 = .ok (.iload_n 1, 1) := by decide +kernel
theorem dX12_thing_67 : decode cX12_thing 67 = .ok (.iaload, 1) := by decide +kernel
theorem dX12_thing_68 : decode cX12_thing 68 = .ok (.ireturn, 1) := by decide +kernel
theorem dX12_thing_69 : decode cX12_thing 69 = .ok (.aload_n 0, 1) := by decide +kernel
theorem dX12_thing_70 : decode cX12_thing 70 = .ok (.getfield 31, 3) := by decide +kernel
theorem dX12_thing_73 : decode cX12_thing 73 = .ok (.iload_n 1, 1) := by decide +kernel
theorem dX12_thing_74 : decode cX12_thing 74 = .ok (.iaload, 1) := by decide +kernel
theorem dX12_thing_75 : decode cX12_thing 75 = .ok (.ireturn, 1) := by decide +kernel
theorem dX12_thing_76 : decode cX12_thing 76 = .ok (.aload_n 0, 1) := by decide +kernel
theorem dX12_thing_77 : decode cX12_thing 77 = .ok (.getfield 34, 3) := by decide +kernel
theorem dX12_thing_80 : decode cX12_thing 80 = .ok (.iload_n 1, 1) := by decide +kernel
theorem dX12_thing_81 : decode cX12_thing 81 = .ok (.iaload, 1) := by decide +kernel
theorem dX12_thing_82 : decode cX12_thing 82 = .ok (.ireturn, 1) := by decide +kernel
theorem dX12_thing_83 : decode cX12_thing 83 = .ok (.aload_n 0, 1) := by decide +kernel
theorem dX12_thing_84 : decode cX12_thing 84 = .ok (.getfield 34, 3) := by decide +kernel
theorem dX12_thing_87 : decode cX12_thing 87 = .ok (.iload_n 1, 1) := by decide +kernel
theorem dX12_thing_88 : decode cX12_thing 88 = .ok (.iaload, 1) := by decide +kernel
theorem dX12_thing_89 : decode cX12_thing 89 = .ok (.ifCond .ne 11, 3) := by decide +kernel
theorem dX12_thing_92 : decode cX12_thing 92 = .ok (.aload_n 0, 1) := by decide +kernel
theorem dX12_thing_93 : decode cX12_thing 93 = .ok (.iload_n 1, 1) := by decide +kernel
theorem dX12_thing_94 : decode cX12_thing 94 = .ok (.invokevirtual 424, 3) := by decide +kernel
theorem dX12_thing_97 : decode cX12_thing 97 = .ok (.goto 4, 3) := by decide +kernel
theorem dX12_thing_100 : decode cX12_thing 100 = .ok (.iconst 0, 1) := by decide +kernel
theorem dX12_thing_101 : decode cX12_thing 101 = .ok (.ireturn, 1) := by decide +kernel
theorem dX12_thing_102 : decode cX12_thing 102 = .ok (.iconst (-1), 1) := by decide +kernel
theorem dX12_thing_103 : decode cX12_thing 103 = .ok (.ireturn, 1) := by decide +kernel
theorem dX12_rope_0 : decode cX12_rope 0 = .ok (.aload_n 0, 1) := by decide +kernel
theorem dX12_rope_1 : decode cX12_rope 1 = .ok (.iload_n 1, 1) := by decide +kernel
theorem dX12_rope_2 : decode cX12_rope 2 = .ok (.invokevirtual 427, 3) := by decide +kernel
theorem dX12_rope_5 : decode cX12_rope 5 = .ok (.ifCond .ne 5, 3) := by decide +kernel
theorem dX12_rope_8 : decode cX12_rope 8 = .ok (.iconst (-1), 1) := by decide +kernel
theorem dX12_rope_9 : decode cX12_rope 9 = .ok (.ireturn, 1) := by decide +kernel
theorem dX12_rope_10 : decode cX12_rope 10 = .ok (.iload_n 2, 1) := by decide +kernel
theorem dX12_rope_11 : decode cX12_rope 11 = .ok (.tableswitch 46 0 2 #[25, 32, 39], 25) := by decide +kernel
theorem dX12_rope_36 : decode cX12_rope 36 = .ok (.aload_n 0, 1) := by decide +kernel
theorem dX12_rope_37 : decode cX12_rope 37 = .ok (.getfield 40, 3) := by decide +kernel
theorem dX12_rope_40 : decode cX12_rope 40 = .ok (.iload_n 1, 1) := by decide +kernel
theorem dX12_rope_41 : decode cX12_rope 41 = .ok (.iaload, 1) := by decide +kernel
theorem dX12_rope_42 : decode cX12_rope 42 = .ok (.ireturn, 1) := by decide +kernel
theorem dX12_rope_43 : decode cX12_rope 43 = .ok (.aload_n 0, 1) := by decide +kernel
theorem dX12_rope_44 : decode cX12_rope 44 = .ok (.getfield 43, 3) := by decide +kernel
theorem dX12_rope_47 : decode cX12_rope 47 = .ok (.iload_n 1, 1) := by decide +kernel
theorem dX12_rope_48 : decode cX12_rope 48 = .ok (.iaload, 1) := by decide +kernel
theorem dX12_rope_49 : decode cX12_rope 49 = .ok (.ireturn, 1) := by decide +kernel
theorem dX12_rope_50 : decode cX12_rope 50 = .ok (.aload_n 0, 1) := by decide +kernel
theorem dX12_rope_51 : decode cX12_rope 51 = .ok (.getfield 46, 3) := by decide +kernel
theorem dX12_rope_54 : decode cX12_rope 54 = .ok (.iload_n 1, 1) := by decide +kernel
theorem dX12_rope_55 : decode cX12_rope 55 = .ok (.iaload, 1) := by decide +kernel
theorem dX12_rope_56 : decode cX12_rope 56 = .ok (.ireturn, 1) := by decide +kernel
theorem dX12_rope_57 : decode cX12_rope 57 = .ok (.iconst (-1), 1) := by decide +kernel
theorem dX12_rope_58 : decode cX12_rope 58 = .ok (.ireturn, 1) := by decide +kernel
theorem dX12_forceAt_0 : decode cX12_forceAt 0 = .ok (.iconst 0, 1) := by decide +kernel
theorem dX12_forceAt_1 : decode cX12_forceAt 1 = .ok (.istore_n 2, 1) := by decide +kernel
theorem dX12_forceAt_2 : decode cX12_forceAt 2 = .ok (.iload_n 2, 1) := by decide +kernel
theorem dX12_forceAt_3 : decode cX12_forceAt 3 = .ok (.aload_n 0, 1) := by decide +kernel
theorem dX12_forceAt_4 : decode cX12_forceAt 4 = .ok (.getfield 9, 3) := by decide +kernel
theorem dX12_forceAt_7 : decode cX12_forceAt 7 = .ok (.iconst 5, 1) := by decide +kernel
theorem dX12_forceAt_8 : decode cX12_forceAt 8 = .ok (.iaload, 1) := by decide +kernel
theorem dX12_forceAt_9 : decode cX12_forceAt 9 = .ok (.if_icmp .ge 26, 3) := by decide +kernel
theorem dX12_forceAt_12 : decode cX12_forceAt 12 = .ok (.aload_n 0, 1) := by decide +kernel
theorem dX12_forceAt_13 : decode cX12_forceAt 13 = .ok (.getfield 49, 3) := by decide +kernel
theorem dX12_forceAt_16 : decode cX12_forceAt 16 = .ok (.iload_n 2, 1) := by decide +kernel
theorem dX12_forceAt_17 : decode cX12_forceAt 17 = .ok (.iaload, 1) := by decide +kernel
theorem dX12_forceAt_18 : decode cX12_forceAt 18 = .ok (.iload_n 1, 1) := by decide +kernel
theorem dX12_forceAt_19 : decode cX12_forceAt 19 = .ok (.if_icmp .ne 10, 3) := by decide +kernel
theorem dX12_forceAt_22 : decode cX12_forceAt 22 = .ok (.aload_n 0, 1) := by decide +kernel
theorem dX12_forceAt_23 : decode cX12_forceAt 23 = .ok (.getfield 52, 3) := by decide +kernel
theorem dX12_forceAt_26 : decode cX12_forceAt 26 = .ok (.iload_n 2, 1) := by decide +kernel
theorem dX12_forceAt_27 : decode cX12_forceAt 27 = .ok (.iaload, 1) := by decide +kernel
theorem dX12_forceAt_28 : decode cX12_forceAt 28 = .ok (.ireturn, 1) := by decide +kernel
theorem dX12_forceAt_29 : decode cX12_forceAt 29 = .ok (.iinc 2 1, 3) := by decide +kernel
theorem dX12_forceAt_32 : decode cX12_forceAt 32 = .ok (.goto (-30), 3) := by decide +kernel
theorem dX12_forceAt_35 : decode cX12_forceAt 35 = .ok (.iconst 0, 1) := by decide +kernel
theorem dX12_forceAt_36 : decode cX12_forceAt 36 = .ok (.ireturn, 1) := by decide +kernel
theorem dX12_rapid_0 : decode cX12_rapid 0 = .ok (.aload_n 0, 1) := by decide +kernel
theorem dX12_rapid_1 : decode cX12_rapid 1 = .ok (.invokevirtual 430, 3) := by decide +kernel
theorem dX12_rapid_4 : decode cX12_rapid 4 = .ok (.ifCond .eq 27, 3) := by decide +kernel
theorem dX12_rapid_7 : decode cX12_rapid 7 = .ok (.iload_n 1, 1) := by decide +kernel
theorem dX12_rapid_8 : decode cX12_rapid 8 = .ok (.i2l, 1) := by decide +kernel
theorem dX12_rapid_9 : decode cX12_rapid 9 = .ok (.lconst 0, 1) := by decide +kernel
theorem dX12_rapid_10 : decode cX12_rapid 10 = .ok (.aload_n 0, 1) := by decide +kernel
theorem dX12_rapid_11 : decode cX12_rapid 11 = .ok (.getfield 9, 3) := by decide +kernel
theorem dX12_rapid_14 : decode cX12_rapid 14 = .ok (.iconst 0, 1) := by decide +kernel
theorem dX12_rapid_15 : decode cX12_rapid 15 = .ok (.iaload, 1) := by decide +kernel
theorem dX12_rapid_16 : decode cX12_rapid 16 = .ok (.i2l, 1) := by decide +kernel
theorem dX12_rapid_17 : decode cX12_rapid 17 = .ok (.invokestatic 176, 3) := by decide +kernel
theorem dX12_rapid_20 : decode cX12_rapid 20 = .ok (.ifCond .eq 11, 3) := by decide +kernel
theorem dX12_rapid_23 : decode cX12_rapid 23 = .ok (.aload_n 0, 1) := by decide +kernel
theorem dX12_rapid_24 : decode cX12_rapid 24 = .ok (.iload_n 1, 1) := by decide +kernel
theorem dX12_rapid_25 : decode cX12_rapid 25 = .ok (.invokevirtual 433, 3) := by decide +kernel
theorem dX12_rapid_28 : decode cX12_rapid 28 = .ok (.goto 4, 3) := by decide +kernel
theorem dX12_rapid_31 : decode cX12_rapid 31 = .ok (.iconst (-1), 1) := by decide +kernel
theorem dX12_rapid_32 : decode cX12_rapid 32 = .ok (.ireturn, 1) := by decide +kernel
theorem dX12_margin_0 : decode cX12_margin 0 = .ok (.aload_n 0, 1) := by decide +kernel
theorem dX12_margin_1 : decode cX12_margin 1 = .ok (.iload_n 1, 1) := by decide +kernel
theorem dX12_margin_2 : decode cX12_margin 2 = .ok (.invokevirtual 436, 3) := by decide +kernel
theorem dX12_margin_5 : decode cX12_margin 5 = .ok (.ifCond .eq 19, 3) := by decide +kernel
theorem dX12_margin_8 : decode cX12_margin 8 = .ok (.aload_n 0, 1) := by decide +kernel
theorem dX12_margin_9 : decode cX12_margin 9 = .ok (.aload_n 0, 1) := by decide +kernel
theorem dX12_margin_10 : decode cX12_margin 10 = .ok (.iload_n 1, 1) := by decide +kernel
theorem dX12_margin_11 : decode cX12_margin 11 = .ok (.invokevirtual 424, 3) := by decide +kernel
theorem dX12_margin_14 : decode cX12_margin 14 = .ok (.aload_n 0, 1) := by decide +kernel
theorem dX12_margin_15 : decode cX12_margin 15 = .ok (.invokevirtual 396, 3) := by decide +kernel
theorem dX12_margin_18 : decode cX12_margin 18 = .ok (.invokevirtual 415, 3) := by decide +kernel
theorem dX12_margin_21 : decode cX12_margin 21 = .ok (.goto 6, 3) := by decide +kernel
theorem dX12_margin_24 : decode cX12_margin 24 = .ok (.sipush (-10000), 3) := by decide +kernel
theorem dX12_margin_27 : decode cX12_margin 27 = .ok (.ireturn, 1) := by decide +kernel
theorem dX12_ropeGoes_0 : decode cX12_ropeGoes 0 = .ok (.iload_n 1, 1) := by decide +kernel
theorem dX12_ropeGoes_1 : decode cX12_ropeGoes 1 = .ok (.istore_n 2, 1) := by decide +kernel
theorem dX12_ropeGoes_2 : decode cX12_ropeGoes 2 = .ok (.iload_n 2, 1) := by decide +kernel
theorem dX12_ropeGoes_3 : decode cX12_ropeGoes 3 = .ok (.iconst 1, 1) := by decide +kernel
theorem dX12_ropeGoes_4 : decode cX12_ropeGoes 4 = .ok (.iadd, 1) := by decide +kernel
theorem dX12_ropeGoes_5 : decode cX12_ropeGoes 5 = .ok (.aload_n 0, 1) := by decide +kernel
theorem dX12_ropeGoes_6 : decode cX12_ropeGoes 6 = .ok (.getfield 9, 3) := by decide +kernel
theorem dX12_ropeGoes_9 : decode cX12_ropeGoes 9 = .ok (.iconst 4, 1) := by decide +kernel
theorem dX12_ropeGoes_10 : decode cX12_ropeGoes 10 = .ok (.iaload, 1) := by decide +kernel
theorem dX12_ropeGoes_11 : decode cX12_ropeGoes 11 = .ok (.if_icmp .ge 51, 3) := by decide +kernel
theorem dX12_ropeGoes_14 : decode cX12_ropeGoes 14 = .ok (.aload_n 0, 1) := by decide +kernel
theorem dX12_ropeGoes_15 : decode cX12_ropeGoes 15 = .ok (.getfield 40, 3) := by decide +kernel
theorem dX12_ropeGoes_18 : decode cX12_ropeGoes 18 = .ok (.iload_n 2, 1) := by decide +kernel
theorem dX12_ropeGoes_19 : decode cX12_ropeGoes 19 = .ok (.aload_n 0, 1) := by decide +kernel
theorem dX12_ropeGoes_20 : decode cX12_ropeGoes 20 = .ok (.getfield 40, 3) := by decide +kernel
theorem dX12_ropeGoes_23 : decode cX12_ropeGoes 23 = .ok (.iload_n 2, 1) := by decide +kernel
theorem dX12_ropeGoes_24 : decode cX12_ropeGoes 24 = .ok (.iconst 1, 1) := by decide +kernel
theorem dX12_ropeGoes_25 : decode cX12_ropeGoes 25 = .ok (.iadd, 1) := by decide +kernel
theorem dX12_ropeGoes_26 : decode cX12_ropeGoes 26 = .ok (.iaload, 1) := by decide +kernel
theorem dX12_ropeGoes_27 : decode cX12_ropeGoes 27 = .ok (.iastore, 1) := by decide +kernel
theorem dX12_ropeGoes_28 : decode cX12_ropeGoes 28 = .ok (.aload_n 0, 1) := by decide +kernel
theorem dX12_ropeGoes_29 : decode cX12_ropeGoes 29 = .ok (.getfield 43, 3) := by decide +kernel
theorem dX12_ropeGoes_32 : decode cX12_ropeGoes 32 = .ok (.iload_n 2, 1) := by decide +kernel
theorem dX12_ropeGoes_33 : decode cX12_ropeGoes 33 = .ok (.aload_n 0, 1) := by decide +kernel
theorem dX12_ropeGoes_34 : decode cX12_ropeGoes 34 = .ok (.getfield 43, 3) := by decide +kernel
theorem dX12_ropeGoes_37 : decode cX12_ropeGoes 37 = .ok (.iload_n 2, 1) := by decide +kernel
theorem dX12_ropeGoes_38 : decode cX12_ropeGoes 38 = .ok (.iconst 1, 1) := by decide +kernel
theorem dX12_ropeGoes_39 : decode cX12_ropeGoes 39 = .ok (.iadd, 1) := by decide +kernel
theorem dX12_ropeGoes_40 : decode cX12_ropeGoes 40 = .ok (.iaload, 1) := by decide +kernel
theorem dX12_ropeGoes_41 : decode cX12_ropeGoes 41 = .ok (.iastore, 1) := by decide +kernel
theorem dX12_ropeGoes_42 : decode cX12_ropeGoes 42 = .ok (.aload_n 0, 1) := by decide +kernel
theorem dX12_ropeGoes_43 : decode cX12_ropeGoes 43 = .ok (.getfield 46, 3) := by decide +kernel
theorem dX12_ropeGoes_46 : decode cX12_ropeGoes 46 = .ok (.iload_n 2, 1) := by decide +kernel
theorem dX12_ropeGoes_47 : decode cX12_ropeGoes 47 = .ok (.aload_n 0, 1) := by decide +kernel
theorem dX12_ropeGoes_48 : decode cX12_ropeGoes 48 = .ok (.getfield 46, 3) := by decide +kernel
theorem dX12_ropeGoes_51 : decode cX12_ropeGoes 51 = .ok (.iload_n 2, 1) := by decide +kernel
theorem dX12_ropeGoes_52 : decode cX12_ropeGoes 52 = .ok (.iconst 1, 1) := by decide +kernel
theorem dX12_ropeGoes_53 : decode cX12_ropeGoes 53 = .ok (.iadd, 1) := by decide +kernel
theorem dX12_ropeGoes_54 : decode cX12_ropeGoes 54 = .ok (.iaload, 1) := by decide +kernel
theorem dX12_ropeGoes_55 : decode cX12_ropeGoes 55 = .ok (.iastore, 1) := by decide +kernel
theorem dX12_ropeGoes_56 : decode cX12_ropeGoes 56 = .ok (.iinc 2 1, 3) := by decide +kernel
theorem dX12_ropeGoes_59 : decode cX12_ropeGoes 59 = .ok (.goto (-57), 3) := by decide +kernel
theorem dX12_ropeGoes_62 : decode cX12_ropeGoes 62 = .ok (.aload_n 0, 1) := by decide +kernel
theorem dX12_ropeGoes_63 : decode cX12_ropeGoes 63 = .ok (.getfield 9, 3) := by decide +kernel
theorem dX12_ropeGoes_66 : decode cX12_ropeGoes 66 = .ok (.iconst 4, 1) := by decide +kernel
theorem dX12_ropeGoes_67 : decode cX12_ropeGoes 67 = .ok (.dup2, 1) := by decide +kernel
theorem dX12_ropeGoes_68 : decode cX12_ropeGoes 68 = .ok (.iaload, 1) := by decide +kernel
theorem dX12_ropeGoes_69 : decode cX12_ropeGoes 69 = .ok (.iconst 1, 1) := by decide +kernel
theorem dX12_ropeGoes_70 : decode cX12_ropeGoes 70 = .ok (.isub, 1) := by decide +kernel
theorem dX12_ropeGoes_71 : decode cX12_ropeGoes 71 = .ok (.iastore, 1) := by decide +kernel
theorem dX12_ropeGoes_72 : decode cX12_ropeGoes 72 = .ok (.return_, 1) := by decide +kernel
theorem dX12_ropesGoOf_0 : decode cX12_ropesGoOf 0 = .ok (.iconst 0, 1) := by decide +kernel
theorem dX12_ropesGoOf_1 : decode cX12_ropesGoOf 1 = .ok (.istore_n 3, 1) := by decide +kernel
theorem dX12_ropesGoOf_2 : decode cX12_ropesGoOf 2 = .ok (.aload_n 0, 1) := by decide +kernel
theorem dX12_ropesGoOf_3 : decode cX12_ropesGoOf 3 = .ok (.getfield 9, 3) := by decide +kernel
theorem dX12_ropesGoOf_6 : decode cX12_ropesGoOf 6 = .ok (.iconst 4, 1) := by decide +kernel
theorem dX12_ropesGoOf_7 : decode cX12_ropesGoOf 7 = .ok (.iaload, 1) := by decide +kernel
theorem dX12_ropesGoOf_8 : decode cX12_ropesGoOf 8 = .ok (.iconst 1, 1) := by decide +kernel
theorem dX12_ropesGoOf_9 : decode cX12_ropesGoOf 9 = .ok (.isub, 1) := by decide +kernel
theorem dX12_ropesGoOf_10 : decode cX12_ropesGoOf 10 = .ok (.istore 4, 2) := by decide +kernel
theorem dX12_ropesGoOf_12 : decode cX12_ropesGoOf 12 = .ok (.iload 4, 2) := by decide +kernel
theorem dX12_ropesGoOf_14 : decode cX12_ropesGoOf 14 = .ok (.ifCond .lt 70, 3) := by decide +kernel
theorem dX12_ropesGoOf_17 : decode cX12_ropesGoOf 17 = .ok (.iload_n 1, 1) := by decide +kernel
theorem dX12_ropesGoOf_18 : decode cX12_ropesGoOf 18 = .ok (.aload_n 0, 1) := by decide +kernel
theorem dX12_ropesGoOf_19 : decode cX12_ropesGoOf 19 = .ok (.getfield 40, 3) := by decide +kernel
theorem dX12_ropesGoOf_22 : decode cX12_ropesGoOf 22 = .ok (.iload 4, 2) := by decide +kernel
theorem dX12_ropesGoOf_24 : decode cX12_ropesGoOf 24 = .ok (.iaload, 1) := by decide +kernel
theorem dX12_ropesGoOf_25 : decode cX12_ropesGoOf 25 = .ok (.invokestatic 390, 3) := by decide +kernel
theorem dX12_ropesGoOf_28 : decode cX12_ropesGoOf 28 = .ok (.ifCond .ne 17, 3) := by decide +kernel
theorem dX12_ropesGoOf_31 : decode cX12_ropesGoOf 31 = .ok (.iload_n 1, 1) := by decide +kernel
theorem dX12_ropesGoOf_32 : decode cX12_ropesGoOf 32 = .ok (.aload_n 0, 1) := by decide +kernel
theorem dX12_ropesGoOf_33 : decode cX12_ropesGoOf 33 = .ok (.getfield 43, 3) := by decide +kernel
theorem dX12_ropesGoOf_36 : decode cX12_ropesGoOf 36 = .ok (.iload 4, 2) := by decide +kernel
theorem dX12_ropesGoOf_38 : decode cX12_ropesGoOf 38 = .ok (.iaload, 1) := by decide +kernel
theorem dX12_ropesGoOf_39 : decode cX12_ropesGoOf 39 = .ok (.invokestatic 390, 3) := by decide +kernel
theorem dX12_ropesGoOf_42 : decode cX12_ropesGoOf 42 = .ok (.ifCond .eq 36, 3) := by decide +kernel
theorem dX12_ropesGoOf_45 : decode cX12_ropesGoOf 45 = .ok (.aload_n 0, 1) := by decide +kernel
theorem dX12_ropesGoOf_46 : decode cX12_ropesGoOf 46 = .ok (.getfield 9, 3) := by decide +kernel
theorem dX12_ropesGoOf_49 : decode cX12_ropesGoOf 49 = .ok (.iconst 1, 1) := by decide +kernel
theorem dX12_ropesGoOf_50 : decode cX12_ropesGoOf 50 = .ok (.dup2, 1) := by decide +kernel
theorem dX12_ropesGoOf_51 : decode cX12_ropesGoOf 51 = .ok (.iaload, 1) := by decide +kernel
theorem dX12_ropesGoOf_52 : decode cX12_ropesGoOf 52 = .ok (.iload_n 2, 1) := by decide +kernel
theorem dX12_ropesGoOf_53 : decode cX12_ropesGoOf 53 = .ok (.ifCond .eq 13, 3) := by decide +kernel
theorem dX12_ropesGoOf_56 : decode cX12_ropesGoOf 56 = .ok (.aload_n 0, 1) := by decide +kernel
theorem dX12_ropesGoOf_57 : decode cX12_ropesGoOf 57 = .ok (.getfield 46, 3) := by decide +kernel
theorem dX12_ropesGoOf_60 : decode cX12_ropesGoOf 60 = .ok (.iload 4, 2) := by decide +kernel
theorem dX12_ropesGoOf_62 : decode cX12_ropesGoOf 62 = .ok (.iaload, 1) := by decide +kernel
theorem dX12_ropesGoOf_63 : decode cX12_ropesGoOf 63 = .ok (.goto 4, 3) := by decide +kernel
theorem dX12_ropesGoOf_66 : decode cX12_ropesGoOf 66 = .ok (.iconst 0, 1) := by decide +kernel
theorem dX12_ropesGoOf_67 : decode cX12_ropesGoOf 67 = .ok (.iadd, 1) := by decide +kernel
theorem dX12_ropesGoOf_68 : decode cX12_ropesGoOf 68 = .ok (.iastore, 1) := by decide +kernel
theorem dX12_ropesGoOf_69 : decode cX12_ropesGoOf 69 = .ok (.aload_n 0, 1) := by decide +kernel
theorem dX12_ropesGoOf_70 : decode cX12_ropesGoOf 70 = .ok (.iload 4, 2) := by decide +kernel
theorem dX12_ropesGoOf_72 : decode cX12_ropesGoOf 72 = .ok (.invokevirtual 439, 3) := by decide +kernel
theorem dX12_ropesGoOf_75 : decode cX12_ropesGoOf 75 = .ok (.iinc 3 1, 3) := by decide +kernel
theorem dX12_ropesGoOf_78 : decode cX12_ropesGoOf 78 = .ok (.iinc 4 (-1), 3) := by decide +kernel
theorem dX12_ropesGoOf_81 : decode cX12_ropesGoOf 81 = .ok (.goto (-69), 3) := by decide +kernel
theorem dX12_ropesGoOf_84 : decode cX12_ropesGoOf 84 = .ok (.iload_n 3, 1) := by decide +kernel
theorem dX12_ropesGoOf_85 : decode cX12_ropesGoOf 85 = .ok (.ireturn, 1) := by decide +kernel
theorem dX12_isBound_0 : decode cX12_isBound 0 = .ok (.iconst 0, 1) := by decide +kernel
theorem dX12_isBound_1 : decode cX12_isBound 1 = .ok (.istore_n 3, 1) := by decide +kernel
theorem dX12_isBound_2 : decode cX12_isBound 2 = .ok (.iload_n 3, 1) := by decide +kernel
theorem dX12_isBound_3 : decode cX12_isBound 3 = .ok (.aload_n 0, 1) := by decide +kernel
theorem dX12_isBound_4 : decode cX12_isBound 4 = .ok (.getfield 9, 3) := by decide +kernel
theorem dX12_isBound_7 : decode cX12_isBound 7 = .ok (.iconst 4, 1) := by decide +kernel
theorem dX12_isBound_8 : decode cX12_isBound 8 = .ok (.iaload, 1) := by decide +kernel
theorem dX12_isBound_9 : decode cX12_isBound 9 = .ok (.if_icmp .ge 51, 3) := by decide +kernel
theorem dX12_isBound_12 : decode cX12_isBound 12 = .ok (.aload_n 0, 1) := by decide +kernel
theorem dX12_isBound_13 : decode cX12_isBound 13 = .ok (.getfield 40, 3) := by decide +kernel
theorem dX12_isBound_16 : decode cX12_isBound 16 = .ok (.iload_n 3, 1) := by decide +kernel
theorem dX12_isBound_17 : decode cX12_isBound 17 = .ok (.iaload, 1) := by decide +kernel
theorem dX12_isBound_18 : decode cX12_isBound 18 = .ok (.iload_n 1, 1) := by decide +kernel
theorem dX12_isBound_19 : decode cX12_isBound 19 = .ok (.if_icmp .ne 13, 3) := by decide +kernel
theorem dX12_isBound_22 : decode cX12_isBound 22 = .ok (.aload_n 0, 1) := by decide +kernel
theorem dX12_isBound_23 : decode cX12_isBound 23 = .ok (.getfield 43, 3) := by decide +kernel
theorem dX12_isBound_26 : decode cX12_isBound 26 = .ok (.iload_n 3, 1) := by decide +kernel
theorem dX12_isBound_27 : decode cX12_isBound 27 = .ok (.iaload, 1) := by decide +kernel
theorem dX12_isBound_28 : decode cX12_isBound 28 = .ok (.iload_n 2, 1) := by decide +kernel
theorem dX12_isBound_29 : decode cX12_isBound 29 = .ok (.if_icmp .eq 23, 3) := by decide +kernel
theorem dX12_isBound_32 : decode cX12_isBound 32 = .ok (.aload_n 0, 1) := by decide +kernel
theorem dX12_isBound_33 : decode cX12_isBound 33 = .ok (.getfield 40, 3) := by decide +kernel
theorem dX12_isBound_36 : decode cX12_isBound 36 = .ok (.iload_n 3, 1) := by decide +kernel
theorem dX12_isBound_37 : decode cX12_isBound 37 = .ok (.iaload, 1) := by decide +kernel
theorem dX12_isBound_38 : decode cX12_isBound 38 = .ok (.iload_n 2, 1) := by decide +kernel
theorem dX12_isBound_39 : decode cX12_isBound 39 = .ok (.if_icmp .ne 15, 3) := by decide +kernel
theorem dX12_isBound_42 : decode cX12_isBound 42 = .ok (.aload_n 0, 1) := by decide +kernel
theorem dX12_isBound_43 : decode cX12_isBound 43 = .ok (.getfield 43, 3) := by decide +kernel
theorem dX12_isBound_46 : decode cX12_isBound 46 = .ok (.iload_n 3, 1) := by decide +kernel
theorem dX12_isBound_47 : decode cX12_isBound 47 = .ok (.iaload, 1) := by decide +kernel
theorem dX12_isBound_48 : decode cX12_isBound 48 = .ok (.iload_n 1, 1) := by decide +kernel
theorem dX12_isBound_49 : decode cX12_isBound 49 = .ok (.if_icmp .ne 5, 3) := by decide +kernel
theorem dX12_isBound_52 : decode cX12_isBound 52 = .ok (.iconst 1, 1) := by decide +kernel
theorem dX12_isBound_53 : decode cX12_isBound 53 = .ok (.ireturn, 1) := by decide +kernel
theorem dX12_isBound_54 : decode cX12_isBound 54 = .ok (.iinc 3 1, 3) := by decide +kernel
theorem dX12_isBound_57 : decode cX12_isBound 57 = .ok (.goto (-55), 3) := by decide +kernel
theorem dX12_isBound_60 : decode cX12_isBound 60 = .ok (.iconst 0, 1) := by decide +kernel
theorem dX12_isBound_61 : decode cX12_isBound 61 = .ok (.ireturn, 1) := by decide +kernel
theorem dX12_canBind_0 : decode cX12_canBind 0 = .ok (.aload_n 0, 1) := by decide +kernel
theorem dX12_canBind_1 : decode cX12_canBind 1 = .ok (.iload_n 1, 1) := by decide +kernel
theorem dX12_canBind_2 : decode cX12_canBind 2 = .ok (.invokevirtual 436, 3) := by decide +kernel
theorem dX12_canBind_5 : decode cX12_canBind 5 = .ok (.ifCond .eq 62, 3) := by decide +kernel
theorem dX12_canBind_8 : decode cX12_canBind 8 = .ok (.aload_n 0, 1) := by decide +kernel
theorem dX12_canBind_9 : decode cX12_canBind 9 = .ok (.iload_n 2, 1) := by decide +kernel
theorem dX12_canBind_10 : decode cX12_canBind 10 = .ok (.invokevirtual 436, 3) := by decide +kernel
theorem dX12_canBind_13 : decode cX12_canBind 13 = .ok (.ifCond .eq 54, 3) := by decide +kernel
theorem dX12_canBind_16 : decode cX12_canBind 16 = .ok (.iload_n 1, 1) := by decide +kernel
theorem dX12_canBind_17 : decode cX12_canBind 17 = .ok (.iload_n 2, 1) := by decide +kernel
theorem dX12_canBind_18 : decode cX12_canBind 18 = .ok (.if_icmp .eq 49, 3) := by decide +kernel
theorem dX12_canBind_21 : decode cX12_canBind 21 = .ok (.iload_n 3, 1) := by decide +kernel
theorem dX12_canBind_22 : decode cX12_canBind 22 = .ok (.i2l, 1) := by decide +kernel
theorem dX12_canBind_23 : decode cX12_canBind 23 = .ok (.lconst 1, 1) := by decide +kernel
theorem dX12_canBind_24 : decode cX12_canBind 24 = .ok (.ldc2_w 442, 3) := by decide +kernel
theorem dX12_canBind_27 : decode cX12_canBind 27 = .ok (.invokestatic 176, 3) := by decide +kernel
theorem dX12_canBind_30 : decode cX12_canBind 30 = .ok (.ifCond .eq 37, 3) := by decide +kernel
theorem dX12_canBind_33 : decode cX12_canBind 33 = .ok (.iload_n 3, 1) := by decide +kernel
theorem dX12_canBind_34 : decode cX12_canBind 34 = .ok (.aload_n 0, 1) := by decide +kernel
theorem dX12_canBind_35 : decode cX12_canBind 35 = .ok (.getfield 9, 3) := by decide +kernel
theorem dX12_canBind_38 : decode cX12_canBind 38 = .ok (.iconst 1, 1) := by decide +kernel
theorem dX12_canBind_39 : decode cX12_canBind 39 = .ok (.iaload, 1) := by decide +kernel
theorem dX12_canBind_40 : decode cX12_canBind 40 = .ok (.if_icmp .gt 27, 3) := by decide +kernel
theorem dX12_canBind_43 : decode cX12_canBind 43 = .ok (.aload_n 0, 1) := by decide +kernel
theorem dX12_canBind_44 : decode cX12_canBind 44 = .ok (.getfield 9, 3) := by decide +kernel
theorem dX12_canBind_47 : decode cX12_canBind 47 = .ok (.iconst 4, 1) := by decide +kernel
theorem dX12_canBind_48 : decode cX12_canBind 48 = .ok (.iaload, 1) := by decide +kernel
theorem dX12_canBind_49 : decode cX12_canBind 49 = .ok (.bipush 12, 2) := by decide +kernel
theorem dX12_canBind_51 : decode cX12_canBind 51 = .ok (.if_icmp .ge 16, 3) := by decide +kernel
theorem dX12_canBind_54 : decode cX12_canBind 54 = .ok (.aload_n 0, 1) := by decide +kernel
theorem dX12_canBind_55 : decode cX12_canBind 55 = .ok (.iload_n 1, 1) := by decide +kernel
theorem dX12_canBind_56 : decode cX12_canBind 56 = .ok (.iload_n 2, 1) := by decide +kernel
theorem dX12_canBind_57 : decode cX12_canBind 57 = .ok (.invokevirtual 444, 3) := by decide +kernel
theorem dX12_canBind_60 : decode cX12_canBind 60 = .ok (.ifCond .ne 7, 3) := by decide +kernel
theorem dX12_canBind_63 : decode cX12_canBind 63 = .ok (.iconst 1, 1) := by decide +kernel
theorem dX12_canBind_64 : decode cX12_canBind 64 = .ok (.goto 4, 3) := by decide +kernel
theorem dX12_canBind_67 : decode cX12_canBind 67 = .ok (.iconst 0, 1) := by decide +kernel
theorem dX12_canBind_68 : decode cX12_canBind 68 = .ok (.ireturn, 1) := by decide +kernel
theorem dX12_binds_0 : decode cX12_binds 0 = .ok (.aload_n 0, 1) := by decide +kernel
theorem dX12_binds_1 : decode cX12_binds 1 = .ok (.getfield 9, 3) := by decide +kernel
theorem dX12_binds_4 : decode cX12_binds 4 = .ok (.iconst 4, 1) := by decide +kernel
theorem dX12_binds_5 : decode cX12_binds 5 = .ok (.iaload, 1) := by decide +kernel
theorem dX12_binds_6 : decode cX12_binds 6 = .ok (.istore 4, 2) := by decide +kernel
theorem dX12_binds_8 : decode cX12_binds 8 = .ok (.aload_n 0, 1) := by decide +kernel
theorem dX12_binds_9 : decode cX12_binds 9 = .ok (.getfield 40, 3) := by decide +kernel
theorem dX12_binds_12 : decode cX12_binds 12 = .ok (.iload 4, 2) := by decide +kernel
theorem dX12_binds_14 : decode cX12_binds 14 = .ok (.iload_n 1, 1) := by decide +kernel
theorem dX12_binds_15 : decode cX12_binds 15 = .ok (.iload_n 2, 1) := by decide +kernel
theorem dX12_binds_16 : decode cX12_binds 16 = .ok (.if_icmp .ge 7, 3) := by decide +kernel
theorem dX12_binds_19 : decode cX12_binds 19 = .ok (.iload_n 1, 1) := by decide +kernel
theorem dX12_binds_20 : decode cX12_binds 20 = .ok (.goto 4, 3) := by decide +kernel
theorem dX12_binds_23 : decode cX12_binds 23 = .ok (.iload_n 2, 1) := by decide +kernel
theorem dX12_binds_24 : decode cX12_binds 24 = .ok (.iastore, 1) := by decide +kernel
theorem dX12_binds_25 : decode cX12_binds 25 = .ok (.aload_n 0, 1) := by decide +kernel
theorem dX12_binds_26 : decode cX12_binds 26 = .ok (.getfield 43, 3) := by decide +kernel
theorem dX12_binds_29 : decode cX12_binds 29 = .ok (.iload 4, 2) := by decide +kernel
theorem dX12_binds_31 : decode cX12_binds 31 = .ok (.iload_n 1, 1) := by decide +kernel
theorem dX12_binds_32 : decode cX12_binds 32 = .ok (.iload_n 2, 1) := by decide +kernel
theorem dX12_binds_33 : decode cX12_binds 33 = .ok (.if_icmp .ge 7, 3) := by decide +kernel
theorem dX12_binds_36 : decode cX12_binds 36 = .ok (.iload_n 2, 1) := by decide +kernel
theorem dX12_binds_37 : decode cX12_binds 37 = .ok (.goto 4, 3) := by decide +kernel
theorem dX12_binds_40 : decode cX12_binds 40 = .ok (.iload_n 1, 1) := by decide +kernel
theorem dX12_binds_41 : decode cX12_binds 41 = .ok (.iastore, 1) := by decide +kernel
theorem dX12_binds_42 : decode cX12_binds 42 = .ok (.aload_n 0, 1) := by decide +kernel
theorem dX12_binds_43 : decode cX12_binds 43 = .ok (.getfield 46, 3) := by decide +kernel
theorem dX12_binds_46 : decode cX12_binds 46 = .ok (.iload 4, 2) := by decide +kernel
theorem dX12_binds_48 : decode cX12_binds 48 = .ok (.iload_n 3, 1) := by decide +kernel
theorem dX12_binds_49 : decode cX12_binds 49 = .ok (.iastore, 1) := by decide +kernel
theorem dX12_binds_50 : decode cX12_binds 50 = .ok (.aload_n 0, 1) := by decide +kernel
theorem dX12_binds_51 : decode cX12_binds 51 = .ok (.getfield 9, 3) := by decide +kernel
theorem dX12_binds_54 : decode cX12_binds 54 = .ok (.iconst 1, 1) := by decide +kernel
theorem dX12_binds_55 : decode cX12_binds 55 = .ok (.dup2, 1) := by decide +kernel
theorem dX12_binds_56 : decode cX12_binds 56 = .ok (.iaload, 1) := by decide +kernel
theorem dX12_binds_57 : decode cX12_binds 57 = .ok (.iload_n 3, 1) := by decide +kernel
theorem dX12_binds_58 : decode cX12_binds 58 = .ok (.isub, 1) := by decide +kernel
theorem dX12_binds_59 : decode cX12_binds 59 = .ok (.iastore, 1) := by decide +kernel
theorem dX12_binds_60 : decode cX12_binds 60 = .ok (.aload_n 0, 1) := by decide +kernel
theorem dX12_binds_61 : decode cX12_binds 61 = .ok (.getfield 9, 3) := by decide +kernel
theorem dX12_binds_64 : decode cX12_binds 64 = .ok (.iconst 4, 1) := by decide +kernel
theorem dX12_binds_65 : decode cX12_binds 65 = .ok (.dup2, 1) := by decide +kernel
theorem dX12_binds_66 : decode cX12_binds 66 = .ok (.iaload, 1) := by decide +kernel
theorem dX12_binds_67 : decode cX12_binds 67 = .ok (.iconst 1, 1) := by decide +kernel
theorem dX12_binds_68 : decode cX12_binds 68 = .ok (.iadd, 1) := by decide +kernel
theorem dX12_binds_69 : decode cX12_binds 69 = .ok (.iastore, 1) := by decide +kernel
theorem dX12_binds_70 : decode cX12_binds 70 = .ok (.iload 4, 2) := by decide +kernel
theorem dX12_binds_72 : decode cX12_binds 72 = .ok (.ireturn, 1) := by decide +kernel
