theorem dX6_readClause_0 : decode cX6_readClause 0 = .ok (.aload_n 0, 1) := by decide +kernel
theorem dX6_readClause_1 : decode cX6_readClause 1 = .ok (.getfield 27, 3) := by decide +kernel
theorem dX6_readClause_4 : decode cX6_readClause 4 = .ok (.ldc 59, 2) := by decide +kernel
theorem dX6_readClause_6 : decode cX6_readClause 6 = .ok (.invokevirtual 61, 3) := by decide +kernel
theorem dX6_readClause_9 : decode cX6_readClause 9 = .ok (.istore_n 2, 1) := by decide +kernel
theorem dX6_readClause_10 : decode cX6_readClause 10 = .ok (.iload_n 2, 1) := by decide +kernel
theorem dX6_readClause_11 : decode cX6_readClause 11 = .ok (.iconst (-1), 1) := by decide +kernel
theorem dX6_readClause_12 : decode cX6_readClause 12 = .ok (.if_icmp .ne 19, 3) := by decide +kernel
theorem dX6_readClause_15 : decode cX6_readClause 15 = .ok (.aload_n 0, 1) := by decide +kernel
theorem dX6_readClause_16 : decode cX6_readClause 16 = .ok (.getfield 27, 3) := by decide +kernel
theorem dX6_readClause_19 : decode cX6_readClause 19 = .ok (.aload_n 0, 1) := by decide +kernel
theorem dX6_readClause_20 : decode cX6_readClause 20 = .ok (.getfield 27, 3) := by decide +kernel
theorem dX6_readClause_23 : decode cX6_readClause 23 = .ok (.getfield 51, 3) := by decide +kernel
theorem dX6_readClause_26 : decode cX6_readClause 26 = .ok (.iconst 0, 1) := by decide +kernel
theorem dX6_readClause_27 : decode cX6_readClause 27 = .ok (.invokevirtual 55, 3) := by decide +kernel
theorem dX6_readClause_30 : decode cX6_readClause 30 = .ok (.ireturn, 1) := by decide +kernel
theorem dX6_readClause_31 : decode cX6_readClause 31 = .ok (.iload_n 2, 1) := by decide +kernel
theorem dX6_readClause_32 : decode cX6_readClause 32 = .ok (.ifCond .ne 7, 3) := by decide +kernel
theorem dX6_readClause_35 : decode cX6_readClause 35 = .ok (.iconst 1, 1) := by decide +kernel
theorem dX6_readClause_36 : decode cX6_readClause 36 = .ok (.goto 4, 3) := by decide +kernel
theorem dX6_readClause_39 : decode cX6_readClause 39 = .ok (.iconst 0, 1) := by decide +kernel
theorem dX6_readClause_40 : decode cX6_readClause 40 = .ok (.iload_n 1, 1) := by decide +kernel
theorem dX6_readClause_41 : decode cX6_readClause 41 = .ok (.ifCond .ne 7, 3) := by decide +kernel
theorem dX6_readClause_44 : decode cX6_readClause 44 = .ok (.iconst 1, 1) := by decide +kernel
theorem dX6_readClause_45 : decode cX6_readClause 45 = .ok (.goto 4, 3) := by decide +kernel
theorem dX6_readClause_48 : decode cX6_readClause 48 = .ok (.iconst 0, 1) := by decide +kernel
theorem dX6_readClause_49 : decode cX6_readClause 49 = .ok (.if_icmp .eq 7, 3) := by decide +kernel
theorem dX6_readClause_52 : decode cX6_readClause 52 = .ok (.iconst 1, 1) := by decide +kernel
theorem dX6_readClause_53 : decode cX6_readClause 53 = .ok (.goto 4, 3) := by decide +kernel
theorem dX6_readClause_56 : decode cX6_readClause 56 = .ok (.iconst 0, 1) := by decide +kernel
theorem dX6_readClause_57 : decode cX6_readClause 57 = .ok (.istore_n 3, 1) := by decide +kernel
theorem dX6_readClause_58 : decode cX6_readClause 58 = .ok (.iload_n 1, 1) := by decide +kernel
theorem dX6_readClause_59 : decode cX6_readClause 59 = .ok (.bipush 40, 2) := by decide +kernel
theorem dX6_readClause_61 : decode cX6_readClause 61 = .ok (.if_icmp .eq 15, 3) := by decide +kernel
theorem dX6_readClause_64 : decode cX6_readClause 64 = .ok (.iload_n 3, 1) := by decide +kernel
theorem dX6_readClause_65 : decode cX6_readClause 65 = .ok (.ifCond .ne 11, 3) := by decide +kernel
theorem dX6_readClause_68 : decode cX6_readClause 68 = .ok (.aload_n 0, 1) := by decide +kernel
theorem dX6_readClause_69 : decode cX6_readClause 69 = .ok (.iload_n 2, 1) := by decide +kernel
theorem dX6_readClause_70 : decode cX6_readClause 70 = .ok (.invokevirtual 65, 3) := by decide +kernel
theorem dX6_readClause_73 : decode cX6_readClause 73 = .ok (.ifCond .eq 19, 3) := by decide +kernel
theorem dX6_readClause_76 : decode cX6_readClause 76 = .ok (.aload_n 0, 1) := by decide +kernel
theorem dX6_readClause_77 : decode cX6_readClause 77 = .ok (.getfield 27, 3) := by decide +kernel
theorem dX6_readClause_80 : decode cX6_readClause 80 = .ok (.aload_n 0, 1) := by decide +kernel
theorem dX6_readClause_81 : decode cX6_readClause 81 = .ok (.getfield 27, 3) := by decide +kernel
theorem dX6_readClause_84 : decode cX6_readClause 84 = .ok (.getfield 68, 3) := by decide +kernel
theorem dX6_readClause_87 : decode cX6_readClause 87 = .ok (.iconst 4, 1) := by decide +kernel
theorem dX6_readClause_88 : decode cX6_readClause 88 = .ok (.invokevirtual 55, 3) := by decide +kernel
theorem dX6_readClause_91 : decode cX6_readClause 91 = .ok (.ireturn, 1) := by decide +kernel
theorem dX6_readClause_92 : decode cX6_readClause 92 = .ok (.iload_n 2, 1) := by decide +kernel
theorem dX6_readClause_93 : decode cX6_readClause 93 = .ok (.tableswitch 51 1 4 #[31, 36, 41, 46], 31) := by decide +kernel
theorem dX6_readClause_124 : decode cX6_readClause 124 = .ok (.aload_n 0, 1) := by decide +kernel
theorem dX6_readClause_125 : decode cX6_readClause 125 = .ok (.invokevirtual 71, 3) := by decide +kernel
theorem dX6_readClause_128 : decode cX6_readClause 128 = .ok (.ireturn, 1) := by decide +kernel
theorem dX6_readClause_129 : decode cX6_readClause 129 = .ok (.aload_n 0, 1) := by decide +kernel
theorem dX6_readClause_130 : decode cX6_readClause 130 = .ok (.invokevirtual 75, 3) := by decide +kernel
theorem dX6_readClause_133 : decode cX6_readClause 133 = .ok (.ireturn, 1) := by decide +kernel
theorem dX6_readClause_134 : decode cX6_readClause 134 = .ok (.aload_n 0, 1) := by decide +kernel
theorem dX6_readClause_135 : decode cX6_readClause 135 = .ok (.invokevirtual 78, 3) := by decide +kernel
theorem dX6_readClause_138 : decode cX6_readClause 138 = .ok (.ireturn, 1) := by decide +kernel
theorem dX6_readClause_139 : decode cX6_readClause 139 = .ok (.aload_n 0, 1) := by decide +kernel
theorem dX6_readClause_140 : decode cX6_readClause 140 = .ok (.invokevirtual 81, 3) := by decide +kernel
theorem dX6_readClause_143 : decode cX6_readClause 143 = .ok (.ireturn, 1) := by decide +kernel
theorem dX6_readClause_144 : decode cX6_readClause 144 = .ok (.aload_n 0, 1) := by decide +kernel
theorem dX6_readClause_145 : decode cX6_readClause 145 = .ok (.invokevirtual 84, 3) := by decide +kernel
theorem dX6_readClause_148 : decode cX6_readClause 148 = .ok (.ireturn, 1) := by decide +kernel
theorem dX6_isFull_0 : decode cX6_isFull 0 = .ok (.iload_n 1, 1) := by decide +kernel
theorem dX6_isFull_1 : decode cX6_isFull 1 = .ok (.tableswitch 103 1 4 #[31, 49, 67, 85], 31) := by decide +kernel
theorem dX6_isFull_32 : decode cX6_isFull 32 = .ok (.aload_n 0, 1) := by decide +kernel
theorem dX6_isFull_33 : decode cX6_isFull 33 = .ok (.getfield 12, 3) := by decide +kernel
theorem dX6_isFull_36 : decode cX6_isFull 36 = .ok (.getfield 87, 3) := by decide +kernel
theorem dX6_isFull_39 : decode cX6_isFull 39 = .ok (.bipush 6, 2) := by decide +kernel
theorem dX6_isFull_41 : decode cX6_isFull 41 = .ok (.if_icmp .lt 7, 3) := by decide +kernel
theorem dX6_isFull_44 : decode cX6_isFull 44 = .ok (.iconst 1, 1) := by decide +kernel
theorem dX6_isFull_45 : decode cX6_isFull 45 = .ok (.goto 4, 3) := by decide +kernel
theorem dX6_isFull_48 : decode cX6_isFull 48 = .ok (.iconst 0, 1) := by decide +kernel
theorem dX6_isFull_49 : decode cX6_isFull 49 = .ok (.ireturn, 1) := by decide +kernel
theorem dX6_isFull_50 : decode cX6_isFull 50 = .ok (.aload_n 0, 1) := by decide +kernel
theorem dX6_isFull_51 : decode cX6_isFull 51 = .ok (.getfield 12, 3) := by decide +kernel
theorem dX6_isFull_54 : decode cX6_isFull 54 = .ok (.getfield 90, 3) := by decide +kernel
theorem dX6_isFull_57 : decode cX6_isFull 57 = .ok (.bipush 8, 2) := by decide +kernel
theorem dX6_isFull_59 : decode cX6_isFull 59 = .ok (.if_icmp .lt 7, 3) := by decide +kernel
theorem dX6_isFull_62 : decode cX6_isFull 62 = .ok (.iconst 1, 1) := by decide +kernel
theorem dX6_isFull_63 : decode cX6_isFull 63 = .ok (.goto 4, 3) := by decide +kernel
theorem dX6_isFull_66 : decode cX6_isFull 66 = .ok (.iconst 0, 1) := by decide +kernel
theorem dX6_isFull_67 : decode cX6_isFull 67 = .ok (.ireturn, 1) := by decide +kernel
theorem dX6_isFull_68 : decode cX6_isFull 68 = .ok (.aload_n 0, 1) := by decide +kernel
theorem dX6_isFull_69 : decode cX6_isFull 69 = .ok (.getfield 23, 3) := by decide +kernel
theorem dX6_isFull_72 : decode cX6_isFull 72 = .ok (.getfield 93, 3) := by decide +kernel
theorem dX6_isFull_75 : decode cX6_isFull 75 = .ok (.bipush 12, 2) := by decide +kernel
theorem dX6_isFull_77 : decode cX6_isFull 77 = .ok (.if_icmp .lt 7, 3) := by decide +kernel
theorem dX6_isFull_80 : decode cX6_isFull 80 = .ok (.iconst 1, 1) := by decide +kernel
theorem dX6_isFull_81 : decode cX6_isFull 81 = .ok (.goto 4, 3) := by decide +kernel
theorem dX6_isFull_84 : decode cX6_isFull 84 = .ok (.iconst 0, 1) := by decide +kernel
theorem dX6_isFull_85 : decode cX6_isFull 85 = .ok (.ireturn, 1) := by decide +kernel
theorem dX6_isFull_86 : decode cX6_isFull 86 = .ok (.aload_n 0, 1) := by decide +kernel
theorem dX6_isFull_87 : decode cX6_isFull 87 = .ok (.getfield 12, 3) := by decide +kernel
theorem dX6_isFull_90 : decode cX6_isFull 90 = .ok (.getfield 96, 3) := by decide +kernel
theorem dX6_isFull_93 : decode cX6_isFull 93 = .ok (.bipush 6, 2) := by decide +kernel
theorem dX6_isFull_95 : decode cX6_isFull 95 = .ok (.if_icmp .lt 7, 3) := by decide +kernel
theorem dX6_isFull_98 : decode cX6_isFull 98 = .ok (.iconst 1, 1) := by decide +kernel
theorem dX6_isFull_99 : decode cX6_isFull 99 = .ok (.goto 4, 3) := by decide +kernel
theorem dX6_isFull_102 : decode cX6_isFull 102 = .ok (.iconst 0, 1) := by decide +kernel
theorem dX6_isFull_103 : decode cX6_isFull 103 = .ok (.ireturn, 1) := by decide +kernel
theorem dX6_isFull_104 : decode cX6_isFull 104 = .ok (.iconst 0, 1) := by decide +kernel
theorem dX6_isFull_105 : decode cX6_isFull 105 = .ok (.ireturn, 1) := by decide +kernel
theorem dX6_readMilesAndStore_0 : decode cX6_readMilesAndStore 0 = .ok (.aload_n 0, 1) := by decide +kernel
theorem dX6_readMilesAndStore_1 : decode cX6_readMilesAndStore 1 = .ok (.getfield 27, 3) := by decide +kernel
theorem dX6_readMilesAndStore_4 : decode cX6_readMilesAndStore 4 = .ok (.iconst 2, 1) := by decide +kernel
theorem dX6_readMilesAndStore_5 : decode cX6_readMilesAndStore 5 = .ok (.bipush 99, 2) := by decide +kernel
theorem dX6_readMilesAndStore_7 : decode cX6_readMilesAndStore 7 = .ok (.invokevirtual 99, 3) := by decide +kernel
theorem dX6_readMilesAndStore_10 : decode cX6_readMilesAndStore 10 = .ok (.istore_n 1, 1) := by decide +kernel
theorem dX6_readMilesAndStore_11 : decode cX6_readMilesAndStore 11 = .ok (.iload_n 1, 1) := by decide +kernel
theorem dX6_readMilesAndStore_12 : decode cX6_readMilesAndStore 12 = .ok (.iconst (-1), 1) := by decide +kernel
theorem dX6_readMilesAndStore_13 : decode cX6_readMilesAndStore 13 = .ok (.if_icmp .ne 5, 3) := by decide +kernel
theorem dX6_readMilesAndStore_16 : decode cX6_readMilesAndStore 16 = .ok (.iconst 0, 1) := by decide +kernel
theorem dX6_readMilesAndStore_17 : decode cX6_readMilesAndStore 17 = .ok (.ireturn, 1) := by decide +kernel
theorem dX6_readMilesAndStore_18 : decode cX6_readMilesAndStore 18 = .ok (.aload_n 0, 1) := by decide +kernel
theorem dX6_readMilesAndStore_19 : decode cX6_readMilesAndStore 19 = .ok (.getfield 27, 3) := by decide +kernel
theorem dX6_readMilesAndStore_22 : decode cX6_readMilesAndStore 22 = .ok (.iconst 0, 1) := by decide +kernel
theorem dX6_readMilesAndStore_23 : decode cX6_readMilesAndStore 23 = .ok (.bipush 99, 2) := by decide +kernel
theorem dX6_readMilesAndStore_25 : decode cX6_readMilesAndStore 25 = .ok (.invokevirtual 99, 3) := by decide +kernel
theorem dX6_readMilesAndStore_28 : decode cX6_readMilesAndStore 28 = .ok (.istore_n 2, 1) := by decide +kernel
theorem dX6_readMilesAndStore_29 : decode cX6_readMilesAndStore 29 = .ok (.iload_n 2, 1) := by decide +kernel
theorem dX6_readMilesAndStore_30 : decode cX6_readMilesAndStore 30 = .ok (.iconst (-1), 1) := by decide +kernel
theorem dX6_readMilesAndStore_31 : decode cX6_readMilesAndStore 31 = .ok (.if_icmp .ne 5, 3) := by decide +kernel
theorem dX6_readMilesAndStore_34 : decode cX6_readMilesAndStore 34 = .ok (.iconst 0, 1) := by decide +kernel
theorem dX6_readMilesAndStore_35 : decode cX6_readMilesAndStore 35 = .ok (.ireturn, 1) := by decide +kernel
theorem dX6_readMilesAndStore_36 : decode cX6_readMilesAndStore 36 = .ok (.aload_n 0, 1) := by decide +kernel
theorem dX6_readMilesAndStore_37 : decode cX6_readMilesAndStore 37 = .ok (.getfield 12, 3) := by decide +kernel
theorem dX6_readMilesAndStore_40 : decode cX6_readMilesAndStore 40 = .ok (.iload_n 1, 1) := by decide +kernel
theorem dX6_readMilesAndStore_41 : decode cX6_readMilesAndStore 41 = .ok (.putfield 103, 3) := by decide +kernel
theorem dX6_readMilesAndStore_44 : decode cX6_readMilesAndStore 44 = .ok (.aload_n 0, 1) := by decide +kernel
theorem dX6_readMilesAndStore_45 : decode cX6_readMilesAndStore 45 = .ok (.getfield 23, 3) := by decide +kernel
theorem dX6_readMilesAndStore_48 : decode cX6_readMilesAndStore 48 = .ok (.iload_n 2, 1) := by decide +kernel
theorem dX6_readMilesAndStore_49 : decode cX6_readMilesAndStore 49 = .ok (.putfield 106, 3) := by decide +kernel
theorem dX6_readMilesAndStore_52 : decode cX6_readMilesAndStore 52 = .ok (.iconst 1, 1) := by decide +kernel
theorem dX6_readMilesAndStore_53 : decode cX6_readMilesAndStore 53 = .ok (.ireturn, 1) := by decide +kernel
theorem dX6_readOwner_0 : decode cX6_readOwner 0 = .ok (.aload_n 0, 1) := by decide +kernel
theorem dX6_readOwner_1 : decode cX6_readOwner 1 = .ok (.getfield 27, 3) := by decide +kernel
theorem dX6_readOwner_4 : decode cX6_readOwner 4 = .ok (.iconst 1, 1) := by decide +kernel
theorem dX6_readOwner_5 : decode cX6_readOwner 5 = .ok (.aload_n 0, 1) := by decide +kernel
theorem dX6_readOwner_6 : decode cX6_readOwner 6 = .ok (.getfield 12, 3) := by decide +kernel
theorem dX6_readOwner_9 : decode cX6_readOwner 9 = .ok (.getfield 103, 3) := by decide +kernel
theorem dX6_readOwner_12 : decode cX6_readOwner 12 = .ok (.invokevirtual 99, 3) := by decide +kernel
theorem dX6_readOwner_15 : decode cX6_readOwner 15 = .ok (.istore_n 1, 1) := by decide +kernel
theorem dX6_readOwner_16 : decode cX6_readOwner 16 = .ok (.iload_n 1, 1) := by decide +kernel
theorem dX6_readOwner_17 : decode cX6_readOwner 17 = .ok (.iconst (-1), 1) := by decide +kernel
theorem dX6_readOwner_18 : decode cX6_readOwner 18 = .ok (.if_icmp .ne 5, 3) := by decide +kernel
theorem dX6_readOwner_21 : decode cX6_readOwner 21 = .ok (.iconst 0, 1) := by decide +kernel
theorem dX6_readOwner_22 : decode cX6_readOwner 22 = .ok (.ireturn, 1) := by decide +kernel
theorem dX6_readOwner_23 : decode cX6_readOwner 23 = .ok (.aload_n 0, 1) := by decide +kernel
theorem dX6_readOwner_24 : decode cX6_readOwner 24 = .ok (.getfield 27, 3) := by decide +kernel
theorem dX6_readOwner_27 : decode cX6_readOwner 27 = .ok (.iconst 0, 1) := by decide +kernel
theorem dX6_readOwner_28 : decode cX6_readOwner 28 = .ok (.bipush 20, 2) := by decide +kernel
theorem dX6_readOwner_30 : decode cX6_readOwner 30 = .ok (.invokevirtual 99, 3) := by decide +kernel
theorem dX6_readOwner_33 : decode cX6_readOwner 33 = .ok (.istore_n 2, 1) := by decide +kernel
theorem dX6_readOwner_34 : decode cX6_readOwner 34 = .ok (.iload_n 2, 1) := by decide +kernel
theorem dX6_readOwner_35 : decode cX6_readOwner 35 = .ok (.iconst (-1), 1) := by decide +kernel
theorem dX6_readOwner_36 : decode cX6_readOwner 36 = .ok (.if_icmp .ne 5, 3) := by decide +kernel
theorem dX6_readOwner_39 : decode cX6_readOwner 39 = .ok (.iconst 0, 1) := by decide +kernel
theorem dX6_readOwner_40 : decode cX6_readOwner 40 = .ok (.ireturn, 1) := by decide +kernel
theorem dX6_readOwner_41 : decode cX6_readOwner 41 = .ok (.aload_n 0, 1) := by decide +kernel
theorem dX6_readOwner_42 : decode cX6_readOwner 42 = .ok (.getfield 12, 3) := by decide +kernel
theorem dX6_readOwner_45 : decode cX6_readOwner 45 = .ok (.getfield 109, 3) := by decide +kernel
theorem dX6_readOwner_48 : decode cX6_readOwner 48 = .ok (.aload_n 0, 1) := by decide +kernel
theorem dX6_readOwner_49 : decode cX6_readOwner 49 = .ok (.getfield 12, 3) := by decide +kernel
theorem dX6_readOwner_52 : decode cX6_readOwner 52 = .ok (.getfield 87, 3) := by decide +kernel
theorem dX6_readOwner_55 : decode cX6_readOwner 55 = .ok (.iload_n 1, 1) := by decide +kernel
theorem dX6_readOwner_56 : decode cX6_readOwner 56 = .ok (.iastore, 1) := by decide +kernel
theorem dX6_readOwner_57 : decode cX6_readOwner 57 = .ok (.aload_n 0, 1) := by decide +kernel
theorem dX6_readOwner_58 : decode cX6_readOwner 58 = .ok (.getfield 12, 3) := by decide +kernel
theorem dX6_readOwner_61 : decode cX6_readOwner 61 = .ok (.getfield 113, 3) := by decide +kernel
theorem dX6_readOwner_64 : decode cX6_readOwner 64 = .ok (.aload_n 0, 1) := by decide +kernel
theorem dX6_readOwner_65 : decode cX6_readOwner 65 = .ok (.getfield 12, 3) := by decide +kernel
theorem dX6_readOwner_68 : decode cX6_readOwner 68 = .ok (.getfield 87, 3) := by decide +kernel
theorem dX6_readOwner_71 : decode cX6_readOwner 71 = .ok (.iload_n 2, 1) := by decide +kernel
theorem dX6_readOwner_72 : decode cX6_readOwner 72 = .ok (.iastore, 1) := by decide +kernel
theorem dX6_readOwner_73 : decode cX6_readOwner 73 = .ok (.aload_n 0, 1) := by decide +kernel
theorem dX6_readOwner_74 : decode cX6_readOwner 74 = .ok (.getfield 12, 3) := by decide +kernel
theorem dX6_readOwner_77 : decode cX6_readOwner 77 = .ok (.dup, 1) := by decide +kernel
theorem dX6_readOwner_78 : decode cX6_readOwner 78 = .ok (.getfield 87, 3) := by decide +kernel
theorem dX6_readOwner_81 : decode cX6_readOwner 81 = .ok (.iconst 1, 1) := by decide +kernel
theorem dX6_readOwner_82 : decode cX6_readOwner 82 = .ok (.iadd, 1) := by decide +kernel
theorem dX6_readOwner_83 : decode cX6_readOwner 83 = .ok (.putfield 87, 3) := by decide +kernel
theorem dX6_readOwner_86 : decode cX6_readOwner 86 = .ok (.iconst 1, 1) := by decide +kernel
theorem dX6_readOwner_87 : decode cX6_readOwner 87 = .ok (.ireturn, 1) := by decide +kernel
theorem dX6_readThing_0 : decode cX6_readThing 0 = .ok (.aload_n 0, 1) := by decide +kernel
theorem dX6_readThing_1 : decode cX6_readThing 1 = .ok (.getfield 27, 3) := by decide +kernel
theorem dX6_readThing_4 : decode cX6_readThing 4 = .ok (.iconst 0, 1) := by decide +kernel
theorem dX6_readThing_5 : decode cX6_readThing 5 = .ok (.aload_n 0, 1) := by decide +kernel
theorem dX6_readThing_6 : decode cX6_readThing 6 = .ok (.getfield 12, 3) := by decide +kernel
theorem dX6_readThing_9 : decode cX6_readThing 9 = .ok (.getfield 87, 3) := by decide +kernel
theorem dX6_readThing_12 : decode cX6_readThing 12 = .ok (.iconst 1, 1) := by decide +kernel
theorem dX6_readThing_13 : decode cX6_readThing 13 = .ok (.isub, 1) := by decide +kernel
theorem dX6_readThing_14 : decode cX6_readThing 14 = .ok (.invokevirtual 99, 3) := by decide +kernel
theorem dX6_readThing_17 : decode cX6_readThing 17 = .ok (.istore_n 1, 1) := by decide +kernel
theorem dX6_readThing_18 : decode cX6_readThing 18 = .ok (.iload_n 1, 1) := by decide +kernel
theorem dX6_readThing_19 : decode cX6_readThing 19 = .ok (.iconst (-1), 1) := by decide +kernel
theorem dX6_readThing_20 : decode cX6_readThing 20 = .ok (.if_icmp .ne 5, 3) := by decide +kernel
theorem dX6_readThing_23 : decode cX6_readThing 23 = .ok (.iconst 0, 1) := by decide +kernel
theorem dX6_readThing_24 : decode cX6_readThing 24 = .ok (.ireturn, 1) := by decide +kernel
theorem dX6_readThing_25 : decode cX6_readThing 25 = .ok (.aload_n 0, 1) := by decide +kernel
theorem dX6_readThing_26 : decode cX6_readThing 26 = .ok (.getfield 27, 3) := by decide +kernel
theorem dX6_readThing_29 : decode cX6_readThing 29 = .ok (.iconst 0, 1) := by decide +kernel
theorem dX6_readThing_30 : decode cX6_readThing 30 = .ok (.bipush 50, 2) := by decide +kernel
theorem dX6_readThing_32 : decode cX6_readThing 32 = .ok (.invokevirtual 99, 3) := by decide +kernel
theorem dX6_readThing_35 : decode cX6_readThing 35 = .ok (.istore_n 2, 1) := by decide +kernel
theorem dX6_readThing_36 : decode cX6_readThing 36 = .ok (.iload_n 2, 1) := by decide +kernel
theorem dX6_readThing_37 : decode cX6_readThing 37 = .ok (.iconst (-1), 1) := by decide +kernel
theorem dX6_readThing_38 : decode cX6_readThing 38 = .ok (.if_icmp .ne 5, 3) := by decide +kernel
theorem dX6_readThing_41 : decode cX6_readThing 41 = .ok (.iconst 0, 1) := by decide +kernel
theorem dX6_readThing_42 : decode cX6_readThing 42 = .ok (.ireturn, 1) := by decide +kernel
theorem dX6_readThing_43 : decode cX6_readThing 43 = .ok (.aload_n 0, 1) := by decide +kernel
theorem dX6_readThing_44 : decode cX6_readThing 44 = .ok (.getfield 27, 3) := by decide +kernel
theorem dX6_readThing_47 : decode cX6_readThing 47 = .ok (.iconst 0, 1) := by decide +kernel
theorem dX6_readThing_48 : decode cX6_readThing 48 = .ok (.bipush 99, 2) := by decide +kernel
theorem dX6_readThing_50 : decode cX6_readThing 50 = .ok (.invokevirtual 99, 3) := by decide +kernel
theorem dX6_readThing_53 : decode cX6_readThing 53 = .ok (.istore_n 3, 1) := by decide +kernel
theorem dX6_readThing_54 : decode cX6_readThing 54 = .ok (.iload_n 3, 1) := by decide +kernel
theorem dX6_readThing_55 : decode cX6_readThing 55 = .ok (.iconst (-1), 1) := by decide +kernel
theorem dX6_readThing_56 : decode cX6_readThing 56 = .ok (.if_icmp .ne 5, 3) := by decide +kernel
theorem dX6_readThing_59 : decode cX6_readThing 59 = .ok (.iconst 0, 1) := by decide +kernel
theorem dX6_readThing_60 : decode cX6_readThing 60 = .ok (.ireturn, 1) := by decide +kernel
theorem dX6_readThing_61 : decode cX6_readThing 61 = .ok (.aload_n 0, 1) := by decide +kernel
theorem dX6_readThing_62 : decode cX6_readThing 62 = .ok (.getfield 27, 3) := by decide +kernel
theorem dX6_readThing_65 : decode cX6_readThing 65 = .ok (.iconst 0, 1) := by decide +kernel
theorem dX6_readThing_66 : decode cX6_readThing 66 = .ok (.bipush 9, 2) := by decide +kernel
theorem dX6_readThing_68 : decode cX6_readThing 68 = .ok (.invokevirtual 99, 3) := by decide +kernel
theorem dX6_readThing_71 : decode cX6_readThing 71 = .ok (.istore 4, 2) := by decide +kernel
theorem dX6_readThing_73 : decode cX6_readThing 73 = .ok (.iload 4, 2) := by decide +kernel
theorem dX6_readThing_75 : decode cX6_readThing 75 = .ok (.iconst (-1), 1) := by decide +kernel
theorem dX6_readThing_76 : decode cX6_readThing 76 = .ok (.if_icmp .ne 5, 3) := by decide +kernel
theorem dX6_readThing_79 : decode cX6_readThing 79 = .ok (.iconst 0, 1) := by decide +kernel
theorem dX6_readThing_80 : decode cX6_readThing 80 = .ok (.ireturn, 1) := by decide +kernel
theorem dX6_readThing_81 : decode cX6_readThing 81 = .ok (.aload_n 0, 1) := by decide +kernel
theorem dX6_readThing_82 : decode cX6_readThing 82 = .ok (.getfield 23, 3) := by decide +kernel
theorem dX6_readThing_85 : decode cX6_readThing 85 = .ok (.getfield 116, 3) := by decide +kernel
theorem dX6_readThing_88 : decode cX6_readThing 88 = .ok (.aload_n 0, 1) := by decide +kernel
theorem dX6_readThing_89 : decode cX6_readThing 89 = .ok (.getfield 12, 3) := by decide +kernel
theorem dX6_readThing_92 : decode cX6_readThing 92 = .ok (.getfield 90, 3) := by decide +kernel
theorem dX6_readThing_95 : decode cX6_readThing 95 = .ok (.iload_n 1, 1) := by decide +kernel
theorem dX6_readThing_96 : decode cX6_readThing 96 = .ok (.iastore, 1) := by decide +kernel
theorem dX6_readThing_97 : decode cX6_readThing 97 = .ok (.aload_n 0, 1) := by decide +kernel
theorem dX6_readThing_98 : decode cX6_readThing 98 = .ok (.getfield 23, 3) := by decide +kernel
theorem dX6_readThing_101 : decode cX6_readThing 101 = .ok (.getfield 119, 3) := by decide +kernel
theorem dX6_readThing_104 : decode cX6_readThing 104 = .ok (.aload_n 0, 1) := by decide +kernel
theorem dX6_readThing_105 : decode cX6_readThing 105 = .ok (.getfield 12, 3) := by decide +kernel
theorem dX6_readThing_108 : decode cX6_readThing 108 = .ok (.getfield 90, 3) := by decide +kernel
theorem dX6_readThing_111 : decode cX6_readThing 111 = .ok (.iload_n 3, 1) := by decide +kernel
theorem dX6_readThing_112 : decode cX6_readThing 112 = .ok (.iastore, 1) := by decide +kernel
theorem dX6_readThing_113 : decode cX6_readThing 113 = .ok (.aload_n 0, 1) := by decide +kernel
theorem dX6_readThing_114 : decode cX6_readThing 114 = .ok (.getfield 12, 3) := by decide +kernel
theorem dX6_readThing_117 : decode cX6_readThing 117 = .ok (.getfield 122, 3) := by decide +kernel
theorem dX6_readThing_120 : decode cX6_readThing 120 = .ok (.aload_n 0, 1) := by decide +kernel
theorem dX6_readThing_121 : decode cX6_readThing 121 = .ok (.getfield 12, 3) := by decide +kernel
theorem dX6_readThing_124 : decode cX6_readThing 124 = .ok (.getfield 90, 3) := by decide +kernel
theorem dX6_readThing_127 : decode cX6_readThing 127 = .ok (.iload_n 2, 1) := by decide +kernel
theorem dX6_readThing_128 : decode cX6_readThing 128 = .ok (.iastore, 1) := by decide +kernel
theorem dX6_readThing_129 : decode cX6_readThing 129 = .ok (.aload_n 0, 1) := by decide +kernel
theorem dX6_readThing_130 : decode cX6_readThing 130 = .ok (.getfield 12, 3) := by decide +kernel
theorem dX6_readThing_133 : decode cX6_readThing 133 = .ok (.getfield 125, 3) := by decide +kernel
theorem dX6_readThing_136 : decode cX6_readThing 136 = .ok (.aload_n 0, 1) := by decide +kernel
theorem dX6_readThing_137 : decode cX6_readThing 137 = .ok (.getfield 12, 3) := by decide +kernel
theorem dX6_readThing_140 : decode cX6_readThing 140 = .ok (.getfield 90, 3) := by decide +kernel
theorem dX6_readThing_143 : decode cX6_readThing 143 = .ok (.iload 4, 2) := by decide +kernel
theorem dX6_readThing_145 : decode cX6_readThing 145 = .ok (.iastore, 1) := by decide +kernel
theorem dX6_readThing_146 : decode cX6_readThing 146 = .ok (.aload_n 0, 1) := by decide +kernel
theorem dX6_readThing_147 : decode cX6_readThing 147 = .ok (.getfield 12, 3) := by decide +kernel
theorem dX6_readThing_150 : decode cX6_readThing 150 = .ok (.dup, 1) := by decide +kernel
theorem dX6_readThing_151 : decode cX6_readThing 151 = .ok (.getfield 90, 3) := by decide +kernel
theorem dX6_readThing_154 : decode cX6_readThing 154 = .ok (.iconst 1, 1) := by decide +kernel
theorem dX6_readThing_155 : decode cX6_readThing 155 = .ok (.iadd, 1) := by decide +kernel
theorem dX6_readThing_156 : decode cX6_readThing 156 = .ok (.putfield 90, 3) := by decide +kernel
theorem dX6_readThing_159 : decode cX6_readThing 159 = .ok (.iconst 1, 1) := by decide +kernel
theorem dX6_readThing_160 : decode cX6_readThing 160 = .ok (.ireturn, 1) := by decide +kernel
theorem dX6_readBound_0 : decode cX6_readBound 0 = .ok (.aload_n 0, 1) := by decide +kernel
theorem dX6_readBound_1 : decode cX6_readBound 1 = .ok (.getfield 27, 3) := by decide +kernel
theorem dX6_readBound_4 : decode cX6_readBound 4 = .ok (.iconst 0, 1) := by decide +kernel
theorem dX6_readBound_5 : decode cX6_readBound 5 = .ok (.aload_n 0, 1) := by decide +kernel
theorem dX6_readBound_6 : decode cX6_readBound 6 = .ok (.getfield 12, 3) := by decide +kernel
theorem dX6_readBound_9 : decode cX6_readBound 9 = .ok (.getfield 90, 3) := by decide +kernel
theorem dX6_readBound_12 : decode cX6_readBound 12 = .ok (.iconst 1, 1) := by decide +kernel
theorem dX6_readBound_13 : decode cX6_readBound 13 = .ok (.isub, 1) := by decide +kernel
theorem dX6_readBound_14 : decode cX6_readBound 14 = .ok (.invokevirtual 99, 3) := by decide +kernel
theorem dX6_readBound_17 : decode cX6_readBound 17 = .ok (.istore_n 1, 1) := by decide +kernel
theorem dX6_readBound_18 : decode cX6_readBound 18 = .ok (.iload_n 1, 1) := by decide +kernel
theorem dX6_readBound_19 : decode cX6_readBound 19 = .ok (.iconst (-1), 1) := by decide +kernel
theorem dX6_readBound_20 : decode cX6_readBound 20 = .ok (.if_icmp .ne 5, 3) := by decide +kernel
theorem dX6_readBound_23 : decode cX6_readBound 23 = .ok (.iconst 0, 1) := by decide +kernel
theorem dX6_readBound_24 : decode cX6_readBound 24 = .ok (.ireturn, 1) := by decide +kernel
theorem dX6_readBound_25 : decode cX6_readBound 25 = .ok (.aload_n 0, 1) := by decide +kernel
theorem dX6_readBound_26 : decode cX6_readBound 26 = .ok (.getfield 27, 3) := by decide +kernel
theorem dX6_readBound_29 : decode cX6_readBound 29 = .ok (.iconst 0, 1) := by decide +kernel
theorem dX6_readBound_30 : decode cX6_readBound 30 = .ok (.aload_n 0, 1) := by decide +kernel
theorem dX6_readBound_31 : decode cX6_readBound 31 = .ok (.getfield 12, 3) := by decide +kernel
theorem dX6_readBound_34 : decode cX6_readBound 34 = .ok (.getfield 90, 3) := by decide +kernel
theorem dX6_readBound_37 : decode cX6_readBound 37 = .ok (.iconst 1, 1) := by decide +kernel
theorem dX6_readBound_38 : decode cX6_readBound 38 = .ok (.isub, 1) := by decide +kernel
theorem dX6_readBound_39 : decode cX6_readBound 39 = .ok (.invokevirtual 99, 3) := by decide +kernel
theorem dX6_readBound_42 : decode cX6_readBound 42 = .ok (.istore_n 2, 1) := by decide +kernel
theorem dX6_readBound_43 : decode cX6_readBound 43 = .ok (.iload_n 2, 1) := by decide +kernel
theorem dX6_readBound_44 : decode cX6_readBound 44 = .ok (.iconst (-1), 1) := by decide +kernel
theorem dX6_readBound_45 : decode cX6_readBound 45 = .ok (.if_icmp .ne 5, 3) := by decide +kernel
theorem dX6_readBound_48 : decode cX6_readBound 48 = .ok (.iconst 0, 1) := by decide +kernel
theorem dX6_readBound_49 : decode cX6_readBound 49 = .ok (.ireturn, 1) := by decide +kernel
theorem dX6_readBound_50 : decode cX6_readBound 50 = .ok (.iload_n 2, 1) := by decide +kernel
theorem dX6_readBound_51 : decode cX6_readBound 51 = .ok (.iload_n 1, 1) := by decide +kernel
theorem dX6_readBound_52 : decode cX6_readBound 52 = .ok (.if_icmp .eq 15, 3) := by decide +kernel
theorem dX6_readBound_55 : decode cX6_readBound 55 = .ok (.aload_n 0, 1) := by decide +kernel
theorem dX6_readBound_56 : decode cX6_readBound 56 = .ok (.getfield 23, 3) := by decide +kernel
theorem dX6_readBound_59 : decode cX6_readBound 59 = .ok (.iload_n 1, 1) := by decide +kernel
theorem dX6_readBound_60 : decode cX6_readBound 60 = .ok (.iload_n 2, 1) := by decide +kernel
theorem dX6_readBound_61 : decode cX6_readBound 61 = .ok (.invokevirtual 128, 3) := by decide +kernel
theorem dX6_readBound_64 : decode cX6_readBound 64 = .ok (.ifCond .eq 19, 3) := by decide +kernel
theorem dX6_readBound_67 : decode cX6_readBound 67 = .ok (.aload_n 0, 1) := by decide +kernel
theorem dX6_readBound_68 : decode cX6_readBound 68 = .ok (.getfield 27, 3) := by decide +kernel
theorem dX6_readBound_71 : decode cX6_readBound 71 = .ok (.aload_n 0, 1) := by decide +kernel
theorem dX6_readBound_72 : decode cX6_readBound 72 = .ok (.getfield 27, 3) := by decide +kernel
theorem dX6_readBound_75 : decode cX6_readBound 75 = .ok (.getfield 68, 3) := by decide +kernel
theorem dX6_readBound_78 : decode cX6_readBound 78 = .ok (.iconst 1, 1) := by decide +kernel
theorem dX6_readBound_79 : decode cX6_readBound 79 = .ok (.invokevirtual 55, 3) := by decide +kernel
theorem dX6_readBound_82 : decode cX6_readBound 82 = .ok (.ireturn, 1) := by decide +kernel
theorem dX6_readBound_83 : decode cX6_readBound 83 = .ok (.aload_n 0, 1) := by decide +kernel
theorem dX6_readBound_84 : decode cX6_readBound 84 = .ok (.getfield 27, 3) := by decide +kernel
theorem dX6_readBound_87 : decode cX6_readBound 87 = .ok (.iconst 1, 1) := by decide +kernel
theorem dX6_readBound_88 : decode cX6_readBound 88 = .ok (.bipush 9, 2) := by decide +kernel
theorem dX6_readBound_90 : decode cX6_readBound 90 = .ok (.invokevirtual 99, 3) := by decide +kernel
theorem dX6_readBound_93 : decode cX6_readBound 93 = .ok (.istore_n 3, 1) := by decide +kernel
theorem dX6_readBound_94 : decode cX6_readBound 94 = .ok (.iload_n 3, 1) := by decide +kernel
theorem dX6_readBound_95 : decode cX6_readBound 95 = .ok (.iconst (-1), 1) := by decide +kernel
theorem dX6_readBound_96 : decode cX6_readBound 96 = .ok (.if_icmp .ne 5, 3) := by decide +kernel
theorem dX6_readBound_99 : decode cX6_readBound 99 = .ok (.iconst 0, 1) := by decide +kernel
theorem dX6_readBound_100 : decode cX6_readBound 100 = .ok (.ireturn, 1) := by decide +kernel
theorem dX6_readBound_101 : decode cX6_readBound 101 = .ok (.aload_n 0, 1) := by decide +kernel
theorem dX6_readBound_102 : decode cX6_readBound 102 = .ok (.getfield 23, 3) := by decide +kernel
theorem dX6_readBound_105 : decode cX6_readBound 105 = .ok (.iload_n 1, 1) := by decide +kernel
theorem dX6_readBound_106 : decode cX6_readBound 106 = .ok (.iload_n 2, 1) := by decide +kernel
theorem dX6_readBound_107 : decode cX6_readBound 107 = .ok (.iload_n 3, 1) := by decide +kernel
theorem dX6_readBound_108 : decode cX6_readBound 108 = .ok (.invokevirtual 131, 3) := by decide +kernel
theorem dX6_readBound_111 : decode cX6_readBound 111 = .ok (.iconst 1, 1) := by decide +kernel
theorem dX6_readBound_112 : decode cX6_readBound 112 = .ok (.ireturn, 1) := by decide +kernel
theorem dX6_readRapid_0 : decode cX6_readRapid 0 = .ok (.aload_n 0, 1) := by decide +kernel
theorem dX6_readRapid_1 : decode cX6_readRapid 1 = .ok (.getfield 27, 3) := by decide +kernel
theorem dX6_readRapid_4 : decode cX6_readRapid 4 = .ok (.iconst 1, 1) := by decide +kernel
theorem dX6_readRapid_5 : decode cX6_readRapid 5 = .ok (.aload_n 0, 1) := by decide +kernel
theorem dX6_readRapid_6 : decode cX6_readRapid 6 = .ok (.getfield 12, 3) := by decide +kernel
theorem dX6_readRapid_9 : decode cX6_readRapid 9 = .ok (.getfield 103, 3) := by decide +kernel
theorem dX6_readRapid_12 : decode cX6_readRapid 12 = .ok (.invokevirtual 99, 3) := by decide +kernel
theorem dX6_readRapid_15 : decode cX6_readRapid 15 = .ok (.istore_n 1, 1) := by decide +kernel
theorem dX6_readRapid_16 : decode cX6_readRapid 16 = .ok (.iload_n 1, 1) := by decide +kernel
theorem dX6_readRapid_17 : decode cX6_readRapid 17 = .ok (.iconst (-1), 1) := by decide +kernel
theorem dX6_readRapid_18 : decode cX6_readRapid 18 = .ok (.if_icmp .ne 5, 3) := by decide +kernel
theorem dX6_readRapid_21 : decode cX6_readRapid 21 = .ok (.iconst 0, 1) := by decide +kernel
theorem dX6_readRapid_22 : decode cX6_readRapid 22 = .ok (.ireturn, 1) := by decide +kernel
theorem dX6_readRapid_23 : decode cX6_readRapid 23 = .ok (.aload_n 0, 1) := by decide +kernel
theorem dX6_readRapid_24 : decode cX6_readRapid 24 = .ok (.getfield 12, 3) := by decide +kernel
theorem dX6_readRapid_27 : decode cX6_readRapid 27 = .ok (.getfield 135, 3) := by decide +kernel
theorem dX6_readRapid_30 : decode cX6_readRapid 30 = .ok (.iload_n 1, 1) := by decide +kernel
theorem dX6_readRapid_31 : decode cX6_readRapid 31 = .ok (.iaload, 1) := by decide +kernel
theorem dX6_readRapid_32 : decode cX6_readRapid 32 = .ok (.ifCond .eq 19, 3) := by decide +kernel
theorem dX6_readRapid_35 : decode cX6_readRapid 35 = .ok (.aload_n 0, 1) := by decide +kernel
theorem dX6_readRapid_36 : decode cX6_readRapid 36 = .ok (.getfield 27, 3) := by decide +kernel
theorem dX6_readRapid_39 : decode cX6_readRapid 39 = .ok (.aload_n 0, 1) := by decide +kernel
theorem dX6_readRapid_40 : decode cX6_readRapid 40 = .ok (.getfield 27, 3) := by decide +kernel
theorem dX6_readRapid_43 : decode cX6_readRapid 43 = .ok (.getfield 68, 3) := by decide +kernel
theorem dX6_readRapid_46 : decode cX6_readRapid 46 = .ok (.iconst 1, 1) := by decide +kernel
theorem dX6_readRapid_47 : decode cX6_readRapid 47 = .ok (.invokevirtual 55, 3) := by decide +kernel
theorem dX6_readRapid_50 : decode cX6_readRapid 50 = .ok (.ireturn, 1) := by decide +kernel
theorem dX6_readRapid_51 : decode cX6_readRapid 51 = .ok (.aload_n 0, 1) := by decide +kernel
theorem dX6_readRapid_52 : decode cX6_readRapid 52 = .ok (.getfield 27, 3) := by decide +kernel
theorem dX6_readRapid_55 : decode cX6_readRapid 55 = .ok (.iconst 1, 1) := by decide +kernel
theorem dX6_readRapid_56 : decode cX6_readRapid 56 = .ok (.bipush 9, 2) := by decide +kernel
theorem dX6_readRapid_58 : decode cX6_readRapid 58 = .ok (.invokevirtual 99, 3) := by decide +kernel
theorem dX6_readRapid_61 : decode cX6_readRapid 61 = .ok (.istore_n 2, 1) := by decide +kernel
theorem dX6_readRapid_62 : decode cX6_readRapid 62 = .ok (.iload_n 2, 1) := by decide +kernel
theorem dX6_readRapid_63 : decode cX6_readRapid 63 = .ok (.iconst (-1), 1) := by decide +kernel
theorem dX6_readRapid_64 : decode cX6_readRapid 64 = .ok (.if_icmp .ne 5, 3) := by decide +kernel
theorem dX6_readRapid_67 : decode cX6_readRapid 67 = .ok (.iconst 0, 1) := by decide +kernel
theorem dX6_readRapid_68 : decode cX6_readRapid 68 = .ok (.ireturn, 1) := by decide +kernel
theorem dX6_readRapid_69 : decode cX6_readRapid 69 = .ok (.aload_n 0, 1) := by decide +kernel
theorem dX6_readRapid_70 : decode cX6_readRapid 70 = .ok (.getfield 12, 3) := by decide +kernel
theorem dX6_readRapid_73 : decode cX6_readRapid 73 = .ok (.getfield 135, 3) := by decide +kernel
theorem dX6_readRapid_76 : decode cX6_readRapid 76 = .ok (.iload_n 1, 1) := by decide +kernel
theorem dX6_readRapid_77 : decode cX6_readRapid 77 = .ok (.iload_n 2, 1) := by decide +kernel
theorem dX6_readRapid_78 : decode cX6_readRapid 78 = .ok (.iastore, 1) := by decide +kernel
theorem dX6_readRapid_79 : decode cX6_readRapid 79 = .ok (.aload_n 0, 1) := by decide +kernel
theorem dX6_readRapid_80 : decode cX6_readRapid 80 = .ok (.getfield 12, 3) := by decide +kernel
theorem dX6_readRapid_83 : decode cX6_readRapid 83 = .ok (.dup, 1) := by decide +kernel
theorem dX6_readRapid_84 : decode cX6_readRapid 84 = .ok (.getfield 96, 3) := by decide +kernel
theorem dX6_readRapid_87 : decode cX6_readRapid 87 = .ok (.iconst 1, 1) := by decide +kernel
theorem dX6_readRapid_88 : decode cX6_readRapid 88 = .ok (.iadd, 1) := by decide +kernel
theorem dX6_readRapid_89 : decode cX6_readRapid 89 = .ok (.putfield 96, 3) := by decide +kernel
theorem dX6_readRapid_92 : decode cX6_readRapid 92 = .ok (.iconst 1, 1) := by decide +kernel
theorem dX6_readRapid_93 : decode cX6_readRapid 93 = .ok (.ireturn, 1) := by decide +kernel
theorem dX7_init_0 : decode cX7_init 0 = .ok (.aload_n 0, 1) := by decide +kernel
theorem dX7_init_1 : decode cX7_init 1 = .ok (.invokespecial 3, 3) := by decide +kernel
theorem dX7_init_4 : decode cX7_init 4 = .ok (.aload_n 0, 1) := by decide +kernel
theorem dX7_init_5 : decode cX7_init 5 = .ok (.sipush 400, 3) := by decide +kernel
theorem dX7_init_8 : decode cX7_init 8 = .ok (.newarray .int, 2) := by decide +kernel
theorem dX7_init_10 : decode cX7_init 10 = .ok (.putfield 9, 3) := by decide +kernel
theorem dX7_init_13 : decode cX7_init 13 = .ok (.aload_n 0, 1) := by decide +kernel
theorem dX7_init_14 : decode cX7_init 14 = .ok (.bipush 12, 2) := by decide +kernel
theorem dX7_init_16 : decode cX7_init 16 = .ok (.newarray .int, 2) := by decide +kernel
theorem dX7_init_18 : decode cX7_init 18 = .ok (.putfield 15, 3) := by decide +kernel
theorem dX7_init_21 : decode cX7_init 21 = .ok (.aload_n 0, 1) := by decide +kernel
theorem dX7_init_22 : decode cX7_init 22 = .ok (.bipush 12, 2) := by decide +kernel
theorem dX7_init_24 : decode cX7_init 24 = .ok (.newarray .int, 2) := by decide +kernel
theorem dX7_init_26 : decode cX7_init 26 = .ok (.putfield 18, 3) := by decide +kernel
theorem dX7_init_29 : decode cX7_init 29 = .ok (.aload_n 0, 1) := by decide +kernel
theorem dX7_init_30 : decode cX7_init 30 = .ok (.bipush 12, 2) := by decide +kernel
theorem dX7_init_32 : decode cX7_init 32 = .ok (.newarray .int, 2) := by decide +kernel
theorem dX7_init_34 : decode cX7_init 34 = .ok (.putfield 21, 3) := by decide +kernel
theorem dX7_init_37 : decode cX7_init 37 = .ok (.aload_n 0, 1) := by decide +kernel
theorem dX7_init_38 : decode cX7_init 38 = .ok (.bipush 64, 2) := by decide +kernel
theorem dX7_init_40 : decode cX7_init 40 = .ok (.newarray .long, 2) := by decide +kernel
theorem dX7_init_42 : decode cX7_init 42 = .ok (.putfield 24, 3) := by decide +kernel
theorem dX7_init_45 : decode cX7_init 45 = .ok (.return_, 1) := by decide +kernel
theorem dX7_clear_0 : decode cX7_clear 0 = .ok (.aload_n 0, 1) := by decide +kernel
theorem dX7_clear_1 : decode cX7_clear 1 = .ok (.iconst 0, 1) := by decide +kernel
theorem dX7_clear_2 : decode cX7_clear 2 = .ok (.putfield 28, 3) := by decide +kernel
theorem dX7_clear_5 : decode cX7_clear 5 = .ok (.aload_n 0, 1) := by decide +kernel
theorem dX7_clear_6 : decode cX7_clear 6 = .ok (.iconst 0, 1) := by decide +kernel
theorem dX7_clear_7 : decode cX7_clear 7 = .ok (.putfield 32, 3) := by decide +kernel
theorem dX7_clear_10 : decode cX7_clear 10 = .ok (.return_, 1) := by decide +kernel
theorem dX7_copyFrom_0 : decode cX7_copyFrom 0 = .ok (.aload_n 0, 1) := by decide +kernel
theorem dX7_copyFrom_1 : decode cX7_copyFrom 1 = .ok (.aload_n 1, 1) := by decide +kernel
theorem dX7_copyFrom_2 : decode cX7_copyFrom 2 = .ok (.getfield 28, 3) := by decide +kernel
theorem dX7_copyFrom_5 : decode cX7_copyFrom 5 = .ok (.putfield 28, 3) := by decide +kernel
theorem dX7_copyFrom_8 : decode cX7_copyFrom 8 = .ok (.aload_n 0, 1) := by decide +kernel
theorem dX7_copyFrom_9 : decode cX7_copyFrom 9 = .ok (.aload_n 1, 1) := by decide +kernel
theorem dX7_copyFrom_10 : decode cX7_copyFrom 10 = .ok (.getfield 32, 3) := by decide +kernel
theorem dX7_copyFrom_13 : decode cX7_copyFrom 13 = .ok (.putfield 32, 3) := by decide +kernel
theorem dX7_copyFrom_16 : decode cX7_copyFrom 16 = .ok (.aload_n 1, 1) := by decide +kernel
theorem dX7_copyFrom_17 : decode cX7_copyFrom 17 = .ok (.getfield 9, 3) := by decide +kernel
theorem dX7_copyFrom_20 : decode cX7_copyFrom 20 = .ok (.iconst 0, 1) := by decide +kernel
theorem dX7_copyFrom_21 : decode cX7_copyFrom 21 = .ok (.aload_n 0, 1) := by decide +kernel
theorem dX7_copyFrom_22 : decode cX7_copyFrom 22 = .ok (.getfield 9, 3) := by decide +kernel
theorem dX7_copyFrom_25 : decode cX7_copyFrom 25 = .ok (.iconst 0, 1) := by decide +kernel
theorem dX7_copyFrom_26 : decode cX7_copyFrom 26 = .ok (.sipush 400, 3) := by decide +kernel
theorem dX7_copyFrom_29 : decode cX7_copyFrom 29 = .ok (.invokestatic 35, 3) := by decide +kernel
theorem dX7_copyFrom_32 : decode cX7_copyFrom 32 = .ok (.aload_n 1, 1) := by decide +kernel
theorem dX7_copyFrom_33 : decode cX7_copyFrom 33 = .ok (.getfield 15, 3) := by decide +kernel
theorem dX7_copyFrom_36 : decode cX7_copyFrom 36 = .ok (.iconst 0, 1) := by decide +kernel
theorem dX7_copyFrom_37 : decode cX7_copyFrom 37 = .ok (.aload_n 0, 1) := by decide +kernel
theorem dX7_copyFrom_38 : decode cX7_copyFrom 38 = .ok (.getfield 15, 3) := by decide +kernel
theorem dX7_copyFrom_41 : decode cX7_copyFrom 41 = .ok (.iconst 0, 1) := by decide +kernel
theorem dX7_copyFrom_42 : decode cX7_copyFrom 42 = .ok (.bipush 12, 2) := by decide +kernel
theorem dX7_copyFrom_44 : decode cX7_copyFrom 44 = .ok (.invokestatic 35, 3) := by decide +kernel
theorem dX7_copyFrom_47 : decode cX7_copyFrom 47 = .ok (.aload_n 1, 1) := by decide +kernel
theorem dX7_copyFrom_48 : decode cX7_copyFrom 48 = .ok (.getfield 18, 3) := by decide +kernel
theorem dX7_copyFrom_51 : decode cX7_copyFrom 51 = .ok (.iconst 0, 1) := by decide +kernel
theorem dX7_copyFrom_52 : decode cX7_copyFrom 52 = .ok (.aload_n 0, 1) := by decide +kernel
theorem dX7_copyFrom_53 : decode cX7_copyFrom 53 = .ok (.getfield 18, 3) := by decide +kernel
theorem dX7_copyFrom_56 : decode cX7_copyFrom 56 = .ok (.iconst 0, 1) := by decide +kernel
theorem dX7_copyFrom_57 : decode cX7_copyFrom 57 = .ok (.bipush 12, 2) := by decide +kernel
theorem dX7_copyFrom_59 : decode cX7_copyFrom 59 = .ok (.invokestatic 35, 3) := by decide +kernel
theorem dX7_copyFrom_62 : decode cX7_copyFrom 62 = .ok (.aload_n 1, 1) := by decide +kernel
theorem dX7_copyFrom_63 : decode cX7_copyFrom 63 = .ok (.getfield 21, 3) := by decide +kernel
theorem dX7_copyFrom_66 : decode cX7_copyFrom 66 = .ok (.iconst 0, 1) := by decide +kernel
theorem dX7_copyFrom_67 : decode cX7_copyFrom 67 = .ok (.aload_n 0, 1) := by decide +kernel
theorem dX7_copyFrom_68 : decode cX7_copyFrom 68 = .ok (.getfield 21, 3) := by decide +kernel
theorem dX7_copyFrom_71 : decode cX7_copyFrom 71 = .ok (.iconst 0, 1) := by decide +kernel
theorem dX7_copyFrom_72 : decode cX7_copyFrom 72 = .ok (.bipush 12, 2) := by decide +kernel
theorem dX7_copyFrom_74 : decode cX7_copyFrom 74 = .ok (.invokestatic 35, 3) := by decide +kernel
theorem dX7_copyFrom_77 : decode cX7_copyFrom 77 = .ok (.return_, 1) := by decide +kernel
theorem dX7_add_0 : decode cX7_add 0 = .ok (.aload_n 0, 1) := by decide +kernel
theorem dX7_add_1 : decode cX7_add 1 = .ok (.getfield 28, 3) := by decide +kernel
theorem dX7_add_4 : decode cX7_add 4 = .ok (.sipush 400, 3) := by decide +kernel
theorem dX7_add_7 : decode cX7_add 7 = .ok (.if_icmp .ge 27, 3) := by decide +kernel
theorem dX7_add_10 : decode cX7_add 10 = .ok (.aload_n 0, 1) := by decide +kernel
theorem dX7_add_11 : decode cX7_add 11 = .ok (.getfield 9, 3) := by decide +kernel
theorem dX7_add_14 : decode cX7_add 14 = .ok (.aload_n 0, 1) := by decide +kernel
theorem dX7_add_15 : decode cX7_add 15 = .ok (.getfield 28, 3) := by decide +kernel
theorem dX7_add_18 : decode cX7_add 18 = .ok (.iload_n 2, 1) := by decide +kernel
theorem dX7_add_19 : decode cX7_add 19 = .ok (.iconst 4, 1) := by decide +kernel
theorem dX7_add_20 : decode cX7_add 20 = .ok (.ishl, 1) := by decide +kernel
theorem dX7_add_21 : decode cX7_add 21 = .ok (.iload_n 1, 1) := by decide +kernel
theorem dX7_add_22 : decode cX7_add 22 = .ok (.iadd, 1) := by decide +kernel
theorem dX7_add_23 : decode cX7_add 23 = .ok (.iastore, 1) := by decide +kernel
theorem dX7_add_24 : decode cX7_add 24 = .ok (.aload_n 0, 1) := by decide +kernel
theorem dX7_add_25 : decode cX7_add 25 = .ok (.dup, 1) := by decide +kernel
theorem dX7_add_26 : decode cX7_add 26 = .ok (.getfield 28, 3) := by decide +kernel
theorem dX7_add_29 : decode cX7_add 29 = .ok (.iconst 1, 1) := by decide +kernel
theorem dX7_add_30 : decode cX7_add 30 = .ok (.iadd, 1) := by decide +kernel
theorem dX7_add_31 : decode cX7_add 31 = .ok (.putfield 28, 3) := by decide +kernel
theorem dX7_add_34 : decode cX7_add 34 = .ok (.return_, 1) := by decide +kernel
theorem dX7_worth_0 : decode cX7_worth 0 = .ok (.iconst 0, 1) := by decide +kernel
theorem dX7_worth_1 : decode cX7_worth 1 = .ok (.istore 5, 2) := by decide +kernel
theorem dX7_worth_3 : decode cX7_worth 3 = .ok (.iload 5, 2) := by decide +kernel
theorem dX7_worth_5 : decode cX7_worth 5 = .ok (.aload_n 0, 1) := by decide +kernel
theorem dX7_worth_6 : decode cX7_worth 6 = .ok (.getfield 32, 3) := by decide +kernel
theorem dX7_worth_9 : decode cX7_worth 9 = .ok (.if_icmp .ge 90, 3) := by decide +kernel
theorem dX7_worth_12 : decode cX7_worth 12 = .ok (.aload_n 0, 1) := by decide +kernel
theorem dX7_worth_13 : decode cX7_worth 13 = .ok (.getfield 18, 3) := by decide +kernel
theorem dX7_worth_16 : decode cX7_worth 16 = .ok (.iload 5, 2) := by decide +kernel
theorem dX7_worth_18 : decode cX7_worth 18 = .ok (.iaload, 1) := by decide +kernel
theorem dX7_worth_19 : decode cX7_worth 19 = .ok (.aload_n 0, 1) := by decide +kernel
theorem dX7_worth_20 : decode cX7_worth 20 = .ok (.getfield 21, 3) := by decide +kernel
theorem dX7_worth_23 : decode cX7_worth 23 = .ok (.iload 5, 2) := by decide +kernel
theorem dX7_worth_25 : decode cX7_worth 25 = .ok (.iaload, 1) := by decide +kernel
theorem dX7_worth_26 : decode cX7_worth 26 = .ok (.if_icmp .eq 31, 3) := by decide +kernel
theorem dX7_worth_29 : decode cX7_worth 29 = .ok (.aload_n 0, 1) := by decide +kernel
theorem dX7_worth_30 : decode cX7_worth 30 = .ok (.aload_n 0, 1) := by decide +kernel
theorem dX7_worth_31 : decode cX7_worth 31 = .ok (.getfield 18, 3) := by decide +kernel
theorem dX7_worth_34 : decode cX7_worth 34 = .ok (.iload 5, 2) := by decide +kernel
theorem dX7_worth_36 : decode cX7_worth 36 = .ok (.iaload, 1) := by decide +kernel
theorem dX7_worth_37 : decode cX7_worth 37 = .ok (.aload_n 0, 1) := by decide +kernel
theorem dX7_worth_38 : decode cX7_worth 38 = .ok (.getfield 21, 3) := by decide +kernel
theorem dX7_worth_41 : decode cX7_worth 41 = .ok (.iload 5, 2) := by decide +kernel
theorem dX7_worth_43 : decode cX7_worth 43 = .ok (.iaload, 1) := by decide +kernel
theorem dX7_worth_44 : decode cX7_worth 44 = .ok (.aload_n 1, 1) := by decide +kernel
theorem dX7_worth_45 : decode cX7_worth 45 = .ok (.aload_n 2, 1) := by decide +kernel
theorem dX7_worth_46 : decode cX7_worth 46 = .ok (.iload_n 3, 1) := by decide +kernel
theorem dX7_worth_47 : decode cX7_worth 47 = .ok (.iload 4, 2) := by decide +kernel
theorem dX7_worth_49 : decode cX7_worth 49 = .ok (.invokevirtual 41, 3) := by decide +kernel
theorem dX7_worth_52 : decode cX7_worth 52 = .ok (.lconst 0, 1) := by decide +kernel
theorem dX7_worth_53 : decode cX7_worth 53 = .ok (.lcmp, 1) := by decide +kernel
theorem dX7_worth_54 : decode cX7_worth 54 = .ok (.ifCond .eq 7, 3) := by decide +kernel
theorem dX7_worth_57 : decode cX7_worth 57 = .ok (.iconst 1, 1) := by decide +kernel
theorem dX7_worth_58 : decode cX7_worth 58 = .ok (.goto 4, 3) := by decide +kernel
theorem dX7_worth_61 : decode cX7_worth 61 = .ok (.iconst 0, 1) := by decide +kernel
theorem dX7_worth_62 : decode cX7_worth 62 = .ok (.istore 6, 2) := by decide +kernel
theorem dX7_worth_64 : decode cX7_worth 64 = .ok (.iload 6, 2) := by decide +kernel
theorem dX7_worth_66 : decode cX7_worth 66 = .ok (.ifCond .eq 27, 3) := by decide +kernel
theorem dX7_worth_69 : decode cX7_worth 69 = .ok (.aload_n 0, 1) := by decide +kernel
theorem dX7_worth_70 : decode cX7_worth 70 = .ok (.aload_n 0, 1) := by decide +kernel
theorem dX7_worth_71 : decode cX7_worth 71 = .ok (.getfield 15, 3) := by decide +kernel
theorem dX7_worth_74 : decode cX7_worth 74 = .ok (.iload 5, 2) := by decide +kernel
theorem dX7_worth_76 : decode cX7_worth 76 = .ok (.iaload, 1) := by decide +kernel
theorem dX7_worth_77 : decode cX7_worth 77 = .ok (.aload_n 0, 1) := by decide +kernel
theorem dX7_worth_78 : decode cX7_worth 78 = .ok (.getfield 18, 3) := by decide +kernel
theorem dX7_worth_81 : decode cX7_worth 81 = .ok (.iload 5, 2) := by decide +kernel
theorem dX7_worth_83 : decode cX7_worth 83 = .ok (.iaload, 1) := by decide +kernel
theorem dX7_worth_84 : decode cX7_worth 84 = .ok (.aload_n 1, 1) := by decide +kernel
theorem dX7_worth_85 : decode cX7_worth 85 = .ok (.aload_n 2, 1) := by decide +kernel
theorem dX7_worth_86 : decode cX7_worth 86 = .ok (.iload_n 3, 1) := by decide +kernel
theorem dX7_worth_87 : decode cX7_worth 87 = .ok (.iload 4, 2) := by decide +kernel
theorem dX7_worth_89 : decode cX7_worth 89 = .ok (.invokevirtual 41, 3) := by decide +kernel
theorem dX7_worth_92 : decode cX7_worth 92 = .ok (.lreturn, 1) := by decide +kernel
theorem dX7_worth_93 : decode cX7_worth 93 = .ok (.iinc 5 1, 3) := by decide +kernel
theorem dX7_worth_96 : decode cX7_worth 96 = .ok (.goto (-93), 3) := by decide +kernel
theorem dX7_worth_99 : decode cX7_worth 99 = .ok (.lconst 0, 1) := by decide +kernel
theorem dX7_worth_100 : decode cX7_worth 100 = .ok (.lreturn, 1) := by decide +kernel
theorem dX7_valueOf_0 : decode cX7_valueOf 0 = .ok (.iconst 0, 1) := by decide +kernel
theorem dX7_valueOf_1 : decode cX7_valueOf 1 = .ok (.istore 7, 2) := by decide +kernel
theorem dX7_valueOf_3 : decode cX7_valueOf 3 = .ok (.iload_n 1, 1) := by decide +kernel
theorem dX7_valueOf_4 : decode cX7_valueOf 4 = .ok (.istore 8, 2) := by decide +kernel
theorem dX7_valueOf_6 : decode cX7_valueOf 6 = .ok (.iload 8, 2) := by decide +kernel
theorem dX7_valueOf_8 : decode cX7_valueOf 8 = .ok (.iload_n 2, 1) := by decide +kernel
theorem dX7_valueOf_9 : decode cX7_valueOf 9 = .ok (.if_icmp .ge 183, 3) := by decide +kernel
theorem dX7_valueOf_12 : decode cX7_valueOf 12 = .ok (.aload_n 0, 1) := by decide +kernel
theorem dX7_valueOf_13 : decode cX7_valueOf 13 = .ok (.getfield 9, 3) := by decide +kernel
theorem dX7_valueOf_16 : decode cX7_valueOf 16 = .ok (.iload 8, 2) := by decide +kernel
theorem dX7_valueOf_18 : decode cX7_valueOf 18 = .ok (.iaload, 1) := by decide +kernel
theorem dX7_valueOf_19 : decode cX7_valueOf 19 = .ok (.bipush 15, 2) := by decide +kernel
theorem dX7_valueOf_21 : decode cX7_valueOf 21 = .ok (.iand, 1) := by decide +kernel
theorem dX7_valueOf_22 : decode cX7_valueOf 22 = .ok (.istore 9, 2) := by decide +kernel
theorem dX7_valueOf_24 : decode cX7_valueOf 24 = .ok (.aload_n 0, 1) := by decide +kernel
theorem dX7_valueOf_25 : decode cX7_valueOf 25 = .ok (.getfield 9, 3) := by decide +kernel
theorem dX7_valueOf_28 : decode cX7_valueOf 28 = .ok (.iload 8, 2) := by decide +kernel
theorem dX7_valueOf_30 : decode cX7_valueOf 30 = .ok (.iaload, 1) := by decide +kernel
theorem dX7_valueOf_31 : decode cX7_valueOf 31 = .ok (.iconst 4, 1) := by decide +kernel
theorem dX7_valueOf_32 : decode cX7_valueOf 32 = .ok (.ishr, 1) := by decide +kernel
theorem dX7_valueOf_33 : decode cX7_valueOf 33 = .ok (.istore 10, 2) := by decide +kernel
theorem dX7_valueOf_35 : decode cX7_valueOf 35 = .ok (.iload 9, 2) := by decide +kernel
theorem dX7_valueOf_37 : decode cX7_valueOf 37 = .ok (.iconst 1, 1) := by decide +kernel
theorem dX7_valueOf_38 : decode cX7_valueOf 38 = .ok (.if_icmp .gt 7, 3) := by decide +kernel
theorem dX7_valueOf_41 : decode cX7_valueOf 41 = .ok (.iconst 0, 1) := by decide +kernel
theorem dX7_valueOf_42 : decode cX7_valueOf 42 = .ok (.goto 14, 3) := by decide +kernel
theorem dX7_valueOf_45 : decode cX7_valueOf 45 = .ok (.iload 9, 2) := by decide +kernel
theorem dX7_valueOf_47 : decode cX7_valueOf 47 = .ok (.iconst 2, 1) := by decide +kernel
theorem dX7_valueOf_48 : decode cX7_valueOf 48 = .ok (.if_icmp .ne 7, 3) := by decide +kernel
theorem dX7_valueOf_51 : decode cX7_valueOf 51 = .ok (.iconst 1, 1) := by decide +kernel
theorem dX7_valueOf_52 : decode cX7_valueOf 52 = .ok (.goto 4, 3) := by decide +kernel
theorem dX7_valueOf_55 : decode cX7_valueOf 55 = .ok (.iconst 2, 1) := by decide +kernel
theorem dX7_valueOf_56 : decode cX7_valueOf 56 = .ok (.istore 11, 2) := by decide +kernel
theorem dX7_valueOf_58 : decode cX7_valueOf 58 = .ok (.iload 7, 2) := by decide +kernel
theorem dX7_valueOf_60 : decode cX7_valueOf 60 = .ok (.iload 11, 2) := by decide +kernel
theorem dX7_valueOf_62 : decode cX7_valueOf 62 = .ok (.if_icmp .lt 13, 3) := by decide +kernel
theorem dX7_valueOf_65 : decode cX7_valueOf 65 = .ok (.iload 7, 2) := by decide +kernel
theorem dX7_valueOf_67 : decode cX7_valueOf 67 = .ok (.iload 11, 2) := by decide +kernel
theorem dX7_valueOf_69 : decode cX7_valueOf 69 = .ok (.isub, 1) := by decide +kernel
theorem dX7_valueOf_70 : decode cX7_valueOf 70 = .ok (.bipush 64, 2) := by decide +kernel
theorem dX7_valueOf_72 : decode cX7_valueOf 72 = .ok (.if_icmp .lt 5, 3) := by decide +kernel
theorem dX7_valueOf_75 : decode cX7_valueOf 75 = .ok (.lconst 0, 1) := by decide +kernel
theorem dX7_valueOf_76 : decode cX7_valueOf 76 = .ok (.lreturn, 1) := by decide +kernel
theorem dX7_valueOf_77 : decode cX7_valueOf 77 = .ok (.iload 7, 2) := by decide +kernel
theorem dX7_valueOf_79 : decode cX7_valueOf 79 = .ok (.iload 11, 2) := by decide +kernel
theorem dX7_valueOf_81 : decode cX7_valueOf 81 = .ok (.isub, 1) := by decide +kernel
theorem dX7_valueOf_82 : decode cX7_valueOf 82 = .ok (.istore 7, 2) := by decide +kernel
theorem dX7_valueOf_84 : decode cX7_valueOf 84 = .ok (.iload 9, 2) := by decide +kernel
theorem dX7_valueOf_86 : decode cX7_valueOf 86 = .ok (.ifCond .ne 16, 3) := by decide +kernel
theorem dX7_valueOf_89 : decode cX7_valueOf 89 = .ok (.aload_n 0, 1) := by decide +kernel
theorem dX7_valueOf_90 : decode cX7_valueOf 90 = .ok (.getfield 24, 3) := by decide +kernel
theorem dX7_valueOf_93 : decode cX7_valueOf 93 = .ok (.iload 7, 2) := by decide +kernel
theorem dX7_valueOf_95 : decode cX7_valueOf 95 = .ok (.iload 10, 2) := by decide +kernel
theorem dX7_valueOf_97 : decode cX7_valueOf 97 = .ok (.i2l, 1) := by decide +kernel
theorem dX7_valueOf_98 : decode cX7_valueOf 98 = .ok (.lastore, 1) := by decide +kernel
theorem dX7_valueOf_99 : decode cX7_valueOf 99 = .ok (.goto 84, 3) := by decide +kernel
theorem dX7_valueOf_102 : decode cX7_valueOf 102 = .ok (.iload 9, 2) := by decide +kernel
theorem dX7_valueOf_104 : decode cX7_valueOf 104 = .ok (.iconst 1, 1) := by decide +kernel
theorem dX7_valueOf_105 : decode cX7_valueOf 105 = .ok (.if_icmp .ne 25, 3) := by decide +kernel
theorem dX7_valueOf_108 : decode cX7_valueOf 108 = .ok (.aload_n 0, 1) := by decide +kernel
theorem dX7_valueOf_109 : decode cX7_valueOf 109 = .ok (.getfield 24, 3) := by decide +kernel
theorem dX7_valueOf_112 : decode cX7_valueOf 112 = .ok (.iload 7, 2) := by decide +kernel
theorem dX7_valueOf_114 : decode cX7_valueOf 114 = .ok (.iload 10, 2) := by decide +kernel
theorem dX7_valueOf_116 : decode cX7_valueOf 116 = .ok (.aload_n 3, 1) := by decide +kernel
theorem dX7_valueOf_117 : decode cX7_valueOf 117 = .ok (.aload 4, 2) := by decide +kernel
theorem dX7_valueOf_119 : decode cX7_valueOf 119 = .ok (.iload 5, 2) := by decide +kernel
theorem dX7_valueOf_121 : decode cX7_valueOf 121 = .ok (.iload 6, 2) := by decide +kernel
theorem dX7_valueOf_123 : decode cX7_valueOf 123 = .ok (.invokestatic 45, 3) := by decide +kernel
theorem dX7_valueOf_126 : decode cX7_valueOf 126 = .ok (.lastore, 1) := by decide +kernel
theorem dX7_valueOf_127 : decode cX7_valueOf 127 = .ok (.goto 56, 3) := by decide +kernel
theorem dX7_valueOf_130 : decode cX7_valueOf 130 = .ok (.iload 9, 2) := by decide +kernel
theorem dX7_valueOf_132 : decode cX7_valueOf 132 = .ok (.iconst 2, 1) := by decide +kernel
theorem dX7_valueOf_133 : decode cX7_valueOf 133 = .ok (.if_icmp .ne 22, 3) := by decide +kernel
theorem dX7_valueOf_136 : decode cX7_valueOf 136 = .ok (.aload_n 0, 1) := by decide +kernel
theorem dX7_valueOf_137 : decode cX7_valueOf 137 = .ok (.getfield 24, 3) := by decide +kernel
theorem dX7_valueOf_140 : decode cX7_valueOf 140 = .ok (.iload 7, 2) := by decide +kernel
theorem dX7_valueOf_142 : decode cX7_valueOf 142 = .ok (.lconst 1, 1) := by decide +kernel
theorem dX7_valueOf_143 : decode cX7_valueOf 143 = .ok (.aload_n 0, 1) := by decide +kernel
theorem dX7_valueOf_144 : decode cX7_valueOf 144 = .ok (.getfield 24, 3) := by decide +kernel
theorem dX7_valueOf_147 : decode cX7_valueOf 147 = .ok (.iload 7, 2) := by decide +kernel
theorem dX7_valueOf_149 : decode cX7_valueOf 149 = .ok (.laload, 1) := by decide +kernel
theorem dX7_valueOf_150 : decode cX7_valueOf 150 = .ok (.lsub, 1) := by decide +kernel
theorem dX7_valueOf_151 : decode cX7_valueOf 151 = .ok (.lastore, 1) := by decide +kernel
theorem dX7_valueOf_152 : decode cX7_valueOf 152 = .ok (.goto 31, 3) := by decide +kernel
theorem dX7_valueOf_155 : decode cX7_valueOf 155 = .ok (.aload_n 0, 1) := by decide +kernel
theorem dX7_valueOf_156 : decode cX7_valueOf 156 = .ok (.getfield 24, 3) := by decide +kernel
theorem dX7_valueOf_159 : decode cX7_valueOf 159 = .ok (.iload 7, 2) := by decide +kernel
theorem dX7_valueOf_161 : decode cX7_valueOf 161 = .ok (.iload 9, 2) := by decide +kernel
theorem dX7_valueOf_163 : decode cX7_valueOf 163 = .ok (.aload_n 0, 1) := by decide +kernel
theorem dX7_valueOf_164 : decode cX7_valueOf 164 = .ok (.getfield 24, 3) := by decide +kernel
theorem dX7_valueOf_167 : decode cX7_valueOf 167 = .ok (.iload 7, 2) := by decide +kernel
theorem dX7_valueOf_169 : decode cX7_valueOf 169 = .ok (.laload, 1) := by decide +kernel
theorem dX7_valueOf_170 : decode cX7_valueOf 170 = .ok (.aload_n 0, 1) := by decide +kernel
theorem dX7_valueOf_171 : decode cX7_valueOf 171 = .ok (.getfield 24, 3) := by decide +kernel
theorem dX7_valueOf_174 : decode cX7_valueOf 174 = .ok (.iload 7, 2) := by decide +kernel
theorem dX7_valueOf_176 : decode cX7_valueOf 176 = .ok (.iconst 1, 1) := by decide +kernel
theorem dX7_valueOf_177 : decode cX7_valueOf 177 = .ok (.iadd, 1) := by decide +kernel
theorem dX7_valueOf_178 : decode cX7_valueOf 178 = .ok (.laload, 1) := by decide +kernel
theorem dX7_valueOf_179 : decode cX7_valueOf 179 = .ok (.invokestatic 49, 3) := by decide +kernel
theorem dX7_valueOf_182 : decode cX7_valueOf 182 = .ok (.lastore, 1) := by decide +kernel
theorem dX7_valueOf_183 : decode cX7_valueOf 183 = .ok (.iinc 7 1, 3) := by decide +kernel
theorem dX7_valueOf_186 : decode cX7_valueOf 186 = .ok (.iinc 8 1, 3) := by decide +kernel
theorem dX7_valueOf_189 : decode cX7_valueOf 189 = .ok (.goto (-183), 3) := by decide +kernel
theorem dX7_valueOf_192 : decode cX7_valueOf 192 = .ok (.aload_n 0, 1) := by decide +kernel
theorem dX7_valueOf_193 : decode cX7_valueOf 193 = .ok (.getfield 24, 3) := by decide +kernel
theorem dX7_valueOf_196 : decode cX7_valueOf 196 = .ok (.iconst 0, 1) := by decide +kernel
theorem dX7_valueOf_197 : decode cX7_valueOf 197 = .ok (.laload, 1) := by decide +kernel
theorem dX7_valueOf_198 : decode cX7_valueOf 198 = .ok (.lreturn, 1) := by decide +kernel
theorem dX7_wordOf_0 : decode cX7_wordOf 0 = .ok (.aload_n 1, 1) := by decide +kernel
theorem dX7_wordOf_1 : decode cX7_wordOf 1 = .ok (.getfield 53, 3) := by decide +kernel
theorem dX7_wordOf_4 : decode cX7_wordOf 4 = .ok (.astore 5, 2) := by decide +kernel
theorem dX7_wordOf_6 : decode cX7_wordOf 6 = .ok (.iload_n 0, 1) := by decide +kernel
theorem dX7_wordOf_7 : decode cX7_wordOf 7 = .ok (.tableswitch 203 0 10 #[57, 60, 64, 80, 98, 116, 138, 158, 175, 181, 187], 57) := by decide +kernel
theorem dX7_wordOf_64 : decode cX7_wordOf 64 = .ok (.iload_n 3, 1) := by decide +kernel
theorem dX7_wordOf_65 : decode cX7_wordOf 65 = .ok (.i2l, 1) := by decide +kernel
theorem dX7_wordOf_66 : decode cX7_wordOf 66 = .ok (.lreturn, 1) := by decide +kernel
theorem dX7_wordOf_67 : decode cX7_wordOf 67 = .ok (.iload 4, 2) := by decide +kernel
theorem dX7_wordOf_69 : decode cX7_wordOf 69 = .ok (.i2l, 1) := by decide +kernel
theorem dX7_wordOf_70 : decode cX7_wordOf 70 = .ok (.lreturn, 1) := by decide +kernel
theorem dX7_wordOf_71 : decode cX7_wordOf 71 = .ok (.aload_n 1, 1) := by decide +kernel
theorem dX7_wordOf_72 : decode cX7_wordOf 72 = .ok (.getfield 59, 3) := by decide +kernel
theorem dX7_wordOf_75 : decode cX7_wordOf 75 = .ok (.iload_n 3, 1) := by decide +kernel
theorem dX7_wordOf_76 : decode cX7_wordOf 76 = .ok (.iaload, 1) := by decide +kernel
theorem dX7_wordOf_77 : decode cX7_wordOf 77 = .ok (.aload_n 1, 1) := by decide +kernel
theorem dX7_wordOf_78 : decode cX7_wordOf 78 = .ok (.getfield 59, 3) := by decide +kernel
theorem dX7_wordOf_81 : decode cX7_wordOf 81 = .ok (.iload 4, 2) := by decide +kernel
theorem dX7_wordOf_83 : decode cX7_wordOf 83 = .ok (.iaload, 1) := by decide +kernel
theorem dX7_wordOf_84 : decode cX7_wordOf 84 = .ok (.iadd, 1) := by decide +kernel
theorem dX7_wordOf_85 : decode cX7_wordOf 85 = .ok (.i2l, 1) := by decide +kernel
theorem dX7_wordOf_86 : decode cX7_wordOf 86 = .ok (.lreturn, 1) := by decide +kernel
theorem dX7_wordOf_87 : decode cX7_wordOf 87 = .ok (.aload 5, 2) := by decide +kernel
theorem dX7_wordOf_89 : decode cX7_wordOf 89 = .ok (.getfield 62, 3) := by decide +kernel
theorem dX7_wordOf_92 : decode cX7_wordOf 92 = .ok (.iload_n 3, 1) := by decide +kernel
theorem dX7_wordOf_93 : decode cX7_wordOf 93 = .ok (.iaload, 1) := by decide +kernel
theorem dX7_wordOf_94 : decode cX7_wordOf 94 = .ok (.aload 5, 2) := by decide +kernel
theorem dX7_wordOf_96 : decode cX7_wordOf 96 = .ok (.getfield 62, 3) := by decide +kernel
theorem dX7_wordOf_99 : decode cX7_wordOf 99 = .ok (.iload 4, 2) := by decide +kernel
theorem dX7_wordOf_101 : decode cX7_wordOf 101 = .ok (.iaload, 1) := by decide +kernel
theorem dX7_wordOf_102 : decode cX7_wordOf 102 = .ok (.iadd, 1) := by decide +kernel
theorem dX7_wordOf_103 : decode cX7_wordOf 103 = .ok (.i2l, 1) := by decide +kernel
theorem dX7_wordOf_104 : decode cX7_wordOf 104 = .ok (.lreturn, 1) := by decide +kernel
theorem dX7_wordOf_105 : decode cX7_wordOf 105 = .ok (.aload 5, 2) := by decide +kernel
theorem dX7_wordOf_107 : decode cX7_wordOf 107 = .ok (.getfield 67, 3) := by decide +kernel
theorem dX7_wordOf_110 : decode cX7_wordOf 110 = .ok (.iload_n 3, 1) := by decide +kernel
theorem dX7_wordOf_111 : decode cX7_wordOf 111 = .ok (.iaload, 1) := by decide +kernel
theorem dX7_wordOf_112 : decode cX7_wordOf 112 = .ok (.aload 5, 2) := by decide +kernel
theorem dX7_wordOf_114 : decode cX7_wordOf 114 = .ok (.getfield 67, 3) := by decide +kernel
theorem dX7_wordOf_117 : decode cX7_wordOf 117 = .ok (.iload 4, 2) := by decide +kernel
theorem dX7_wordOf_119 : decode cX7_wordOf 119 = .ok (.iaload, 1) := by decide +kernel
theorem dX7_wordOf_120 : decode cX7_wordOf 120 = .ok (.iadd, 1) := by decide +kernel
theorem dX7_wordOf_121 : decode cX7_wordOf 121 = .ok (.i2l, 1) := by decide +kernel
theorem dX7_wordOf_122 : decode cX7_wordOf 122 = .ok (.lreturn, 1) := by decide +kernel
theorem dX7_wordOf_123 : decode cX7_wordOf 123 = .ok (.aload_n 1, 1) := by decide +kernel
theorem dX7_wordOf_124 : decode cX7_wordOf 124 = .ok (.getfield 70, 3) := by decide +kernel
theorem dX7_wordOf_127 : decode cX7_wordOf 127 = .ok (.iload_n 3, 1) := by decide +kernel
theorem dX7_wordOf_128 : decode cX7_wordOf 128 = .ok (.iaload, 1) := by decide +kernel
theorem dX7_wordOf_129 : decode cX7_wordOf 129 = .ok (.aload_n 1, 1) := by decide +kernel
theorem dX7_wordOf_130 : decode cX7_wordOf 130 = .ok (.getfield 70, 3) := by decide +kernel
theorem dX7_wordOf_133 : decode cX7_wordOf 133 = .ok (.iload 4, 2) := by decide +kernel
theorem dX7_wordOf_135 : decode cX7_wordOf 135 = .ok (.iaload, 1) := by decide +kernel
theorem dX7_wordOf_136 : decode cX7_wordOf 136 = .ok (.if_icmp .ne 7, 3) := by decide +kernel
theorem dX7_wordOf_139 : decode cX7_wordOf 139 = .ok (.lconst 1, 1) := by decide +kernel
theorem dX7_wordOf_140 : decode cX7_wordOf 140 = .ok (.goto 4, 3) := by decide +kernel
theorem dX7_wordOf_143 : decode cX7_wordOf 143 = .ok (.lconst 0, 1) := by decide +kernel
theorem dX7_wordOf_144 : decode cX7_wordOf 144 = .ok (.lreturn, 1) := by decide +kernel
theorem dX7_wordOf_145 : decode cX7_wordOf 145 = .ok (.aload_n 2, 1) := by decide +kernel
theorem dX7_wordOf_146 : decode cX7_wordOf 146 = .ok (.getfield 73, 3) := by decide +kernel
theorem dX7_wordOf_149 : decode cX7_wordOf 149 = .ok (.iload_n 3, 1) := by decide +kernel
theorem dX7_wordOf_150 : decode cX7_wordOf 150 = .ok (.iaload, 1) := by decide +kernel
theorem dX7_wordOf_151 : decode cX7_wordOf 151 = .ok (.iload 4, 2) := by decide +kernel
theorem dX7_wordOf_153 : decode cX7_wordOf 153 = .ok (.invokestatic 78, 3) := by decide +kernel
theorem dX7_wordOf_156 : decode cX7_wordOf 156 = .ok (.ifCond .eq 7, 3) := by decide +kernel
theorem dX7_wordOf_159 : decode cX7_wordOf 159 = .ok (.lconst 0, 1) := by decide +kernel
theorem dX7_wordOf_160 : decode cX7_wordOf 160 = .ok (.goto 4, 3) := by decide +kernel
theorem dX7_wordOf_163 : decode cX7_wordOf 163 = .ok (.lconst 1, 1) := by decide +kernel
theorem dX7_wordOf_164 : decode cX7_wordOf 164 = .ok (.lreturn, 1) := by decide +kernel
theorem dX7_wordOf_165 : decode cX7_wordOf 165 = .ok (.aload_n 1, 1) := by decide +kernel
theorem dX7_wordOf_166 : decode cX7_wordOf 166 = .ok (.iconst 1, 1) := by decide +kernel
theorem dX7_wordOf_167 : decode cX7_wordOf 167 = .ok (.iload_n 3, 1) := by decide +kernel
theorem dX7_wordOf_168 : decode cX7_wordOf 168 = .ok (.ishl, 1) := by decide +kernel
theorem dX7_wordOf_169 : decode cX7_wordOf 169 = .ok (.iconst 1, 1) := by decide +kernel
theorem dX7_wordOf_170 : decode cX7_wordOf 170 = .ok (.iload 4, 2) := by decide +kernel
theorem dX7_wordOf_172 : decode cX7_wordOf 172 = .ok (.ishl, 1) := by decide +kernel
theorem dX7_wordOf_173 : decode cX7_wordOf 173 = .ok (.ior, 1) := by decide +kernel
theorem dX7_wordOf_174 : decode cX7_wordOf 174 = .ok (.invokevirtual 82, 3) := by decide +kernel
theorem dX7_wordOf_177 : decode cX7_wordOf 177 = .ok (.invokestatic 86, 3) := by decide +kernel
theorem dX7_wordOf_180 : decode cX7_wordOf 180 = .ok (.i2l, 1) := by decide +kernel
theorem dX7_wordOf_181 : decode cX7_wordOf 181 = .ok (.lreturn, 1) := by decide +kernel
theorem dX7_wordOf_182 : decode cX7_wordOf 182 = .ok (.aload_n 1, 1) := by decide +kernel
theorem dX7_wordOf_183 : decode cX7_wordOf 183 = .ok (.getfield 91, 3) := by decide +kernel
theorem dX7_wordOf_186 : decode cX7_wordOf 186 = .ok (.i2l, 1) := by decide +kernel
theorem dX7_wordOf_187 : decode cX7_wordOf 187 = .ok (.lreturn, 1) := by decide +kernel
theorem dX7_wordOf_188 : decode cX7_wordOf 188 = .ok (.aload_n 1, 1) := by decide +kernel
theorem dX7_wordOf_189 : decode cX7_wordOf 189 = .ok (.getfield 94, 3) := by decide +kernel
theorem dX7_wordOf_192 : decode cX7_wordOf 192 = .ok (.i2l, 1) := by decide +kernel
theorem dX7_wordOf_193 : decode cX7_wordOf 193 = .ok (.lreturn, 1) := by decide +kernel
theorem dX7_wordOf_194 : decode cX7_wordOf 194 = .ok (.aload_n 1, 1) := by decide +kernel
theorem dX7_wordOf_195 : decode cX7_wordOf 195 = .ok (.iload_n 3, 1) := by decide +kernel
theorem dX7_wordOf_196 : decode cX7_wordOf 196 = .ok (.invokevirtual 97, 3) := by decide +kernel
theorem dX7_wordOf_199 : decode cX7_wordOf 199 = .ok (.aload_n 1, 1) := by decide +kernel
theorem dX7_wordOf_200 : decode cX7_wordOf 200 = .ok (.iload 4, 2) := by decide +kernel
theorem dX7_wordOf_202 : decode cX7_wordOf 202 = .ok (.invokevirtual 97, 3) := by decide +kernel
theorem dX7_wordOf_205 : decode cX7_wordOf 205 = .ok (.invokestatic 100, 3) := by decide +kernel
theorem dX7_wordOf_208 : decode cX7_wordOf 208 = .ok (.i2l, 1) := by decide +kernel
theorem dX7_wordOf_209 : decode cX7_wordOf 209 = .ok (.lreturn, 1) := by decide +kernel
theorem dX7_wordOf_210 : decode cX7_wordOf 210 = .ok (.aload_n 1, 1) := by decide +kernel
theorem dX7_wordOf_211 : decode cX7_wordOf 211 = .ok (.iconst 0, 1) := by decide +kernel
theorem dX7_wordOf_212 : decode cX7_wordOf 212 = .ok (.invokevirtual 106, 3) := by decide +kernel
theorem dX7_wordOf_215 : decode cX7_wordOf 215 = .ok (.invokestatic 86, 3) := by decide +kernel
theorem dX7_wordOf_218 : decode cX7_wordOf 218 = .ok (.i2l, 1) := by decide +kernel
theorem dX7_wordOf_219 : decode cX7_wordOf 219 = .ok (.lreturn, 1) := by decide +kernel
theorem dX7_join_0 : decode cX7_join 0 = .ok (.iload_n 0, 1) := by decide +kernel
theorem dX7_join_1 : decode cX7_join 1 = .ok (.tableswitch 163 3 13 #[59, 63, 67, 71, 85, 99, 111, 123, 135, 147, 159], 59) := by decide +kernel
theorem dX7_join_60 : decode cX7_join 60 = .ok (.lload_n 1, 1) := by decide +kernel
theorem dX7_join_61 : decode cX7_join 61 = .ok (.lload_n 3, 1) := by decide +kernel
theorem dX7_join_62 : decode cX7_join 62 = .ok (.ladd, 1) := by decide +kernel
theorem dX7_join_63 : decode cX7_join 63 = .ok (.lreturn, 1) := by decide +kernel
theorem dX7_join_64 : decode cX7_join 64 = .ok (.lload_n 1, 1) := by decide +kernel
theorem dX7_join_65 : decode cX7_join 65 = .ok (.lload_n 3, 1) := by decide +kernel
theorem dX7_join_66 : decode cX7_join 66 = .ok (.lsub, 1) := by decide +kernel
theorem dX7_join_67 : decode cX7_join 67 = .ok (.lreturn, 1) := by decide +kernel
theorem dX7_join_68 : decode cX7_join 68 = .ok (.lload_n 1, 1) := by decide +kernel
theorem dX7_join_69 : decode cX7_join 69 = .ok (.lload_n 3, 1) := by decide +kernel
theorem dX7_join_70 : decode cX7_join 70 = .ok (.lmul, 1) := by decide +kernel
theorem dX7_join_71 : decode cX7_join 71 = .ok (.lreturn, 1) := by decide +kernel
theorem dX7_join_72 : decode cX7_join 72 = .ok (.lload_n 3, 1) := by decide +kernel
theorem dX7_join_73 : decode cX7_join 73 = .ok (.lconst 0, 1) := by decide +kernel
theorem dX7_join_74 : decode cX7_join 74 = .ok (.lcmp, 1) := by decide +kernel
theorem dX7_join_75 : decode cX7_join 75 = .ok (.ifCond .ne 7, 3) := by decide +kernel
theorem dX7_join_78 : decode cX7_join 78 = .ok (.lconst 0, 1) := by decide +kernel
theorem dX7_join_79 : decode cX7_join 79 = .ok (.goto 6, 3) := by decide +kernel
theorem dX7_join_82 : decode cX7_join 82 = .ok (.lload_n 1, 1) := by decide +kernel
theorem dX7_join_83 : decode cX7_join 83 = .ok (.lload_n 3, 1) := by decide +kernel
theorem dX7_join_84 : decode cX7_join 84 = .ok (.ldiv, 1) := by decide +kernel
theorem dX7_join_85 : decode cX7_join 85 = .ok (.lreturn, 1) := by decide +kernel
theorem dX7_join_86 : decode cX7_join 86 = .ok (.lload_n 3, 1) := by decide +kernel
theorem dX7_join_87 : decode cX7_join 87 = .ok (.lconst 0, 1) := by decide +kernel
theorem dX7_join_88 : decode cX7_join 88 = .ok (.lcmp, 1) := by decide +kernel
theorem dX7_join_89 : decode cX7_join 89 = .ok (.ifCond .ne 7, 3) := by decide +kernel
theorem dX7_join_92 : decode cX7_join 92 = .ok (.lconst 0, 1) := by decide +kernel
theorem dX7_join_93 : decode cX7_join 93 = .ok (.goto 6, 3) := by decide +kernel
theorem dX7_join_96 : decode cX7_join 96 = .ok (.lload_n 1, 1) := by decide +kernel
theorem dX7_join_97 : decode cX7_join 97 = .ok (.lload_n 3, 1) := by decide +kernel
theorem dX7_join_98 : decode cX7_join 98 = .ok (.lrem, 1) := by decide +kernel
theorem dX7_join_99 : decode cX7_join 99 = .ok (.lreturn, 1) := by decide +kernel
theorem dX7_join_100 : decode cX7_join 100 = .ok (.lload_n 1, 1) := by decide +kernel
theorem dX7_join_101 : decode cX7_join 101 = .ok (.lload_n 3, 1) := by decide +kernel
theorem dX7_join_102 : decode cX7_join 102 = .ok (.lcmp, 1) := by decide +kernel
theorem dX7_join_103 : decode cX7_join 103 = .ok (.ifCond .ge 7, 3) := by decide +kernel
theorem dX7_join_106 : decode cX7_join 106 = .ok (.lconst 1, 1) := by decide +kernel
theorem dX7_join_107 : decode cX7_join 107 = .ok (.goto 4, 3) := by decide +kernel
theorem dX7_join_110 : decode cX7_join 110 = .ok (.lconst 0, 1) := by decide +kernel
theorem dX7_join_111 : decode cX7_join 111 = .ok (.lreturn, 1) := by decide +kernel
theorem dX7_join_112 : decode cX7_join 112 = .ok (.lload_n 1, 1) := by decide +kernel
theorem dX7_join_113 : decode cX7_join 113 = .ok (.lload_n 3, 1) := by decide +kernel
theorem dX7_join_114 : decode cX7_join 114 = .ok (.lcmp, 1) := by decide +kernel
theorem dX7_join_115 : decode cX7_join 115 = .ok (.ifCond .gt 7, 3) := by decide +kernel
theorem dX7_join_118 : decode cX7_join 118 = .ok (.lconst 1, 1) := by decide +kernel
theorem dX7_join_119 : decode cX7_join 119 = .ok (.goto 4, 3) := by decide +kernel
theorem dX7_join_122 : decode cX7_join 122 = .ok (.lconst 0, 1) := by decide +kernel
theorem dX7_join_123 : decode cX7_join 123 = .ok (.lreturn, 1) := by decide +kernel
theorem dX7_join_124 : decode cX7_join 124 = .ok (.lload_n 1, 1) := by decide +kernel
theorem dX7_join_125 : decode cX7_join 125 = .ok (.lload_n 3, 1) := by decide +kernel
theorem dX7_join_126 : decode cX7_join 126 = .ok (.lcmp, 1) := by decide +kernel
theorem dX7_join_127 : decode cX7_join 127 = .ok (.ifCond .ne 7, 3) := by decide +kernel
theorem dX7_join_130 : decode cX7_join 130 = .ok (.lconst 1, 1) := by decide +kernel
theorem dX7_join_131 : decode cX7_join 131 = .ok (.goto 4, 3) := by decide +kernel
theorem dX7_join_134 : decode cX7_join 134 = .ok (.lconst 0, 1) := by decide +kernel
theorem dX7_join_135 : decode cX7_join 135 = .ok (.lreturn, 1) := by decide +kernel
theorem dX7_join_136 : decode cX7_join 136 = .ok (.lload_n 1, 1) := by decide +kernel
theorem dX7_join_137 : decode cX7_join 137 = .ok (.lload_n 3, 1) := by decide +kernel
theorem dX7_join_138 : decode cX7_join 138 = .ok (.lcmp, 1) := by decide +kernel
theorem dX7_join_139 : decode cX7_join 139 = .ok (.ifCond .lt 7, 3) := by decide +kernel
theorem dX7_join_142 : decode cX7_join 142 = .ok (.lconst 1, 1) := by decide +kernel
theorem dX7_join_143 : decode cX7_join 143 = .ok (.goto 4, 3) := by decide +kernel
theorem dX7_join_146 : decode cX7_join 146 = .ok (.lconst 0, 1) := by decide +kernel
theorem dX7_join_147 : decode cX7_join 147 = .ok (.lreturn, 1) := by decide +kernel
theorem dX7_join_148 : decode cX7_join 148 = .ok (.lload_n 1, 1) := by decide +kernel
theorem dX7_join_149 : decode cX7_join 149 = .ok (.lload_n 3, 1) := by decide +kernel
theorem dX7_join_150 : decode cX7_join 150 = .ok (.lcmp, 1) := by decide +kernel
theorem dX7_join_151 : decode cX7_join 151 = .ok (.ifCond .le 7, 3) := by decide +kernel
theorem dX7_join_154 : decode cX7_join 154 = .ok (.lconst 1, 1) := by decide +kernel
theorem dX7_join_155 : decode cX7_join 155 = .ok (.goto 4, 3) := by decide +kernel
theorem dX7_join_158 : decode cX7_join 158 = .ok (.lconst 0, 1) := by decide +kernel
theorem dX7_join_159 : decode cX7_join 159 = .ok (.lreturn, 1) := by decide +kernel
theorem dX7_join_160 : decode cX7_join 160 = .ok (.lload_n 1, 1) := by decide +kernel
theorem dX7_join_161 : decode cX7_join 161 = .ok (.lload_n 3, 1) := by decide +kernel
theorem dX7_join_162 : decode cX7_join 162 = .ok (.land, 1) := by decide +kernel
theorem dX7_join_163 : decode cX7_join 163 = .ok (.lreturn, 1) := by decide +kernel
theorem dX7_join_164 : decode cX7_join 164 = .ok (.lload_n 1, 1) := by decide +kernel
theorem dX7_join_165 : decode cX7_join 165 = .ok (.lload_n 3, 1) := by decide +kernel
theorem dX7_join_166 : decode cX7_join 166 = .ok (.lor, 1) := by decide +kernel
theorem dX7_join_167 : decode cX7_join 167 = .ok (.lreturn, 1) := by decide +kernel
theorem dX8_init_0 : decode cX8_init 0 = .ok (.aload_n 0, 1) := by decide +kernel
theorem dX8_init_1 : decode cX8_init 1 = .ok (.invokespecial 3, 3) := by decide +kernel
theorem dX8_init_4 : decode cX8_init 4 = .ok (.aload_n 0, 1) := by decide +kernel
theorem dX8_init_5 : decode cX8_init 5 = .ok (.new 9, 3) := by decide +kernel
theorem dX8_init_8 : decode cX8_init 8 = .ok (.dup, 1) := by decide +kernel
theorem dX8_init_9 : decode cX8_init 9 = .ok (.invokespecial 11, 3) := by decide +kernel
theorem dX8_init_12 : decode cX8_init 12 = .ok (.putfield 12, 3) := by decide +kernel
theorem dX8_init_15 : decode cX8_init 15 = .ok (.aload_n 0, 1) := by decide +kernel
theorem dX8_init_16 : decode cX8_init 16 = .ok (.aload_n 1, 1) := by decide +kernel
theorem dX8_init_17 : decode cX8_init 17 = .ok (.putfield 18, 3) := by decide +kernel
theorem dX8_init_20 : decode cX8_init 20 = .ok (.return_, 1) := by decide +kernel
theorem dX8_read_0 : decode cX8_read 0 = .ok (.aload_n 0, 1) := by decide +kernel
theorem dX8_read_1 : decode cX8_read 1 = .ok (.getfield 18, 3) := by decide +kernel
theorem dX8_read_4 : decode cX8_read 4 = .ok (.invokevirtual 22, 3) := by decide +kernel
theorem dX8_read_7 : decode cX8_read 7 = .ok (.aload_n 0, 1) := by decide +kernel
theorem dX8_read_8 : decode cX8_read 8 = .ok (.getfield 12, 3) := by decide +kernel
theorem dX8_read_11 : decode cX8_read 11 = .ok (.invokevirtual 27, 3) := by decide +kernel
theorem dX8_read_14 : decode cX8_read 14 = .ok (.aload_n 0, 1) := by decide +kernel
theorem dX8_read_15 : decode cX8_read 15 = .ok (.iconst 0, 1) := by decide +kernel
theorem dX8_read_16 : decode cX8_read 16 = .ok (.putfield 30, 3) := by decide +kernel
theorem dX8_read_19 : decode cX8_read 19 = .ok (.iconst 0, 1) := by decide +kernel
theorem dX8_read_20 : decode cX8_read 20 = .ok (.istore_n 1, 1) := by decide +kernel
theorem dX8_read_21 : decode cX8_read 21 = .ok (.iload_n 1, 1) := by decide +kernel
theorem dX8_read_22 : decode cX8_read 22 = .ok (.bipush 12, 2) := by decide +kernel
theorem dX8_read_24 : decode cX8_read 24 = .ok (.if_icmp .gt 189, 3) := by decide +kernel
theorem dX8_read_27 : decode cX8_read 27 = .ok (.aload_n 0, 1) := by decide +kernel
theorem dX8_read_28 : decode cX8_read 28 = .ok (.getfield 18, 3) := by decide +kernel
theorem dX8_read_31 : decode cX8_read 31 = .ok (.ldc 34, 2) := by decide +kernel
theorem dX8_read_33 : decode cX8_read 33 = .ok (.invokevirtual 36, 3) := by decide +kernel
theorem dX8_read_36 : decode cX8_read 36 = .ok (.ifCond .ne 19, 3) := by decide +kernel
theorem dX8_read_39 : decode cX8_read 39 = .ok (.aload_n 0, 1) := by decide +kernel
theorem dX8_read_40 : decode cX8_read 40 = .ok (.getfield 18, 3) := by decide +kernel
theorem dX8_read_43 : decode cX8_read 43 = .ok (.aload_n 0, 1) := by decide +kernel
theorem dX8_read_44 : decode cX8_read 44 = .ok (.getfield 18, 3) := by decide +kernel
theorem dX8_read_47 : decode cX8_read 47 = .ok (.getfield 40, 3) := by decide +kernel
theorem dX8_read_50 : decode cX8_read 50 = .ok (.iconst 0, 1) := by decide +kernel
theorem dX8_read_51 : decode cX8_read 51 = .ok (.invokevirtual 43, 3) := by decide +kernel
theorem dX8_read_54 : decode cX8_read 54 = .ok (.ireturn, 1) := by decide +kernel
theorem dX8_read_55 : decode cX8_read 55 = .ok (.iload_n 1, 1) := by decide +kernel
theorem dX8_read_56 : decode cX8_read 56 = .ok (.bipush 12, 2) := by decide +kernel
theorem dX8_read_58 : decode cX8_read 58 = .ok (.if_icmp .ne 19, 3) := by decide +kernel
theorem dX8_read_61 : decode cX8_read 61 = .ok (.aload_n 0, 1) := by decide +kernel
theorem dX8_read_62 : decode cX8_read 62 = .ok (.getfield 18, 3) := by decide +kernel
theorem dX8_read_65 : decode cX8_read 65 = .ok (.aload_n 0, 1) := by decide +kernel
theorem dX8_read_66 : decode cX8_read 66 = .ok (.getfield 18, 3) := by decide +kernel
theorem dX8_read_69 : decode cX8_read 69 = .ok (.getfield 47, 3) := by decide +kernel
theorem dX8_read_72 : decode cX8_read 72 = .ok (.iconst 4, 1) := by decide +kernel
theorem dX8_read_73 : decode cX8_read 73 = .ok (.invokevirtual 43, 3) := by decide +kernel
theorem dX8_read_76 : decode cX8_read 76 = .ok (.ireturn, 1) := by decide +kernel
theorem dX8_read_77 : decode cX8_read 77 = .ok (.aload_n 0, 1) := by decide +kernel
theorem dX8_read_78 : decode cX8_read 78 = .ok (.getfield 12, 3) := by decide +kernel
theorem dX8_read_81 : decode cX8_read 81 = .ok (.getfield 50, 3) := by decide +kernel
theorem dX8_read_84 : decode cX8_read 84 = .ok (.iload_n 1, 1) := by decide +kernel
theorem dX8_read_85 : decode cX8_read 85 = .ok (.aload_n 0, 1) := by decide +kernel
theorem dX8_read_86 : decode cX8_read 86 = .ok (.getfield 12, 3) := by decide +kernel
theorem dX8_read_89 : decode cX8_read 89 = .ok (.getfield 54, 3) := by decide +kernel
theorem dX8_read_92 : decode cX8_read 92 = .ok (.iastore, 1) := by decide +kernel
theorem dX8_read_93 : decode cX8_read 93 = .ok (.aload_n 0, 1) := by decide +kernel
theorem dX8_read_94 : decode cX8_read 94 = .ok (.invokevirtual 57, 3) := by decide +kernel
theorem dX8_read_97 : decode cX8_read 97 = .ok (.ifCond .ne 5, 3) := by decide +kernel
theorem dX8_read_100 : decode cX8_read 100 = .ok (.iconst 0, 1) := by decide +kernel
theorem dX8_read_101 : decode cX8_read 101 = .ok (.ireturn, 1) := by decide +kernel
theorem dX8_read_102 : decode cX8_read 102 = .ok (.aload_n 0, 1) := by decide +kernel
theorem dX8_read_103 : decode cX8_read 103 = .ok (.getfield 12, 3) := by decide +kernel
theorem dX8_read_106 : decode cX8_read 106 = .ok (.getfield 61, 3) := by decide +kernel
theorem dX8_read_109 : decode cX8_read 109 = .ok (.iload_n 1, 1) := by decide +kernel
theorem dX8_read_110 : decode cX8_read 110 = .ok (.aload_n 0, 1) := by decide +kernel
theorem dX8_read_111 : decode cX8_read 111 = .ok (.getfield 12, 3) := by decide +kernel
theorem dX8_read_114 : decode cX8_read 114 = .ok (.getfield 54, 3) := by decide +kernel
theorem dX8_read_117 : decode cX8_read 117 = .ok (.iastore, 1) := by decide +kernel
theorem dX8_read_118 : decode cX8_read 118 = .ok (.aload_n 0, 1) := by decide +kernel
theorem dX8_read_119 : decode cX8_read 119 = .ok (.getfield 18, 3) := by decide +kernel
theorem dX8_read_122 : decode cX8_read 122 = .ok (.ldc 64, 2) := by decide +kernel
theorem dX8_read_124 : decode cX8_read 124 = .ok (.invokevirtual 36, 3) := by decide +kernel
theorem dX8_read_127 : decode cX8_read 127 = .ok (.ifCond .eq 13, 3) := by decide +kernel
theorem dX8_read_130 : decode cX8_read 130 = .ok (.aload_n 0, 1) := by decide +kernel
theorem dX8_read_131 : decode cX8_read 131 = .ok (.iconst 0, 1) := by decide +kernel
theorem dX8_read_132 : decode cX8_read 132 = .ok (.invokevirtual 66, 3) := by decide +kernel
theorem dX8_read_135 : decode cX8_read 135 = .ok (.ifCond .ne 5, 3) := by decide +kernel
theorem dX8_read_138 : decode cX8_read 138 = .ok (.iconst 0, 1) := by decide +kernel
theorem dX8_read_139 : decode cX8_read 139 = .ok (.ireturn, 1) := by decide +kernel
theorem dX8_read_140 : decode cX8_read 140 = .ok (.aload_n 0, 1) := by decide +kernel
theorem dX8_read_141 : decode cX8_read 141 = .ok (.getfield 12, 3) := by decide +kernel
theorem dX8_read_144 : decode cX8_read 144 = .ok (.getfield 70, 3) := by decide +kernel
theorem dX8_read_147 : decode cX8_read 147 = .ok (.iload_n 1, 1) := by decide +kernel
theorem dX8_read_148 : decode cX8_read 148 = .ok (.aload_n 0, 1) := by decide +kernel
theorem dX8_read_149 : decode cX8_read 149 = .ok (.getfield 12, 3) := by decide +kernel
theorem dX8_read_152 : decode cX8_read 152 = .ok (.getfield 54, 3) := by decide +kernel
theorem dX8_read_155 : decode cX8_read 155 = .ok (.iastore, 1) := by decide +kernel
theorem dX8_read_156 : decode cX8_read 156 = .ok (.aload_n 0, 1) := by decide +kernel
theorem dX8_read_157 : decode cX8_read 157 = .ok (.getfield 12, 3) := by decide +kernel
theorem dX8_read_160 : decode cX8_read 160 = .ok (.iload_n 1, 1) := by decide +kernel
theorem dX8_read_161 : decode cX8_read 161 = .ok (.iconst 1, 1) := by decide +kernel
theorem dX8_read_162 : decode cX8_read 162 = .ok (.iadd, 1) := by decide +kernel
theorem dX8_read_163 : decode cX8_read 163 = .ok (.putfield 73, 3) := by decide +kernel
theorem dX8_read_166 : decode cX8_read 166 = .ok (.aload_n 0, 1) := by decide +kernel
theorem dX8_read_167 : decode cX8_read 167 = .ok (.getfield 18, 3) := by decide +kernel
theorem dX8_read_170 : decode cX8_read 170 = .ok (.invokevirtual 76, 3) := by decide +kernel
theorem dX8_read_173 : decode cX8_read 173 = .ok (.iconst (-1), 1) := by decide +kernel
theorem dX8_read_174 : decode cX8_read 174 = .ok (.if_icmp .ne 5, 3) := by decide +kernel
theorem dX8_read_177 : decode cX8_read 177 = .ok (.iconst 1, 1) := by decide +kernel
theorem dX8_read_178 : decode cX8_read 178 = .ok (.ireturn, 1) := by decide +kernel
theorem dX8_read_179 : decode cX8_read 179 = .ok (.aload_n 0, 1) := by decide +kernel
theorem dX8_read_180 : decode cX8_read 180 = .ok (.getfield 18, 3) := by decide +kernel
theorem dX8_read_183 : decode cX8_read 183 = .ok (.bipush 59, 2) := by decide +kernel
theorem dX8_read_185 : decode cX8_read 185 = .ok (.invokevirtual 80, 3) := by decide +kernel
theorem dX8_read_188 : decode cX8_read 188 = .ok (.ifCond .ne 19, 3) := by decide +kernel
theorem dX8_read_191 : decode cX8_read 191 = .ok (.aload_n 0, 1) := by decide +kernel
theorem dX8_read_192 : decode cX8_read 192 = .ok (.getfield 18, 3) := by decide +kernel
theorem dX8_read_195 : decode cX8_read 195 = .ok (.aload_n 0, 1) := by decide +kernel
theorem dX8_read_196 : decode cX8_read 196 = .ok (.getfield 18, 3) := by decide +kernel
theorem dX8_read_199 : decode cX8_read 199 = .ok (.getfield 40, 3) := by decide +kernel
theorem dX8_read_202 : decode cX8_read 202 = .ok (.iconst 0, 1) := by decide +kernel
theorem dX8_read_203 : decode cX8_read 203 = .ok (.invokevirtual 43, 3) := by decide +kernel
theorem dX8_read_206 : decode cX8_read 206 = .ok (.ireturn, 1) := by decide +kernel
theorem dX8_read_207 : decode cX8_read 207 = .ok (.iinc 1 1, 3) := by decide +kernel
theorem dX8_read_210 : decode cX8_read 210 = .ok (.goto (-189), 3) := by decide +kernel
theorem dX8_read_213 : decode cX8_read 213 = .ok (.iconst 0, 1) := by decide +kernel
theorem dX8_read_214 : decode cX8_read 214 = .ok (.ireturn, 1) := by decide +kernel
theorem dX8_readTest_0 : decode cX8_readTest 0 = .ok (.aload_n 0, 1) := by decide +kernel
theorem dX8_readTest_1 : decode cX8_readTest 1 = .ok (.iload_n 1, 1) := by decide +kernel
theorem dX8_readTest_2 : decode cX8_readTest 2 = .ok (.invokevirtual 83, 3) := by decide +kernel
theorem dX8_readTest_5 : decode cX8_readTest 5 = .ok (.ifCond .ne 5, 3) := by decide +kernel
theorem dX8_readTest_8 : decode cX8_readTest 8 = .ok (.iconst 0, 1) := by decide +kernel
theorem dX8_readTest_9 : decode cX8_readTest 9 = .ok (.ireturn, 1) := by decide +kernel
theorem dX8_readTest_10 : decode cX8_readTest 10 = .ok (.iconst 0, 1) := by decide +kernel
theorem dX8_readTest_11 : decode cX8_readTest 11 = .ok (.istore_n 2, 1) := by decide +kernel
theorem dX8_readTest_12 : decode cX8_readTest 12 = .ok (.iconst 0, 1) := by decide +kernel
theorem dX8_readTest_13 : decode cX8_readTest 13 = .ok (.istore_n 3, 1) := by decide +kernel
theorem dX8_readTest_14 : decode cX8_readTest 14 = .ok (.iload_n 3, 1) := by decide +kernel
theorem dX8_readTest_15 : decode cX8_readTest 15 = .ok (.sipush 400, 3) := by decide +kernel
theorem dX8_readTest_18 : decode cX8_readTest 18 = .ok (.if_icmp .ge 89, 3) := by decide +kernel
theorem dX8_readTest_21 : decode cX8_readTest 21 = .ok (.aload_n 0, 1) := by decide +kernel
theorem dX8_readTest_22 : decode cX8_readTest 22 = .ok (.getfield 18, 3) := by decide +kernel
theorem dX8_readTest_25 : decode cX8_readTest 25 = .ok (.ldc 86, 2) := by decide +kernel
theorem dX8_readTest_27 : decode cX8_readTest 27 = .ok (.invokevirtual 36, 3) := by decide +kernel
theorem dX8_readTest_30 : decode cX8_readTest 30 = .ok (.istore 4, 2) := by decide +kernel
theorem dX8_readTest_32 : decode cX8_readTest 32 = .ok (.iload 4, 2) := by decide +kernel
theorem dX8_readTest_34 : decode cX8_readTest 34 = .ok (.ifCond .ne 18, 3) := by decide +kernel
theorem dX8_readTest_37 : decode cX8_readTest 37 = .ok (.aload_n 0, 1) := by decide +kernel
theorem dX8_readTest_38 : decode cX8_readTest 38 = .ok (.getfield 18, 3) := by decide +kernel
theorem dX8_readTest_41 : decode cX8_readTest 41 = .ok (.ldc 88, 2) := by decide +kernel
theorem dX8_readTest_43 : decode cX8_readTest 43 = .ok (.invokevirtual 36, 3) := by decide +kernel
theorem dX8_readTest_46 : decode cX8_readTest 46 = .ok (.ifCond .ne 6, 3) := by decide +kernel
theorem dX8_readTest_49 : decode cX8_readTest 49 = .ok (.goto 58, 3) := by decide +kernel
theorem dX8_readTest_52 : decode cX8_readTest 52 = .ok (.iload 4, 2) := by decide +kernel
theorem dX8_readTest_54 : decode cX8_readTest 54 = .ok (.ifCond .ne 17, 3) := by decide +kernel
theorem dX8_readTest_57 : decode cX8_readTest 57 = .ok (.iload_n 2, 1) := by decide +kernel
theorem dX8_readTest_58 : decode cX8_readTest 58 = .ok (.ifCond .eq 13, 3) := by decide +kernel
theorem dX8_readTest_61 : decode cX8_readTest 61 = .ok (.aload_n 0, 1) := by decide +kernel
theorem dX8_readTest_62 : decode cX8_readTest 62 = .ok (.getfield 12, 3) := by decide +kernel
theorem dX8_readTest_65 : decode cX8_readTest 65 = .ok (.bipush 14, 2) := by decide +kernel
theorem dX8_readTest_67 : decode cX8_readTest 67 = .ok (.iconst 0, 1) := by decide +kernel
theorem dX8_readTest_68 : decode cX8_readTest 68 = .ok (.invokevirtual 90, 3) := by decide +kernel
theorem dX8_readTest_71 : decode cX8_readTest 71 = .ok (.aload_n 0, 1) := by decide +kernel
theorem dX8_readTest_72 : decode cX8_readTest 72 = .ok (.iload_n 1, 1) := by decide +kernel
theorem dX8_readTest_73 : decode cX8_readTest 73 = .ok (.invokevirtual 83, 3) := by decide +kernel
theorem dX8_readTest_76 : decode cX8_readTest 76 = .ok (.ifCond .ne 5, 3) := by decide +kernel
theorem dX8_readTest_79 : decode cX8_readTest 79 = .ok (.iconst 0, 1) := by decide +kernel
theorem dX8_readTest_80 : decode cX8_readTest 80 = .ok (.ireturn, 1) := by decide +kernel
theorem dX8_readTest_81 : decode cX8_readTest 81 = .ok (.iload 4, 2) := by decide +kernel
theorem dX8_readTest_83 : decode cX8_readTest 83 = .ok (.ifCond .eq 16, 3) := by decide +kernel
theorem dX8_readTest_86 : decode cX8_readTest 86 = .ok (.aload_n 0, 1) := by decide +kernel
theorem dX8_readTest_87 : decode cX8_readTest 87 = .ok (.getfield 12, 3) := by decide +kernel
theorem dX8_readTest_90 : decode cX8_readTest 90 = .ok (.bipush 13, 2) := by decide +kernel
theorem dX8_readTest_92 : decode cX8_readTest 92 = .ok (.iconst 0, 1) := by decide +kernel
theorem dX8_readTest_93 : decode cX8_readTest 93 = .ok (.invokevirtual 90, 3) := by decide +kernel
theorem dX8_readTest_96 : decode cX8_readTest 96 = .ok (.goto 5, 3) := by decide +kernel
theorem dX8_readTest_99 : decode cX8_readTest 99 = .ok (.iconst 1, 1) := by decide +kernel
theorem dX8_readTest_100 : decode cX8_readTest 100 = .ok (.istore_n 2, 1) := by decide +kernel
theorem dX8_readTest_101 : decode cX8_readTest 101 = .ok (.iinc 3 1, 3) := by decide +kernel
theorem dX8_readTest_104 : decode cX8_readTest 104 = .ok (.goto (-90), 3) := by decide +kernel
theorem dX8_readTest_107 : decode cX8_readTest 107 = .ok (.iload_n 2, 1) := by decide +kernel
theorem dX8_readTest_108 : decode cX8_readTest 108 = .ok (.ifCond .eq 13, 3) := by decide +kernel
theorem dX8_readTest_111 : decode cX8_readTest 111 = .ok (.aload_n 0, 1) := by decide +kernel
theorem dX8_readTest_112 : decode cX8_readTest 112 = .ok (.getfield 12, 3) := by decide +kernel
theorem dX8_readTest_115 : decode cX8_readTest 115 = .ok (.bipush 14, 2) := by decide +kernel
theorem dX8_readTest_117 : decode cX8_readTest 117 = .ok (.iconst 0, 1) := by decide +kernel
theorem dX8_readTest_118 : decode cX8_readTest 118 = .ok (.invokevirtual 90, 3) := by decide +kernel
theorem dX8_readTest_121 : decode cX8_readTest 121 = .ok (.iconst 1, 1) := by decide +kernel
theorem dX8_readTest_122 : decode cX8_readTest 122 = .ok (.ireturn, 1) := by decide +kernel
theorem dX8_readFact_0 : decode cX8_readFact 0 = .ok (.aload_n 0, 1) := by decide +kernel
theorem dX8_readFact_1 : decode cX8_readFact 1 = .ok (.getfield 18, 3) := by decide +kernel
theorem dX8_readFact_4 : decode cX8_readFact 4 = .ok (.ldc 94, 2) := by decide +kernel
theorem dX8_readFact_6 : decode cX8_readFact 6 = .ok (.invokevirtual 36, 3) := by decide +kernel
theorem dX8_readFact_9 : decode cX8_readFact 9 = .ok (.istore_n 2, 1) := by decide +kernel
theorem dX8_readFact_10 : decode cX8_readFact 10 = .ok (.iload_n 2, 1) := by decide +kernel
theorem dX8_readFact_11 : decode cX8_readFact 11 = .ok (.ifCond .ne 15, 3) := by decide +kernel
theorem dX8_readFact_14 : decode cX8_readFact 14 = .ok (.aload_n 0, 1) := by decide +kernel
theorem dX8_readFact_15 : decode cX8_readFact 15 = .ok (.getfield 18, 3) := by decide +kernel
theorem dX8_readFact_18 : decode cX8_readFact 18 = .ok (.bipush 91, 2) := by decide +kernel
theorem dX8_readFact_20 : decode cX8_readFact 20 = .ok (.invokevirtual 80, 3) := by decide +kernel
theorem dX8_readFact_23 : decode cX8_readFact 23 = .ok (.ifCond .eq 94, 3) := by decide +kernel
theorem dX8_readFact_26 : decode cX8_readFact 26 = .ok (.iload_n 1, 1) := by decide +kernel
theorem dX8_readFact_27 : decode cX8_readFact 27 = .ok (.bipush 10, 2) := by decide +kernel
theorem dX8_readFact_29 : decode cX8_readFact 29 = .ok (.if_icmp .lt 19, 3) := by decide +kernel
theorem dX8_readFact_32 : decode cX8_readFact 32 = .ok (.aload_n 0, 1) := by decide +kernel
theorem dX8_readFact_33 : decode cX8_readFact 33 = .ok (.getfield 18, 3) := by decide +kernel
theorem dX8_readFact_36 : decode cX8_readFact 36 = .ok (.aload_n 0, 1) := by decide +kernel
theorem dX8_readFact_37 : decode cX8_readFact 37 = .ok (.getfield 18, 3) := by decide +kernel
theorem dX8_readFact_40 : decode cX8_readFact 40 = .ok (.getfield 47, 3) := by decide +kernel
theorem dX8_readFact_43 : decode cX8_readFact 43 = .ok (.iconst 2, 1) := by decide +kernel
theorem dX8_readFact_44 : decode cX8_readFact 44 = .ok (.invokevirtual 43, 3) := by decide +kernel
theorem dX8_readFact_47 : decode cX8_readFact 47 = .ok (.ireturn, 1) := by decide +kernel
theorem dX8_readFact_48 : decode cX8_readFact 48 = .ok (.iload_n 2, 1) := by decide +kernel
theorem dX8_readFact_49 : decode cX8_readFact 49 = .ok (.ifCond .eq 22, 3) := by decide +kernel
theorem dX8_readFact_52 : decode cX8_readFact 52 = .ok (.aload_n 0, 1) := by decide +kernel
theorem dX8_readFact_53 : decode cX8_readFact 53 = .ok (.iload_n 1, 1) := by decide +kernel
theorem dX8_readFact_54 : decode cX8_readFact 54 = .ok (.iconst 1, 1) := by decide +kernel
theorem dX8_readFact_55 : decode cX8_readFact 55 = .ok (.iadd, 1) := by decide +kernel
theorem dX8_readFact_56 : decode cX8_readFact 56 = .ok (.invokevirtual 83, 3) := by decide +kernel
theorem dX8_readFact_59 : decode cX8_readFact 59 = .ok (.istore_n 3, 1) := by decide +kernel
theorem dX8_readFact_60 : decode cX8_readFact 60 = .ok (.aload_n 0, 1) := by decide +kernel
theorem dX8_readFact_61 : decode cX8_readFact 61 = .ok (.getfield 12, 3) := by decide +kernel
theorem dX8_readFact_64 : decode cX8_readFact 64 = .ok (.iconst 2, 1) := by decide +kernel
theorem dX8_readFact_65 : decode cX8_readFact 65 = .ok (.iconst 0, 1) := by decide +kernel
theorem dX8_readFact_66 : decode cX8_readFact 66 = .ok (.invokevirtual 90, 3) := by decide +kernel
theorem dX8_readFact_69 : decode cX8_readFact 69 = .ok (.iload_n 3, 1) := by decide +kernel
theorem dX8_readFact_70 : decode cX8_readFact 70 = .ok (.ireturn, 1) := by decide +kernel
theorem dX8_readFact_71 : decode cX8_readFact 71 = .ok (.aload_n 0, 1) := by decide +kernel
theorem dX8_readFact_72 : decode cX8_readFact 72 = .ok (.iload_n 1, 1) := by decide +kernel
theorem dX8_readFact_73 : decode cX8_readFact 73 = .ok (.iconst 1, 1) := by decide +kernel
theorem dX8_readFact_74 : decode cX8_readFact 74 = .ok (.iadd, 1) := by decide +kernel
theorem dX8_readFact_75 : decode cX8_readFact 75 = .ok (.invokevirtual 66, 3) := by decide +kernel
theorem dX8_readFact_78 : decode cX8_readFact 78 = .ok (.ifCond .eq 37, 3) := by decide +kernel
theorem dX8_readFact_81 : decode cX8_readFact 81 = .ok (.aload_n 0, 1) := by decide +kernel
theorem dX8_readFact_82 : decode cX8_readFact 82 = .ok (.getfield 18, 3) := by decide +kernel
theorem dX8_readFact_85 : decode cX8_readFact 85 = .ok (.bipush 93, 2) := by decide +kernel
theorem dX8_readFact_87 : decode cX8_readFact 87 = .ok (.invokevirtual 80, 3) := by decide +kernel
theorem dX8_readFact_90 : decode cX8_readFact 90 = .ok (.ifCond .ne 21, 3) := by decide +kernel
theorem dX8_readFact_93 : decode cX8_readFact 93 = .ok (.aload_n 0, 1) := by decide +kernel
theorem dX8_readFact_94 : decode cX8_readFact 94 = .ok (.getfield 18, 3) := by decide +kernel
theorem dX8_readFact_97 : decode cX8_readFact 97 = .ok (.aload_n 0, 1) := by decide +kernel
theorem dX8_readFact_98 : decode cX8_readFact 98 = .ok (.getfield 18, 3) := by decide +kernel
theorem dX8_readFact_101 : decode cX8_readFact 101 = .ok (.getfield 40, 3) := by decide +kernel
theorem dX8_readFact_104 : decode cX8_readFact 104 = .ok (.iconst 0, 1) := by decide +kernel
theorem dX8_readFact_105 : decode cX8_readFact 105 = .ok (.invokevirtual 43, 3) := by decide +kernel
theorem dX8_readFact_108 : decode cX8_readFact 108 = .ok (.ifCond .eq 7, 3) := by decide +kernel
theorem dX8_readFact_111 : decode cX8_readFact 111 = .ok (.iconst 1, 1) := by decide +kernel
theorem dX8_readFact_112 : decode cX8_readFact 112 = .ok (.goto 4, 3) := by decide +kernel
theorem dX8_readFact_115 : decode cX8_readFact 115 = .ok (.iconst 0, 1) := by decide +kernel
theorem dX8_readFact_116 : decode cX8_readFact 116 = .ok (.ireturn, 1) := by decide +kernel
theorem dX8_readFact_117 : decode cX8_readFact 117 = .ok (.aload_n 0, 1) := by decide +kernel
theorem dX8_readFact_118 : decode cX8_readFact 118 = .ok (.invokevirtual 57, 3) := by decide +kernel
theorem dX8_readFact_121 : decode cX8_readFact 121 = .ok (.ifCond .ne 5, 3) := by decide +kernel
theorem dX8_readFact_124 : decode cX8_readFact 124 = .ok (.iconst 0, 1) := by decide +kernel
theorem dX8_readFact_125 : decode cX8_readFact 125 = .ok (.ireturn, 1) := by decide +kernel
theorem dX8_readFact_126 : decode cX8_readFact 126 = .ok (.aload_n 0, 1) := by decide +kernel
theorem dX8_readFact_127 : decode cX8_readFact 127 = .ok (.invokevirtual 96, 3) := by decide +kernel
theorem dX8_readFact_130 : decode cX8_readFact 130 = .ok (.istore_n 3, 1) := by decide +kernel
theorem dX8_readFact_131 : decode cX8_readFact 131 = .ok (.iload_n 3, 1) := by decide +kernel
theorem dX8_readFact_132 : decode cX8_readFact 132 = .ok (.iconst (-1), 1) := by decide +kernel
theorem dX8_readFact_133 : decode cX8_readFact 133 = .ok (.if_icmp .ne 19, 3) := by decide +kernel
theorem dX8_readFact_136 : decode cX8_readFact 136 = .ok (.aload_n 0, 1) := by decide +kernel
theorem dX8_readFact_137 : decode cX8_readFact 137 = .ok (.getfield 18, 3) := by decide +kernel
theorem dX8_readFact_140 : decode cX8_readFact 140 = .ok (.aload_n 0, 1) := by decide +kernel
theorem dX8_readFact_141 : decode cX8_readFact 141 = .ok (.getfield 18, 3) := by decide +kernel
theorem dX8_readFact_144 : decode cX8_readFact 144 = .ok (.getfield 40, 3) := by decide +kernel
theorem dX8_readFact_147 : decode cX8_readFact 147 = .ok (.iconst 0, 1) := by decide +kernel
theorem dX8_readFact_148 : decode cX8_readFact 148 = .ok (.invokevirtual 43, 3) := by decide +kernel
theorem dX8_readFact_151 : decode cX8_readFact 151 = .ok (.ireturn, 1) := by decide +kernel
theorem dX8_readFact_152 : decode cX8_readFact 152 = .ok (.aload_n 0, 1) := by decide +kernel
theorem dX8_readFact_153 : decode cX8_readFact 153 = .ok (.aload_n 0, 1) := by decide +kernel
theorem dX8_readFact_154 : decode cX8_readFact 154 = .ok (.getfield 18, 3) := by decide +kernel
theorem dX8_readFact_157 : decode cX8_readFact 157 = .ok (.getfield 47, 3) := by decide +kernel
theorem dX8_readFact_160 : decode cX8_readFact 160 = .ok (.invokevirtual 99, 3) := by decide +kernel
theorem dX8_readFact_163 : decode cX8_readFact 163 = .ok (.ifCond .eq 10, 3) := by decide +kernel
theorem dX8_readFact_166 : decode cX8_readFact 166 = .ok (.aload_n 0, 1) := by decide +kernel
theorem dX8_readFact_167 : decode cX8_readFact 167 = .ok (.invokevirtual 57, 3) := by decide +kernel
theorem dX8_readFact_170 : decode cX8_readFact 170 = .ok (.ifCond .ne 5, 3) := by decide +kernel
theorem dX8_readFact_173 : decode cX8_readFact 173 = .ok (.iconst 0, 1) := by decide +kernel
theorem dX8_readFact_174 : decode cX8_readFact 174 = .ok (.ireturn, 1) := by decide +kernel
theorem dX8_readFact_175 : decode cX8_readFact 175 = .ok (.aload_n 0, 1) := by decide +kernel
theorem dX8_readFact_176 : decode cX8_readFact 176 = .ok (.getfield 12, 3) := by decide +kernel
theorem dX8_readFact_179 : decode cX8_readFact 179 = .ok (.iload_n 3, 1) := by decide +kernel
theorem dX8_readFact_180 : decode cX8_readFact 180 = .ok (.iconst 0, 1) := by decide +kernel
theorem dX8_readFact_181 : decode cX8_readFact 181 = .ok (.invokevirtual 90, 3) := by decide +kernel
theorem dX8_readFact_184 : decode cX8_readFact 184 = .ok (.iconst 1, 1) := by decide +kernel
theorem dX8_readFact_185 : decode cX8_readFact 185 = .ok (.ireturn, 1) := by decide +kernel
theorem dX8_acceptComparing_0 : decode cX8_acceptComparing 0 = .ok (.aload_n 0, 1) := by decide +kernel
theorem dX8_acceptComparing_1 : decode cX8_acceptComparing 1 = .ok (.getfield 18, 3) := by decide +kernel
theorem dX8_acceptComparing_4 : decode cX8_acceptComparing 4 = .ok (.bipush 61, 2) := by decide +kernel
theorem dX8_acceptComparing_6 : decode cX8_acceptComparing 6 = .ok (.invokevirtual 80, 3) := by decide +kernel
theorem dX8_acceptComparing_9 : decode cX8_acceptComparing 9 = .ok (.ifCond .eq 6, 3) := by decide +kernel
theorem dX8_acceptComparing_12 : decode cX8_acceptComparing 12 = .ok (.bipush 10, 2) := by decide +kernel
theorem dX8_acceptComparing_14 : decode cX8_acceptComparing 14 = .ok (.ireturn, 1) := by decide +kernel
theorem dX8_acceptComparing_15 : decode cX8_acceptComparing 15 = .ok (.aload_n 0, 1) := by decide +kernel
theorem dX8_acceptComparing_16 : decode cX8_acceptComparing 16 = .ok (.getfield 18, 3) := by decide +kernel
theorem dX8_acceptComparing_19 : decode cX8_acceptComparing 19 = .ok (.bipush 60, 2) := by decide +kernel
theorem dX8_acceptComparing_21 : decode cX8_acceptComparing 21 = .ok (.invokevirtual 80, 3) := by decide +kernel
theorem dX8_acceptComparing_24 : decode cX8_acceptComparing 24 = .ok (.istore_n 1, 1) := by decide +kernel
theorem dX8_acceptComparing_25 : decode cX8_acceptComparing 25 = .ok (.iload_n 1, 1) := by decide +kernel
theorem dX8_acceptComparing_26 : decode cX8_acceptComparing 26 = .ok (.ifCond .ne 17, 3) := by decide +kernel
theorem dX8_acceptComparing_29 : decode cX8_acceptComparing 29 = .ok (.aload_n 0, 1) := by decide +kernel
theorem dX8_acceptComparing_30 : decode cX8_acceptComparing 30 = .ok (.getfield 18, 3) := by decide +kernel
theorem dX8_acceptComparing_33 : decode cX8_acceptComparing 33 = .ok (.bipush 62, 2) := by decide +kernel
theorem dX8_acceptComparing_35 : decode cX8_acceptComparing 35 = .ok (.invokevirtual 80, 3) := by decide +kernel
theorem dX8_acceptComparing_38 : decode cX8_acceptComparing 38 = .ok (.ifCond .ne 5, 3) := by decide +kernel
theorem dX8_acceptComparing_41 : decode cX8_acceptComparing 41 = .ok (.iconst (-1), 1) := by decide +kernel
theorem dX8_acceptComparing_42 : decode cX8_acceptComparing 42 = .ok (.ireturn, 1) := by decide +kernel
theorem dX8_acceptComparing_43 : decode cX8_acceptComparing 43 = .ok (.aload_n 0, 1) := by decide +kernel
theorem dX8_acceptComparing_44 : decode cX8_acceptComparing 44 = .ok (.getfield 18, 3) := by decide +kernel
theorem dX8_acceptComparing_47 : decode cX8_acceptComparing 47 = .ok (.bipush 61, 2) := by decide +kernel
theorem dX8_acceptComparing_49 : decode cX8_acceptComparing 49 = .ok (.invokevirtual 102, 3) := by decide +kernel
theorem dX8_acceptComparing_52 : decode cX8_acceptComparing 52 = .ok (.ifCond .eq 15, 3) := by decide +kernel
theorem dX8_acceptComparing_55 : decode cX8_acceptComparing 55 = .ok (.iload_n 1, 1) := by decide +kernel
theorem dX8_acceptComparing_56 : decode cX8_acceptComparing 56 = .ok (.ifCond .eq 8, 3) := by decide +kernel
theorem dX8_acceptComparing_59 : decode cX8_acceptComparing 59 = .ok (.bipush 9, 2) := by decide +kernel
theorem dX8_acceptComparing_61 : decode cX8_acceptComparing 61 = .ok (.goto 5, 3) := by decide +kernel
theorem dX8_acceptComparing_64 : decode cX8_acceptComparing 64 = .ok (.bipush 11, 2) := by decide +kernel
theorem dX8_acceptComparing_66 : decode cX8_acceptComparing 66 = .ok (.ireturn, 1) := by decide +kernel
theorem dX8_acceptComparing_67 : decode cX8_acceptComparing 67 = .ok (.iload_n 1, 1) := by decide +kernel
theorem dX8_acceptComparing_68 : decode cX8_acceptComparing 68 = .ok (.ifCond .eq 8, 3) := by decide +kernel
theorem dX8_acceptComparing_71 : decode cX8_acceptComparing 71 = .ok (.bipush 8, 2) := by decide +kernel
theorem dX8_acceptComparing_73 : decode cX8_acceptComparing 73 = .ok (.goto 5, 3) := by decide +kernel
theorem dX8_acceptComparing_76 : decode cX8_acceptComparing 76 = .ok (.bipush 12, 2) := by decide +kernel
theorem dX8_acceptComparing_78 : decode cX8_acceptComparing 78 = .ok (.ireturn, 1) := by decide +kernel
theorem dX8_readSum_0 : decode cX8_readSum 0 = .ok (.aload_n 0, 1) := by decide +kernel
theorem dX8_readSum_1 : decode cX8_readSum 1 = .ok (.invokevirtual 105, 3) := by decide +kernel
theorem dX8_readSum_4 : decode cX8_readSum 4 = .ok (.ifCond .ne 5, 3) := by decide +kernel
theorem dX8_readSum_7 : decode cX8_readSum 7 = .ok (.iconst 0, 1) := by decide +kernel
theorem dX8_readSum_8 : decode cX8_readSum 8 = .ok (.ireturn, 1) := by decide +kernel
theorem dX8_readSum_9 : decode cX8_readSum 9 = .ok (.iconst (-1), 1) := by decide +kernel
theorem dX8_readSum_10 : decode cX8_readSum 10 = .ok (.istore_n 1, 1) := by decide +kernel
theorem dX8_readSum_11 : decode cX8_readSum 11 = .ok (.iconst 0, 1) := by decide +kernel
theorem dX8_readSum_12 : decode cX8_readSum 12 = .ok (.istore_n 2, 1) := by decide +kernel
theorem dX8_readSum_13 : decode cX8_readSum 13 = .ok (.iload_n 2, 1) := by decide +kernel
theorem dX8_readSum_14 : decode cX8_readSum 14 = .ok (.sipush 400, 3) := by decide +kernel
theorem dX8_readSum_17 : decode cX8_readSum 17 = .ok (.if_icmp .ge 86, 3) := by decide +kernel
theorem dX8_readSum_20 : decode cX8_readSum 20 = .ok (.aload_n 0, 1) := by decide +kernel
theorem dX8_readSum_21 : decode cX8_readSum 21 = .ok (.invokevirtual 108, 3) := by decide +kernel
theorem dX8_readSum_24 : decode cX8_readSum 24 = .ok (.istore_n 3, 1) := by decide +kernel
theorem dX8_readSum_25 : decode cX8_readSum 25 = .ok (.iload_n 3, 1) := by decide +kernel
theorem dX8_readSum_26 : decode cX8_readSum 26 = .ok (.iconst (-1), 1) := by decide +kernel
theorem dX8_readSum_27 : decode cX8_readSum 27 = .ok (.if_icmp .ne 6, 3) := by decide +kernel
theorem dX8_readSum_30 : decode cX8_readSum 30 = .ok (.goto 73, 3) := by decide +kernel
theorem dX8_readSum_33 : decode cX8_readSum 33 = .ok (.iload_n 3, 1) := by decide +kernel
theorem dX8_readSum_34 : decode cX8_readSum 34 = .ok (.iconst 3, 1) := by decide +kernel
theorem dX8_readSum_35 : decode cX8_readSum 35 = .ok (.if_icmp .eq 8, 3) := by decide +kernel
theorem dX8_readSum_38 : decode cX8_readSum 38 = .ok (.iload_n 3, 1) := by decide +kernel
theorem dX8_readSum_39 : decode cX8_readSum 39 = .ok (.iconst 4, 1) := by decide +kernel
theorem dX8_readSum_40 : decode cX8_readSum 40 = .ok (.if_icmp .ne 7, 3) := by decide +kernel
theorem dX8_readSum_43 : decode cX8_readSum 43 = .ok (.iconst 1, 1) := by decide +kernel
theorem dX8_readSum_44 : decode cX8_readSum 44 = .ok (.goto 4, 3) := by decide +kernel
theorem dX8_readSum_47 : decode cX8_readSum 47 = .ok (.iconst 0, 1) := by decide +kernel
theorem dX8_readSum_48 : decode cX8_readSum 48 = .ok (.istore 4, 2) := by decide +kernel
theorem dX8_readSum_50 : decode cX8_readSum 50 = .ok (.iload 4, 2) := by decide +kernel
theorem dX8_readSum_52 : decode cX8_readSum 52 = .ok (.ifCond .eq 17, 3) := by decide +kernel
theorem dX8_readSum_55 : decode cX8_readSum 55 = .ok (.iload_n 1, 1) := by decide +kernel
theorem dX8_readSum_56 : decode cX8_readSum 56 = .ok (.iconst (-1), 1) := by decide +kernel
theorem dX8_readSum_57 : decode cX8_readSum 57 = .ok (.if_icmp .eq 12, 3) := by decide +kernel
theorem dX8_readSum_60 : decode cX8_readSum 60 = .ok (.aload_n 0, 1) := by decide +kernel
theorem dX8_readSum_61 : decode cX8_readSum 61 = .ok (.getfield 12, 3) := by decide +kernel
theorem dX8_readSum_64 : decode cX8_readSum 64 = .ok (.iload_n 1, 1) := by decide +kernel
theorem dX8_readSum_65 : decode cX8_readSum 65 = .ok (.iconst 0, 1) := by decide +kernel
theorem dX8_readSum_66 : decode cX8_readSum 66 = .ok (.invokevirtual 90, 3) := by decide +kernel
theorem dX8_readSum_69 : decode cX8_readSum 69 = .ok (.aload_n 0, 1) := by decide +kernel
theorem dX8_readSum_70 : decode cX8_readSum 70 = .ok (.invokevirtual 105, 3) := by decide +kernel
theorem dX8_readSum_73 : decode cX8_readSum 73 = .ok (.ifCond .ne 5, 3) := by decide +kernel
theorem dX8_readSum_76 : decode cX8_readSum 76 = .ok (.iconst 0, 1) := by decide +kernel
theorem dX8_readSum_77 : decode cX8_readSum 77 = .ok (.ireturn, 1) := by decide +kernel
theorem dX8_readSum_78 : decode cX8_readSum 78 = .ok (.iload 4, 2) := by decide +kernel
theorem dX8_readSum_80 : decode cX8_readSum 80 = .ok (.ifCond .eq 8, 3) := by decide +kernel
theorem dX8_readSum_83 : decode cX8_readSum 83 = .ok (.iload_n 3, 1) := by decide +kernel
theorem dX8_readSum_84 : decode cX8_readSum 84 = .ok (.istore_n 1, 1) := by decide +kernel
theorem dX8_readSum_85 : decode cX8_readSum 85 = .ok (.goto 12, 3) := by decide +kernel
theorem dX8_readSum_88 : decode cX8_readSum 88 = .ok (.aload_n 0, 1) := by decide +kernel
theorem dX8_readSum_89 : decode cX8_readSum 89 = .ok (.getfield 12, 3) := by decide +kernel
theorem dX8_readSum_92 : decode cX8_readSum 92 = .ok (.iload_n 3, 1) := by decide +kernel
theorem dX8_readSum_93 : decode cX8_readSum 93 = .ok (.iconst 0, 1) := by decide +kernel
theorem dX8_readSum_94 : decode cX8_readSum 94 = .ok (.invokevirtual 90, 3) := by decide +kernel
theorem dX8_readSum_97 : decode cX8_readSum 97 = .ok (.iinc 2 1, 3) := by decide +kernel
theorem dX8_readSum_100 : decode cX8_readSum 100 = .ok (.goto (-87), 3) := by decide +kernel
theorem dX8_readSum_103 : decode cX8_readSum 103 = .ok (.iload_n 1, 1) := by decide +kernel
theorem dX8_readSum_104 : decode cX8_readSum 104 = .ok (.iconst (-1), 1) := by decide +kernel
theorem dX8_readSum_105 : decode cX8_readSum 105 = .ok (.if_icmp .eq 12, 3) := by decide +kernel
theorem dX8_readSum_108 : decode cX8_readSum 108 = .ok (.aload_n 0, 1) := by decide +kernel
theorem dX8_readSum_109 : decode cX8_readSum 109 = .ok (.getfield 12, 3) := by decide +kernel
theorem dX8_readSum_112 : decode cX8_readSum 112 = .ok (.iload_n 1, 1) := by decide +kernel
theorem dX8_readSum_113 : decode cX8_readSum 113 = .ok (.iconst 0, 1) := by decide +kernel
theorem dX8_readSum_114 : decode cX8_readSum 114 = .ok (.invokevirtual 90, 3) := by decide +kernel
theorem dX8_readSum_117 : decode cX8_readSum 117 = .ok (.iconst 1, 1) := by decide +kernel
theorem dX8_readSum_118 : decode cX8_readSum 118 = .ok (.ireturn, 1) := by decide +kernel
theorem dX8_acceptOperator_0 : decode cX8_acceptOperator 0 = .ok (.aload_n 0, 1) := by decide +kernel
theorem dX8_acceptOperator_1 : decode cX8_acceptOperator 1 = .ok (.getfield 18, 3) := by decide +kernel
theorem dX8_acceptOperator_4 : decode cX8_acceptOperator 4 = .ok (.bipush 43, 2) := by decide +kernel
theorem dX8_acceptOperator_6 : decode cX8_acceptOperator 6 = .ok (.invokevirtual 80, 3) := by decide +kernel
theorem dX8_acceptOperator_9 : decode cX8_acceptOperator 9 = .ok (.ifCond .eq 5, 3) := by decide +kernel
theorem dX8_acceptOperator_12 : decode cX8_acceptOperator 12 = .ok (.iconst 3, 1) := by decide +kernel
theorem dX8_acceptOperator_13 : decode cX8_acceptOperator 13 = .ok (.ireturn, 1) := by decide +kernel
theorem dX8_acceptOperator_14 : decode cX8_acceptOperator 14 = .ok (.aload_n 0, 1) := by decide +kernel
theorem dX8_acceptOperator_15 : decode cX8_acceptOperator 15 = .ok (.getfield 18, 3) := by decide +kernel
theorem dX8_acceptOperator_18 : decode cX8_acceptOperator 18 = .ok (.bipush 45, 2) := by decide +kernel
theorem dX8_acceptOperator_20 : decode cX8_acceptOperator 20 = .ok (.invokevirtual 80, 3) := by decide +kernel
theorem dX8_acceptOperator_23 : decode cX8_acceptOperator 23 = .ok (.ifCond .eq 5, 3) := by decide +kernel
theorem dX8_acceptOperator_26 : decode cX8_acceptOperator 26 = .ok (.iconst 4, 1) := by decide +kernel
theorem dX8_acceptOperator_27 : decode cX8_acceptOperator 27 = .ok (.ireturn, 1) := by decide +kernel
theorem dX8_acceptOperator_28 : decode cX8_acceptOperator 28 = .ok (.aload_n 0, 1) := by decide +kernel
theorem dX8_acceptOperator_29 : decode cX8_acceptOperator 29 = .ok (.getfield 18, 3) := by decide +kernel
theorem dX8_acceptOperator_32 : decode cX8_acceptOperator 32 = .ok (.bipush 42, 2) := by decide +kernel
theorem dX8_acceptOperator_34 : decode cX8_acceptOperator 34 = .ok (.invokevirtual 80, 3) := by decide +kernel
theorem dX8_acceptOperator_37 : decode cX8_acceptOperator 37 = .ok (.ifCond .eq 5, 3) := by decide +kernel
theorem dX8_acceptOperator_40 : decode cX8_acceptOperator 40 = .ok (.iconst 5, 1) := by decide +kernel
theorem dX8_acceptOperator_41 : decode cX8_acceptOperator 41 = .ok (.ireturn, 1) := by decide +kernel
theorem dX8_acceptOperator_42 : decode cX8_acceptOperator 42 = .ok (.aload_n 0, 1) := by decide +kernel
theorem dX8_acceptOperator_43 : decode cX8_acceptOperator 43 = .ok (.getfield 18, 3) := by decide +kernel
theorem dX8_acceptOperator_46 : decode cX8_acceptOperator 46 = .ok (.bipush 47, 2) := by decide +kernel
theorem dX8_acceptOperator_48 : decode cX8_acceptOperator 48 = .ok (.invokevirtual 80, 3) := by decide +kernel
theorem dX8_acceptOperator_51 : decode cX8_acceptOperator 51 = .ok (.ifCond .eq 6, 3) := by decide +kernel
theorem dX8_acceptOperator_54 : decode cX8_acceptOperator 54 = .ok (.bipush 6, 2) := by decide +kernel
theorem dX8_acceptOperator_56 : decode cX8_acceptOperator 56 = .ok (.ireturn, 1) := by decide +kernel
theorem dX8_acceptOperator_57 : decode cX8_acceptOperator 57 = .ok (.aload_n 0, 1) := by decide +kernel
theorem dX8_acceptOperator_58 : decode cX8_acceptOperator 58 = .ok (.getfield 18, 3) := by decide +kernel
theorem dX8_acceptOperator_61 : decode cX8_acceptOperator 61 = .ok (.bipush 37, 2) := by decide +kernel
theorem dX8_acceptOperator_63 : decode cX8_acceptOperator 63 = .ok (.invokevirtual 80, 3) := by decide +kernel
theorem dX8_acceptOperator_66 : decode cX8_acceptOperator 66 = .ok (.ifCond .eq 8, 3) := by decide +kernel
theorem dX8_acceptOperator_69 : decode cX8_acceptOperator 69 = .ok (.bipush 7, 2) := by decide +kernel
theorem dX8_acceptOperator_71 : decode cX8_acceptOperator 71 = .ok (.goto 4, 3) := by decide +kernel
theorem dX8_acceptOperator_74 : decode cX8_acceptOperator 74 = .ok (.iconst (-1), 1) := by decide +kernel
theorem dX8_acceptOperator_75 : decode cX8_acceptOperator 75 = .ok (.ireturn, 1) := by decide +kernel
theorem dX8_readValue_0 : decode cX8_readValue 0 = .ok (.aload_n 0, 1) := by decide +kernel
theorem dX8_readValue_1 : decode cX8_readValue 1 = .ok (.getfield 18, 3) := by decide +kernel
theorem dX8_readValue_4 : decode cX8_readValue 4 = .ok (.invokevirtual 76, 3) := by decide +kernel
theorem dX8_readValue_7 : decode cX8_readValue 7 = .ok (.invokestatic 111, 3) := by decide +kernel
theorem dX8_readValue_10 : decode cX8_readValue 10 = .ok (.ifCond .eq 33, 3) := by decide +kernel
theorem dX8_readValue_13 : decode cX8_readValue 13 = .ok (.aload_n 0, 1) := by decide +kernel
theorem dX8_readValue_14 : decode cX8_readValue 14 = .ok (.getfield 18, 3) := by decide +kernel
theorem dX8_readValue_17 : decode cX8_readValue 17 = .ok (.iconst 0, 1) := by decide +kernel
theorem dX8_readValue_18 : decode cX8_readValue 18 = .ok (.ldc 114, 2) := by decide +kernel
theorem dX8_readValue_20 : decode cX8_readValue 20 = .ok (.invokevirtual 115, 3) := by decide +kernel
theorem dX8_readValue_23 : decode cX8_readValue 23 = .ok (.istore_n 1, 1) := by decide +kernel
theorem dX8_readValue_24 : decode cX8_readValue 24 = .ok (.iload_n 1, 1) := by decide +kernel
theorem dX8_readValue_25 : decode cX8_readValue 25 = .ok (.iconst (-1), 1) := by decide +kernel
theorem dX8_readValue_26 : decode cX8_readValue 26 = .ok (.if_icmp .ne 5, 3) := by decide +kernel
theorem dX8_readValue_29 : decode cX8_readValue 29 = .ok (.iconst 0, 1) := by decide +kernel
theorem dX8_readValue_30 : decode cX8_readValue 30 = .ok (.ireturn, 1) := by decide +kernel
theorem dX8_readValue_31 : decode cX8_readValue 31 = .ok (.aload_n 0, 1) := by decide +kernel
theorem dX8_readValue_32 : decode cX8_readValue 32 = .ok (.getfield 12, 3) := by decide +kernel
theorem dX8_readValue_35 : decode cX8_readValue 35 = .ok (.iconst 0, 1) := by decide +kernel
theorem dX8_readValue_36 : decode cX8_readValue 36 = .ok (.iload_n 1, 1) := by decide +kernel
theorem dX8_readValue_37 : decode cX8_readValue 37 = .ok (.invokevirtual 90, 3) := by decide +kernel
theorem dX8_readValue_40 : decode cX8_readValue 40 = .ok (.goto 43, 3) := by decide +kernel
theorem dX8_readValue_43 : decode cX8_readValue 43 = .ok (.aload_n 0, 1) := by decide +kernel
theorem dX8_readValue_44 : decode cX8_readValue 44 = .ok (.getfield 18, 3) := by decide +kernel
theorem dX8_readValue_47 : decode cX8_readValue 47 = .ok (.ldc 119, 2) := by decide +kernel
theorem dX8_readValue_49 : decode cX8_readValue 49 = .ok (.invokevirtual 121, 3) := by decide +kernel
theorem dX8_readValue_52 : decode cX8_readValue 52 = .ok (.istore_n 1, 1) := by decide +kernel
theorem dX8_readValue_53 : decode cX8_readValue 53 = .ok (.iload_n 1, 1) := by decide +kernel
theorem dX8_readValue_54 : decode cX8_readValue 54 = .ok (.iconst (-1), 1) := by decide +kernel
theorem dX8_readValue_55 : decode cX8_readValue 55 = .ok (.if_icmp .ne 19, 3) := by decide +kernel
theorem dX8_readValue_58 : decode cX8_readValue 58 = .ok (.aload_n 0, 1) := by decide +kernel
theorem dX8_readValue_59 : decode cX8_readValue 59 = .ok (.getfield 18, 3) := by decide +kernel
theorem dX8_readValue_62 : decode cX8_readValue 62 = .ok (.aload_n 0, 1) := by decide +kernel
theorem dX8_readValue_63 : decode cX8_readValue 63 = .ok (.getfield 18, 3) := by decide +kernel
theorem dX8_readValue_66 : decode cX8_readValue 66 = .ok (.getfield 40, 3) := by decide +kernel
theorem dX8_readValue_69 : decode cX8_readValue 69 = .ok (.iconst 0, 1) := by decide +kernel
theorem dX8_readValue_70 : decode cX8_readValue 70 = .ok (.invokevirtual 43, 3) := by decide +kernel
theorem dX8_readValue_73 : decode cX8_readValue 73 = .ok (.ireturn, 1) := by decide +kernel
theorem dX8_readValue_74 : decode cX8_readValue 74 = .ok (.aload_n 0, 1) := by decide +kernel
theorem dX8_readValue_75 : decode cX8_readValue 75 = .ok (.getfield 12, 3) := by decide +kernel
theorem dX8_readValue_78 : decode cX8_readValue 78 = .ok (.iconst 1, 1) := by decide +kernel
theorem dX8_readValue_79 : decode cX8_readValue 79 = .ok (.iload_n 1, 1) := by decide +kernel
theorem dX8_readValue_80 : decode cX8_readValue 80 = .ok (.invokevirtual 90, 3) := by decide +kernel
theorem dX8_readValue_83 : decode cX8_readValue 83 = .ok (.aload_n 0, 1) := by decide +kernel
theorem dX8_readValue_84 : decode cX8_readValue 84 = .ok (.aload_n 0, 1) := by decide +kernel
theorem dX8_readValue_85 : decode cX8_readValue 85 = .ok (.getfield 18, 3) := by decide +kernel
theorem dX8_readValue_88 : decode cX8_readValue 88 = .ok (.getfield 47, 3) := by decide +kernel
theorem dX8_readValue_91 : decode cX8_readValue 91 = .ok (.invokevirtual 99, 3) := by decide +kernel
theorem dX8_readValue_94 : decode cX8_readValue 94 = .ok (.ireturn, 1) := by decide +kernel
theorem dX8_isOnePartMore_0 : decode cX8_isOnePartMore 0 = .ok (.aload_n 0, 1) := by decide +kernel
theorem dX8_isOnePartMore_1 : decode cX8_isOnePartMore 1 = .ok (.dup, 1) := by decide +kernel
theorem dX8_isOnePartMore_2 : decode cX8_isOnePartMore 2 = .ok (.getfield 30, 3) := by decide +kernel
theorem dX8_isOnePartMore_5 : decode cX8_isOnePartMore 5 = .ok (.iconst 1, 1) := by decide +kernel
theorem dX8_isOnePartMore_6 : decode cX8_isOnePartMore 6 = .ok (.iadd, 1) := by decide +kernel
theorem dX8_isOnePartMore_7 : decode cX8_isOnePartMore 7 = .ok (.putfield 30, 3) := by decide +kernel
theorem dX8_isOnePartMore_10 : decode cX8_isOnePartMore 10 = .ok (.aload_n 0, 1) := by decide +kernel
theorem dX8_isOnePartMore_11 : decode cX8_isOnePartMore 11 = .ok (.getfield 30, 3) := by decide +kernel
theorem dX8_isOnePartMore_14 : decode cX8_isOnePartMore 14 = .ok (.bipush 60, 2) := by decide +kernel
theorem dX8_isOnePartMore_16 : decode cX8_isOnePartMore 16 = .ok (.if_icmp .le 15, 3) := by decide +kernel
theorem dX8_isOnePartMore_19 : decode cX8_isOnePartMore 19 = .ok (.aload_n 0, 1) := by decide +kernel
theorem dX8_isOnePartMore_20 : decode cX8_isOnePartMore 20 = .ok (.getfield 18, 3) := by decide +kernel
theorem dX8_isOnePartMore_23 : decode cX8_isOnePartMore 23 = .ok (.iload_n 1, 1) := by decide +kernel
theorem dX8_isOnePartMore_24 : decode cX8_isOnePartMore 24 = .ok (.iconst 3, 1) := by decide +kernel
theorem dX8_isOnePartMore_25 : decode cX8_isOnePartMore 25 = .ok (.invokevirtual 43, 3) := by decide +kernel
theorem dX8_isOnePartMore_28 : decode cX8_isOnePartMore 28 = .ok (.ifCond .eq 7, 3) := by decide +kernel
theorem dX8_isOnePartMore_31 : decode cX8_isOnePartMore 31 = .ok (.iconst 1, 1) := by decide +kernel
theorem dX8_isOnePartMore_32 : decode cX8_isOnePartMore 32 = .ok (.goto 4, 3) := by decide +kernel
theorem dX8_isOnePartMore_35 : decode cX8_isOnePartMore 35 = .ok (.iconst 0, 1) := by decide +kernel
theorem dX8_isOnePartMore_36 : decode cX8_isOnePartMore 36 = .ok (.ireturn, 1) := by decide +kernel
theorem dX9_init_0 : decode cX9_init 0 = .ok (.aload_n 0, 1) := by decide +kernel
theorem dX9_init_1 : decode cX9_init 1 = .ok (.invokespecial 3, 3) := by decide +kernel
theorem dX9_init_4 : decode cX9_init 4 = .ok (.aload_n 0, 1) := by decide +kernel
theorem dX9_init_5 : decode cX9_init 5 = .ok (.new 9, 3) := by decide +kernel
theorem dX9_init_8 : decode cX9_init 8 = .ok (.dup, 1) := by decide +kernel
theorem dX9_init_9 : decode cX9_init 9 = .ok (.invokespecial 11, 3) := by decide +kernel
theorem dX9_init_12 : decode cX9_init 12 = .ok (.putfield 12, 3) := by decide +kernel
theorem dX9_init_15 : decode cX9_init 15 = .ok (.aload_n 0, 1) := by decide +kernel
theorem dX9_init_16 : decode cX9_init 16 = .ok (.new 18, 3) := by decide +kernel
theorem dX9_init_19 : decode cX9_init 19 = .ok (.dup, 1) := by decide +kernel
theorem dX9_init_20 : decode cX9_init 20 = .ok (.aload_n 0, 1) := by decide +kernel
theorem dX9_init_21 : decode cX9_init 21 = .ok (.getfield 12, 3) := by decide +kernel
theorem dX9_init_24 : decode cX9_init 24 = .ok (.invokespecial 20, 3) := by decide +kernel
theorem dX9_init_27 : decode cX9_init 27 = .ok (.putfield 23, 3) := by decide +kernel
theorem dX9_init_30 : decode cX9_init 30 = .ok (.aload_n 0, 1) := by decide +kernel
theorem dX9_init_31 : decode cX9_init 31 = .ok (.bipush 20, 2) := by decide +kernel
theorem dX9_init_33 : decode cX9_init 33 = .ok (.anewarray 18, 3) := by decide +kernel
theorem dX9_init_36 : decode cX9_init 36 = .ok (.putfield 27, 3) := by decide +kernel
theorem dX9_init_39 : decode cX9_init 39 = .ok (.aload_n 0, 1) := by decide +kernel
theorem dX9_init_40 : decode cX9_init 40 = .ok (.bipush 6, 2) := by decide +kernel
theorem dX9_init_42 : decode cX9_init 42 = .ok (.newarray .int, 2) := by decide +kernel
theorem dX9_init_44 : decode cX9_init 44 = .ok (.putfield 31, 3) := by decide +kernel
theorem dX9_init_47 : decode cX9_init 47 = .ok (.aload_n 0, 1) := by decide +kernel
theorem dX9_init_48 : decode cX9_init 48 = .ok (.bipush 6, 2) := by decide +kernel
theorem dX9_init_50 : decode cX9_init 50 = .ok (.newarray .int, 2) := by decide +kernel
theorem dX9_init_52 : decode cX9_init 52 = .ok (.putfield 35, 3) := by decide +kernel
theorem dX9_init_55 : decode cX9_init 55 = .ok (.aload_n 0, 1) := by decide +kernel
theorem dX9_init_56 : decode cX9_init 56 = .ok (.bipush 6, 2) := by decide +kernel
theorem dX9_init_58 : decode cX9_init 58 = .ok (.newarray .int, 2) := by decide +kernel
theorem dX9_init_60 : decode cX9_init 60 = .ok (.putfield 38, 3) := by decide +kernel
theorem dX9_init_63 : decode cX9_init 63 = .ok (.iconst 0, 1) := by decide +kernel
theorem dX9_init_64 : decode cX9_init 64 = .ok (.istore_n 1, 1) := by decide +kernel
theorem dX9_init_65 : decode cX9_init 65 = .ok (.iload_n 1, 1) := by decide +kernel
theorem dX9_init_66 : decode cX9_init 66 = .ok (.bipush 20, 2) := by decide +kernel
theorem dX9_init_68 : decode cX9_init 68 = .ok (.if_icmp .ge 26, 3) := by decide +kernel
theorem dX9_init_71 : decode cX9_init 71 = .ok (.aload_n 0, 1) := by decide +kernel
theorem dX9_init_72 : decode cX9_init 72 = .ok (.getfield 27, 3) := by decide +kernel
theorem dX9_init_75 : decode cX9_init 75 = .ok (.iload_n 1, 1) := by decide +kernel
theorem dX9_init_76 : decode cX9_init 76 = .ok (.new 18, 3) := by decide +kernel
theorem dX9_init_79 : decode cX9_init 79 = .ok (.dup, 1) := by decide +kernel
theorem dX9_init_80 : decode cX9_init 80 = .ok (.aload_n 0, 1) := by decide +kernel
theorem dX9_init_81 : decode cX9_init 81 = .ok (.getfield 12, 3) := by decide +kernel
theorem dX9_init_84 : decode cX9_init 84 = .ok (.invokespecial 20, 3) := by decide +kernel
theorem dX9_init_87 : decode cX9_init 87 = .ok (.aastore, 1) := by decide +kernel
theorem dX9_init_88 : decode cX9_init 88 = .ok (.iinc 1 1, 3) := by decide +kernel
theorem dX9_init_91 : decode cX9_init 91 = .ok (.goto (-26), 3) := by decide +kernel
theorem dX9_init_94 : decode cX9_init 94 = .ok (.return_, 1) := by decide +kernel
theorem dX9_begin_0 : decode cX9_begin 0 = .ok (.aload_n 0, 1) := by decide +kernel
theorem dX9_begin_1 : decode cX9_begin 1 = .ok (.getfield 12, 3) := by decide +kernel
theorem dX9_begin_4 : decode cX9_begin 4 = .ok (.aload_n 1, 1) := by decide +kernel
theorem dX9_begin_5 : decode cX9_begin 5 = .ok (.invokevirtual 41, 3) := by decide +kernel
theorem dX9_begin_8 : decode cX9_begin 8 = .ok (.aload_n 0, 1) := by decide +kernel
theorem dX9_begin_9 : decode cX9_begin 9 = .ok (.getfield 23, 3) := by decide +kernel
theorem dX9_begin_12 : decode cX9_begin 12 = .ok (.aload_n 2, 1) := by decide +kernel
theorem dX9_begin_13 : decode cX9_begin 13 = .ok (.invokevirtual 44, 3) := by decide +kernel
theorem dX9_begin_16 : decode cX9_begin 16 = .ok (.aload_n 0, 1) := by decide +kernel
theorem dX9_begin_17 : decode cX9_begin 17 = .ok (.iconst 0, 1) := by decide +kernel
theorem dX9_begin_18 : decode cX9_begin 18 = .ok (.putfield 47, 3) := by decide +kernel
theorem dX9_begin_21 : decode cX9_begin 21 = .ok (.aload_n 0, 1) := by decide +kernel
theorem dX9_begin_22 : decode cX9_begin 22 = .ok (.iconst 0, 1) := by decide +kernel
theorem dX9_begin_23 : decode cX9_begin 23 = .ok (.putfield 51, 3) := by decide +kernel
theorem dX9_begin_26 : decode cX9_begin 26 = .ok (.return_, 1) := by decide +kernel
theorem dX9_copyFrom_0 : decode cX9_copyFrom 0 = .ok (.aload_n 0, 1) := by decide +kernel
theorem dX9_copyFrom_1 : decode cX9_copyFrom 1 = .ok (.getfield 12, 3) := by decide +kernel
theorem dX9_copyFrom_4 : decode cX9_copyFrom 4 = .ok (.aload_n 1, 1) := by decide +kernel
theorem dX9_copyFrom_5 : decode cX9_copyFrom 5 = .ok (.getfield 12, 3) := by decide +kernel
theorem dX9_copyFrom_8 : decode cX9_copyFrom 8 = .ok (.invokevirtual 41, 3) := by decide +kernel
theorem dX9_copyFrom_11 : decode cX9_copyFrom 11 = .ok (.aload_n 0, 1) := by decide +kernel
theorem dX9_copyFrom_12 : decode cX9_copyFrom 12 = .ok (.getfield 23, 3) := by decide +kernel
theorem dX9_copyFrom_15 : decode cX9_copyFrom 15 = .ok (.aload_n 1, 1) := by decide +kernel
theorem dX9_copyFrom_16 : decode cX9_copyFrom 16 = .ok (.getfield 23, 3) := by decide +kernel
theorem dX9_copyFrom_19 : decode cX9_copyFrom 19 = .ok (.invokevirtual 44, 3) := by decide +kernel
theorem dX9_copyFrom_22 : decode cX9_copyFrom 22 = .ok (.iconst 0, 1) := by decide +kernel
theorem dX9_copyFrom_23 : decode cX9_copyFrom 23 = .ok (.istore_n 2, 1) := by decide +kernel
theorem dX9_copyFrom_24 : decode cX9_copyFrom 24 = .ok (.iload_n 2, 1) := by decide +kernel
theorem dX9_copyFrom_25 : decode cX9_copyFrom 25 = .ok (.bipush 20, 2) := by decide +kernel
theorem dX9_copyFrom_27 : decode cX9_copyFrom 27 = .ok (.if_icmp .ge 24, 3) := by decide +kernel
theorem dX9_copyFrom_30 : decode cX9_copyFrom 30 = .ok (.aload_n 0, 1) := by decide +kernel
theorem dX9_copyFrom_31 : decode cX9_copyFrom 31 = .ok (.getfield 27, 3) := by decide +kernel
theorem dX9_copyFrom_34 : decode cX9_copyFrom 34 = .ok (.iload_n 2, 1) := by decide +kernel
theorem dX9_copyFrom_35 : decode cX9_copyFrom 35 = .ok (.aaload, 1) := by decide +kernel
theorem dX9_copyFrom_36 : decode cX9_copyFrom 36 = .ok (.aload_n 1, 1) := by decide +kernel
theorem dX9_copyFrom_37 : decode cX9_copyFrom 37 = .ok (.getfield 27, 3) := by decide +kernel
theorem dX9_copyFrom_40 : decode cX9_copyFrom 40 = .ok (.iload_n 2, 1) := by decide +kernel
theorem dX9_copyFrom_41 : decode cX9_copyFrom 41 = .ok (.aaload, 1) := by decide +kernel
theorem dX9_copyFrom_42 : decode cX9_copyFrom 42 = .ok (.invokevirtual 44, 3) := by decide +kernel
theorem dX9_copyFrom_45 : decode cX9_copyFrom 45 = .ok (.iinc 2 1, 3) := by decide +kernel
theorem dX9_copyFrom_48 : decode cX9_copyFrom 48 = .ok (.goto (-24), 3) := by decide +kernel
theorem dX9_copyFrom_51 : decode cX9_copyFrom 51 = .ok (.aload_n 0, 1) := by decide +kernel
theorem dX9_copyFrom_52 : decode cX9_copyFrom 52 = .ok (.aload_n 1, 1) := by decide +kernel
theorem dX9_copyFrom_53 : decode cX9_copyFrom 53 = .ok (.getfield 54, 3) := by decide +kernel
theorem dX9_copyFrom_56 : decode cX9_copyFrom 56 = .ok (.putfield 54, 3) := by decide +kernel
theorem dX9_copyFrom_59 : decode cX9_copyFrom 59 = .ok (.aload_n 0, 1) := by decide +kernel
theorem dX9_copyFrom_60 : decode cX9_copyFrom 60 = .ok (.aload_n 1, 1) := by decide +kernel
theorem dX9_copyFrom_61 : decode cX9_copyFrom 61 = .ok (.getfield 47, 3) := by decide +kernel
theorem dX9_copyFrom_64 : decode cX9_copyFrom 64 = .ok (.putfield 47, 3) := by decide +kernel
theorem dX9_copyFrom_67 : decode cX9_copyFrom 67 = .ok (.aload_n 0, 1) := by decide +kernel
theorem dX9_copyFrom_68 : decode cX9_copyFrom 68 = .ok (.aload_n 1, 1) := by decide +kernel
theorem dX9_copyFrom_69 : decode cX9_copyFrom 69 = .ok (.getfield 51, 3) := by decide +kernel
theorem dX9_copyFrom_72 : decode cX9_copyFrom 72 = .ok (.putfield 51, 3) := by decide +kernel
theorem dX9_copyFrom_75 : decode cX9_copyFrom 75 = .ok (.aload_n 1, 1) := by decide +kernel
theorem dX9_copyFrom_76 : decode cX9_copyFrom 76 = .ok (.getfield 31, 3) := by decide +kernel
theorem dX9_copyFrom_79 : decode cX9_copyFrom 79 = .ok (.iconst 0, 1) := by decide +kernel
theorem dX9_copyFrom_80 : decode cX9_copyFrom 80 = .ok (.aload_n 0, 1) := by decide +kernel
theorem dX9_copyFrom_81 : decode cX9_copyFrom 81 = .ok (.getfield 31, 3) := by decide +kernel
theorem dX9_copyFrom_84 : decode cX9_copyFrom 84 = .ok (.iconst 0, 1) := by decide +kernel
theorem dX9_copyFrom_85 : decode cX9_copyFrom 85 = .ok (.bipush 6, 2) := by decide +kernel
theorem dX9_copyFrom_87 : decode cX9_copyFrom 87 = .ok (.invokestatic 57, 3) := by decide +kernel
theorem dX9_copyFrom_90 : decode cX9_copyFrom 90 = .ok (.aload_n 1, 1) := by decide +kernel
theorem dX9_copyFrom_91 : decode cX9_copyFrom 91 = .ok (.getfield 35, 3) := by decide +kernel
theorem dX9_copyFrom_94 : decode cX9_copyFrom 94 = .ok (.iconst 0, 1) := by decide +kernel
theorem dX9_copyFrom_95 : decode cX9_copyFrom 95 = .ok (.aload_n 0, 1) := by decide +kernel
theorem dX9_copyFrom_96 : decode cX9_copyFrom 96 = .ok (.getfield 35, 3) := by decide +kernel
theorem dX9_copyFrom_99 : decode cX9_copyFrom 99 = .ok (.iconst 0, 1) := by decide +kernel
theorem dX9_copyFrom_100 : decode cX9_copyFrom 100 = .ok (.bipush 6, 2) := by decide +kernel
theorem dX9_copyFrom_102 : decode cX9_copyFrom 102 = .ok (.invokestatic 57, 3) := by decide +kernel
theorem dX9_copyFrom_105 : decode cX9_copyFrom 105 = .ok (.aload_n 1, 1) := by decide +kernel
theorem dX9_copyFrom_106 : decode cX9_copyFrom 106 = .ok (.getfield 38, 3) := by decide +kernel
theorem dX9_copyFrom_109 : decode cX9_copyFrom 109 = .ok (.iconst 0, 1) := by decide +kernel
theorem dX9_copyFrom_110 : decode cX9_copyFrom 110 = .ok (.aload_n 0, 1) := by decide +kernel
theorem dX9_copyFrom_111 : decode cX9_copyFrom 111 = .ok (.getfield 38, 3) := by decide +kernel
theorem dX9_copyFrom_114 : decode cX9_copyFrom 114 = .ok (.iconst 0, 1) := by decide +kernel
theorem dX9_copyFrom_115 : decode cX9_copyFrom 115 = .ok (.bipush 6, 2) := by decide +kernel
theorem dX9_copyFrom_117 : decode cX9_copyFrom 117 = .ok (.invokestatic 57, 3) := by decide +kernel
theorem dX9_copyFrom_120 : decode cX9_copyFrom 120 = .ok (.aload_n 0, 1) := by decide +kernel
theorem dX9_copyFrom_121 : decode cX9_copyFrom 121 = .ok (.aload_n 1, 1) := by decide +kernel
theorem dX9_copyFrom_122 : decode cX9_copyFrom 122 = .ok (.getfield 63, 3) := by decide +kernel
theorem dX9_copyFrom_125 : decode cX9_copyFrom 125 = .ok (.putfield 63, 3) := by decide +kernel
theorem dX9_copyFrom_128 : decode cX9_copyFrom 128 = .ok (.return_, 1) := by decide +kernel
theorem dX9_remember_0 : decode cX9_remember 0 = .ok (.aload_n 0, 1) := by decide +kernel
theorem dX9_remember_1 : decode cX9_remember 1 = .ok (.getfield 27, 3) := by decide +kernel
theorem dX9_remember_4 : decode cX9_remember 4 = .ok (.aload_n 0, 1) := by decide +kernel
theorem dX9_remember_5 : decode cX9_remember 5 = .ok (.getfield 54, 3) := by decide +kernel
theorem dX9_remember_8 : decode cX9_remember 8 = .ok (.aload_n 0, 1) := by decide +kernel
theorem dX9_remember_9 : decode cX9_remember 9 = .ok (.getfield 47, 3) := by decide +kernel
theorem dX9_remember_12 : decode cX9_remember 12 = .ok (.iadd, 1) := by decide +kernel
theorem dX9_remember_13 : decode cX9_remember 13 = .ok (.bipush 20, 2) := by decide +kernel
theorem dX9_remember_15 : decode cX9_remember 15 = .ok (.irem, 1) := by decide +kernel
theorem dX9_remember_16 : decode cX9_remember 16 = .ok (.aaload, 1) := by decide +kernel
theorem dX9_remember_17 : decode cX9_remember 17 = .ok (.aload_n 0, 1) := by decide +kernel
theorem dX9_remember_18 : decode cX9_remember 18 = .ok (.getfield 23, 3) := by decide +kernel
theorem dX9_remember_21 : decode cX9_remember 21 = .ok (.invokevirtual 44, 3) := by decide +kernel
theorem dX9_remember_24 : decode cX9_remember 24 = .ok (.aload_n 0, 1) := by decide +kernel
theorem dX9_remember_25 : decode cX9_remember 25 = .ok (.getfield 47, 3) := by decide +kernel
theorem dX9_remember_28 : decode cX9_remember 28 = .ok (.bipush 20, 2) := by decide +kernel
theorem dX9_remember_30 : decode cX9_remember 30 = .ok (.if_icmp .ge 16, 3) := by decide +kernel
theorem dX9_remember_33 : decode cX9_remember 33 = .ok (.aload_n 0, 1) := by decide +kernel
theorem dX9_remember_34 : decode cX9_remember 34 = .ok (.dup, 1) := by decide +kernel
theorem dX9_remember_35 : decode cX9_remember 35 = .ok (.getfield 47, 3) := by decide +kernel
theorem dX9_remember_38 : decode cX9_remember 38 = .ok (.iconst 1, 1) := by decide +kernel
theorem dX9_remember_39 : decode cX9_remember 39 = .ok (.iadd, 1) := by decide +kernel
theorem dX9_remember_40 : decode cX9_remember 40 = .ok (.putfield 47, 3) := by decide +kernel
theorem dX9_remember_43 : decode cX9_remember 43 = .ok (.goto 16, 3) := by decide +kernel
theorem dX9_remember_46 : decode cX9_remember 46 = .ok (.aload_n 0, 1) := by decide +kernel
theorem dX9_remember_47 : decode cX9_remember 47 = .ok (.aload_n 0, 1) := by decide +kernel
theorem dX9_remember_48 : decode cX9_remember 48 = .ok (.getfield 54, 3) := by decide +kernel
theorem dX9_remember_51 : decode cX9_remember 51 = .ok (.iconst 1, 1) := by decide +kernel
theorem dX9_remember_52 : decode cX9_remember 52 = .ok (.iadd, 1) := by decide +kernel
theorem dX9_remember_53 : decode cX9_remember 53 = .ok (.bipush 20, 2) := by decide +kernel
theorem dX9_remember_55 : decode cX9_remember 55 = .ok (.irem, 1) := by decide +kernel
theorem dX9_remember_56 : decode cX9_remember 56 = .ok (.putfield 54, 3) := by decide +kernel
theorem dX9_remember_59 : decode cX9_remember 59 = .ok (.return_, 1) := by decide +kernel
theorem dX9_recall_0 : decode cX9_recall 0 = .ok (.aload_n 0, 1) := by decide +kernel
theorem dX9_recall_1 : decode cX9_recall 1 = .ok (.getfield 47, 3) := by decide +kernel
theorem dX9_recall_4 : decode cX9_recall 4 = .ok (.ifCond .le 37, 3) := by decide +kernel
theorem dX9_recall_7 : decode cX9_recall 7 = .ok (.aload_n 0, 1) := by decide +kernel
theorem dX9_recall_8 : decode cX9_recall 8 = .ok (.dup, 1) := by decide +kernel
theorem dX9_recall_9 : decode cX9_recall 9 = .ok (.getfield 47, 3) := by decide +kernel
theorem dX9_recall_12 : decode cX9_recall 12 = .ok (.iconst 1, 1) := by decide +kernel
theorem dX9_recall_13 : decode cX9_recall 13 = .ok (.isub, 1) := by decide +kernel
theorem dX9_recall_14 : decode cX9_recall 14 = .ok (.putfield 47, 3) := by decide +kernel
theorem dX9_recall_17 : decode cX9_recall 17 = .ok (.aload_n 0, 1) := by decide +kernel
theorem dX9_recall_18 : decode cX9_recall 18 = .ok (.getfield 23, 3) := by decide +kernel
theorem dX9_recall_21 : decode cX9_recall 21 = .ok (.aload_n 0, 1) := by decide +kernel
theorem dX9_recall_22 : decode cX9_recall 22 = .ok (.getfield 27, 3) := by decide +kernel
theorem dX9_recall_25 : decode cX9_recall 25 = .ok (.aload_n 0, 1) := by decide +kernel
theorem dX9_recall_26 : decode cX9_recall 26 = .ok (.getfield 54, 3) := by decide +kernel
theorem dX9_recall_29 : decode cX9_recall 29 = .ok (.aload_n 0, 1) := by decide +kernel
theorem dX9_recall_30 : decode cX9_recall 30 = .ok (.getfield 47, 3) := by decide +kernel
theorem dX9_recall_33 : decode cX9_recall 33 = .ok (.iadd, 1) := by decide +kernel
theorem dX9_recall_34 : decode cX9_recall 34 = .ok (.bipush 20, 2) := by decide +kernel
theorem dX9_recall_36 : decode cX9_recall 36 = .ok (.irem, 1) := by decide +kernel
theorem dX9_recall_37 : decode cX9_recall 37 = .ok (.aaload, 1) := by decide +kernel
theorem dX9_recall_38 : decode cX9_recall 38 = .ok (.invokevirtual 44, 3) := by decide +kernel
theorem dX9_recall_41 : decode cX9_recall 41 = .ok (.return_, 1) := by decide +kernel
theorem dX9_addOffer_0 : decode cX9_addOffer 0 = .ok (.aload_n 0, 1) := by decide +kernel
theorem dX9_addOffer_1 : decode cX9_addOffer 1 = .ok (.getfield 51, 3) := by decide +kernel
theorem dX9_addOffer_4 : decode cX9_addOffer 4 = .ok (.bipush 6, 2) := by decide +kernel
theorem dX9_addOffer_6 : decode cX9_addOffer 6 = .ok (.if_icmp .ge 43, 3) := by decide +kernel
theorem dX9_addOffer_9 : decode cX9_addOffer 9 = .ok (.aload_n 0, 1) := by decide +kernel
theorem dX9_addOffer_10 : decode cX9_addOffer 10 = .ok (.getfield 31, 3) := by decide +kernel
theorem dX9_addOffer_13 : decode cX9_addOffer 13 = .ok (.aload_n 0, 1) := by decide +kernel
theorem dX9_addOffer_14 : decode cX9_addOffer 14 = .ok (.getfield 51, 3) := by decide +kernel
theorem dX9_addOffer_17 : decode cX9_addOffer 17 = .ok (.iload_n 1, 1) := by decide +kernel
theorem dX9_addOffer_18 : decode cX9_addOffer 18 = .ok (.iastore, 1) := by decide +kernel
theorem dX9_addOffer_19 : decode cX9_addOffer 19 = .ok (.aload_n 0, 1) := by decide +kernel
theorem dX9_addOffer_20 : decode cX9_addOffer 20 = .ok (.getfield 35, 3) := by decide +kernel
theorem dX9_addOffer_23 : decode cX9_addOffer 23 = .ok (.aload_n 0, 1) := by decide +kernel
theorem dX9_addOffer_24 : decode cX9_addOffer 24 = .ok (.getfield 51, 3) := by decide +kernel
theorem dX9_addOffer_27 : decode cX9_addOffer 27 = .ok (.iload_n 2, 1) := by decide +kernel
theorem dX9_addOffer_28 : decode cX9_addOffer 28 = .ok (.iastore, 1) := by decide +kernel
theorem dX9_addOffer_29 : decode cX9_addOffer 29 = .ok (.aload_n 0, 1) := by decide +kernel
theorem dX9_addOffer_30 : decode cX9_addOffer 30 = .ok (.getfield 38, 3) := by decide +kernel
theorem dX9_addOffer_33 : decode cX9_addOffer 33 = .ok (.aload_n 0, 1) := by decide +kernel
theorem dX9_addOffer_34 : decode cX9_addOffer 34 = .ok (.getfield 51, 3) := by decide +kernel
theorem dX9_addOffer_37 : decode cX9_addOffer 37 = .ok (.iload_n 3, 1) := by decide +kernel
theorem dX9_addOffer_38 : decode cX9_addOffer 38 = .ok (.iastore, 1) := by decide +kernel
theorem dX9_addOffer_39 : decode cX9_addOffer 39 = .ok (.aload_n 0, 1) := by decide +kernel
theorem dX9_addOffer_40 : decode cX9_addOffer 40 = .ok (.dup, 1) := by decide +kernel
theorem dX9_addOffer_41 : decode cX9_addOffer 41 = .ok (.getfield 51, 3) := by decide +kernel
theorem dX9_addOffer_44 : decode cX9_addOffer 44 = .ok (.iconst 1, 1) := by decide +kernel
theorem dX9_addOffer_45 : decode cX9_addOffer 45 = .ok (.iadd, 1) := by decide +kernel
theorem dX9_addOffer_46 : decode cX9_addOffer 46 = .ok (.putfield 51, 3) := by decide +kernel
theorem dX9_addOffer_49 : decode cX9_addOffer 49 = .ok (.return_, 1) := by decide +kernel
theorem dX10_init_0 : decode cX10_init 0 = .ok (.aload_n 0, 1) := by decide +kernel
theorem dX10_init_1 : decode cX10_init 1 = .ok (.invokespecial 3, 3) := by decide +kernel
theorem dX10_init_4 : decode cX10_init 4 = .ok (.aload_n 0, 1) := by decide +kernel
theorem dX10_init_5 : decode cX10_init 5 = .ok (.sipush 400, 3) := by decide +kernel
theorem dX10_init_8 : decode cX10_init 8 = .ok (.newarray .byte, 2) := by decide +kernel
theorem dX10_init_10 : decode cX10_init 10 = .ok (.putfield 9, 3) := by decide +kernel
theorem dX10_init_13 : decode cX10_init 13 = .ok (.return_, 1) := by decide +kernel
theorem dX10_append_0 : decode cX10_append 0 = .ok (.bipush 24, 2) := by decide +kernel
theorem dX10_append_2 : decode cX10_append 2 = .ok (.istore_n 2, 1) := by decide +kernel
theorem dX10_append_3 : decode cX10_append 3 = .ok (.iload_n 2, 1) := by decide +kernel
theorem dX10_append_4 : decode cX10_append 4 = .ok (.ifCond .lt 42, 3) := by decide +kernel
theorem dX10_append_7 : decode cX10_append 7 = .ok (.aload_n 0, 1) := by decide +kernel
theorem dX10_append_8 : decode cX10_append 8 = .ok (.getfield 15, 3) := by decide +kernel
theorem dX10_append_11 : decode cX10_append 11 = .ok (.sipush 400, 3) := by decide +kernel
theorem dX10_append_14 : decode cX10_append 14 = .ok (.if_icmp .ge 32, 3) := by decide +kernel
theorem dX10_append_17 : decode cX10_append 17 = .ok (.aload_n 0, 1) := by decide +kernel
theorem dX10_append_18 : decode cX10_append 18 = .ok (.getfield 9, 3) := by decide +kernel
theorem dX10_append_21 : decode cX10_append 21 = .ok (.aload_n 0, 1) := by decide +kernel
theorem dX10_append_22 : decode cX10_append 22 = .ok (.getfield 15, 3) := by decide +kernel
theorem dX10_append_25 : decode cX10_append 25 = .ok (.iload_n 1, 1) := by decide +kernel
theorem dX10_append_26 : decode cX10_append 26 = .ok (.iload_n 2, 1) := by decide +kernel
theorem dX10_append_27 : decode cX10_append 27 = .ok (.ishr, 1) := by decide +kernel
theorem dX10_append_28 : decode cX10_append 28 = .ok (.i2b, 1) := by decide +kernel
theorem dX10_append_29 : decode cX10_append 29 = .ok (.bastore, 1) := by decide +kernel
theorem dX10_append_30 : decode cX10_append 30 = .ok (.aload_n 0, 1) := by decide +kernel
theorem dX10_append_31 : decode cX10_append 31 = .ok (.dup, 1) := by decide +kernel
theorem dX10_append_32 : decode cX10_append 32 = .ok (.getfield 15, 3) := by decide +kernel
theorem dX10_append_35 : decode cX10_append 35 = .ok (.iconst 1, 1) := by decide +kernel
theorem dX10_append_36 : decode cX10_append 36 = .ok (.iadd, 1) := by decide +kernel
theorem dX10_append_37 : decode cX10_append 37 = .ok (.putfield 15, 3) := by decide +kernel
theorem dX10_append_40 : decode cX10_append 40 = .ok (.iinc 2 (-8), 3) := by decide +kernel
theorem dX10_append_43 : decode cX10_append 43 = .ok (.goto (-40), 3) := by decide +kernel
theorem dX10_append_46 : decode cX10_append 46 = .ok (.return_, 1) := by decide +kernel
theorem dX10_open_0 : decode cX10_open 0 = .ok (.aload_n 0, 1) := by decide +kernel
theorem dX10_open_1 : decode cX10_open 1 = .ok (.iconst 0, 1) := by decide +kernel
theorem dX10_open_2 : decode cX10_open 2 = .ok (.putfield 19, 3) := by decide +kernel
theorem dX10_open_5 : decode cX10_open 5 = .ok (.aload_n 0, 1) := by decide +kernel
theorem dX10_open_6 : decode cX10_open 6 = .ok (.iconst 0, 1) := by decide +kernel
theorem dX10_open_7 : decode cX10_open 7 = .ok (.putfield 22, 3) := by decide +kernel
theorem dX10_open_10 : decode cX10_open 10 = .ok (.aload_n 0, 1) := by decide +kernel
theorem dX10_open_11 : decode cX10_open 11 = .ok (.iconst 0, 1) := by decide +kernel
theorem dX10_open_12 : decode cX10_open 12 = .ok (.putfield 25, 3) := by decide +kernel
theorem dX10_open_15 : decode cX10_open 15 = .ok (.return_, 1) := by decide +kernel
theorem dX10_wrong_0 : decode cX10_wrong 0 = .ok (.aload_n 0, 1) := by decide +kernel
theorem dX10_wrong_1 : decode cX10_wrong 1 = .ok (.iconst 1, 1) := by decide +kernel
theorem dX10_wrong_2 : decode cX10_wrong 2 = .ok (.bipush 8, 2) := by decide +kernel
theorem dX10_wrong_4 : decode cX10_wrong 4 = .ok (.iload_n 1, 1) := by decide +kernel
theorem dX10_wrong_5 : decode cX10_wrong 5 = .ok (.imul, 1) := by decide +kernel
theorem dX10_wrong_6 : decode cX10_wrong 6 = .ok (.iadd, 1) := by decide +kernel
theorem dX10_wrong_7 : decode cX10_wrong 7 = .ok (.iload_n 2, 1) := by decide +kernel
theorem dX10_wrong_8 : decode cX10_wrong 8 = .ok (.iadd, 1) := by decide +kernel
theorem dX10_wrong_9 : decode cX10_wrong 9 = .ok (.putfield 25, 3) := by decide +kernel
theorem dX10_wrong_12 : decode cX10_wrong 12 = .ok (.iconst 0, 1) := by decide +kernel
theorem dX10_wrong_13 : decode cX10_wrong 13 = .ok (.ireturn, 1) := by decide +kernel
theorem dX10_next_0 : decode cX10_next 0 = .ok (.aload_n 0, 1) := by decide +kernel
theorem dX10_next_1 : decode cX10_next 1 = .ok (.getfield 19, 3) := by decide +kernel
theorem dX10_next_4 : decode cX10_next 4 = .ok (.aload_n 0, 1) := by decide +kernel
theorem dX10_next_5 : decode cX10_next 5 = .ok (.getfield 15, 3) := by decide +kernel
theorem dX10_next_8 : decode cX10_next 8 = .ok (.if_icmp .ge 30, 3) := by decide +kernel
theorem dX10_next_11 : decode cX10_next 11 = .ok (.aload_n 0, 1) := by decide +kernel
theorem dX10_next_12 : decode cX10_next 12 = .ok (.getfield 9, 3) := by decide +kernel
theorem dX10_next_15 : decode cX10_next 15 = .ok (.aload_n 0, 1) := by decide +kernel
theorem dX10_next_16 : decode cX10_next 16 = .ok (.getfield 19, 3) := by decide +kernel
theorem dX10_next_19 : decode cX10_next 19 = .ok (.baload, 1) := by decide +kernel
theorem dX10_next_20 : decode cX10_next 20 = .ok (.bipush 32, 2) := by decide +kernel
theorem dX10_next_22 : decode cX10_next 22 = .ok (.if_icmp .ne 16, 3) := by decide +kernel
theorem dX10_next_25 : decode cX10_next 25 = .ok (.aload_n 0, 1) := by decide +kernel
theorem dX10_next_26 : decode cX10_next 26 = .ok (.dup, 1) := by decide +kernel
theorem dX10_next_27 : decode cX10_next 27 = .ok (.getfield 19, 3) := by decide +kernel
theorem dX10_next_30 : decode cX10_next 30 = .ok (.iconst 1, 1) := by decide +kernel
theorem dX10_next_31 : decode cX10_next 31 = .ok (.iadd, 1) := by decide +kernel
theorem dX10_next_32 : decode cX10_next 32 = .ok (.putfield 19, 3) := by decide +kernel
theorem dX10_next_35 : decode cX10_next 35 = .ok (.goto (-35), 3) := by decide +kernel
theorem dX10_next_38 : decode cX10_next 38 = .ok (.aload_n 0, 1) := by decide +kernel
theorem dX10_next_39 : decode cX10_next 39 = .ok (.getfield 19, 3) := by decide +kernel
theorem dX10_next_42 : decode cX10_next 42 = .ok (.aload_n 0, 1) := by decide +kernel
theorem dX10_next_43 : decode cX10_next 43 = .ok (.getfield 15, 3) := by decide +kernel
theorem dX10_next_46 : decode cX10_next 46 = .ok (.if_icmp .ge 19, 3) := by decide +kernel
theorem dX10_next_49 : decode cX10_next 49 = .ok (.aload_n 0, 1) := by decide +kernel
theorem dX10_next_50 : decode cX10_next 50 = .ok (.getfield 9, 3) := by decide +kernel
theorem dX10_next_53 : decode cX10_next 53 = .ok (.aload_n 0, 1) := by decide +kernel
theorem dX10_next_54 : decode cX10_next 54 = .ok (.getfield 19, 3) := by decide +kernel
theorem dX10_next_57 : decode cX10_next 57 = .ok (.baload, 1) := by decide +kernel
theorem dX10_next_58 : decode cX10_next 58 = .ok (.sipush 255, 3) := by decide +kernel
theorem dX10_next_61 : decode cX10_next 61 = .ok (.iand, 1) := by decide +kernel
theorem dX10_next_62 : decode cX10_next 62 = .ok (.goto 4, 3) := by decide +kernel
theorem dX10_next_65 : decode cX10_next 65 = .ok (.iconst (-1), 1) := by decide +kernel
theorem dX10_next_66 : decode cX10_next 66 = .ok (.ireturn, 1) := by decide +kernel
theorem dX10_accept_0 : decode cX10_accept 0 = .ok (.aload_n 0, 1) := by decide +kernel
theorem dX10_accept_1 : decode cX10_accept 1 = .ok (.invokevirtual 28, 3) := by decide +kernel
theorem dX10_accept_4 : decode cX10_accept 4 = .ok (.iload_n 1, 1) := by decide +kernel
theorem dX10_accept_5 : decode cX10_accept 5 = .ok (.if_icmp .eq 5, 3) := by decide +kernel
theorem dX10_accept_8 : decode cX10_accept 8 = .ok (.iconst 0, 1) := by decide +kernel
theorem dX10_accept_9 : decode cX10_accept 9 = .ok (.ireturn, 1) := by decide +kernel
theorem dX10_accept_10 : decode cX10_accept 10 = .ok (.aload_n 0, 1) := by decide +kernel
theorem dX10_accept_11 : decode cX10_accept 11 = .ok (.aload_n 0, 1) := by decide +kernel
theorem dX10_accept_12 : decode cX10_accept 12 = .ok (.getfield 19, 3) := by decide +kernel
theorem dX10_accept_15 : decode cX10_accept 15 = .ok (.putfield 22, 3) := by decide +kernel
theorem dX10_accept_18 : decode cX10_accept 18 = .ok (.aload_n 0, 1) := by decide +kernel
theorem dX10_accept_19 : decode cX10_accept 19 = .ok (.dup, 1) := by decide +kernel
theorem dX10_accept_20 : decode cX10_accept 20 = .ok (.getfield 19, 3) := by decide +kernel
theorem dX10_accept_23 : decode cX10_accept 23 = .ok (.iconst 1, 1) := by decide +kernel
theorem dX10_accept_24 : decode cX10_accept 24 = .ok (.iadd, 1) := by decide +kernel
theorem dX10_accept_25 : decode cX10_accept 25 = .ok (.putfield 19, 3) := by decide +kernel
theorem dX10_accept_28 : decode cX10_accept 28 = .ok (.iconst 1, 1) := by decide +kernel
theorem dX10_accept_29 : decode cX10_accept 29 = .ok (.ireturn, 1) := by decide +kernel
theorem dX10_acceptAtOnce_0 : decode cX10_acceptAtOnce 0 = .ok (.aload_n 0, 1) := by decide +kernel
theorem dX10_acceptAtOnce_1 : decode cX10_acceptAtOnce 1 = .ok (.getfield 19, 3) := by decide +kernel
theorem dX10_acceptAtOnce_4 : decode cX10_acceptAtOnce 4 = .ok (.aload_n 0, 1) := by decide +kernel
theorem dX10_acceptAtOnce_5 : decode cX10_acceptAtOnce 5 = .ok (.getfield 15, 3) := by decide +kernel
theorem dX10_acceptAtOnce_8 : decode cX10_acceptAtOnce 8 = .ok (.if_icmp .ge 16, 3) := by decide +kernel
theorem dX10_acceptAtOnce_11 : decode cX10_acceptAtOnce 11 = .ok (.aload_n 0, 1) := by decide +kernel
theorem dX10_acceptAtOnce_12 : decode cX10_acceptAtOnce 12 = .ok (.getfield 9, 3) := by decide +kernel
theorem dX10_acceptAtOnce_15 : decode cX10_acceptAtOnce 15 = .ok (.aload_n 0, 1) := by decide +kernel
theorem dX10_acceptAtOnce_16 : decode cX10_acceptAtOnce 16 = .ok (.getfield 19, 3) := by decide +kernel
theorem dX10_acceptAtOnce_19 : decode cX10_acceptAtOnce 19 = .ok (.baload, 1) := by decide +kernel
theorem dX10_acceptAtOnce_20 : decode cX10_acceptAtOnce 20 = .ok (.iload_n 1, 1) := by decide +kernel
theorem dX10_acceptAtOnce_21 : decode cX10_acceptAtOnce 21 = .ok (.if_icmp .eq 5, 3) := by decide +kernel
theorem dX10_acceptAtOnce_24 : decode cX10_acceptAtOnce 24 = .ok (.iconst 0, 1) := by decide +kernel
theorem dX10_acceptAtOnce_25 : decode cX10_acceptAtOnce 25 = .ok (.ireturn, 1) := by decide +kernel
theorem dX10_acceptAtOnce_26 : decode cX10_acceptAtOnce 26 = .ok (.aload_n 0, 1) := by decide +kernel
theorem dX10_acceptAtOnce_27 : decode cX10_acceptAtOnce 27 = .ok (.dup, 1) := by decide +kernel
theorem dX10_acceptAtOnce_28 : decode cX10_acceptAtOnce 28 = .ok (.getfield 19, 3) := by decide +kernel
theorem dX10_acceptAtOnce_31 : decode cX10_acceptAtOnce 31 = .ok (.iconst 1, 1) := by decide +kernel
theorem dX10_acceptAtOnce_32 : decode cX10_acceptAtOnce 32 = .ok (.iadd, 1) := by decide +kernel
theorem dX10_acceptAtOnce_33 : decode cX10_acceptAtOnce 33 = .ok (.putfield 19, 3) := by decide +kernel
theorem dX10_acceptAtOnce_36 : decode cX10_acceptAtOnce 36 = .ok (.iconst 1, 1) := by decide +kernel
theorem dX10_acceptAtOnce_37 : decode cX10_acceptAtOnce 37 = .ok (.ireturn, 1) := by decide +kernel
theorem dX10_isDigit_0 : decode cX10_isDigit 0 = .ok (.iload_n 0, 1) := by decide +kernel
theorem dX10_isDigit_1 : decode cX10_isDigit 1 = .ok (.bipush 48, 2) := by decide +kernel
theorem dX10_isDigit_3 : decode cX10_isDigit 3 = .ok (.if_icmp .lt 13, 3) := by decide +kernel
theorem dX10_isDigit_6 : decode cX10_isDigit 6 = .ok (.iload_n 0, 1) := by decide +kernel
theorem dX10_isDigit_7 : decode cX10_isDigit 7 = .ok (.bipush 57, 2) := by decide +kernel
theorem dX10_isDigit_9 : decode cX10_isDigit 9 = .ok (.if_icmp .gt 7, 3) := by decide +kernel
theorem dX10_isDigit_12 : decode cX10_isDigit 12 = .ok (.iconst 1, 1) := by decide +kernel
theorem dX10_isDigit_13 : decode cX10_isDigit 13 = .ok (.goto 4, 3) := by decide +kernel
theorem dX10_isDigit_16 : decode cX10_isDigit 16 = .ok (.iconst 0, 1) := by decide +kernel
theorem dX10_isDigit_17 : decode cX10_isDigit 17 = .ok (.ireturn, 1) := by decide +kernel
theorem dX10_isLetter_0 : decode cX10_isLetter 0 = .ok (.iload_n 0, 1) := by decide +kernel
theorem dX10_isLetter_1 : decode cX10_isLetter 1 = .ok (.bipush 97, 2) := by decide +kernel
theorem dX10_isLetter_3 : decode cX10_isLetter 3 = .ok (.if_icmp .lt 13, 3) := by decide +kernel
theorem dX10_isLetter_6 : decode cX10_isLetter 6 = .ok (.iload_n 0, 1) := by decide +kernel
theorem dX10_isLetter_7 : decode cX10_isLetter 7 = .ok (.bipush 122, 2) := by decide +kernel
theorem dX10_isLetter_9 : decode cX10_isLetter 9 = .ok (.if_icmp .gt 7, 3) := by decide +kernel
theorem dX10_isLetter_12 : decode cX10_isLetter 12 = .ok (.iconst 1, 1) := by decide +kernel
theorem dX10_isLetter_13 : decode cX10_isLetter 13 = .ok (.goto 4, 3) := by decide +kernel
theorem dX10_isLetter_16 : decode cX10_isLetter 16 = .ok (.iconst 0, 1) := by decide +kernel
theorem dX10_isLetter_17 : decode cX10_isLetter 17 = .ok (.ireturn, 1) := by decide +kernel
theorem dX10_number_0 : decode cX10_number 0 = .ok (.aload_n 0, 1) := by decide +kernel
theorem dX10_number_1 : decode cX10_number 1 = .ok (.invokevirtual 28, 3) := by decide +kernel
theorem dX10_number_4 : decode cX10_number 4 = .ok (.invokestatic 32, 3) := by decide +kernel
theorem dX10_number_7 : decode cX10_number 7 = .ok (.ifCond .ne 15, 3) := by decide +kernel
theorem dX10_number_10 : decode cX10_number 10 = .ok (.aload_n 0, 1) := by decide +kernel
theorem dX10_number_11 : decode cX10_number 11 = .ok (.aload_n 0, 1) := by decide +kernel
theorem dX10_number_12 : decode cX10_number 12 = .ok (.getfield 19, 3) := by decide +kernel
theorem dX10_number_15 : decode cX10_number 15 = .ok (.iconst 0, 1) := by decide +kernel
theorem dX10_number_16 : decode cX10_number 16 = .ok (.invokevirtual 36, 3) := by decide +kernel
theorem dX10_number_19 : decode cX10_number 19 = .ok (.pop, 1) := by decide +kernel
theorem dX10_number_20 : decode cX10_number 20 = .ok (.iconst (-1), 1) := by decide +kernel
theorem dX10_number_21 : decode cX10_number 21 = .ok (.ireturn, 1) := by decide +kernel
theorem dX10_number_22 : decode cX10_number 22 = .ok (.aload_n 0, 1) := by decide +kernel
theorem dX10_number_23 : decode cX10_number 23 = .ok (.aload_n 0, 1) := by decide +kernel
theorem dX10_number_24 : decode cX10_number 24 = .ok (.getfield 19, 3) := by decide +kernel
theorem dX10_number_27 : decode cX10_number 27 = .ok (.putfield 22, 3) := by decide +kernel
theorem dX10_number_30 : decode cX10_number 30 = .ok (.iconst 0, 1) := by decide +kernel
theorem dX10_number_31 : decode cX10_number 31 = .ok (.istore_n 3, 1) := by decide +kernel
theorem dX10_number_32 : decode cX10_number 32 = .ok (.aload_n 0, 1) := by decide +kernel
theorem dX10_number_33 : decode cX10_number 33 = .ok (.getfield 19, 3) := by decide +kernel
theorem dX10_number_36 : decode cX10_number 36 = .ok (.aload_n 0, 1) := by decide +kernel
theorem dX10_number_37 : decode cX10_number 37 = .ok (.getfield 15, 3) := by decide +kernel
theorem dX10_number_40 : decode cX10_number 40 = .ok (.if_icmp .ge 62, 3) := by decide +kernel
theorem dX10_number_43 : decode cX10_number 43 = .ok (.aload_n 0, 1) := by decide +kernel
theorem dX10_number_44 : decode cX10_number 44 = .ok (.getfield 9, 3) := by decide +kernel
theorem dX10_number_47 : decode cX10_number 47 = .ok (.aload_n 0, 1) := by decide +kernel
theorem dX10_number_48 : decode cX10_number 48 = .ok (.getfield 19, 3) := by decide +kernel
theorem dX10_number_51 : decode cX10_number 51 = .ok (.baload, 1) := by decide +kernel
theorem dX10_number_52 : decode cX10_number 52 = .ok (.invokestatic 32, 3) := by decide +kernel
theorem dX10_number_55 : decode cX10_number 55 = .ok (.ifCond .eq 47, 3) := by decide +kernel
theorem dX10_number_58 : decode cX10_number 58 = .ok (.aload_n 0, 1) := by decide +kernel
theorem dX10_number_59 : decode cX10_number 59 = .ok (.getfield 19, 3) := by decide +kernel
theorem dX10_number_62 : decode cX10_number 62 = .ok (.aload_n 0, 1) := by decide +kernel
theorem dX10_number_63 : decode cX10_number 63 = .ok (.getfield 22, 3) := by decide +kernel
theorem dX10_number_66 : decode cX10_number 66 = .ok (.isub, 1) := by decide +kernel
theorem dX10_number_67 : decode cX10_number 67 = .ok (.iconst 5, 1) := by decide +kernel
theorem dX10_number_68 : decode cX10_number 68 = .ok (.if_icmp .ge 21, 3) := by decide +kernel
theorem dX10_number_71 : decode cX10_number 71 = .ok (.iload_n 3, 1) := by decide +kernel
theorem dX10_number_72 : decode cX10_number 72 = .ok (.bipush 10, 2) := by decide +kernel
theorem dX10_number_74 : decode cX10_number 74 = .ok (.imul, 1) := by decide +kernel
theorem dX10_number_75 : decode cX10_number 75 = .ok (.aload_n 0, 1) := by decide +kernel
theorem dX10_number_76 : decode cX10_number 76 = .ok (.getfield 9, 3) := by decide +kernel
theorem dX10_number_79 : decode cX10_number 79 = .ok (.aload_n 0, 1) := by decide +kernel
theorem dX10_number_80 : decode cX10_number 80 = .ok (.getfield 19, 3) := by decide +kernel
theorem dX10_number_83 : decode cX10_number 83 = .ok (.baload, 1) := by decide +kernel
theorem dX10_number_84 : decode cX10_number 84 = .ok (.iadd, 1) := by decide +kernel
theorem dX10_number_85 : decode cX10_number 85 = .ok (.bipush 48, 2) := by decide +kernel
theorem dX10_number_87 : decode cX10_number 87 = .ok (.isub, 1) := by decide +kernel
theorem dX10_number_88 : decode cX10_number 88 = .ok (.istore_n 3, 1) := by decide +kernel
theorem dX10_number_89 : decode cX10_number 89 = .ok (.aload_n 0, 1) := by decide +kernel
theorem dX10_number_90 : decode cX10_number 90 = .ok (.dup, 1) := by decide +kernel
theorem dX10_number_91 : decode cX10_number 91 = .ok (.getfield 19, 3) := by decide +kernel
theorem dX10_number_94 : decode cX10_number 94 = .ok (.iconst 1, 1) := by decide +kernel
theorem dX10_number_95 : decode cX10_number 95 = .ok (.iadd, 1) := by decide +kernel
theorem dX10_number_96 : decode cX10_number 96 = .ok (.putfield 19, 3) := by decide +kernel
theorem dX10_number_99 : decode cX10_number 99 = .ok (.goto (-67), 3) := by decide +kernel
theorem dX10_number_102 : decode cX10_number 102 = .ok (.aload_n 0, 1) := by decide +kernel
theorem dX10_number_103 : decode cX10_number 103 = .ok (.getfield 19, 3) := by decide +kernel
theorem dX10_number_106 : decode cX10_number 106 = .ok (.aload_n 0, 1) := by decide +kernel
theorem dX10_number_107 : decode cX10_number 107 = .ok (.getfield 22, 3) := by decide +kernel
theorem dX10_number_110 : decode cX10_number 110 = .ok (.isub, 1) := by decide +kernel
theorem dX10_number_111 : decode cX10_number 111 = .ok (.iconst 5, 1) := by decide +kernel
theorem dX10_number_112 : decode cX10_number 112 = .ok (.if_icmp .gt 13, 3) := by decide +kernel
theorem dX10_number_115 : decode cX10_number 115 = .ok (.iload_n 3, 1) := by decide +kernel
theorem dX10_number_116 : decode cX10_number 116 = .ok (.iload_n 1, 1) := by decide +kernel
theorem dX10_number_117 : decode cX10_number 117 = .ok (.if_icmp .lt 8, 3) := by decide +kernel
theorem dX10_number_120 : decode cX10_number 120 = .ok (.iload_n 3, 1) := by decide +kernel
theorem dX10_number_121 : decode cX10_number 121 = .ok (.iload_n 2, 1) := by decide +kernel
theorem dX10_number_122 : decode cX10_number 122 = .ok (.if_icmp .le 15, 3) := by decide +kernel
theorem dX10_number_125 : decode cX10_number 125 = .ok (.aload_n 0, 1) := by decide +kernel
theorem dX10_number_126 : decode cX10_number 126 = .ok (.aload_n 0, 1) := by decide +kernel
theorem dX10_number_127 : decode cX10_number 127 = .ok (.getfield 22, 3) := by decide +kernel
theorem dX10_number_130 : decode cX10_number 130 = .ok (.iconst 1, 1) := by decide +kernel
theorem dX10_number_131 : decode cX10_number 131 = .ok (.invokevirtual 36, 3) := by decide +kernel
theorem dX10_number_134 : decode cX10_number 134 = .ok (.pop, 1) := by decide +kernel
theorem dX10_number_135 : decode cX10_number 135 = .ok (.iconst (-1), 1) := by decide +kernel
theorem dX10_number_136 : decode cX10_number 136 = .ok (.ireturn, 1) := by decide +kernel
theorem dX10_number_137 : decode cX10_number 137 = .ok (.iload_n 3, 1) := by decide +kernel
theorem dX10_number_138 : decode cX10_number 138 = .ok (.ireturn, 1) := by decide +kernel
theorem dX10_wordAmong_0 : decode cX10_wordAmong 0 = .ok (.aload_n 0, 1) := by decide +kernel
theorem dX10_wordAmong_1 : decode cX10_wordAmong 1 = .ok (.invokevirtual 28, 3) := by decide +kernel
theorem dX10_wordAmong_4 : decode cX10_wordAmong 4 = .ok (.pop, 1) := by decide +kernel
theorem dX10_wordAmong_5 : decode cX10_wordAmong 5 = .ok (.aload_n 0, 1) := by decide +kernel
theorem dX10_wordAmong_6 : decode cX10_wordAmong 6 = .ok (.getfield 19, 3) := by decide +kernel
theorem dX10_wordAmong_9 : decode cX10_wordAmong 9 = .ok (.istore_n 2, 1) := by decide +kernel
theorem dX10_wordAmong_10 : decode cX10_wordAmong 10 = .ok (.iload_n 2, 1) := by decide +kernel
theorem dX10_wordAmong_11 : decode cX10_wordAmong 11 = .ok (.aload_n 0, 1) := by decide +kernel
theorem dX10_wordAmong_12 : decode cX10_wordAmong 12 = .ok (.getfield 15, 3) := by decide +kernel
theorem dX10_wordAmong_15 : decode cX10_wordAmong 15 = .ok (.if_icmp .ge 21, 3) := by decide +kernel
theorem dX10_wordAmong_18 : decode cX10_wordAmong 18 = .ok (.aload_n 0, 1) := by decide +kernel
theorem dX10_wordAmong_19 : decode cX10_wordAmong 19 = .ok (.getfield 9, 3) := by decide +kernel
theorem dX10_wordAmong_22 : decode cX10_wordAmong 22 = .ok (.iload_n 2, 1) := by decide +kernel
theorem dX10_wordAmong_23 : decode cX10_wordAmong 23 = .ok (.baload, 1) := by decide +kernel
theorem dX10_wordAmong_24 : decode cX10_wordAmong 24 = .ok (.invokestatic 40, 3) := by decide +kernel
theorem dX10_wordAmong_27 : decode cX10_wordAmong 27 = .ok (.ifCond .eq 9, 3) := by decide +kernel
theorem dX10_wordAmong_30 : decode cX10_wordAmong 30 = .ok (.iinc 2 1, 3) := by decide +kernel
theorem dX10_wordAmong_33 : decode cX10_wordAmong 33 = .ok (.goto (-23), 3) := by decide +kernel
theorem dX10_wordAmong_36 : decode cX10_wordAmong 36 = .ok (.iconst 0, 1) := by decide +kernel
theorem dX10_wordAmong_37 : decode cX10_wordAmong 37 = .ok (.istore_n 3, 1) := by decide +kernel
theorem dX10_wordAmong_38 : decode cX10_wordAmong 38 = .ok (.iconst 0, 1) := by decide +kernel
theorem dX10_wordAmong_39 : decode cX10_wordAmong 39 = .ok (.istore 4, 2) := by decide +kernel
theorem dX10_wordAmong_41 : decode cX10_wordAmong 41 = .ok (.iconst 0, 1) := by decide +kernel
theorem dX10_wordAmong_42 : decode cX10_wordAmong 42 = .ok (.istore 5, 2) := by decide +kernel
theorem dX10_wordAmong_44 : decode cX10_wordAmong 44 = .ok (.iload 5, 2) := by decide +kernel
theorem dX10_wordAmong_46 : decode cX10_wordAmong 46 = .ok (.aload_n 1, 1) := by decide +kernel
theorem dX10_wordAmong_47 : decode cX10_wordAmong 47 = .ok (.invokevirtual 43, 3) := by decide +kernel
theorem dX10_wordAmong_50 : decode cX10_wordAmong 50 = .ok (.if_icmp .gt 82, 3) := by decide +kernel
theorem dX10_wordAmong_53 : decode cX10_wordAmong 53 = .ok (.iload 5, 2) := by decide +kernel
theorem dX10_wordAmong_55 : decode cX10_wordAmong 55 = .ok (.aload_n 1, 1) := by decide +kernel
theorem dX10_wordAmong_56 : decode cX10_wordAmong 56 = .ok (.invokevirtual 43, 3) := by decide +kernel
theorem dX10_wordAmong_59 : decode cX10_wordAmong 59 = .ok (.if_icmp .ge 17, 3) := by decide +kernel
theorem dX10_wordAmong_62 : decode cX10_wordAmong 62 = .ok (.aload_n 1, 1) := by decide +kernel
theorem dX10_wordAmong_63 : decode cX10_wordAmong 63 = .ok (.iload 5, 2) := by decide +kernel
theorem dX10_wordAmong_65 : decode cX10_wordAmong 65 = .ok (.invokevirtual 47, 3) := by decide +kernel
theorem dX10_wordAmong_68 : decode cX10_wordAmong 68 = .ok (.bipush 32, 2) := by decide +kernel
theorem dX10_wordAmong_70 : decode cX10_wordAmong 70 = .ok (.if_icmp .eq 6, 3) := by decide +kernel
theorem dX10_wordAmong_73 : decode cX10_wordAmong 73 = .ok (.goto 53, 3) := by decide +kernel
theorem dX10_wordAmong_76 : decode cX10_wordAmong 76 = .ok (.iload 5, 2) := by decide +kernel
theorem dX10_wordAmong_78 : decode cX10_wordAmong 78 = .ok (.iload 4, 2) := by decide +kernel
theorem dX10_wordAmong_80 : decode cX10_wordAmong 80 = .ok (.isub, 1) := by decide +kernel
theorem dX10_wordAmong_81 : decode cX10_wordAmong 81 = .ok (.iload_n 2, 1) := by decide +kernel
theorem dX10_wordAmong_82 : decode cX10_wordAmong 82 = .ok (.aload_n 0, 1) := by decide +kernel
theorem dX10_wordAmong_83 : decode cX10_wordAmong 83 = .ok (.getfield 19, 3) := by decide +kernel
theorem dX10_wordAmong_86 : decode cX10_wordAmong 86 = .ok (.isub, 1) := by decide +kernel
theorem dX10_wordAmong_87 : decode cX10_wordAmong 87 = .ok (.if_icmp .ne 30, 3) := by decide +kernel
theorem dX10_wordAmong_90 : decode cX10_wordAmong 90 = .ok (.aload_n 0, 1) := by decide +kernel
theorem dX10_wordAmong_91 : decode cX10_wordAmong 91 = .ok (.aload_n 1, 1) := by decide +kernel
theorem dX10_wordAmong_92 : decode cX10_wordAmong 92 = .ok (.iload 4, 2) := by decide +kernel
theorem dX10_wordAmong_94 : decode cX10_wordAmong 94 = .ok (.iload 5, 2) := by decide +kernel
theorem dX10_wordAmong_96 : decode cX10_wordAmong 96 = .ok (.invokevirtual 51, 3) := by decide +kernel
theorem dX10_wordAmong_99 : decode cX10_wordAmong 99 = .ok (.ifCond .eq 18, 3) := by decide +kernel
theorem dX10_wordAmong_102 : decode cX10_wordAmong 102 = .ok (.aload_n 0, 1) := by decide +kernel
theorem dX10_wordAmong_103 : decode cX10_wordAmong 103 = .ok (.aload_n 0, 1) := by decide +kernel
theorem dX10_wordAmong_104 : decode cX10_wordAmong 104 = .ok (.getfield 19, 3) := by decide +kernel
theorem dX10_wordAmong_107 : decode cX10_wordAmong 107 = .ok (.putfield 22, 3) := by decide +kernel
theorem dX10_wordAmong_110 : decode cX10_wordAmong 110 = .ok (.aload_n 0, 1) := by decide +kernel
theorem dX10_wordAmong_111 : decode cX10_wordAmong 111 = .ok (.iload_n 2, 1) := by decide +kernel
theorem dX10_wordAmong_112 : decode cX10_wordAmong 112 = .ok (.putfield 19, 3) := by decide +kernel
theorem dX10_wordAmong_115 : decode cX10_wordAmong 115 = .ok (.iload_n 3, 1) := by decide +kernel
theorem dX10_wordAmong_116 : decode cX10_wordAmong 116 = .ok (.ireturn, 1) := by decide +kernel
theorem dX10_wordAmong_117 : decode cX10_wordAmong 117 = .ok (.iinc 3 1, 3) := by decide +kernel
theorem dX10_wordAmong_120 : decode cX10_wordAmong 120 = .ok (.iload 5, 2) := by decide +kernel
theorem dX10_wordAmong_122 : decode cX10_wordAmong 122 = .ok (.iconst 1, 1) := by decide +kernel
theorem dX10_wordAmong_123 : decode cX10_wordAmong 123 = .ok (.iadd, 1) := by decide +kernel
theorem dX10_wordAmong_124 : decode cX10_wordAmong 124 = .ok (.istore 4, 2) := by decide +kernel
theorem dX10_wordAmong_126 : decode cX10_wordAmong 126 = .ok (.iinc 5 1, 3) := by decide +kernel
theorem dX10_wordAmong_129 : decode cX10_wordAmong 129 = .ok (.goto (-85), 3) := by decide +kernel
theorem dX10_wordAmong_132 : decode cX10_wordAmong 132 = .ok (.iconst (-1), 1) := by decide +kernel
theorem dX10_wordAmong_133 : decode cX10_wordAmong 133 = .ok (.ireturn, 1) := by decide +kernel
theorem dX10_acceptWord_0 : decode cX10_acceptWord 0 = .ok (.aload_n 0, 1) := by decide +kernel
theorem dX10_acceptWord_1 : decode cX10_acceptWord 1 = .ok (.aload_n 1, 1) := by decide +kernel
theorem dX10_acceptWord_2 : decode cX10_acceptWord 2 = .ok (.invokevirtual 55, 3) := by decide +kernel
theorem dX10_acceptWord_5 : decode cX10_acceptWord 5 = .ok (.ifCond .ne 7, 3) := by decide +kernel
theorem dX10_acceptWord_8 : decode cX10_acceptWord 8 = .ok (.iconst 1, 1) := by decide +kernel
theorem dX10_acceptWord_9 : decode cX10_acceptWord 9 = .ok (.goto 4, 3) := by decide +kernel
theorem dX10_acceptWord_12 : decode cX10_acceptWord 12 = .ok (.iconst 0, 1) := by decide +kernel
theorem dX10_acceptWord_13 : decode cX10_acceptWord 13 = .ok (.ireturn, 1) := by decide +kernel
theorem dX10_matches_0 : decode cX10_matches 0 = .ok (.iload_n 2, 1) := by decide +kernel
theorem dX10_matches_1 : decode cX10_matches 1 = .ok (.istore 4, 2) := by decide +kernel
theorem dX10_matches_3 : decode cX10_matches 3 = .ok (.iload 4, 2) := by decide +kernel
theorem dX10_matches_5 : decode cX10_matches 5 = .ok (.iload_n 3, 1) := by decide +kernel
theorem dX10_matches_6 : decode cX10_matches 6 = .ok (.if_icmp .ge 47, 3) := by decide +kernel
theorem dX10_matches_9 : decode cX10_matches 9 = .ok (.aload_n 0, 1) := by decide +kernel
theorem dX10_matches_10 : decode cX10_matches 10 = .ok (.getfield 19, 3) := by decide +kernel
theorem dX10_matches_13 : decode cX10_matches 13 = .ok (.iload 4, 2) := by decide +kernel
theorem dX10_matches_15 : decode cX10_matches 15 = .ok (.iadd, 1) := by decide +kernel
theorem dX10_matches_16 : decode cX10_matches 16 = .ok (.iload_n 2, 1) := by decide +kernel
theorem dX10_matches_17 : decode cX10_matches 17 = .ok (.isub, 1) := by decide +kernel
theorem dX10_matches_18 : decode cX10_matches 18 = .ok (.istore 5, 2) := by decide +kernel
theorem dX10_matches_20 : decode cX10_matches 20 = .ok (.iload 5, 2) := by decide +kernel
theorem dX10_matches_22 : decode cX10_matches 22 = .ok (.aload_n 0, 1) := by decide +kernel
theorem dX10_matches_23 : decode cX10_matches 23 = .ok (.getfield 15, 3) := by decide +kernel
theorem dX10_matches_26 : decode cX10_matches 26 = .ok (.if_icmp .ge 19, 3) := by decide +kernel
theorem dX10_matches_29 : decode cX10_matches 29 = .ok (.aload_n 1, 1) := by decide +kernel
theorem dX10_matches_30 : decode cX10_matches 30 = .ok (.iload 4, 2) := by decide +kernel
theorem dX10_matches_32 : decode cX10_matches 32 = .ok (.invokevirtual 47, 3) := by decide +kernel
theorem dX10_matches_35 : decode cX10_matches 35 = .ok (.aload_n 0, 1) := by decide +kernel
theorem dX10_matches_36 : decode cX10_matches 36 = .ok (.getfield 9, 3) := by decide +kernel
theorem dX10_matches_39 : decode cX10_matches 39 = .ok (.iload 5, 2) := by decide +kernel
theorem dX10_matches_41 : decode cX10_matches 41 = .ok (.baload, 1) := by decide +kernel
theorem dX10_matches_42 : decode cX10_matches 42 = .ok (.if_icmp .eq 5, 3) := by decide +kernel
theorem dX10_matches_45 : decode cX10_matches 45 = .ok (.iconst 0, 1) := by decide +kernel
theorem dX10_matches_46 : decode cX10_matches 46 = .ok (.ireturn, 1) := by decide +kernel
theorem dX10_matches_47 : decode cX10_matches 47 = .ok (.iinc 4 1, 3) := by decide +kernel
theorem dX10_matches_50 : decode cX10_matches 50 = .ok (.goto (-47), 3) := by decide +kernel
theorem dX10_matches_53 : decode cX10_matches 53 = .ok (.iconst 1, 1) := by decide +kernel
theorem dX10_matches_54 : decode cX10_matches 54 = .ok (.ireturn, 1) := by decide +kernel
theorem dX11_init_0 : decode cX11_init 0 = .ok (.aload_n 0, 1) := by decide +kernel
theorem dX11_init_1 : decode cX11_init 1 = .ok (.invokespecial 3, 3) := by decide +kernel
theorem dX11_init_4 : decode cX11_init 4 = .ok (.aload_n 0, 1) := by decide +kernel
theorem dX11_init_5 : decode cX11_init 5 = .ok (.new 9, 3) := by decide +kernel
theorem dX11_init_8 : decode cX11_init 8 = .ok (.dup, 1) := by decide +kernel
theorem dX11_init_9 : decode cX11_init 9 = .ok (.invokespecial 11, 3) := by decide +kernel
theorem dX11_init_12 : decode cX11_init 12 = .ok (.putfield 12, 3) := by decide +kernel
theorem dX11_init_15 : decode cX11_init 15 = .ok (.aload_n 0, 1) := by decide +kernel
theorem dX11_init_16 : decode cX11_init 16 = .ok (.new 16, 3) := by decide +kernel
theorem dX11_init_19 : decode cX11_init 19 = .ok (.dup, 1) := by decide +kernel
theorem dX11_init_20 : decode cX11_init 20 = .ok (.aload_n 0, 1) := by decide +kernel
theorem dX11_init_21 : decode cX11_init 21 = .ok (.getfield 12, 3) := by decide +kernel
theorem dX11_init_24 : decode cX11_init 24 = .ok (.invokespecial 18, 3) := by decide +kernel
theorem dX11_init_27 : decode cX11_init 27 = .ok (.putfield 21, 3) := by decide +kernel
theorem dX11_init_30 : decode cX11_init 30 = .ok (.aload_n 0, 1) := by decide +kernel
theorem dX11_init_31 : decode cX11_init 31 = .ok (.new 25, 3) := by decide +kernel
theorem dX11_init_34 : decode cX11_init 34 = .ok (.dup, 1) := by decide +kernel
theorem dX11_init_35 : decode cX11_init 35 = .ok (.aload_n 0, 1) := by decide +kernel
theorem dX11_init_36 : decode cX11_init 36 = .ok (.getfield 12, 3) := by decide +kernel
theorem dX11_init_39 : decode cX11_init 39 = .ok (.invokespecial 27, 3) := by decide +kernel
theorem dX11_init_42 : decode cX11_init 42 = .ok (.putfield 28, 3) := by decide +kernel
theorem dX11_init_45 : decode cX11_init 45 = .ok (.aload_n 0, 1) := by decide +kernel
theorem dX11_init_46 : decode cX11_init 46 = .ok (.new 32, 3) := by decide +kernel
theorem dX11_init_49 : decode cX11_init 49 = .ok (.dup, 1) := by decide +kernel
theorem dX11_init_50 : decode cX11_init 50 = .ok (.invokespecial 34, 3) := by decide +kernel
theorem dX11_init_53 : decode cX11_init 53 = .ok (.putfield 35, 3) := by decide +kernel
theorem dX11_init_56 : decode cX11_init 56 = .ok (.aload_n 0, 1) := by decide +kernel
theorem dX11_init_57 : decode cX11_init 57 = .ok (.iconst 4, 1) := by decide +kernel
theorem dX11_init_58 : decode cX11_init 58 = .ok (.anewarray 32, 3) := by decide +kernel
theorem dX11_init_61 : decode cX11_init 61 = .ok (.putfield 39, 3) := by decide +kernel
theorem dX11_init_64 : decode cX11_init 64 = .ok (.aload_n 0, 1) := by decide +kernel
theorem dX11_init_65 : decode cX11_init 65 = .ok (.iconst 4, 1) := by decide +kernel
theorem dX11_init_66 : decode cX11_init 66 = .ok (.newarray .boolean, 2) := by decide +kernel
theorem dX11_init_68 : decode cX11_init 68 = .ok (.putfield 43, 3) := by decide +kernel
theorem dX11_init_71 : decode cX11_init 71 = .ok (.aload_n 0, 1) := by decide +kernel
theorem dX11_init_72 : decode cX11_init 72 = .ok (.bipush 6, 2) := by decide +kernel
theorem dX11_init_74 : decode cX11_init 74 = .ok (.anewarray 47, 3) := by decide +kernel
theorem dX11_init_77 : decode cX11_init 77 = .ok (.putfield 49, 3) := by decide +kernel
theorem dX11_init_80 : decode cX11_init 80 = .ok (.aload_n 0, 1) := by decide +kernel
theorem dX11_init_81 : decode cX11_init 81 = .ok (.new 53, 3) := by decide +kernel
theorem dX11_init_84 : decode cX11_init 84 = .ok (.dup, 1) := by decide +kernel
theorem dX11_init_85 : decode cX11_init 85 = .ok (.invokespecial 55, 3) := by decide +kernel
theorem dX11_init_88 : decode cX11_init 88 = .ok (.putfield 56, 3) := by decide +kernel
theorem dX11_init_91 : decode cX11_init 91 = .ok (.aload_n 0, 1) := by decide +kernel
theorem dX11_init_92 : decode cX11_init 92 = .ok (.new 60, 3) := by decide +kernel
theorem dX11_init_95 : decode cX11_init 95 = .ok (.dup, 1) := by decide +kernel
theorem dX11_init_96 : decode cX11_init 96 = .ok (.aload_n 0, 1) := by decide +kernel
theorem dX11_init_97 : decode cX11_init 97 = .ok (.getfield 35, 3) := by decide +kernel
theorem dX11_init_100 : decode cX11_init 100 = .ok (.aload_n 0, 1) := by decide +kernel
theorem dX11_init_101 : decode cX11_init 101 = .ok (.getfield 56, 3) := by decide +kernel
theorem dX11_init_104 : decode cX11_init 104 = .ok (.invokespecial 62, 3) := by decide +kernel
theorem dX11_init_107 : decode cX11_init 107 = .ok (.putfield 65, 3) := by decide +kernel
theorem dX11_init_110 : decode cX11_init 110 = .ok (.aload_n 0, 1) := by decide +kernel
theorem dX11_init_111 : decode cX11_init 111 = .ok (.new 69, 3) := by decide +kernel
theorem dX11_init_114 : decode cX11_init 114 = .ok (.dup, 1) := by decide +kernel
theorem dX11_init_115 : decode cX11_init 115 = .ok (.aload_n 0, 1) := by decide +kernel
theorem dX11_init_116 : decode cX11_init 116 = .ok (.getfield 35, 3) := by decide +kernel
theorem dX11_init_119 : decode cX11_init 119 = .ok (.getfield 71, 3) := by decide +kernel
theorem dX11_init_122 : decode cX11_init 122 = .ok (.invokespecial 75, 3) := by decide +kernel
theorem dX11_init_125 : decode cX11_init 125 = .ok (.putfield 78, 3) := by decide +kernel
theorem dX11_init_128 : decode cX11_init 128 = .ok (.aload_n 0, 1) := by decide +kernel
theorem dX11_init_129 : decode cX11_init 129 = .ok (.new 82, 3) := by decide +kernel
theorem dX11_init_132 : decode cX11_init 132 = .ok (.dup, 1) := by decide +kernel
theorem dX11_init_133 : decode cX11_init 133 = .ok (.aload_n 0, 1) := by decide +kernel
theorem dX11_init_134 : decode cX11_init 134 = .ok (.getfield 35, 3) := by decide +kernel
theorem dX11_init_137 : decode cX11_init 137 = .ok (.getfield 71, 3) := by decide +kernel
theorem dX11_init_140 : decode cX11_init 140 = .ok (.invokespecial 84, 3) := by decide +kernel
theorem dX11_init_143 : decode cX11_init 143 = .ok (.putfield 85, 3) := by decide +kernel
theorem dX11_init_146 : decode cX11_init 146 = .ok (.aload_n 0, 1) := by decide +kernel
theorem dX11_init_147 : decode cX11_init 147 = .ok (.new 89, 3) := by decide +kernel
theorem dX11_init_150 : decode cX11_init 150 = .ok (.dup, 1) := by decide +kernel
theorem dX11_init_151 : decode cX11_init 151 = .ok (.aload_n 0, 1) := by decide +kernel
theorem dX11_init_152 : decode cX11_init 152 = .ok (.getfield 35, 3) := by decide +kernel
theorem dX11_init_155 : decode cX11_init 155 = .ok (.getfield 91, 3) := by decide +kernel
theorem dX11_init_158 : decode cX11_init 158 = .ok (.invokespecial 95, 3) := by decide +kernel
theorem dX11_init_161 : decode cX11_init 161 = .ok (.putfield 98, 3) := by decide +kernel
theorem dX11_init_164 : decode cX11_init 164 = .ok (.aload_n 0, 1) := by decide +kernel
theorem dX11_init_165 : decode cX11_init 165 = .ok (.iconst 3, 1) := by decide +kernel
theorem dX11_init_166 : decode cX11_init 166 = .ok (.newarray .int, 2) := by decide +kernel
theorem dX11_init_168 : decode cX11_init 168 = .ok (.putfield 101, 3) := by decide +kernel
theorem dX11_init_171 : decode cX11_init 171 = .ok (.iconst 0, 1) := by decide +kernel
theorem dX11_init_172 : decode cX11_init 172 = .ok (.istore_n 1, 1) := by decide +kernel
theorem dX11_init_173 : decode cX11_init 173 = .ok (.iload_n 1, 1) := by decide +kernel
theorem dX11_init_174 : decode cX11_init 174 = .ok (.iconst 4, 1) := by decide +kernel
theorem dX11_init_175 : decode cX11_init 175 = .ok (.if_icmp .ge 22, 3) := by decide +kernel
theorem dX11_init_178 : decode cX11_init 178 = .ok (.aload_n 0, 1) := by decide +kernel
theorem dX11_init_179 : decode cX11_init 179 = .ok (.getfield 39, 3) := by decide +kernel
theorem dX11_init_182 : decode cX11_init 182 = .ok (.iload_n 1, 1) := by decide +kernel
theorem dX11_init_183 : decode cX11_init 183 = .ok (.new 32, 3) := by decide +kernel
theorem dX11_init_186 : decode cX11_init 186 = .ok (.dup, 1) := by decide +kernel
theorem dX11_init_187 : decode cX11_init 187 = .ok (.invokespecial 34, 3) := by decide +kernel
theorem dX11_init_190 : decode cX11_init 190 = .ok (.aastore, 1) := by decide +kernel
theorem dX11_init_191 : decode cX11_init 191 = .ok (.iinc 1 1, 3) := by decide +kernel
theorem dX11_init_194 : decode cX11_init 194 = .ok (.goto (-21), 3) := by decide +kernel
theorem dX11_init_197 : decode cX11_init 197 = .ok (.iconst 0, 1) := by decide +kernel
theorem dX11_init_198 : decode cX11_init 198 = .ok (.istore_n 1, 1) := by decide +kernel
theorem dX11_init_199 : decode cX11_init 199 = .ok (.iload_n 1, 1) := by decide +kernel
theorem dX11_init_200 : decode cX11_init 200 = .ok (.bipush 6, 2) := by decide +kernel
theorem dX11_init_202 : decode cX11_init 202 = .ok (.if_icmp .ge 22, 3) := by decide +kernel
theorem dX11_init_205 : decode cX11_init 205 = .ok (.aload_n 0, 1) := by decide +kernel
theorem dX11_init_206 : decode cX11_init 206 = .ok (.getfield 49, 3) := by decide +kernel
theorem dX11_init_209 : decode cX11_init 209 = .ok (.iload_n 1, 1) := by decide +kernel
theorem dX11_init_210 : decode cX11_init 210 = .ok (.new 47, 3) := by decide +kernel
theorem dX11_init_213 : decode cX11_init 213 = .ok (.dup, 1) := by decide +kernel
theorem dX11_init_214 : decode cX11_init 214 = .ok (.invokespecial 105, 3) := by decide +kernel
theorem dX11_init_217 : decode cX11_init 217 = .ok (.aastore, 1) := by decide +kernel
theorem dX11_init_218 : decode cX11_init 218 = .ok (.iinc 1 1, 3) := by decide +kernel
theorem dX11_init_221 : decode cX11_init 221 = .ok (.goto (-22), 3) := by decide +kernel
theorem dX11_init_224 : decode cX11_init 224 = .ok (.return_, 1) := by decide +kernel
theorem dX11_feed_0 : decode cX11_feed 0 = .ok (.aload_n 0, 1) := by decide +kernel
theorem dX11_feed_1 : decode cX11_feed 1 = .ok (.getfield 12, 3) := by decide +kernel
theorem dX11_feed_4 : decode cX11_feed 4 = .ok (.getfield 106, 3) := by decide +kernel
theorem dX11_feed_7 : decode cX11_feed 7 = .ok (.bipush 20, 2) := by decide +kernel
theorem dX11_feed_9 : decode cX11_feed 9 = .ok (.iadd, 1) := by decide +kernel
theorem dX11_feed_10 : decode cX11_feed 10 = .ok (.sipush 400, 3) := by decide +kernel
theorem dX11_feed_13 : decode cX11_feed 13 = .ok (.if_icmp .le 5, 3) := by decide +kernel
theorem dX11_feed_16 : decode cX11_feed 16 = .ok (.iconst (-1), 1) := by decide +kernel
theorem dX11_feed_17 : decode cX11_feed 17 = .ok (.ireturn, 1) := by decide +kernel
theorem dX11_feed_18 : decode cX11_feed 18 = .ok (.aload_n 0, 1) := by decide +kernel
theorem dX11_feed_19 : decode cX11_feed 19 = .ok (.getfield 12, 3) := by decide +kernel
theorem dX11_feed_22 : decode cX11_feed 22 = .ok (.iload_n 1, 1) := by decide +kernel
theorem dX11_feed_23 : decode cX11_feed 23 = .ok (.invokevirtual 110, 3) := by decide +kernel
theorem dX11_feed_26 : decode cX11_feed 26 = .ok (.aload_n 0, 1) := by decide +kernel
theorem dX11_feed_27 : decode cX11_feed 27 = .ok (.getfield 12, 3) := by decide +kernel
theorem dX11_feed_30 : decode cX11_feed 30 = .ok (.iload_n 2, 1) := by decide +kernel
theorem dX11_feed_31 : decode cX11_feed 31 = .ok (.invokevirtual 110, 3) := by decide +kernel
theorem dX11_feed_34 : decode cX11_feed 34 = .ok (.aload_n 0, 1) := by decide +kernel
theorem dX11_feed_35 : decode cX11_feed 35 = .ok (.getfield 12, 3) := by decide +kernel
theorem dX11_feed_38 : decode cX11_feed 38 = .ok (.iload_n 3, 1) := by decide +kernel
theorem dX11_feed_39 : decode cX11_feed 39 = .ok (.invokevirtual 110, 3) := by decide +kernel
theorem dX11_feed_42 : decode cX11_feed 42 = .ok (.aload_n 0, 1) := by decide +kernel
theorem dX11_feed_43 : decode cX11_feed 43 = .ok (.getfield 12, 3) := by decide +kernel
theorem dX11_feed_46 : decode cX11_feed 46 = .ok (.iload 4, 2) := by decide +kernel
theorem dX11_feed_48 : decode cX11_feed 48 = .ok (.invokevirtual 110, 3) := by decide +kernel
theorem dX11_feed_51 : decode cX11_feed 51 = .ok (.aload_n 0, 1) := by decide +kernel
theorem dX11_feed_52 : decode cX11_feed 52 = .ok (.getfield 12, 3) := by decide +kernel
theorem dX11_feed_55 : decode cX11_feed 55 = .ok (.iload 5, 2) := by decide +kernel
theorem dX11_feed_57 : decode cX11_feed 57 = .ok (.invokevirtual 110, 3) := by decide +kernel
theorem dX11_feed_60 : decode cX11_feed 60 = .ok (.aload_n 0, 1) := by decide +kernel
theorem dX11_feed_61 : decode cX11_feed 61 = .ok (.getfield 12, 3) := by decide +kernel
theorem dX11_feed_64 : decode cX11_feed 64 = .ok (.getfield 106, 3) := by decide +kernel
theorem dX11_feed_67 : decode cX11_feed 67 = .ok (.ireturn, 1) := by decide +kernel
theorem dX11_end_0 : decode cX11_end 0 = .ok (.iload_n 1, 1) := by decide +kernel
theorem dX11_end_1 : decode cX11_end 1 = .ok (.ifCond .lt 14, 3) := by decide +kernel
theorem dX11_end_4 : decode cX11_end 4 = .ok (.iload_n 1, 1) := by decide +kernel
theorem dX11_end_5 : decode cX11_end 5 = .ok (.aload_n 0, 1) := by decide +kernel
theorem dX11_end_6 : decode cX11_end 6 = .ok (.getfield 12, 3) := by decide +kernel
theorem dX11_end_9 : decode cX11_end 9 = .ok (.getfield 106, 3) := by decide +kernel
theorem dX11_end_12 : decode cX11_end 12 = .ok (.if_icmp .le 5, 3) := by decide +kernel
theorem dX11_end_15 : decode cX11_end 15 = .ok (.iconst (-1), 1) := by decide +kernel
theorem dX11_end_16 : decode cX11_end 16 = .ok (.ireturn, 1) := by decide +kernel
theorem dX11_end_17 : decode cX11_end 17 = .ok (.aload_n 0, 1) := by decide +kernel
theorem dX11_end_18 : decode cX11_end 18 = .ok (.getfield 12, 3) := by decide +kernel
theorem dX11_end_21 : decode cX11_end 21 = .ok (.iload_n 1, 1) := by decide +kernel
theorem dX11_end_22 : decode cX11_end 22 = .ok (.putfield 106, 3) := by decide +kernel
theorem dX11_end_25 : decode cX11_end 25 = .ok (.iload_n 1, 1) := by decide +kernel
theorem dX11_end_26 : decode cX11_end 26 = .ok (.ireturn, 1) := by decide +kernel
theorem dX11_river_0 : decode cX11_river 0 = .ok (.aload_n 0, 1) := by decide +kernel
theorem dX11_river_1 : decode cX11_river 1 = .ok (.getfield 21, 3) := by decide +kernel
theorem dX11_river_4 : decode cX11_river 4 = .ok (.invokevirtual 114, 3) := by decide +kernel
theorem dX11_river_7 : decode cX11_river 7 = .ok (.istore_n 1, 1) := by decide +kernel
theorem dX11_river_8 : decode cX11_river 8 = .ok (.aload_n 0, 1) := by decide +kernel
theorem dX11_river_9 : decode cX11_river 9 = .ok (.getfield 12, 3) := by decide +kernel
theorem dX11_river_12 : decode cX11_river 12 = .ok (.iconst 0, 1) := by decide +kernel
theorem dX11_river_13 : decode cX11_river 13 = .ok (.putfield 106, 3) := by decide +kernel
theorem dX11_river_16 : decode cX11_river 16 = .ok (.iload_n 1, 1) := by decide +kernel
theorem dX11_river_17 : decode cX11_river 17 = .ok (.ifCond .ne 14, 3) := by decide +kernel
theorem dX11_river_20 : decode cX11_river 20 = .ok (.bipush (-2), 2) := by decide +kernel
theorem dX11_river_22 : decode cX11_river 22 = .ok (.aload_n 0, 1) := by decide +kernel
theorem dX11_river_23 : decode cX11_river 23 = .ok (.getfield 12, 3) := by decide +kernel
theorem dX11_river_26 : decode cX11_river 26 = .ok (.getfield 118, 3) := by decide +kernel
theorem dX11_river_29 : decode cX11_river 29 = .ok (.isub, 1) := by decide +kernel
theorem dX11_river_30 : decode cX11_river 30 = .ok (.ireturn, 1) := by decide +kernel
theorem dX11_river_31 : decode cX11_river 31 = .ok (.aload_n 0, 1) := by decide +kernel
theorem dX11_river_32 : decode cX11_river 32 = .ok (.getfield 35, 3) := by decide +kernel
theorem dX11_river_35 : decode cX11_river 35 = .ok (.aload_n 0, 1) := by decide +kernel
theorem dX11_river_36 : decode cX11_river 36 = .ok (.getfield 21, 3) := by decide +kernel
theorem dX11_river_39 : decode cX11_river 39 = .ok (.getfield 121, 3) := by decide +kernel
theorem dX11_river_42 : decode cX11_river 42 = .ok (.aload_n 0, 1) := by decide +kernel
theorem dX11_river_43 : decode cX11_river 43 = .ok (.getfield 21, 3) := by decide +kernel
theorem dX11_river_46 : decode cX11_river 46 = .ok (.getfield 122, 3) := by decide +kernel
theorem dX11_river_49 : decode cX11_river 49 = .ok (.invokevirtual 123, 3) := by decide +kernel
theorem dX11_river_52 : decode cX11_river 52 = .ok (.aload_n 0, 1) := by decide +kernel
theorem dX11_river_53 : decode cX11_river 53 = .ok (.getfield 35, 3) := by decide +kernel
theorem dX11_river_56 : decode cX11_river 56 = .ok (.getfield 91, 3) := by decide +kernel
theorem dX11_river_59 : decode cX11_river 59 = .ok (.getfield 127, 3) := by decide +kernel
theorem dX11_river_62 : decode cX11_river 62 = .ok (.ireturn, 1) := by decide +kernel
