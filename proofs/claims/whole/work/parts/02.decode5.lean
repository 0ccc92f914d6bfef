theorem dX12_weak_0 : decode cX12_weak 0 = .ok (.aload_n 0, 1) := by decide +kernel
theorem dX12_weak_1 : decode cX12_weak 1 = .ok (.invokevirtual 430, 3) := by decide +kernel
theorem dX12_weak_4 : decode cX12_weak 4 = .ok (.ifCond .eq 13, 3) := by decide +kernel
theorem dX12_weak_7 : decode cX12_weak 7 = .ok (.iload_n 1, 1) := by decide +kernel
theorem dX12_weak_8 : decode cX12_weak 8 = .ok (.i2l, 1) := by decide +kernel
theorem dX12_weak_9 : decode cX12_weak 9 = .ok (.lconst 0, 1) := by decide +kernel
theorem dX12_weak_10 : decode cX12_weak 10 = .ok (.lconst 1, 1) := by decide +kernel
theorem dX12_weak_11 : decode cX12_weak 11 = .ok (.invokestatic 176, 3) := by decide +kernel
theorem dX12_weak_14 : decode cX12_weak 14 = .ok (.ifCond .ne 5, 3) := by decide +kernel
theorem dX12_weak_17 : decode cX12_weak 17 = .ok (.iconst (-1), 1) := by decide +kernel
theorem dX12_weak_18 : decode cX12_weak 18 = .ok (.ireturn, 1) := by decide +kernel
theorem dX12_weak_19 : decode cX12_weak 19 = .ok (.iconst 0, 1) := by decide +kernel
theorem dX12_weak_20 : decode cX12_weak 20 = .ok (.istore_n 2, 1) := by decide +kernel
theorem dX12_weak_21 : decode cX12_weak 21 = .ok (.iconst 0, 1) := by decide +kernel
theorem dX12_weak_22 : decode cX12_weak 22 = .ok (.istore_n 3, 1) := by decide +kernel
theorem dX12_weak_23 : decode cX12_weak 23 = .ok (.iload_n 3, 1) := by decide +kernel
theorem dX12_weak_24 : decode cX12_weak 24 = .ok (.aload_n 0, 1) := by decide +kernel
theorem dX12_weak_25 : decode cX12_weak 25 = .ok (.getfield 9, 3) := by decide +kernel
theorem dX12_weak_28 : decode cX12_weak 28 = .ok (.iconst 4, 1) := by decide +kernel
theorem dX12_weak_29 : decode cX12_weak 29 = .ok (.iaload, 1) := by decide +kernel
theorem dX12_weak_30 : decode cX12_weak 30 = .ok (.if_icmp .ge 59, 3) := by decide +kernel
theorem dX12_weak_33 : decode cX12_weak 33 = .ok (.iload_n 1, 1) := by decide +kernel
theorem dX12_weak_34 : decode cX12_weak 34 = .ok (.ifCond .ne 55, 3) := by decide +kernel
theorem dX12_weak_37 : decode cX12_weak 37 = .ok (.iload_n 2, 1) := by decide +kernel
theorem dX12_weak_38 : decode cX12_weak 38 = .ok (.aload_n 0, 1) := by decide +kernel
theorem dX12_weak_39 : decode cX12_weak 39 = .ok (.aload_n 0, 1) := by decide +kernel
theorem dX12_weak_40 : decode cX12_weak 40 = .ok (.getfield 40, 3) := by decide +kernel
theorem dX12_weak_43 : decode cX12_weak 43 = .ok (.iload_n 3, 1) := by decide +kernel
theorem dX12_weak_44 : decode cX12_weak 44 = .ok (.iaload, 1) := by decide +kernel
theorem dX12_weak_45 : decode cX12_weak 45 = .ok (.aload_n 0, 1) := by decide +kernel
theorem dX12_weak_46 : decode cX12_weak 46 = .ok (.invokevirtual 393, 3) := by decide +kernel
theorem dX12_weak_49 : decode cX12_weak 49 = .ok (.aload_n 0, 1) := by decide +kernel
theorem dX12_weak_50 : decode cX12_weak 50 = .ok (.invokevirtual 396, 3) := by decide +kernel
theorem dX12_weak_53 : decode cX12_weak 53 = .ok (.iconst 1, 1) := by decide +kernel
theorem dX12_weak_54 : decode cX12_weak 54 = .ok (.iload_n 3, 1) := by decide +kernel
theorem dX12_weak_55 : decode cX12_weak 55 = .ok (.ishl, 1) := by decide +kernel
theorem dX12_weak_56 : decode cX12_weak 56 = .ok (.iconst (-1), 1) := by decide +kernel
theorem dX12_weak_57 : decode cX12_weak 57 = .ok (.ixor, 1) := by decide +kernel
theorem dX12_weak_58 : decode cX12_weak 58 = .ok (.iand, 1) := by decide +kernel
theorem dX12_weak_59 : decode cX12_weak 59 = .ok (.invokevirtual 399, 3) := by decide +kernel
theorem dX12_weak_62 : decode cX12_weak 62 = .ok (.aload_n 0, 1) := by decide +kernel
theorem dX12_weak_63 : decode cX12_weak 63 = .ok (.getfield 43, 3) := by decide +kernel
theorem dX12_weak_66 : decode cX12_weak 66 = .ok (.iload_n 3, 1) := by decide +kernel
theorem dX12_weak_67 : decode cX12_weak 67 = .ok (.iaload, 1) := by decide +kernel
theorem dX12_weak_68 : decode cX12_weak 68 = .ok (.invokestatic 390, 3) := by decide +kernel
theorem dX12_weak_71 : decode cX12_weak 71 = .ok (.ifCond .eq 7, 3) := by decide +kernel
theorem dX12_weak_74 : decode cX12_weak 74 = .ok (.iconst 0, 1) := by decide +kernel
theorem dX12_weak_75 : decode cX12_weak 75 = .ok (.goto 6, 3) := by decide +kernel
theorem dX12_weak_78 : decode cX12_weak 78 = .ok (.iconst 1, 1) := by decide +kernel
theorem dX12_weak_79 : decode cX12_weak 79 = .ok (.iload_n 3, 1) := by decide +kernel
theorem dX12_weak_80 : decode cX12_weak 80 = .ok (.ishl, 1) := by decide +kernel
theorem dX12_weak_81 : decode cX12_weak 81 = .ok (.ior, 1) := by decide +kernel
theorem dX12_weak_82 : decode cX12_weak 82 = .ok (.istore_n 2, 1) := by decide +kernel
theorem dX12_weak_83 : decode cX12_weak 83 = .ok (.iinc 3 1, 3) := by decide +kernel
theorem dX12_weak_86 : decode cX12_weak 86 = .ok (.goto (-63), 3) := by decide +kernel
theorem dX12_weak_89 : decode cX12_weak 89 = .ok (.iconst 0, 1) := by decide +kernel
theorem dX12_weak_90 : decode cX12_weak 90 = .ok (.istore_n 3, 1) := by decide +kernel
theorem dX12_weak_91 : decode cX12_weak 91 = .ok (.iload_n 3, 1) := by decide +kernel
theorem dX12_weak_92 : decode cX12_weak 92 = .ok (.aload_n 0, 1) := by decide +kernel
theorem dX12_weak_93 : decode cX12_weak 93 = .ok (.getfield 9, 3) := by decide +kernel
theorem dX12_weak_96 : decode cX12_weak 96 = .ok (.iconst 3, 1) := by decide +kernel
theorem dX12_weak_97 : decode cX12_weak 97 = .ok (.iaload, 1) := by decide +kernel
theorem dX12_weak_98 : decode cX12_weak 98 = .ok (.if_icmp .ge 41, 3) := by decide +kernel
theorem dX12_weak_101 : decode cX12_weak 101 = .ok (.iload_n 1, 1) := by decide +kernel
theorem dX12_weak_102 : decode cX12_weak 102 = .ok (.iconst 1, 1) := by decide +kernel
theorem dX12_weak_103 : decode cX12_weak 103 = .ok (.if_icmp .ne 36, 3) := by decide +kernel
theorem dX12_weak_106 : decode cX12_weak 106 = .ok (.iload_n 2, 1) := by decide +kernel
theorem dX12_weak_107 : decode cX12_weak 107 = .ok (.aload_n 0, 1) := by decide +kernel
theorem dX12_weak_108 : decode cX12_weak 108 = .ok (.getfield 34, 3) := by decide +kernel
theorem dX12_weak_111 : decode cX12_weak 111 = .ok (.iload_n 3, 1) := by decide +kernel
theorem dX12_weak_112 : decode cX12_weak 112 = .ok (.iaload, 1) := by decide +kernel
theorem dX12_weak_113 : decode cX12_weak 113 = .ok (.ifCond .ne 17, 3) := by decide +kernel
theorem dX12_weak_116 : decode cX12_weak 116 = .ok (.aload_n 0, 1) := by decide +kernel
theorem dX12_weak_117 : decode cX12_weak 117 = .ok (.iload_n 3, 1) := by decide +kernel
theorem dX12_weak_118 : decode cX12_weak 118 = .ok (.invokevirtual 576, 3) := by decide +kernel
theorem dX12_weak_121 : decode cX12_weak 121 = .ok (.ifCond .eq 9, 3) := by decide +kernel
theorem dX12_weak_124 : decode cX12_weak 124 = .ok (.iconst 1, 1) := by decide +kernel
theorem dX12_weak_125 : decode cX12_weak 125 = .ok (.iload_n 3, 1) := by decide +kernel
theorem dX12_weak_126 : decode cX12_weak 126 = .ok (.ishl, 1) := by decide +kernel
theorem dX12_weak_127 : decode cX12_weak 127 = .ok (.goto 4, 3) := by decide +kernel
theorem dX12_weak_130 : decode cX12_weak 130 = .ok (.iconst 0, 1) := by decide +kernel
theorem dX12_weak_131 : decode cX12_weak 131 = .ok (.ior, 1) := by decide +kernel
theorem dX12_weak_132 : decode cX12_weak 132 = .ok (.istore_n 2, 1) := by decide +kernel
theorem dX12_weak_133 : decode cX12_weak 133 = .ok (.iinc 3 1, 3) := by decide +kernel
theorem dX12_weak_136 : decode cX12_weak 136 = .ok (.goto (-45), 3) := by decide +kernel
theorem dX12_weak_139 : decode cX12_weak 139 = .ok (.iload_n 2, 1) := by decide +kernel
theorem dX12_weak_140 : decode cX12_weak 140 = .ok (.ireturn, 1) := by decide +kernel
theorem dX12_offer_0 : decode cX12_offer 0 = .ok (.iload_n 1, 1) := by decide +kernel
theorem dX12_offer_1 : decode cX12_offer 1 = .ok (.iconst (-1), 1) := by decide +kernel
theorem dX12_offer_2 : decode cX12_offer 2 = .ok (.if_icmp .ne 13, 3) := by decide +kernel
theorem dX12_offer_5 : decode cX12_offer 5 = .ok (.aload_n 0, 1) := by decide +kernel
theorem dX12_offer_6 : decode cX12_offer 6 = .ok (.getfield 9, 3) := by decide +kernel
theorem dX12_offer_9 : decode cX12_offer 9 = .ok (.bipush 7, 2) := by decide +kernel
theorem dX12_offer_11 : decode cX12_offer 11 = .ok (.iconst 0, 1) := by decide +kernel
theorem dX12_offer_12 : decode cX12_offer 12 = .ok (.iastore, 1) := by decide +kernel
theorem dX12_offer_13 : decode cX12_offer 13 = .ok (.iconst 0, 1) := by decide +kernel
theorem dX12_offer_14 : decode cX12_offer 14 = .ok (.ireturn, 1) := by decide +kernel
theorem dX12_offer_15 : decode cX12_offer 15 = .ok (.aload_n 0, 1) := by decide +kernel
theorem dX12_offer_16 : decode cX12_offer 16 = .ok (.getfield 9, 3) := by decide +kernel
theorem dX12_offer_19 : decode cX12_offer 19 = .ok (.bipush 7, 2) := by decide +kernel
theorem dX12_offer_21 : decode cX12_offer 21 = .ok (.iaload, 1) := by decide +kernel
theorem dX12_offer_22 : decode cX12_offer 22 = .ok (.istore 4, 2) := by decide +kernel
theorem dX12_offer_24 : decode cX12_offer 24 = .ok (.aload_n 0, 1) := by decide +kernel
theorem dX12_offer_25 : decode cX12_offer 25 = .ok (.invokevirtual 430, 3) := by decide +kernel
theorem dX12_offer_28 : decode cX12_offer 28 = .ok (.ifCond .eq 46, 3) := by decide +kernel
theorem dX12_offer_31 : decode cX12_offer 31 = .ok (.iload_n 1, 1) := by decide +kernel
theorem dX12_offer_32 : decode cX12_offer 32 = .ok (.i2l, 1) := by decide +kernel
theorem dX12_offer_33 : decode cX12_offer 33 = .ok (.lconst 0, 1) := by decide +kernel
theorem dX12_offer_34 : decode cX12_offer 34 = .ok (.ldc2_w 579, 3) := by decide +kernel
theorem dX12_offer_37 : decode cX12_offer 37 = .ok (.invokestatic 176, 3) := by decide +kernel
theorem dX12_offer_40 : decode cX12_offer 40 = .ok (.ifCond .eq 34, 3) := by decide +kernel
theorem dX12_offer_43 : decode cX12_offer 43 = .ok (.iload_n 2, 1) := by decide +kernel
theorem dX12_offer_44 : decode cX12_offer 44 = .ok (.i2l, 1) := by decide +kernel
theorem dX12_offer_45 : decode cX12_offer 45 = .ok (.lconst 0, 1) := by decide +kernel
theorem dX12_offer_46 : decode cX12_offer 46 = .ok (.ldc2_w 581, 3) := by decide +kernel
theorem dX12_offer_49 : decode cX12_offer 49 = .ok (.invokestatic 176, 3) := by decide +kernel
theorem dX12_offer_52 : decode cX12_offer 52 = .ok (.ifCond .eq 22, 3) := by decide +kernel
theorem dX12_offer_55 : decode cX12_offer 55 = .ok (.iload_n 3, 1) := by decide +kernel
theorem dX12_offer_56 : decode cX12_offer 56 = .ok (.i2l, 1) := by decide +kernel
theorem dX12_offer_57 : decode cX12_offer 57 = .ok (.lconst 0, 1) := by decide +kernel
theorem dX12_offer_58 : decode cX12_offer 58 = .ok (.ldc2_w 442, 3) := by decide +kernel
theorem dX12_offer_61 : decode cX12_offer 61 = .ok (.invokestatic 176, 3) := by decide +kernel
theorem dX12_offer_64 : decode cX12_offer 64 = .ok (.ifCond .eq 10, 3) := by decide +kernel
theorem dX12_offer_67 : decode cX12_offer 67 = .ok (.iload 4, 2) := by decide +kernel
theorem dX12_offer_69 : decode cX12_offer 69 = .ok (.bipush 6, 2) := by decide +kernel
theorem dX12_offer_71 : decode cX12_offer 71 = .ok (.if_icmp .ne 6, 3) := by decide +kernel
theorem dX12_offer_74 : decode cX12_offer 74 = .ok (.bipush (-2), 2) := by decide +kernel
theorem dX12_offer_76 : decode cX12_offer 76 = .ok (.ireturn, 1) := by decide +kernel
theorem dX12_offer_77 : decode cX12_offer 77 = .ok (.aload_n 0, 1) := by decide +kernel
theorem dX12_offer_78 : decode cX12_offer 78 = .ok (.getfield 55, 3) := by decide +kernel
theorem dX12_offer_81 : decode cX12_offer 81 = .ok (.iload 4, 2) := by decide +kernel
theorem dX12_offer_83 : decode cX12_offer 83 = .ok (.iload_n 1, 1) := by decide +kernel
theorem dX12_offer_84 : decode cX12_offer 84 = .ok (.iastore, 1) := by decide +kernel
theorem dX12_offer_85 : decode cX12_offer 85 = .ok (.aload_n 0, 1) := by decide +kernel
theorem dX12_offer_86 : decode cX12_offer 86 = .ok (.getfield 58, 3) := by decide +kernel
theorem dX12_offer_89 : decode cX12_offer 89 = .ok (.iload 4, 2) := by decide +kernel
theorem dX12_offer_91 : decode cX12_offer 91 = .ok (.iload_n 2, 1) := by decide +kernel
theorem dX12_offer_92 : decode cX12_offer 92 = .ok (.iastore, 1) := by decide +kernel
theorem dX12_offer_93 : decode cX12_offer 93 = .ok (.aload_n 0, 1) := by decide +kernel
theorem dX12_offer_94 : decode cX12_offer 94 = .ok (.getfield 61, 3) := by decide +kernel
theorem dX12_offer_97 : decode cX12_offer 97 = .ok (.iload 4, 2) := by decide +kernel
theorem dX12_offer_99 : decode cX12_offer 99 = .ok (.iload_n 3, 1) := by decide +kernel
theorem dX12_offer_100 : decode cX12_offer 100 = .ok (.iastore, 1) := by decide +kernel
theorem dX12_offer_101 : decode cX12_offer 101 = .ok (.aload_n 0, 1) := by decide +kernel
theorem dX12_offer_102 : decode cX12_offer 102 = .ok (.getfield 9, 3) := by decide +kernel
theorem dX12_offer_105 : decode cX12_offer 105 = .ok (.bipush 7, 2) := by decide +kernel
theorem dX12_offer_107 : decode cX12_offer 107 = .ok (.dup2, 1) := by decide +kernel
theorem dX12_offer_108 : decode cX12_offer 108 = .ok (.iaload, 1) := by decide +kernel
theorem dX12_offer_109 : decode cX12_offer 109 = .ok (.iconst 1, 1) := by decide +kernel
theorem dX12_offer_110 : decode cX12_offer 110 = .ok (.iadd, 1) := by decide +kernel
theorem dX12_offer_111 : decode cX12_offer 111 = .ok (.iastore, 1) := by decide +kernel
theorem dX12_offer_112 : decode cX12_offer 112 = .ok (.iload 4, 2) := by decide +kernel
theorem dX12_offer_114 : decode cX12_offer 114 = .ok (.iconst 1, 1) := by decide +kernel
theorem dX12_offer_115 : decode cX12_offer 115 = .ok (.iadd, 1) := by decide +kernel
theorem dX12_offer_116 : decode cX12_offer 116 = .ok (.ireturn, 1) := by decide +kernel
theorem dX12_soaked_0 : decode cX12_soaked 0 = .ok (.iload_n 0, 1) := by decide +kernel
theorem dX12_soaked_1 : decode cX12_soaked 1 = .ok (.iload_n 1, 1) := by decide +kernel
theorem dX12_soaked_2 : decode cX12_soaked 2 = .ok (.iload_n 2, 1) := by decide +kernel
theorem dX12_soaked_3 : decode cX12_soaked 3 = .ok (.imul, 1) := by decide +kernel
theorem dX12_soaked_4 : decode cX12_soaked 4 = .ok (.isub, 1) := by decide +kernel
theorem dX12_soaked_5 : decode cX12_soaked 5 = .ok (.istore_n 3, 1) := by decide +kernel
theorem dX12_soaked_6 : decode cX12_soaked 6 = .ok (.iload_n 3, 1) := by decide +kernel
theorem dX12_soaked_7 : decode cX12_soaked 7 = .ok (.ifCond .le 7, 3) := by decide +kernel
theorem dX12_soaked_10 : decode cX12_soaked 10 = .ok (.iload_n 3, 1) := by decide +kernel
theorem dX12_soaked_11 : decode cX12_soaked 11 = .ok (.goto 4, 3) := by decide +kernel
theorem dX12_soaked_14 : decode cX12_soaked 14 = .ok (.iconst 0, 1) := by decide +kernel
theorem dX12_soaked_15 : decode cX12_soaked 15 = .ok (.ireturn, 1) := by decide +kernel
theorem dX12_milesWith_0 : decode cX12_milesWith 0 = .ok (.aload_n 0, 1) := by decide +kernel
theorem dX12_milesWith_1 : decode cX12_milesWith 1 = .ok (.iload_n 1, 1) := by decide +kernel
theorem dX12_milesWith_2 : decode cX12_milesWith 2 = .ok (.invokevirtual 409, 3) := by decide +kernel
theorem dX12_milesWith_5 : decode cX12_milesWith 5 = .ok (.aload_n 0, 1) := by decide +kernel
theorem dX12_milesWith_6 : decode cX12_milesWith 6 = .ok (.iload_n 1, 1) := by decide +kernel
theorem dX12_milesWith_7 : decode cX12_milesWith 7 = .ok (.aload_n 0, 1) := by decide +kernel
theorem dX12_milesWith_8 : decode cX12_milesWith 8 = .ok (.invokevirtual 396, 3) := by decide +kernel
theorem dX12_milesWith_11 : decode cX12_milesWith 11 = .ok (.invokevirtual 412, 3) := by decide +kernel
theorem dX12_milesWith_14 : decode cX12_milesWith 14 = .ok (.iadd, 1) := by decide +kernel
theorem dX12_milesWith_15 : decode cX12_milesWith 15 = .ok (.iload_n 2, 1) := by decide +kernel
theorem dX12_milesWith_16 : decode cX12_milesWith 16 = .ok (.iconst (-1), 1) := by decide +kernel
theorem dX12_milesWith_17 : decode cX12_milesWith 17 = .ok (.if_icmp .ne 7, 3) := by decide +kernel
theorem dX12_milesWith_20 : decode cX12_milesWith 20 = .ok (.iconst 0, 1) := by decide +kernel
theorem dX12_milesWith_21 : decode cX12_milesWith 21 = .ok (.goto 9, 3) := by decide +kernel
theorem dX12_milesWith_24 : decode cX12_milesWith 24 = .ok (.aload_n 0, 1) := by decide +kernel
theorem dX12_milesWith_25 : decode cX12_milesWith 25 = .ok (.getfield 55, 3) := by decide +kernel
theorem dX12_milesWith_28 : decode cX12_milesWith 28 = .ok (.iload_n 2, 1) := by decide +kernel
theorem dX12_milesWith_29 : decode cX12_milesWith 29 = .ok (.iaload, 1) := by decide +kernel
theorem dX12_milesWith_30 : decode cX12_milesWith 30 = .ok (.iadd, 1) := by decide +kernel
theorem dX12_milesWith_31 : decode cX12_milesWith 31 = .ok (.istore_n 3, 1) := by decide +kernel
theorem dX12_milesWith_32 : decode cX12_milesWith 32 = .ok (.iconst 0, 1) := by decide +kernel
theorem dX12_milesWith_33 : decode cX12_milesWith 33 = .ok (.istore 4, 2) := by decide +kernel
theorem dX12_milesWith_35 : decode cX12_milesWith 35 = .ok (.iconst 1, 1) := by decide +kernel
theorem dX12_milesWith_36 : decode cX12_milesWith 36 = .ok (.istore 5, 2) := by decide +kernel
theorem dX12_milesWith_38 : decode cX12_milesWith 38 = .ok (.iload 4, 2) := by decide +kernel
theorem dX12_milesWith_40 : decode cX12_milesWith 40 = .ok (.bipush 100, 2) := by decide +kernel
theorem dX12_milesWith_42 : decode cX12_milesWith 42 = .ok (.if_icmp .ge 124, 3) := by decide +kernel
theorem dX12_milesWith_45 : decode cX12_milesWith 45 = .ok (.iload 5, 2) := by decide +kernel
theorem dX12_milesWith_47 : decode cX12_milesWith 47 = .ok (.ifCond .eq 119, 3) := by decide +kernel
theorem dX12_milesWith_50 : decode cX12_milesWith 50 = .ok (.iload_n 2, 1) := by decide +kernel
theorem dX12_milesWith_51 : decode cX12_milesWith 51 = .ok (.iconst (-1), 1) := by decide +kernel
theorem dX12_milesWith_52 : decode cX12_milesWith 52 = .ok (.if_icmp .ne 7, 3) := by decide +kernel
theorem dX12_milesWith_55 : decode cX12_milesWith 55 = .ok (.iconst 0, 1) := by decide +kernel
theorem dX12_milesWith_56 : decode cX12_milesWith 56 = .ok (.goto 20, 3) := by decide +kernel
theorem dX12_milesWith_59 : decode cX12_milesWith 59 = .ok (.aload_n 0, 1) := by decide +kernel
theorem dX12_milesWith_60 : decode cX12_milesWith 60 = .ok (.getfield 58, 3) := by decide +kernel
theorem dX12_milesWith_63 : decode cX12_milesWith 63 = .ok (.iload_n 2, 1) := by decide +kernel
theorem dX12_milesWith_64 : decode cX12_milesWith 64 = .ok (.iaload, 1) := by decide +kernel
theorem dX12_milesWith_65 : decode cX12_milesWith 65 = .ok (.aload_n 0, 1) := by decide +kernel
theorem dX12_milesWith_66 : decode cX12_milesWith 66 = .ok (.getfield 61, 3) := by decide +kernel
theorem dX12_milesWith_69 : decode cX12_milesWith 69 = .ok (.iload_n 2, 1) := by decide +kernel
theorem dX12_milesWith_70 : decode cX12_milesWith 70 = .ok (.iaload, 1) := by decide +kernel
theorem dX12_milesWith_71 : decode cX12_milesWith 71 = .ok (.iload 4, 2) := by decide +kernel
theorem dX12_milesWith_73 : decode cX12_milesWith 73 = .ok (.invokestatic 583, 3) := by decide +kernel
theorem dX12_milesWith_76 : decode cX12_milesWith 76 = .ok (.istore 6, 2) := by decide +kernel
theorem dX12_milesWith_78 : decode cX12_milesWith 78 = .ok (.iconst 0, 1) := by decide +kernel
theorem dX12_milesWith_79 : decode cX12_milesWith 79 = .ok (.istore 7, 2) := by decide +kernel
theorem dX12_milesWith_81 : decode cX12_milesWith 81 = .ok (.iload 7, 2) := by decide +kernel
theorem dX12_milesWith_83 : decode cX12_milesWith 83 = .ok (.aload_n 0, 1) := by decide +kernel
theorem dX12_milesWith_84 : decode cX12_milesWith 84 = .ok (.getfield 9, 3) := by decide +kernel
theorem dX12_milesWith_87 : decode cX12_milesWith 87 = .ok (.iconst 3, 1) := by decide +kernel
theorem dX12_milesWith_88 : decode cX12_milesWith 88 = .ok (.iaload, 1) := by decide +kernel
theorem dX12_milesWith_89 : decode cX12_milesWith 89 = .ok (.if_icmp .ge 46, 3) := by decide +kernel
theorem dX12_milesWith_92 : decode cX12_milesWith 92 = .ok (.iload 6, 2) := by decide +kernel
theorem dX12_milesWith_94 : decode cX12_milesWith 94 = .ok (.iload_n 1, 1) := by decide +kernel
theorem dX12_milesWith_95 : decode cX12_milesWith 95 = .ok (.iload 7, 2) := by decide +kernel
theorem dX12_milesWith_97 : decode cX12_milesWith 97 = .ok (.invokestatic 390, 3) := by decide +kernel
theorem dX12_milesWith_100 : decode cX12_milesWith 100 = .ok (.ifCond .eq 25, 3) := by decide +kernel
theorem dX12_milesWith_103 : decode cX12_milesWith 103 = .ok (.aload_n 0, 1) := by decide +kernel
theorem dX12_milesWith_104 : decode cX12_milesWith 104 = .ok (.getfield 28, 3) := by decide +kernel
theorem dX12_milesWith_107 : decode cX12_milesWith 107 = .ok (.iload 7, 2) := by decide +kernel
theorem dX12_milesWith_109 : decode cX12_milesWith 109 = .ok (.iaload, 1) := by decide +kernel
theorem dX12_milesWith_110 : decode cX12_milesWith 110 = .ok (.aload_n 0, 1) := by decide +kernel
theorem dX12_milesWith_111 : decode cX12_milesWith 111 = .ok (.getfield 31, 3) := by decide +kernel
theorem dX12_milesWith_114 : decode cX12_milesWith 114 = .ok (.iload 7, 2) := by decide +kernel
theorem dX12_milesWith_116 : decode cX12_milesWith 116 = .ok (.iaload, 1) := by decide +kernel
theorem dX12_milesWith_117 : decode cX12_milesWith 117 = .ok (.iload 4, 2) := by decide +kernel
theorem dX12_milesWith_119 : decode cX12_milesWith 119 = .ok (.invokestatic 583, 3) := by decide +kernel
theorem dX12_milesWith_122 : decode cX12_milesWith 122 = .ok (.goto 4, 3) := by decide +kernel
theorem dX12_milesWith_125 : decode cX12_milesWith 125 = .ok (.iconst 0, 1) := by decide +kernel
theorem dX12_milesWith_126 : decode cX12_milesWith 126 = .ok (.iadd, 1) := by decide +kernel
theorem dX12_milesWith_127 : decode cX12_milesWith 127 = .ok (.istore 6, 2) := by decide +kernel
theorem dX12_milesWith_129 : decode cX12_milesWith 129 = .ok (.iinc 7 1, 3) := by decide +kernel
theorem dX12_milesWith_132 : decode cX12_milesWith 132 = .ok (.goto (-51), 3) := by decide +kernel
theorem dX12_milesWith_135 : decode cX12_milesWith 135 = .ok (.iload 6, 2) := by decide +kernel
theorem dX12_milesWith_137 : decode cX12_milesWith 137 = .ok (.iload_n 3, 1) := by decide +kernel
theorem dX12_milesWith_138 : decode cX12_milesWith 138 = .ok (.if_icmp .lt 7, 3) := by decide +kernel
theorem dX12_milesWith_141 : decode cX12_milesWith 141 = .ok (.iconst 1, 1) := by decide +kernel
theorem dX12_milesWith_142 : decode cX12_milesWith 142 = .ok (.goto 4, 3) := by decide +kernel
theorem dX12_milesWith_145 : decode cX12_milesWith 145 = .ok (.iconst 0, 1) := by decide +kernel
theorem dX12_milesWith_146 : decode cX12_milesWith 146 = .ok (.istore 5, 2) := by decide +kernel
theorem dX12_milesWith_148 : decode cX12_milesWith 148 = .ok (.iload 4, 2) := by decide +kernel
theorem dX12_milesWith_150 : decode cX12_milesWith 150 = .ok (.iload 5, 2) := by decide +kernel
theorem dX12_milesWith_152 : decode cX12_milesWith 152 = .ok (.ifCond .eq 7, 3) := by decide +kernel
theorem dX12_milesWith_155 : decode cX12_milesWith 155 = .ok (.iconst 1, 1) := by decide +kernel
theorem dX12_milesWith_156 : decode cX12_milesWith 156 = .ok (.goto 4, 3) := by decide +kernel
theorem dX12_milesWith_159 : decode cX12_milesWith 159 = .ok (.iconst 0, 1) := by decide +kernel
theorem dX12_milesWith_160 : decode cX12_milesWith 160 = .ok (.iadd, 1) := by decide +kernel
theorem dX12_milesWith_161 : decode cX12_milesWith 161 = .ok (.istore 4, 2) := by decide +kernel
theorem dX12_milesWith_163 : decode cX12_milesWith 163 = .ok (.goto (-125), 3) := by decide +kernel
theorem dX12_milesWith_166 : decode cX12_milesWith 166 = .ok (.iload 4, 2) := by decide +kernel
theorem dX12_milesWith_168 : decode cX12_milesWith 168 = .ok (.ireturn, 1) := by decide +kernel
theorem dX12_take_0 : decode cX12_take 0 = .ok (.aload_n 0, 1) := by decide +kernel
theorem dX12_take_1 : decode cX12_take 1 = .ok (.iload_n 1, 1) := by decide +kernel
theorem dX12_take_2 : decode cX12_take 2 = .ok (.invokevirtual 436, 3) := by decide +kernel
theorem dX12_take_5 : decode cX12_take 5 = .ok (.ifCond .eq 13, 3) := by decide +kernel
theorem dX12_take_8 : decode cX12_take 8 = .ok (.iload_n 2, 1) := by decide +kernel
theorem dX12_take_9 : decode cX12_take 9 = .ok (.i2l, 1) := by decide +kernel
theorem dX12_take_10 : decode cX12_take 10 = .ok (.lconst 0, 1) := by decide +kernel
theorem dX12_take_11 : decode cX12_take 11 = .ok (.lconst 1, 1) := by decide +kernel
theorem dX12_take_12 : decode cX12_take 12 = .ok (.invokestatic 176, 3) := by decide +kernel
theorem dX12_take_15 : decode cX12_take 15 = .ok (.ifCond .ne 5, 3) := by decide +kernel
theorem dX12_take_18 : decode cX12_take 18 = .ok (.iconst (-1), 1) := by decide +kernel
theorem dX12_take_19 : decode cX12_take 19 = .ok (.ireturn, 1) := by decide +kernel
theorem dX12_take_20 : decode cX12_take 20 = .ok (.aload_n 0, 1) := by decide +kernel
theorem dX12_take_21 : decode cX12_take 21 = .ok (.iload_n 1, 1) := by decide +kernel
theorem dX12_take_22 : decode cX12_take 22 = .ok (.invokevirtual 424, 3) := by decide +kernel
theorem dX12_take_25 : decode cX12_take 25 = .ok (.istore_n 3, 1) := by decide +kernel
theorem dX12_take_26 : decode cX12_take 26 = .ok (.bipush (-2), 2) := by decide +kernel
theorem dX12_take_28 : decode cX12_take 28 = .ok (.istore 4, 2) := by decide +kernel
theorem dX12_take_30 : decode cX12_take 30 = .ok (.aload_n 0, 1) := by decide +kernel
theorem dX12_take_31 : decode cX12_take 31 = .ok (.iload_n 3, 1) := by decide +kernel
theorem dX12_take_32 : decode cX12_take 32 = .ok (.iconst (-1), 1) := by decide +kernel
theorem dX12_take_33 : decode cX12_take 33 = .ok (.invokevirtual 586, 3) := by decide +kernel
theorem dX12_take_36 : decode cX12_take 36 = .ok (.istore 5, 2) := by decide +kernel
theorem dX12_take_38 : decode cX12_take 38 = .ok (.iconst 0, 1) := by decide +kernel
theorem dX12_take_39 : decode cX12_take 39 = .ok (.istore 6, 2) := by decide +kernel
theorem dX12_take_41 : decode cX12_take 41 = .ok (.iload 6, 2) := by decide +kernel
theorem dX12_take_43 : decode cX12_take 43 = .ok (.aload_n 0, 1) := by decide +kernel
theorem dX12_take_44 : decode cX12_take 44 = .ok (.getfield 9, 3) := by decide +kernel
theorem dX12_take_47 : decode cX12_take 47 = .ok (.bipush 7, 2) := by decide +kernel
theorem dX12_take_49 : decode cX12_take 49 = .ok (.iaload, 1) := by decide +kernel
theorem dX12_take_50 : decode cX12_take 50 = .ok (.if_icmp .ge 33, 3) := by decide +kernel
theorem dX12_take_53 : decode cX12_take 53 = .ok (.aload_n 0, 1) := by decide +kernel
theorem dX12_take_54 : decode cX12_take 54 = .ok (.iload_n 3, 1) := by decide +kernel
theorem dX12_take_55 : decode cX12_take 55 = .ok (.iload 6, 2) := by decide +kernel
theorem dX12_take_57 : decode cX12_take 57 = .ok (.invokevirtual 586, 3) := by decide +kernel
theorem dX12_take_60 : decode cX12_take 60 = .ok (.istore 7, 2) := by decide +kernel
theorem dX12_take_62 : decode cX12_take 62 = .ok (.iload 7, 2) := by decide +kernel
theorem dX12_take_64 : decode cX12_take 64 = .ok (.iload 5, 2) := by decide +kernel
theorem dX12_take_66 : decode cX12_take 66 = .ok (.if_icmp .le 11, 3) := by decide +kernel
theorem dX12_take_69 : decode cX12_take 69 = .ok (.iload 6, 2) := by decide +kernel
theorem dX12_take_71 : decode cX12_take 71 = .ok (.istore 4, 2) := by decide +kernel
theorem dX12_take_73 : decode cX12_take 73 = .ok (.iload 7, 2) := by decide +kernel
theorem dX12_take_75 : decode cX12_take 75 = .ok (.istore 5, 2) := by decide +kernel
theorem dX12_take_77 : decode cX12_take 77 = .ok (.iinc 6 1, 3) := by decide +kernel
theorem dX12_take_80 : decode cX12_take 80 = .ok (.goto (-39), 3) := by decide +kernel
theorem dX12_take_83 : decode cX12_take 83 = .ok (.iload_n 2, 1) := by decide +kernel
theorem dX12_take_84 : decode cX12_take 84 = .ok (.ifCond .ne 8, 3) := by decide +kernel
theorem dX12_take_87 : decode cX12_take 87 = .ok (.iload 4, 2) := by decide +kernel
theorem dX12_take_89 : decode cX12_take 89 = .ok (.goto 5, 3) := by decide +kernel
theorem dX12_take_92 : decode cX12_take 92 = .ok (.iload 5, 2) := by decide +kernel
theorem dX12_take_94 : decode cX12_take 94 = .ok (.ireturn, 1) := by decide +kernel
theorem dX12_winningFrom_0 : decode cX12_winningFrom 0 = .ok (.iconst 0, 1) := by decide +kernel
theorem dX12_winningFrom_1 : decode cX12_winningFrom 1 = .ok (.istore_n 2, 1) := by decide +kernel
theorem dX12_winningFrom_2 : decode cX12_winningFrom 2 = .ok (.iload_n 2, 1) := by decide +kernel
theorem dX12_winningFrom_3 : decode cX12_winningFrom 3 = .ok (.aload_n 0, 1) := by decide +kernel
theorem dX12_winningFrom_4 : decode cX12_winningFrom 4 = .ok (.getfield 9, 3) := by decide +kernel
theorem dX12_winningFrom_7 : decode cX12_winningFrom 7 = .ok (.iconst 3, 1) := by decide +kernel
theorem dX12_winningFrom_8 : decode cX12_winningFrom 8 = .ok (.iaload, 1) := by decide +kernel
theorem dX12_winningFrom_9 : decode cX12_winningFrom 9 = .ok (.if_icmp .ge 44, 3) := by decide +kernel
theorem dX12_winningFrom_12 : decode cX12_winningFrom 12 = .ok (.iload_n 1, 1) := by decide +kernel
theorem dX12_winningFrom_13 : decode cX12_winningFrom 13 = .ok (.iconst 1, 1) := by decide +kernel
theorem dX12_winningFrom_14 : decode cX12_winningFrom 14 = .ok (.iload_n 2, 1) := by decide +kernel
theorem dX12_winningFrom_15 : decode cX12_winningFrom 15 = .ok (.ishl, 1) := by decide +kernel
theorem dX12_winningFrom_16 : decode cX12_winningFrom 16 = .ok (.iconst (-1), 1) := by decide +kernel
theorem dX12_winningFrom_17 : decode cX12_winningFrom 17 = .ok (.ixor, 1) := by decide +kernel
theorem dX12_winningFrom_18 : decode cX12_winningFrom 18 = .ok (.iand, 1) := by decide +kernel
theorem dX12_winningFrom_19 : decode cX12_winningFrom 19 = .ok (.istore_n 3, 1) := by decide +kernel
theorem dX12_winningFrom_20 : decode cX12_winningFrom 20 = .ok (.iload_n 1, 1) := by decide +kernel
theorem dX12_winningFrom_21 : decode cX12_winningFrom 21 = .ok (.iload_n 2, 1) := by decide +kernel
theorem dX12_winningFrom_22 : decode cX12_winningFrom 22 = .ok (.invokestatic 390, 3) := by decide +kernel
theorem dX12_winningFrom_25 : decode cX12_winningFrom 25 = .ok (.ifCond .eq 22, 3) := by decide +kernel
theorem dX12_winningFrom_28 : decode cX12_winningFrom 28 = .ok (.aload_n 0, 1) := by decide +kernel
theorem dX12_winningFrom_29 : decode cX12_winningFrom 29 = .ok (.iload_n 3, 1) := by decide +kernel
theorem dX12_winningFrom_30 : decode cX12_winningFrom 30 = .ok (.invokevirtual 530, 3) := by decide +kernel
theorem dX12_winningFrom_33 : decode cX12_winningFrom 33 = .ok (.ifCond .eq 14, 3) := by decide +kernel
theorem dX12_winningFrom_36 : decode cX12_winningFrom 36 = .ok (.aload_n 0, 1) := by decide +kernel
theorem dX12_winningFrom_37 : decode cX12_winningFrom 37 = .ok (.getfield 163, 3) := by decide +kernel
theorem dX12_winningFrom_40 : decode cX12_winningFrom 40 = .ok (.iload_n 3, 1) := by decide +kernel
theorem dX12_winningFrom_41 : decode cX12_winningFrom 41 = .ok (.baload, 1) := by decide +kernel
theorem dX12_winningFrom_42 : decode cX12_winningFrom 42 = .ok (.ifCond .ne 5, 3) := by decide +kernel
theorem dX12_winningFrom_45 : decode cX12_winningFrom 45 = .ok (.iload_n 2, 1) := by decide +kernel
theorem dX12_winningFrom_46 : decode cX12_winningFrom 46 = .ok (.ireturn, 1) := by decide +kernel
theorem dX12_winningFrom_47 : decode cX12_winningFrom 47 = .ok (.iinc 2 1, 3) := by decide +kernel
theorem dX12_winningFrom_50 : decode cX12_winningFrom 50 = .ok (.goto (-48), 3) := by decide +kernel
theorem dX12_winningFrom_53 : decode cX12_winningFrom 53 = .ok (.iconst (-1), 1) := by decide +kernel
theorem dX12_winningFrom_54 : decode cX12_winningFrom 54 = .ok (.ireturn, 1) := by decide +kernel
theorem dX12_game_0 : decode cX12_game 0 = .ok (.aload_n 0, 1) := by decide +kernel
theorem dX12_game_1 : decode cX12_game 1 = .ok (.iload_n 1, 1) := by decide +kernel
theorem dX12_game_2 : decode cX12_game 2 = .ok (.invokevirtual 436, 3) := by decide +kernel
theorem dX12_game_5 : decode cX12_game 5 = .ok (.ifCond .eq 13, 3) := by decide +kernel
theorem dX12_game_8 : decode cX12_game 8 = .ok (.iload_n 2, 1) := by decide +kernel
theorem dX12_game_9 : decode cX12_game 9 = .ok (.i2l, 1) := by decide +kernel
theorem dX12_game_10 : decode cX12_game 10 = .ok (.lconst 0, 1) := by decide +kernel
theorem dX12_game_11 : decode cX12_game 11 = .ok (.lconst 1, 1) := by decide +kernel
theorem dX12_game_12 : decode cX12_game 12 = .ok (.invokestatic 176, 3) := by decide +kernel
theorem dX12_game_15 : decode cX12_game 15 = .ok (.ifCond .ne 5, 3) := by decide +kernel
theorem dX12_game_18 : decode cX12_game 18 = .ok (.iconst (-1), 1) := by decide +kernel
theorem dX12_game_19 : decode cX12_game 19 = .ok (.ireturn, 1) := by decide +kernel
theorem dX12_game_20 : decode cX12_game 20 = .ok (.aload_n 0, 1) := by decide +kernel
theorem dX12_game_21 : decode cX12_game 21 = .ok (.iload_n 1, 1) := by decide +kernel
theorem dX12_game_22 : decode cX12_game 22 = .ok (.invokevirtual 424, 3) := by decide +kernel
theorem dX12_game_25 : decode cX12_game 25 = .ok (.istore_n 3, 1) := by decide +kernel
theorem dX12_game_26 : decode cX12_game 26 = .ok (.iconst 0, 1) := by decide +kernel
theorem dX12_game_27 : decode cX12_game 27 = .ok (.istore 4, 2) := by decide +kernel
theorem dX12_game_29 : decode cX12_game 29 = .ok (.iload 4, 2) := by decide +kernel
theorem dX12_game_31 : decode cX12_game 31 = .ok (.iload_n 3, 1) := by decide +kernel
theorem dX12_game_32 : decode cX12_game 32 = .ok (.if_icmp .gt 40, 3) := by decide +kernel
theorem dX12_game_35 : decode cX12_game 35 = .ok (.iload 4, 2) := by decide +kernel
theorem dX12_game_37 : decode cX12_game 37 = .ok (.iload_n 3, 1) := by decide +kernel
theorem dX12_game_38 : decode cX12_game 38 = .ok (.iconst (-1), 1) := by decide +kernel
theorem dX12_game_39 : decode cX12_game 39 = .ok (.ixor, 1) := by decide +kernel
theorem dX12_game_40 : decode cX12_game 40 = .ok (.iand, 1) := by decide +kernel
theorem dX12_game_41 : decode cX12_game 41 = .ok (.ifCond .ne 25, 3) := by decide +kernel
theorem dX12_game_44 : decode cX12_game 44 = .ok (.aload_n 0, 1) := by decide +kernel
theorem dX12_game_45 : decode cX12_game 45 = .ok (.getfield 163, 3) := by decide +kernel
theorem dX12_game_48 : decode cX12_game 48 = .ok (.iload 4, 2) := by decide +kernel
theorem dX12_game_50 : decode cX12_game 50 = .ok (.aload_n 0, 1) := by decide +kernel
theorem dX12_game_51 : decode cX12_game 51 = .ok (.iload 4, 2) := by decide +kernel
theorem dX12_game_53 : decode cX12_game 53 = .ok (.invokevirtual 589, 3) := by decide +kernel
theorem dX12_game_56 : decode cX12_game 56 = .ok (.iconst (-1), 1) := by decide +kernel
theorem dX12_game_57 : decode cX12_game 57 = .ok (.if_icmp .eq 7, 3) := by decide +kernel
theorem dX12_game_60 : decode cX12_game 60 = .ok (.iconst 1, 1) := by decide +kernel
theorem dX12_game_61 : decode cX12_game 61 = .ok (.goto 4, 3) := by decide +kernel
theorem dX12_game_64 : decode cX12_game 64 = .ok (.iconst 0, 1) := by decide +kernel
theorem dX12_game_65 : decode cX12_game 65 = .ok (.bastore, 1) := by decide +kernel
theorem dX12_game_66 : decode cX12_game 66 = .ok (.iinc 4 1, 3) := by decide +kernel
theorem dX12_game_69 : decode cX12_game 69 = .ok (.goto (-40), 3) := by decide +kernel
theorem dX12_game_72 : decode cX12_game 72 = .ok (.iload_n 2, 1) := by decide +kernel
theorem dX12_game_73 : decode cX12_game 73 = .ok (.ifCond .ne 18, 3) := by decide +kernel
theorem dX12_game_76 : decode cX12_game 76 = .ok (.aload_n 0, 1) := by decide +kernel
theorem dX12_game_77 : decode cX12_game 77 = .ok (.getfield 163, 3) := by decide +kernel
theorem dX12_game_80 : decode cX12_game 80 = .ok (.iload_n 3, 1) := by decide +kernel
theorem dX12_game_81 : decode cX12_game 81 = .ok (.baload, 1) := by decide +kernel
theorem dX12_game_82 : decode cX12_game 82 = .ok (.ifCond .eq 7, 3) := by decide +kernel
theorem dX12_game_85 : decode cX12_game 85 = .ok (.iconst 1, 1) := by decide +kernel
theorem dX12_game_86 : decode cX12_game 86 = .ok (.goto 4, 3) := by decide +kernel
theorem dX12_game_89 : decode cX12_game 89 = .ok (.iconst 0, 1) := by decide +kernel
theorem dX12_game_90 : decode cX12_game 90 = .ok (.ireturn, 1) := by decide +kernel
theorem dX12_game_91 : decode cX12_game 91 = .ok (.aload_n 0, 1) := by decide +kernel
theorem dX12_game_92 : decode cX12_game 92 = .ok (.getfield 163, 3) := by decide +kernel
theorem dX12_game_95 : decode cX12_game 95 = .ok (.iload_n 3, 1) := by decide +kernel
theorem dX12_game_96 : decode cX12_game 96 = .ok (.baload, 1) := by decide +kernel
theorem dX12_game_97 : decode cX12_game 97 = .ok (.ifCond .eq 11, 3) := by decide +kernel
theorem dX12_game_100 : decode cX12_game 100 = .ok (.aload_n 0, 1) := by decide +kernel
theorem dX12_game_101 : decode cX12_game 101 = .ok (.iload_n 3, 1) := by decide +kernel
theorem dX12_game_102 : decode cX12_game 102 = .ok (.invokevirtual 589, 3) := by decide +kernel
theorem dX12_game_105 : decode cX12_game 105 = .ok (.goto 5, 3) := by decide +kernel
theorem dX12_game_108 : decode cX12_game 108 = .ok (.bipush (-2), 2) := by decide +kernel
theorem dX12_game_110 : decode cX12_game 110 = .ok (.ireturn, 1) := by decide +kernel
theorem dX12_seed_0 : decode cX12_seed 0 = .ok (.iload_n 1, 1) := by decide +kernel
theorem dX12_seed_1 : decode cX12_seed 1 = .ok (.ifCond .ge 5, 3) := by decide +kernel
theorem dX12_seed_4 : decode cX12_seed 4 = .ok (.iconst (-1), 1) := by decide +kernel
theorem dX12_seed_5 : decode cX12_seed 5 = .ok (.ireturn, 1) := by decide +kernel
theorem dX12_seed_6 : decode cX12_seed 6 = .ok (.aload_n 0, 1) := by decide +kernel
theorem dX12_seed_7 : decode cX12_seed 7 = .ok (.getfield 9, 3) := by decide +kernel
theorem dX12_seed_10 : decode cX12_seed 10 = .ok (.bipush 8, 2) := by decide +kernel
theorem dX12_seed_12 : decode cX12_seed 12 = .ok (.iaload, 1) := by decide +kernel
theorem dX12_seed_13 : decode cX12_seed 13 = .ok (.istore_n 2, 1) := by decide +kernel
theorem dX12_seed_14 : decode cX12_seed 14 = .ok (.aload_n 0, 1) := by decide +kernel
theorem dX12_seed_15 : decode cX12_seed 15 = .ok (.getfield 9, 3) := by decide +kernel
theorem dX12_seed_18 : decode cX12_seed 18 = .ok (.bipush 8, 2) := by decide +kernel
theorem dX12_seed_20 : decode cX12_seed 20 = .ok (.iload_n 1, 1) := by decide +kernel
theorem dX12_seed_21 : decode cX12_seed 21 = .ok (.iastore, 1) := by decide +kernel
theorem dX12_seed_22 : decode cX12_seed 22 = .ok (.iload_n 2, 1) := by decide +kernel
theorem dX12_seed_23 : decode cX12_seed 23 = .ok (.ireturn, 1) := by decide +kernel
theorem dX12_draws_0 : decode cX12_draws 0 = .ok (.aload_n 0, 1) := by decide +kernel
theorem dX12_draws_1 : decode cX12_draws 1 = .ok (.getfield 9, 3) := by decide +kernel
theorem dX12_draws_4 : decode cX12_draws 4 = .ok (.bipush 8, 2) := by decide +kernel
theorem dX12_draws_6 : decode cX12_draws 6 = .ok (.aload_n 0, 1) := by decide +kernel
theorem dX12_draws_7 : decode cX12_draws 7 = .ok (.getfield 9, 3) := by decide +kernel
theorem dX12_draws_10 : decode cX12_draws 10 = .ok (.bipush 8, 2) := by decide +kernel
theorem dX12_draws_12 : decode cX12_draws 12 = .ok (.iaload, 1) := by decide +kernel
theorem dX12_draws_13 : decode cX12_draws 13 = .ok (.i2l, 1) := by decide +kernel
theorem dX12_draws_14 : decode cX12_draws 14 = .ok (.ldc2_w 592, 3) := by decide +kernel
theorem dX12_draws_17 : decode cX12_draws 17 = .ok (.lmul, 1) := by decide +kernel
theorem dX12_draws_18 : decode cX12_draws 18 = .ok (.ldc2_w 594, 3) := by decide +kernel
theorem dX12_draws_21 : decode cX12_draws 21 = .ok (.ladd, 1) := by decide +kernel
theorem dX12_draws_22 : decode cX12_draws 22 = .ok (.ldc2_w 596, 3) := by decide +kernel
theorem dX12_draws_25 : decode cX12_draws 25 = .ok (.lrem, 1) := by decide +kernel
theorem dX12_draws_26 : decode cX12_draws 26 = .ok (.l2i, 1) := by decide +kernel
theorem dX12_draws_27 : decode cX12_draws 27 = .ok (.iastore, 1) := by decide +kernel
theorem dX12_draws_28 : decode cX12_draws 28 = .ok (.aload_n 0, 1) := by decide +kernel
theorem dX12_draws_29 : decode cX12_draws 29 = .ok (.getfield 9, 3) := by decide +kernel
theorem dX12_draws_32 : decode cX12_draws 32 = .ok (.bipush 8, 2) := by decide +kernel
theorem dX12_draws_34 : decode cX12_draws 34 = .ok (.iaload, 1) := by decide +kernel
theorem dX12_draws_35 : decode cX12_draws 35 = .ok (.ldc_w 598, 3) := by decide +kernel
theorem dX12_draws_38 : decode cX12_draws 38 = .ok (.idiv, 1) := by decide +kernel
theorem dX12_draws_39 : decode cX12_draws 39 = .ok (.iload_n 1, 1) := by decide +kernel
theorem dX12_draws_40 : decode cX12_draws 40 = .ok (.irem, 1) := by decide +kernel
theorem dX12_draws_41 : decode cX12_draws 41 = .ok (.ireturn, 1) := by decide +kernel
theorem dX12_drawn_0 : decode cX12_drawn 0 = .ok (.aload_n 0, 1) := by decide +kernel
theorem dX12_drawn_1 : decode cX12_drawn 1 = .ok (.invokevirtual 430, 3) := by decide +kernel
theorem dX12_drawn_4 : decode cX12_drawn 4 = .ok (.ifCond .eq 47, 3) := by decide +kernel
theorem dX12_drawn_7 : decode cX12_drawn 7 = .ok (.iload_n 1, 1) := by decide +kernel
theorem dX12_drawn_8 : decode cX12_drawn 8 = .ok (.i2l, 1) := by decide +kernel
theorem dX12_drawn_9 : decode cX12_drawn 9 = .ok (.lconst 1, 1) := by decide +kernel
theorem dX12_drawn_10 : decode cX12_drawn 10 = .ok (.ldc2_w 599, 3) := by decide +kernel
theorem dX12_drawn_13 : decode cX12_drawn 13 = .ok (.invokestatic 176, 3) := by decide +kernel
theorem dX12_drawn_16 : decode cX12_drawn 16 = .ok (.ifCond .eq 35, 3) := by decide +kernel
theorem dX12_drawn_19 : decode cX12_drawn 19 = .ok (.iload_n 2, 1) := by decide +kernel
theorem dX12_drawn_20 : decode cX12_drawn 20 = .ok (.i2l, 1) := by decide +kernel
theorem dX12_drawn_21 : decode cX12_drawn 21 = .ok (.lconst 1, 1) := by decide +kernel
theorem dX12_drawn_22 : decode cX12_drawn 22 = .ok (.ldc2_w 601, 3) := by decide +kernel
theorem dX12_drawn_25 : decode cX12_drawn 25 = .ok (.invokestatic 176, 3) := by decide +kernel
theorem dX12_drawn_28 : decode cX12_drawn 28 = .ok (.ifCond .eq 23, 3) := by decide +kernel
theorem dX12_drawn_31 : decode cX12_drawn 31 = .ok (.iload_n 2, 1) := by decide +kernel
theorem dX12_drawn_32 : decode cX12_drawn 32 = .ok (.aload_n 0, 1) := by decide +kernel
theorem dX12_drawn_33 : decode cX12_drawn 33 = .ok (.invokevirtual 487, 3) := by decide +kernel
theorem dX12_drawn_36 : decode cX12_drawn 36 = .ok (.if_icmp .gt 15, 3) := by decide +kernel
theorem dX12_drawn_39 : decode cX12_drawn 39 = .ok (.iload_n 3, 1) := by decide +kernel
theorem dX12_drawn_40 : decode cX12_drawn 40 = .ok (.i2l, 1) := by decide +kernel
theorem dX12_drawn_41 : decode cX12_drawn 41 = .ok (.lconst 0, 1) := by decide +kernel
theorem dX12_drawn_42 : decode cX12_drawn 42 = .ok (.ldc2_w 555, 3) := by decide +kernel
theorem dX12_drawn_45 : decode cX12_drawn 45 = .ok (.invokestatic 176, 3) := by decide +kernel
theorem dX12_drawn_48 : decode cX12_drawn 48 = .ok (.ifCond .ne 5, 3) := by decide +kernel
theorem dX12_drawn_51 : decode cX12_drawn 51 = .ok (.iconst (-1), 1) := by decide +kernel
theorem dX12_drawn_52 : decode cX12_drawn 52 = .ok (.ireturn, 1) := by decide +kernel
theorem dX12_drawn_53 : decode cX12_drawn 53 = .ok (.aload_n 0, 1) := by decide +kernel
theorem dX12_drawn_54 : decode cX12_drawn 54 = .ok (.getfield 9, 3) := by decide +kernel
theorem dX12_drawn_57 : decode cX12_drawn 57 = .ok (.bipush 8, 2) := by decide +kernel
theorem dX12_drawn_59 : decode cX12_drawn 59 = .ok (.iaload, 1) := by decide +kernel
theorem dX12_drawn_60 : decode cX12_drawn 60 = .ok (.istore 4, 2) := by decide +kernel
theorem dX12_drawn_62 : decode cX12_drawn 62 = .ok (.iload 4, 2) := by decide +kernel
theorem dX12_drawn_64 : decode cX12_drawn 64 = .ok (.istore 5, 2) := by decide +kernel
theorem dX12_drawn_66 : decode cX12_drawn 66 = .ok (.iconst 0, 1) := by decide +kernel
theorem dX12_drawn_67 : decode cX12_drawn 67 = .ok (.istore 6, 2) := by decide +kernel
theorem dX12_drawn_69 : decode cX12_drawn 69 = .ok (.aload_n 0, 1) := by decide +kernel
theorem dX12_drawn_70 : decode cX12_drawn 70 = .ok (.invokevirtual 521, 3) := by decide +kernel
theorem dX12_drawn_73 : decode cX12_drawn 73 = .ok (.iconst 0, 1) := by decide +kernel
theorem dX12_drawn_74 : decode cX12_drawn 74 = .ok (.istore 7, 2) := by decide +kernel
theorem dX12_drawn_76 : decode cX12_drawn 76 = .ok (.iload 7, 2) := by decide +kernel
theorem dX12_drawn_78 : decode cX12_drawn 78 = .ok (.iload_n 1, 1) := by decide +kernel
theorem dX12_drawn_79 : decode cX12_drawn 79 = .ok (.if_icmp .ge 119, 3) := by decide +kernel
theorem dX12_drawn_82 : decode cX12_drawn 82 = .ok (.aload_n 0, 1) := by decide +kernel
theorem dX12_drawn_83 : decode cX12_drawn 83 = .ok (.getfield 9, 3) := by decide +kernel
theorem dX12_drawn_86 : decode cX12_drawn 86 = .ok (.bipush 8, 2) := by decide +kernel
theorem dX12_drawn_88 : decode cX12_drawn 88 = .ok (.iload 5, 2) := by decide +kernel
theorem dX12_drawn_90 : decode cX12_drawn 90 = .ok (.iastore, 1) := by decide +kernel
theorem dX12_drawn_91 : decode cX12_drawn 91 = .ok (.iconst 0, 1) := by decide +kernel
theorem dX12_drawn_92 : decode cX12_drawn 92 = .ok (.istore 8, 2) := by decide +kernel
theorem dX12_drawn_94 : decode cX12_drawn 94 = .ok (.iload 8, 2) := by decide +kernel
theorem dX12_drawn_96 : decode cX12_drawn 96 = .ok (.iload_n 2, 1) := by decide +kernel
theorem dX12_drawn_97 : decode cX12_drawn 97 = .ok (.if_icmp .ge 82, 3) := by decide +kernel
theorem dX12_drawn_100 : decode cX12_drawn 100 = .ok (.aload_n 0, 1) := by decide +kernel
theorem dX12_drawn_101 : decode cX12_drawn 101 = .ok (.bipush 10, 2) := by decide +kernel
theorem dX12_drawn_103 : decode cX12_drawn 103 = .ok (.invokevirtual 603, 3) := by decide +kernel
theorem dX12_drawn_106 : decode cX12_drawn 106 = .ok (.istore 9, 2) := by decide +kernel
theorem dX12_drawn_108 : decode cX12_drawn 108 = .ok (.aload_n 0, 1) := by decide +kernel
theorem dX12_drawn_109 : decode cX12_drawn 109 = .ok (.aload_n 0, 1) := by decide +kernel
theorem dX12_drawn_110 : decode cX12_drawn 110 = .ok (.getfield 9, 3) := by decide +kernel
theorem dX12_drawn_113 : decode cX12_drawn 113 = .ok (.bipush 6, 2) := by decide +kernel
theorem dX12_drawn_115 : decode cX12_drawn 115 = .ok (.iaload, 1) := by decide +kernel
theorem dX12_drawn_116 : decode cX12_drawn 116 = .ok (.iconst 1, 1) := by decide +kernel
theorem dX12_drawn_117 : decode cX12_drawn 117 = .ok (.iadd, 1) := by decide +kernel
theorem dX12_drawn_118 : decode cX12_drawn 118 = .ok (.invokevirtual 433, 3) := by decide +kernel
theorem dX12_drawn_121 : decode cX12_drawn 121 = .ok (.istore 10, 2) := by decide +kernel
theorem dX12_drawn_123 : decode cX12_drawn 123 = .ok (.aload_n 0, 1) := by decide +kernel
theorem dX12_drawn_124 : decode cX12_drawn 124 = .ok (.iload 10, 2) := by decide +kernel
theorem dX12_drawn_126 : decode cX12_drawn 126 = .ok (.iload 9, 2) := by decide +kernel
theorem dX12_drawn_128 : decode cX12_drawn 128 = .ok (.if_icmp .le 8, 3) := by decide +kernel
theorem dX12_drawn_131 : decode cX12_drawn 131 = .ok (.iload 10, 2) := by decide +kernel
theorem dX12_drawn_133 : decode cX12_drawn 133 = .ok (.goto 5, 3) := by decide +kernel
theorem dX12_drawn_136 : decode cX12_drawn 136 = .ok (.iload 9, 2) := by decide +kernel
theorem dX12_drawn_138 : decode cX12_drawn 138 = .ok (.invokevirtual 466, 3) := by decide +kernel
theorem dX12_drawn_141 : decode cX12_drawn 141 = .ok (.istore 11, 2) := by decide +kernel
theorem dX12_drawn_143 : decode cX12_drawn 143 = .ok (.iload 6, 2) := by decide +kernel
theorem dX12_drawn_145 : decode cX12_drawn 145 = .ok (.iload_n 3, 1) := by decide +kernel
theorem dX12_drawn_146 : decode cX12_drawn 146 = .ok (.ifCond .ne 8, 3) := by decide +kernel
theorem dX12_drawn_149 : decode cX12_drawn 149 = .ok (.iload 11, 2) := by decide +kernel
theorem dX12_drawn_151 : decode cX12_drawn 151 = .ok (.goto 19, 3) := by decide +kernel
theorem dX12_drawn_154 : decode cX12_drawn 154 = .ok (.iload_n 3, 1) := by decide +kernel
theorem dX12_drawn_155 : decode cX12_drawn 155 = .ok (.iconst 1, 1) := by decide +kernel
theorem dX12_drawn_156 : decode cX12_drawn 156 = .ok (.if_icmp .ne 10, 3) := by decide +kernel
theorem dX12_drawn_159 : decode cX12_drawn 159 = .ok (.aload_n 0, 1) := by decide +kernel
theorem dX12_drawn_160 : decode cX12_drawn 160 = .ok (.getfield 463, 3) := by decide +kernel
theorem dX12_drawn_163 : decode cX12_drawn 163 = .ok (.goto 7, 3) := by decide +kernel
theorem dX12_drawn_166 : decode cX12_drawn 166 = .ok (.aload_n 0, 1) := by decide +kernel
theorem dX12_drawn_167 : decode cX12_drawn 167 = .ok (.getfield 447, 3) := by decide +kernel
theorem dX12_drawn_170 : decode cX12_drawn 170 = .ok (.iadd, 1) := by decide +kernel
theorem dX12_drawn_171 : decode cX12_drawn 171 = .ok (.istore 6, 2) := by decide +kernel
theorem dX12_drawn_173 : decode cX12_drawn 173 = .ok (.iinc 8 1, 3) := by decide +kernel
theorem dX12_drawn_176 : decode cX12_drawn 176 = .ok (.goto (-82), 3) := by decide +kernel
theorem dX12_drawn_179 : decode cX12_drawn 179 = .ok (.aload_n 0, 1) := by decide +kernel
theorem dX12_drawn_180 : decode cX12_drawn 180 = .ok (.getfield 9, 3) := by decide +kernel
theorem dX12_drawn_183 : decode cX12_drawn 183 = .ok (.bipush 8, 2) := by decide +kernel
theorem dX12_drawn_185 : decode cX12_drawn 185 = .ok (.iaload, 1) := by decide +kernel
theorem dX12_drawn_186 : decode cX12_drawn 186 = .ok (.istore 5, 2) := by decide +kernel
theorem dX12_drawn_188 : decode cX12_drawn 188 = .ok (.aload_n 0, 1) := by decide +kernel
theorem dX12_drawn_189 : decode cX12_drawn 189 = .ok (.invokevirtual 527, 3) := by decide +kernel
theorem dX12_drawn_192 : decode cX12_drawn 192 = .ok (.iinc 7 1, 3) := by decide +kernel
theorem dX12_drawn_195 : decode cX12_drawn 195 = .ok (.goto (-119), 3) := by decide +kernel
theorem dX12_drawn_198 : decode cX12_drawn 198 = .ok (.aload_n 0, 1) := by decide +kernel
theorem dX12_drawn_199 : decode cX12_drawn 199 = .ok (.getfield 9, 3) := by decide +kernel
theorem dX12_drawn_202 : decode cX12_drawn 202 = .ok (.bipush 8, 2) := by decide +kernel
theorem dX12_drawn_204 : decode cX12_drawn 204 = .ok (.iload 4, 2) := by decide +kernel
theorem dX12_drawn_206 : decode cX12_drawn 206 = .ok (.iastore, 1) := by decide +kernel
theorem dX12_drawn_207 : decode cX12_drawn 207 = .ok (.iload 6, 2) := by decide +kernel
theorem dX12_drawn_209 : decode cX12_drawn 209 = .ok (.ireturn, 1) := by decide +kernel
theorem dX12_pieces_0 : decode cX12_pieces 0 = .ok (.iconst 0, 1) := by decide +kernel
theorem dX12_pieces_1 : decode cX12_pieces 1 = .ok (.istore_n 1, 1) := by decide +kernel
theorem dX12_pieces_2 : decode cX12_pieces 2 = .ok (.iconst 0, 1) := by decide +kernel
theorem dX12_pieces_3 : decode cX12_pieces 3 = .ok (.istore_n 2, 1) := by decide +kernel
theorem dX12_pieces_4 : decode cX12_pieces 4 = .ok (.iload_n 2, 1) := by decide +kernel
theorem dX12_pieces_5 : decode cX12_pieces 5 = .ok (.aload_n 0, 1) := by decide +kernel
theorem dX12_pieces_6 : decode cX12_pieces 6 = .ok (.getfield 9, 3) := by decide +kernel
theorem dX12_pieces_9 : decode cX12_pieces 9 = .ok (.iconst 3, 1) := by decide +kernel
theorem dX12_pieces_10 : decode cX12_pieces 10 = .ok (.iaload, 1) := by decide +kernel
theorem dX12_pieces_11 : decode cX12_pieces 11 = .ok (.if_icmp .ge 38, 3) := by decide +kernel
theorem dX12_pieces_14 : decode cX12_pieces 14 = .ok (.iload_n 1, 1) := by decide +kernel
theorem dX12_pieces_15 : decode cX12_pieces 15 = .ok (.aload_n 0, 1) := by decide +kernel
theorem dX12_pieces_16 : decode cX12_pieces 16 = .ok (.getfield 34, 3) := by decide +kernel
theorem dX12_pieces_19 : decode cX12_pieces 19 = .ok (.iload_n 2, 1) := by decide +kernel
theorem dX12_pieces_20 : decode cX12_pieces 20 = .ok (.iaload, 1) := by decide +kernel
theorem dX12_pieces_21 : decode cX12_pieces 21 = .ok (.ifCond .ne 19, 3) := by decide +kernel
theorem dX12_pieces_24 : decode cX12_pieces 24 = .ok (.aload_n 0, 1) := by decide +kernel
theorem dX12_pieces_25 : decode cX12_pieces 25 = .ok (.iload_n 2, 1) := by decide +kernel
theorem dX12_pieces_26 : decode cX12_pieces 26 = .ok (.invokevirtual 424, 3) := by decide +kernel
theorem dX12_pieces_29 : decode cX12_pieces 29 = .ok (.invokestatic 421, 3) := by decide +kernel
theorem dX12_pieces_32 : decode cX12_pieces 32 = .ok (.iload_n 2, 1) := by decide +kernel
theorem dX12_pieces_33 : decode cX12_pieces 33 = .ok (.if_icmp .ne 7, 3) := by decide +kernel
theorem dX12_pieces_36 : decode cX12_pieces 36 = .ok (.iconst 1, 1) := by decide +kernel
theorem dX12_pieces_37 : decode cX12_pieces 37 = .ok (.goto 4, 3) := by decide +kernel
theorem dX12_pieces_40 : decode cX12_pieces 40 = .ok (.iconst 0, 1) := by decide +kernel
theorem dX12_pieces_41 : decode cX12_pieces 41 = .ok (.iadd, 1) := by decide +kernel
theorem dX12_pieces_42 : decode cX12_pieces 42 = .ok (.istore_n 1, 1) := by decide +kernel
theorem dX12_pieces_43 : decode cX12_pieces 43 = .ok (.iinc 2 1, 3) := by decide +kernel
theorem dX12_pieces_46 : decode cX12_pieces 46 = .ok (.goto (-42), 3) := by decide +kernel
theorem dX12_pieces_49 : decode cX12_pieces 49 = .ok (.iload_n 1, 1) := by decide +kernel
theorem dX12_pieces_50 : decode cX12_pieces 50 = .ok (.ireturn, 1) := by decide +kernel
theorem dX12_count_0 : decode cX12_count 0 = .ok (.iload_n 1, 1) := by decide +kernel
theorem dX12_count_1 : decode cX12_count 1 = .ok (.tableswitch 162 0 13 #[71, 78, 85, 92, 99, 106, 113, 118, 126, 131, 136, 144, 149, 157], 71) := by decide +kernel
theorem dX12_count_72 : decode cX12_count 72 = .ok (.aload_n 0, 1) := by decide +kernel
theorem dX12_count_73 : decode cX12_count 73 = .ok (.getfield 9, 3) := by decide +kernel
theorem dX12_count_76 : decode cX12_count 76 = .ok (.iconst 0, 1) := by decide +kernel
theorem dX12_count_77 : decode cX12_count 77 = .ok (.iaload, 1) := by decide +kernel
theorem dX12_count_78 : decode cX12_count 78 = .ok (.ireturn, 1) := by decide +kernel
theorem dX12_count_79 : decode cX12_count 79 = .ok (.aload_n 0, 1) := by decide +kernel
theorem dX12_count_80 : decode cX12_count 80 = .ok (.getfield 9, 3) := by decide +kernel
theorem dX12_count_83 : decode cX12_count 83 = .ok (.iconst 1, 1) := by decide +kernel
theorem dX12_count_84 : decode cX12_count 84 = .ok (.iaload, 1) := by decide +kernel
theorem dX12_count_85 : decode cX12_count 85 = .ok (.ireturn, 1) := by decide +kernel
theorem dX12_count_86 : decode cX12_count 86 = .ok (.aload_n 0, 1) := by decide +kernel
theorem dX12_count_87 : decode cX12_count 87 = .ok (.getfield 9, 3) := by decide +kernel
theorem dX12_count_90 : decode cX12_count 90 = .ok (.iconst 2, 1) := by decide +kernel
theorem dX12_count_91 : decode cX12_count 91 = .ok (.iaload, 1) := by decide +kernel
theorem dX12_count_92 : decode cX12_count 92 = .ok (.ireturn, 1) := by decide +kernel
theorem dX12_count_93 : decode cX12_count 93 = .ok (.aload_n 0, 1) := by decide +kernel
theorem dX12_count_94 : decode cX12_count 94 = .ok (.getfield 9, 3) := by decide +kernel
theorem dX12_count_97 : decode cX12_count 97 = .ok (.iconst 3, 1) := by decide +kernel
theorem dX12_count_98 : decode cX12_count 98 = .ok (.iaload, 1) := by decide +kernel
theorem dX12_count_99 : decode cX12_count 99 = .ok (.ireturn, 1) := by decide +kernel
theorem dX12_count_100 : decode cX12_count 100 = .ok (.aload_n 0, 1) := by decide +kernel
theorem dX12_count_101 : decode cX12_count 101 = .ok (.getfield 9, 3) := by decide +kernel
theorem dX12_count_104 : decode cX12_count 104 = .ok (.iconst 4, 1) := by decide +kernel
theorem dX12_count_105 : decode cX12_count 105 = .ok (.iaload, 1) := by decide +kernel
theorem dX12_count_106 : decode cX12_count 106 = .ok (.ireturn, 1) := by decide +kernel
theorem dX12_count_107 : decode cX12_count 107 = .ok (.aload_n 0, 1) := by decide +kernel
theorem dX12_count_108 : decode cX12_count 108 = .ok (.getfield 9, 3) := by decide +kernel
theorem dX12_count_111 : decode cX12_count 111 = .ok (.iconst 5, 1) := by decide +kernel
theorem dX12_count_112 : decode cX12_count 112 = .ok (.iaload, 1) := by decide +kernel
theorem dX12_count_113 : decode cX12_count 113 = .ok (.ireturn, 1) := by decide +kernel
theorem dX12_count_114 : decode cX12_count 114 = .ok (.aload_n 0, 1) := by decide +kernel
theorem dX12_count_115 : decode cX12_count 115 = .ok (.getfield 372, 3) := by decide +kernel
theorem dX12_count_118 : decode cX12_count 118 = .ok (.ireturn, 1) := by decide +kernel
theorem dX12_count_119 : decode cX12_count 119 = .ok (.aload_n 0, 1) := by decide +kernel
theorem dX12_count_120 : decode cX12_count 120 = .ok (.getfield 9, 3) := by decide +kernel
theorem dX12_count_123 : decode cX12_count 123 = .ok (.bipush 6, 2) := by decide +kernel
theorem dX12_count_125 : decode cX12_count 125 = .ok (.iaload, 1) := by decide +kernel
theorem dX12_count_126 : decode cX12_count 126 = .ok (.ireturn, 1) := by decide +kernel
theorem dX12_count_127 : decode cX12_count 127 = .ok (.aload_n 0, 1) := by decide +kernel
theorem dX12_count_128 : decode cX12_count 128 = .ok (.invokevirtual 606, 3) := by decide +kernel
theorem dX12_count_131 : decode cX12_count 131 = .ok (.ireturn, 1) := by decide +kernel
theorem dX12_count_132 : decode cX12_count 132 = .ok (.aload_n 0, 1) := by decide +kernel
theorem dX12_count_133 : decode cX12_count 133 = .ok (.invokevirtual 393, 3) := by decide +kernel
theorem dX12_count_136 : decode cX12_count 136 = .ok (.ireturn, 1) := by decide +kernel
theorem dX12_count_137 : decode cX12_count 137 = .ok (.aload_n 0, 1) := by decide +kernel
theorem dX12_count_138 : decode cX12_count 138 = .ok (.getfield 9, 3) := by decide +kernel
theorem dX12_count_141 : decode cX12_count 141 = .ok (.bipush 7, 2) := by decide +kernel
theorem dX12_count_143 : decode cX12_count 143 = .ok (.iaload, 1) := by decide +kernel
theorem dX12_count_144 : decode cX12_count 144 = .ok (.ireturn, 1) := by decide +kernel
theorem dX12_count_145 : decode cX12_count 145 = .ok (.aload_n 0, 1) := by decide +kernel
theorem dX12_count_146 : decode cX12_count 146 = .ok (.getfield 359, 3) := by decide +kernel
theorem dX12_count_149 : decode cX12_count 149 = .ok (.ireturn, 1) := by decide +kernel
theorem dX12_count_150 : decode cX12_count 150 = .ok (.aload_n 0, 1) := by decide +kernel
theorem dX12_count_151 : decode cX12_count 151 = .ok (.getfield 9, 3) := by decide +kernel
theorem dX12_count_154 : decode cX12_count 154 = .ok (.bipush 8, 2) := by decide +kernel
theorem dX12_count_156 : decode cX12_count 156 = .ok (.iaload, 1) := by decide +kernel
theorem dX12_count_157 : decode cX12_count 157 = .ok (.ireturn, 1) := by decide +kernel
theorem dX12_count_158 : decode cX12_count 158 = .ok (.aload_n 0, 1) := by decide +kernel
theorem dX12_count_159 : decode cX12_count 159 = .ok (.getfield 184, 3) := by decide +kernel
theorem dX12_count_162 : decode cX12_count 162 = .ok (.ireturn, 1) := by decide +kernel
theorem dX12_count_163 : decode cX12_count 163 = .ok (.iconst (-1), 1) := by decide +kernel
theorem dX12_count_164 : decode cX12_count 164 = .ok (.ireturn, 1) := by decide +kernel
theorem dX12_carryRow_0 : decode cX12_carryRow 0 = .ok (.iconst 0, 1) := by decide +kernel
theorem dX12_carryRow_1 : decode cX12_carryRow 1 = .ok (.istore_n 2, 1) := by decide +kernel
theorem dX12_carryRow_2 : decode cX12_carryRow 2 = .ok (.iload_n 2, 1) := by decide +kernel
theorem dX12_carryRow_3 : decode cX12_carryRow 3 = .ok (.aload_n 1, 1) := by decide +kernel
theorem dX12_carryRow_4 : decode cX12_carryRow 4 = .ok (.arraylength, 1) := by decide +kernel
theorem dX12_carryRow_5 : decode cX12_carryRow 5 = .ok (.if_icmp .ge 53, 3) := by decide +kernel
theorem dX12_carryRow_8 : decode cX12_carryRow 8 = .ok (.aload_n 0, 1) := by decide +kernel
theorem dX12_carryRow_9 : decode cX12_carryRow 9 = .ok (.getfield 609, 3) := by decide +kernel
theorem dX12_carryRow_12 : decode cX12_carryRow 12 = .ok (.ifCond .eq 18, 3) := by decide +kernel
theorem dX12_carryRow_15 : decode cX12_carryRow 15 = .ok (.aload_n 1, 1) := by decide +kernel
theorem dX12_carryRow_16 : decode cX12_carryRow 16 = .ok (.iload_n 2, 1) := by decide +kernel
theorem dX12_carryRow_17 : decode cX12_carryRow 17 = .ok (.aload_n 0, 1) := by decide +kernel
theorem dX12_carryRow_18 : decode cX12_carryRow 18 = .ok (.getfield 167, 3) := by decide +kernel
theorem dX12_carryRow_21 : decode cX12_carryRow 21 = .ok (.aload_n 0, 1) := by decide +kernel
theorem dX12_carryRow_22 : decode cX12_carryRow 22 = .ok (.getfield 612, 3) := by decide +kernel
theorem dX12_carryRow_25 : decode cX12_carryRow 25 = .ok (.iaload, 1) := by decide +kernel
theorem dX12_carryRow_26 : decode cX12_carryRow 26 = .ok (.iastore, 1) := by decide +kernel
theorem dX12_carryRow_27 : decode cX12_carryRow 27 = .ok (.goto 15, 3) := by decide +kernel
theorem dX12_carryRow_30 : decode cX12_carryRow 30 = .ok (.aload_n 0, 1) := by decide +kernel
theorem dX12_carryRow_31 : decode cX12_carryRow 31 = .ok (.getfield 167, 3) := by decide +kernel
theorem dX12_carryRow_34 : decode cX12_carryRow 34 = .ok (.aload_n 0, 1) := by decide +kernel
theorem dX12_carryRow_35 : decode cX12_carryRow 35 = .ok (.getfield 612, 3) := by decide +kernel
theorem dX12_carryRow_38 : decode cX12_carryRow 38 = .ok (.aload_n 1, 1) := by decide +kernel
theorem dX12_carryRow_39 : decode cX12_carryRow 39 = .ok (.iload_n 2, 1) := by decide +kernel
theorem dX12_carryRow_40 : decode cX12_carryRow 40 = .ok (.iaload, 1) := by decide +kernel
theorem dX12_carryRow_41 : decode cX12_carryRow 41 = .ok (.iastore, 1) := by decide +kernel
theorem dX12_carryRow_42 : decode cX12_carryRow 42 = .ok (.aload_n 0, 1) := by decide +kernel
theorem dX12_carryRow_43 : decode cX12_carryRow 43 = .ok (.dup, 1) := by decide +kernel
theorem dX12_carryRow_44 : decode cX12_carryRow 44 = .ok (.getfield 612, 3) := by decide +kernel
theorem dX12_carryRow_47 : decode cX12_carryRow 47 = .ok (.iconst 1, 1) := by decide +kernel
theorem dX12_carryRow_48 : decode cX12_carryRow 48 = .ok (.iadd, 1) := by decide +kernel
theorem dX12_carryRow_49 : decode cX12_carryRow 49 = .ok (.putfield 612, 3) := by decide +kernel
theorem dX12_carryRow_52 : decode cX12_carryRow 52 = .ok (.iinc 2 1, 3) := by decide +kernel
theorem dX12_carryRow_55 : decode cX12_carryRow 55 = .ok (.goto (-53), 3) := by decide +kernel
theorem dX12_carryRow_58 : decode cX12_carryRow 58 = .ok (.return_, 1) := by decide +kernel
theorem dX12_carriesAll_0 : decode cX12_carriesAll 0 = .ok (.aload_n 0, 1) := by decide +kernel
theorem dX12_carriesAll_1 : decode cX12_carriesAll 1 = .ok (.sipush 1900, 3) := by decide +kernel
theorem dX12_carriesAll_4 : decode cX12_carriesAll 4 = .ok (.iload_n 1, 1) := by decide +kernel
theorem dX12_carriesAll_5 : decode cX12_carriesAll 5 = .ok (.imul, 1) := by decide +kernel
theorem dX12_carriesAll_6 : decode cX12_carriesAll 6 = .ok (.putfield 612, 3) := by decide +kernel
theorem dX12_carriesAll_9 : decode cX12_carriesAll 9 = .ok (.aload_n 0, 1) := by decide +kernel
theorem dX12_carriesAll_10 : decode cX12_carriesAll 10 = .ok (.iload_n 2, 1) := by decide +kernel
theorem dX12_carriesAll_11 : decode cX12_carriesAll 11 = .ok (.putfield 609, 3) := by decide +kernel
theorem dX12_carriesAll_14 : decode cX12_carriesAll 14 = .ok (.aload_n 0, 1) := by decide +kernel
theorem dX12_carriesAll_15 : decode cX12_carriesAll 15 = .ok (.getfield 139, 3) := by decide +kernel
theorem dX12_carriesAll_18 : decode cX12_carriesAll 18 = .ok (.iconst 0, 1) := by decide +kernel
theorem dX12_carriesAll_19 : decode cX12_carriesAll 19 = .ok (.aload_n 0, 1) := by decide +kernel
theorem dX12_carriesAll_20 : decode cX12_carriesAll 20 = .ok (.getfield 359, 3) := by decide +kernel
theorem dX12_carriesAll_23 : decode cX12_carriesAll 23 = .ok (.iastore, 1) := by decide +kernel
theorem dX12_carriesAll_24 : decode cX12_carriesAll 24 = .ok (.aload_n 0, 1) := by decide +kernel
theorem dX12_carriesAll_25 : decode cX12_carriesAll 25 = .ok (.aload_n 0, 1) := by decide +kernel
theorem dX12_carriesAll_26 : decode cX12_carriesAll 26 = .ok (.getfield 139, 3) := by decide +kernel
theorem dX12_carriesAll_29 : decode cX12_carriesAll 29 = .ok (.invokevirtual 615, 3) := by decide +kernel
theorem dX12_carriesAll_32 : decode cX12_carriesAll 32 = .ok (.aload_n 0, 1) := by decide +kernel
theorem dX12_carriesAll_33 : decode cX12_carriesAll 33 = .ok (.aload_n 0, 1) := by decide +kernel
theorem dX12_carriesAll_34 : decode cX12_carriesAll 34 = .ok (.getfield 139, 3) := by decide +kernel
theorem dX12_carriesAll_37 : decode cX12_carriesAll 37 = .ok (.iconst 0, 1) := by decide +kernel
theorem dX12_carriesAll_38 : decode cX12_carriesAll 38 = .ok (.iaload, 1) := by decide +kernel
theorem dX12_carriesAll_39 : decode cX12_carriesAll 39 = .ok (.putfield 359, 3) := by decide +kernel
theorem dX12_carriesAll_42 : decode cX12_carriesAll 42 = .ok (.aload_n 0, 1) := by decide +kernel
theorem dX12_carriesAll_43 : decode cX12_carriesAll 43 = .ok (.aload_n 0, 1) := by decide +kernel
theorem dX12_carriesAll_44 : decode cX12_carriesAll 44 = .ok (.getfield 9, 3) := by decide +kernel
theorem dX12_carriesAll_47 : decode cX12_carriesAll 47 = .ok (.invokevirtual 615, 3) := by decide +kernel
theorem dX12_carriesAll_50 : decode cX12_carriesAll 50 = .ok (.aload_n 0, 1) := by decide +kernel
theorem dX12_carriesAll_51 : decode cX12_carriesAll 51 = .ok (.aload_n 0, 1) := by decide +kernel
theorem dX12_carriesAll_52 : decode cX12_carriesAll 52 = .ok (.getfield 13, 3) := by decide +kernel
theorem dX12_carriesAll_55 : decode cX12_carriesAll 55 = .ok (.invokevirtual 615, 3) := by decide +kernel
theorem dX12_carriesAll_58 : decode cX12_carriesAll 58 = .ok (.aload_n 0, 1) := by decide +kernel
theorem dX12_carriesAll_59 : decode cX12_carriesAll 59 = .ok (.aload_n 0, 1) := by decide +kernel
theorem dX12_carriesAll_60 : decode cX12_carriesAll 60 = .ok (.getfield 16, 3) := by decide +kernel
theorem dX12_carriesAll_63 : decode cX12_carriesAll 63 = .ok (.invokevirtual 615, 3) := by decide +kernel
theorem dX12_carriesAll_66 : decode cX12_carriesAll 66 = .ok (.aload_n 0, 1) := by decide +kernel
theorem dX12_carriesAll_67 : decode cX12_carriesAll 67 = .ok (.aload_n 0, 1) := by decide +kernel
theorem dX12_carriesAll_68 : decode cX12_carriesAll 68 = .ok (.getfield 19, 3) := by decide +kernel
theorem dX12_carriesAll_71 : decode cX12_carriesAll 71 = .ok (.invokevirtual 615, 3) := by decide +kernel
theorem dX12_carriesAll_74 : decode cX12_carriesAll 74 = .ok (.aload_n 0, 1) := by decide +kernel
theorem dX12_carriesAll_75 : decode cX12_carriesAll 75 = .ok (.aload_n 0, 1) := by decide +kernel
theorem dX12_carriesAll_76 : decode cX12_carriesAll 76 = .ok (.getfield 22, 3) := by decide +kernel
theorem dX12_carriesAll_79 : decode cX12_carriesAll 79 = .ok (.invokevirtual 615, 3) := by decide +kernel
theorem dX12_carriesAll_82 : decode cX12_carriesAll 82 = .ok (.aload_n 0, 1) := by decide +kernel
theorem dX12_carriesAll_83 : decode cX12_carriesAll 83 = .ok (.aload_n 0, 1) := by decide +kernel
theorem dX12_carriesAll_84 : decode cX12_carriesAll 84 = .ok (.getfield 25, 3) := by decide +kernel
theorem dX12_carriesAll_87 : decode cX12_carriesAll 87 = .ok (.invokevirtual 615, 3) := by decide +kernel
theorem dX12_carriesAll_90 : decode cX12_carriesAll 90 = .ok (.aload_n 0, 1) := by decide +kernel
theorem dX12_carriesAll_91 : decode cX12_carriesAll 91 = .ok (.aload_n 0, 1) := by decide +kernel
theorem dX12_carriesAll_92 : decode cX12_carriesAll 92 = .ok (.getfield 28, 3) := by decide +kernel
theorem dX12_carriesAll_95 : decode cX12_carriesAll 95 = .ok (.invokevirtual 615, 3) := by decide +kernel
theorem dX12_carriesAll_98 : decode cX12_carriesAll 98 = .ok (.aload_n 0, 1) := by decide +kernel
theorem dX12_carriesAll_99 : decode cX12_carriesAll 99 = .ok (.aload_n 0, 1) := by decide +kernel
theorem dX12_carriesAll_100 : decode cX12_carriesAll 100 = .ok (.getfield 31, 3) := by decide +kernel
theorem dX12_carriesAll_103 : decode cX12_carriesAll 103 = .ok (.invokevirtual 615, 3) := by decide +kernel
theorem dX12_carriesAll_106 : decode cX12_carriesAll 106 = .ok (.aload_n 0, 1) := by decide +kernel
theorem dX12_carriesAll_107 : decode cX12_carriesAll 107 = .ok (.aload_n 0, 1) := by decide +kernel
theorem dX12_carriesAll_108 : decode cX12_carriesAll 108 = .ok (.getfield 34, 3) := by decide +kernel
theorem dX12_carriesAll_111 : decode cX12_carriesAll 111 = .ok (.invokevirtual 615, 3) := by decide +kernel
theorem dX12_carriesAll_114 : decode cX12_carriesAll 114 = .ok (.aload_n 0, 1) := by decide +kernel
theorem dX12_carriesAll_115 : decode cX12_carriesAll 115 = .ok (.aload_n 0, 1) := by decide +kernel
theorem dX12_carriesAll_116 : decode cX12_carriesAll 116 = .ok (.getfield 37, 3) := by decide +kernel
theorem dX12_carriesAll_119 : decode cX12_carriesAll 119 = .ok (.invokevirtual 615, 3) := by decide +kernel
theorem dX12_carriesAll_122 : decode cX12_carriesAll 122 = .ok (.aload_n 0, 1) := by decide +kernel
theorem dX12_carriesAll_123 : decode cX12_carriesAll 123 = .ok (.aload_n 0, 1) := by decide +kernel
theorem dX12_carriesAll_124 : decode cX12_carriesAll 124 = .ok (.getfield 40, 3) := by decide +kernel
theorem dX12_carriesAll_127 : decode cX12_carriesAll 127 = .ok (.invokevirtual 615, 3) := by decide +kernel
theorem dX12_carriesAll_130 : decode cX12_carriesAll 130 = .ok (.aload_n 0, 1) := by decide +kernel
theorem dX12_carriesAll_131 : decode cX12_carriesAll 131 = .ok (.aload_n 0, 1) := by decide +kernel
theorem dX12_carriesAll_132 : decode cX12_carriesAll 132 = .ok (.getfield 43, 3) := by decide +kernel
theorem dX12_carriesAll_135 : decode cX12_carriesAll 135 = .ok (.invokevirtual 615, 3) := by decide +kernel
theorem dX12_carriesAll_138 : decode cX12_carriesAll 138 = .ok (.aload_n 0, 1) := by decide +kernel
theorem dX12_carriesAll_139 : decode cX12_carriesAll 139 = .ok (.aload_n 0, 1) := by decide +kernel
theorem dX12_carriesAll_140 : decode cX12_carriesAll 140 = .ok (.getfield 46, 3) := by decide +kernel
theorem dX12_carriesAll_143 : decode cX12_carriesAll 143 = .ok (.invokevirtual 615, 3) := by decide +kernel
theorem dX12_carriesAll_146 : decode cX12_carriesAll 146 = .ok (.aload_n 0, 1) := by decide +kernel
theorem dX12_carriesAll_147 : decode cX12_carriesAll 147 = .ok (.aload_n 0, 1) := by decide +kernel
theorem dX12_carriesAll_148 : decode cX12_carriesAll 148 = .ok (.getfield 49, 3) := by decide +kernel
theorem dX12_carriesAll_151 : decode cX12_carriesAll 151 = .ok (.invokevirtual 615, 3) := by decide +kernel
theorem dX12_carriesAll_154 : decode cX12_carriesAll 154 = .ok (.aload_n 0, 1) := by decide +kernel
theorem dX12_carriesAll_155 : decode cX12_carriesAll 155 = .ok (.aload_n 0, 1) := by decide +kernel
theorem dX12_carriesAll_156 : decode cX12_carriesAll 156 = .ok (.getfield 52, 3) := by decide +kernel
theorem dX12_carriesAll_159 : decode cX12_carriesAll 159 = .ok (.invokevirtual 615, 3) := by decide +kernel
theorem dX12_carriesAll_162 : decode cX12_carriesAll 162 = .ok (.aload_n 0, 1) := by decide +kernel
theorem dX12_carriesAll_163 : decode cX12_carriesAll 163 = .ok (.aload_n 0, 1) := by decide +kernel
theorem dX12_carriesAll_164 : decode cX12_carriesAll 164 = .ok (.getfield 55, 3) := by decide +kernel
theorem dX12_carriesAll_167 : decode cX12_carriesAll 167 = .ok (.invokevirtual 615, 3) := by decide +kernel
theorem dX12_carriesAll_170 : decode cX12_carriesAll 170 = .ok (.aload_n 0, 1) := by decide +kernel
theorem dX12_carriesAll_171 : decode cX12_carriesAll 171 = .ok (.aload_n 0, 1) := by decide +kernel
theorem dX12_carriesAll_172 : decode cX12_carriesAll 172 = .ok (.getfield 58, 3) := by decide +kernel
theorem dX12_carriesAll_175 : decode cX12_carriesAll 175 = .ok (.invokevirtual 615, 3) := by decide +kernel
theorem dX12_carriesAll_178 : decode cX12_carriesAll 178 = .ok (.aload_n 0, 1) := by decide +kernel
theorem dX12_carriesAll_179 : decode cX12_carriesAll 179 = .ok (.aload_n 0, 1) := by decide +kernel
theorem dX12_carriesAll_180 : decode cX12_carriesAll 180 = .ok (.getfield 61, 3) := by decide +kernel
theorem dX12_carriesAll_183 : decode cX12_carriesAll 183 = .ok (.invokevirtual 615, 3) := by decide +kernel
theorem dX12_carriesAll_186 : decode cX12_carriesAll 186 = .ok (.aload_n 0, 1) := by decide +kernel
theorem dX12_carriesAll_187 : decode cX12_carriesAll 187 = .ok (.aload_n 0, 1) := by decide +kernel
theorem dX12_carriesAll_188 : decode cX12_carriesAll 188 = .ok (.getfield 136, 3) := by decide +kernel
theorem dX12_carriesAll_191 : decode cX12_carriesAll 191 = .ok (.invokevirtual 615, 3) := by decide +kernel
theorem dX12_carriesAll_194 : decode cX12_carriesAll 194 = .ok (.return_, 1) := by decide +kernel
theorem dX12_image_0 : decode cX12_image 0 = .ok (.iload_n 1, 1) := by decide +kernel
theorem dX12_image_1 : decode cX12_image 1 = .ok (.i2l, 1) := by decide +kernel
theorem dX12_image_2 : decode cX12_image 2 = .ok (.lconst 0, 1) := by decide +kernel
theorem dX12_image_3 : decode cX12_image 3 = .ok (.ldc2_w 519, 3) := by decide +kernel
theorem dX12_image_6 : decode cX12_image 6 = .ok (.invokestatic 176, 3) := by decide +kernel
theorem dX12_image_9 : decode cX12_image 9 = .ok (.ifCond .ne 5, 3) := by decide +kernel
theorem dX12_image_12 : decode cX12_image 12 = .ok (.iconst (-1), 1) := by decide +kernel
theorem dX12_image_13 : decode cX12_image 13 = .ok (.ireturn, 1) := by decide +kernel
theorem dX12_image_14 : decode cX12_image 14 = .ok (.aload_n 0, 1) := by decide +kernel
theorem dX12_image_15 : decode cX12_image 15 = .ok (.getfield 170, 3) := by decide +kernel
theorem dX12_image_18 : decode cX12_image 18 = .ok (.iload_n 1, 1) := by decide +kernel
theorem dX12_image_19 : decode cX12_image 19 = .ok (.iconst 1, 1) := by decide +kernel
theorem dX12_image_20 : decode cX12_image 20 = .ok (.bastore, 1) := by decide +kernel
theorem dX12_image_21 : decode cX12_image 21 = .ok (.aload_n 0, 1) := by decide +kernel
theorem dX12_image_22 : decode cX12_image 22 = .ok (.iload_n 1, 1) := by decide +kernel
theorem dX12_image_23 : decode cX12_image 23 = .ok (.iconst 0, 1) := by decide +kernel
theorem dX12_image_24 : decode cX12_image 24 = .ok (.invokevirtual 516, 3) := by decide +kernel
theorem dX12_image_27 : decode cX12_image 27 = .ok (.aload_n 0, 1) := by decide +kernel
theorem dX12_image_28 : decode cX12_image 28 = .ok (.getfield 9, 3) := by decide +kernel
theorem dX12_image_31 : decode cX12_image 31 = .ok (.bipush 6, 2) := by decide +kernel
theorem dX12_image_33 : decode cX12_image 33 = .ok (.iaload, 1) := by decide +kernel
theorem dX12_image_34 : decode cX12_image 34 = .ok (.ireturn, 1) := by decide +kernel
theorem dX12_back_0 : decode cX12_back 0 = .ok (.iload_n 1, 1) := by decide +kernel
theorem dX12_back_1 : decode cX12_back 1 = .ok (.i2l, 1) := by decide +kernel
theorem dX12_back_2 : decode cX12_back 2 = .ok (.lconst 0, 1) := by decide +kernel
theorem dX12_back_3 : decode cX12_back 3 = .ok (.ldc2_w 519, 3) := by decide +kernel
theorem dX12_back_6 : decode cX12_back 6 = .ok (.invokestatic 176, 3) := by decide +kernel
theorem dX12_back_9 : decode cX12_back 9 = .ok (.ifCond .eq 12, 3) := by decide +kernel
theorem dX12_back_12 : decode cX12_back 12 = .ok (.aload_n 0, 1) := by decide +kernel
theorem dX12_back_13 : decode cX12_back 13 = .ok (.getfield 170, 3) := by decide +kernel
theorem dX12_back_16 : decode cX12_back 16 = .ok (.iload_n 1, 1) := by decide +kernel
theorem dX12_back_17 : decode cX12_back 17 = .ok (.baload, 1) := by decide +kernel
theorem dX12_back_18 : decode cX12_back 18 = .ok (.ifCond .ne 5, 3) := by decide +kernel
theorem dX12_back_21 : decode cX12_back 21 = .ok (.iconst (-1), 1) := by decide +kernel
theorem dX12_back_22 : decode cX12_back 22 = .ok (.ireturn, 1) := by decide +kernel
theorem dX12_back_23 : decode cX12_back 23 = .ok (.aload_n 0, 1) := by decide +kernel
theorem dX12_back_24 : decode cX12_back 24 = .ok (.iload_n 1, 1) := by decide +kernel
theorem dX12_back_25 : decode cX12_back 25 = .ok (.iconst 1, 1) := by decide +kernel
theorem dX12_back_26 : decode cX12_back 26 = .ok (.invokevirtual 516, 3) := by decide +kernel
theorem dX12_back_29 : decode cX12_back 29 = .ok (.aload_n 0, 1) := by decide +kernel
theorem dX12_back_30 : decode cX12_back 30 = .ok (.getfield 9, 3) := by decide +kernel
theorem dX12_back_33 : decode cX12_back 33 = .ok (.bipush 6, 2) := by decide +kernel
theorem dX12_back_35 : decode cX12_back 35 = .ok (.iaload, 1) := by decide +kernel
theorem dX12_back_36 : decode cX12_back 36 = .ok (.ireturn, 1) := by decide +kernel
theorem dJ6_bitCount_0f7a4_0 : decode cJ6_bitCount_0f7a4 0 = .ok (.iload_n 0, 1) := by decide +kernel
theorem dJ6_bitCount_0f7a4_1 : decode cJ6_bitCount_0f7a4 1 = .ok (.iload_n 0, 1) := by decide +kernel
theorem dJ6_bitCount_0f7a4_2 : decode cJ6_bitCount_0f7a4 2 = .ok (.iconst 1, 1) := by decide +kernel
theorem dJ6_bitCount_0f7a4_3 : decode cJ6_bitCount_0f7a4 3 = .ok (.iushr, 1) := by decide +kernel
theorem dJ6_bitCount_0f7a4_4 : decode cJ6_bitCount_0f7a4 4 = .ok (.ldc_w 265, 3) := by decide +kernel
theorem dJ6_bitCount_0f7a4_7 : decode cJ6_bitCount_0f7a4 7 = .ok (.iand, 1) := by decide +kernel
theorem dJ6_bitCount_0f7a4_8 : decode cJ6_bitCount_0f7a4 8 = .ok (.isub, 1) := by decide +kernel
theorem dJ6_bitCount_0f7a4_9 : decode cJ6_bitCount_0f7a4 9 = .ok (.istore_n 0, 1) := by decide +kernel
theorem dJ6_bitCount_0f7a4_10 : decode cJ6_bitCount_0f7a4 10 = .ok (.iload_n 0, 1) := by decide +kernel
theorem dJ6_bitCount_0f7a4_11 : decode cJ6_bitCount_0f7a4 11 = .ok (.ldc_w 266, 3) := by decide +kernel
theorem dJ6_bitCount_0f7a4_14 : decode cJ6_bitCount_0f7a4 14 = .ok (.iand, 1) := by decide +kernel
theorem dJ6_bitCount_0f7a4_15 : decode cJ6_bitCount_0f7a4 15 = .ok (.iload_n 0, 1) := by decide +kernel
theorem dJ6_bitCount_0f7a4_16 : decode cJ6_bitCount_0f7a4 16 = .ok (.iconst 2, 1) := by decide +kernel
theorem dJ6_bitCount_0f7a4_17 : decode cJ6_bitCount_0f7a4 17 = .ok (.iushr, 1) := by decide +kernel
theorem dJ6_bitCount_0f7a4_18 : decode cJ6_bitCount_0f7a4 18 = .ok (.ldc_w 266, 3) := by decide +kernel
theorem dJ6_bitCount_0f7a4_21 : decode cJ6_bitCount_0f7a4 21 = .ok (.iand, 1) := by decide +kernel
theorem dJ6_bitCount_0f7a4_22 : decode cJ6_bitCount_0f7a4 22 = .ok (.iadd, 1) := by decide +kernel
theorem dJ6_bitCount_0f7a4_23 : decode cJ6_bitCount_0f7a4 23 = .ok (.istore_n 0, 1) := by decide +kernel
theorem dJ6_bitCount_0f7a4_24 : decode cJ6_bitCount_0f7a4 24 = .ok (.iload_n 0, 1) := by decide +kernel
theorem dJ6_bitCount_0f7a4_25 : decode cJ6_bitCount_0f7a4 25 = .ok (.iload_n 0, 1) := by decide +kernel
theorem dJ6_bitCount_0f7a4_26 : decode cJ6_bitCount_0f7a4 26 = .ok (.iconst 4, 1) := by decide +kernel
theorem dJ6_bitCount_0f7a4_27 : decode cJ6_bitCount_0f7a4 27 = .ok (.iushr, 1) := by decide +kernel
theorem dJ6_bitCount_0f7a4_28 : decode cJ6_bitCount_0f7a4 28 = .ok (.iadd, 1) := by decide +kernel
theorem dJ6_bitCount_0f7a4_29 : decode cJ6_bitCount_0f7a4 29 = .ok (.ldc_w 267, 3) := by decide +kernel
theorem dJ6_bitCount_0f7a4_32 : decode cJ6_bitCount_0f7a4 32 = .ok (.iand, 1) := by decide +kernel
theorem dJ6_bitCount_0f7a4_33 : decode cJ6_bitCount_0f7a4 33 = .ok (.istore_n 0, 1) := by decide +kernel
theorem dJ6_bitCount_0f7a4_34 : decode cJ6_bitCount_0f7a4 34 = .ok (.iload_n 0, 1) := by decide +kernel
theorem dJ6_bitCount_0f7a4_35 : decode cJ6_bitCount_0f7a4 35 = .ok (.iload_n 0, 1) := by decide +kernel
theorem dJ6_bitCount_0f7a4_36 : decode cJ6_bitCount_0f7a4 36 = .ok (.bipush 8, 2) := by decide +kernel
theorem dJ6_bitCount_0f7a4_38 : decode cJ6_bitCount_0f7a4 38 = .ok (.iushr, 1) := by decide +kernel
theorem dJ6_bitCount_0f7a4_39 : decode cJ6_bitCount_0f7a4 39 = .ok (.iadd, 1) := by decide +kernel
theorem dJ6_bitCount_0f7a4_40 : decode cJ6_bitCount_0f7a4 40 = .ok (.istore_n 0, 1) := by decide +kernel
theorem dJ6_bitCount_0f7a4_41 : decode cJ6_bitCount_0f7a4 41 = .ok (.iload_n 0, 1) := by decide +kernel
theorem dJ6_bitCount_0f7a4_42 : decode cJ6_bitCount_0f7a4 42 = .ok (.iload_n 0, 1) := by decide +kernel
theorem dJ6_bitCount_0f7a4_43 : decode cJ6_bitCount_0f7a4 43 = .ok (.bipush 16, 2) := by decide +kernel
theorem dJ6_bitCount_0f7a4_45 : decode cJ6_bitCount_0f7a4 45 = .ok (.iushr, 1) := by decide +kernel
theorem dJ6_bitCount_0f7a4_46 : decode cJ6_bitCount_0f7a4 46 = .ok (.iadd, 1) := by decide +kernel
theorem dJ6_bitCount_0f7a4_47 : decode cJ6_bitCount_0f7a4 47 = .ok (.istore_n 0, 1) := by decide +kernel
theorem dJ6_bitCount_0f7a4_48 : decode cJ6_bitCount_0f7a4 48 = .ok (.iload_n 0, 1) := by decide +kernel
theorem dJ6_bitCount_0f7a4_49 : decode cJ6_bitCount_0f7a4 49 = .ok (.bipush 63, 2) := by decide +kernel
theorem dJ6_bitCount_0f7a4_51 : decode cJ6_bitCount_0f7a4 51 = .ok (.iand, 1) := by decide +kernel
theorem dJ6_bitCount_0f7a4_52 : decode cJ6_bitCount_0f7a4 52 = .ok (.ireturn, 1) := by decide +kernel
theorem dJ9_abs_0f7a4_0 : decode cJ9_abs_0f7a4 0 = .ok (.iload_n 0, 1) := by decide +kernel
theorem dJ9_abs_0f7a4_1 : decode cJ9_abs_0f7a4 1 = .ok (.ifCond .ge 8, 3) := by decide +kernel
theorem dJ9_abs_0f7a4_4 : decode cJ9_abs_0f7a4 4 = .ok (.iload_n 0, 1) := by decide +kernel
theorem dJ9_abs_0f7a4_5 : decode cJ9_abs_0f7a4 5 = .ok (.ineg, 1) := by decide +kernel
theorem dJ9_abs_0f7a4_6 : decode cJ9_abs_0f7a4 6 = .ok (.goto 4, 3) := by decide +kernel
theorem dJ9_abs_0f7a4_9 : decode cJ9_abs_0f7a4 9 = .ok (.iload_n 0, 1) := by decide +kernel
theorem dJ9_abs_0f7a4_10 : decode cJ9_abs_0f7a4 10 = .ok (.ireturn, 1) := by decide +kernel
theorem dJ9_max_7cf53_0 : decode cJ9_max_7cf53 0 = .ok (.iload_n 0, 1) := by decide +kernel
theorem dJ9_max_7cf53_1 : decode cJ9_max_7cf53 1 = .ok (.iload_n 1, 1) := by decide +kernel
theorem dJ9_max_7cf53_2 : decode cJ9_max_7cf53 2 = .ok (.if_icmp .lt 7, 3) := by decide +kernel
theorem dJ9_max_7cf53_5 : decode cJ9_max_7cf53 5 = .ok (.iload_n 0, 1) := by decide +kernel
theorem dJ9_max_7cf53_6 : decode cJ9_max_7cf53 6 = .ok (.goto 4, 3) := by decide +kernel
theorem dJ9_max_7cf53_9 : decode cJ9_max_7cf53 9 = .ok (.iload_n 1, 1) := by decide +kernel
theorem dJ9_max_7cf53_10 : decode cJ9_max_7cf53 10 = .ok (.ireturn, 1) := by decide +kernel
theorem dJ9_min_7cf53_0 : decode cJ9_min_7cf53 0 = .ok (.iload_n 0, 1) := by decide +kernel
theorem dJ9_min_7cf53_1 : decode cJ9_min_7cf53 1 = .ok (.iload_n 1, 1) := by decide +kernel
theorem dJ9_min_7cf53_2 : decode cJ9_min_7cf53 2 = .ok (.if_icmp .gt 7, 3) := by decide +kernel
theorem dJ9_min_7cf53_5 : decode cJ9_min_7cf53 5 = .ok (.iload_n 0, 1) := by decide +kernel
theorem dJ9_min_7cf53_6 : decode cJ9_min_7cf53 6 = .ok (.goto 4, 3) := by decide +kernel
theorem dJ9_min_7cf53_9 : decode cJ9_min_7cf53 9 = .ok (.iload_n 1, 1) := by decide +kernel
theorem dJ9_min_7cf53_10 : decode cJ9_min_7cf53 10 = .ok (.ireturn, 1) := by decide +kernel
theorem dJ0_length_8abf5_0 : decode cJ0_length_8abf5 0 = .ok (.aload_n 0, 1) := by decide +kernel
theorem dJ0_length_8abf5_1 : decode cJ0_length_8abf5 1 = .ok (.getfield 9, 3) := by decide +kernel
theorem dJ0_length_8abf5_4 : decode cJ0_length_8abf5 4 = .ok (.arraylength, 1) := by decide +kernel
theorem dJ0_length_8abf5_5 : decode cJ0_length_8abf5 5 = .ok (.aload_n 0, 1) := by decide +kernel
theorem dJ0_length_8abf5_6 : decode cJ0_length_8abf5 6 = .ok (.invokevirtual 335, 3) := by decide +kernel
theorem dJ0_length_8abf5_9 : decode cJ0_length_8abf5 9 = .ok (.ishr, 1) := by decide +kernel
theorem dJ0_length_8abf5_10 : decode cJ0_length_8abf5 10 = .ok (.ireturn, 1) := by decide +kernel
theorem dJ0_charAt_5068e_0 : decode cJ0_charAt_5068e 0 = .ok (.aload_n 0, 1) := by decide +kernel
theorem dJ0_charAt_5068e_1 : decode cJ0_charAt_5068e 1 = .ok (.invokevirtual 492, 3) := by decide +kernel
theorem dJ0_charAt_5068e_4 : decode cJ0_charAt_5068e 4 = .ok (.ifCond .eq 12, 3) := by decide +kernel
theorem dJ0_charAt_5068e_7 : decode cJ0_charAt_5068e 7 = .ok (.aload_n 0, 1) := by decide +kernel
theorem dJ0_charAt_5068e_8 : decode cJ0_charAt_5068e 8 = .ok (.getfield 9, 3) := by decide +kernel
theorem dJ0_charAt_5068e_11 : decode cJ0_charAt_5068e 11 = .ok (.iload_n 1, 1) := by decide +kernel
theorem dJ0_charAt_5068e_12 : decode cJ0_charAt_5068e 12 = .ok (.invokestatic 495, 3) := by decide +kernel
theorem dJ0_charAt_5068e_15 : decode cJ0_charAt_5068e 15 = .ok (.ireturn, 1) := by decide +kernel
theorem dJ0_charAt_5068e_16 : decode cJ0_charAt_5068e 16 = .ok (.aload_n 0, 1) := by decide +kernel
theorem dJ0_charAt_5068e_17 : decode cJ0_charAt_5068e 17 = .ok (.getfield 9, 3) := by decide +kernel
theorem dJ0_charAt_5068e_20 : decode cJ0_charAt_5068e 20 = .ok (.iload_n 1, 1) := by decide +kernel
theorem dJ0_charAt_5068e_21 : decode cJ0_charAt_5068e 21 = .ok (.invokestatic 498, 3) := by decide +kernel
theorem dJ0_charAt_5068e_24 : decode cJ0_charAt_5068e 24 = .ok (.ireturn, 1) := by decide +kernel
theorem dJ0_coder_7d493_0 : decode cJ0_coder_7d493 0 = .ok (.getstatic 38, 3) := by decide +kernel
theorem dJ0_coder_7d493_3 : decode cJ0_coder_7d493 3 = .ok (.ifCond .eq 10, 3) := by decide +kernel
theorem dJ0_coder_7d493_6 : decode cJ0_coder_7d493 6 = .ok (.aload_n 0, 1) := by decide +kernel
theorem dJ0_coder_7d493_7 : decode cJ0_coder_7d493 7 = .ok (.getfield 15, 3) := by decide +kernel
theorem dJ0_coder_7d493_10 : decode cJ0_coder_7d493 10 = .ok (.goto 4, 3) := by decide +kernel
theorem dJ0_coder_7d493_13 : decode cJ0_coder_7d493 13 = .ok (.iconst 1, 1) := by decide +kernel
theorem dJ0_coder_7d493_14 : decode cJ0_coder_7d493 14 = .ok (.ireturn, 1) := by decide +kernel
theorem dJ0_isLatin1_aae02_0 : decode cJ0_isLatin1_aae02 0 = .ok (.getstatic 38, 3) := by decide +kernel
theorem dJ0_isLatin1_aae02_3 : decode cJ0_isLatin1_aae02 3 = .ok (.ifCond .eq 14, 3) := by decide +kernel
theorem dJ0_isLatin1_aae02_6 : decode cJ0_isLatin1_aae02 6 = .ok (.aload_n 0, 1) := by decide +kernel
theorem dJ0_isLatin1_aae02_7 : decode cJ0_isLatin1_aae02 7 = .ok (.getfield 15, 3) := by decide +kernel
theorem dJ0_isLatin1_aae02_10 : decode cJ0_isLatin1_aae02 10 = .ok (.ifCond .ne 7, 3) := by decide +kernel
theorem dJ0_isLatin1_aae02_13 : decode cJ0_isLatin1_aae02 13 = .ok (.iconst 1, 1) := by decide +kernel
theorem dJ0_isLatin1_aae02_14 : decode cJ0_isLatin1_aae02 14 = .ok (.goto 4, 3) := by decide +kernel
theorem dJ0_isLatin1_aae02_17 : decode cJ0_isLatin1_aae02 17 = .ok (.iconst 0, 1) := by decide +kernel
theorem dJ0_isLatin1_aae02_18 : decode cJ0_isLatin1_aae02 18 = .ok (.ireturn, 1) := by decide +kernel
theorem dJ0_checkIndex_df160_0 : decode cJ0_checkIndex_df160 0 = .ok (.iload_n 0, 1) := by decide +kernel
theorem dJ0_checkIndex_df160_1 : decode cJ0_checkIndex_df160 1 = .ok (.iload_n 1, 1) := by decide +kernel
theorem dJ0_checkIndex_df160_2 : decode cJ0_checkIndex_df160 2 = .ok (.getstatic 1053, 3) := by decide +kernel
theorem dJ0_checkIndex_df160_5 : decode cJ0_checkIndex_df160 5 = .ok (.invokestatic 1059, 3) := by decide +kernel
theorem dJ0_checkIndex_df160_8 : decode cJ0_checkIndex_df160 8 = .ok (.pop, 1) := by decide +kernel
theorem dJ0_checkIndex_df160_9 : decode cJ0_checkIndex_df160 9 = .ok (.return_, 1) := by decide +kernel
theorem dJ1_charAt_3b067_0 : decode cJ1_charAt_3b067 0 = .ok (.iload_n 1, 1) := by decide +kernel
theorem dJ1_charAt_3b067_1 : decode cJ1_charAt_3b067 1 = .ok (.aload_n 0, 1) := by decide +kernel
theorem dJ1_charAt_3b067_2 : decode cJ1_charAt_3b067 2 = .ok (.arraylength, 1) := by decide +kernel
theorem dJ1_charAt_3b067_3 : decode cJ1_charAt_3b067 3 = .ok (.invokestatic 9, 3) := by decide +kernel
theorem dJ1_charAt_3b067_6 : decode cJ1_charAt_3b067 6 = .ok (.aload_n 0, 1) := by decide +kernel
theorem dJ1_charAt_3b067_7 : decode cJ1_charAt_3b067 7 = .ok (.iload_n 1, 1) := by decide +kernel
theorem dJ1_charAt_3b067_8 : decode cJ1_charAt_3b067 8 = .ok (.baload, 1) := by decide +kernel
theorem dJ1_charAt_3b067_9 : decode cJ1_charAt_3b067 9 = .ok (.sipush 255, 3) := by decide +kernel
theorem dJ1_charAt_3b067_12 : decode cJ1_charAt_3b067 12 = .ok (.iand, 1) := by decide +kernel
theorem dJ1_charAt_3b067_13 : decode cJ1_charAt_3b067 13 = .ok (.i2c, 1) := by decide +kernel
theorem dJ1_charAt_3b067_14 : decode cJ1_charAt_3b067 14 = .ok (.ireturn, 1) := by decide +kernel
theorem dJ2_getChar_3b067_0 : decode cJ2_getChar_3b067 0 = .ok (.getstatic 44, 3) := by decide +kernel
theorem dJ2_getChar_3b067_3 : decode cJ2_getChar_3b067 3 = .ok (.ifCond .ne 25, 3) := by decide +kernel
theorem dJ2_getChar_3b067_6 : decode cJ2_getChar_3b067 6 = .ok (.iload_n 1, 1) := by decide +kernel
theorem dJ2_getChar_3b067_7 : decode cJ2_getChar_3b067 7 = .ok (.ifCond .lt 11, 3) := by decide +kernel
theorem dJ2_getChar_3b067_10 : decode cJ2_getChar_3b067 10 = .ok (.iload_n 1, 1) := by decide +kernel
theorem dJ2_getChar_3b067_11 : decode cJ2_getChar_3b067 11 = .ok (.aload_n 0, 1) := by decide +kernel
theorem dJ2_getChar_3b067_12 : decode cJ2_getChar_3b067 12 = .ok (.invokestatic 48, 3) := by decide +kernel
theorem dJ2_getChar_3b067_15 : decode cJ2_getChar_3b067 15 = .ok (.if_icmp .lt 13, 3) := by decide +kernel
theorem dJ2_getChar_3b067_18 : decode cJ2_getChar_3b067 18 = .ok (.new 52, 3) := by decide +kernel
theorem dJ2_getChar_3b067_21 : decode cJ2_getChar_3b067 21 = .ok (.dup, 1) := by decide +kernel
theorem dJ2_getChar_3b067_22 : decode cJ2_getChar_3b067 22 = .ok (.ldc 54, 2) := by decide +kernel
theorem dJ2_getChar_3b067_24 : decode cJ2_getChar_3b067 24 = .ok (.invokespecial 56, 3) := by decide +kernel
theorem dJ2_getChar_3b067_27 : decode cJ2_getChar_3b067 27 = .ok (.athrow, 1) := by decide +kernel
theorem dJ2_getChar_3b067_28 : decode cJ2_getChar_3b067 28 = .ok (.iload_n 1, 1) := by decide +kernel
theorem dJ2_getChar_3b067_29 : decode cJ2_getChar_3b067 29 = .ok (.iconst 1, 1) := by decide +kernel
theorem dJ2_getChar_3b067_30 : decode cJ2_getChar_3b067 30 = .ok (.ishl, 1) := by decide +kernel
theorem dJ2_getChar_3b067_31 : decode cJ2_getChar_3b067 31 = .ok (.istore_n 1, 1) := by decide +kernel
theorem dJ2_getChar_3b067_32 : decode cJ2_getChar_3b067 32 = .ok (.aload_n 0, 1) := by decide +kernel
theorem dJ2_getChar_3b067_33 : decode cJ2_getChar_3b067 33 = .ok (.iload_n 1, 1) := by decide +kernel
theorem dJ2_getChar_3b067_34 : decode cJ2_getChar_3b067 34 = .ok (.iinc 1 1, 3) := by decide +kernel
theorem dJ2_getChar_3b067_37 : decode cJ2_getChar_3b067 37 = .ok (.baload, 1) := by decide +kernel
theorem dJ2_getChar_3b067_38 : decode cJ2_getChar_3b067 38 = .ok (.sipush 255, 3) := by decide +kernel
theorem dJ2_getChar_3b067_41 : decode cJ2_getChar_3b067 41 = .ok (.iand, 1) := by decide +kernel
theorem dJ2_getChar_3b067_42 : decode cJ2_getChar_3b067 42 = .ok (.getstatic 59, 3) := by decide +kernel
theorem dJ2_getChar_3b067_45 : decode cJ2_getChar_3b067 45 = .ok (.ishl, 1) := by decide +kernel
theorem dJ2_getChar_3b067_46 : decode cJ2_getChar_3b067 46 = .ok (.aload_n 0, 1) := by decide +kernel
theorem dJ2_getChar_3b067_47 : decode cJ2_getChar_3b067 47 = .ok (.iload_n 1, 1) := by decide +kernel
theorem dJ2_getChar_3b067_48 : decode cJ2_getChar_3b067 48 = .ok (.baload, 1) := by decide +kernel
theorem dJ2_getChar_3b067_49 : decode cJ2_getChar_3b067 49 = .ok (.sipush 255, 3) := by decide +kernel
theorem dJ2_getChar_3b067_52 : decode cJ2_getChar_3b067 52 = .ok (.iand, 1) := by decide +kernel
theorem dJ2_getChar_3b067_53 : decode cJ2_getChar_3b067 53 = .ok (.getstatic 63, 3) := by decide +kernel
theorem dJ2_getChar_3b067_56 : decode cJ2_getChar_3b067 56 = .ok (.ishl, 1) := by decide +kernel
theorem dJ2_getChar_3b067_57 : decode cJ2_getChar_3b067 57 = .ok (.ior, 1) := by decide +kernel
theorem dJ2_getChar_3b067_58 : decode cJ2_getChar_3b067 58 = .ok (.i2c, 1) := by decide +kernel
theorem dJ2_getChar_3b067_59 : decode cJ2_getChar_3b067 59 = .ok (.ireturn, 1) := by decide +kernel
theorem dJ2_length_9d52b_0 : decode cJ2_length_9d52b 0 = .ok (.aload_n 0, 1) := by decide +kernel
theorem dJ2_length_9d52b_1 : decode cJ2_length_9d52b 1 = .ok (.arraylength, 1) := by decide +kernel
theorem dJ2_length_9d52b_2 : decode cJ2_length_9d52b 2 = .ok (.iconst 1, 1) := by decide +kernel
theorem dJ2_length_9d52b_3 : decode cJ2_length_9d52b 3 = .ok (.ishr, 1) := by decide +kernel
theorem dJ2_length_9d52b_4 : decode cJ2_length_9d52b 4 = .ok (.ireturn, 1) := by decide +kernel
theorem dJ2_charAt_3b067_0 : decode cJ2_charAt_3b067 0 = .ok (.iload_n 1, 1) := by decide +kernel
theorem dJ2_charAt_3b067_1 : decode cJ2_charAt_3b067 1 = .ok (.aload_n 0, 1) := by decide +kernel
theorem dJ2_charAt_3b067_2 : decode cJ2_charAt_3b067 2 = .ok (.invokestatic 67, 3) := by decide +kernel
theorem dJ2_charAt_3b067_5 : decode cJ2_charAt_3b067 5 = .ok (.aload_n 0, 1) := by decide +kernel
theorem dJ2_charAt_3b067_6 : decode cJ2_charAt_3b067 6 = .ok (.iload_n 1, 1) := by decide +kernel
theorem dJ2_charAt_3b067_7 : decode cJ2_charAt_3b067 7 = .ok (.invokestatic 71, 3) := by decide +kernel
theorem dJ2_charAt_3b067_10 : decode cJ2_charAt_3b067 10 = .ok (.ireturn, 1) := by decide +kernel
theorem dJ2_checkIndex_2214a_0 : decode cJ2_checkIndex_2214a 0 = .ok (.iload_n 0, 1) := by decide +kernel
theorem dJ2_checkIndex_2214a_1 : decode cJ2_checkIndex_2214a 1 = .ok (.aload_n 1, 1) := by decide +kernel
theorem dJ2_checkIndex_2214a_2 : decode cJ2_checkIndex_2214a 2 = .ok (.invokestatic 48, 3) := by decide +kernel
theorem dJ2_checkIndex_2214a_5 : decode cJ2_checkIndex_2214a 5 = .ok (.invokestatic 414, 3) := by decide +kernel
theorem dJ2_checkIndex_2214a_8 : decode cJ2_checkIndex_2214a 8 = .ok (.return_, 1) := by decide +kernel
theorem dJ7_fill_53178_0 : decode cJ7_fill_53178 0 = .ok (.iconst 0, 1) := by decide +kernel
theorem dJ7_fill_53178_1 : decode cJ7_fill_53178 1 = .ok (.istore_n 2, 1) := by decide +kernel
theorem dJ7_fill_53178_2 : decode cJ7_fill_53178 2 = .ok (.aload_n 0, 1) := by decide +kernel
theorem dJ7_fill_53178_3 : decode cJ7_fill_53178 3 = .ok (.arraylength, 1) := by decide +kernel
theorem dJ7_fill_53178_4 : decode cJ7_fill_53178 4 = .ok (.istore_n 3, 1) := by decide +kernel
theorem dJ7_fill_53178_5 : decode cJ7_fill_53178 5 = .ok (.iload_n 2, 1) := by decide +kernel
theorem dJ7_fill_53178_6 : decode cJ7_fill_53178 6 = .ok (.iload_n 3, 1) := by decide +kernel
theorem dJ7_fill_53178_7 : decode cJ7_fill_53178 7 = .ok (.if_icmp .ge 13, 3) := by decide +kernel
theorem dJ7_fill_53178_10 : decode cJ7_fill_53178 10 = .ok (.aload_n 0, 1) := by decide +kernel
theorem dJ7_fill_53178_11 : decode cJ7_fill_53178 11 = .ok (.iload_n 2, 1) := by decide +kernel
theorem dJ7_fill_53178_12 : decode cJ7_fill_53178 12 = .ok (.iload_n 1, 1) := by decide +kernel
theorem dJ7_fill_53178_13 : decode cJ7_fill_53178 13 = .ok (.iastore, 1) := by decide +kernel
theorem dJ7_fill_53178_14 : decode cJ7_fill_53178 14 = .ok (.iinc 2 1, 3) := by decide +kernel
theorem dJ7_fill_53178_17 : decode cJ7_fill_53178 17 = .ok (.goto (-12), 3) := by decide +kernel
theorem dJ7_fill_53178_20 : decode cJ7_fill_53178 20 = .ok (.return_, 1) := by decide +kernel
theorem dJ3_checkIndex_8e157_0 : decode cJ3_checkIndex_8e157 0 = .ok (.iload_n 0, 1) := by decide +kernel
theorem dJ3_checkIndex_8e157_1 : decode cJ3_checkIndex_8e157 1 = .ok (.ifCond .lt 8, 3) := by decide +kernel
theorem dJ3_checkIndex_8e157_4 : decode cJ3_checkIndex_8e157 4 = .ok (.iload_n 0, 1) := by decide +kernel
theorem dJ3_checkIndex_8e157_5 : decode cJ3_checkIndex_8e157 5 = .ok (.iload_n 1, 1) := by decide +kernel
theorem dJ3_checkIndex_8e157_6 : decode cJ3_checkIndex_8e157 6 = .ok (.if_icmp .lt 10, 3) := by decide +kernel
theorem dJ3_checkIndex_8e157_9 : decode cJ3_checkIndex_8e157 9 = .ok (.aload_n 2, 1) := by decide +kernel
theorem dJ3_checkIndex_8e157_10 : decode cJ3_checkIndex_8e157 10 = .ok (.iload_n 0, 1) := by decide +kernel
theorem dJ3_checkIndex_8e157_11 : decode cJ3_checkIndex_8e157 11 = .ok (.iload_n 1, 1) := by decide +kernel
theorem dJ3_checkIndex_8e157_12 : decode cJ3_checkIndex_8e157 12 = .ok (.invokestatic 95, 3) := by decide +kernel
theorem dJ3_checkIndex_8e157_15 : decode cJ3_checkIndex_8e157 15 = .ok (.athrow, 1) := by decide +kernel
theorem dJ3_checkIndex_8e157_16 : decode cJ3_checkIndex_8e157 16 = .ok (.iload_n 0, 1) := by decide +kernel
theorem dJ3_checkIndex_8e157_17 : decode cJ3_checkIndex_8e157 17 = .ok (.ireturn, 1) := by decide +kernel
theorem dL_law_0 : decode cL_law 0 = .ok (.new 7, 3) := by decide +kernel
theorem dL_law_3 : decode cL_law 3 = .ok (.dup, 1) := by decide +kernel
theorem dL_law_4 : decode cL_law 4 = .ok (.invokespecial 9, 3) := by decide +kernel
theorem dL_law_7 : decode cL_law 7 = .ok (.astore_n 1, 1) := by decide +kernel
theorem dL_law_8 : decode cL_law 8 = .ok (.new 10, 3) := by decide +kernel
theorem dL_law_11 : decode cL_law 11 = .ok (.dup, 1) := by decide +kernel
theorem dL_law_12 : decode cL_law 12 = .ok (.invokespecial 12, 3) := by decide +kernel
theorem dL_law_15 : decode cL_law 15 = .ok (.astore_n 2, 1) := by decide +kernel
theorem dL_law_16 : decode cL_law 16 = .ok (.iconst 0, 1) := by decide +kernel
theorem dL_law_17 : decode cL_law 17 = .ok (.istore_n 3, 1) := by decide +kernel
theorem dL_law_18 : decode cL_law 18 = .ok (.iload_n 3, 1) := by decide +kernel
theorem dL_law_19 : decode cL_law 19 = .ok (.aload_n 0, 1) := by decide +kernel
theorem dL_law_20 : decode cL_law 20 = .ok (.arraylength, 1) := by decide +kernel
theorem dL_law_21 : decode cL_law 21 = .ok (.bipush 6, 2) := by decide +kernel
theorem dL_law_23 : decode cL_law 23 = .ok (.isub, 1) := by decide +kernel
theorem dL_law_24 : decode cL_law 24 = .ok (.if_icmp .gt 1074, 3) := by decide +kernel
theorem dL_law_27 : decode cL_law 27 = .ok (.aload_n 0, 1) := by decide +kernel
theorem dL_law_28 : decode cL_law 28 = .ok (.iload_n 3, 1) := by decide +kernel
theorem dL_law_29 : decode cL_law 29 = .ok (.iaload, 1) := by decide +kernel
theorem dL_law_30 : decode cL_law 30 = .ok (.bipush 31, 2) := by decide +kernel
theorem dL_law_32 : decode cL_law 32 = .ok (.iand, 1) := by decide +kernel
theorem dL_law_33 : decode cL_law 33 = .ok (.tableswitch 1059 0 31 #[143, 206, 229, 242, 255, 288, 321, 354, 377, 400, 413, 456, 479, 502, 535, 548, 591, 624, 647, 680, 703, 736, 769, 792, 815, 858, 891, 924, 947, 990, 1013, 1036], 143) := by decide +kernel
theorem dL_law_176 : decode cL_law 176 = .ok (.aload_n 1, 1) := by decide +kernel
theorem dL_law_177 : decode cL_law 177 = .ok (.aload_n 0, 1) := by decide +kernel
theorem dL_law_178 : decode cL_law 178 = .ok (.iload_n 3, 1) := by decide +kernel
theorem dL_law_179 : decode cL_law 179 = .ok (.iconst 1, 1) := by decide +kernel
theorem dL_law_180 : decode cL_law 180 = .ok (.iadd, 1) := by decide +kernel
theorem dL_law_181 : decode cL_law 181 = .ok (.iaload, 1) := by decide +kernel
theorem dL_law_182 : decode cL_law 182 = .ok (.aload_n 0, 1) := by decide +kernel
theorem dL_law_183 : decode cL_law 183 = .ok (.iload_n 3, 1) := by decide +kernel
theorem dL_law_184 : decode cL_law 184 = .ok (.iconst 2, 1) := by decide +kernel
theorem dL_law_185 : decode cL_law 185 = .ok (.iadd, 1) := by decide +kernel
theorem dL_law_186 : decode cL_law 186 = .ok (.iaload, 1) := by decide +kernel
theorem dL_law_187 : decode cL_law 187 = .ok (.aload_n 0, 1) := by decide +kernel
theorem dL_law_188 : decode cL_law 188 = .ok (.iload_n 3, 1) := by decide +kernel
theorem dL_law_189 : decode cL_law 189 = .ok (.iconst 3, 1) := by decide +kernel
theorem dL_law_190 : decode cL_law 190 = .ok (.iadd, 1) := by decide +kernel
theorem dL_law_191 : decode cL_law 191 = .ok (.iaload, 1) := by decide +kernel
theorem dL_law_192 : decode cL_law 192 = .ok (.aload_n 0, 1) := by decide +kernel
theorem dL_law_193 : decode cL_law 193 = .ok (.iload_n 3, 1) := by decide +kernel
theorem dL_law_194 : decode cL_law 194 = .ok (.iconst 4, 1) := by decide +kernel
theorem dL_law_195 : decode cL_law 195 = .ok (.iadd, 1) := by decide +kernel
theorem dL_law_196 : decode cL_law 196 = .ok (.iaload, 1) := by decide +kernel
theorem dL_law_197 : decode cL_law 197 = .ok (.aload_n 0, 1) := by decide +kernel
theorem dL_law_198 : decode cL_law 198 = .ok (.iload_n 3, 1) := by decide +kernel
theorem dL_law_199 : decode cL_law 199 = .ok (.iconst 5, 1) := by decide +kernel
theorem dL_law_200 : decode cL_law 200 = .ok (.iadd, 1) := by decide +kernel
theorem dL_law_201 : decode cL_law 201 = .ok (.iaload, 1) := by decide +kernel
theorem dL_law_202 : decode cL_law 202 = .ok (.invokevirtual 13, 3) := by decide +kernel
theorem dL_law_205 : decode cL_law 205 = .ok (.aload_n 2, 1) := by decide +kernel
theorem dL_law_206 : decode cL_law 206 = .ok (.aload_n 0, 1) := by decide +kernel
theorem dL_law_207 : decode cL_law 207 = .ok (.iload_n 3, 1) := by decide +kernel
theorem dL_law_208 : decode cL_law 208 = .ok (.iconst 1, 1) := by decide +kernel
theorem dL_law_209 : decode cL_law 209 = .ok (.iadd, 1) := by decide +kernel
theorem dL_law_210 : decode cL_law 210 = .ok (.iaload, 1) := by decide +kernel
theorem dL_law_211 : decode cL_law 211 = .ok (.aload_n 0, 1) := by decide +kernel
theorem dL_law_212 : decode cL_law 212 = .ok (.iload_n 3, 1) := by decide +kernel
theorem dL_law_213 : decode cL_law 213 = .ok (.iconst 2, 1) := by decide +kernel
theorem dL_law_214 : decode cL_law 214 = .ok (.iadd, 1) := by decide +kernel
theorem dL_law_215 : decode cL_law 215 = .ok (.iaload, 1) := by decide +kernel
theorem dL_law_216 : decode cL_law 216 = .ok (.aload_n 0, 1) := by decide +kernel
theorem dL_law_217 : decode cL_law 217 = .ok (.iload_n 3, 1) := by decide +kernel
theorem dL_law_218 : decode cL_law 218 = .ok (.iconst 3, 1) := by decide +kernel
theorem dL_law_219 : decode cL_law 219 = .ok (.iadd, 1) := by decide +kernel
theorem dL_law_220 : decode cL_law 220 = .ok (.iaload, 1) := by decide +kernel
theorem dL_law_221 : decode cL_law 221 = .ok (.aload_n 0, 1) := by decide +kernel
theorem dL_law_222 : decode cL_law 222 = .ok (.iload_n 3, 1) := by decide +kernel
theorem dL_law_223 : decode cL_law 223 = .ok (.iconst 4, 1) := by decide +kernel
theorem dL_law_224 : decode cL_law 224 = .ok (.iadd, 1) := by decide +kernel
theorem dL_law_225 : decode cL_law 225 = .ok (.iaload, 1) := by decide +kernel
theorem dL_law_226 : decode cL_law 226 = .ok (.aload_n 0, 1) := by decide +kernel
theorem dL_law_227 : decode cL_law 227 = .ok (.iload_n 3, 1) := by decide +kernel
theorem dL_law_228 : decode cL_law 228 = .ok (.iconst 5, 1) := by decide +kernel
theorem dL_law_229 : decode cL_law 229 = .ok (.iadd, 1) := by decide +kernel
theorem dL_law_230 : decode cL_law 230 = .ok (.iaload, 1) := by decide +kernel
theorem dL_law_231 : decode cL_law 231 = .ok (.invokevirtual 17, 3) := by decide +kernel
theorem dL_law_234 : decode cL_law 234 = .ok (.if_icmp .eq 858, 3) := by decide +kernel
theorem dL_law_237 : decode cL_law 237 = .ok (.iconst 0, 1) := by decide +kernel
theorem dL_law_238 : decode cL_law 238 = .ok (.ireturn, 1) := by decide +kernel
theorem dL_law_239 : decode cL_law 239 = .ok (.aload_n 1, 1) := by decide +kernel
theorem dL_law_240 : decode cL_law 240 = .ok (.aload_n 0, 1) := by decide +kernel
theorem dL_law_241 : decode cL_law 241 = .ok (.iload_n 3, 1) := by decide +kernel
theorem dL_law_242 : decode cL_law 242 = .ok (.iconst 1, 1) := by decide +kernel
theorem dL_law_243 : decode cL_law 243 = .ok (.iadd, 1) := by decide +kernel
theorem dL_law_244 : decode cL_law 244 = .ok (.iaload, 1) := by decide +kernel
theorem dL_law_245 : decode cL_law 245 = .ok (.invokevirtual 18, 3) := by decide +kernel
theorem dL_law_248 : decode cL_law 248 = .ok (.aload_n 2, 1) := by decide +kernel
theorem dL_law_249 : decode cL_law 249 = .ok (.aload_n 0, 1) := by decide +kernel
theorem dL_law_250 : decode cL_law 250 = .ok (.iload_n 3, 1) := by decide +kernel
theorem dL_law_251 : decode cL_law 251 = .ok (.iconst 1, 1) := by decide +kernel
theorem dL_law_252 : decode cL_law 252 = .ok (.iadd, 1) := by decide +kernel
theorem dL_law_253 : decode cL_law 253 = .ok (.iaload, 1) := by decide +kernel
theorem dL_law_254 : decode cL_law 254 = .ok (.invokevirtual 22, 3) := by decide +kernel
theorem dL_law_257 : decode cL_law 257 = .ok (.if_icmp .eq 835, 3) := by decide +kernel
theorem dL_law_260 : decode cL_law 260 = .ok (.iconst 0, 1) := by decide +kernel
theorem dL_law_261 : decode cL_law 261 = .ok (.ireturn, 1) := by decide +kernel
theorem dL_law_262 : decode cL_law 262 = .ok (.aload_n 1, 1) := by decide +kernel
theorem dL_law_263 : decode cL_law 263 = .ok (.invokevirtual 23, 3) := by decide +kernel
theorem dL_law_266 : decode cL_law 266 = .ok (.aload_n 2, 1) := by decide +kernel
theorem dL_law_267 : decode cL_law 267 = .ok (.invokevirtual 27, 3) := by decide +kernel
theorem dL_law_270 : decode cL_law 270 = .ok (.if_icmp .eq 822, 3) := by decide +kernel
theorem dL_law_273 : decode cL_law 273 = .ok (.iconst 0, 1) := by decide +kernel
theorem dL_law_274 : decode cL_law 274 = .ok (.ireturn, 1) := by decide +kernel
theorem dL_law_275 : decode cL_law 275 = .ok (.aload_n 1, 1) := by decide +kernel
theorem dL_law_276 : decode cL_law 276 = .ok (.invokevirtual 28, 3) := by decide +kernel
theorem dL_law_279 : decode cL_law 279 = .ok (.aload_n 2, 1) := by decide +kernel
theorem dL_law_280 : decode cL_law 280 = .ok (.invokevirtual 31, 3) := by decide +kernel
theorem dL_law_283 : decode cL_law 283 = .ok (.if_icmp .eq 809, 3) := by decide +kernel
theorem dL_law_286 : decode cL_law 286 = .ok (.iconst 0, 1) := by decide +kernel
theorem dL_law_287 : decode cL_law 287 = .ok (.ireturn, 1) := by decide +kernel
theorem dL_law_288 : decode cL_law 288 = .ok (.aload_n 1, 1) := by decide +kernel
theorem dL_law_289 : decode cL_law 289 = .ok (.aload_n 0, 1) := by decide +kernel
theorem dL_law_290 : decode cL_law 290 = .ok (.iload_n 3, 1) := by decide +kernel
theorem dL_law_291 : decode cL_law 291 = .ok (.iconst 1, 1) := by decide +kernel
theorem dL_law_292 : decode cL_law 292 = .ok (.iadd, 1) := by decide +kernel
theorem dL_law_293 : decode cL_law 293 = .ok (.iaload, 1) := by decide +kernel
theorem dL_law_294 : decode cL_law 294 = .ok (.aload_n 0, 1) := by decide +kernel
theorem dL_law_295 : decode cL_law 295 = .ok (.iload_n 3, 1) := by decide +kernel
theorem dL_law_296 : decode cL_law 296 = .ok (.iconst 2, 1) := by decide +kernel
theorem dL_law_297 : decode cL_law 297 = .ok (.iadd, 1) := by decide +kernel
theorem dL_law_298 : decode cL_law 298 = .ok (.iaload, 1) := by decide +kernel
theorem dL_law_299 : decode cL_law 299 = .ok (.invokevirtual 32, 3) := by decide +kernel
theorem dL_law_302 : decode cL_law 302 = .ok (.aload_n 2, 1) := by decide +kernel
theorem dL_law_303 : decode cL_law 303 = .ok (.aload_n 0, 1) := by decide +kernel
theorem dL_law_304 : decode cL_law 304 = .ok (.iload_n 3, 1) := by decide +kernel
theorem dL_law_305 : decode cL_law 305 = .ok (.iconst 1, 1) := by decide +kernel
theorem dL_law_306 : decode cL_law 306 = .ok (.iadd, 1) := by decide +kernel
theorem dL_law_307 : decode cL_law 307 = .ok (.iaload, 1) := by decide +kernel
theorem dL_law_308 : decode cL_law 308 = .ok (.aload_n 0, 1) := by decide +kernel
theorem dL_law_309 : decode cL_law 309 = .ok (.iload_n 3, 1) := by decide +kernel
theorem dL_law_310 : decode cL_law 310 = .ok (.iconst 2, 1) := by decide +kernel
theorem dL_law_311 : decode cL_law 311 = .ok (.iadd, 1) := by decide +kernel
theorem dL_law_312 : decode cL_law 312 = .ok (.iaload, 1) := by decide +kernel
theorem dL_law_313 : decode cL_law 313 = .ok (.invokevirtual 36, 3) := by decide +kernel
theorem dL_law_316 : decode cL_law 316 = .ok (.if_icmp .eq 776, 3) := by decide +kernel
theorem dL_law_319 : decode cL_law 319 = .ok (.iconst 0, 1) := by decide +kernel
theorem dL_law_320 : decode cL_law 320 = .ok (.ireturn, 1) := by decide +kernel
theorem dL_law_321 : decode cL_law 321 = .ok (.aload_n 1, 1) := by decide +kernel
theorem dL_law_322 : decode cL_law 322 = .ok (.aload_n 0, 1) := by decide +kernel
theorem dL_law_323 : decode cL_law 323 = .ok (.iload_n 3, 1) := by decide +kernel
theorem dL_law_324 : decode cL_law 324 = .ok (.iconst 1, 1) := by decide +kernel
theorem dL_law_325 : decode cL_law 325 = .ok (.iadd, 1) := by decide +kernel
theorem dL_law_326 : decode cL_law 326 = .ok (.iaload, 1) := by decide +kernel
theorem dL_law_327 : decode cL_law 327 = .ok (.aload_n 0, 1) := by decide +kernel
theorem dL_law_328 : decode cL_law 328 = .ok (.iload_n 3, 1) := by decide +kernel
theorem dL_law_329 : decode cL_law 329 = .ok (.iconst 2, 1) := by decide +kernel
theorem dL_law_330 : decode cL_law 330 = .ok (.iadd, 1) := by decide +kernel
theorem dL_law_331 : decode cL_law 331 = .ok (.iaload, 1) := by decide +kernel
theorem dL_law_332 : decode cL_law 332 = .ok (.invokevirtual 37, 3) := by decide +kernel
theorem dL_law_335 : decode cL_law 335 = .ok (.aload_n 2, 1) := by decide +kernel
theorem dL_law_336 : decode cL_law 336 = .ok (.aload_n 0, 1) := by decide +kernel
theorem dL_law_337 : decode cL_law 337 = .ok (.iload_n 3, 1) := by decide +kernel
theorem dL_law_338 : decode cL_law 338 = .ok (.iconst 1, 1) := by decide +kernel
theorem dL_law_339 : decode cL_law 339 = .ok (.iadd, 1) := by decide +kernel
theorem dL_law_340 : decode cL_law 340 = .ok (.iaload, 1) := by decide +kernel
theorem dL_law_341 : decode cL_law 341 = .ok (.aload_n 0, 1) := by decide +kernel
theorem dL_law_342 : decode cL_law 342 = .ok (.iload_n 3, 1) := by decide +kernel
theorem dL_law_343 : decode cL_law 343 = .ok (.iconst 2, 1) := by decide +kernel
theorem dL_law_344 : decode cL_law 344 = .ok (.iadd, 1) := by decide +kernel
theorem dL_law_345 : decode cL_law 345 = .ok (.iaload, 1) := by decide +kernel
theorem dL_law_346 : decode cL_law 346 = .ok (.invokevirtual 40, 3) := by decide +kernel
theorem dL_law_349 : decode cL_law 349 = .ok (.if_icmp .eq 743, 3) := by decide +kernel
theorem dL_law_352 : decode cL_law 352 = .ok (.iconst 0, 1) := by decide +kernel
theorem dL_law_353 : decode cL_law 353 = .ok (.ireturn, 1) := by decide +kernel
theorem dL_law_354 : decode cL_law 354 = .ok (.aload_n 1, 1) := by decide +kernel
theorem dL_law_355 : decode cL_law 355 = .ok (.aload_n 0, 1) := by decide +kernel
theorem dL_law_356 : decode cL_law 356 = .ok (.iload_n 3, 1) := by decide +kernel
theorem dL_law_357 : decode cL_law 357 = .ok (.iconst 1, 1) := by decide +kernel
theorem dL_law_358 : decode cL_law 358 = .ok (.iadd, 1) := by decide +kernel
theorem dL_law_359 : decode cL_law 359 = .ok (.iaload, 1) := by decide +kernel
theorem dL_law_360 : decode cL_law 360 = .ok (.aload_n 0, 1) := by decide +kernel
theorem dL_law_361 : decode cL_law 361 = .ok (.iload_n 3, 1) := by decide +kernel
theorem dL_law_362 : decode cL_law 362 = .ok (.iconst 2, 1) := by decide +kernel
theorem dL_law_363 : decode cL_law 363 = .ok (.iadd, 1) := by decide +kernel
theorem dL_law_364 : decode cL_law 364 = .ok (.iaload, 1) := by decide +kernel
theorem dL_law_365 : decode cL_law 365 = .ok (.invokevirtual 41, 3) := by decide +kernel
theorem dL_law_368 : decode cL_law 368 = .ok (.aload_n 2, 1) := by decide +kernel
theorem dL_law_369 : decode cL_law 369 = .ok (.aload_n 0, 1) := by decide +kernel
theorem dL_law_370 : decode cL_law 370 = .ok (.iload_n 3, 1) := by decide +kernel
theorem dL_law_371 : decode cL_law 371 = .ok (.iconst 1, 1) := by decide +kernel
theorem dL_law_372 : decode cL_law 372 = .ok (.iadd, 1) := by decide +kernel
theorem dL_law_373 : decode cL_law 373 = .ok (.iaload, 1) := by decide +kernel
theorem dL_law_374 : decode cL_law 374 = .ok (.aload_n 0, 1) := by decide +kernel
theorem dL_law_375 : decode cL_law 375 = .ok (.iload_n 3, 1) := by decide +kernel
theorem dL_law_376 : decode cL_law 376 = .ok (.iconst 2, 1) := by decide +kernel
theorem dL_law_377 : decode cL_law 377 = .ok (.iadd, 1) := by decide +kernel
theorem dL_law_378 : decode cL_law 378 = .ok (.iaload, 1) := by decide +kernel
theorem dL_law_379 : decode cL_law 379 = .ok (.invokevirtual 44, 3) := by decide +kernel
theorem dL_law_382 : decode cL_law 382 = .ok (.if_icmp .eq 710, 3) := by decide +kernel
theorem dL_law_385 : decode cL_law 385 = .ok (.iconst 0, 1) := by decide +kernel
theorem dL_law_386 : decode cL_law 386 = .ok (.ireturn, 1) := by decide +kernel
theorem dL_law_387 : decode cL_law 387 = .ok (.aload_n 1, 1) := by decide +kernel
theorem dL_law_388 : decode cL_law 388 = .ok (.aload_n 0, 1) := by decide +kernel
theorem dL_law_389 : decode cL_law 389 = .ok (.iload_n 3, 1) := by decide +kernel
theorem dL_law_390 : decode cL_law 390 = .ok (.iconst 1, 1) := by decide +kernel
theorem dL_law_391 : decode cL_law 391 = .ok (.iadd, 1) := by decide +kernel
theorem dL_law_392 : decode cL_law 392 = .ok (.iaload, 1) := by decide +kernel
theorem dL_law_393 : decode cL_law 393 = .ok (.invokevirtual 45, 3) := by decide +kernel
theorem dL_law_396 : decode cL_law 396 = .ok (.aload_n 2, 1) := by decide +kernel
theorem dL_law_397 : decode cL_law 397 = .ok (.aload_n 0, 1) := by decide +kernel
theorem dL_law_398 : decode cL_law 398 = .ok (.iload_n 3, 1) := by decide +kernel
theorem dL_law_399 : decode cL_law 399 = .ok (.iconst 1, 1) := by decide +kernel
theorem dL_law_400 : decode cL_law 400 = .ok (.iadd, 1) := by decide +kernel
theorem dL_law_401 : decode cL_law 401 = .ok (.iaload, 1) := by decide +kernel
theorem dL_law_402 : decode cL_law 402 = .ok (.invokevirtual 48, 3) := by decide +kernel
theorem dL_law_405 : decode cL_law 405 = .ok (.if_icmp .eq 687, 3) := by decide +kernel
theorem dL_law_408 : decode cL_law 408 = .ok (.iconst 0, 1) := by decide +kernel
theorem dL_law_409 : decode cL_law 409 = .ok (.ireturn, 1) := by decide +kernel
theorem dL_law_410 : decode cL_law 410 = .ok (.aload_n 1, 1) := by decide +kernel
theorem dL_law_411 : decode cL_law 411 = .ok (.aload_n 0, 1) := by decide +kernel
theorem dL_law_412 : decode cL_law 412 = .ok (.iload_n 3, 1) := by decide +kernel
theorem dL_law_413 : decode cL_law 413 = .ok (.iconst 1, 1) := by decide +kernel
theorem dL_law_414 : decode cL_law 414 = .ok (.iadd, 1) := by decide +kernel
theorem dL_law_415 : decode cL_law 415 = .ok (.iaload, 1) := by decide +kernel
theorem dL_law_416 : decode cL_law 416 = .ok (.invokevirtual 49, 3) := by decide +kernel
theorem dL_law_419 : decode cL_law 419 = .ok (.aload_n 2, 1) := by decide +kernel
theorem dL_law_420 : decode cL_law 420 = .ok (.aload_n 0, 1) := by decide +kernel
theorem dL_law_421 : decode cL_law 421 = .ok (.iload_n 3, 1) := by decide +kernel
theorem dL_law_422 : decode cL_law 422 = .ok (.iconst 1, 1) := by decide +kernel
theorem dL_law_423 : decode cL_law 423 = .ok (.iadd, 1) := by decide +kernel
theorem dL_law_424 : decode cL_law 424 = .ok (.iaload, 1) := by decide +kernel
theorem dL_law_425 : decode cL_law 425 = .ok (.invokevirtual 52, 3) := by decide +kernel
theorem dL_law_428 : decode cL_law 428 = .ok (.if_icmp .eq 664, 3) := by decide +kernel
theorem dL_law_431 : decode cL_law 431 = .ok (.iconst 0, 1) := by decide +kernel
theorem dL_law_432 : decode cL_law 432 = .ok (.ireturn, 1) := by decide +kernel
theorem dL_law_433 : decode cL_law 433 = .ok (.aload_n 1, 1) := by decide +kernel
theorem dL_law_434 : decode cL_law 434 = .ok (.invokevirtual 53, 3) := by decide +kernel
theorem dL_law_437 : decode cL_law 437 = .ok (.aload_n 2, 1) := by decide +kernel
theorem dL_law_438 : decode cL_law 438 = .ok (.invokevirtual 56, 3) := by decide +kernel
theorem dL_law_441 : decode cL_law 441 = .ok (.if_icmp .eq 651, 3) := by decide +kernel
theorem dL_law_444 : decode cL_law 444 = .ok (.iconst 0, 1) := by decide +kernel
theorem dL_law_445 : decode cL_law 445 = .ok (.ireturn, 1) := by decide +kernel
theorem dL_law_446 : decode cL_law 446 = .ok (.aload_n 1, 1) := by decide +kernel
theorem dL_law_447 : decode cL_law 447 = .ok (.aload_n 0, 1) := by decide +kernel
theorem dL_law_448 : decode cL_law 448 = .ok (.iload_n 3, 1) := by decide +kernel
theorem dL_law_449 : decode cL_law 449 = .ok (.iconst 1, 1) := by decide +kernel
theorem dL_law_450 : decode cL_law 450 = .ok (.iadd, 1) := by decide +kernel
theorem dL_law_451 : decode cL_law 451 = .ok (.iaload, 1) := by decide +kernel
theorem dL_law_452 : decode cL_law 452 = .ok (.aload_n 0, 1) := by decide +kernel
theorem dL_law_453 : decode cL_law 453 = .ok (.iload_n 3, 1) := by decide +kernel
theorem dL_law_454 : decode cL_law 454 = .ok (.iconst 2, 1) := by decide +kernel
theorem dL_law_455 : decode cL_law 455 = .ok (.iadd, 1) := by decide +kernel
theorem dL_law_456 : decode cL_law 456 = .ok (.iaload, 1) := by decide +kernel
theorem dL_law_457 : decode cL_law 457 = .ok (.aload_n 0, 1) := by decide +kernel
theorem dL_law_458 : decode cL_law 458 = .ok (.iload_n 3, 1) := by decide +kernel
theorem dL_law_459 : decode cL_law 459 = .ok (.iconst 3, 1) := by decide +kernel
theorem dL_law_460 : decode cL_law 460 = .ok (.iadd, 1) := by decide +kernel
theorem dL_law_461 : decode cL_law 461 = .ok (.iaload, 1) := by decide +kernel
theorem dL_law_462 : decode cL_law 462 = .ok (.invokevirtual 57, 3) := by decide +kernel
theorem dL_law_465 : decode cL_law 465 = .ok (.aload_n 2, 1) := by decide +kernel
theorem dL_law_466 : decode cL_law 466 = .ok (.aload_n 0, 1) := by decide +kernel
theorem dL_law_467 : decode cL_law 467 = .ok (.iload_n 3, 1) := by decide +kernel
theorem dL_law_468 : decode cL_law 468 = .ok (.iconst 1, 1) := by decide +kernel
theorem dL_law_469 : decode cL_law 469 = .ok (.iadd, 1) := by decide +kernel
theorem dL_law_470 : decode cL_law 470 = .ok (.iaload, 1) := by decide +kernel
theorem dL_law_471 : decode cL_law 471 = .ok (.aload_n 0, 1) := by decide +kernel
theorem dL_law_472 : decode cL_law 472 = .ok (.iload_n 3, 1) := by decide +kernel
theorem dL_law_473 : decode cL_law 473 = .ok (.iconst 2, 1) := by decide +kernel
theorem dL_law_474 : decode cL_law 474 = .ok (.iadd, 1) := by decide +kernel
theorem dL_law_475 : decode cL_law 475 = .ok (.iaload, 1) := by decide +kernel
theorem dL_law_476 : decode cL_law 476 = .ok (.aload_n 0, 1) := by decide +kernel
theorem dL_law_477 : decode cL_law 477 = .ok (.iload_n 3, 1) := by decide +kernel
theorem dL_law_478 : decode cL_law 478 = .ok (.iconst 3, 1) := by decide +kernel
theorem dL_law_479 : decode cL_law 479 = .ok (.iadd, 1) := by decide +kernel
theorem dL_law_480 : decode cL_law 480 = .ok (.iaload, 1) := by decide +kernel
theorem dL_law_481 : decode cL_law 481 = .ok (.invokevirtual 61, 3) := by decide +kernel
theorem dL_law_484 : decode cL_law 484 = .ok (.if_icmp .eq 608, 3) := by decide +kernel
theorem dL_law_487 : decode cL_law 487 = .ok (.iconst 0, 1) := by decide +kernel
theorem dL_law_488 : decode cL_law 488 = .ok (.ireturn, 1) := by decide +kernel
theorem dL_law_489 : decode cL_law 489 = .ok (.aload_n 1, 1) := by decide +kernel
theorem dL_law_490 : decode cL_law 490 = .ok (.aload_n 0, 1) := by decide +kernel
theorem dL_law_491 : decode cL_law 491 = .ok (.iload_n 3, 1) := by decide +kernel
theorem dL_law_492 : decode cL_law 492 = .ok (.iconst 1, 1) := by decide +kernel
theorem dL_law_493 : decode cL_law 493 = .ok (.iadd, 1) := by decide +kernel
theorem dL_law_494 : decode cL_law 494 = .ok (.iaload, 1) := by decide +kernel
theorem dL_law_495 : decode cL_law 495 = .ok (.invokevirtual 62, 3) := by decide +kernel
theorem dL_law_498 : decode cL_law 498 = .ok (.aload_n 2, 1) := by decide +kernel
theorem dL_law_499 : decode cL_law 499 = .ok (.aload_n 0, 1) := by decide +kernel
theorem dL_law_500 : decode cL_law 500 = .ok (.iload_n 3, 1) := by decide +kernel
theorem dL_law_501 : decode cL_law 501 = .ok (.iconst 1, 1) := by decide +kernel
theorem dL_law_502 : decode cL_law 502 = .ok (.iadd, 1) := by decide +kernel
theorem dL_law_503 : decode cL_law 503 = .ok (.iaload, 1) := by decide +kernel
theorem dL_law_504 : decode cL_law 504 = .ok (.invokevirtual 65, 3) := by decide +kernel
theorem dL_law_507 : decode cL_law 507 = .ok (.if_icmp .eq 585, 3) := by decide +kernel
theorem dL_law_510 : decode cL_law 510 = .ok (.iconst 0, 1) := by decide +kernel
theorem dL_law_511 : decode cL_law 511 = .ok (.ireturn, 1) := by decide +kernel
theorem dL_law_512 : decode cL_law 512 = .ok (.aload_n 1, 1) := by decide +kernel
theorem dL_law_513 : decode cL_law 513 = .ok (.aload_n 0, 1) := by decide +kernel
theorem dL_law_514 : decode cL_law 514 = .ok (.iload_n 3, 1) := by decide +kernel
theorem dL_law_515 : decode cL_law 515 = .ok (.iconst 1, 1) := by decide +kernel
theorem dL_law_516 : decode cL_law 516 = .ok (.iadd, 1) := by decide +kernel
theorem dL_law_517 : decode cL_law 517 = .ok (.iaload, 1) := by decide +kernel
theorem dL_law_518 : decode cL_law 518 = .ok (.invokevirtual 66, 3) := by decide +kernel
theorem dL_law_521 : decode cL_law 521 = .ok (.aload_n 2, 1) := by decide +kernel
theorem dL_law_522 : decode cL_law 522 = .ok (.aload_n 0, 1) := by decide +kernel
theorem dL_law_523 : decode cL_law 523 = .ok (.iload_n 3, 1) := by decide +kernel
theorem dL_law_524 : decode cL_law 524 = .ok (.iconst 1, 1) := by decide +kernel
theorem dL_law_525 : decode cL_law 525 = .ok (.iadd, 1) := by decide +kernel
theorem dL_law_526 : decode cL_law 526 = .ok (.iaload, 1) := by decide +kernel
theorem dL_law_527 : decode cL_law 527 = .ok (.invokevirtual 69, 3) := by decide +kernel
theorem dL_law_530 : decode cL_law 530 = .ok (.if_icmp .eq 562, 3) := by decide +kernel
theorem dL_law_533 : decode cL_law 533 = .ok (.iconst 0, 1) := by decide +kernel
theorem dL_law_534 : decode cL_law 534 = .ok (.ireturn, 1) := by decide +kernel
theorem dL_law_535 : decode cL_law 535 = .ok (.aload_n 1, 1) := by decide +kernel
theorem dL_law_536 : decode cL_law 536 = .ok (.aload_n 0, 1) := by decide +kernel
theorem dL_law_537 : decode cL_law 537 = .ok (.iload_n 3, 1) := by decide +kernel
theorem dL_law_538 : decode cL_law 538 = .ok (.iconst 1, 1) := by decide +kernel
theorem dL_law_539 : decode cL_law 539 = .ok (.iadd, 1) := by decide +kernel
theorem dL_law_540 : decode cL_law 540 = .ok (.iaload, 1) := by decide +kernel
theorem dL_law_541 : decode cL_law 541 = .ok (.aload_n 0, 1) := by decide +kernel
theorem dL_law_542 : decode cL_law 542 = .ok (.iload_n 3, 1) := by decide +kernel
theorem dL_law_543 : decode cL_law 543 = .ok (.iconst 2, 1) := by decide +kernel
theorem dL_law_544 : decode cL_law 544 = .ok (.iadd, 1) := by decide +kernel
theorem dL_law_545 : decode cL_law 545 = .ok (.iaload, 1) := by decide +kernel
theorem dL_law_546 : decode cL_law 546 = .ok (.invokevirtual 70, 3) := by decide +kernel
theorem dL_law_549 : decode cL_law 549 = .ok (.aload_n 2, 1) := by decide +kernel
theorem dL_law_550 : decode cL_law 550 = .ok (.aload_n 0, 1) := by decide +kernel
theorem dL_law_551 : decode cL_law 551 = .ok (.iload_n 3, 1) := by decide +kernel
theorem dL_law_552 : decode cL_law 552 = .ok (.iconst 1, 1) := by decide +kernel
theorem dL_law_553 : decode cL_law 553 = .ok (.iadd, 1) := by decide +kernel
theorem dL_law_554 : decode cL_law 554 = .ok (.iaload, 1) := by decide +kernel
theorem dL_law_555 : decode cL_law 555 = .ok (.aload_n 0, 1) := by decide +kernel
theorem dL_law_556 : decode cL_law 556 = .ok (.iload_n 3, 1) := by decide +kernel
theorem dL_law_557 : decode cL_law 557 = .ok (.iconst 2, 1) := by decide +kernel
theorem dL_law_558 : decode cL_law 558 = .ok (.iadd, 1) := by decide +kernel
theorem dL_law_559 : decode cL_law 559 = .ok (.iaload, 1) := by decide +kernel
theorem dL_law_560 : decode cL_law 560 = .ok (.invokevirtual 73, 3) := by decide +kernel
theorem dL_law_563 : decode cL_law 563 = .ok (.if_icmp .eq 529, 3) := by decide +kernel
theorem dL_law_566 : decode cL_law 566 = .ok (.iconst 0, 1) := by decide +kernel
theorem dL_law_567 : decode cL_law 567 = .ok (.ireturn, 1) := by decide +kernel
theorem dL_law_568 : decode cL_law 568 = .ok (.aload_n 1, 1) := by decide +kernel
theorem dL_law_569 : decode cL_law 569 = .ok (.invokevirtual 74, 3) := by decide +kernel
theorem dL_law_572 : decode cL_law 572 = .ok (.aload_n 2, 1) := by decide +kernel
theorem dL_law_573 : decode cL_law 573 = .ok (.invokevirtual 77, 3) := by decide +kernel
theorem dL_law_576 : decode cL_law 576 = .ok (.if_icmp .eq 516, 3) := by decide +kernel
theorem dL_law_579 : decode cL_law 579 = .ok (.iconst 0, 1) := by decide +kernel
theorem dL_law_580 : decode cL_law 580 = .ok (.ireturn, 1) := by decide +kernel
theorem dL_law_581 : decode cL_law 581 = .ok (.aload_n 1, 1) := by decide +kernel
theorem dL_law_582 : decode cL_law 582 = .ok (.aload_n 0, 1) := by decide +kernel
theorem dL_law_583 : decode cL_law 583 = .ok (.iload_n 3, 1) := by decide +kernel
theorem dL_law_584 : decode cL_law 584 = .ok (.iconst 1, 1) := by decide +kernel
theorem dL_law_585 : decode cL_law 585 = .ok (.iadd, 1) := by decide +kernel
theorem dL_law_586 : decode cL_law 586 = .ok (.iaload, 1) := by decide +kernel
theorem dL_law_587 : decode cL_law 587 = .ok (.aload_n 0, 1) := by decide +kernel
theorem dL_law_588 : decode cL_law 588 = .ok (.iload_n 3, 1) := by decide +kernel
theorem dL_law_589 : decode cL_law 589 = .ok (.iconst 2, 1) := by decide +kernel
theorem dL_law_590 : decode cL_law 590 = .ok (.iadd, 1) := by decide +kernel
theorem dL_law_591 : decode cL_law 591 = .ok (.iaload, 1) := by decide +kernel
theorem dL_law_592 : decode cL_law 592 = .ok (.aload_n 0, 1) := by decide +kernel
theorem dL_law_593 : decode cL_law 593 = .ok (.iload_n 3, 1) := by decide +kernel
theorem dL_law_594 : decode cL_law 594 = .ok (.iconst 3, 1) := by decide +kernel
theorem dL_law_595 : decode cL_law 595 = .ok (.iadd, 1) := by decide +kernel
theorem dL_law_596 : decode cL_law 596 = .ok (.iaload, 1) := by decide +kernel
theorem dL_law_597 : decode cL_law 597 = .ok (.invokevirtual 78, 3) := by decide +kernel
theorem dL_law_600 : decode cL_law 600 = .ok (.aload_n 2, 1) := by decide +kernel
theorem dL_law_601 : decode cL_law 601 = .ok (.aload_n 0, 1) := by decide +kernel
theorem dL_law_602 : decode cL_law 602 = .ok (.iload_n 3, 1) := by decide +kernel
theorem dL_law_603 : decode cL_law 603 = .ok (.iconst 1, 1) := by decide +kernel
theorem dL_law_604 : decode cL_law 604 = .ok (.iadd, 1) := by decide +kernel
theorem dL_law_605 : decode cL_law 605 = .ok (.iaload, 1) := by decide +kernel
theorem dL_law_606 : decode cL_law 606 = .ok (.aload_n 0, 1) := by decide +kernel
theorem dL_law_607 : decode cL_law 607 = .ok (.iload_n 3, 1) := by decide +kernel
theorem dL_law_608 : decode cL_law 608 = .ok (.iconst 2, 1) := by decide +kernel
theorem dL_law_609 : decode cL_law 609 = .ok (.iadd, 1) := by decide +kernel
theorem dL_law_610 : decode cL_law 610 = .ok (.iaload, 1) := by decide +kernel
theorem dL_law_611 : decode cL_law 611 = .ok (.aload_n 0, 1) := by decide +kernel
theorem dL_law_612 : decode cL_law 612 = .ok (.iload_n 3, 1) := by decide +kernel
theorem dL_law_613 : decode cL_law 613 = .ok (.iconst 3, 1) := by decide +kernel
theorem dL_law_614 : decode cL_law 614 = .ok (.iadd, 1) := by decide +kernel
theorem dL_law_615 : decode cL_law 615 = .ok (.iaload, 1) := by decide +kernel
theorem dL_law_616 : decode cL_law 616 = .ok (.invokevirtual 81, 3) := by decide +kernel
theorem dL_law_619 : decode cL_law 619 = .ok (.if_icmp .eq 473, 3) := by decide +kernel
theorem dL_law_622 : decode cL_law 622 = .ok (.iconst 0, 1) := by decide +kernel
theorem dL_law_623 : decode cL_law 623 = .ok (.ireturn, 1) := by decide +kernel
theorem dL_law_624 : decode cL_law 624 = .ok (.aload_n 1, 1) := by decide +kernel
theorem dL_law_625 : decode cL_law 625 = .ok (.aload_n 0, 1) := by decide +kernel
theorem dL_law_626 : decode cL_law 626 = .ok (.iload_n 3, 1) := by decide +kernel
theorem dL_law_627 : decode cL_law 627 = .ok (.iconst 1, 1) := by decide +kernel
theorem dL_law_628 : decode cL_law 628 = .ok (.iadd, 1) := by decide +kernel
theorem dL_law_629 : decode cL_law 629 = .ok (.iaload, 1) := by decide +kernel
theorem dL_law_630 : decode cL_law 630 = .ok (.aload_n 0, 1) := by decide +kernel
theorem dL_law_631 : decode cL_law 631 = .ok (.iload_n 3, 1) := by decide +kernel
theorem dL_law_632 : decode cL_law 632 = .ok (.iconst 2, 1) := by decide +kernel
theorem dL_law_633 : decode cL_law 633 = .ok (.iadd, 1) := by decide +kernel
theorem dL_law_634 : decode cL_law 634 = .ok (.iaload, 1) := by decide +kernel
theorem dL_law_635 : decode cL_law 635 = .ok (.invokevirtual 82, 3) := by decide +kernel
theorem dL_law_638 : decode cL_law 638 = .ok (.aload_n 2, 1) := by decide +kernel
theorem dL_law_639 : decode cL_law 639 = .ok (.aload_n 0, 1) := by decide +kernel
theorem dL_law_640 : decode cL_law 640 = .ok (.iload_n 3, 1) := by decide +kernel
theorem dL_law_641 : decode cL_law 641 = .ok (.iconst 1, 1) := by decide +kernel
theorem dL_law_642 : decode cL_law 642 = .ok (.iadd, 1) := by decide +kernel
theorem dL_law_643 : decode cL_law 643 = .ok (.iaload, 1) := by decide +kernel
theorem dL_law_644 : decode cL_law 644 = .ok (.aload_n 0, 1) := by decide +kernel
theorem dL_law_645 : decode cL_law 645 = .ok (.iload_n 3, 1) := by decide +kernel
theorem dL_law_646 : decode cL_law 646 = .ok (.iconst 2, 1) := by decide +kernel
theorem dL_law_647 : decode cL_law 647 = .ok (.iadd, 1) := by decide +kernel
theorem dL_law_648 : decode cL_law 648 = .ok (.iaload, 1) := by decide +kernel
theorem dL_law_649 : decode cL_law 649 = .ok (.invokevirtual 85, 3) := by decide +kernel
theorem dL_law_652 : decode cL_law 652 = .ok (.if_icmp .eq 440, 3) := by decide +kernel
theorem dL_law_655 : decode cL_law 655 = .ok (.iconst 0, 1) := by decide +kernel
theorem dL_law_656 : decode cL_law 656 = .ok (.ireturn, 1) := by decide +kernel
theorem dL_law_657 : decode cL_law 657 = .ok (.aload_n 1, 1) := by decide +kernel
theorem dL_law_658 : decode cL_law 658 = .ok (.aload_n 0, 1) := by decide +kernel
theorem dL_law_659 : decode cL_law 659 = .ok (.iload_n 3, 1) := by decide +kernel
theorem dL_law_660 : decode cL_law 660 = .ok (.iconst 1, 1) := by decide +kernel
theorem dL_law_661 : decode cL_law 661 = .ok (.iadd, 1) := by decide +kernel
theorem dL_law_662 : decode cL_law 662 = .ok (.iaload, 1) := by decide +kernel
theorem dL_law_663 : decode cL_law 663 = .ok (.invokevirtual 86, 3) := by decide +kernel
theorem dL_law_666 : decode cL_law 666 = .ok (.aload_n 2, 1) := by decide +kernel
theorem dL_law_667 : decode cL_law 667 = .ok (.aload_n 0, 1) := by decide +kernel
theorem dL_law_668 : decode cL_law 668 = .ok (.iload_n 3, 1) := by decide +kernel
theorem dL_law_669 : decode cL_law 669 = .ok (.iconst 1, 1) := by decide +kernel
theorem dL_law_670 : decode cL_law 670 = .ok (.iadd, 1) := by decide +kernel
theorem dL_law_671 : decode cL_law 671 = .ok (.iaload, 1) := by decide +kernel
theorem dL_law_672 : decode cL_law 672 = .ok (.invokevirtual 89, 3) := by decide +kernel
theorem dL_law_675 : decode cL_law 675 = .ok (.if_icmp .eq 417, 3) := by decide +kernel
theorem dL_law_678 : decode cL_law 678 = .ok (.iconst 0, 1) := by decide +kernel
theorem dL_law_679 : decode cL_law 679 = .ok (.ireturn, 1) := by decide +kernel
theorem dL_law_680 : decode cL_law 680 = .ok (.aload_n 1, 1) := by decide +kernel
theorem dL_law_681 : decode cL_law 681 = .ok (.aload_n 0, 1) := by decide +kernel
theorem dL_law_682 : decode cL_law 682 = .ok (.iload_n 3, 1) := by decide +kernel
theorem dL_law_683 : decode cL_law 683 = .ok (.iconst 1, 1) := by decide +kernel
theorem dL_law_684 : decode cL_law 684 = .ok (.iadd, 1) := by decide +kernel
theorem dL_law_685 : decode cL_law 685 = .ok (.iaload, 1) := by decide +kernel
theorem dL_law_686 : decode cL_law 686 = .ok (.aload_n 0, 1) := by decide +kernel
theorem dL_law_687 : decode cL_law 687 = .ok (.iload_n 3, 1) := by decide +kernel
theorem dL_law_688 : decode cL_law 688 = .ok (.iconst 2, 1) := by decide +kernel
theorem dL_law_689 : decode cL_law 689 = .ok (.iadd, 1) := by decide +kernel
theorem dL_law_690 : decode cL_law 690 = .ok (.iaload, 1) := by decide +kernel
theorem dL_law_691 : decode cL_law 691 = .ok (.invokevirtual 90, 3) := by decide +kernel
theorem dL_law_694 : decode cL_law 694 = .ok (.aload_n 2, 1) := by decide +kernel
theorem dL_law_695 : decode cL_law 695 = .ok (.aload_n 0, 1) := by decide +kernel
theorem dL_law_696 : decode cL_law 696 = .ok (.iload_n 3, 1) := by decide +kernel
theorem dL_law_697 : decode cL_law 697 = .ok (.iconst 1, 1) := by decide +kernel
theorem dL_law_698 : decode cL_law 698 = .ok (.iadd, 1) := by decide +kernel
theorem dL_law_699 : decode cL_law 699 = .ok (.iaload, 1) := by decide +kernel
theorem dL_law_700 : decode cL_law 700 = .ok (.aload_n 0, 1) := by decide +kernel
theorem dL_law_701 : decode cL_law 701 = .ok (.iload_n 3, 1) := by decide +kernel
theorem dL_law_702 : decode cL_law 702 = .ok (.iconst 2, 1) := by decide +kernel
theorem dL_law_703 : decode cL_law 703 = .ok (.iadd, 1) := by decide +kernel
theorem dL_law_704 : decode cL_law 704 = .ok (.iaload, 1) := by decide +kernel
theorem dL_law_705 : decode cL_law 705 = .ok (.invokevirtual 93, 3) := by decide +kernel
theorem dL_law_708 : decode cL_law 708 = .ok (.if_icmp .eq 384, 3) := by decide +kernel
theorem dL_law_711 : decode cL_law 711 = .ok (.iconst 0, 1) := by decide +kernel
theorem dL_law_712 : decode cL_law 712 = .ok (.ireturn, 1) := by decide +kernel
theorem dL_law_713 : decode cL_law 713 = .ok (.aload_n 1, 1) := by decide +kernel
theorem dL_law_714 : decode cL_law 714 = .ok (.aload_n 0, 1) := by decide +kernel
theorem dL_law_715 : decode cL_law 715 = .ok (.iload_n 3, 1) := by decide +kernel
theorem dL_law_716 : decode cL_law 716 = .ok (.iconst 1, 1) := by decide +kernel
theorem dL_law_717 : decode cL_law 717 = .ok (.iadd, 1) := by decide +kernel
theorem dL_law_718 : decode cL_law 718 = .ok (.iaload, 1) := by decide +kernel
theorem dL_law_719 : decode cL_law 719 = .ok (.invokevirtual 94, 3) := by decide +kernel
theorem dL_law_722 : decode cL_law 722 = .ok (.aload_n 2, 1) := by decide +kernel
theorem dL_law_723 : decode cL_law 723 = .ok (.aload_n 0, 1) := by decide +kernel
theorem dL_law_724 : decode cL_law 724 = .ok (.iload_n 3, 1) := by decide +kernel
theorem dL_law_725 : decode cL_law 725 = .ok (.iconst 1, 1) := by decide +kernel
theorem dL_law_726 : decode cL_law 726 = .ok (.iadd, 1) := by decide +kernel
theorem dL_law_727 : decode cL_law 727 = .ok (.iaload, 1) := by decide +kernel
theorem dL_law_728 : decode cL_law 728 = .ok (.invokevirtual 97, 3) := by decide +kernel
theorem dL_law_731 : decode cL_law 731 = .ok (.if_icmp .eq 361, 3) := by decide +kernel
theorem dL_law_734 : decode cL_law 734 = .ok (.iconst 0, 1) := by decide +kernel
theorem dL_law_735 : decode cL_law 735 = .ok (.ireturn, 1) := by decide +kernel
theorem dL_law_736 : decode cL_law 736 = .ok (.aload_n 1, 1) := by decide +kernel
theorem dL_law_737 : decode cL_law 737 = .ok (.aload_n 0, 1) := by decide +kernel
theorem dL_law_738 : decode cL_law 738 = .ok (.iload_n 3, 1) := by decide +kernel
theorem dL_law_739 : decode cL_law 739 = .ok (.iconst 1, 1) := by decide +kernel
theorem dL_law_740 : decode cL_law 740 = .ok (.iadd, 1) := by decide +kernel
theorem dL_law_741 : decode cL_law 741 = .ok (.iaload, 1) := by decide +kernel
theorem dL_law_742 : decode cL_law 742 = .ok (.aload_n 0, 1) := by decide +kernel
theorem dL_law_743 : decode cL_law 743 = .ok (.iload_n 3, 1) := by decide +kernel
theorem dL_law_744 : decode cL_law 744 = .ok (.iconst 2, 1) := by decide +kernel
theorem dL_law_745 : decode cL_law 745 = .ok (.iadd, 1) := by decide +kernel
theorem dL_law_746 : decode cL_law 746 = .ok (.iaload, 1) := by decide +kernel
theorem dL_law_747 : decode cL_law 747 = .ok (.invokevirtual 98, 3) := by decide +kernel
theorem dL_law_750 : decode cL_law 750 = .ok (.aload_n 2, 1) := by decide +kernel
theorem dL_law_751 : decode cL_law 751 = .ok (.aload_n 0, 1) := by decide +kernel
theorem dL_law_752 : decode cL_law 752 = .ok (.iload_n 3, 1) := by decide +kernel
theorem dL_law_753 : decode cL_law 753 = .ok (.iconst 1, 1) := by decide +kernel
theorem dL_law_754 : decode cL_law 754 = .ok (.iadd, 1) := by decide +kernel
theorem dL_law_755 : decode cL_law 755 = .ok (.iaload, 1) := by decide +kernel
theorem dL_law_756 : decode cL_law 756 = .ok (.aload_n 0, 1) := by decide +kernel
theorem dL_law_757 : decode cL_law 757 = .ok (.iload_n 3, 1) := by decide +kernel
theorem dL_law_758 : decode cL_law 758 = .ok (.iconst 2, 1) := by decide +kernel
theorem dL_law_759 : decode cL_law 759 = .ok (.iadd, 1) := by decide +kernel
theorem dL_law_760 : decode cL_law 760 = .ok (.iaload, 1) := by decide +kernel
theorem dL_law_761 : decode cL_law 761 = .ok (.invokevirtual 101, 3) := by decide +kernel
theorem dL_law_764 : decode cL_law 764 = .ok (.if_icmp .eq 328, 3) := by decide +kernel
theorem dL_law_767 : decode cL_law 767 = .ok (.iconst 0, 1) := by decide +kernel
theorem dL_law_768 : decode cL_law 768 = .ok (.ireturn, 1) := by decide +kernel
theorem dL_law_769 : decode cL_law 769 = .ok (.aload_n 1, 1) := by decide +kernel
theorem dL_law_770 : decode cL_law 770 = .ok (.aload_n 0, 1) := by decide +kernel
theorem dL_law_771 : decode cL_law 771 = .ok (.iload_n 3, 1) := by decide +kernel
theorem dL_law_772 : decode cL_law 772 = .ok (.iconst 1, 1) := by decide +kernel
theorem dL_law_773 : decode cL_law 773 = .ok (.iadd, 1) := by decide +kernel
theorem dL_law_774 : decode cL_law 774 = .ok (.iaload, 1) := by decide +kernel
theorem dL_law_775 : decode cL_law 775 = .ok (.aload_n 0, 1) := by decide +kernel
theorem dL_law_776 : decode cL_law 776 = .ok (.iload_n 3, 1) := by decide +kernel
theorem dL_law_777 : decode cL_law 777 = .ok (.iconst 2, 1) := by decide +kernel
theorem dL_law_778 : decode cL_law 778 = .ok (.iadd, 1) := by decide +kernel
theorem dL_law_779 : decode cL_law 779 = .ok (.iaload, 1) := by decide +kernel
theorem dL_law_780 : decode cL_law 780 = .ok (.invokevirtual 102, 3) := by decide +kernel
theorem dL_law_783 : decode cL_law 783 = .ok (.aload_n 2, 1) := by decide +kernel
theorem dL_law_784 : decode cL_law 784 = .ok (.aload_n 0, 1) := by decide +kernel
theorem dL_law_785 : decode cL_law 785 = .ok (.iload_n 3, 1) := by decide +kernel
theorem dL_law_786 : decode cL_law 786 = .ok (.iconst 1, 1) := by decide +kernel
theorem dL_law_787 : decode cL_law 787 = .ok (.iadd, 1) := by decide +kernel
theorem dL_law_788 : decode cL_law 788 = .ok (.iaload, 1) := by decide +kernel
theorem dL_law_789 : decode cL_law 789 = .ok (.aload_n 0, 1) := by decide +kernel
theorem dL_law_790 : decode cL_law 790 = .ok (.iload_n 3, 1) := by decide +kernel
theorem dL_law_791 : decode cL_law 791 = .ok (.iconst 2, 1) := by decide +kernel
theorem dL_law_792 : decode cL_law 792 = .ok (.iadd, 1) := by decide +kernel
theorem dL_law_793 : decode cL_law 793 = .ok (.iaload, 1) := by decide +kernel
theorem dL_law_794 : decode cL_law 794 = .ok (.invokevirtual 105, 3) := by decide +kernel
theorem dL_law_797 : decode cL_law 797 = .ok (.if_icmp .eq 295, 3) := by decide +kernel
theorem dL_law_800 : decode cL_law 800 = .ok (.iconst 0, 1) := by decide +kernel
theorem dL_law_801 : decode cL_law 801 = .ok (.ireturn, 1) := by decide +kernel
theorem dL_law_802 : decode cL_law 802 = .ok (.aload_n 1, 1) := by decide +kernel
theorem dL_law_803 : decode cL_law 803 = .ok (.aload_n 0, 1) := by decide +kernel
theorem dL_law_804 : decode cL_law 804 = .ok (.iload_n 3, 1) := by decide +kernel
theorem dL_law_805 : decode cL_law 805 = .ok (.iconst 1, 1) := by decide +kernel
theorem dL_law_806 : decode cL_law 806 = .ok (.iadd, 1) := by decide +kernel
theorem dL_law_807 : decode cL_law 807 = .ok (.iaload, 1) := by decide +kernel
theorem dL_law_808 : decode cL_law 808 = .ok (.invokevirtual 106, 3) := by decide +kernel
theorem dL_law_811 : decode cL_law 811 = .ok (.aload_n 2, 1) := by decide +kernel
theorem dL_law_812 : decode cL_law 812 = .ok (.aload_n 0, 1) := by decide +kernel
theorem dL_law_813 : decode cL_law 813 = .ok (.iload_n 3, 1) := by decide +kernel
theorem dL_law_814 : decode cL_law 814 = .ok (.iconst 1, 1) := by decide +kernel
theorem dL_law_815 : decode cL_law 815 = .ok (.iadd, 1) := by decide +kernel
theorem dL_law_816 : decode cL_law 816 = .ok (.iaload, 1) := by decide +kernel
theorem dL_law_817 : decode cL_law 817 = .ok (.invokevirtual 109, 3) := by decide +kernel
theorem dL_law_820 : decode cL_law 820 = .ok (.if_icmp .eq 272, 3) := by decide +kernel
theorem dL_law_823 : decode cL_law 823 = .ok (.iconst 0, 1) := by decide +kernel
theorem dL_law_824 : decode cL_law 824 = .ok (.ireturn, 1) := by decide +kernel
theorem dL_law_825 : decode cL_law 825 = .ok (.aload_n 1, 1) := by decide +kernel
theorem dL_law_826 : decode cL_law 826 = .ok (.aload_n 0, 1) := by decide +kernel
theorem dL_law_827 : decode cL_law 827 = .ok (.iload_n 3, 1) := by decide +kernel
theorem dL_law_828 : decode cL_law 828 = .ok (.iconst 1, 1) := by decide +kernel
theorem dL_law_829 : decode cL_law 829 = .ok (.iadd, 1) := by decide +kernel
theorem dL_law_830 : decode cL_law 830 = .ok (.iaload, 1) := by decide +kernel
theorem dL_law_831 : decode cL_law 831 = .ok (.invokevirtual 110, 3) := by decide +kernel
theorem dL_law_834 : decode cL_law 834 = .ok (.aload_n 2, 1) := by decide +kernel
theorem dL_law_835 : decode cL_law 835 = .ok (.aload_n 0, 1) := by decide +kernel
theorem dL_law_836 : decode cL_law 836 = .ok (.iload_n 3, 1) := by decide +kernel
theorem dL_law_837 : decode cL_law 837 = .ok (.iconst 1, 1) := by decide +kernel
theorem dL_law_838 : decode cL_law 838 = .ok (.iadd, 1) := by decide +kernel
theorem dL_law_839 : decode cL_law 839 = .ok (.iaload, 1) := by decide +kernel
theorem dL_law_840 : decode cL_law 840 = .ok (.invokevirtual 113, 3) := by decide +kernel
theorem dL_law_843 : decode cL_law 843 = .ok (.if_icmp .eq 249, 3) := by decide +kernel
theorem dL_law_846 : decode cL_law 846 = .ok (.iconst 0, 1) := by decide +kernel
theorem dL_law_847 : decode cL_law 847 = .ok (.ireturn, 1) := by decide +kernel
theorem dL_law_848 : decode cL_law 848 = .ok (.aload_n 1, 1) := by decide +kernel
theorem dL_law_849 : decode cL_law 849 = .ok (.aload_n 0, 1) := by decide +kernel
theorem dL_law_850 : decode cL_law 850 = .ok (.iload_n 3, 1) := by decide +kernel
theorem dL_law_851 : decode cL_law 851 = .ok (.iconst 1, 1) := by decide +kernel
theorem dL_law_852 : decode cL_law 852 = .ok (.iadd, 1) := by decide +kernel
theorem dL_law_853 : decode cL_law 853 = .ok (.iaload, 1) := by decide +kernel
theorem dL_law_854 : decode cL_law 854 = .ok (.aload_n 0, 1) := by decide +kernel
theorem dL_law_855 : decode cL_law 855 = .ok (.iload_n 3, 1) := by decide +kernel
theorem dL_law_856 : decode cL_law 856 = .ok (.iconst 2, 1) := by decide +kernel
theorem dL_law_857 : decode cL_law 857 = .ok (.iadd, 1) := by decide +kernel
theorem dL_law_858 : decode cL_law 858 = .ok (.iaload, 1) := by decide +kernel
theorem dL_law_859 : decode cL_law 859 = .ok (.aload_n 0, 1) := by decide +kernel
theorem dL_law_860 : decode cL_law 860 = .ok (.iload_n 3, 1) := by decide +kernel
theorem dL_law_861 : decode cL_law 861 = .ok (.iconst 3, 1) := by decide +kernel
theorem dL_law_862 : decode cL_law 862 = .ok (.iadd, 1) := by decide +kernel
theorem dL_law_863 : decode cL_law 863 = .ok (.iaload, 1) := by decide +kernel
theorem dL_law_864 : decode cL_law 864 = .ok (.invokevirtual 114, 3) := by decide +kernel
theorem dL_law_867 : decode cL_law 867 = .ok (.aload_n 2, 1) := by decide +kernel
theorem dL_law_868 : decode cL_law 868 = .ok (.aload_n 0, 1) := by decide +kernel
theorem dL_law_869 : decode cL_law 869 = .ok (.iload_n 3, 1) := by decide +kernel
theorem dL_law_870 : decode cL_law 870 = .ok (.iconst 1, 1) := by decide +kernel
theorem dL_law_871 : decode cL_law 871 = .ok (.iadd, 1) := by decide +kernel
theorem dL_law_872 : decode cL_law 872 = .ok (.iaload, 1) := by decide +kernel
theorem dL_law_873 : decode cL_law 873 = .ok (.aload_n 0, 1) := by decide +kernel
theorem dL_law_874 : decode cL_law 874 = .ok (.iload_n 3, 1) := by decide +kernel
theorem dL_law_875 : decode cL_law 875 = .ok (.iconst 2, 1) := by decide +kernel
theorem dL_law_876 : decode cL_law 876 = .ok (.iadd, 1) := by decide +kernel
theorem dL_law_877 : decode cL_law 877 = .ok (.iaload, 1) := by decide +kernel
theorem dL_law_878 : decode cL_law 878 = .ok (.aload_n 0, 1) := by decide +kernel
theorem dL_law_879 : decode cL_law 879 = .ok (.iload_n 3, 1) := by decide +kernel
theorem dL_law_880 : decode cL_law 880 = .ok (.iconst 3, 1) := by decide +kernel
theorem dL_law_881 : decode cL_law 881 = .ok (.iadd, 1) := by decide +kernel
theorem dL_law_882 : decode cL_law 882 = .ok (.iaload, 1) := by decide +kernel
theorem dL_law_883 : decode cL_law 883 = .ok (.invokevirtual 117, 3) := by decide +kernel
theorem dL_law_886 : decode cL_law 886 = .ok (.if_icmp .eq 206, 3) := by decide +kernel
theorem dL_law_889 : decode cL_law 889 = .ok (.iconst 0, 1) := by decide +kernel
theorem dL_law_890 : decode cL_law 890 = .ok (.ireturn, 1) := by decide +kernel
theorem dL_law_891 : decode cL_law 891 = .ok (.aload_n 1, 1) := by decide +kernel
theorem dL_law_892 : decode cL_law 892 = .ok (.aload_n 0, 1) := by decide +kernel
theorem dL_law_893 : decode cL_law 893 = .ok (.iload_n 3, 1) := by decide +kernel
theorem dL_law_894 : decode cL_law 894 = .ok (.iconst 1, 1) := by decide +kernel
theorem dL_law_895 : decode cL_law 895 = .ok (.iadd, 1) := by decide +kernel
theorem dL_law_896 : decode cL_law 896 = .ok (.iaload, 1) := by decide +kernel
theorem dL_law_897 : decode cL_law 897 = .ok (.aload_n 0, 1) := by decide +kernel
theorem dL_law_898 : decode cL_law 898 = .ok (.iload_n 3, 1) := by decide +kernel
theorem dL_law_899 : decode cL_law 899 = .ok (.iconst 2, 1) := by decide +kernel
theorem dL_law_900 : decode cL_law 900 = .ok (.iadd, 1) := by decide +kernel
theorem dL_law_901 : decode cL_law 901 = .ok (.iaload, 1) := by decide +kernel
theorem dL_law_902 : decode cL_law 902 = .ok (.invokevirtual 118, 3) := by decide +kernel
theorem dL_law_905 : decode cL_law 905 = .ok (.aload_n 2, 1) := by decide +kernel
theorem dL_law_906 : decode cL_law 906 = .ok (.aload_n 0, 1) := by decide +kernel
theorem dL_law_907 : decode cL_law 907 = .ok (.iload_n 3, 1) := by decide +kernel
theorem dL_law_908 : decode cL_law 908 = .ok (.iconst 1, 1) := by decide +kernel
theorem dL_law_909 : decode cL_law 909 = .ok (.iadd, 1) := by decide +kernel
theorem dL_law_910 : decode cL_law 910 = .ok (.iaload, 1) := by decide +kernel
theorem dL_law_911 : decode cL_law 911 = .ok (.aload_n 0, 1) := by decide +kernel
theorem dL_law_912 : decode cL_law 912 = .ok (.iload_n 3, 1) := by decide +kernel
theorem dL_law_913 : decode cL_law 913 = .ok (.iconst 2, 1) := by decide +kernel
theorem dL_law_914 : decode cL_law 914 = .ok (.iadd, 1) := by decide +kernel
theorem dL_law_915 : decode cL_law 915 = .ok (.iaload, 1) := by decide +kernel
theorem dL_law_916 : decode cL_law 916 = .ok (.invokevirtual 121, 3) := by decide +kernel
theorem dL_law_919 : decode cL_law 919 = .ok (.if_icmp .eq 173, 3) := by decide +kernel
theorem dL_law_922 : decode cL_law 922 = .ok (.iconst 0, 1) := by decide +kernel
theorem dL_law_923 : decode cL_law 923 = .ok (.ireturn, 1) := by decide +kernel
theorem dL_law_924 : decode cL_law 924 = .ok (.aload_n 1, 1) := by decide +kernel
theorem dL_law_925 : decode cL_law 925 = .ok (.aload_n 0, 1) := by decide +kernel
theorem dL_law_926 : decode cL_law 926 = .ok (.iload_n 3, 1) := by decide +kernel
theorem dL_law_927 : decode cL_law 927 = .ok (.iconst 1, 1) := by decide +kernel
theorem dL_law_928 : decode cL_law 928 = .ok (.iadd, 1) := by decide +kernel
theorem dL_law_929 : decode cL_law 929 = .ok (.iaload, 1) := by decide +kernel
theorem dL_law_930 : decode cL_law 930 = .ok (.aload_n 0, 1) := by decide +kernel
theorem dL_law_931 : decode cL_law 931 = .ok (.iload_n 3, 1) := by decide +kernel
theorem dL_law_932 : decode cL_law 932 = .ok (.iconst 2, 1) := by decide +kernel
theorem dL_law_933 : decode cL_law 933 = .ok (.iadd, 1) := by decide +kernel
theorem dL_law_934 : decode cL_law 934 = .ok (.iaload, 1) := by decide +kernel
theorem dL_law_935 : decode cL_law 935 = .ok (.invokevirtual 122, 3) := by decide +kernel
theorem dL_law_938 : decode cL_law 938 = .ok (.aload_n 2, 1) := by decide +kernel
theorem dL_law_939 : decode cL_law 939 = .ok (.aload_n 0, 1) := by decide +kernel
theorem dL_law_940 : decode cL_law 940 = .ok (.iload_n 3, 1) := by decide +kernel
theorem dL_law_941 : decode cL_law 941 = .ok (.iconst 1, 1) := by decide +kernel
theorem dL_law_942 : decode cL_law 942 = .ok (.iadd, 1) := by decide +kernel
theorem dL_law_943 : decode cL_law 943 = .ok (.iaload, 1) := by decide +kernel
theorem dL_law_944 : decode cL_law 944 = .ok (.aload_n 0, 1) := by decide +kernel
theorem dL_law_945 : decode cL_law 945 = .ok (.iload_n 3, 1) := by decide +kernel
theorem dL_law_946 : decode cL_law 946 = .ok (.iconst 2, 1) := by decide +kernel
theorem dL_law_947 : decode cL_law 947 = .ok (.iadd, 1) := by decide +kernel
theorem dL_law_948 : decode cL_law 948 = .ok (.iaload, 1) := by decide +kernel
theorem dL_law_949 : decode cL_law 949 = .ok (.invokevirtual 125, 3) := by decide +kernel
theorem dL_law_952 : decode cL_law 952 = .ok (.if_icmp .eq 140, 3) := by decide +kernel
theorem dL_law_955 : decode cL_law 955 = .ok (.iconst 0, 1) := by decide +kernel
theorem dL_law_956 : decode cL_law 956 = .ok (.ireturn, 1) := by decide +kernel
theorem dL_law_957 : decode cL_law 957 = .ok (.aload_n 1, 1) := by decide +kernel
theorem dL_law_958 : decode cL_law 958 = .ok (.aload_n 0, 1) := by decide +kernel
theorem dL_law_959 : decode cL_law 959 = .ok (.iload_n 3, 1) := by decide +kernel
theorem dL_law_960 : decode cL_law 960 = .ok (.iconst 1, 1) := by decide +kernel
theorem dL_law_961 : decode cL_law 961 = .ok (.iadd, 1) := by decide +kernel
theorem dL_law_962 : decode cL_law 962 = .ok (.iaload, 1) := by decide +kernel
theorem dL_law_963 : decode cL_law 963 = .ok (.invokevirtual 126, 3) := by decide +kernel
theorem dL_law_966 : decode cL_law 966 = .ok (.aload_n 2, 1) := by decide +kernel
theorem dL_law_967 : decode cL_law 967 = .ok (.aload_n 0, 1) := by decide +kernel
theorem dL_law_968 : decode cL_law 968 = .ok (.iload_n 3, 1) := by decide +kernel
theorem dL_law_969 : decode cL_law 969 = .ok (.iconst 1, 1) := by decide +kernel
theorem dL_law_970 : decode cL_law 970 = .ok (.iadd, 1) := by decide +kernel
theorem dL_law_971 : decode cL_law 971 = .ok (.iaload, 1) := by decide +kernel
theorem dL_law_972 : decode cL_law 972 = .ok (.invokevirtual 129, 3) := by decide +kernel
theorem dL_law_975 : decode cL_law 975 = .ok (.if_icmp .eq 117, 3) := by decide +kernel
theorem dL_law_978 : decode cL_law 978 = .ok (.iconst 0, 1) := by decide +kernel
theorem dL_law_979 : decode cL_law 979 = .ok (.ireturn, 1) := by decide +kernel
theorem dL_law_980 : decode cL_law 980 = .ok (.aload_n 1, 1) := by decide +kernel
theorem dL_law_981 : decode cL_law 981 = .ok (.aload_n 0, 1) := by decide +kernel
theorem dL_law_982 : decode cL_law 982 = .ok (.iload_n 3, 1) := by decide +kernel
theorem dL_law_983 : decode cL_law 983 = .ok (.iconst 1, 1) := by decide +kernel
theorem dL_law_984 : decode cL_law 984 = .ok (.iadd, 1) := by decide +kernel
theorem dL_law_985 : decode cL_law 985 = .ok (.iaload, 1) := by decide +kernel
theorem dL_law_986 : decode cL_law 986 = .ok (.aload_n 0, 1) := by decide +kernel
theorem dL_law_987 : decode cL_law 987 = .ok (.iload_n 3, 1) := by decide +kernel
theorem dL_law_988 : decode cL_law 988 = .ok (.iconst 2, 1) := by decide +kernel
theorem dL_law_989 : decode cL_law 989 = .ok (.iadd, 1) := by decide +kernel
theorem dL_law_990 : decode cL_law 990 = .ok (.iaload, 1) := by decide +kernel
theorem dL_law_991 : decode cL_law 991 = .ok (.aload_n 0, 1) := by decide +kernel
theorem dL_law_992 : decode cL_law 992 = .ok (.iload_n 3, 1) := by decide +kernel
theorem dL_law_993 : decode cL_law 993 = .ok (.iconst 3, 1) := by decide +kernel
theorem dL_law_994 : decode cL_law 994 = .ok (.iadd, 1) := by decide +kernel
theorem dL_law_995 : decode cL_law 995 = .ok (.iaload, 1) := by decide +kernel
theorem dL_law_996 : decode cL_law 996 = .ok (.invokevirtual 130, 3) := by decide +kernel
theorem dL_law_999 : decode cL_law 999 = .ok (.aload_n 2, 1) := by decide +kernel
theorem dL_law_1000 : decode cL_law 1000 = .ok (.aload_n 0, 1) := by decide +kernel
theorem dL_law_1001 : decode cL_law 1001 = .ok (.iload_n 3, 1) := by decide +kernel
theorem dL_law_1002 : decode cL_law 1002 = .ok (.iconst 1, 1) := by decide +kernel
theorem dL_law_1003 : decode cL_law 1003 = .ok (.iadd, 1) := by decide +kernel
theorem dL_law_1004 : decode cL_law 1004 = .ok (.iaload, 1) := by decide +kernel
theorem dL_law_1005 : decode cL_law 1005 = .ok (.aload_n 0, 1) := by decide +kernel
theorem dL_law_1006 : decode cL_law 1006 = .ok (.iload_n 3, 1) := by decide +kernel
theorem dL_law_1007 : decode cL_law 1007 = .ok (.iconst 2, 1) := by decide +kernel
theorem dL_law_1008 : decode cL_law 1008 = .ok (.iadd, 1) := by decide +kernel
theorem dL_law_1009 : decode cL_law 1009 = .ok (.iaload, 1) := by decide +kernel
theorem dL_law_1010 : decode cL_law 1010 = .ok (.aload_n 0, 1) := by decide +kernel
theorem dL_law_1011 : decode cL_law 1011 = .ok (.iload_n 3, 1) := by decide +kernel
theorem dL_law_1012 : decode cL_law 1012 = .ok (.iconst 3, 1) := by decide +kernel
theorem dL_law_1013 : decode cL_law 1013 = .ok (.iadd, 1) := by decide +kernel
theorem dL_law_1014 : decode cL_law 1014 = .ok (.iaload, 1) := by decide +kernel
theorem dL_law_1015 : decode cL_law 1015 = .ok (.invokevirtual 133, 3) := by decide +kernel
theorem dL_law_1018 : decode cL_law 1018 = .ok (.if_icmp .eq 74, 3) := by decide +kernel
theorem dL_law_1021 : decode cL_law 1021 = .ok (.iconst 0, 1) := by decide +kernel
theorem dL_law_1022 : decode cL_law 1022 = .ok (.ireturn, 1) := by decide +kernel
theorem dL_law_1023 : decode cL_law 1023 = .ok (.aload_n 1, 1) := by decide +kernel
theorem dL_law_1024 : decode cL_law 1024 = .ok (.aload_n 0, 1) := by decide +kernel
theorem dL_law_1025 : decode cL_law 1025 = .ok (.iload_n 3, 1) := by decide +kernel
theorem dL_law_1026 : decode cL_law 1026 = .ok (.iconst 1, 1) := by decide +kernel
theorem dL_law_1027 : decode cL_law 1027 = .ok (.iadd, 1) := by decide +kernel
theorem dL_law_1028 : decode cL_law 1028 = .ok (.iaload, 1) := by decide +kernel
theorem dL_law_1029 : decode cL_law 1029 = .ok (.invokevirtual 134, 3) := by decide +kernel
theorem dL_law_1032 : decode cL_law 1032 = .ok (.aload_n 2, 1) := by decide +kernel
theorem dL_law_1033 : decode cL_law 1033 = .ok (.aload_n 0, 1) := by decide +kernel
theorem dL_law_1034 : decode cL_law 1034 = .ok (.iload_n 3, 1) := by decide +kernel
theorem dL_law_1035 : decode cL_law 1035 = .ok (.iconst 1, 1) := by decide +kernel
theorem dL_law_1036 : decode cL_law 1036 = .ok (.iadd, 1) := by decide +kernel
theorem dL_law_1037 : decode cL_law 1037 = .ok (.iaload, 1) := by decide +kernel
theorem dL_law_1038 : decode cL_law 1038 = .ok (.invokevirtual 137, 3) := by decide +kernel
theorem dL_law_1041 : decode cL_law 1041 = .ok (.if_icmp .eq 51, 3) := by decide +kernel
theorem dL_law_1044 : decode cL_law 1044 = .ok (.iconst 0, 1) := by decide +kernel
theorem dL_law_1045 : decode cL_law 1045 = .ok (.ireturn, 1) := by decide +kernel
theorem dL_law_1046 : decode cL_law 1046 = .ok (.aload_n 1, 1) := by decide +kernel
theorem dL_law_1047 : decode cL_law 1047 = .ok (.aload_n 0, 1) := by decide +kernel
theorem dL_law_1048 : decode cL_law 1048 = .ok (.iload_n 3, 1) := by decide +kernel
theorem dL_law_1049 : decode cL_law 1049 = .ok (.iconst 1, 1) := by decide +kernel
theorem dL_law_1050 : decode cL_law 1050 = .ok (.iadd, 1) := by decide +kernel
theorem dL_law_1051 : decode cL_law 1051 = .ok (.iaload, 1) := by decide +kernel
theorem dL_law_1052 : decode cL_law 1052 = .ok (.invokevirtual 138, 3) := by decide +kernel
theorem dL_law_1055 : decode cL_law 1055 = .ok (.aload_n 2, 1) := by decide +kernel
theorem dL_law_1056 : decode cL_law 1056 = .ok (.aload_n 0, 1) := by decide +kernel
theorem dL_law_1057 : decode cL_law 1057 = .ok (.iload_n 3, 1) := by decide +kernel
theorem dL_law_1058 : decode cL_law 1058 = .ok (.iconst 1, 1) := by decide +kernel
theorem dL_law_1059 : decode cL_law 1059 = .ok (.iadd, 1) := by decide +kernel
theorem dL_law_1060 : decode cL_law 1060 = .ok (.iaload, 1) := by decide +kernel
theorem dL_law_1061 : decode cL_law 1061 = .ok (.invokevirtual 141, 3) := by decide +kernel
theorem dL_law_1064 : decode cL_law 1064 = .ok (.if_icmp .eq 28, 3) := by decide +kernel
theorem dL_law_1067 : decode cL_law 1067 = .ok (.iconst 0, 1) := by decide +kernel
theorem dL_law_1068 : decode cL_law 1068 = .ok (.ireturn, 1) := by decide +kernel
theorem dL_law_1069 : decode cL_law 1069 = .ok (.aload_n 1, 1) := by decide +kernel
theorem dL_law_1070 : decode cL_law 1070 = .ok (.aload_n 0, 1) := by decide +kernel
theorem dL_law_1071 : decode cL_law 1071 = .ok (.iload_n 3, 1) := by decide +kernel
theorem dL_law_1072 : decode cL_law 1072 = .ok (.iconst 1, 1) := by decide +kernel
theorem dL_law_1073 : decode cL_law 1073 = .ok (.iadd, 1) := by decide +kernel
theorem dL_law_1074 : decode cL_law 1074 = .ok (.iaload, 1) := by decide +kernel
theorem dL_law_1075 : decode cL_law 1075 = .ok (.invokevirtual 142, 3) := by decide +kernel
theorem dL_law_1078 : decode cL_law 1078 = .ok (.aload_n 2, 1) := by decide +kernel
theorem dL_law_1079 : decode cL_law 1079 = .ok (.aload_n 0, 1) := by decide +kernel
theorem dL_law_1080 : decode cL_law 1080 = .ok (.iload_n 3, 1) := by decide +kernel
theorem dL_law_1081 : decode cL_law 1081 = .ok (.iconst 1, 1) := by decide +kernel
theorem dL_law_1082 : decode cL_law 1082 = .ok (.iadd, 1) := by decide +kernel
theorem dL_law_1083 : decode cL_law 1083 = .ok (.iaload, 1) := by decide +kernel
theorem dL_law_1084 : decode cL_law 1084 = .ok (.invokevirtual 145, 3) := by decide +kernel
theorem dL_law_1087 : decode cL_law 1087 = .ok (.if_icmp .eq 5, 3) := by decide +kernel
theorem dL_law_1090 : decode cL_law 1090 = .ok (.iconst 0, 1) := by decide +kernel
theorem dL_law_1091 : decode cL_law 1091 = .ok (.ireturn, 1) := by decide +kernel
theorem dL_law_1092 : decode cL_law 1092 = .ok (.iinc 3 6, 3) := by decide +kernel
theorem dL_law_1095 : decode cL_law 1095 = .ok (.goto (-1077), 3) := by decide +kernel
theorem dL_law_1098 : decode cL_law 1098 = .ok (.iconst 1, 1) := by decide +kernel
theorem dL_law_1099 : decode cL_law 1099 = .ok (.ireturn, 1) := by decide +kernel
