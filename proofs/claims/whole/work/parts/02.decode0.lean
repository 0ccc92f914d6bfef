theorem dX0_init_0 : decode cX0_init 0 = .ok (.aload_n 0, 1) := by decide +kernel
theorem dX0_init_1 : decode cX0_init 1 = .ok (.invokespecial 3, 3) := by decide +kernel
theorem dX0_init_4 : decode cX0_init 4 = .ok (.aload_n 0, 1) := by decide +kernel
theorem dX0_init_5 : decode cX0_init 5 = .ok (.bipush 8, 2) := by decide +kernel
theorem dX0_init_7 : decode cX0_init 7 = .ok (.newarray .int, 2) := by decide +kernel
theorem dX0_init_9 : decode cX0_init 9 = .ok (.putfield 9, 3) := by decide +kernel
theorem dX0_init_12 : decode cX0_init 12 = .ok (.aload_n 0, 1) := by decide +kernel
theorem dX0_init_13 : decode cX0_init 13 = .ok (.bipush 8, 2) := by decide +kernel
theorem dX0_init_15 : decode cX0_init 15 = .ok (.newarray .int, 2) := by decide +kernel
theorem dX0_init_17 : decode cX0_init 17 = .ok (.putfield 15, 3) := by decide +kernel
theorem dX0_init_20 : decode cX0_init 20 = .ok (.aload_n 0, 1) := by decide +kernel
theorem dX0_init_21 : decode cX0_init 21 = .ok (.bipush 8, 2) := by decide +kernel
theorem dX0_init_23 : decode cX0_init 23 = .ok (.newarray .int, 2) := by decide +kernel
theorem dX0_init_25 : decode cX0_init 25 = .ok (.putfield 18, 3) := by decide +kernel
theorem dX0_init_28 : decode cX0_init 28 = .ok (.aload_n 0, 1) := by decide +kernel
theorem dX0_init_29 : decode cX0_init 29 = .ok (.aload_n 1, 1) := by decide +kernel
theorem dX0_init_30 : decode cX0_init 30 = .ok (.putfield 21, 3) := by decide +kernel
theorem dX0_init_33 : decode cX0_init 33 = .ok (.return_, 1) := by decide +kernel
theorem dX0_find_0 : decode cX0_find 0 = .ok (.aload_n 0, 1) := by decide +kernel
theorem dX0_find_1 : decode cX0_find 1 = .ok (.iload_n 1, 1) := by decide +kernel
theorem dX0_find_2 : decode cX0_find 2 = .ok (.putfield 25, 3) := by decide +kernel
theorem dX0_find_5 : decode cX0_find 5 = .ok (.aload_n 0, 1) := by decide +kernel
theorem dX0_find_6 : decode cX0_find 6 = .ok (.bipush 9, 2) := by decide +kernel
theorem dX0_find_8 : decode cX0_find 8 = .ok (.putfield 29, 3) := by decide +kernel
theorem dX0_find_11 : decode cX0_find 11 = .ok (.aload_n 0, 1) := by decide +kernel
theorem dX0_find_12 : decode cX0_find 12 = .ok (.getfield 18, 3) := by decide +kernel
theorem dX0_find_15 : decode cX0_find 15 = .ok (.iconst 0, 1) := by decide +kernel
theorem dX0_find_16 : decode cX0_find 16 = .ok (.invokestatic 32, 3) := by decide +kernel
theorem dX0_find_19 : decode cX0_find 19 = .ok (.aload_n 0, 1) := by decide +kernel
theorem dX0_find_20 : decode cX0_find 20 = .ok (.iconst 0, 1) := by decide +kernel
theorem dX0_find_21 : decode cX0_find 21 = .ok (.iconst 0, 1) := by decide +kernel
theorem dX0_find_22 : decode cX0_find 22 = .ok (.invokevirtual 38, 3) := by decide +kernel
theorem dX0_find_25 : decode cX0_find 25 = .ok (.aload_n 0, 1) := by decide +kernel
theorem dX0_find_26 : decode cX0_find 26 = .ok (.getfield 29, 3) := by decide +kernel
theorem dX0_find_29 : decode cX0_find 29 = .ok (.bipush 8, 2) := by decide +kernel
theorem dX0_find_31 : decode cX0_find 31 = .ok (.if_icmp .gt 7, 3) := by decide +kernel
theorem dX0_find_34 : decode cX0_find 34 = .ok (.iconst 1, 1) := by decide +kernel
theorem dX0_find_35 : decode cX0_find 35 = .ok (.goto 4, 3) := by decide +kernel
theorem dX0_find_38 : decode cX0_find 38 = .ok (.iconst 0, 1) := by decide +kernel
theorem dX0_find_39 : decode cX0_find 39 = .ok (.ireturn, 1) := by decide +kernel
theorem dX0_putFrom_0 : decode cX0_putFrom 0 = .ok (.iload_n 2, 1) := by decide +kernel
theorem dX0_putFrom_1 : decode cX0_putFrom 1 = .ok (.aload_n 0, 1) := by decide +kernel
theorem dX0_putFrom_2 : decode cX0_putFrom 2 = .ok (.getfield 29, 3) := by decide +kernel
theorem dX0_putFrom_5 : decode cX0_putFrom 5 = .ok (.if_icmp .lt 4, 3) := by decide +kernel
theorem dX0_putFrom_8 : decode cX0_putFrom 8 = .ok (.return_, 1) := by decide +kernel
theorem dX0_putFrom_9 : decode cX0_putFrom 9 = .ok (.iload_n 1, 1) := by decide +kernel
theorem dX0_putFrom_10 : decode cX0_putFrom 10 = .ok (.bipush 8, 2) := by decide +kernel
theorem dX0_putFrom_12 : decode cX0_putFrom 12 = .ok (.if_icmp .lt 24, 3) := by decide +kernel
theorem dX0_putFrom_15 : decode cX0_putFrom 15 = .ok (.aload_n 0, 1) := by decide +kernel
theorem dX0_putFrom_16 : decode cX0_putFrom 16 = .ok (.iload_n 2, 1) := by decide +kernel
theorem dX0_putFrom_17 : decode cX0_putFrom 17 = .ok (.putfield 29, 3) := by decide +kernel
theorem dX0_putFrom_20 : decode cX0_putFrom 20 = .ok (.aload_n 0, 1) := by decide +kernel
theorem dX0_putFrom_21 : decode cX0_putFrom 21 = .ok (.getfield 15, 3) := by decide +kernel
theorem dX0_putFrom_24 : decode cX0_putFrom 24 = .ok (.iconst 0, 1) := by decide +kernel
theorem dX0_putFrom_25 : decode cX0_putFrom 25 = .ok (.aload_n 0, 1) := by decide +kernel
theorem dX0_putFrom_26 : decode cX0_putFrom 26 = .ok (.getfield 9, 3) := by decide +kernel
theorem dX0_putFrom_29 : decode cX0_putFrom 29 = .ok (.iconst 0, 1) := by decide +kernel
theorem dX0_putFrom_30 : decode cX0_putFrom 30 = .ok (.bipush 8, 2) := by decide +kernel
theorem dX0_putFrom_32 : decode cX0_putFrom 32 = .ok (.invokestatic 42, 3) := by decide +kernel
theorem dX0_putFrom_35 : decode cX0_putFrom 35 = .ok (.return_, 1) := by decide +kernel
theorem dX0_putFrom_36 : decode cX0_putFrom 36 = .ok (.iload_n 1, 1) := by decide +kernel
theorem dX0_putFrom_37 : decode cX0_putFrom 37 = .ok (.aload_n 0, 1) := by decide +kernel
theorem dX0_putFrom_38 : decode cX0_putFrom 38 = .ok (.getfield 21, 3) := by decide +kernel
theorem dX0_putFrom_41 : decode cX0_putFrom 41 = .ok (.getfield 48, 3) := by decide +kernel
theorem dX0_putFrom_44 : decode cX0_putFrom 44 = .ok (.getfield 54, 3) := by decide +kernel
theorem dX0_putFrom_47 : decode cX0_putFrom 47 = .ok (.if_icmp .ge 15, 3) := by decide +kernel
theorem dX0_putFrom_50 : decode cX0_putFrom 50 = .ok (.aload_n 0, 1) := by decide +kernel
theorem dX0_putFrom_51 : decode cX0_putFrom 51 = .ok (.getfield 21, 3) := by decide +kernel
theorem dX0_putFrom_54 : decode cX0_putFrom 54 = .ok (.getfield 59, 3) := by decide +kernel
theorem dX0_putFrom_57 : decode cX0_putFrom 57 = .ok (.iload_n 1, 1) := by decide +kernel
theorem dX0_putFrom_58 : decode cX0_putFrom 58 = .ok (.iaload, 1) := by decide +kernel
theorem dX0_putFrom_59 : decode cX0_putFrom 59 = .ok (.ifCond .eq 19, 3) := by decide +kernel
theorem dX0_putFrom_62 : decode cX0_putFrom 62 = .ok (.aload_n 0, 1) := by decide +kernel
theorem dX0_putFrom_63 : decode cX0_putFrom 63 = .ok (.getfield 15, 3) := by decide +kernel
theorem dX0_putFrom_66 : decode cX0_putFrom 66 = .ok (.iload_n 1, 1) := by decide +kernel
theorem dX0_putFrom_67 : decode cX0_putFrom 67 = .ok (.iconst (-1), 1) := by decide +kernel
theorem dX0_putFrom_68 : decode cX0_putFrom 68 = .ok (.iastore, 1) := by decide +kernel
theorem dX0_putFrom_69 : decode cX0_putFrom 69 = .ok (.aload_n 0, 1) := by decide +kernel
theorem dX0_putFrom_70 : decode cX0_putFrom 70 = .ok (.iload_n 1, 1) := by decide +kernel
theorem dX0_putFrom_71 : decode cX0_putFrom 71 = .ok (.iconst 1, 1) := by decide +kernel
theorem dX0_putFrom_72 : decode cX0_putFrom 72 = .ok (.iadd, 1) := by decide +kernel
theorem dX0_putFrom_73 : decode cX0_putFrom 73 = .ok (.iload_n 2, 1) := by decide +kernel
theorem dX0_putFrom_74 : decode cX0_putFrom 74 = .ok (.invokevirtual 38, 3) := by decide +kernel
theorem dX0_putFrom_77 : decode cX0_putFrom 77 = .ok (.return_, 1) := by decide +kernel
theorem dX0_putFrom_78 : decode cX0_putFrom 78 = .ok (.aload_n 0, 1) := by decide +kernel
theorem dX0_putFrom_79 : decode cX0_putFrom 79 = .ok (.getfield 21, 3) := by decide +kernel
theorem dX0_putFrom_82 : decode cX0_putFrom 82 = .ok (.getfield 48, 3) := by decide +kernel
theorem dX0_putFrom_85 : decode cX0_putFrom 85 = .ok (.getfield 62, 3) := by decide +kernel
theorem dX0_putFrom_88 : decode cX0_putFrom 88 = .ok (.iload_n 1, 1) := by decide +kernel
theorem dX0_putFrom_89 : decode cX0_putFrom 89 = .ok (.iaload, 1) := by decide +kernel
theorem dX0_putFrom_90 : decode cX0_putFrom 90 = .ok (.istore_n 3, 1) := by decide +kernel
theorem dX0_putFrom_91 : decode cX0_putFrom 91 = .ok (.iconst 0, 1) := by decide +kernel
theorem dX0_putFrom_92 : decode cX0_putFrom 92 = .ok (.istore 4, 2) := by decide +kernel
theorem dX0_putFrom_94 : decode cX0_putFrom 94 = .ok (.iload 4, 2) := by decide +kernel
theorem dX0_putFrom_96 : decode cX0_putFrom 96 = .ok (.iload_n 2, 1) := by decide +kernel
theorem dX0_putFrom_97 : decode cX0_putFrom 97 = .ok (.if_icmp .gt 77, 3) := by decide +kernel
theorem dX0_putFrom_100 : decode cX0_putFrom 100 = .ok (.iload 4, 2) := by decide +kernel
theorem dX0_putFrom_102 : decode cX0_putFrom 102 = .ok (.bipush 8, 2) := by decide +kernel
theorem dX0_putFrom_104 : decode cX0_putFrom 104 = .ok (.if_icmp .ge 70, 3) := by decide +kernel
theorem dX0_putFrom_107 : decode cX0_putFrom 107 = .ok (.aload_n 0, 1) := by decide +kernel
theorem dX0_putFrom_108 : decode cX0_putFrom 108 = .ok (.getfield 18, 3) := by decide +kernel
theorem dX0_putFrom_111 : decode cX0_putFrom 111 = .ok (.iload 4, 2) := by decide +kernel
theorem dX0_putFrom_113 : decode cX0_putFrom 113 = .ok (.iaload, 1) := by decide +kernel
theorem dX0_putFrom_114 : decode cX0_putFrom 114 = .ok (.iload_n 3, 1) := by decide +kernel
theorem dX0_putFrom_115 : decode cX0_putFrom 115 = .ok (.iadd, 1) := by decide +kernel
theorem dX0_putFrom_116 : decode cX0_putFrom 116 = .ok (.aload_n 0, 1) := by decide +kernel
theorem dX0_putFrom_117 : decode cX0_putFrom 117 = .ok (.getfield 25, 3) := by decide +kernel
theorem dX0_putFrom_120 : decode cX0_putFrom 120 = .ok (.if_icmp .gt 48, 3) := by decide +kernel
theorem dX0_putFrom_123 : decode cX0_putFrom 123 = .ok (.aload_n 0, 1) := by decide +kernel
theorem dX0_putFrom_124 : decode cX0_putFrom 124 = .ok (.getfield 18, 3) := by decide +kernel
theorem dX0_putFrom_127 : decode cX0_putFrom 127 = .ok (.iload 4, 2) := by decide +kernel
theorem dX0_putFrom_129 : decode cX0_putFrom 129 = .ok (.dup2, 1) := by decide +kernel
theorem dX0_putFrom_130 : decode cX0_putFrom 130 = .ok (.iaload, 1) := by decide +kernel
theorem dX0_putFrom_131 : decode cX0_putFrom 131 = .ok (.iload_n 3, 1) := by decide +kernel
theorem dX0_putFrom_132 : decode cX0_putFrom 132 = .ok (.iadd, 1) := by decide +kernel
theorem dX0_putFrom_133 : decode cX0_putFrom 133 = .ok (.iastore, 1) := by decide +kernel
theorem dX0_putFrom_134 : decode cX0_putFrom 134 = .ok (.aload_n 0, 1) := by decide +kernel
theorem dX0_putFrom_135 : decode cX0_putFrom 135 = .ok (.getfield 15, 3) := by decide +kernel
theorem dX0_putFrom_138 : decode cX0_putFrom 138 = .ok (.iload_n 1, 1) := by decide +kernel
theorem dX0_putFrom_139 : decode cX0_putFrom 139 = .ok (.iload 4, 2) := by decide +kernel
theorem dX0_putFrom_141 : decode cX0_putFrom 141 = .ok (.iastore, 1) := by decide +kernel
theorem dX0_putFrom_142 : decode cX0_putFrom 142 = .ok (.aload_n 0, 1) := by decide +kernel
theorem dX0_putFrom_143 : decode cX0_putFrom 143 = .ok (.iload_n 1, 1) := by decide +kernel
theorem dX0_putFrom_144 : decode cX0_putFrom 144 = .ok (.iconst 1, 1) := by decide +kernel
theorem dX0_putFrom_145 : decode cX0_putFrom 145 = .ok (.iadd, 1) := by decide +kernel
theorem dX0_putFrom_146 : decode cX0_putFrom 146 = .ok (.iload_n 2, 1) := by decide +kernel
theorem dX0_putFrom_147 : decode cX0_putFrom 147 = .ok (.iload 4, 2) := by decide +kernel
theorem dX0_putFrom_149 : decode cX0_putFrom 149 = .ok (.iconst 1, 1) := by decide +kernel
theorem dX0_putFrom_150 : decode cX0_putFrom 150 = .ok (.iadd, 1) := by decide +kernel
theorem dX0_putFrom_151 : decode cX0_putFrom 151 = .ok (.invokestatic 65, 3) := by decide +kernel
theorem dX0_putFrom_154 : decode cX0_putFrom 154 = .ok (.invokevirtual 38, 3) := by decide +kernel
theorem dX0_putFrom_157 : decode cX0_putFrom 157 = .ok (.aload_n 0, 1) := by decide +kernel
theorem dX0_putFrom_158 : decode cX0_putFrom 158 = .ok (.getfield 18, 3) := by decide +kernel
theorem dX0_putFrom_161 : decode cX0_putFrom 161 = .ok (.iload 4, 2) := by decide +kernel
theorem dX0_putFrom_163 : decode cX0_putFrom 163 = .ok (.dup2, 1) := by decide +kernel
theorem dX0_putFrom_164 : decode cX0_putFrom 164 = .ok (.iaload, 1) := by decide +kernel
theorem dX0_putFrom_165 : decode cX0_putFrom 165 = .ok (.iload_n 3, 1) := by decide +kernel
theorem dX0_putFrom_166 : decode cX0_putFrom 166 = .ok (.isub, 1) := by decide +kernel
theorem dX0_putFrom_167 : decode cX0_putFrom 167 = .ok (.iastore, 1) := by decide +kernel
theorem dX0_putFrom_168 : decode cX0_putFrom 168 = .ok (.iinc 4 1, 3) := by decide +kernel
theorem dX0_putFrom_171 : decode cX0_putFrom 171 = .ok (.goto (-77), 3) := by decide +kernel
theorem dX0_putFrom_174 : decode cX0_putFrom 174 = .ok (.return_, 1) := by decide +kernel
theorem dX1_init_0 : decode cX1_init 0 = .ok (.aload_n 0, 1) := by decide +kernel
theorem dX1_init_1 : decode cX1_init 1 = .ok (.invokespecial 3, 3) := by decide +kernel
theorem dX1_init_4 : decode cX1_init 4 = .ok (.aload_n 0, 1) := by decide +kernel
theorem dX1_init_5 : decode cX1_init 5 = .ok (.bipush 6, 2) := by decide +kernel
theorem dX1_init_7 : decode cX1_init 7 = .ok (.newarray .int, 2) := by decide +kernel
theorem dX1_init_9 : decode cX1_init 9 = .ok (.putfield 9, 3) := by decide +kernel
theorem dX1_init_12 : decode cX1_init 12 = .ok (.aload_n 0, 1) := by decide +kernel
theorem dX1_init_13 : decode cX1_init 13 = .ok (.sipush 256, 3) := by decide +kernel
theorem dX1_init_16 : decode cX1_init 16 = .ok (.newarray .int, 2) := by decide +kernel
theorem dX1_init_18 : decode cX1_init 18 = .ok (.putfield 15, 3) := by decide +kernel
theorem dX1_init_21 : decode cX1_init 21 = .ok (.aload_n 0, 1) := by decide +kernel
theorem dX1_init_22 : decode cX1_init 22 = .ok (.bipush 8, 2) := by decide +kernel
theorem dX1_init_24 : decode cX1_init 24 = .ok (.newarray .int, 2) := by decide +kernel
theorem dX1_init_26 : decode cX1_init 26 = .ok (.putfield 18, 3) := by decide +kernel
theorem dX1_init_29 : decode cX1_init 29 = .ok (.aload_n 0, 1) := by decide +kernel
theorem dX1_init_30 : decode cX1_init 30 = .ok (.aload_n 1, 1) := by decide +kernel
theorem dX1_init_31 : decode cX1_init 31 = .ok (.putfield 21, 3) := by decide +kernel
theorem dX1_init_34 : decode cX1_init 34 = .ok (.return_, 1) := by decide +kernel
theorem dX1_find_0 : decode cX1_find 0 = .ok (.aload_n 0, 1) := by decide +kernel
theorem dX1_find_1 : decode cX1_find 1 = .ok (.getfield 21, 3) := by decide +kernel
theorem dX1_find_4 : decode cX1_find 4 = .ok (.iconst 0, 1) := by decide +kernel
theorem dX1_find_5 : decode cX1_find 5 = .ok (.invokevirtual 25, 3) := by decide +kernel
theorem dX1_find_8 : decode cX1_find 8 = .ok (.istore_n 1, 1) := by decide +kernel
theorem dX1_find_9 : decode cX1_find 9 = .ok (.aload_n 0, 1) := by decide +kernel
theorem dX1_find_10 : decode cX1_find 10 = .ok (.iconst 0, 1) := by decide +kernel
theorem dX1_find_11 : decode cX1_find 11 = .ok (.putfield 31, 3) := by decide +kernel
theorem dX1_find_14 : decode cX1_find 14 = .ok (.aload_n 0, 1) := by decide +kernel
theorem dX1_find_15 : decode cX1_find 15 = .ok (.iconst 0, 1) := by decide +kernel
theorem dX1_find_16 : decode cX1_find 16 = .ok (.putfield 35, 3) := by decide +kernel
theorem dX1_find_19 : decode cX1_find 19 = .ok (.aload_n 0, 1) := by decide +kernel
theorem dX1_find_20 : decode cX1_find 20 = .ok (.getfield 21, 3) := by decide +kernel
theorem dX1_find_23 : decode cX1_find 23 = .ok (.iload_n 1, 1) := by decide +kernel
theorem dX1_find_24 : decode cX1_find 24 = .ok (.iconst 0, 1) := by decide +kernel
theorem dX1_find_25 : decode cX1_find 25 = .ok (.invokevirtual 38, 3) := by decide +kernel
theorem dX1_find_28 : decode cX1_find 28 = .ok (.ifCond .lt 11, 3) := by decide +kernel
theorem dX1_find_31 : decode cX1_find 31 = .ok (.aload_n 0, 1) := by decide +kernel
theorem dX1_find_32 : decode cX1_find 32 = .ok (.iload_n 1, 1) := by decide +kernel
theorem dX1_find_33 : decode cX1_find 33 = .ok (.invokevirtual 42, 3) := by decide +kernel
theorem dX1_find_36 : decode cX1_find 36 = .ok (.ifCond .ne 4, 3) := by decide +kernel
theorem dX1_find_39 : decode cX1_find 39 = .ok (.return_, 1) := by decide +kernel
theorem dX1_find_40 : decode cX1_find 40 = .ok (.iload_n 1, 1) := by decide +kernel
theorem dX1_find_41 : decode cX1_find 41 = .ok (.istore_n 2, 1) := by decide +kernel
theorem dX1_find_42 : decode cX1_find 42 = .ok (.iload_n 2, 1) := by decide +kernel
theorem dX1_find_43 : decode cX1_find 43 = .ok (.ifCond .lt 38, 3) := by decide +kernel
theorem dX1_find_46 : decode cX1_find 46 = .ok (.iload_n 2, 1) := by decide +kernel
theorem dX1_find_47 : decode cX1_find 47 = .ok (.iload_n 1, 1) := by decide +kernel
theorem dX1_find_48 : decode cX1_find 48 = .ok (.iconst (-1), 1) := by decide +kernel
theorem dX1_find_49 : decode cX1_find 49 = .ok (.ixor, 1) := by decide +kernel
theorem dX1_find_50 : decode cX1_find 50 = .ok (.iand, 1) := by decide +kernel
theorem dX1_find_51 : decode cX1_find 51 = .ok (.ifCond .ne 24, 3) := by decide +kernel
theorem dX1_find_54 : decode cX1_find 54 = .ok (.aload_n 0, 1) := by decide +kernel
theorem dX1_find_55 : decode cX1_find 55 = .ok (.getfield 15, 3) := by decide +kernel
theorem dX1_find_58 : decode cX1_find 58 = .ok (.iload_n 2, 1) := by decide +kernel
theorem dX1_find_59 : decode cX1_find 59 = .ok (.iload_n 2, 1) := by decide +kernel
theorem dX1_find_60 : decode cX1_find 60 = .ok (.iload_n 1, 1) := by decide +kernel
theorem dX1_find_61 : decode cX1_find 61 = .ok (.if_icmp .ne 7, 3) := by decide +kernel
theorem dX1_find_64 : decode cX1_find 64 = .ok (.iconst 1, 1) := by decide +kernel
theorem dX1_find_65 : decode cX1_find 65 = .ok (.goto 9, 3) := by decide +kernel
theorem dX1_find_68 : decode cX1_find 68 = .ok (.aload_n 0, 1) := by decide +kernel
theorem dX1_find_69 : decode cX1_find 69 = .ok (.iload_n 2, 1) := by decide +kernel
theorem dX1_find_70 : decode cX1_find 70 = .ok (.iload_n 1, 1) := by decide +kernel
theorem dX1_find_71 : decode cX1_find 71 = .ok (.invokevirtual 46, 3) := by decide +kernel
theorem dX1_find_74 : decode cX1_find 74 = .ok (.iastore, 1) := by decide +kernel
theorem dX1_find_75 : decode cX1_find 75 = .ok (.iinc 2 (-1), 3) := by decide +kernel
theorem dX1_find_78 : decode cX1_find 78 = .ok (.goto (-36), 3) := by decide +kernel
theorem dX1_find_81 : decode cX1_find 81 = .ok (.aload_n 0, 1) := by decide +kernel
theorem dX1_find_82 : decode cX1_find 82 = .ok (.aload_n 0, 1) := by decide +kernel
theorem dX1_find_83 : decode cX1_find 83 = .ok (.getfield 15, 3) := by decide +kernel
theorem dX1_find_86 : decode cX1_find 86 = .ok (.iconst 0, 1) := by decide +kernel
theorem dX1_find_87 : decode cX1_find 87 = .ok (.iaload, 1) := by decide +kernel
theorem dX1_find_88 : decode cX1_find 88 = .ok (.putfield 35, 3) := by decide +kernel
theorem dX1_find_91 : decode cX1_find 91 = .ok (.aload_n 0, 1) := by decide +kernel
theorem dX1_find_92 : decode cX1_find 92 = .ok (.iload_n 1, 1) := by decide +kernel
theorem dX1_find_93 : decode cX1_find 93 = .ok (.invokevirtual 49, 3) := by decide +kernel
theorem dX1_find_96 : decode cX1_find 96 = .ok (.return_, 1) := by decide +kernel
theorem dX1_findGroups_0 : decode cX1_findGroups 0 = .ok (.aload_n 0, 1) := by decide +kernel
theorem dX1_findGroups_1 : decode cX1_findGroups 1 = .ok (.iconst 0, 1) := by decide +kernel
theorem dX1_findGroups_2 : decode cX1_findGroups 2 = .ok (.putfield 53, 3) := by decide +kernel
theorem dX1_findGroups_5 : decode cX1_findGroups 5 = .ok (.aload_n 0, 1) := by decide +kernel
theorem dX1_findGroups_6 : decode cX1_findGroups 6 = .ok (.getfield 21, 3) := by decide +kernel
theorem dX1_findGroups_9 : decode cX1_findGroups 9 = .ok (.getfield 56, 3) := by decide +kernel
theorem dX1_findGroups_12 : decode cX1_findGroups 12 = .ok (.iconst 1, 1) := by decide +kernel
theorem dX1_findGroups_13 : decode cX1_findGroups 13 = .ok (.iadd, 1) := by decide +kernel
theorem dX1_findGroups_14 : decode cX1_findGroups 14 = .ok (.istore_n 2, 1) := by decide +kernel
theorem dX1_findGroups_15 : decode cX1_findGroups 15 = .ok (.iload_n 2, 1) := by decide +kernel
theorem dX1_findGroups_16 : decode cX1_findGroups 16 = .ok (.aload_n 0, 1) := by decide +kernel
theorem dX1_findGroups_17 : decode cX1_findGroups 17 = .ok (.getfield 21, 3) := by decide +kernel
theorem dX1_findGroups_20 : decode cX1_findGroups 20 = .ok (.getfield 59, 3) := by decide +kernel
theorem dX1_findGroups_23 : decode cX1_findGroups 23 = .ok (.getfield 63, 3) := by decide +kernel
theorem dX1_findGroups_26 : decode cX1_findGroups 26 = .ok (.if_icmp .gt 145, 3) := by decide +kernel
theorem dX1_findGroups_29 : decode cX1_findGroups 29 = .ok (.iconst 0, 1) := by decide +kernel
theorem dX1_findGroups_30 : decode cX1_findGroups 30 = .ok (.istore_n 3, 1) := by decide +kernel
theorem dX1_findGroups_31 : decode cX1_findGroups 31 = .ok (.iconst 0, 1) := by decide +kernel
theorem dX1_findGroups_32 : decode cX1_findGroups 32 = .ok (.istore 4, 2) := by decide +kernel
theorem dX1_findGroups_34 : decode cX1_findGroups 34 = .ok (.iconst 0, 1) := by decide +kernel
theorem dX1_findGroups_35 : decode cX1_findGroups 35 = .ok (.istore 5, 2) := by decide +kernel
theorem dX1_findGroups_37 : decode cX1_findGroups 37 = .ok (.iload 5, 2) := by decide +kernel
theorem dX1_findGroups_39 : decode cX1_findGroups 39 = .ok (.aload_n 0, 1) := by decide +kernel
theorem dX1_findGroups_40 : decode cX1_findGroups 40 = .ok (.getfield 21, 3) := by decide +kernel
theorem dX1_findGroups_43 : decode cX1_findGroups 43 = .ok (.getfield 59, 3) := by decide +kernel
theorem dX1_findGroups_46 : decode cX1_findGroups 46 = .ok (.getfield 68, 3) := by decide +kernel
theorem dX1_findGroups_49 : decode cX1_findGroups 49 = .ok (.if_icmp .ge 57, 3) := by decide +kernel
theorem dX1_findGroups_52 : decode cX1_findGroups 52 = .ok (.iload_n 1, 1) := by decide +kernel
theorem dX1_findGroups_53 : decode cX1_findGroups 53 = .ok (.iload 5, 2) := by decide +kernel
theorem dX1_findGroups_55 : decode cX1_findGroups 55 = .ok (.invokestatic 71, 3) := by decide +kernel
theorem dX1_findGroups_58 : decode cX1_findGroups 58 = .ok (.ifCond .ne 6, 3) := by decide +kernel
theorem dX1_findGroups_61 : decode cX1_findGroups 61 = .ok (.goto 39, 3) := by decide +kernel
theorem dX1_findGroups_64 : decode cX1_findGroups 64 = .ok (.aload_n 0, 1) := by decide +kernel
theorem dX1_findGroups_65 : decode cX1_findGroups 65 = .ok (.getfield 21, 3) := by decide +kernel
theorem dX1_findGroups_68 : decode cX1_findGroups 68 = .ok (.iload 5, 2) := by decide +kernel
theorem dX1_findGroups_70 : decode cX1_findGroups 70 = .ok (.invokevirtual 75, 3) := by decide +kernel
theorem dX1_findGroups_73 : decode cX1_findGroups 73 = .ok (.iload_n 2, 1) := by decide +kernel
theorem dX1_findGroups_74 : decode cX1_findGroups 74 = .ok (.if_icmp .ne 6, 3) := by decide +kernel
theorem dX1_findGroups_77 : decode cX1_findGroups 77 = .ok (.iconst 1, 1) := by decide +kernel
theorem dX1_findGroups_78 : decode cX1_findGroups 78 = .ok (.istore 4, 2) := by decide +kernel
theorem dX1_findGroups_80 : decode cX1_findGroups 80 = .ok (.aload_n 0, 1) := by decide +kernel
theorem dX1_findGroups_81 : decode cX1_findGroups 81 = .ok (.getfield 21, 3) := by decide +kernel
theorem dX1_findGroups_84 : decode cX1_findGroups 84 = .ok (.iload 5, 2) := by decide +kernel
theorem dX1_findGroups_86 : decode cX1_findGroups 86 = .ok (.invokevirtual 75, 3) := by decide +kernel
theorem dX1_findGroups_89 : decode cX1_findGroups 89 = .ok (.iload_n 2, 1) := by decide +kernel
theorem dX1_findGroups_90 : decode cX1_findGroups 90 = .ok (.if_icmp .le 10, 3) := by decide +kernel
theorem dX1_findGroups_93 : decode cX1_findGroups 93 = .ok (.iload_n 3, 1) := by decide +kernel
theorem dX1_findGroups_94 : decode cX1_findGroups 94 = .ok (.iconst 1, 1) := by decide +kernel
theorem dX1_findGroups_95 : decode cX1_findGroups 95 = .ok (.iload 5, 2) := by decide +kernel
theorem dX1_findGroups_97 : decode cX1_findGroups 97 = .ok (.ishl, 1) := by decide +kernel
theorem dX1_findGroups_98 : decode cX1_findGroups 98 = .ok (.ior, 1) := by decide +kernel
theorem dX1_findGroups_99 : decode cX1_findGroups 99 = .ok (.istore_n 3, 1) := by decide +kernel
theorem dX1_findGroups_100 : decode cX1_findGroups 100 = .ok (.iinc 5 1, 3) := by decide +kernel
theorem dX1_findGroups_103 : decode cX1_findGroups 103 = .ok (.goto (-66), 3) := by decide +kernel
theorem dX1_findGroups_106 : decode cX1_findGroups 106 = .ok (.iload 4, 2) := by decide +kernel
theorem dX1_findGroups_108 : decode cX1_findGroups 108 = .ok (.ifCond .ne 6, 3) := by decide +kernel
theorem dX1_findGroups_111 : decode cX1_findGroups 111 = .ok (.goto 54, 3) := by decide +kernel
theorem dX1_findGroups_114 : decode cX1_findGroups 114 = .ok (.aload_n 0, 1) := by decide +kernel
theorem dX1_findGroups_115 : decode cX1_findGroups 115 = .ok (.getfield 21, 3) := by decide +kernel
theorem dX1_findGroups_118 : decode cX1_findGroups 118 = .ok (.iload_n 3, 1) := by decide +kernel
theorem dX1_findGroups_119 : decode cX1_findGroups 119 = .ok (.iload_n 2, 1) := by decide +kernel
theorem dX1_findGroups_120 : decode cX1_findGroups 120 = .ok (.aload_n 0, 1) := by decide +kernel
theorem dX1_findGroups_121 : decode cX1_findGroups 121 = .ok (.getfield 21, 3) := by decide +kernel
theorem dX1_findGroups_124 : decode cX1_findGroups 124 = .ok (.getfield 56, 3) := by decide +kernel
theorem dX1_findGroups_127 : decode cX1_findGroups 127 = .ok (.isub, 1) := by decide +kernel
theorem dX1_findGroups_128 : decode cX1_findGroups 128 = .ok (.invokevirtual 38, 3) := by decide +kernel
theorem dX1_findGroups_131 : decode cX1_findGroups 131 = .ok (.ifCond .ge 5, 3) := by decide +kernel
theorem dX1_findGroups_134 : decode cX1_findGroups 134 = .ok (.iconst 0, 1) := by decide +kernel
theorem dX1_findGroups_135 : decode cX1_findGroups 135 = .ok (.ireturn, 1) := by decide +kernel
theorem dX1_findGroups_136 : decode cX1_findGroups 136 = .ok (.aload_n 0, 1) := by decide +kernel
theorem dX1_findGroups_137 : decode cX1_findGroups 137 = .ok (.getfield 53, 3) := by decide +kernel
theorem dX1_findGroups_140 : decode cX1_findGroups 140 = .ok (.bipush 6, 2) := by decide +kernel
theorem dX1_findGroups_142 : decode cX1_findGroups 142 = .ok (.if_icmp .ge 23, 3) := by decide +kernel
theorem dX1_findGroups_145 : decode cX1_findGroups 145 = .ok (.aload_n 0, 1) := by decide +kernel
theorem dX1_findGroups_146 : decode cX1_findGroups 146 = .ok (.getfield 9, 3) := by decide +kernel
theorem dX1_findGroups_149 : decode cX1_findGroups 149 = .ok (.aload_n 0, 1) := by decide +kernel
theorem dX1_findGroups_150 : decode cX1_findGroups 150 = .ok (.getfield 53, 3) := by decide +kernel
theorem dX1_findGroups_153 : decode cX1_findGroups 153 = .ok (.iload_n 3, 1) := by decide +kernel
theorem dX1_findGroups_154 : decode cX1_findGroups 154 = .ok (.iastore, 1) := by decide +kernel
theorem dX1_findGroups_155 : decode cX1_findGroups 155 = .ok (.aload_n 0, 1) := by decide +kernel
theorem dX1_findGroups_156 : decode cX1_findGroups 156 = .ok (.dup, 1) := by decide +kernel
theorem dX1_findGroups_157 : decode cX1_findGroups 157 = .ok (.getfield 53, 3) := by decide +kernel
theorem dX1_findGroups_160 : decode cX1_findGroups 160 = .ok (.iconst 1, 1) := by decide +kernel
theorem dX1_findGroups_161 : decode cX1_findGroups 161 = .ok (.iadd, 1) := by decide +kernel
theorem dX1_findGroups_162 : decode cX1_findGroups 162 = .ok (.putfield 53, 3) := by decide +kernel
theorem dX1_findGroups_165 : decode cX1_findGroups 165 = .ok (.iinc 2 1, 3) := by decide +kernel
theorem dX1_findGroups_168 : decode cX1_findGroups 168 = .ok (.goto (-153), 3) := by decide +kernel
theorem dX1_findGroups_171 : decode cX1_findGroups 171 = .ok (.iconst 1, 1) := by decide +kernel
theorem dX1_findGroups_172 : decode cX1_findGroups 172 = .ok (.ireturn, 1) := by decide +kernel
theorem dX1_waysBehind_0 : decode cX1_waysBehind 0 = .ok (.iconst 0, 1) := by decide +kernel
theorem dX1_waysBehind_1 : decode cX1_waysBehind 1 = .ok (.istore_n 3, 1) := by decide +kernel
theorem dX1_waysBehind_2 : decode cX1_waysBehind 2 = .ok (.iconst 0, 1) := by decide +kernel
theorem dX1_waysBehind_3 : decode cX1_waysBehind 3 = .ok (.istore 4, 2) := by decide +kernel
theorem dX1_waysBehind_5 : decode cX1_waysBehind 5 = .ok (.iload 4, 2) := by decide +kernel
theorem dX1_waysBehind_7 : decode cX1_waysBehind 7 = .ok (.bipush 8, 2) := by decide +kernel
theorem dX1_waysBehind_9 : decode cX1_waysBehind 9 = .ok (.if_icmp .ge 34, 3) := by decide +kernel
theorem dX1_waysBehind_12 : decode cX1_waysBehind 12 = .ok (.aload_n 0, 1) := by decide +kernel
theorem dX1_waysBehind_13 : decode cX1_waysBehind 13 = .ok (.iload_n 1, 1) := by decide +kernel
theorem dX1_waysBehind_14 : decode cX1_waysBehind 14 = .ok (.iload 4, 2) := by decide +kernel
theorem dX1_waysBehind_16 : decode cX1_waysBehind 16 = .ok (.iload_n 2, 1) := by decide +kernel
theorem dX1_waysBehind_17 : decode cX1_waysBehind 17 = .ok (.invokevirtual 78, 3) := by decide +kernel
theorem dX1_waysBehind_20 : decode cX1_waysBehind 20 = .ok (.ifCond .eq 17, 3) := by decide +kernel
theorem dX1_waysBehind_23 : decode cX1_waysBehind 23 = .ok (.iload_n 3, 1) := by decide +kernel
theorem dX1_waysBehind_24 : decode cX1_waysBehind 24 = .ok (.aload_n 0, 1) := by decide +kernel
theorem dX1_waysBehind_25 : decode cX1_waysBehind 25 = .ok (.getfield 15, 3) := by decide +kernel
theorem dX1_waysBehind_28 : decode cX1_waysBehind 28 = .ok (.iload_n 1, 1) := by decide +kernel
theorem dX1_waysBehind_29 : decode cX1_waysBehind 29 = .ok (.iconst 1, 1) := by decide +kernel
theorem dX1_waysBehind_30 : decode cX1_waysBehind 30 = .ok (.iload 4, 2) := by decide +kernel
theorem dX1_waysBehind_32 : decode cX1_waysBehind 32 = .ok (.ishl, 1) := by decide +kernel
theorem dX1_waysBehind_33 : decode cX1_waysBehind 33 = .ok (.ior, 1) := by decide +kernel
theorem dX1_waysBehind_34 : decode cX1_waysBehind 34 = .ok (.iaload, 1) := by decide +kernel
theorem dX1_waysBehind_35 : decode cX1_waysBehind 35 = .ok (.iadd, 1) := by decide +kernel
theorem dX1_waysBehind_36 : decode cX1_waysBehind 36 = .ok (.istore_n 3, 1) := by decide +kernel
theorem dX1_waysBehind_37 : decode cX1_waysBehind 37 = .ok (.iinc 4 1, 3) := by decide +kernel
theorem dX1_waysBehind_40 : decode cX1_waysBehind 40 = .ok (.goto (-35), 3) := by decide +kernel
theorem dX1_waysBehind_43 : decode cX1_waysBehind 43 = .ok (.iload_n 3, 1) := by decide +kernel
theorem dX1_waysBehind_44 : decode cX1_waysBehind 44 = .ok (.ireturn, 1) := by decide +kernel
theorem dX1_canFollow_0 : decode cX1_canFollow 0 = .ok (.iload_n 1, 1) := by decide +kernel
theorem dX1_canFollow_1 : decode cX1_canFollow 1 = .ok (.iload_n 2, 1) := by decide +kernel
theorem dX1_canFollow_2 : decode cX1_canFollow 2 = .ok (.invokestatic 71, 3) := by decide +kernel
theorem dX1_canFollow_5 : decode cX1_canFollow 5 = .ok (.ifCond .ne 11, 3) := by decide +kernel
theorem dX1_canFollow_8 : decode cX1_canFollow 8 = .ok (.iload_n 3, 1) := by decide +kernel
theorem dX1_canFollow_9 : decode cX1_canFollow 9 = .ok (.iload_n 2, 1) := by decide +kernel
theorem dX1_canFollow_10 : decode cX1_canFollow 10 = .ok (.invokestatic 71, 3) := by decide +kernel
theorem dX1_canFollow_13 : decode cX1_canFollow 13 = .ok (.ifCond .ne 5, 3) := by decide +kernel
theorem dX1_canFollow_16 : decode cX1_canFollow 16 = .ok (.iconst 0, 1) := by decide +kernel
theorem dX1_canFollow_17 : decode cX1_canFollow 17 = .ok (.ireturn, 1) := by decide +kernel
theorem dX1_canFollow_18 : decode cX1_canFollow 18 = .ok (.iconst 0, 1) := by decide +kernel
theorem dX1_canFollow_19 : decode cX1_canFollow 19 = .ok (.istore 4, 2) := by decide +kernel
theorem dX1_canFollow_21 : decode cX1_canFollow 21 = .ok (.iload 4, 2) := by decide +kernel
theorem dX1_canFollow_23 : decode cX1_canFollow 23 = .ok (.aload_n 0, 1) := by decide +kernel
theorem dX1_canFollow_24 : decode cX1_canFollow 24 = .ok (.getfield 53, 3) := by decide +kernel
theorem dX1_canFollow_27 : decode cX1_canFollow 27 = .ok (.if_icmp .ge 65, 3) := by decide +kernel
theorem dX1_canFollow_30 : decode cX1_canFollow 30 = .ok (.iload_n 1, 1) := by decide +kernel
theorem dX1_canFollow_31 : decode cX1_canFollow 31 = .ok (.aload_n 0, 1) := by decide +kernel
theorem dX1_canFollow_32 : decode cX1_canFollow 32 = .ok (.getfield 9, 3) := by decide +kernel
theorem dX1_canFollow_35 : decode cX1_canFollow 35 = .ok (.iload 4, 2) := by decide +kernel
theorem dX1_canFollow_37 : decode cX1_canFollow 37 = .ok (.iaload, 1) := by decide +kernel
theorem dX1_canFollow_38 : decode cX1_canFollow 38 = .ok (.iand, 1) := by decide +kernel
theorem dX1_canFollow_39 : decode cX1_canFollow 39 = .ok (.istore 5, 2) := by decide +kernel
theorem dX1_canFollow_41 : decode cX1_canFollow 41 = .ok (.iload 5, 2) := by decide +kernel
theorem dX1_canFollow_43 : decode cX1_canFollow 43 = .ok (.ifCond .eq 19, 3) := by decide +kernel
theorem dX1_canFollow_46 : decode cX1_canFollow 46 = .ok (.iload 5, 2) := by decide +kernel
theorem dX1_canFollow_48 : decode cX1_canFollow 48 = .ok (.aload_n 0, 1) := by decide +kernel
theorem dX1_canFollow_49 : decode cX1_canFollow 49 = .ok (.getfield 9, 3) := by decide +kernel
theorem dX1_canFollow_52 : decode cX1_canFollow 52 = .ok (.iload 4, 2) := by decide +kernel
theorem dX1_canFollow_54 : decode cX1_canFollow 54 = .ok (.iaload, 1) := by decide +kernel
theorem dX1_canFollow_55 : decode cX1_canFollow 55 = .ok (.if_icmp .eq 7, 3) := by decide +kernel
theorem dX1_canFollow_58 : decode cX1_canFollow 58 = .ok (.iconst 1, 1) := by decide +kernel
theorem dX1_canFollow_59 : decode cX1_canFollow 59 = .ok (.goto 4, 3) := by decide +kernel
theorem dX1_canFollow_62 : decode cX1_canFollow 62 = .ok (.iconst 0, 1) := by decide +kernel
theorem dX1_canFollow_63 : decode cX1_canFollow 63 = .ok (.istore 6, 2) := by decide +kernel
theorem dX1_canFollow_65 : decode cX1_canFollow 65 = .ok (.iload 6, 2) := by decide +kernel
theorem dX1_canFollow_67 : decode cX1_canFollow 67 = .ok (.ifCond .eq 19, 3) := by decide +kernel
theorem dX1_canFollow_70 : decode cX1_canFollow 70 = .ok (.aload_n 0, 1) := by decide +kernel
theorem dX1_canFollow_71 : decode cX1_canFollow 71 = .ok (.getfield 9, 3) := by decide +kernel
theorem dX1_canFollow_74 : decode cX1_canFollow 74 = .ok (.iload 4, 2) := by decide +kernel
theorem dX1_canFollow_76 : decode cX1_canFollow 76 = .ok (.iaload, 1) := by decide +kernel
theorem dX1_canFollow_77 : decode cX1_canFollow 77 = .ok (.iload_n 2, 1) := by decide +kernel
theorem dX1_canFollow_78 : decode cX1_canFollow 78 = .ok (.invokestatic 71, 3) := by decide +kernel
theorem dX1_canFollow_81 : decode cX1_canFollow 81 = .ok (.ifCond .ne 5, 3) := by decide +kernel
theorem dX1_canFollow_84 : decode cX1_canFollow 84 = .ok (.iconst 0, 1) := by decide +kernel
theorem dX1_canFollow_85 : decode cX1_canFollow 85 = .ok (.ireturn, 1) := by decide +kernel
theorem dX1_canFollow_86 : decode cX1_canFollow 86 = .ok (.iinc 4 1, 3) := by decide +kernel
theorem dX1_canFollow_89 : decode cX1_canFollow 89 = .ok (.goto (-68), 3) := by decide +kernel
theorem dX1_canFollow_92 : decode cX1_canFollow 92 = .ok (.iconst 1, 1) := by decide +kernel
theorem dX1_canFollow_93 : decode cX1_canFollow 93 = .ok (.ireturn, 1) := by decide +kernel
theorem dX1_findFirst_0 : decode cX1_findFirst 0 = .ok (.iconst 0, 1) := by decide +kernel
theorem dX1_findFirst_1 : decode cX1_findFirst 1 = .ok (.istore_n 2, 1) := by decide +kernel
theorem dX1_findFirst_2 : decode cX1_findFirst 2 = .ok (.iconst 0, 1) := by decide +kernel
theorem dX1_findFirst_3 : decode cX1_findFirst 3 = .ok (.istore_n 3, 1) := by decide +kernel
theorem dX1_findFirst_4 : decode cX1_findFirst 4 = .ok (.iload_n 3, 1) := by decide +kernel
theorem dX1_findFirst_5 : decode cX1_findFirst 5 = .ok (.bipush 8, 2) := by decide +kernel
theorem dX1_findFirst_7 : decode cX1_findFirst 7 = .ok (.if_icmp .ge 80, 3) := by decide +kernel
theorem dX1_findFirst_10 : decode cX1_findFirst 10 = .ok (.iload_n 2, 1) := by decide +kernel
theorem dX1_findFirst_11 : decode cX1_findFirst 11 = .ok (.iload_n 1, 1) := by decide +kernel
theorem dX1_findFirst_12 : decode cX1_findFirst 12 = .ok (.if_icmp .eq 75, 3) := by decide +kernel
theorem dX1_findFirst_15 : decode cX1_findFirst 15 = .ok (.iconst 0, 1) := by decide +kernel
theorem dX1_findFirst_16 : decode cX1_findFirst 16 = .ok (.istore 4, 2) := by decide +kernel
theorem dX1_findFirst_18 : decode cX1_findFirst 18 = .ok (.iload 4, 2) := by decide +kernel
theorem dX1_findFirst_20 : decode cX1_findFirst 20 = .ok (.bipush 8, 2) := by decide +kernel
theorem dX1_findFirst_22 : decode cX1_findFirst 22 = .ok (.if_icmp .ge 59, 3) := by decide +kernel
theorem dX1_findFirst_25 : decode cX1_findFirst 25 = .ok (.aload_n 0, 1) := by decide +kernel
theorem dX1_findFirst_26 : decode cX1_findFirst 26 = .ok (.iload_n 2, 1) := by decide +kernel
theorem dX1_findFirst_27 : decode cX1_findFirst 27 = .ok (.iload 4, 2) := by decide +kernel
theorem dX1_findFirst_29 : decode cX1_findFirst 29 = .ok (.iload_n 1, 1) := by decide +kernel
theorem dX1_findFirst_30 : decode cX1_findFirst 30 = .ok (.invokevirtual 78, 3) := by decide +kernel
theorem dX1_findFirst_33 : decode cX1_findFirst 33 = .ok (.ifCond .eq 42, 3) := by decide +kernel
theorem dX1_findFirst_36 : decode cX1_findFirst 36 = .ok (.aload_n 0, 1) := by decide +kernel
theorem dX1_findFirst_37 : decode cX1_findFirst 37 = .ok (.getfield 15, 3) := by decide +kernel
theorem dX1_findFirst_40 : decode cX1_findFirst 40 = .ok (.iload_n 2, 1) := by decide +kernel
theorem dX1_findFirst_41 : decode cX1_findFirst 41 = .ok (.iconst 1, 1) := by decide +kernel
theorem dX1_findFirst_42 : decode cX1_findFirst 42 = .ok (.iload 4, 2) := by decide +kernel
theorem dX1_findFirst_44 : decode cX1_findFirst 44 = .ok (.ishl, 1) := by decide +kernel
theorem dX1_findFirst_45 : decode cX1_findFirst 45 = .ok (.ior, 1) := by decide +kernel
theorem dX1_findFirst_46 : decode cX1_findFirst 46 = .ok (.iaload, 1) := by decide +kernel
theorem dX1_findFirst_47 : decode cX1_findFirst 47 = .ok (.ifCond .le 28, 3) := by decide +kernel
theorem dX1_findFirst_50 : decode cX1_findFirst 50 = .ok (.aload_n 0, 1) := by decide +kernel
theorem dX1_findFirst_51 : decode cX1_findFirst 51 = .ok (.getfield 18, 3) := by decide +kernel
theorem dX1_findFirst_54 : decode cX1_findFirst 54 = .ok (.iload_n 3, 1) := by decide +kernel
theorem dX1_findFirst_55 : decode cX1_findFirst 55 = .ok (.iload 4, 2) := by decide +kernel
theorem dX1_findFirst_57 : decode cX1_findFirst 57 = .ok (.iastore, 1) := by decide +kernel
theorem dX1_findFirst_58 : decode cX1_findFirst 58 = .ok (.aload_n 0, 1) := by decide +kernel
theorem dX1_findFirst_59 : decode cX1_findFirst 59 = .ok (.iload_n 3, 1) := by decide +kernel
theorem dX1_findFirst_60 : decode cX1_findFirst 60 = .ok (.iconst 1, 1) := by decide +kernel
theorem dX1_findFirst_61 : decode cX1_findFirst 61 = .ok (.iadd, 1) := by decide +kernel
theorem dX1_findFirst_62 : decode cX1_findFirst 62 = .ok (.putfield 31, 3) := by decide +kernel
theorem dX1_findFirst_65 : decode cX1_findFirst 65 = .ok (.iload_n 2, 1) := by decide +kernel
theorem dX1_findFirst_66 : decode cX1_findFirst 66 = .ok (.iconst 1, 1) := by decide +kernel
theorem dX1_findFirst_67 : decode cX1_findFirst 67 = .ok (.iload 4, 2) := by decide +kernel
theorem dX1_findFirst_69 : decode cX1_findFirst 69 = .ok (.ishl, 1) := by decide +kernel
theorem dX1_findFirst_70 : decode cX1_findFirst 70 = .ok (.ior, 1) := by decide +kernel
theorem dX1_findFirst_71 : decode cX1_findFirst 71 = .ok (.istore_n 2, 1) := by decide +kernel
theorem dX1_findFirst_72 : decode cX1_findFirst 72 = .ok (.goto 9, 3) := by decide +kernel
theorem dX1_findFirst_75 : decode cX1_findFirst 75 = .ok (.iinc 4 1, 3) := by decide +kernel
theorem dX1_findFirst_78 : decode cX1_findFirst 78 = .ok (.goto (-60), 3) := by decide +kernel
theorem dX1_findFirst_81 : decode cX1_findFirst 81 = .ok (.iinc 3 1, 3) := by decide +kernel
theorem dX1_findFirst_84 : decode cX1_findFirst 84 = .ok (.goto (-80), 3) := by decide +kernel
theorem dX1_findFirst_87 : decode cX1_findFirst 87 = .ok (.return_, 1) := by decide +kernel
theorem dX2_init_0 : decode cX2_init 0 = .ok (.aload_n 0, 1) := by decide +kernel
theorem dX2_init_1 : decode cX2_init 1 = .ok (.invokespecial 3, 3) := by decide +kernel
theorem dX2_init_4 : decode cX2_init 4 = .ok (.aload_n 0, 1) := by decide +kernel
theorem dX2_init_5 : decode cX2_init 5 = .ok (.bipush 8, 2) := by decide +kernel
theorem dX2_init_7 : decode cX2_init 7 = .ok (.newarray .int, 2) := by decide +kernel
theorem dX2_init_9 : decode cX2_init 9 = .ok (.putfield 9, 3) := by decide +kernel
theorem dX2_init_12 : decode cX2_init 12 = .ok (.aload_n 0, 1) := by decide +kernel
theorem dX2_init_13 : decode cX2_init 13 = .ok (.bipush 6, 2) := by decide +kernel
theorem dX2_init_15 : decode cX2_init 15 = .ok (.newarray .int, 2) := by decide +kernel
theorem dX2_init_17 : decode cX2_init 17 = .ok (.putfield 15, 3) := by decide +kernel
theorem dX2_init_20 : decode cX2_init 20 = .ok (.return_, 1) := by decide +kernel
theorem dX2_find_0 : decode cX2_find 0 = .ok (.aload_n 0, 1) := by decide +kernel
theorem dX2_find_1 : decode cX2_find 1 = .ok (.aload_n 1, 1) := by decide +kernel
theorem dX2_find_2 : decode cX2_find 2 = .ok (.iload_n 2, 1) := by decide +kernel
theorem dX2_find_3 : decode cX2_find 3 = .ok (.invokevirtual 18, 3) := by decide +kernel
theorem dX2_find_6 : decode cX2_find 6 = .ok (.iconst 0, 1) := by decide +kernel
theorem dX2_find_7 : decode cX2_find 7 = .ok (.istore_n 3, 1) := by decide +kernel
theorem dX2_find_8 : decode cX2_find 8 = .ok (.iload_n 3, 1) := by decide +kernel
theorem dX2_find_9 : decode cX2_find 9 = .ok (.bipush 6, 2) := by decide +kernel
theorem dX2_find_11 : decode cX2_find 11 = .ok (.if_icmp .ge 60, 3) := by decide +kernel
theorem dX2_find_14 : decode cX2_find 14 = .ok (.iload_n 3, 1) := by decide +kernel
theorem dX2_find_15 : decode cX2_find 15 = .ok (.aload_n 1, 1) := by decide +kernel
theorem dX2_find_16 : decode cX2_find 16 = .ok (.getfield 22, 3) := by decide +kernel
theorem dX2_find_19 : decode cX2_find 19 = .ok (.getfield 28, 3) := by decide +kernel
theorem dX2_find_22 : decode cX2_find 22 = .ok (.if_icmp .ge 16, 3) := by decide +kernel
theorem dX2_find_25 : decode cX2_find 25 = .ok (.aload_n 1, 1) := by decide +kernel
theorem dX2_find_26 : decode cX2_find 26 = .ok (.getfield 34, 3) := by decide +kernel
theorem dX2_find_29 : decode cX2_find 29 = .ok (.iload_n 3, 1) := by decide +kernel
theorem dX2_find_30 : decode cX2_find 30 = .ok (.iaload, 1) := by decide +kernel
theorem dX2_find_31 : decode cX2_find 31 = .ok (.ifCond .ne 7, 3) := by decide +kernel
theorem dX2_find_34 : decode cX2_find 34 = .ok (.iconst 1, 1) := by decide +kernel
theorem dX2_find_35 : decode cX2_find 35 = .ok (.goto 4, 3) := by decide +kernel
theorem dX2_find_38 : decode cX2_find 38 = .ok (.iconst 0, 1) := by decide +kernel
theorem dX2_find_39 : decode cX2_find 39 = .ok (.istore 4, 2) := by decide +kernel
theorem dX2_find_41 : decode cX2_find 41 = .ok (.aload_n 0, 1) := by decide +kernel
theorem dX2_find_42 : decode cX2_find 42 = .ok (.getfield 15, 3) := by decide +kernel
theorem dX2_find_45 : decode cX2_find 45 = .ok (.iload_n 3, 1) := by decide +kernel
theorem dX2_find_46 : decode cX2_find 46 = .ok (.iload 4, 2) := by decide +kernel
theorem dX2_find_48 : decode cX2_find 48 = .ok (.ifCond .eq 15, 3) := by decide +kernel
theorem dX2_find_51 : decode cX2_find 51 = .ok (.aload_n 0, 1) := by decide +kernel
theorem dX2_find_52 : decode cX2_find 52 = .ok (.aload_n 1, 1) := by decide +kernel
theorem dX2_find_53 : decode cX2_find 53 = .ok (.iload_n 3, 1) := by decide +kernel
theorem dX2_find_54 : decode cX2_find 54 = .ok (.invokevirtual 37, 3) := by decide +kernel
theorem dX2_find_57 : decode cX2_find 57 = .ok (.invokevirtual 41, 3) := by decide +kernel
theorem dX2_find_60 : decode cX2_find 60 = .ok (.goto 4, 3) := by decide +kernel
theorem dX2_find_63 : decode cX2_find 63 = .ok (.iconst 0, 1) := by decide +kernel
theorem dX2_find_64 : decode cX2_find 64 = .ok (.iastore, 1) := by decide +kernel
theorem dX2_find_65 : decode cX2_find 65 = .ok (.iinc 3 1, 3) := by decide +kernel
theorem dX2_find_68 : decode cX2_find 68 = .ok (.goto (-60), 3) := by decide +kernel
theorem dX2_find_71 : decode cX2_find 71 = .ok (.return_, 1) := by decide +kernel
theorem dX2_join_0 : decode cX2_join 0 = .ok (.iconst 0, 1) := by decide +kernel
theorem dX2_join_1 : decode cX2_join 1 = .ok (.istore_n 3, 1) := by decide +kernel
theorem dX2_join_2 : decode cX2_join 2 = .ok (.iload_n 3, 1) := by decide +kernel
theorem dX2_join_3 : decode cX2_join 3 = .ok (.bipush 8, 2) := by decide +kernel
theorem dX2_join_5 : decode cX2_join 5 = .ok (.if_icmp .ge 42, 3) := by decide +kernel
theorem dX2_join_8 : decode cX2_join 8 = .ok (.aload_n 0, 1) := by decide +kernel
theorem dX2_join_9 : decode cX2_join 9 = .ok (.getfield 9, 3) := by decide +kernel
theorem dX2_join_12 : decode cX2_join 12 = .ok (.iload_n 3, 1) := by decide +kernel
theorem dX2_join_13 : decode cX2_join 13 = .ok (.iload_n 3, 1) := by decide +kernel
theorem dX2_join_14 : decode cX2_join 14 = .ok (.aload_n 1, 1) := by decide +kernel
theorem dX2_join_15 : decode cX2_join 15 = .ok (.getfield 22, 3) := by decide +kernel
theorem dX2_join_18 : decode cX2_join 18 = .ok (.getfield 44, 3) := by decide +kernel
theorem dX2_join_21 : decode cX2_join 21 = .ok (.if_icmp .ge 18, 3) := by decide +kernel
theorem dX2_join_24 : decode cX2_join 24 = .ok (.aload_n 1, 1) := by decide +kernel
theorem dX2_join_25 : decode cX2_join 25 = .ok (.getfield 47, 3) := by decide +kernel
theorem dX2_join_28 : decode cX2_join 28 = .ok (.iload_n 3, 1) := by decide +kernel
theorem dX2_join_29 : decode cX2_join 29 = .ok (.iaload, 1) := by decide +kernel
theorem dX2_join_30 : decode cX2_join 30 = .ok (.ifCond .ne 9, 3) := by decide +kernel
theorem dX2_join_33 : decode cX2_join 33 = .ok (.iconst 1, 1) := by decide +kernel
theorem dX2_join_34 : decode cX2_join 34 = .ok (.iload_n 3, 1) := by decide +kernel
theorem dX2_join_35 : decode cX2_join 35 = .ok (.ishl, 1) := by decide +kernel
theorem dX2_join_36 : decode cX2_join 36 = .ok (.goto 4, 3) := by decide +kernel
theorem dX2_join_39 : decode cX2_join 39 = .ok (.iconst 0, 1) := by decide +kernel
theorem dX2_join_40 : decode cX2_join 40 = .ok (.iastore, 1) := by decide +kernel
theorem dX2_join_41 : decode cX2_join 41 = .ok (.iinc 3 1, 3) := by decide +kernel
theorem dX2_join_44 : decode cX2_join 44 = .ok (.goto (-42), 3) := by decide +kernel
theorem dX2_join_47 : decode cX2_join 47 = .ok (.iconst 0, 1) := by decide +kernel
theorem dX2_join_48 : decode cX2_join 48 = .ok (.istore_n 3, 1) := by decide +kernel
theorem dX2_join_49 : decode cX2_join 49 = .ok (.iload_n 3, 1) := by decide +kernel
theorem dX2_join_50 : decode cX2_join 50 = .ok (.aload_n 1, 1) := by decide +kernel
theorem dX2_join_51 : decode cX2_join 51 = .ok (.getfield 50, 3) := by decide +kernel
theorem dX2_join_54 : decode cX2_join 54 = .ok (.if_icmp .ge 33, 3) := by decide +kernel
theorem dX2_join_57 : decode cX2_join 57 = .ok (.iload_n 2, 1) := by decide +kernel
theorem dX2_join_58 : decode cX2_join 58 = .ok (.iload_n 3, 1) := by decide +kernel
theorem dX2_join_59 : decode cX2_join 59 = .ok (.invokestatic 53, 3) := by decide +kernel
theorem dX2_join_62 : decode cX2_join 62 = .ok (.ifCond .ne 19, 3) := by decide +kernel
theorem dX2_join_65 : decode cX2_join 65 = .ok (.aload_n 0, 1) := by decide +kernel
theorem dX2_join_66 : decode cX2_join 66 = .ok (.aload_n 1, 1) := by decide +kernel
theorem dX2_join_67 : decode cX2_join 67 = .ok (.getfield 57, 3) := by decide +kernel
theorem dX2_join_70 : decode cX2_join 70 = .ok (.iload_n 3, 1) := by decide +kernel
theorem dX2_join_71 : decode cX2_join 71 = .ok (.iaload, 1) := by decide +kernel
theorem dX2_join_72 : decode cX2_join 72 = .ok (.aload_n 1, 1) := by decide +kernel
theorem dX2_join_73 : decode cX2_join 73 = .ok (.getfield 60, 3) := by decide +kernel
theorem dX2_join_76 : decode cX2_join 76 = .ok (.iload_n 3, 1) := by decide +kernel
theorem dX2_join_77 : decode cX2_join 77 = .ok (.iaload, 1) := by decide +kernel
theorem dX2_join_78 : decode cX2_join 78 = .ok (.invokevirtual 63, 3) := by decide +kernel
theorem dX2_join_81 : decode cX2_join 81 = .ok (.iinc 3 1, 3) := by decide +kernel
theorem dX2_join_84 : decode cX2_join 84 = .ok (.goto (-35), 3) := by decide +kernel
theorem dX2_join_87 : decode cX2_join 87 = .ok (.return_, 1) := by decide +kernel
theorem dX2_unite_0 : decode cX2_unite 0 = .ok (.aload_n 0, 1) := by decide +kernel
theorem dX2_unite_1 : decode cX2_unite 1 = .ok (.getfield 9, 3) := by decide +kernel
theorem dX2_unite_4 : decode cX2_unite 4 = .ok (.iload_n 1, 1) := by decide +kernel
theorem dX2_unite_5 : decode cX2_unite 5 = .ok (.iaload, 1) := by decide +kernel
theorem dX2_unite_6 : decode cX2_unite 6 = .ok (.aload_n 0, 1) := by decide +kernel
theorem dX2_unite_7 : decode cX2_unite 7 = .ok (.getfield 9, 3) := by decide +kernel
theorem dX2_unite_10 : decode cX2_unite 10 = .ok (.iload_n 2, 1) := by decide +kernel
theorem dX2_unite_11 : decode cX2_unite 11 = .ok (.iaload, 1) := by decide +kernel
theorem dX2_unite_12 : decode cX2_unite 12 = .ok (.if_icmp .ne 4, 3) := by decide +kernel
theorem dX2_unite_15 : decode cX2_unite 15 = .ok (.return_, 1) := by decide +kernel
theorem dX2_unite_16 : decode cX2_unite 16 = .ok (.aload_n 0, 1) := by decide +kernel
theorem dX2_unite_17 : decode cX2_unite 17 = .ok (.getfield 9, 3) := by decide +kernel
theorem dX2_unite_20 : decode cX2_unite 20 = .ok (.iload_n 1, 1) := by decide +kernel
theorem dX2_unite_21 : decode cX2_unite 21 = .ok (.iaload, 1) := by decide +kernel
theorem dX2_unite_22 : decode cX2_unite 22 = .ok (.aload_n 0, 1) := by decide +kernel
theorem dX2_unite_23 : decode cX2_unite 23 = .ok (.getfield 9, 3) := by decide +kernel
theorem dX2_unite_26 : decode cX2_unite 26 = .ok (.iload_n 2, 1) := by decide +kernel
theorem dX2_unite_27 : decode cX2_unite 27 = .ok (.iaload, 1) := by decide +kernel
theorem dX2_unite_28 : decode cX2_unite 28 = .ok (.ior, 1) := by decide +kernel
theorem dX2_unite_29 : decode cX2_unite 29 = .ok (.istore_n 3, 1) := by decide +kernel
theorem dX2_unite_30 : decode cX2_unite 30 = .ok (.iconst 0, 1) := by decide +kernel
theorem dX2_unite_31 : decode cX2_unite 31 = .ok (.istore 4, 2) := by decide +kernel
theorem dX2_unite_33 : decode cX2_unite 33 = .ok (.iload 4, 2) := by decide +kernel
theorem dX2_unite_35 : decode cX2_unite 35 = .ok (.bipush 8, 2) := by decide +kernel
theorem dX2_unite_37 : decode cX2_unite 37 = .ok (.if_icmp .ge 26, 3) := by decide +kernel
theorem dX2_unite_40 : decode cX2_unite 40 = .ok (.iload_n 3, 1) := by decide +kernel
theorem dX2_unite_41 : decode cX2_unite 41 = .ok (.iload 4, 2) := by decide +kernel
theorem dX2_unite_43 : decode cX2_unite 43 = .ok (.invokestatic 53, 3) := by decide +kernel
theorem dX2_unite_46 : decode cX2_unite 46 = .ok (.ifCond .eq 11, 3) := by decide +kernel
theorem dX2_unite_49 : decode cX2_unite 49 = .ok (.aload_n 0, 1) := by decide +kernel
theorem dX2_unite_50 : decode cX2_unite 50 = .ok (.getfield 9, 3) := by decide +kernel
theorem dX2_unite_53 : decode cX2_unite 53 = .ok (.iload 4, 2) := by decide +kernel
theorem dX2_unite_55 : decode cX2_unite 55 = .ok (.iload_n 3, 1) := by decide +kernel
theorem dX2_unite_56 : decode cX2_unite 56 = .ok (.iastore, 1) := by decide +kernel
theorem dX2_unite_57 : decode cX2_unite 57 = .ok (.iinc 4 1, 3) := by decide +kernel
theorem dX2_unite_60 : decode cX2_unite 60 = .ok (.goto (-27), 3) := by decide +kernel
theorem dX2_unite_63 : decode cX2_unite 63 = .ok (.return_, 1) := by decide +kernel
theorem dX2_isLeast_0 : decode cX2_isLeast 0 = .ok (.iconst 1, 1) := by decide +kernel
theorem dX2_isLeast_1 : decode cX2_isLeast 1 = .ok (.iload_n 1, 1) := by decide +kernel
theorem dX2_isLeast_2 : decode cX2_isLeast 2 = .ok (.ishl, 1) := by decide +kernel
theorem dX2_isLeast_3 : decode cX2_isLeast 3 = .ok (.iconst 1, 1) := by decide +kernel
theorem dX2_isLeast_4 : decode cX2_isLeast 4 = .ok (.isub, 1) := by decide +kernel
theorem dX2_isLeast_5 : decode cX2_isLeast 5 = .ok (.istore_n 2, 1) := by decide +kernel
theorem dX2_isLeast_6 : decode cX2_isLeast 6 = .ok (.aload_n 0, 1) := by decide +kernel
theorem dX2_isLeast_7 : decode cX2_isLeast 7 = .ok (.getfield 9, 3) := by decide +kernel
theorem dX2_isLeast_10 : decode cX2_isLeast 10 = .ok (.iload_n 1, 1) := by decide +kernel
theorem dX2_isLeast_11 : decode cX2_isLeast 11 = .ok (.iaload, 1) := by decide +kernel
theorem dX2_isLeast_12 : decode cX2_isLeast 12 = .ok (.ifCond .eq 18, 3) := by decide +kernel
theorem dX2_isLeast_15 : decode cX2_isLeast 15 = .ok (.aload_n 0, 1) := by decide +kernel
theorem dX2_isLeast_16 : decode cX2_isLeast 16 = .ok (.getfield 9, 3) := by decide +kernel
theorem dX2_isLeast_19 : decode cX2_isLeast 19 = .ok (.iload_n 1, 1) := by decide +kernel
theorem dX2_isLeast_20 : decode cX2_isLeast 20 = .ok (.iaload, 1) := by decide +kernel
theorem dX2_isLeast_21 : decode cX2_isLeast 21 = .ok (.iload_n 2, 1) := by decide +kernel
theorem dX2_isLeast_22 : decode cX2_isLeast 22 = .ok (.iand, 1) := by decide +kernel
theorem dX2_isLeast_23 : decode cX2_isLeast 23 = .ok (.ifCond .ne 7, 3) := by decide +kernel
theorem dX2_isLeast_26 : decode cX2_isLeast 26 = .ok (.iconst 1, 1) := by decide +kernel
theorem dX2_isLeast_27 : decode cX2_isLeast 27 = .ok (.goto 4, 3) := by decide +kernel
theorem dX2_isLeast_30 : decode cX2_isLeast 30 = .ok (.iconst 0, 1) := by decide +kernel
theorem dX2_isLeast_31 : decode cX2_isLeast 31 = .ok (.ireturn, 1) := by decide +kernel
theorem dX2_howMany_0 : decode cX2_howMany 0 = .ok (.iconst 0, 1) := by decide +kernel
theorem dX2_howMany_1 : decode cX2_howMany 1 = .ok (.istore_n 1, 1) := by decide +kernel
theorem dX2_howMany_2 : decode cX2_howMany 2 = .ok (.iconst 0, 1) := by decide +kernel
theorem dX2_howMany_3 : decode cX2_howMany 3 = .ok (.istore_n 2, 1) := by decide +kernel
theorem dX2_howMany_4 : decode cX2_howMany 4 = .ok (.iload_n 2, 1) := by decide +kernel
theorem dX2_howMany_5 : decode cX2_howMany 5 = .ok (.bipush 8, 2) := by decide +kernel
theorem dX2_howMany_7 : decode cX2_howMany 7 = .ok (.if_icmp .ge 20, 3) := by decide +kernel
theorem dX2_howMany_10 : decode cX2_howMany 10 = .ok (.aload_n 0, 1) := by decide +kernel
theorem dX2_howMany_11 : decode cX2_howMany 11 = .ok (.iload_n 2, 1) := by decide +kernel
theorem dX2_howMany_12 : decode cX2_howMany 12 = .ok (.invokevirtual 67, 3) := by decide +kernel
theorem dX2_howMany_15 : decode cX2_howMany 15 = .ok (.ifCond .eq 6, 3) := by decide +kernel
theorem dX2_howMany_18 : decode cX2_howMany 18 = .ok (.iinc 1 1, 3) := by decide +kernel
theorem dX2_howMany_21 : decode cX2_howMany 21 = .ok (.iinc 2 1, 3) := by decide +kernel
theorem dX2_howMany_24 : decode cX2_howMany 24 = .ok (.goto (-20), 3) := by decide +kernel
theorem dX2_howMany_27 : decode cX2_howMany 27 = .ok (.iload_n 1, 1) := by decide +kernel
theorem dX2_howMany_28 : decode cX2_howMany 28 = .ok (.ireturn, 1) := by decide +kernel
theorem dX2_withMostOf_0 : decode cX2_withMostOf 0 = .ok (.iconst 0, 1) := by decide +kernel
theorem dX2_withMostOf_1 : decode cX2_withMostOf 1 = .ok (.istore_n 2, 1) := by decide +kernel
theorem dX2_withMostOf_2 : decode cX2_withMostOf 2 = .ok (.iconst 0, 1) := by decide +kernel
theorem dX2_withMostOf_3 : decode cX2_withMostOf 3 = .ok (.istore_n 3, 1) := by decide +kernel
theorem dX2_withMostOf_4 : decode cX2_withMostOf 4 = .ok (.iconst 0, 1) := by decide +kernel
theorem dX2_withMostOf_5 : decode cX2_withMostOf 5 = .ok (.istore 4, 2) := by decide +kernel
theorem dX2_withMostOf_7 : decode cX2_withMostOf 7 = .ok (.iload 4, 2) := by decide +kernel
theorem dX2_withMostOf_9 : decode cX2_withMostOf 9 = .ok (.bipush 8, 2) := by decide +kernel
theorem dX2_withMostOf_11 : decode cX2_withMostOf 11 = .ok (.if_icmp .ge 49, 3) := by decide +kernel
theorem dX2_withMostOf_14 : decode cX2_withMostOf 14 = .ok (.aload_n 0, 1) := by decide +kernel
theorem dX2_withMostOf_15 : decode cX2_withMostOf 15 = .ok (.getfield 9, 3) := by decide +kernel
theorem dX2_withMostOf_18 : decode cX2_withMostOf 18 = .ok (.iload 4, 2) := by decide +kernel
theorem dX2_withMostOf_20 : decode cX2_withMostOf 20 = .ok (.iaload, 1) := by decide +kernel
theorem dX2_withMostOf_21 : decode cX2_withMostOf 21 = .ok (.iload_n 1, 1) := by decide +kernel
theorem dX2_withMostOf_22 : decode cX2_withMostOf 22 = .ok (.iand, 1) := by decide +kernel
theorem dX2_withMostOf_23 : decode cX2_withMostOf 23 = .ok (.invokestatic 71, 3) := by decide +kernel
theorem dX2_withMostOf_26 : decode cX2_withMostOf 26 = .ok (.istore 5, 2) := by decide +kernel
theorem dX2_withMostOf_28 : decode cX2_withMostOf 28 = .ok (.aload_n 0, 1) := by decide +kernel
theorem dX2_withMostOf_29 : decode cX2_withMostOf 29 = .ok (.iload 4, 2) := by decide +kernel
theorem dX2_withMostOf_31 : decode cX2_withMostOf 31 = .ok (.invokevirtual 67, 3) := by decide +kernel
theorem dX2_withMostOf_34 : decode cX2_withMostOf 34 = .ok (.ifCond .eq 20, 3) := by decide +kernel
theorem dX2_withMostOf_37 : decode cX2_withMostOf 37 = .ok (.iload 5, 2) := by decide +kernel
theorem dX2_withMostOf_39 : decode cX2_withMostOf 39 = .ok (.iload_n 3, 1) := by decide +kernel
theorem dX2_withMostOf_40 : decode cX2_withMostOf 40 = .ok (.if_icmp .le 14, 3) := by decide +kernel
theorem dX2_withMostOf_43 : decode cX2_withMostOf 43 = .ok (.iload 5, 2) := by decide +kernel
theorem dX2_withMostOf_45 : decode cX2_withMostOf 45 = .ok (.istore_n 3, 1) := by decide +kernel
theorem dX2_withMostOf_46 : decode cX2_withMostOf 46 = .ok (.aload_n 0, 1) := by decide +kernel
theorem dX2_withMostOf_47 : decode cX2_withMostOf 47 = .ok (.getfield 9, 3) := by decide +kernel
theorem dX2_withMostOf_50 : decode cX2_withMostOf 50 = .ok (.iload 4, 2) := by decide +kernel
theorem dX2_withMostOf_52 : decode cX2_withMostOf 52 = .ok (.iaload, 1) := by decide +kernel
theorem dX2_withMostOf_53 : decode cX2_withMostOf 53 = .ok (.istore_n 2, 1) := by decide +kernel
theorem dX2_withMostOf_54 : decode cX2_withMostOf 54 = .ok (.iinc 4 1, 3) := by decide +kernel
theorem dX2_withMostOf_57 : decode cX2_withMostOf 57 = .ok (.goto (-50), 3) := by decide +kernel
theorem dX2_withMostOf_60 : decode cX2_withMostOf 60 = .ok (.iload_n 2, 1) := by decide +kernel
theorem dX2_withMostOf_61 : decode cX2_withMostOf 61 = .ok (.ireturn, 1) := by decide +kernel
theorem dX2_ridersWeight_0 : decode cX2_ridersWeight 0 = .ok (.iconst 0, 1) := by decide +kernel
theorem dX2_ridersWeight_1 : decode cX2_ridersWeight 1 = .ok (.istore_n 3, 1) := by decide +kernel
theorem dX2_ridersWeight_2 : decode cX2_ridersWeight 2 = .ok (.iconst 0, 1) := by decide +kernel
theorem dX2_ridersWeight_3 : decode cX2_ridersWeight 3 = .ok (.istore 4, 2) := by decide +kernel
theorem dX2_ridersWeight_5 : decode cX2_ridersWeight 5 = .ok (.iload 4, 2) := by decide +kernel
theorem dX2_ridersWeight_7 : decode cX2_ridersWeight 7 = .ok (.aload_n 1, 1) := by decide +kernel
theorem dX2_ridersWeight_8 : decode cX2_ridersWeight 8 = .ok (.getfield 22, 3) := by decide +kernel
theorem dX2_ridersWeight_11 : decode cX2_ridersWeight 11 = .ok (.getfield 28, 3) := by decide +kernel
theorem dX2_ridersWeight_14 : decode cX2_ridersWeight 14 = .ok (.if_icmp .ge 43, 3) := by decide +kernel
theorem dX2_ridersWeight_17 : decode cX2_ridersWeight 17 = .ok (.aload_n 0, 1) := by decide +kernel
theorem dX2_ridersWeight_18 : decode cX2_ridersWeight 18 = .ok (.getfield 15, 3) := by decide +kernel
theorem dX2_ridersWeight_21 : decode cX2_ridersWeight 21 = .ok (.iload 4, 2) := by decide +kernel
theorem dX2_ridersWeight_23 : decode cX2_ridersWeight 23 = .ok (.iaload, 1) := by decide +kernel
theorem dX2_ridersWeight_24 : decode cX2_ridersWeight 24 = .ok (.ifCond .eq 27, 3) := by decide +kernel
theorem dX2_ridersWeight_27 : decode cX2_ridersWeight 27 = .ok (.aload_n 0, 1) := by decide +kernel
theorem dX2_ridersWeight_28 : decode cX2_ridersWeight 28 = .ok (.getfield 15, 3) := by decide +kernel
theorem dX2_ridersWeight_31 : decode cX2_ridersWeight 31 = .ok (.iload 4, 2) := by decide +kernel
theorem dX2_ridersWeight_33 : decode cX2_ridersWeight 33 = .ok (.iaload, 1) := by decide +kernel
theorem dX2_ridersWeight_34 : decode cX2_ridersWeight 34 = .ok (.iload_n 2, 1) := by decide +kernel
theorem dX2_ridersWeight_35 : decode cX2_ridersWeight 35 = .ok (.if_icmp .ne 16, 3) := by decide +kernel
theorem dX2_ridersWeight_38 : decode cX2_ridersWeight 38 = .ok (.iload_n 3, 1) := by decide +kernel
theorem dX2_ridersWeight_39 : decode cX2_ridersWeight 39 = .ok (.aload_n 1, 1) := by decide +kernel
theorem dX2_ridersWeight_40 : decode cX2_ridersWeight 40 = .ok (.getfield 22, 3) := by decide +kernel
theorem dX2_ridersWeight_43 : decode cX2_ridersWeight 43 = .ok (.getfield 76, 3) := by decide +kernel
theorem dX2_ridersWeight_46 : decode cX2_ridersWeight 46 = .ok (.iload 4, 2) := by decide +kernel
theorem dX2_ridersWeight_48 : decode cX2_ridersWeight 48 = .ok (.iaload, 1) := by decide +kernel
theorem dX2_ridersWeight_49 : decode cX2_ridersWeight 49 = .ok (.iadd, 1) := by decide +kernel
theorem dX2_ridersWeight_50 : decode cX2_ridersWeight 50 = .ok (.istore_n 3, 1) := by decide +kernel
theorem dX2_ridersWeight_51 : decode cX2_ridersWeight 51 = .ok (.iinc 4 1, 3) := by decide +kernel
theorem dX2_ridersWeight_54 : decode cX2_ridersWeight 54 = .ok (.goto (-49), 3) := by decide +kernel
theorem dX2_ridersWeight_57 : decode cX2_ridersWeight 57 = .ok (.iload_n 3, 1) := by decide +kernel
theorem dX2_ridersWeight_58 : decode cX2_ridersWeight 58 = .ok (.ireturn, 1) := by decide +kernel
theorem dX2_marginOf_0 : decode cX2_marginOf 0 = .ok (.aload_n 1, 1) := by decide +kernel
theorem dX2_marginOf_1 : decode cX2_marginOf 1 = .ok (.iload_n 2, 1) := by decide +kernel
theorem dX2_marginOf_2 : decode cX2_marginOf 2 = .ok (.iconst 0, 1) := by decide +kernel
theorem dX2_marginOf_3 : decode cX2_marginOf 3 = .ok (.invokevirtual 79, 3) := by decide +kernel
theorem dX2_marginOf_6 : decode cX2_marginOf 6 = .ok (.aload_n 0, 1) := by decide +kernel
theorem dX2_marginOf_7 : decode cX2_marginOf 7 = .ok (.aload_n 1, 1) := by decide +kernel
theorem dX2_marginOf_8 : decode cX2_marginOf 8 = .ok (.iload_n 2, 1) := by decide +kernel
theorem dX2_marginOf_9 : decode cX2_marginOf 9 = .ok (.invokevirtual 83, 3) := by decide +kernel
theorem dX2_marginOf_12 : decode cX2_marginOf 12 = .ok (.isub, 1) := by decide +kernel
theorem dX2_marginOf_13 : decode cX2_marginOf 13 = .ok (.ireturn, 1) := by decide +kernel
theorem dX2_notFloating_0 : decode cX2_notFloating 0 = .ok (.iconst 0, 1) := by decide +kernel
theorem dX2_notFloating_1 : decode cX2_notFloating 1 = .ok (.istore_n 2, 1) := by decide +kernel
theorem dX2_notFloating_2 : decode cX2_notFloating 2 = .ok (.iconst 0, 1) := by decide +kernel
theorem dX2_notFloating_3 : decode cX2_notFloating 3 = .ok (.istore_n 3, 1) := by decide +kernel
theorem dX2_notFloating_4 : decode cX2_notFloating 4 = .ok (.iload_n 3, 1) := by decide +kernel
theorem dX2_notFloating_5 : decode cX2_notFloating 5 = .ok (.bipush 8, 2) := by decide +kernel
theorem dX2_notFloating_7 : decode cX2_notFloating 7 = .ok (.if_icmp .ge 40, 3) := by decide +kernel
theorem dX2_notFloating_10 : decode cX2_notFloating 10 = .ok (.aload_n 0, 1) := by decide +kernel
theorem dX2_notFloating_11 : decode cX2_notFloating 11 = .ok (.iload_n 3, 1) := by decide +kernel
theorem dX2_notFloating_12 : decode cX2_notFloating 12 = .ok (.invokevirtual 67, 3) := by decide +kernel
theorem dX2_notFloating_15 : decode cX2_notFloating 15 = .ok (.ifCond .eq 26, 3) := by decide +kernel
theorem dX2_notFloating_18 : decode cX2_notFloating 18 = .ok (.aload_n 0, 1) := by decide +kernel
theorem dX2_notFloating_19 : decode cX2_notFloating 19 = .ok (.aload_n 1, 1) := by decide +kernel
theorem dX2_notFloating_20 : decode cX2_notFloating 20 = .ok (.aload_n 0, 1) := by decide +kernel
theorem dX2_notFloating_21 : decode cX2_notFloating 21 = .ok (.getfield 9, 3) := by decide +kernel
theorem dX2_notFloating_24 : decode cX2_notFloating 24 = .ok (.iload_n 3, 1) := by decide +kernel
theorem dX2_notFloating_25 : decode cX2_notFloating 25 = .ok (.iaload, 1) := by decide +kernel
theorem dX2_notFloating_26 : decode cX2_notFloating 26 = .ok (.invokevirtual 87, 3) := by decide +kernel
theorem dX2_notFloating_29 : decode cX2_notFloating 29 = .ok (.ifCond .ge 12, 3) := by decide +kernel
theorem dX2_notFloating_32 : decode cX2_notFloating 32 = .ok (.iload_n 2, 1) := by decide +kernel
theorem dX2_notFloating_33 : decode cX2_notFloating 33 = .ok (.aload_n 0, 1) := by decide +kernel
theorem dX2_notFloating_34 : decode cX2_notFloating 34 = .ok (.getfield 9, 3) := by decide +kernel
theorem dX2_notFloating_37 : decode cX2_notFloating 37 = .ok (.iload_n 3, 1) := by decide +kernel
theorem dX2_notFloating_38 : decode cX2_notFloating 38 = .ok (.iaload, 1) := by decide +kernel
theorem dX2_notFloating_39 : decode cX2_notFloating 39 = .ok (.ior, 1) := by decide +kernel
theorem dX2_notFloating_40 : decode cX2_notFloating 40 = .ok (.istore_n 2, 1) := by decide +kernel
theorem dX2_notFloating_41 : decode cX2_notFloating 41 = .ok (.iinc 3 1, 3) := by decide +kernel
theorem dX2_notFloating_44 : decode cX2_notFloating 44 = .ok (.goto (-40), 3) := by decide +kernel
theorem dX2_notFloating_47 : decode cX2_notFloating 47 = .ok (.iload_n 2, 1) := by decide +kernel
theorem dX2_notFloating_48 : decode cX2_notFloating 48 = .ok (.ireturn, 1) := by decide +kernel
theorem dX3_init_0 : decode cX3_init 0 = .ok (.aload_n 0, 1) := by decide +kernel
theorem dX3_init_1 : decode cX3_init 1 = .ok (.invokespecial 3, 3) := by decide +kernel
theorem dX3_init_4 : decode cX3_init 4 = .ok (.aload_n 0, 1) := by decide +kernel
theorem dX3_init_5 : decode cX3_init 5 = .ok (.sipush 256, 3) := by decide +kernel
theorem dX3_init_8 : decode cX3_init 8 = .ok (.newarray .int, 2) := by decide +kernel
theorem dX3_init_10 : decode cX3_init 10 = .ok (.putfield 9, 3) := by decide +kernel
theorem dX3_init_13 : decode cX3_init 13 = .ok (.aload_n 0, 1) := by decide +kernel
theorem dX3_init_14 : decode cX3_init 14 = .ok (.aload_n 1, 1) := by decide +kernel
theorem dX3_init_15 : decode cX3_init 15 = .ok (.putfield 15, 3) := by decide +kernel
theorem dX3_init_18 : decode cX3_init 18 = .ok (.aload_n 0, 1) := by decide +kernel
theorem dX3_init_19 : decode cX3_init 19 = .ok (.aload_n 1, 1) := by decide +kernel
theorem dX3_init_20 : decode cX3_init 20 = .ok (.getfield 19, 3) := by decide +kernel
theorem dX3_init_23 : decode cX3_init 23 = .ok (.putfield 25, 3) := by decide +kernel
theorem dX3_init_26 : decode cX3_init 26 = .ok (.aload_n 0, 1) := by decide +kernel
theorem dX3_init_27 : decode cX3_init 27 = .ok (.aload_n 2, 1) := by decide +kernel
theorem dX3_init_28 : decode cX3_init 28 = .ok (.putfield 26, 3) := by decide +kernel
theorem dX3_init_31 : decode cX3_init 31 = .ok (.return_, 1) := by decide +kernel
theorem dX3_fewestBearers_0 : decode cX3_fewestBearers 0 = .ok (.aload_n 0, 1) := by decide +kernel
theorem dX3_fewestBearers_1 : decode cX3_fewestBearers 1 = .ok (.getfield 25, 3) := by decide +kernel
theorem dX3_fewestBearers_4 : decode cX3_fewestBearers 4 = .ok (.iconst 0, 1) := by decide +kernel
theorem dX3_fewestBearers_5 : decode cX3_fewestBearers 5 = .ok (.invokevirtual 30, 3) := by decide +kernel
theorem dX3_fewestBearers_8 : decode cX3_fewestBearers 8 = .ok (.iload_n 1, 1) := by decide +kernel
theorem dX3_fewestBearers_9 : decode cX3_fewestBearers 9 = .ok (.iconst (-1), 1) := by decide +kernel
theorem dX3_fewestBearers_10 : decode cX3_fewestBearers 10 = .ok (.ixor, 1) := by decide +kernel
theorem dX3_fewestBearers_11 : decode cX3_fewestBearers 11 = .ok (.iand, 1) := by decide +kernel
theorem dX3_fewestBearers_12 : decode cX3_fewestBearers 12 = .ok (.istore_n 2, 1) := by decide +kernel
theorem dX3_fewestBearers_13 : decode cX3_fewestBearers 13 = .ok (.iconst (-1), 1) := by decide +kernel
theorem dX3_fewestBearers_14 : decode cX3_fewestBearers 14 = .ok (.istore_n 3, 1) := by decide +kernel
theorem dX3_fewestBearers_15 : decode cX3_fewestBearers 15 = .ok (.iconst 0, 1) := by decide +kernel
theorem dX3_fewestBearers_16 : decode cX3_fewestBearers 16 = .ok (.istore 4, 2) := by decide +kernel
theorem dX3_fewestBearers_18 : decode cX3_fewestBearers 18 = .ok (.iload 4, 2) := by decide +kernel
theorem dX3_fewestBearers_20 : decode cX3_fewestBearers 20 = .ok (.sipush 256, 3) := by decide +kernel
theorem dX3_fewestBearers_23 : decode cX3_fewestBearers 23 = .ok (.if_icmp .ge 56, 3) := by decide +kernel
theorem dX3_fewestBearers_26 : decode cX3_fewestBearers 26 = .ok (.iload 4, 2) := by decide +kernel
theorem dX3_fewestBearers_28 : decode cX3_fewestBearers 28 = .ok (.iload_n 2, 1) := by decide +kernel
theorem dX3_fewestBearers_29 : decode cX3_fewestBearers 29 = .ok (.iconst (-1), 1) := by decide +kernel
theorem dX3_fewestBearers_30 : decode cX3_fewestBearers 30 = .ok (.ixor, 1) := by decide +kernel
theorem dX3_fewestBearers_31 : decode cX3_fewestBearers 31 = .ok (.iand, 1) := by decide +kernel
theorem dX3_fewestBearers_32 : decode cX3_fewestBearers 32 = .ok (.ifCond .ne 41, 3) := by decide +kernel
theorem dX3_fewestBearers_35 : decode cX3_fewestBearers 35 = .ok (.aload_n 0, 1) := by decide +kernel
theorem dX3_fewestBearers_36 : decode cX3_fewestBearers 36 = .ok (.getfield 25, 3) := by decide +kernel
theorem dX3_fewestBearers_39 : decode cX3_fewestBearers 39 = .ok (.iload_n 1, 1) := by decide +kernel
theorem dX3_fewestBearers_40 : decode cX3_fewestBearers 40 = .ok (.iload 4, 2) := by decide +kernel
theorem dX3_fewestBearers_42 : decode cX3_fewestBearers 42 = .ok (.ior, 1) := by decide +kernel
theorem dX3_fewestBearers_43 : decode cX3_fewestBearers 43 = .ok (.iconst 0, 1) := by decide +kernel
theorem dX3_fewestBearers_44 : decode cX3_fewestBearers 44 = .ok (.invokevirtual 36, 3) := by decide +kernel
theorem dX3_fewestBearers_47 : decode cX3_fewestBearers 47 = .ok (.ifCond .ge 6, 3) := by decide +kernel
theorem dX3_fewestBearers_50 : decode cX3_fewestBearers 50 = .ok (.goto 23, 3) := by decide +kernel
theorem dX3_fewestBearers_53 : decode cX3_fewestBearers 53 = .ok (.iload_n 3, 1) := by decide +kernel
theorem dX3_fewestBearers_54 : decode cX3_fewestBearers 54 = .ok (.iconst (-1), 1) := by decide +kernel
theorem dX3_fewestBearers_55 : decode cX3_fewestBearers 55 = .ok (.if_icmp .eq 15, 3) := by decide +kernel
theorem dX3_fewestBearers_58 : decode cX3_fewestBearers 58 = .ok (.iload 4, 2) := by decide +kernel
theorem dX3_fewestBearers_60 : decode cX3_fewestBearers 60 = .ok (.invokestatic 40, 3) := by decide +kernel
theorem dX3_fewestBearers_63 : decode cX3_fewestBearers 63 = .ok (.iload_n 3, 1) := by decide +kernel
theorem dX3_fewestBearers_64 : decode cX3_fewestBearers 64 = .ok (.invokestatic 40, 3) := by decide +kernel
theorem dX3_fewestBearers_67 : decode cX3_fewestBearers 67 = .ok (.if_icmp .ge 6, 3) := by decide +kernel
theorem dX3_fewestBearers_70 : decode cX3_fewestBearers 70 = .ok (.iload 4, 2) := by decide +kernel
theorem dX3_fewestBearers_72 : decode cX3_fewestBearers 72 = .ok (.istore_n 3, 1) := by decide +kernel
theorem dX3_fewestBearers_73 : decode cX3_fewestBearers 73 = .ok (.iinc 4 1, 3) := by decide +kernel
theorem dX3_fewestBearers_76 : decode cX3_fewestBearers 76 = .ok (.goto (-58), 3) := by decide +kernel
theorem dX3_fewestBearers_79 : decode cX3_fewestBearers 79 = .ok (.iload_n 3, 1) := by decide +kernel
theorem dX3_fewestBearers_80 : decode cX3_fewestBearers 80 = .ok (.ireturn, 1) := by decide +kernel
theorem dX3_findSawn_0 : decode cX3_findSawn 0 = .ok (.aload_n 0, 1) := by decide +kernel
theorem dX3_findSawn_1 : decode cX3_findSawn 1 = .ok (.iconst 0, 1) := by decide +kernel
theorem dX3_findSawn_2 : decode cX3_findSawn 2 = .ok (.putfield 45, 3) := by decide +kernel
theorem dX3_findSawn_5 : decode cX3_findSawn 5 = .ok (.aload_n 0, 1) := by decide +kernel
theorem dX3_findSawn_6 : decode cX3_findSawn 6 = .ok (.iconst 0, 1) := by decide +kernel
theorem dX3_findSawn_7 : decode cX3_findSawn 7 = .ok (.putfield 49, 3) := by decide +kernel
theorem dX3_findSawn_10 : decode cX3_findSawn 10 = .ok (.iconst 0, 1) := by decide +kernel
theorem dX3_findSawn_11 : decode cX3_findSawn 11 = .ok (.istore_n 2, 1) := by decide +kernel
theorem dX3_findSawn_12 : decode cX3_findSawn 12 = .ok (.iload_n 2, 1) := by decide +kernel
theorem dX3_findSawn_13 : decode cX3_findSawn 13 = .ok (.iconst 1, 1) := by decide +kernel
theorem dX3_findSawn_14 : decode cX3_findSawn 14 = .ok (.aload_n 0, 1) := by decide +kernel
theorem dX3_findSawn_15 : decode cX3_findSawn 15 = .ok (.getfield 25, 3) := by decide +kernel
theorem dX3_findSawn_18 : decode cX3_findSawn 18 = .ok (.getfield 52, 3) := by decide +kernel
theorem dX3_findSawn_21 : decode cX3_findSawn 21 = .ok (.ishl, 1) := by decide +kernel
theorem dX3_findSawn_22 : decode cX3_findSawn 22 = .ok (.if_icmp .ge 75, 3) := by decide +kernel
theorem dX3_findSawn_25 : decode cX3_findSawn 25 = .ok (.aload_n 0, 1) := by decide +kernel
theorem dX3_findSawn_26 : decode cX3_findSawn 26 = .ok (.getfield 26, 3) := by decide +kernel
theorem dX3_findSawn_29 : decode cX3_findSawn 29 = .ok (.aload_n 0, 1) := by decide +kernel
theorem dX3_findSawn_30 : decode cX3_findSawn 30 = .ok (.getfield 25, 3) := by decide +kernel
theorem dX3_findSawn_33 : decode cX3_findSawn 33 = .ok (.iload_n 2, 1) := by decide +kernel
theorem dX3_findSawn_34 : decode cX3_findSawn 34 = .ok (.invokevirtual 55, 3) := by decide +kernel
theorem dX3_findSawn_37 : decode cX3_findSawn 37 = .ok (.aload_n 0, 1) := by decide +kernel
theorem dX3_findSawn_38 : decode cX3_findSawn 38 = .ok (.getfield 26, 3) := by decide +kernel
theorem dX3_findSawn_41 : decode cX3_findSawn 41 = .ok (.aload_n 0, 1) := by decide +kernel
theorem dX3_findSawn_42 : decode cX3_findSawn 42 = .ok (.getfield 25, 3) := by decide +kernel
theorem dX3_findSawn_45 : decode cX3_findSawn 45 = .ok (.invokevirtual 61, 3) := by decide +kernel
theorem dX3_findSawn_48 : decode cX3_findSawn 48 = .ok (.iload_n 1, 1) := by decide +kernel
theorem dX3_findSawn_49 : decode cX3_findSawn 49 = .ok (.if_icmp .eq 6, 3) := by decide +kernel
theorem dX3_findSawn_52 : decode cX3_findSawn 52 = .ok (.goto 39, 3) := by decide +kernel
theorem dX3_findSawn_55 : decode cX3_findSawn 55 = .ok (.aload_n 0, 1) := by decide +kernel
theorem dX3_findSawn_56 : decode cX3_findSawn 56 = .ok (.getfield 45, 3) := by decide +kernel
theorem dX3_findSawn_59 : decode cX3_findSawn 59 = .ok (.ifCond .eq 17, 3) := by decide +kernel
theorem dX3_findSawn_62 : decode cX3_findSawn 62 = .ok (.iload_n 2, 1) := by decide +kernel
theorem dX3_findSawn_63 : decode cX3_findSawn 63 = .ok (.invokestatic 40, 3) := by decide +kernel
theorem dX3_findSawn_66 : decode cX3_findSawn 66 = .ok (.aload_n 0, 1) := by decide +kernel
theorem dX3_findSawn_67 : decode cX3_findSawn 67 = .ok (.getfield 49, 3) := by decide +kernel
theorem dX3_findSawn_70 : decode cX3_findSawn 70 = .ok (.invokestatic 40, 3) := by decide +kernel
theorem dX3_findSawn_73 : decode cX3_findSawn 73 = .ok (.if_icmp .ge 8, 3) := by decide +kernel
theorem dX3_findSawn_76 : decode cX3_findSawn 76 = .ok (.aload_n 0, 1) := by decide +kernel
theorem dX3_findSawn_77 : decode cX3_findSawn 77 = .ok (.iload_n 2, 1) := by decide +kernel
theorem dX3_findSawn_78 : decode cX3_findSawn 78 = .ok (.putfield 49, 3) := by decide +kernel
theorem dX3_findSawn_81 : decode cX3_findSawn 81 = .ok (.aload_n 0, 1) := by decide +kernel
theorem dX3_findSawn_82 : decode cX3_findSawn 82 = .ok (.dup, 1) := by decide +kernel
theorem dX3_findSawn_83 : decode cX3_findSawn 83 = .ok (.getfield 45, 3) := by decide +kernel
theorem dX3_findSawn_86 : decode cX3_findSawn 86 = .ok (.iconst 1, 1) := by decide +kernel
theorem dX3_findSawn_87 : decode cX3_findSawn 87 = .ok (.iadd, 1) := by decide +kernel
theorem dX3_findSawn_88 : decode cX3_findSawn 88 = .ok (.putfield 45, 3) := by decide +kernel
theorem dX3_findSawn_91 : decode cX3_findSawn 91 = .ok (.iinc 2 1, 3) := by decide +kernel
theorem dX3_findSawn_94 : decode cX3_findSawn 94 = .ok (.goto (-82), 3) := by decide +kernel
theorem dX3_findSawn_97 : decode cX3_findSawn 97 = .ok (.return_, 1) := by decide +kernel
theorem dX3_findDelta_0 : decode cX3_findDelta 0 = .ok (.aload_n 0, 1) := by decide +kernel
theorem dX3_findDelta_1 : decode cX3_findDelta 1 = .ok (.iconst 0, 1) := by decide +kernel
theorem dX3_findDelta_2 : decode cX3_findDelta 2 = .ok (.putfield 65, 3) := by decide +kernel
theorem dX3_findDelta_5 : decode cX3_findDelta 5 = .ok (.aload_n 0, 1) := by decide +kernel
theorem dX3_findDelta_6 : decode cX3_findDelta 6 = .ok (.iconst 0, 1) := by decide +kernel
theorem dX3_findDelta_7 : decode cX3_findDelta 7 = .ok (.putfield 68, 3) := by decide +kernel
theorem dX3_findDelta_10 : decode cX3_findDelta 10 = .ok (.aload_n 0, 1) := by decide +kernel
theorem dX3_findDelta_11 : decode cX3_findDelta 11 = .ok (.getfield 26, 3) := by decide +kernel
theorem dX3_findDelta_14 : decode cX3_findDelta 14 = .ok (.aload_n 0, 1) := by decide +kernel
theorem dX3_findDelta_15 : decode cX3_findDelta 15 = .ok (.getfield 25, 3) := by decide +kernel
theorem dX3_findDelta_18 : decode cX3_findDelta 18 = .ok (.iconst 0, 1) := by decide +kernel
theorem dX3_findDelta_19 : decode cX3_findDelta 19 = .ok (.invokevirtual 71, 3) := by decide +kernel
theorem dX3_findDelta_22 : decode cX3_findDelta 22 = .ok (.aload_n 0, 1) := by decide +kernel
theorem dX3_findDelta_23 : decode cX3_findDelta 23 = .ok (.getfield 26, 3) := by decide +kernel
theorem dX3_findDelta_26 : decode cX3_findDelta 26 = .ok (.invokevirtual 74, 3) := by decide +kernel
theorem dX3_findDelta_29 : decode cX3_findDelta 29 = .ok (.iconst 1, 1) := by decide +kernel
theorem dX3_findDelta_30 : decode cX3_findDelta 30 = .ok (.isub, 1) := by decide +kernel
theorem dX3_findDelta_31 : decode cX3_findDelta 31 = .ok (.istore_n 1, 1) := by decide +kernel
theorem dX3_findDelta_32 : decode cX3_findDelta 32 = .ok (.iconst 0, 1) := by decide +kernel
theorem dX3_findDelta_33 : decode cX3_findDelta 33 = .ok (.istore_n 2, 1) := by decide +kernel
theorem dX3_findDelta_34 : decode cX3_findDelta 34 = .ok (.iload_n 2, 1) := by decide +kernel
theorem dX3_findDelta_35 : decode cX3_findDelta 35 = .ok (.iload_n 1, 1) := by decide +kernel
theorem dX3_findDelta_36 : decode cX3_findDelta 36 = .ok (.if_icmp .ge 13, 3) := by decide +kernel
theorem dX3_findDelta_39 : decode cX3_findDelta 39 = .ok (.aload_n 0, 1) := by decide +kernel
theorem dX3_findDelta_40 : decode cX3_findDelta 40 = .ok (.invokevirtual 78, 3) := by decide +kernel
theorem dX3_findDelta_43 : decode cX3_findDelta 43 = .ok (.iinc 2 1, 3) := by decide +kernel
theorem dX3_findDelta_46 : decode cX3_findDelta 46 = .ok (.goto (-12), 3) := by decide +kernel
theorem dX3_findDelta_49 : decode cX3_findDelta 49 = .ok (.return_, 1) := by decide +kernel
theorem dX3_bindCheapest_0 : decode cX3_bindCheapest 0 = .ok (.iconst (-1), 1) := by decide +kernel
theorem dX3_bindCheapest_1 : decode cX3_bindCheapest 1 = .ok (.istore_n 1, 1) := by decide +kernel
theorem dX3_bindCheapest_2 : decode cX3_bindCheapest 2 = .ok (.iconst 0, 1) := by decide +kernel
theorem dX3_bindCheapest_3 : decode cX3_bindCheapest 3 = .ok (.istore_n 2, 1) := by decide +kernel
theorem dX3_bindCheapest_4 : decode cX3_bindCheapest 4 = .ok (.iconst 0, 1) := by decide +kernel
theorem dX3_bindCheapest_5 : decode cX3_bindCheapest 5 = .ok (.istore_n 3, 1) := by decide +kernel
theorem dX3_bindCheapest_6 : decode cX3_bindCheapest 6 = .ok (.iconst 0, 1) := by decide +kernel
theorem dX3_bindCheapest_7 : decode cX3_bindCheapest 7 = .ok (.istore 4, 2) := by decide +kernel
theorem dX3_bindCheapest_9 : decode cX3_bindCheapest 9 = .ok (.iload 4, 2) := by decide +kernel
theorem dX3_bindCheapest_11 : decode cX3_bindCheapest 11 = .ok (.bipush 8, 2) := by decide +kernel
theorem dX3_bindCheapest_13 : decode cX3_bindCheapest 13 = .ok (.if_icmp .ge 136, 3) := by decide +kernel
theorem dX3_bindCheapest_16 : decode cX3_bindCheapest 16 = .ok (.iload 4, 2) := by decide +kernel
theorem dX3_bindCheapest_18 : decode cX3_bindCheapest 18 = .ok (.iconst 1, 1) := by decide +kernel
theorem dX3_bindCheapest_19 : decode cX3_bindCheapest 19 = .ok (.iadd, 1) := by decide +kernel
theorem dX3_bindCheapest_20 : decode cX3_bindCheapest 20 = .ok (.istore 5, 2) := by decide +kernel
theorem dX3_bindCheapest_22 : decode cX3_bindCheapest 22 = .ok (.iload 5, 2) := by decide +kernel
theorem dX3_bindCheapest_24 : decode cX3_bindCheapest 24 = .ok (.bipush 8, 2) := by decide +kernel
theorem dX3_bindCheapest_26 : decode cX3_bindCheapest 26 = .ok (.if_icmp .ge 117, 3) := by decide +kernel
theorem dX3_bindCheapest_29 : decode cX3_bindCheapest 29 = .ok (.aload_n 0, 1) := by decide +kernel
theorem dX3_bindCheapest_30 : decode cX3_bindCheapest 30 = .ok (.getfield 26, 3) := by decide +kernel
theorem dX3_bindCheapest_33 : decode cX3_bindCheapest 33 = .ok (.getfield 81, 3) := by decide +kernel
theorem dX3_bindCheapest_36 : decode cX3_bindCheapest 36 = .ok (.iload 4, 2) := by decide +kernel
theorem dX3_bindCheapest_38 : decode cX3_bindCheapest 38 = .ok (.iaload, 1) := by decide +kernel
theorem dX3_bindCheapest_39 : decode cX3_bindCheapest 39 = .ok (.ifCond .eq 98, 3) := by decide +kernel
theorem dX3_bindCheapest_42 : decode cX3_bindCheapest 42 = .ok (.aload_n 0, 1) := by decide +kernel
theorem dX3_bindCheapest_43 : decode cX3_bindCheapest 43 = .ok (.getfield 26, 3) := by decide +kernel
theorem dX3_bindCheapest_46 : decode cX3_bindCheapest 46 = .ok (.getfield 81, 3) := by decide +kernel
theorem dX3_bindCheapest_49 : decode cX3_bindCheapest 49 = .ok (.iload 5, 2) := by decide +kernel
theorem dX3_bindCheapest_51 : decode cX3_bindCheapest 51 = .ok (.iaload, 1) := by decide +kernel
theorem dX3_bindCheapest_52 : decode cX3_bindCheapest 52 = .ok (.ifCond .eq 85, 3) := by decide +kernel
theorem dX3_bindCheapest_55 : decode cX3_bindCheapest 55 = .ok (.aload_n 0, 1) := by decide +kernel
theorem dX3_bindCheapest_56 : decode cX3_bindCheapest 56 = .ok (.getfield 26, 3) := by decide +kernel
theorem dX3_bindCheapest_59 : decode cX3_bindCheapest 59 = .ok (.getfield 81, 3) := by decide +kernel
theorem dX3_bindCheapest_62 : decode cX3_bindCheapest 62 = .ok (.iload 4, 2) := by decide +kernel
theorem dX3_bindCheapest_64 : decode cX3_bindCheapest 64 = .ok (.iaload, 1) := by decide +kernel
theorem dX3_bindCheapest_65 : decode cX3_bindCheapest 65 = .ok (.aload_n 0, 1) := by decide +kernel
theorem dX3_bindCheapest_66 : decode cX3_bindCheapest 66 = .ok (.getfield 26, 3) := by decide +kernel
theorem dX3_bindCheapest_69 : decode cX3_bindCheapest 69 = .ok (.getfield 81, 3) := by decide +kernel
theorem dX3_bindCheapest_72 : decode cX3_bindCheapest 72 = .ok (.iload 5, 2) := by decide +kernel
theorem dX3_bindCheapest_74 : decode cX3_bindCheapest 74 = .ok (.iaload, 1) := by decide +kernel
theorem dX3_bindCheapest_75 : decode cX3_bindCheapest 75 = .ok (.if_icmp .ne 6, 3) := by decide +kernel
theorem dX3_bindCheapest_78 : decode cX3_bindCheapest 78 = .ok (.goto 59, 3) := by decide +kernel
theorem dX3_bindCheapest_81 : decode cX3_bindCheapest 81 = .ok (.iconst 1, 1) := by decide +kernel
theorem dX3_bindCheapest_82 : decode cX3_bindCheapest 82 = .ok (.aload_n 0, 1) := by decide +kernel
theorem dX3_bindCheapest_83 : decode cX3_bindCheapest 83 = .ok (.getfield 25, 3) := by decide +kernel
theorem dX3_bindCheapest_86 : decode cX3_bindCheapest 86 = .ok (.getfield 84, 3) := by decide +kernel
theorem dX3_bindCheapest_89 : decode cX3_bindCheapest 89 = .ok (.getfield 88, 3) := by decide +kernel
theorem dX3_bindCheapest_92 : decode cX3_bindCheapest 92 = .ok (.iload 4, 2) := by decide +kernel
theorem dX3_bindCheapest_94 : decode cX3_bindCheapest 94 = .ok (.iaload, 1) := by decide +kernel
theorem dX3_bindCheapest_95 : decode cX3_bindCheapest 95 = .ok (.aload_n 0, 1) := by decide +kernel
theorem dX3_bindCheapest_96 : decode cX3_bindCheapest 96 = .ok (.getfield 25, 3) := by decide +kernel
theorem dX3_bindCheapest_99 : decode cX3_bindCheapest 99 = .ok (.getfield 84, 3) := by decide +kernel
theorem dX3_bindCheapest_102 : decode cX3_bindCheapest 102 = .ok (.getfield 88, 3) := by decide +kernel
theorem dX3_bindCheapest_105 : decode cX3_bindCheapest 105 = .ok (.iload 5, 2) := by decide +kernel
theorem dX3_bindCheapest_107 : decode cX3_bindCheapest 107 = .ok (.iaload, 1) := by decide +kernel
theorem dX3_bindCheapest_108 : decode cX3_bindCheapest 108 = .ok (.isub, 1) := by decide +kernel
theorem dX3_bindCheapest_109 : decode cX3_bindCheapest 109 = .ok (.invokestatic 93, 3) := by decide +kernel
theorem dX3_bindCheapest_112 : decode cX3_bindCheapest 112 = .ok (.iconst 5, 1) := by decide +kernel
theorem dX3_bindCheapest_113 : decode cX3_bindCheapest 113 = .ok (.idiv, 1) := by decide +kernel
theorem dX3_bindCheapest_114 : decode cX3_bindCheapest 114 = .ok (.iadd, 1) := by decide +kernel
theorem dX3_bindCheapest_115 : decode cX3_bindCheapest 115 = .ok (.istore 6, 2) := by decide +kernel
theorem dX3_bindCheapest_117 : decode cX3_bindCheapest 117 = .ok (.iload_n 1, 1) := by decide +kernel
theorem dX3_bindCheapest_118 : decode cX3_bindCheapest 118 = .ok (.iconst (-1), 1) := by decide +kernel
theorem dX3_bindCheapest_119 : decode cX3_bindCheapest 119 = .ok (.if_icmp .eq 9, 3) := by decide +kernel
theorem dX3_bindCheapest_122 : decode cX3_bindCheapest 122 = .ok (.iload 6, 2) := by decide +kernel
theorem dX3_bindCheapest_124 : decode cX3_bindCheapest 124 = .ok (.iload_n 1, 1) := by decide +kernel
theorem dX3_bindCheapest_125 : decode cX3_bindCheapest 125 = .ok (.if_icmp .ge 12, 3) := by decide +kernel
theorem dX3_bindCheapest_128 : decode cX3_bindCheapest 128 = .ok (.iload 6, 2) := by decide +kernel
theorem dX3_bindCheapest_130 : decode cX3_bindCheapest 130 = .ok (.istore_n 1, 1) := by decide +kernel
theorem dX3_bindCheapest_131 : decode cX3_bindCheapest 131 = .ok (.iload 4, 2) := by decide +kernel
theorem dX3_bindCheapest_133 : decode cX3_bindCheapest 133 = .ok (.istore_n 2, 1) := by decide +kernel
theorem dX3_bindCheapest_134 : decode cX3_bindCheapest 134 = .ok (.iload 5, 2) := by decide +kernel
theorem dX3_bindCheapest_136 : decode cX3_bindCheapest 136 = .ok (.istore_n 3, 1) := by decide +kernel
theorem dX3_bindCheapest_137 : decode cX3_bindCheapest 137 = .ok (.iinc 5 1, 3) := by decide +kernel
theorem dX3_bindCheapest_140 : decode cX3_bindCheapest 140 = .ok (.goto (-118), 3) := by decide +kernel
theorem dX3_bindCheapest_143 : decode cX3_bindCheapest 143 = .ok (.iinc 4 1, 3) := by decide +kernel
theorem dX3_bindCheapest_146 : decode cX3_bindCheapest 146 = .ok (.goto (-137), 3) := by decide +kernel
theorem dX3_bindCheapest_149 : decode cX3_bindCheapest 149 = .ok (.iload_n 1, 1) := by decide +kernel
theorem dX3_bindCheapest_150 : decode cX3_bindCheapest 150 = .ok (.iconst (-1), 1) := by decide +kernel
theorem dX3_bindCheapest_151 : decode cX3_bindCheapest 151 = .ok (.if_icmp .eq 32, 3) := by decide +kernel
theorem dX3_bindCheapest_154 : decode cX3_bindCheapest 154 = .ok (.aload_n 0, 1) := by decide +kernel
theorem dX3_bindCheapest_155 : decode cX3_bindCheapest 155 = .ok (.getfield 26, 3) := by decide +kernel
theorem dX3_bindCheapest_158 : decode cX3_bindCheapest 158 = .ok (.iload_n 2, 1) := by decide +kernel
theorem dX3_bindCheapest_159 : decode cX3_bindCheapest 159 = .ok (.iload_n 3, 1) := by decide +kernel
theorem dX3_bindCheapest_160 : decode cX3_bindCheapest 160 = .ok (.invokevirtual 98, 3) := by decide +kernel
theorem dX3_bindCheapest_163 : decode cX3_bindCheapest 163 = .ok (.aload_n 0, 1) := by decide +kernel
theorem dX3_bindCheapest_164 : decode cX3_bindCheapest 164 = .ok (.dup, 1) := by decide +kernel
theorem dX3_bindCheapest_165 : decode cX3_bindCheapest 165 = .ok (.getfield 65, 3) := by decide +kernel
theorem dX3_bindCheapest_168 : decode cX3_bindCheapest 168 = .ok (.iload_n 1, 1) := by decide +kernel
theorem dX3_bindCheapest_169 : decode cX3_bindCheapest 169 = .ok (.iadd, 1) := by decide +kernel
theorem dX3_bindCheapest_170 : decode cX3_bindCheapest 170 = .ok (.putfield 65, 3) := by decide +kernel
theorem dX3_bindCheapest_173 : decode cX3_bindCheapest 173 = .ok (.aload_n 0, 1) := by decide +kernel
theorem dX3_bindCheapest_174 : decode cX3_bindCheapest 174 = .ok (.dup, 1) := by decide +kernel
theorem dX3_bindCheapest_175 : decode cX3_bindCheapest 175 = .ok (.getfield 68, 3) := by decide +kernel
theorem dX3_bindCheapest_178 : decode cX3_bindCheapest 178 = .ok (.iconst 1, 1) := by decide +kernel
theorem dX3_bindCheapest_179 : decode cX3_bindCheapest 179 = .ok (.iadd, 1) := by decide +kernel
theorem dX3_bindCheapest_180 : decode cX3_bindCheapest 180 = .ok (.putfield 68, 3) := by decide +kernel
theorem dX3_bindCheapest_183 : decode cX3_bindCheapest 183 = .ok (.return_, 1) := by decide +kernel
theorem dX3_weakRopes_0 : decode cX3_weakRopes 0 = .ok (.iconst 0, 1) := by decide +kernel
theorem dX3_weakRopes_1 : decode cX3_weakRopes 1 = .ok (.istore_n 1, 1) := by decide +kernel
theorem dX3_weakRopes_2 : decode cX3_weakRopes 2 = .ok (.iconst 0, 1) := by decide +kernel
theorem dX3_weakRopes_3 : decode cX3_weakRopes 3 = .ok (.istore_n 2, 1) := by decide +kernel
theorem dX3_weakRopes_4 : decode cX3_weakRopes 4 = .ok (.iload_n 2, 1) := by decide +kernel
theorem dX3_weakRopes_5 : decode cX3_weakRopes 5 = .ok (.aload_n 0, 1) := by decide +kernel
theorem dX3_weakRopes_6 : decode cX3_weakRopes 6 = .ok (.getfield 25, 3) := by decide +kernel
theorem dX3_weakRopes_9 : decode cX3_weakRopes 9 = .ok (.getfield 52, 3) := by decide +kernel
theorem dX3_weakRopes_12 : decode cX3_weakRopes 12 = .ok (.if_icmp .ge 61, 3) := by decide +kernel
theorem dX3_weakRopes_15 : decode cX3_weakRopes 15 = .ok (.aload_n 0, 1) := by decide +kernel
theorem dX3_weakRopes_16 : decode cX3_weakRopes 16 = .ok (.getfield 26, 3) := by decide +kernel
theorem dX3_weakRopes_19 : decode cX3_weakRopes 19 = .ok (.aload_n 0, 1) := by decide +kernel
theorem dX3_weakRopes_20 : decode cX3_weakRopes 20 = .ok (.getfield 25, 3) := by decide +kernel
theorem dX3_weakRopes_23 : decode cX3_weakRopes 23 = .ok (.iconst 1, 1) := by decide +kernel
theorem dX3_weakRopes_24 : decode cX3_weakRopes 24 = .ok (.iload_n 2, 1) := by decide +kernel
theorem dX3_weakRopes_25 : decode cX3_weakRopes 25 = .ok (.ishl, 1) := by decide +kernel
theorem dX3_weakRopes_26 : decode cX3_weakRopes 26 = .ok (.invokevirtual 71, 3) := by decide +kernel
theorem dX3_weakRopes_29 : decode cX3_weakRopes 29 = .ok (.aload_n 0, 1) := by decide +kernel
theorem dX3_weakRopes_30 : decode cX3_weakRopes 30 = .ok (.getfield 26, 3) := by decide +kernel
theorem dX3_weakRopes_33 : decode cX3_weakRopes 33 = .ok (.getfield 81, 3) := by decide +kernel
theorem dX3_weakRopes_36 : decode cX3_weakRopes 36 = .ok (.aload_n 0, 1) := by decide +kernel
theorem dX3_weakRopes_37 : decode cX3_weakRopes 37 = .ok (.getfield 25, 3) := by decide +kernel
theorem dX3_weakRopes_40 : decode cX3_weakRopes 40 = .ok (.getfield 102, 3) := by decide +kernel
theorem dX3_weakRopes_43 : decode cX3_weakRopes 43 = .ok (.iload_n 2, 1) := by decide +kernel
theorem dX3_weakRopes_44 : decode cX3_weakRopes 44 = .ok (.iaload, 1) := by decide +kernel
theorem dX3_weakRopes_45 : decode cX3_weakRopes 45 = .ok (.iaload, 1) := by decide +kernel
theorem dX3_weakRopes_46 : decode cX3_weakRopes 46 = .ok (.aload_n 0, 1) := by decide +kernel
theorem dX3_weakRopes_47 : decode cX3_weakRopes 47 = .ok (.getfield 25, 3) := by decide +kernel
theorem dX3_weakRopes_50 : decode cX3_weakRopes 50 = .ok (.getfield 105, 3) := by decide +kernel
theorem dX3_weakRopes_53 : decode cX3_weakRopes 53 = .ok (.iload_n 2, 1) := by decide +kernel
theorem dX3_weakRopes_54 : decode cX3_weakRopes 54 = .ok (.iaload, 1) := by decide +kernel
theorem dX3_weakRopes_55 : decode cX3_weakRopes 55 = .ok (.invokestatic 108, 3) := by decide +kernel
theorem dX3_weakRopes_58 : decode cX3_weakRopes 58 = .ok (.ifCond .ne 9, 3) := by decide +kernel
theorem dX3_weakRopes_61 : decode cX3_weakRopes 61 = .ok (.iload_n 1, 1) := by decide +kernel
theorem dX3_weakRopes_62 : decode cX3_weakRopes 62 = .ok (.iconst 1, 1) := by decide +kernel
theorem dX3_weakRopes_63 : decode cX3_weakRopes 63 = .ok (.iload_n 2, 1) := by decide +kernel
theorem dX3_weakRopes_64 : decode cX3_weakRopes 64 = .ok (.ishl, 1) := by decide +kernel
theorem dX3_weakRopes_65 : decode cX3_weakRopes 65 = .ok (.ior, 1) := by decide +kernel
theorem dX3_weakRopes_66 : decode cX3_weakRopes 66 = .ok (.istore_n 1, 1) := by decide +kernel
theorem dX3_weakRopes_67 : decode cX3_weakRopes 67 = .ok (.iinc 2 1, 3) := by decide +kernel
theorem dX3_weakRopes_70 : decode cX3_weakRopes 70 = .ok (.goto (-66), 3) := by decide +kernel
theorem dX3_weakRopes_73 : decode cX3_weakRopes 73 = .ok (.iload_n 1, 1) := by decide +kernel
theorem dX3_weakRopes_74 : decode cX3_weakRopes 74 = .ok (.ireturn, 1) := by decide +kernel
theorem dX3_weakThings_0 : decode cX3_weakThings 0 = .ok (.iconst 0, 1) := by decide +kernel
theorem dX3_weakThings_1 : decode cX3_weakThings 1 = .ok (.istore_n 1, 1) := by decide +kernel
theorem dX3_weakThings_2 : decode cX3_weakThings 2 = .ok (.iconst 0, 1) := by decide +kernel
theorem dX3_weakThings_3 : decode cX3_weakThings 3 = .ok (.istore_n 2, 1) := by decide +kernel
theorem dX3_weakThings_4 : decode cX3_weakThings 4 = .ok (.iload_n 2, 1) := by decide +kernel
theorem dX3_weakThings_5 : decode cX3_weakThings 5 = .ok (.aload_n 0, 1) := by decide +kernel
theorem dX3_weakThings_6 : decode cX3_weakThings 6 = .ok (.getfield 25, 3) := by decide +kernel
theorem dX3_weakThings_9 : decode cX3_weakThings 9 = .ok (.getfield 84, 3) := by decide +kernel
theorem dX3_weakThings_12 : decode cX3_weakThings 12 = .ok (.getfield 112, 3) := by decide +kernel
theorem dX3_weakThings_15 : decode cX3_weakThings 15 = .ok (.if_icmp .ge 90, 3) := by decide +kernel
theorem dX3_weakThings_18 : decode cX3_weakThings 18 = .ok (.aload_n 0, 1) := by decide +kernel
theorem dX3_weakThings_19 : decode cX3_weakThings 19 = .ok (.getfield 26, 3) := by decide +kernel
theorem dX3_weakThings_22 : decode cX3_weakThings 22 = .ok (.aload_n 0, 1) := by decide +kernel
theorem dX3_weakThings_23 : decode cX3_weakThings 23 = .ok (.getfield 25, 3) := by decide +kernel
theorem dX3_weakThings_26 : decode cX3_weakThings 26 = .ok (.iconst 0, 1) := by decide +kernel
theorem dX3_weakThings_27 : decode cX3_weakThings 27 = .ok (.invokevirtual 71, 3) := by decide +kernel
theorem dX3_weakThings_30 : decode cX3_weakThings 30 = .ok (.aload_n 0, 1) := by decide +kernel
theorem dX3_weakThings_31 : decode cX3_weakThings 31 = .ok (.getfield 26, 3) := by decide +kernel
theorem dX3_weakThings_34 : decode cX3_weakThings 34 = .ok (.getfield 81, 3) := by decide +kernel
theorem dX3_weakThings_37 : decode cX3_weakThings 37 = .ok (.iload_n 2, 1) := by decide +kernel
theorem dX3_weakThings_38 : decode cX3_weakThings 38 = .ok (.iaload, 1) := by decide +kernel
theorem dX3_weakThings_39 : decode cX3_weakThings 39 = .ok (.iconst 1, 1) := by decide +kernel
theorem dX3_weakThings_40 : decode cX3_weakThings 40 = .ok (.iload_n 2, 1) := by decide +kernel
theorem dX3_weakThings_41 : decode cX3_weakThings 41 = .ok (.ishl, 1) := by decide +kernel
theorem dX3_weakThings_42 : decode cX3_weakThings 42 = .ok (.iconst (-1), 1) := by decide +kernel
theorem dX3_weakThings_43 : decode cX3_weakThings 43 = .ok (.ixor, 1) := by decide +kernel
theorem dX3_weakThings_44 : decode cX3_weakThings 44 = .ok (.iand, 1) := by decide +kernel
theorem dX3_weakThings_45 : decode cX3_weakThings 45 = .ok (.istore_n 3, 1) := by decide +kernel
theorem dX3_weakThings_46 : decode cX3_weakThings 46 = .ok (.aload_n 0, 1) := by decide +kernel
theorem dX3_weakThings_47 : decode cX3_weakThings 47 = .ok (.getfield 26, 3) := by decide +kernel
theorem dX3_weakThings_50 : decode cX3_weakThings 50 = .ok (.aload_n 0, 1) := by decide +kernel
theorem dX3_weakThings_51 : decode cX3_weakThings 51 = .ok (.getfield 25, 3) := by decide +kernel
theorem dX3_weakThings_54 : decode cX3_weakThings 54 = .ok (.aload_n 0, 1) := by decide +kernel
theorem dX3_weakThings_55 : decode cX3_weakThings 55 = .ok (.getfield 25, 3) := by decide +kernel
theorem dX3_weakThings_58 : decode cX3_weakThings 58 = .ok (.iconst 1, 1) := by decide +kernel
theorem dX3_weakThings_59 : decode cX3_weakThings 59 = .ok (.iload_n 2, 1) := by decide +kernel
theorem dX3_weakThings_60 : decode cX3_weakThings 60 = .ok (.ishl, 1) := by decide +kernel
theorem dX3_weakThings_61 : decode cX3_weakThings 61 = .ok (.invokevirtual 115, 3) := by decide +kernel
theorem dX3_weakThings_64 : decode cX3_weakThings 64 = .ok (.invokevirtual 71, 3) := by decide +kernel
theorem dX3_weakThings_67 : decode cX3_weakThings 67 = .ok (.iload_n 3, 1) := by decide +kernel
theorem dX3_weakThings_68 : decode cX3_weakThings 68 = .ok (.invokestatic 118, 3) := by decide +kernel
theorem dX3_weakThings_71 : decode cX3_weakThings 71 = .ok (.istore 4, 2) := by decide +kernel
theorem dX3_weakThings_73 : decode cX3_weakThings 73 = .ok (.iload 4, 2) := by decide +kernel
theorem dX3_weakThings_75 : decode cX3_weakThings 75 = .ok (.iconst (-1), 1) := by decide +kernel
theorem dX3_weakThings_76 : decode cX3_weakThings 76 = .ok (.if_icmp .eq 23, 3) := by decide +kernel
theorem dX3_weakThings_79 : decode cX3_weakThings 79 = .ok (.aload_n 0, 1) := by decide +kernel
theorem dX3_weakThings_80 : decode cX3_weakThings 80 = .ok (.getfield 26, 3) := by decide +kernel
theorem dX3_weakThings_83 : decode cX3_weakThings 83 = .ok (.getfield 81, 3) := by decide +kernel
theorem dX3_weakThings_86 : decode cX3_weakThings 86 = .ok (.iload 4, 2) := by decide +kernel
theorem dX3_weakThings_88 : decode cX3_weakThings 88 = .ok (.iaload, 1) := by decide +kernel
theorem dX3_weakThings_89 : decode cX3_weakThings 89 = .ok (.iload_n 3, 1) := by decide +kernel
theorem dX3_weakThings_90 : decode cX3_weakThings 90 = .ok (.if_icmp .eq 9, 3) := by decide +kernel
theorem dX3_weakThings_93 : decode cX3_weakThings 93 = .ok (.iload_n 1, 1) := by decide +kernel
theorem dX3_weakThings_94 : decode cX3_weakThings 94 = .ok (.iconst 1, 1) := by decide +kernel
theorem dX3_weakThings_95 : decode cX3_weakThings 95 = .ok (.iload_n 2, 1) := by decide +kernel
theorem dX3_weakThings_96 : decode cX3_weakThings 96 = .ok (.ishl, 1) := by decide +kernel
theorem dX3_weakThings_97 : decode cX3_weakThings 97 = .ok (.ior, 1) := by decide +kernel
theorem dX3_weakThings_98 : decode cX3_weakThings 98 = .ok (.istore_n 1, 1) := by decide +kernel
theorem dX3_weakThings_99 : decode cX3_weakThings 99 = .ok (.iinc 2 1, 3) := by decide +kernel
theorem dX3_weakThings_102 : decode cX3_weakThings 102 = .ok (.goto (-98), 3) := by decide +kernel
theorem dX3_weakThings_105 : decode cX3_weakThings 105 = .ok (.iload_n 1, 1) := by decide +kernel
theorem dX3_weakThings_106 : decode cX3_weakThings 106 = .ok (.ireturn, 1) := by decide +kernel
theorem dX3_findTake_0 : decode cX3_findTake 0 = .ok (.aload_n 0, 1) := by decide +kernel
theorem dX3_findTake_1 : decode cX3_findTake 1 = .ok (.getfield 26, 3) := by decide +kernel
theorem dX3_findTake_4 : decode cX3_findTake 4 = .ok (.aload_n 0, 1) := by decide +kernel
theorem dX3_findTake_5 : decode cX3_findTake 5 = .ok (.getfield 25, 3) := by decide +kernel
theorem dX3_findTake_8 : decode cX3_findTake 8 = .ok (.iconst 0, 1) := by decide +kernel
theorem dX3_findTake_9 : decode cX3_findTake 9 = .ok (.invokevirtual 55, 3) := by decide +kernel
theorem dX3_findTake_12 : decode cX3_findTake 12 = .ok (.aload_n 0, 1) := by decide +kernel
theorem dX3_findTake_13 : decode cX3_findTake 13 = .ok (.getfield 26, 3) := by decide +kernel
theorem dX3_findTake_16 : decode cX3_findTake 16 = .ok (.getfield 81, 3) := by decide +kernel
theorem dX3_findTake_19 : decode cX3_findTake 19 = .ok (.iload_n 1, 1) := by decide +kernel
theorem dX3_findTake_20 : decode cX3_findTake 20 = .ok (.iaload, 1) := by decide +kernel
theorem dX3_findTake_21 : decode cX3_findTake 21 = .ok (.istore_n 2, 1) := by decide +kernel
theorem dX3_findTake_22 : decode cX3_findTake 22 = .ok (.aload_n 0, 1) := by decide +kernel
theorem dX3_findTake_23 : decode cX3_findTake 23 = .ok (.iconst (-1), 1) := by decide +kernel
theorem dX3_findTake_24 : decode cX3_findTake 24 = .ok (.putfield 121, 3) := by decide +kernel
theorem dX3_findTake_27 : decode cX3_findTake 27 = .ok (.aload_n 0, 1) := by decide +kernel
theorem dX3_findTake_28 : decode cX3_findTake 28 = .ok (.aload_n 0, 1) := by decide +kernel
theorem dX3_findTake_29 : decode cX3_findTake 29 = .ok (.iload_n 2, 1) := by decide +kernel
theorem dX3_findTake_30 : decode cX3_findTake 30 = .ok (.iconst (-1), 1) := by decide +kernel
theorem dX3_findTake_31 : decode cX3_findTake 31 = .ok (.invokevirtual 124, 3) := by decide +kernel
theorem dX3_findTake_34 : decode cX3_findTake 34 = .ok (.putfield 127, 3) := by decide +kernel
theorem dX3_findTake_37 : decode cX3_findTake 37 = .ok (.iconst 0, 1) := by decide +kernel
theorem dX3_findTake_38 : decode cX3_findTake 38 = .ok (.istore_n 3, 1) := by decide +kernel
theorem dX3_findTake_39 : decode cX3_findTake 39 = .ok (.iload_n 3, 1) := by decide +kernel
theorem dX3_findTake_40 : decode cX3_findTake 40 = .ok (.aload_n 0, 1) := by decide +kernel
theorem dX3_findTake_41 : decode cX3_findTake 41 = .ok (.getfield 15, 3) := by decide +kernel
theorem dX3_findTake_44 : decode cX3_findTake 44 = .ok (.getfield 130, 3) := by decide +kernel
theorem dX3_findTake_47 : decode cX3_findTake 47 = .ok (.if_icmp .ge 37, 3) := by decide +kernel
theorem dX3_findTake_50 : decode cX3_findTake 50 = .ok (.aload_n 0, 1) := by decide +kernel
theorem dX3_findTake_51 : decode cX3_findTake 51 = .ok (.iload_n 2, 1) := by decide +kernel
theorem dX3_findTake_52 : decode cX3_findTake 52 = .ok (.iload_n 3, 1) := by decide +kernel
theorem dX3_findTake_53 : decode cX3_findTake 53 = .ok (.invokevirtual 124, 3) := by decide +kernel
theorem dX3_findTake_56 : decode cX3_findTake 56 = .ok (.istore 4, 2) := by decide +kernel
theorem dX3_findTake_58 : decode cX3_findTake 58 = .ok (.iload 4, 2) := by decide +kernel
theorem dX3_findTake_60 : decode cX3_findTake 60 = .ok (.aload_n 0, 1) := by decide +kernel
theorem dX3_findTake_61 : decode cX3_findTake 61 = .ok (.getfield 127, 3) := by decide +kernel
theorem dX3_findTake_64 : decode cX3_findTake 64 = .ok (.if_icmp .le 14, 3) := by decide +kernel
theorem dX3_findTake_67 : decode cX3_findTake 67 = .ok (.aload_n 0, 1) := by decide +kernel
theorem dX3_findTake_68 : decode cX3_findTake 68 = .ok (.iload 4, 2) := by decide +kernel
theorem dX3_findTake_70 : decode cX3_findTake 70 = .ok (.putfield 127, 3) := by decide +kernel
theorem dX3_findTake_73 : decode cX3_findTake 73 = .ok (.aload_n 0, 1) := by decide +kernel
theorem dX3_findTake_74 : decode cX3_findTake 74 = .ok (.iload_n 3, 1) := by decide +kernel
theorem dX3_findTake_75 : decode cX3_findTake 75 = .ok (.putfield 121, 3) := by decide +kernel
theorem dX3_findTake_78 : decode cX3_findTake 78 = .ok (.iinc 3 1, 3) := by decide +kernel
theorem dX3_findTake_81 : decode cX3_findTake 81 = .ok (.goto (-42), 3) := by decide +kernel
theorem dX3_findTake_84 : decode cX3_findTake 84 = .ok (.return_, 1) := by decide +kernel
theorem dX3_milesAfloat_0 : decode cX3_milesAfloat 0 = .ok (.aload_n 0, 1) := by decide +kernel
theorem dX3_milesAfloat_1 : decode cX3_milesAfloat 1 = .ok (.getfield 26, 3) := by decide +kernel
theorem dX3_milesAfloat_4 : decode cX3_milesAfloat 4 = .ok (.aload_n 0, 1) := by decide +kernel
theorem dX3_milesAfloat_5 : decode cX3_milesAfloat 5 = .ok (.getfield 25, 3) := by decide +kernel
theorem dX3_milesAfloat_8 : decode cX3_milesAfloat 8 = .ok (.iload_n 1, 1) := by decide +kernel
theorem dX3_milesAfloat_9 : decode cX3_milesAfloat 9 = .ok (.invokevirtual 133, 3) := by decide +kernel
theorem dX3_milesAfloat_12 : decode cX3_milesAfloat 12 = .ok (.istore_n 3, 1) := by decide +kernel
theorem dX3_milesAfloat_13 : decode cX3_milesAfloat 13 = .ok (.iconst 0, 1) := by decide +kernel
theorem dX3_milesAfloat_14 : decode cX3_milesAfloat 14 = .ok (.istore 4, 2) := by decide +kernel
theorem dX3_milesAfloat_16 : decode cX3_milesAfloat 16 = .ok (.iload 4, 2) := by decide +kernel
theorem dX3_milesAfloat_18 : decode cX3_milesAfloat 18 = .ok (.bipush 100, 2) := by decide +kernel
theorem dX3_milesAfloat_20 : decode cX3_milesAfloat 20 = .ok (.if_icmp .ge 81, 3) := by decide +kernel
theorem dX3_milesAfloat_23 : decode cX3_milesAfloat 23 = .ok (.aload_n 0, 1) := by decide +kernel
theorem dX3_milesAfloat_24 : decode cX3_milesAfloat 24 = .ok (.getfield 25, 3) := by decide +kernel
theorem dX3_milesAfloat_27 : decode cX3_milesAfloat 27 = .ok (.iload_n 1, 1) := by decide +kernel
theorem dX3_milesAfloat_28 : decode cX3_milesAfloat 28 = .ok (.iload 4, 2) := by decide +kernel
theorem dX3_milesAfloat_30 : decode cX3_milesAfloat 30 = .ok (.invokevirtual 36, 3) := by decide +kernel
theorem dX3_milesAfloat_33 : decode cX3_milesAfloat 33 = .ok (.iload_n 3, 1) := by decide +kernel
theorem dX3_milesAfloat_34 : decode cX3_milesAfloat 34 = .ok (.isub, 1) := by decide +kernel
theorem dX3_milesAfloat_35 : decode cX3_milesAfloat 35 = .ok (.istore 5, 2) := by decide +kernel
theorem dX3_milesAfloat_37 : decode cX3_milesAfloat 37 = .ok (.iload_n 2, 1) := by decide +kernel
theorem dX3_milesAfloat_38 : decode cX3_milesAfloat 38 = .ok (.iconst (-1), 1) := by decide +kernel
theorem dX3_milesAfloat_39 : decode cX3_milesAfloat 39 = .ok (.if_icmp .eq 48, 3) := by decide +kernel
theorem dX3_milesAfloat_42 : decode cX3_milesAfloat 42 = .ok (.aload_n 0, 1) := by decide +kernel
theorem dX3_milesAfloat_43 : decode cX3_milesAfloat 43 = .ok (.getfield 15, 3) := by decide +kernel
theorem dX3_milesAfloat_46 : decode cX3_milesAfloat 46 = .ok (.getfield 137, 3) := by decide +kernel
theorem dX3_milesAfloat_49 : decode cX3_milesAfloat 49 = .ok (.iload_n 2, 1) := by decide +kernel
theorem dX3_milesAfloat_50 : decode cX3_milesAfloat 50 = .ok (.iaload, 1) := by decide +kernel
theorem dX3_milesAfloat_51 : decode cX3_milesAfloat 51 = .ok (.iload 4, 2) := by decide +kernel
theorem dX3_milesAfloat_53 : decode cX3_milesAfloat 53 = .ok (.aload_n 0, 1) := by decide +kernel
theorem dX3_milesAfloat_54 : decode cX3_milesAfloat 54 = .ok (.getfield 15, 3) := by decide +kernel
theorem dX3_milesAfloat_57 : decode cX3_milesAfloat 57 = .ok (.getfield 140, 3) := by decide +kernel
theorem dX3_milesAfloat_60 : decode cX3_milesAfloat 60 = .ok (.iload_n 2, 1) := by decide +kernel
theorem dX3_milesAfloat_61 : decode cX3_milesAfloat 61 = .ok (.iaload, 1) := by decide +kernel
theorem dX3_milesAfloat_62 : decode cX3_milesAfloat 62 = .ok (.imul, 1) := by decide +kernel
theorem dX3_milesAfloat_63 : decode cX3_milesAfloat 63 = .ok (.isub, 1) := by decide +kernel
theorem dX3_milesAfloat_64 : decode cX3_milesAfloat 64 = .ok (.istore 6, 2) := by decide +kernel
theorem dX3_milesAfloat_66 : decode cX3_milesAfloat 66 = .ok (.iload 5, 2) := by decide +kernel
theorem dX3_milesAfloat_68 : decode cX3_milesAfloat 68 = .ok (.iconst 0, 1) := by decide +kernel
theorem dX3_milesAfloat_69 : decode cX3_milesAfloat 69 = .ok (.iload 6, 2) := by decide +kernel
theorem dX3_milesAfloat_71 : decode cX3_milesAfloat 71 = .ok (.invokestatic 143, 3) := by decide +kernel
theorem dX3_milesAfloat_74 : decode cX3_milesAfloat 74 = .ok (.aload_n 0, 1) := by decide +kernel
theorem dX3_milesAfloat_75 : decode cX3_milesAfloat 75 = .ok (.getfield 15, 3) := by decide +kernel
theorem dX3_milesAfloat_78 : decode cX3_milesAfloat 78 = .ok (.getfield 146, 3) := by decide +kernel
theorem dX3_milesAfloat_81 : decode cX3_milesAfloat 81 = .ok (.iload_n 2, 1) := by decide +kernel
theorem dX3_milesAfloat_82 : decode cX3_milesAfloat 82 = .ok (.iaload, 1) := by decide +kernel
theorem dX3_milesAfloat_83 : decode cX3_milesAfloat 83 = .ok (.isub, 1) := by decide +kernel
theorem dX3_milesAfloat_84 : decode cX3_milesAfloat 84 = .ok (.iadd, 1) := by decide +kernel
theorem dX3_milesAfloat_85 : decode cX3_milesAfloat 85 = .ok (.istore 5, 2) := by decide +kernel
theorem dX3_milesAfloat_87 : decode cX3_milesAfloat 87 = .ok (.iload 5, 2) := by decide +kernel
theorem dX3_milesAfloat_89 : decode cX3_milesAfloat 89 = .ok (.ifCond .ge 6, 3) := by decide +kernel
theorem dX3_milesAfloat_92 : decode cX3_milesAfloat 92 = .ok (.iload 4, 2) := by decide +kernel
theorem dX3_milesAfloat_94 : decode cX3_milesAfloat 94 = .ok (.ireturn, 1) := by decide +kernel
theorem dX3_milesAfloat_95 : decode cX3_milesAfloat 95 = .ok (.iinc 4 1, 3) := by decide +kernel
theorem dX3_milesAfloat_98 : decode cX3_milesAfloat 98 = .ok (.goto (-82), 3) := by decide +kernel
theorem dX3_milesAfloat_101 : decode cX3_milesAfloat 101 = .ok (.bipush 100, 2) := by decide +kernel
theorem dX3_milesAfloat_103 : decode cX3_milesAfloat 103 = .ok (.ireturn, 1) := by decide +kernel
theorem dX3_winningMove_0 : decode cX3_winningMove 0 = .ok (.aload_n 0, 1) := by decide +kernel
theorem dX3_winningMove_1 : decode cX3_winningMove 1 = .ok (.getfield 26, 3) := by decide +kernel
theorem dX3_winningMove_4 : decode cX3_winningMove 4 = .ok (.aload_n 0, 1) := by decide +kernel
theorem dX3_winningMove_5 : decode cX3_winningMove 5 = .ok (.getfield 25, 3) := by decide +kernel
theorem dX3_winningMove_8 : decode cX3_winningMove 8 = .ok (.iconst 0, 1) := by decide +kernel
theorem dX3_winningMove_9 : decode cX3_winningMove 9 = .ok (.invokevirtual 71, 3) := by decide +kernel
theorem dX3_winningMove_12 : decode cX3_winningMove 12 = .ok (.aload_n 0, 1) := by decide +kernel
theorem dX3_winningMove_13 : decode cX3_winningMove 13 = .ok (.getfield 26, 3) := by decide +kernel
theorem dX3_winningMove_16 : decode cX3_winningMove 16 = .ok (.getfield 81, 3) := by decide +kernel
theorem dX3_winningMove_19 : decode cX3_winningMove 19 = .ok (.iload_n 1, 1) := by decide +kernel
theorem dX3_winningMove_20 : decode cX3_winningMove 20 = .ok (.iaload, 1) := by decide +kernel
theorem dX3_winningMove_21 : decode cX3_winningMove 21 = .ok (.istore_n 2, 1) := by decide +kernel
theorem dX3_winningMove_22 : decode cX3_winningMove 22 = .ok (.iconst 0, 1) := by decide +kernel
theorem dX3_winningMove_23 : decode cX3_winningMove 23 = .ok (.istore_n 3, 1) := by decide +kernel
theorem dX3_winningMove_24 : decode cX3_winningMove 24 = .ok (.iload_n 3, 1) := by decide +kernel
theorem dX3_winningMove_25 : decode cX3_winningMove 25 = .ok (.iload_n 2, 1) := by decide +kernel
theorem dX3_winningMove_26 : decode cX3_winningMove 26 = .ok (.if_icmp .gt 28, 3) := by decide +kernel
theorem dX3_winningMove_29 : decode cX3_winningMove 29 = .ok (.iload_n 3, 1) := by decide +kernel
theorem dX3_winningMove_30 : decode cX3_winningMove 30 = .ok (.iload_n 2, 1) := by decide +kernel
theorem dX3_winningMove_31 : decode cX3_winningMove 31 = .ok (.iconst (-1), 1) := by decide +kernel
theorem dX3_winningMove_32 : decode cX3_winningMove 32 = .ok (.ixor, 1) := by decide +kernel
theorem dX3_winningMove_33 : decode cX3_winningMove 33 = .ok (.iand, 1) := by decide +kernel
theorem dX3_winningMove_34 : decode cX3_winningMove 34 = .ok (.ifCond .ne 14, 3) := by decide +kernel
theorem dX3_winningMove_37 : decode cX3_winningMove 37 = .ok (.aload_n 0, 1) := by decide +kernel
theorem dX3_winningMove_38 : decode cX3_winningMove 38 = .ok (.getfield 9, 3) := by decide +kernel
theorem dX3_winningMove_41 : decode cX3_winningMove 41 = .ok (.iload_n 3, 1) := by decide +kernel
theorem dX3_winningMove_42 : decode cX3_winningMove 42 = .ok (.aload_n 0, 1) := by decide +kernel
theorem dX3_winningMove_43 : decode cX3_winningMove 43 = .ok (.iload_n 3, 1) := by decide +kernel
theorem dX3_winningMove_44 : decode cX3_winningMove 44 = .ok (.invokevirtual 149, 3) := by decide +kernel
theorem dX3_winningMove_47 : decode cX3_winningMove 47 = .ok (.iastore, 1) := by decide +kernel
theorem dX3_winningMove_48 : decode cX3_winningMove 48 = .ok (.iinc 3 1, 3) := by decide +kernel
theorem dX3_winningMove_51 : decode cX3_winningMove 51 = .ok (.goto (-27), 3) := by decide +kernel
theorem dX3_winningMove_54 : decode cX3_winningMove 54 = .ok (.aload_n 0, 1) := by decide +kernel
theorem dX3_winningMove_55 : decode cX3_winningMove 55 = .ok (.getfield 9, 3) := by decide +kernel
theorem dX3_winningMove_58 : decode cX3_winningMove 58 = .ok (.iload_n 2, 1) := by decide +kernel
theorem dX3_winningMove_59 : decode cX3_winningMove 59 = .ok (.iaload, 1) := by decide +kernel
theorem dX3_winningMove_60 : decode cX3_winningMove 60 = .ok (.ireturn, 1) := by decide +kernel
theorem dX3_moveFrom_0 : decode cX3_moveFrom 0 = .ok (.iconst 0, 1) := by decide +kernel
theorem dX3_moveFrom_1 : decode cX3_moveFrom 1 = .ok (.istore_n 2, 1) := by decide +kernel
theorem dX3_moveFrom_2 : decode cX3_moveFrom 2 = .ok (.iload_n 2, 1) := by decide +kernel
theorem dX3_moveFrom_3 : decode cX3_moveFrom 3 = .ok (.bipush 8, 2) := by decide +kernel
theorem dX3_moveFrom_5 : decode cX3_moveFrom 5 = .ok (.if_icmp .ge 46, 3) := by decide +kernel
theorem dX3_moveFrom_8 : decode cX3_moveFrom 8 = .ok (.iload_n 1, 1) := by decide +kernel
theorem dX3_moveFrom_9 : decode cX3_moveFrom 9 = .ok (.iconst 1, 1) := by decide +kernel
theorem dX3_moveFrom_10 : decode cX3_moveFrom 10 = .ok (.iload_n 2, 1) := by decide +kernel
theorem dX3_moveFrom_11 : decode cX3_moveFrom 11 = .ok (.ishl, 1) := by decide +kernel
theorem dX3_moveFrom_12 : decode cX3_moveFrom 12 = .ok (.iconst (-1), 1) := by decide +kernel
theorem dX3_moveFrom_13 : decode cX3_moveFrom 13 = .ok (.ixor, 1) := by decide +kernel
theorem dX3_moveFrom_14 : decode cX3_moveFrom 14 = .ok (.iand, 1) := by decide +kernel
theorem dX3_moveFrom_15 : decode cX3_moveFrom 15 = .ok (.istore_n 3, 1) := by decide +kernel
theorem dX3_moveFrom_16 : decode cX3_moveFrom 16 = .ok (.iload_n 3, 1) := by decide +kernel
theorem dX3_moveFrom_17 : decode cX3_moveFrom 17 = .ok (.iload_n 1, 1) := by decide +kernel
theorem dX3_moveFrom_18 : decode cX3_moveFrom 18 = .ok (.if_icmp .eq 27, 3) := by decide +kernel
theorem dX3_moveFrom_21 : decode cX3_moveFrom 21 = .ok (.aload_n 0, 1) := by decide +kernel
theorem dX3_moveFrom_22 : decode cX3_moveFrom 22 = .ok (.getfield 9, 3) := by decide +kernel
theorem dX3_moveFrom_25 : decode cX3_moveFrom 25 = .ok (.iload_n 3, 1) := by decide +kernel
theorem dX3_moveFrom_26 : decode cX3_moveFrom 26 = .ok (.iaload, 1) := by decide +kernel
theorem dX3_moveFrom_27 : decode cX3_moveFrom 27 = .ok (.iconst (-1), 1) := by decide +kernel
theorem dX3_moveFrom_28 : decode cX3_moveFrom 28 = .ok (.if_icmp .ne 17, 3) := by decide +kernel
theorem dX3_moveFrom_31 : decode cX3_moveFrom 31 = .ok (.aload_n 0, 1) := by decide +kernel
theorem dX3_moveFrom_32 : decode cX3_moveFrom 32 = .ok (.getfield 25, 3) := by decide +kernel
theorem dX3_moveFrom_35 : decode cX3_moveFrom 35 = .ok (.iload_n 3, 1) := by decide +kernel
theorem dX3_moveFrom_36 : decode cX3_moveFrom 36 = .ok (.iconst 0, 1) := by decide +kernel
theorem dX3_moveFrom_37 : decode cX3_moveFrom 37 = .ok (.invokevirtual 36, 3) := by decide +kernel
theorem dX3_moveFrom_40 : decode cX3_moveFrom 40 = .ok (.ifCond .lt 5, 3) := by decide +kernel
theorem dX3_moveFrom_43 : decode cX3_moveFrom 43 = .ok (.iload_n 2, 1) := by decide +kernel
theorem dX3_moveFrom_44 : decode cX3_moveFrom 44 = .ok (.ireturn, 1) := by decide +kernel
theorem dX3_moveFrom_45 : decode cX3_moveFrom 45 = .ok (.iinc 2 1, 3) := by decide +kernel
theorem dX3_moveFrom_48 : decode cX3_moveFrom 48 = .ok (.goto (-46), 3) := by decide +kernel
theorem dX3_moveFrom_51 : decode cX3_moveFrom 51 = .ok (.iconst (-1), 1) := by decide +kernel
theorem dX3_moveFrom_52 : decode cX3_moveFrom 52 = .ok (.ireturn, 1) := by decide +kernel
theorem dX4_init_0 : decode cX4_init 0 = .ok (.aload_n 0, 1) := by decide +kernel
theorem dX4_init_1 : decode cX4_init 1 = .ok (.invokespecial 3, 3) := by decide +kernel
theorem dX4_init_4 : decode cX4_init 4 = .ok (.aload_n 0, 1) := by decide +kernel
theorem dX4_init_5 : decode cX4_init 5 = .ok (.bipush 6, 2) := by decide +kernel
theorem dX4_init_7 : decode cX4_init 7 = .ok (.newarray .int, 2) := by decide +kernel
theorem dX4_init_9 : decode cX4_init 9 = .ok (.putfield 9, 3) := by decide +kernel
theorem dX4_init_12 : decode cX4_init 12 = .ok (.aload_n 0, 1) := by decide +kernel
theorem dX4_init_13 : decode cX4_init 13 = .ok (.bipush 8, 2) := by decide +kernel
theorem dX4_init_15 : decode cX4_init 15 = .ok (.newarray .int, 2) := by decide +kernel
theorem dX4_init_17 : decode cX4_init 17 = .ok (.putfield 15, 3) := by decide +kernel
theorem dX4_init_20 : decode cX4_init 20 = .ok (.aload_n 0, 1) := by decide +kernel
theorem dX4_init_21 : decode cX4_init 21 = .ok (.bipush 8, 2) := by decide +kernel
theorem dX4_init_23 : decode cX4_init 23 = .ok (.newarray .int, 2) := by decide +kernel
theorem dX4_init_25 : decode cX4_init 25 = .ok (.putfield 18, 3) := by decide +kernel
theorem dX4_init_28 : decode cX4_init 28 = .ok (.aload_n 0, 1) := by decide +kernel
theorem dX4_init_29 : decode cX4_init 29 = .ok (.bipush 8, 2) := by decide +kernel
theorem dX4_init_31 : decode cX4_init 31 = .ok (.newarray .int, 2) := by decide +kernel
theorem dX4_init_33 : decode cX4_init 33 = .ok (.putfield 21, 3) := by decide +kernel
theorem dX4_init_36 : decode cX4_init 36 = .ok (.aload_n 0, 1) := by decide +kernel
theorem dX4_init_37 : decode cX4_init 37 = .ok (.bipush 8, 2) := by decide +kernel
theorem dX4_init_39 : decode cX4_init 39 = .ok (.newarray .int, 2) := by decide +kernel
theorem dX4_init_41 : decode cX4_init 41 = .ok (.putfield 24, 3) := by decide +kernel
theorem dX4_init_44 : decode cX4_init 44 = .ok (.aload_n 0, 1) := by decide +kernel
theorem dX4_init_45 : decode cX4_init 45 = .ok (.bipush 12, 2) := by decide +kernel
theorem dX4_init_47 : decode cX4_init 47 = .ok (.newarray .int, 2) := by decide +kernel
theorem dX4_init_49 : decode cX4_init 49 = .ok (.putfield 27, 3) := by decide +kernel
theorem dX4_init_52 : decode cX4_init 52 = .ok (.aload_n 0, 1) := by decide +kernel
theorem dX4_init_53 : decode cX4_init 53 = .ok (.bipush 12, 2) := by decide +kernel
theorem dX4_init_55 : decode cX4_init 55 = .ok (.newarray .int, 2) := by decide +kernel
theorem dX4_init_57 : decode cX4_init 57 = .ok (.putfield 30, 3) := by decide +kernel
theorem dX4_init_60 : decode cX4_init 60 = .ok (.aload_n 0, 1) := by decide +kernel
theorem dX4_init_61 : decode cX4_init 61 = .ok (.bipush 12, 2) := by decide +kernel
theorem dX4_init_63 : decode cX4_init 63 = .ok (.newarray .int, 2) := by decide +kernel
theorem dX4_init_65 : decode cX4_init 65 = .ok (.putfield 33, 3) := by decide +kernel
theorem dX4_init_68 : decode cX4_init 68 = .ok (.aload_n 0, 1) := by decide +kernel
theorem dX4_init_69 : decode cX4_init 69 = .ok (.aload_n 1, 1) := by decide +kernel
theorem dX4_init_70 : decode cX4_init 70 = .ok (.putfield 36, 3) := by decide +kernel
theorem dX4_init_73 : decode cX4_init 73 = .ok (.return_, 1) := by decide +kernel
theorem dX4_clear_0 : decode cX4_clear 0 = .ok (.aload_n 0, 1) := by decide +kernel
theorem dX4_clear_1 : decode cX4_clear 1 = .ok (.iconst 0, 1) := by decide +kernel
theorem dX4_clear_2 : decode cX4_clear 2 = .ok (.putfield 40, 3) := by decide +kernel
theorem dX4_clear_5 : decode cX4_clear 5 = .ok (.aload_n 0, 1) := by decide +kernel
theorem dX4_clear_6 : decode cX4_clear 6 = .ok (.iconst 0, 1) := by decide +kernel
theorem dX4_clear_7 : decode cX4_clear 7 = .ok (.putfield 44, 3) := by decide +kernel
theorem dX4_clear_10 : decode cX4_clear 10 = .ok (.aload_n 0, 1) := by decide +kernel
theorem dX4_clear_11 : decode cX4_clear 11 = .ok (.iconst 0, 1) := by decide +kernel
theorem dX4_clear_12 : decode cX4_clear 12 = .ok (.putfield 47, 3) := by decide +kernel
theorem dX4_clear_15 : decode cX4_clear 15 = .ok (.aload_n 0, 1) := by decide +kernel
theorem dX4_clear_16 : decode cX4_clear 16 = .ok (.getfield 9, 3) := by decide +kernel
theorem dX4_clear_19 : decode cX4_clear 19 = .ok (.iconst 0, 1) := by decide +kernel
theorem dX4_clear_20 : decode cX4_clear 20 = .ok (.invokestatic 50, 3) := by decide +kernel
theorem dX4_clear_23 : decode cX4_clear 23 = .ok (.aload_n 0, 1) := by decide +kernel
theorem dX4_clear_24 : decode cX4_clear 24 = .ok (.getfield 21, 3) := by decide +kernel
theorem dX4_clear_27 : decode cX4_clear 27 = .ok (.iconst 0, 1) := by decide +kernel
theorem dX4_clear_28 : decode cX4_clear 28 = .ok (.invokestatic 50, 3) := by decide +kernel
theorem dX4_clear_31 : decode cX4_clear 31 = .ok (.aload_n 0, 1) := by decide +kernel
theorem dX4_clear_32 : decode cX4_clear 32 = .ok (.getfield 24, 3) := by decide +kernel
theorem dX4_clear_35 : decode cX4_clear 35 = .ok (.iconst 0, 1) := by decide +kernel
theorem dX4_clear_36 : decode cX4_clear 36 = .ok (.invokestatic 50, 3) := by decide +kernel
theorem dX4_clear_39 : decode cX4_clear 39 = .ok (.return_, 1) := by decide +kernel
theorem dX4_copyFrom_0 : decode cX4_copyFrom 0 = .ok (.aload_n 0, 1) := by decide +kernel
theorem dX4_copyFrom_1 : decode cX4_copyFrom 1 = .ok (.aload_n 1, 1) := by decide +kernel
theorem dX4_copyFrom_2 : decode cX4_copyFrom 2 = .ok (.getfield 40, 3) := by decide +kernel
theorem dX4_copyFrom_5 : decode cX4_copyFrom 5 = .ok (.putfield 40, 3) := by decide +kernel
theorem dX4_copyFrom_8 : decode cX4_copyFrom 8 = .ok (.aload_n 0, 1) := by decide +kernel
theorem dX4_copyFrom_9 : decode cX4_copyFrom 9 = .ok (.aload_n 1, 1) := by decide +kernel
theorem dX4_copyFrom_10 : decode cX4_copyFrom 10 = .ok (.getfield 44, 3) := by decide +kernel
theorem dX4_copyFrom_13 : decode cX4_copyFrom 13 = .ok (.putfield 44, 3) := by decide +kernel
theorem dX4_copyFrom_16 : decode cX4_copyFrom 16 = .ok (.aload_n 0, 1) := by decide +kernel
theorem dX4_copyFrom_17 : decode cX4_copyFrom 17 = .ok (.aload_n 1, 1) := by decide +kernel
theorem dX4_copyFrom_18 : decode cX4_copyFrom 18 = .ok (.getfield 47, 3) := by decide +kernel
theorem dX4_copyFrom_21 : decode cX4_copyFrom 21 = .ok (.putfield 47, 3) := by decide +kernel
theorem dX4_copyFrom_24 : decode cX4_copyFrom 24 = .ok (.aload_n 1, 1) := by decide +kernel
theorem dX4_copyFrom_25 : decode cX4_copyFrom 25 = .ok (.getfield 9, 3) := by decide +kernel
theorem dX4_copyFrom_28 : decode cX4_copyFrom 28 = .ok (.iconst 0, 1) := by decide +kernel
theorem dX4_copyFrom_29 : decode cX4_copyFrom 29 = .ok (.aload_n 0, 1) := by decide +kernel
theorem dX4_copyFrom_30 : decode cX4_copyFrom 30 = .ok (.getfield 9, 3) := by decide +kernel
theorem dX4_copyFrom_33 : decode cX4_copyFrom 33 = .ok (.iconst 0, 1) := by decide +kernel
theorem dX4_copyFrom_34 : decode cX4_copyFrom 34 = .ok (.bipush 6, 2) := by decide +kernel
theorem dX4_copyFrom_36 : decode cX4_copyFrom 36 = .ok (.invokestatic 56, 3) := by decide +kernel
theorem dX4_copyFrom_39 : decode cX4_copyFrom 39 = .ok (.aload_n 1, 1) := by decide +kernel
theorem dX4_copyFrom_40 : decode cX4_copyFrom 40 = .ok (.getfield 15, 3) := by decide +kernel
theorem dX4_copyFrom_43 : decode cX4_copyFrom 43 = .ok (.iconst 0, 1) := by decide +kernel
theorem dX4_copyFrom_44 : decode cX4_copyFrom 44 = .ok (.aload_n 0, 1) := by decide +kernel
theorem dX4_copyFrom_45 : decode cX4_copyFrom 45 = .ok (.getfield 15, 3) := by decide +kernel
theorem dX4_copyFrom_48 : decode cX4_copyFrom 48 = .ok (.iconst 0, 1) := by decide +kernel
theorem dX4_copyFrom_49 : decode cX4_copyFrom 49 = .ok (.bipush 8, 2) := by decide +kernel
theorem dX4_copyFrom_51 : decode cX4_copyFrom 51 = .ok (.invokestatic 56, 3) := by decide +kernel
theorem dX4_copyFrom_54 : decode cX4_copyFrom 54 = .ok (.aload_n 1, 1) := by decide +kernel
theorem dX4_copyFrom_55 : decode cX4_copyFrom 55 = .ok (.getfield 18, 3) := by decide +kernel
theorem dX4_copyFrom_58 : decode cX4_copyFrom 58 = .ok (.iconst 0, 1) := by decide +kernel
theorem dX4_copyFrom_59 : decode cX4_copyFrom 59 = .ok (.aload_n 0, 1) := by decide +kernel
theorem dX4_copyFrom_60 : decode cX4_copyFrom 60 = .ok (.getfield 18, 3) := by decide +kernel
theorem dX4_copyFrom_63 : decode cX4_copyFrom 63 = .ok (.iconst 0, 1) := by decide +kernel
theorem dX4_copyFrom_64 : decode cX4_copyFrom 64 = .ok (.bipush 8, 2) := by decide +kernel
theorem dX4_copyFrom_66 : decode cX4_copyFrom 66 = .ok (.invokestatic 56, 3) := by decide +kernel
theorem dX4_copyFrom_69 : decode cX4_copyFrom 69 = .ok (.aload_n 1, 1) := by decide +kernel
theorem dX4_copyFrom_70 : decode cX4_copyFrom 70 = .ok (.getfield 21, 3) := by decide +kernel
theorem dX4_copyFrom_73 : decode cX4_copyFrom 73 = .ok (.iconst 0, 1) := by decide +kernel
theorem dX4_copyFrom_74 : decode cX4_copyFrom 74 = .ok (.aload_n 0, 1) := by decide +kernel
theorem dX4_copyFrom_75 : decode cX4_copyFrom 75 = .ok (.getfield 21, 3) := by decide +kernel
theorem dX4_copyFrom_78 : decode cX4_copyFrom 78 = .ok (.iconst 0, 1) := by decide +kernel
theorem dX4_copyFrom_79 : decode cX4_copyFrom 79 = .ok (.bipush 8, 2) := by decide +kernel
theorem dX4_copyFrom_81 : decode cX4_copyFrom 81 = .ok (.invokestatic 56, 3) := by decide +kernel
theorem dX4_copyFrom_84 : decode cX4_copyFrom 84 = .ok (.aload_n 1, 1) := by decide +kernel
theorem dX4_copyFrom_85 : decode cX4_copyFrom 85 = .ok (.getfield 24, 3) := by decide +kernel
theorem dX4_copyFrom_88 : decode cX4_copyFrom 88 = .ok (.iconst 0, 1) := by decide +kernel
theorem dX4_copyFrom_89 : decode cX4_copyFrom 89 = .ok (.aload_n 0, 1) := by decide +kernel
theorem dX4_copyFrom_90 : decode cX4_copyFrom 90 = .ok (.getfield 24, 3) := by decide +kernel
theorem dX4_copyFrom_93 : decode cX4_copyFrom 93 = .ok (.iconst 0, 1) := by decide +kernel
theorem dX4_copyFrom_94 : decode cX4_copyFrom 94 = .ok (.bipush 8, 2) := by decide +kernel
theorem dX4_copyFrom_96 : decode cX4_copyFrom 96 = .ok (.invokestatic 56, 3) := by decide +kernel
theorem dX4_copyFrom_99 : decode cX4_copyFrom 99 = .ok (.aload_n 1, 1) := by decide +kernel
theorem dX4_copyFrom_100 : decode cX4_copyFrom 100 = .ok (.getfield 27, 3) := by decide +kernel
theorem dX4_copyFrom_103 : decode cX4_copyFrom 103 = .ok (.iconst 0, 1) := by decide +kernel
theorem dX4_copyFrom_104 : decode cX4_copyFrom 104 = .ok (.aload_n 0, 1) := by decide +kernel
theorem dX4_copyFrom_105 : decode cX4_copyFrom 105 = .ok (.getfield 27, 3) := by decide +kernel
theorem dX4_copyFrom_108 : decode cX4_copyFrom 108 = .ok (.iconst 0, 1) := by decide +kernel
theorem dX4_copyFrom_109 : decode cX4_copyFrom 109 = .ok (.bipush 12, 2) := by decide +kernel
theorem dX4_copyFrom_111 : decode cX4_copyFrom 111 = .ok (.invokestatic 56, 3) := by decide +kernel
theorem dX4_copyFrom_114 : decode cX4_copyFrom 114 = .ok (.aload_n 1, 1) := by decide +kernel
theorem dX4_copyFrom_115 : decode cX4_copyFrom 115 = .ok (.getfield 30, 3) := by decide +kernel
theorem dX4_copyFrom_118 : decode cX4_copyFrom 118 = .ok (.iconst 0, 1) := by decide +kernel
theorem dX4_copyFrom_119 : decode cX4_copyFrom 119 = .ok (.aload_n 0, 1) := by decide +kernel
theorem dX4_copyFrom_120 : decode cX4_copyFrom 120 = .ok (.getfield 30, 3) := by decide +kernel
theorem dX4_copyFrom_123 : decode cX4_copyFrom 123 = .ok (.iconst 0, 1) := by decide +kernel
theorem dX4_copyFrom_124 : decode cX4_copyFrom 124 = .ok (.bipush 12, 2) := by decide +kernel
theorem dX4_copyFrom_126 : decode cX4_copyFrom 126 = .ok (.invokestatic 56, 3) := by decide +kernel
theorem dX4_copyFrom_129 : decode cX4_copyFrom 129 = .ok (.aload_n 1, 1) := by decide +kernel
theorem dX4_copyFrom_130 : decode cX4_copyFrom 130 = .ok (.getfield 33, 3) := by decide +kernel
theorem dX4_copyFrom_133 : decode cX4_copyFrom 133 = .ok (.iconst 0, 1) := by decide +kernel
theorem dX4_copyFrom_134 : decode cX4_copyFrom 134 = .ok (.aload_n 0, 1) := by decide +kernel
theorem dX4_copyFrom_135 : decode cX4_copyFrom 135 = .ok (.getfield 33, 3) := by decide +kernel
theorem dX4_copyFrom_138 : decode cX4_copyFrom 138 = .ok (.iconst 0, 1) := by decide +kernel
theorem dX4_copyFrom_139 : decode cX4_copyFrom 139 = .ok (.bipush 12, 2) := by decide +kernel
theorem dX4_copyFrom_141 : decode cX4_copyFrom 141 = .ok (.invokestatic 56, 3) := by decide +kernel
theorem dX4_copyFrom_144 : decode cX4_copyFrom 144 = .ok (.return_, 1) := by decide +kernel
theorem dX4_milesLeft_0 : decode cX4_milesLeft 0 = .ok (.aload_n 0, 1) := by decide +kernel
theorem dX4_milesLeft_1 : decode cX4_milesLeft 1 = .ok (.getfield 36, 3) := by decide +kernel
theorem dX4_milesLeft_4 : decode cX4_milesLeft 4 = .ok (.getfield 62, 3) := by decide +kernel
theorem dX4_milesLeft_7 : decode cX4_milesLeft 7 = .ok (.aload_n 0, 1) := by decide +kernel
theorem dX4_milesLeft_8 : decode cX4_milesLeft 8 = .ok (.getfield 40, 3) := by decide +kernel
theorem dX4_milesLeft_11 : decode cX4_milesLeft 11 = .ok (.isub, 1) := by decide +kernel
theorem dX4_milesLeft_12 : decode cX4_milesLeft 12 = .ok (.ireturn, 1) := by decide +kernel
theorem dX4_thingsAt_0 : decode cX4_thingsAt 0 = .ok (.iconst 0, 1) := by decide +kernel
theorem dX4_thingsAt_1 : decode cX4_thingsAt 1 = .ok (.istore_n 2, 1) := by decide +kernel
theorem dX4_thingsAt_2 : decode cX4_thingsAt 2 = .ok (.iconst 0, 1) := by decide +kernel
theorem dX4_thingsAt_3 : decode cX4_thingsAt 3 = .ok (.istore_n 3, 1) := by decide +kernel
theorem dX4_thingsAt_4 : decode cX4_thingsAt 4 = .ok (.iload_n 3, 1) := by decide +kernel
theorem dX4_thingsAt_5 : decode cX4_thingsAt 5 = .ok (.aload_n 0, 1) := by decide +kernel
theorem dX4_thingsAt_6 : decode cX4_thingsAt 6 = .ok (.getfield 36, 3) := by decide +kernel
theorem dX4_thingsAt_9 : decode cX4_thingsAt 9 = .ok (.getfield 67, 3) := by decide +kernel
theorem dX4_thingsAt_12 : decode cX4_thingsAt 12 = .ok (.if_icmp .ge 25, 3) := by decide +kernel
theorem dX4_thingsAt_15 : decode cX4_thingsAt 15 = .ok (.aload_n 0, 1) := by decide +kernel
theorem dX4_thingsAt_16 : decode cX4_thingsAt 16 = .ok (.getfield 21, 3) := by decide +kernel
theorem dX4_thingsAt_19 : decode cX4_thingsAt 19 = .ok (.iload_n 3, 1) := by decide +kernel
theorem dX4_thingsAt_20 : decode cX4_thingsAt 20 = .ok (.iaload, 1) := by decide +kernel
theorem dX4_thingsAt_21 : decode cX4_thingsAt 21 = .ok (.iload_n 1, 1) := by decide +kernel
theorem dX4_thingsAt_22 : decode cX4_thingsAt 22 = .ok (.if_icmp .ne 9, 3) := by decide +kernel
theorem dX4_thingsAt_25 : decode cX4_thingsAt 25 = .ok (.iload_n 2, 1) := by decide +kernel
theorem dX4_thingsAt_26 : decode cX4_thingsAt 26 = .ok (.iconst 1, 1) := by decide +kernel
theorem dX4_thingsAt_27 : decode cX4_thingsAt 27 = .ok (.iload_n 3, 1) := by decide +kernel
theorem dX4_thingsAt_28 : decode cX4_thingsAt 28 = .ok (.ishl, 1) := by decide +kernel
theorem dX4_thingsAt_29 : decode cX4_thingsAt 29 = .ok (.ior, 1) := by decide +kernel
theorem dX4_thingsAt_30 : decode cX4_thingsAt 30 = .ok (.istore_n 2, 1) := by decide +kernel
theorem dX4_thingsAt_31 : decode cX4_thingsAt 31 = .ok (.iinc 3 1, 3) := by decide +kernel
theorem dX4_thingsAt_34 : decode cX4_thingsAt 34 = .ok (.goto (-30), 3) := by decide +kernel
theorem dX4_thingsAt_37 : decode cX4_thingsAt 37 = .ok (.iload_n 2, 1) := by decide +kernel
theorem dX4_thingsAt_38 : decode cX4_thingsAt 38 = .ok (.ireturn, 1) := by decide +kernel
theorem dX4_ownersOf_0 : decode cX4_ownersOf 0 = .ok (.iconst 0, 1) := by decide +kernel
theorem dX4_ownersOf_1 : decode cX4_ownersOf 1 = .ok (.istore_n 2, 1) := by decide +kernel
theorem dX4_ownersOf_2 : decode cX4_ownersOf 2 = .ok (.iconst 0, 1) := by decide +kernel
theorem dX4_ownersOf_3 : decode cX4_ownersOf 3 = .ok (.istore_n 3, 1) := by decide +kernel
theorem dX4_ownersOf_4 : decode cX4_ownersOf 4 = .ok (.iload_n 3, 1) := by decide +kernel
theorem dX4_ownersOf_5 : decode cX4_ownersOf 5 = .ok (.aload_n 0, 1) := by decide +kernel
theorem dX4_ownersOf_6 : decode cX4_ownersOf 6 = .ok (.getfield 36, 3) := by decide +kernel
theorem dX4_ownersOf_9 : decode cX4_ownersOf 9 = .ok (.getfield 70, 3) := by decide +kernel
theorem dX4_ownersOf_12 : decode cX4_ownersOf 12 = .ok (.if_icmp .ge 25, 3) := by decide +kernel
theorem dX4_ownersOf_15 : decode cX4_ownersOf 15 = .ok (.aload_n 0, 1) := by decide +kernel
theorem dX4_ownersOf_16 : decode cX4_ownersOf 16 = .ok (.getfield 9, 3) := by decide +kernel
theorem dX4_ownersOf_19 : decode cX4_ownersOf 19 = .ok (.iload_n 3, 1) := by decide +kernel
theorem dX4_ownersOf_20 : decode cX4_ownersOf 20 = .ok (.iaload, 1) := by decide +kernel
theorem dX4_ownersOf_21 : decode cX4_ownersOf 21 = .ok (.iload_n 1, 1) := by decide +kernel
theorem dX4_ownersOf_22 : decode cX4_ownersOf 22 = .ok (.if_icmp .ne 9, 3) := by decide +kernel
theorem dX4_ownersOf_25 : decode cX4_ownersOf 25 = .ok (.iload_n 2, 1) := by decide +kernel
theorem dX4_ownersOf_26 : decode cX4_ownersOf 26 = .ok (.iconst 1, 1) := by decide +kernel
theorem dX4_ownersOf_27 : decode cX4_ownersOf 27 = .ok (.iload_n 3, 1) := by decide +kernel
theorem dX4_ownersOf_28 : decode cX4_ownersOf 28 = .ok (.ishl, 1) := by decide +kernel
theorem dX4_ownersOf_29 : decode cX4_ownersOf 29 = .ok (.ior, 1) := by decide +kernel
theorem dX4_ownersOf_30 : decode cX4_ownersOf 30 = .ok (.istore_n 2, 1) := by decide +kernel
theorem dX4_ownersOf_31 : decode cX4_ownersOf 31 = .ok (.iinc 3 1, 3) := by decide +kernel
theorem dX4_ownersOf_34 : decode cX4_ownersOf 34 = .ok (.goto (-30), 3) := by decide +kernel
theorem dX4_ownersOf_37 : decode cX4_ownersOf 37 = .ok (.iload_n 2, 1) := by decide +kernel
theorem dX4_ownersOf_38 : decode cX4_ownersOf 38 = .ok (.ireturn, 1) := by decide +kernel
theorem dX4_thingsOf_0 : decode cX4_thingsOf 0 = .ok (.iconst 0, 1) := by decide +kernel
theorem dX4_thingsOf_1 : decode cX4_thingsOf 1 = .ok (.istore_n 2, 1) := by decide +kernel
theorem dX4_thingsOf_2 : decode cX4_thingsOf 2 = .ok (.iconst 0, 1) := by decide +kernel
theorem dX4_thingsOf_3 : decode cX4_thingsOf 3 = .ok (.istore_n 3, 1) := by decide +kernel
theorem dX4_thingsOf_4 : decode cX4_thingsOf 4 = .ok (.iload_n 3, 1) := by decide +kernel
theorem dX4_thingsOf_5 : decode cX4_thingsOf 5 = .ok (.aload_n 0, 1) := by decide +kernel
theorem dX4_thingsOf_6 : decode cX4_thingsOf 6 = .ok (.getfield 36, 3) := by decide +kernel
theorem dX4_thingsOf_9 : decode cX4_thingsOf 9 = .ok (.getfield 67, 3) := by decide +kernel
theorem dX4_thingsOf_12 : decode cX4_thingsOf 12 = .ok (.if_icmp .ge 34, 3) := by decide +kernel
theorem dX4_thingsOf_15 : decode cX4_thingsOf 15 = .ok (.aload_n 0, 1) := by decide +kernel
theorem dX4_thingsOf_16 : decode cX4_thingsOf 16 = .ok (.getfield 15, 3) := by decide +kernel
theorem dX4_thingsOf_19 : decode cX4_thingsOf 19 = .ok (.iload_n 3, 1) := by decide +kernel
theorem dX4_thingsOf_20 : decode cX4_thingsOf 20 = .ok (.iaload, 1) := by decide +kernel
theorem dX4_thingsOf_21 : decode cX4_thingsOf 21 = .ok (.iload_n 1, 1) := by decide +kernel
theorem dX4_thingsOf_22 : decode cX4_thingsOf 22 = .ok (.if_icmp .ne 18, 3) := by decide +kernel
theorem dX4_thingsOf_25 : decode cX4_thingsOf 25 = .ok (.aload_n 0, 1) := by decide +kernel
theorem dX4_thingsOf_26 : decode cX4_thingsOf 26 = .ok (.getfield 21, 3) := by decide +kernel
theorem dX4_thingsOf_29 : decode cX4_thingsOf 29 = .ok (.iload_n 3, 1) := by decide +kernel
theorem dX4_thingsOf_30 : decode cX4_thingsOf 30 = .ok (.iaload, 1) := by decide +kernel
theorem dX4_thingsOf_31 : decode cX4_thingsOf 31 = .ok (.ifCond .ne 9, 3) := by decide +kernel
theorem dX4_thingsOf_34 : decode cX4_thingsOf 34 = .ok (.iload_n 2, 1) := by decide +kernel
theorem dX4_thingsOf_35 : decode cX4_thingsOf 35 = .ok (.iconst 1, 1) := by decide +kernel
theorem dX4_thingsOf_36 : decode cX4_thingsOf 36 = .ok (.iload_n 3, 1) := by decide +kernel
theorem dX4_thingsOf_37 : decode cX4_thingsOf 37 = .ok (.ishl, 1) := by decide +kernel
theorem dX4_thingsOf_38 : decode cX4_thingsOf 38 = .ok (.ior, 1) := by decide +kernel
theorem dX4_thingsOf_39 : decode cX4_thingsOf 39 = .ok (.istore_n 2, 1) := by decide +kernel
theorem dX4_thingsOf_40 : decode cX4_thingsOf 40 = .ok (.iinc 3 1, 3) := by decide +kernel
theorem dX4_thingsOf_43 : decode cX4_thingsOf 43 = .ok (.goto (-39), 3) := by decide +kernel
theorem dX4_thingsOf_46 : decode cX4_thingsOf 46 = .ok (.iload_n 2, 1) := by decide +kernel
theorem dX4_thingsOf_47 : decode cX4_thingsOf 47 = .ok (.ireturn, 1) := by decide +kernel
theorem dX4_landingOf_0 : decode cX4_landingOf 0 = .ok (.aload_n 0, 1) := by decide +kernel
theorem dX4_landingOf_1 : decode cX4_landingOf 1 = .ok (.getfield 36, 3) := by decide +kernel
theorem dX4_landingOf_4 : decode cX4_landingOf 4 = .ok (.getfield 73, 3) := by decide +kernel
theorem dX4_landingOf_7 : decode cX4_landingOf 7 = .ok (.aload_n 0, 1) := by decide +kernel
theorem dX4_landingOf_8 : decode cX4_landingOf 8 = .ok (.getfield 15, 3) := by decide +kernel
theorem dX4_landingOf_11 : decode cX4_landingOf 11 = .ok (.iload_n 1, 1) := by decide +kernel
theorem dX4_landingOf_12 : decode cX4_landingOf 12 = .ok (.iaload, 1) := by decide +kernel
theorem dX4_landingOf_13 : decode cX4_landingOf 13 = .ok (.iaload, 1) := by decide +kernel
theorem dX4_landingOf_14 : decode cX4_landingOf 14 = .ok (.ireturn, 1) := by decide +kernel
theorem dX4_ropesOf_0 : decode cX4_ropesOf 0 = .ok (.iconst 0, 1) := by decide +kernel
theorem dX4_ropesOf_1 : decode cX4_ropesOf 1 = .ok (.istore_n 2, 1) := by decide +kernel
theorem dX4_ropesOf_2 : decode cX4_ropesOf 2 = .ok (.iconst 0, 1) := by decide +kernel
theorem dX4_ropesOf_3 : decode cX4_ropesOf 3 = .ok (.istore_n 3, 1) := by decide +kernel
theorem dX4_ropesOf_4 : decode cX4_ropesOf 4 = .ok (.iload_n 3, 1) := by decide +kernel
theorem dX4_ropesOf_5 : decode cX4_ropesOf 5 = .ok (.aload_n 0, 1) := by decide +kernel
theorem dX4_ropesOf_6 : decode cX4_ropesOf 6 = .ok (.getfield 47, 3) := by decide +kernel
theorem dX4_ropesOf_9 : decode cX4_ropesOf 9 = .ok (.if_icmp .ge 41, 3) := by decide +kernel
theorem dX4_ropesOf_12 : decode cX4_ropesOf 12 = .ok (.iload_n 1, 1) := by decide +kernel
theorem dX4_ropesOf_13 : decode cX4_ropesOf 13 = .ok (.aload_n 0, 1) := by decide +kernel
theorem dX4_ropesOf_14 : decode cX4_ropesOf 14 = .ok (.getfield 27, 3) := by decide +kernel
theorem dX4_ropesOf_17 : decode cX4_ropesOf 17 = .ok (.iload_n 3, 1) := by decide +kernel
theorem dX4_ropesOf_18 : decode cX4_ropesOf 18 = .ok (.iaload, 1) := by decide +kernel
theorem dX4_ropesOf_19 : decode cX4_ropesOf 19 = .ok (.invokestatic 76, 3) := by decide +kernel
theorem dX4_ropesOf_22 : decode cX4_ropesOf 22 = .ok (.ifCond .ne 16, 3) := by decide +kernel
theorem dX4_ropesOf_25 : decode cX4_ropesOf 25 = .ok (.iload_n 1, 1) := by decide +kernel
theorem dX4_ropesOf_26 : decode cX4_ropesOf 26 = .ok (.aload_n 0, 1) := by decide +kernel
theorem dX4_ropesOf_27 : decode cX4_ropesOf 27 = .ok (.getfield 30, 3) := by decide +kernel
theorem dX4_ropesOf_30 : decode cX4_ropesOf 30 = .ok (.iload_n 3, 1) := by decide +kernel
theorem dX4_ropesOf_31 : decode cX4_ropesOf 31 = .ok (.iaload, 1) := by decide +kernel
theorem dX4_ropesOf_32 : decode cX4_ropesOf 32 = .ok (.invokestatic 76, 3) := by decide +kernel
theorem dX4_ropesOf_35 : decode cX4_ropesOf 35 = .ok (.ifCond .eq 9, 3) := by decide +kernel
theorem dX4_ropesOf_38 : decode cX4_ropesOf 38 = .ok (.iload_n 2, 1) := by decide +kernel
theorem dX4_ropesOf_39 : decode cX4_ropesOf 39 = .ok (.iconst 1, 1) := by decide +kernel
theorem dX4_ropesOf_40 : decode cX4_ropesOf 40 = .ok (.iload_n 3, 1) := by decide +kernel
theorem dX4_ropesOf_41 : decode cX4_ropesOf 41 = .ok (.ishl, 1) := by decide +kernel
theorem dX4_ropesOf_42 : decode cX4_ropesOf 42 = .ok (.ior, 1) := by decide +kernel
theorem dX4_ropesOf_43 : decode cX4_ropesOf 43 = .ok (.istore_n 2, 1) := by decide +kernel
theorem dX4_ropesOf_44 : decode cX4_ropesOf 44 = .ok (.iinc 3 1, 3) := by decide +kernel
theorem dX4_ropesOf_47 : decode cX4_ropesOf 47 = .ok (.goto (-43), 3) := by decide +kernel
theorem dX4_ropesOf_50 : decode cX4_ropesOf 50 = .ok (.iload_n 2, 1) := by decide +kernel
theorem dX4_ropesOf_51 : decode cX4_ropesOf 51 = .ok (.ireturn, 1) := by decide +kernel
theorem dX4_areBound_0 : decode cX4_areBound 0 = .ok (.iconst 0, 1) := by decide +kernel
theorem dX4_areBound_1 : decode cX4_areBound 1 = .ok (.istore_n 3, 1) := by decide +kernel
theorem dX4_areBound_2 : decode cX4_areBound 2 = .ok (.iload_n 3, 1) := by decide +kernel
theorem dX4_areBound_3 : decode cX4_areBound 3 = .ok (.aload_n 0, 1) := by decide +kernel
theorem dX4_areBound_4 : decode cX4_areBound 4 = .ok (.getfield 47, 3) := by decide +kernel
theorem dX4_areBound_7 : decode cX4_areBound 7 = .ok (.if_icmp .ge 39, 3) := by decide +kernel
theorem dX4_areBound_10 : decode cX4_areBound 10 = .ok (.aload_n 0, 1) := by decide +kernel
theorem dX4_areBound_11 : decode cX4_areBound 11 = .ok (.getfield 27, 3) := by decide +kernel
theorem dX4_areBound_14 : decode cX4_areBound 14 = .ok (.iload_n 3, 1) := by decide +kernel
theorem dX4_areBound_15 : decode cX4_areBound 15 = .ok (.iaload, 1) := by decide +kernel
theorem dX4_areBound_16 : decode cX4_areBound 16 = .ok (.iload_n 1, 1) := by decide +kernel
theorem dX4_areBound_17 : decode cX4_areBound 17 = .ok (.iload_n 2, 1) := by decide +kernel
theorem dX4_areBound_18 : decode cX4_areBound 18 = .ok (.invokestatic 80, 3) := by decide +kernel
theorem dX4_areBound_21 : decode cX4_areBound 21 = .ok (.if_icmp .ne 19, 3) := by decide +kernel
theorem dX4_areBound_24 : decode cX4_areBound 24 = .ok (.aload_n 0, 1) := by decide +kernel
theorem dX4_areBound_25 : decode cX4_areBound 25 = .ok (.getfield 30, 3) := by decide +kernel
theorem dX4_areBound_28 : decode cX4_areBound 28 = .ok (.iload_n 3, 1) := by decide +kernel
theorem dX4_areBound_29 : decode cX4_areBound 29 = .ok (.iaload, 1) := by decide +kernel
theorem dX4_areBound_30 : decode cX4_areBound 30 = .ok (.iload_n 1, 1) := by decide +kernel
theorem dX4_areBound_31 : decode cX4_areBound 31 = .ok (.iload_n 2, 1) := by decide +kernel
theorem dX4_areBound_32 : decode cX4_areBound 32 = .ok (.invokestatic 86, 3) := by decide +kernel
theorem dX4_areBound_35 : decode cX4_areBound 35 = .ok (.if_icmp .ne 5, 3) := by decide +kernel
theorem dX4_areBound_38 : decode cX4_areBound 38 = .ok (.iconst 1, 1) := by decide +kernel
theorem dX4_areBound_39 : decode cX4_areBound 39 = .ok (.ireturn, 1) := by decide +kernel
theorem dX4_areBound_40 : decode cX4_areBound 40 = .ok (.iinc 3 1, 3) := by decide +kernel
theorem dX4_areBound_43 : decode cX4_areBound 43 = .ok (.goto (-41), 3) := by decide +kernel
theorem dX4_areBound_46 : decode cX4_areBound 46 = .ok (.iconst 0, 1) := by decide +kernel
theorem dX4_areBound_47 : decode cX4_areBound 47 = .ok (.ireturn, 1) := by decide +kernel
theorem dX4_canSpare_0 : decode cX4_canSpare 0 = .ok (.aload_n 0, 1) := by decide +kernel
theorem dX4_canSpare_1 : decode cX4_canSpare 1 = .ok (.getfield 47, 3) := by decide +kernel
theorem dX4_canSpare_4 : decode cX4_canSpare 4 = .ok (.bipush 12, 2) := by decide +kernel
theorem dX4_canSpare_6 : decode cX4_canSpare 6 = .ok (.if_icmp .ge 15, 3) := by decide +kernel
theorem dX4_canSpare_9 : decode cX4_canSpare 9 = .ok (.iload_n 1, 1) := by decide +kernel
theorem dX4_canSpare_10 : decode cX4_canSpare 10 = .ok (.aload_n 0, 1) := by decide +kernel
theorem dX4_canSpare_11 : decode cX4_canSpare 11 = .ok (.getfield 44, 3) := by decide +kernel
theorem dX4_canSpare_14 : decode cX4_canSpare 14 = .ok (.if_icmp .gt 7, 3) := by decide +kernel
theorem dX4_canSpare_17 : decode cX4_canSpare 17 = .ok (.iconst 1, 1) := by decide +kernel
theorem dX4_canSpare_18 : decode cX4_canSpare 18 = .ok (.goto 4, 3) := by decide +kernel
theorem dX4_canSpare_21 : decode cX4_canSpare 21 = .ok (.iconst 0, 1) := by decide +kernel
theorem dX4_canSpare_22 : decode cX4_canSpare 22 = .ok (.ireturn, 1) := by decide +kernel
theorem dX4_tie_0 : decode cX4_tie 0 = .ok (.aload_n 0, 1) := by decide +kernel
theorem dX4_tie_1 : decode cX4_tie 1 = .ok (.getfield 47, 3) := by decide +kernel
theorem dX4_tie_4 : decode cX4_tie 4 = .ok (.bipush 12, 2) := by decide +kernel
theorem dX4_tie_6 : decode cX4_tie 6 = .ok (.if_icmp .ge 51, 3) := by decide +kernel
theorem dX4_tie_9 : decode cX4_tie 9 = .ok (.aload_n 0, 1) := by decide +kernel
theorem dX4_tie_10 : decode cX4_tie 10 = .ok (.getfield 27, 3) := by decide +kernel
theorem dX4_tie_13 : decode cX4_tie 13 = .ok (.aload_n 0, 1) := by decide +kernel
theorem dX4_tie_14 : decode cX4_tie 14 = .ok (.getfield 47, 3) := by decide +kernel
theorem dX4_tie_17 : decode cX4_tie 17 = .ok (.iload_n 1, 1) := by decide +kernel
theorem dX4_tie_18 : decode cX4_tie 18 = .ok (.iload_n 2, 1) := by decide +kernel
theorem dX4_tie_19 : decode cX4_tie 19 = .ok (.invokestatic 80, 3) := by decide +kernel
theorem dX4_tie_22 : decode cX4_tie 22 = .ok (.iastore, 1) := by decide +kernel
theorem dX4_tie_23 : decode cX4_tie 23 = .ok (.aload_n 0, 1) := by decide +kernel
theorem dX4_tie_24 : decode cX4_tie 24 = .ok (.getfield 30, 3) := by decide +kernel
theorem dX4_tie_27 : decode cX4_tie 27 = .ok (.aload_n 0, 1) := by decide +kernel
theorem dX4_tie_28 : decode cX4_tie 28 = .ok (.getfield 47, 3) := by decide +kernel
theorem dX4_tie_31 : decode cX4_tie 31 = .ok (.iload_n 1, 1) := by decide +kernel
theorem dX4_tie_32 : decode cX4_tie 32 = .ok (.iload_n 2, 1) := by decide +kernel
theorem dX4_tie_33 : decode cX4_tie 33 = .ok (.invokestatic 86, 3) := by decide +kernel
theorem dX4_tie_36 : decode cX4_tie 36 = .ok (.iastore, 1) := by decide +kernel
theorem dX4_tie_37 : decode cX4_tie 37 = .ok (.aload_n 0, 1) := by decide +kernel
theorem dX4_tie_38 : decode cX4_tie 38 = .ok (.getfield 33, 3) := by decide +kernel
theorem dX4_tie_41 : decode cX4_tie 41 = .ok (.aload_n 0, 1) := by decide +kernel
theorem dX4_tie_42 : decode cX4_tie 42 = .ok (.getfield 47, 3) := by decide +kernel
theorem dX4_tie_45 : decode cX4_tie 45 = .ok (.iload_n 3, 1) := by decide +kernel
theorem dX4_tie_46 : decode cX4_tie 46 = .ok (.iastore, 1) := by decide +kernel
theorem dX4_tie_47 : decode cX4_tie 47 = .ok (.aload_n 0, 1) := by decide +kernel
theorem dX4_tie_48 : decode cX4_tie 48 = .ok (.dup, 1) := by decide +kernel
theorem dX4_tie_49 : decode cX4_tie 49 = .ok (.getfield 47, 3) := by decide +kernel
theorem dX4_tie_52 : decode cX4_tie 52 = .ok (.iconst 1, 1) := by decide +kernel
theorem dX4_tie_53 : decode cX4_tie 53 = .ok (.iadd, 1) := by decide +kernel
theorem dX4_tie_54 : decode cX4_tie 54 = .ok (.putfield 47, 3) := by decide +kernel
theorem dX4_tie_57 : decode cX4_tie 57 = .ok (.return_, 1) := by decide +kernel
theorem dX4_spend_0 : decode cX4_spend 0 = .ok (.aload_n 0, 1) := by decide +kernel
theorem dX4_spend_1 : decode cX4_spend 1 = .ok (.iload_n 1, 1) := by decide +kernel
theorem dX4_spend_2 : decode cX4_spend 2 = .ok (.iload_n 2, 1) := by decide +kernel
theorem dX4_spend_3 : decode cX4_spend 3 = .ok (.iload_n 3, 1) := by decide +kernel
theorem dX4_spend_4 : decode cX4_spend 4 = .ok (.invokevirtual 89, 3) := by decide +kernel
theorem dX4_spend_7 : decode cX4_spend 7 = .ok (.aload_n 0, 1) := by decide +kernel
theorem dX4_spend_8 : decode cX4_spend 8 = .ok (.dup, 1) := by decide +kernel
theorem dX4_spend_9 : decode cX4_spend 9 = .ok (.getfield 44, 3) := by decide +kernel
theorem dX4_spend_12 : decode cX4_spend 12 = .ok (.iload_n 3, 1) := by decide +kernel
theorem dX4_spend_13 : decode cX4_spend 13 = .ok (.isub, 1) := by decide +kernel
theorem dX4_spend_14 : decode cX4_spend 14 = .ok (.putfield 44, 3) := by decide +kernel
theorem dX4_spend_17 : decode cX4_spend 17 = .ok (.return_, 1) := by decide +kernel
theorem dX4_lose_0 : decode cX4_lose 0 = .ok (.iconst 0, 1) := by decide +kernel
theorem dX4_lose_1 : decode cX4_lose 1 = .ok (.istore_n 2, 1) := by decide +kernel
theorem dX4_lose_2 : decode cX4_lose 2 = .ok (.iconst 0, 1) := by decide +kernel
theorem dX4_lose_3 : decode cX4_lose 3 = .ok (.istore_n 3, 1) := by decide +kernel
theorem dX4_lose_4 : decode cX4_lose 4 = .ok (.iload_n 3, 1) := by decide +kernel
theorem dX4_lose_5 : decode cX4_lose 5 = .ok (.aload_n 0, 1) := by decide +kernel
theorem dX4_lose_6 : decode cX4_lose 6 = .ok (.getfield 47, 3) := by decide +kernel
theorem dX4_lose_9 : decode cX4_lose 9 = .ok (.if_icmp .ge 59, 3) := by decide +kernel
theorem dX4_lose_12 : decode cX4_lose 12 = .ok (.iload_n 1, 1) := by decide +kernel
theorem dX4_lose_13 : decode cX4_lose 13 = .ok (.iload_n 3, 1) := by decide +kernel
theorem dX4_lose_14 : decode cX4_lose 14 = .ok (.invokestatic 76, 3) := by decide +kernel
theorem dX4_lose_17 : decode cX4_lose 17 = .ok (.ifCond .eq 6, 3) := by decide +kernel
theorem dX4_lose_20 : decode cX4_lose 20 = .ok (.goto 42, 3) := by decide +kernel
theorem dX4_lose_23 : decode cX4_lose 23 = .ok (.aload_n 0, 1) := by decide +kernel
theorem dX4_lose_24 : decode cX4_lose 24 = .ok (.getfield 27, 3) := by decide +kernel
theorem dX4_lose_27 : decode cX4_lose 27 = .ok (.iload_n 2, 1) := by decide +kernel
theorem dX4_lose_28 : decode cX4_lose 28 = .ok (.aload_n 0, 1) := by decide +kernel
theorem dX4_lose_29 : decode cX4_lose 29 = .ok (.getfield 27, 3) := by decide +kernel
theorem dX4_lose_32 : decode cX4_lose 32 = .ok (.iload_n 3, 1) := by decide +kernel
theorem dX4_lose_33 : decode cX4_lose 33 = .ok (.iaload, 1) := by decide +kernel
theorem dX4_lose_34 : decode cX4_lose 34 = .ok (.iastore, 1) := by decide +kernel
theorem dX4_lose_35 : decode cX4_lose 35 = .ok (.aload_n 0, 1) := by decide +kernel
theorem dX4_lose_36 : decode cX4_lose 36 = .ok (.getfield 30, 3) := by decide +kernel
theorem dX4_lose_39 : decode cX4_lose 39 = .ok (.iload_n 2, 1) := by decide +kernel
theorem dX4_lose_40 : decode cX4_lose 40 = .ok (.aload_n 0, 1) := by decide +kernel
theorem dX4_lose_41 : decode cX4_lose 41 = .ok (.getfield 30, 3) := by decide +kernel
theorem dX4_lose_44 : decode cX4_lose 44 = .ok (.iload_n 3, 1) := by decide +kernel
theorem dX4_lose_45 : decode cX4_lose 45 = .ok (.iaload, 1) := by decide +kernel
theorem dX4_lose_46 : decode cX4_lose 46 = .ok (.iastore, 1) := by decide +kernel
theorem dX4_lose_47 : decode cX4_lose 47 = .ok (.aload_n 0, 1) := by decide +kernel
theorem dX4_lose_48 : decode cX4_lose 48 = .ok (.getfield 33, 3) := by decide +kernel
theorem dX4_lose_51 : decode cX4_lose 51 = .ok (.iload_n 2, 1) := by decide +kernel
theorem dX4_lose_52 : decode cX4_lose 52 = .ok (.aload_n 0, 1) := by decide +kernel
theorem dX4_lose_53 : decode cX4_lose 53 = .ok (.getfield 33, 3) := by decide +kernel
theorem dX4_lose_56 : decode cX4_lose 56 = .ok (.iload_n 3, 1) := by decide +kernel
theorem dX4_lose_57 : decode cX4_lose 57 = .ok (.iaload, 1) := by decide +kernel
theorem dX4_lose_58 : decode cX4_lose 58 = .ok (.iastore, 1) := by decide +kernel
theorem dX4_lose_59 : decode cX4_lose 59 = .ok (.iinc 2 1, 3) := by decide +kernel
theorem dX4_lose_62 : decode cX4_lose 62 = .ok (.iinc 3 1, 3) := by decide +kernel
theorem dX4_lose_65 : decode cX4_lose 65 = .ok (.goto (-61), 3) := by decide +kernel
theorem dX4_lose_68 : decode cX4_lose 68 = .ok (.aload_n 0, 1) := by decide +kernel
theorem dX4_lose_69 : decode cX4_lose 69 = .ok (.iload_n 2, 1) := by decide +kernel
theorem dX4_lose_70 : decode cX4_lose 70 = .ok (.putfield 47, 3) := by decide +kernel
theorem dX4_lose_73 : decode cX4_lose 73 = .ok (.return_, 1) := by decide +kernel
theorem dX4_untie_0 : decode cX4_untie 0 = .ok (.iconst 0, 1) := by decide +kernel
theorem dX4_untie_1 : decode cX4_untie 1 = .ok (.istore_n 2, 1) := by decide +kernel
theorem dX4_untie_2 : decode cX4_untie 2 = .ok (.iload_n 2, 1) := by decide +kernel
theorem dX4_untie_3 : decode cX4_untie 3 = .ok (.aload_n 0, 1) := by decide +kernel
theorem dX4_untie_4 : decode cX4_untie 4 = .ok (.getfield 47, 3) := by decide +kernel
theorem dX4_untie_7 : decode cX4_untie 7 = .ok (.if_icmp .ge 32, 3) := by decide +kernel
theorem dX4_untie_10 : decode cX4_untie 10 = .ok (.iload_n 1, 1) := by decide +kernel
theorem dX4_untie_11 : decode cX4_untie 11 = .ok (.iload_n 2, 1) := by decide +kernel
theorem dX4_untie_12 : decode cX4_untie 12 = .ok (.invokestatic 76, 3) := by decide +kernel
theorem dX4_untie_15 : decode cX4_untie 15 = .ok (.ifCond .eq 18, 3) := by decide +kernel
theorem dX4_untie_18 : decode cX4_untie 18 = .ok (.aload_n 0, 1) := by decide +kernel
theorem dX4_untie_19 : decode cX4_untie 19 = .ok (.dup, 1) := by decide +kernel
theorem dX4_untie_20 : decode cX4_untie 20 = .ok (.getfield 44, 3) := by decide +kernel
theorem dX4_untie_23 : decode cX4_untie 23 = .ok (.aload_n 0, 1) := by decide +kernel
theorem dX4_untie_24 : decode cX4_untie 24 = .ok (.getfield 33, 3) := by decide +kernel
theorem dX4_untie_27 : decode cX4_untie 27 = .ok (.iload_n 2, 1) := by decide +kernel
theorem dX4_untie_28 : decode cX4_untie 28 = .ok (.iaload, 1) := by decide +kernel
theorem dX4_untie_29 : decode cX4_untie 29 = .ok (.iadd, 1) := by decide +kernel
theorem dX4_untie_30 : decode cX4_untie 30 = .ok (.putfield 44, 3) := by decide +kernel
theorem dX4_untie_33 : decode cX4_untie 33 = .ok (.iinc 2 1, 3) := by decide +kernel
theorem dX4_untie_36 : decode cX4_untie 36 = .ok (.goto (-34), 3) := by decide +kernel
theorem dX4_untie_39 : decode cX4_untie 39 = .ok (.aload_n 0, 1) := by decide +kernel
theorem dX4_untie_40 : decode cX4_untie 40 = .ok (.iload_n 1, 1) := by decide +kernel
theorem dX4_untie_41 : decode cX4_untie 41 = .ok (.invokevirtual 93, 3) := by decide +kernel
theorem dX4_untie_44 : decode cX4_untie 44 = .ok (.return_, 1) := by decide +kernel
theorem dX4_lift_0 : decode cX4_lift 0 = .ok (.iconst 0, 1) := by decide +kernel
theorem dX4_lift_1 : decode cX4_lift 1 = .ok (.istore_n 3, 1) := by decide +kernel
theorem dX4_lift_2 : decode cX4_lift 2 = .ok (.iconst 0, 1) := by decide +kernel
theorem dX4_lift_3 : decode cX4_lift 3 = .ok (.istore 4, 2) := by decide +kernel
theorem dX4_lift_5 : decode cX4_lift 5 = .ok (.iload 4, 2) := by decide +kernel
theorem dX4_lift_7 : decode cX4_lift 7 = .ok (.aload_n 0, 1) := by decide +kernel
theorem dX4_lift_8 : decode cX4_lift 8 = .ok (.getfield 36, 3) := by decide +kernel
theorem dX4_lift_11 : decode cX4_lift 11 = .ok (.getfield 67, 3) := by decide +kernel
theorem dX4_lift_14 : decode cX4_lift 14 = .ok (.if_icmp .ge 56, 3) := by decide +kernel
theorem dX4_lift_17 : decode cX4_lift 17 = .ok (.iload_n 1, 1) := by decide +kernel
theorem dX4_lift_18 : decode cX4_lift 18 = .ok (.iload 4, 2) := by decide +kernel
theorem dX4_lift_20 : decode cX4_lift 20 = .ok (.invokestatic 76, 3) := by decide +kernel
theorem dX4_lift_23 : decode cX4_lift 23 = .ok (.ifCond .eq 41, 3) := by decide +kernel
theorem dX4_lift_26 : decode cX4_lift 26 = .ok (.iload_n 3, 1) := by decide +kernel
theorem dX4_lift_27 : decode cX4_lift 27 = .ok (.iconst 0, 1) := by decide +kernel
theorem dX4_lift_28 : decode cX4_lift 28 = .ok (.aload_n 0, 1) := by decide +kernel
theorem dX4_lift_29 : decode cX4_lift 29 = .ok (.getfield 18, 3) := by decide +kernel
theorem dX4_lift_32 : decode cX4_lift 32 = .ok (.iload 4, 2) := by decide +kernel
theorem dX4_lift_34 : decode cX4_lift 34 = .ok (.iaload, 1) := by decide +kernel
theorem dX4_lift_35 : decode cX4_lift 35 = .ok (.iload_n 2, 1) := by decide +kernel
theorem dX4_lift_36 : decode cX4_lift 36 = .ok (.aload_n 0, 1) := by decide +kernel
theorem dX4_lift_37 : decode cX4_lift 37 = .ok (.getfield 36, 3) := by decide +kernel
theorem dX4_lift_40 : decode cX4_lift 40 = .ok (.getfield 97, 3) := by decide +kernel
theorem dX4_lift_43 : decode cX4_lift 43 = .ok (.iload 4, 2) := by decide +kernel
theorem dX4_lift_45 : decode cX4_lift 45 = .ok (.iaload, 1) := by decide +kernel
theorem dX4_lift_46 : decode cX4_lift 46 = .ok (.imul, 1) := by decide +kernel
theorem dX4_lift_47 : decode cX4_lift 47 = .ok (.isub, 1) := by decide +kernel
theorem dX4_lift_48 : decode cX4_lift 48 = .ok (.invokestatic 86, 3) := by decide +kernel
theorem dX4_lift_51 : decode cX4_lift 51 = .ok (.aload_n 0, 1) := by decide +kernel
theorem dX4_lift_52 : decode cX4_lift 52 = .ok (.getfield 36, 3) := by decide +kernel
theorem dX4_lift_55 : decode cX4_lift 55 = .ok (.getfield 100, 3) := by decide +kernel
theorem dX4_lift_58 : decode cX4_lift 58 = .ok (.iload 4, 2) := by decide +kernel
theorem dX4_lift_60 : decode cX4_lift 60 = .ok (.iaload, 1) := by decide +kernel
theorem dX4_lift_61 : decode cX4_lift 61 = .ok (.isub, 1) := by decide +kernel
theorem dX4_lift_62 : decode cX4_lift 62 = .ok (.iadd, 1) := by decide +kernel
theorem dX4_lift_63 : decode cX4_lift 63 = .ok (.istore_n 3, 1) := by decide +kernel
theorem dX4_lift_64 : decode cX4_lift 64 = .ok (.iinc 4 1, 3) := by decide +kernel
theorem dX4_lift_67 : decode cX4_lift 67 = .ok (.goto (-62), 3) := by decide +kernel
theorem dX4_lift_70 : decode cX4_lift 70 = .ok (.iload_n 3, 1) := by decide +kernel
theorem dX4_lift_71 : decode cX4_lift 71 = .ok (.ireturn, 1) := by decide +kernel
theorem dX4_drift_0 : decode cX4_drift 0 = .ok (.aload_n 0, 1) := by decide +kernel
theorem dX4_drift_1 : decode cX4_drift 1 = .ok (.invokevirtual 103, 3) := by decide +kernel
theorem dX4_drift_4 : decode cX4_drift 4 = .ok (.iconst 1, 1) := by decide +kernel
theorem dX4_drift_5 : decode cX4_drift 5 = .ok (.if_icmp .ge 4, 3) := by decide +kernel
theorem dX4_drift_8 : decode cX4_drift 8 = .ok (.return_, 1) := by decide +kernel
theorem dX4_drift_9 : decode cX4_drift 9 = .ok (.aload_n 0, 1) := by decide +kernel
theorem dX4_drift_10 : decode cX4_drift 10 = .ok (.dup, 1) := by decide +kernel
theorem dX4_drift_11 : decode cX4_drift 11 = .ok (.getfield 40, 3) := by decide +kernel
theorem dX4_drift_14 : decode cX4_drift 14 = .ok (.iconst 1, 1) := by decide +kernel
theorem dX4_drift_15 : decode cX4_drift 15 = .ok (.iadd, 1) := by decide +kernel
theorem dX4_drift_16 : decode cX4_drift 16 = .ok (.putfield 40, 3) := by decide +kernel
theorem dX4_drift_19 : decode cX4_drift 19 = .ok (.iconst 0, 1) := by decide +kernel
theorem dX4_drift_20 : decode cX4_drift 20 = .ok (.istore 4, 2) := by decide +kernel
theorem dX4_drift_22 : decode cX4_drift 22 = .ok (.iload 4, 2) := by decide +kernel
theorem dX4_drift_24 : decode cX4_drift 24 = .ok (.aload_n 0, 1) := by decide +kernel
theorem dX4_drift_25 : decode cX4_drift 25 = .ok (.getfield 36, 3) := by decide +kernel
theorem dX4_drift_28 : decode cX4_drift 28 = .ok (.getfield 67, 3) := by decide +kernel
theorem dX4_drift_31 : decode cX4_drift 31 = .ok (.if_icmp .ge 48, 3) := by decide +kernel
theorem dX4_drift_34 : decode cX4_drift 34 = .ok (.aload_n 0, 1) := by decide +kernel
theorem dX4_drift_35 : decode cX4_drift 35 = .ok (.getfield 21, 3) := by decide +kernel
theorem dX4_drift_38 : decode cX4_drift 38 = .ok (.iload 4, 2) := by decide +kernel
theorem dX4_drift_40 : decode cX4_drift 40 = .ok (.iaload, 1) := by decide +kernel
theorem dX4_drift_41 : decode cX4_drift 41 = .ok (.ifCond .ne 32, 3) := by decide +kernel
theorem dX4_drift_44 : decode cX4_drift 44 = .ok (.aload_n 0, 1) := by decide +kernel
theorem dX4_drift_45 : decode cX4_drift 45 = .ok (.getfield 18, 3) := by decide +kernel
theorem dX4_drift_48 : decode cX4_drift 48 = .ok (.iload 4, 2) := by decide +kernel
theorem dX4_drift_50 : decode cX4_drift 50 = .ok (.iconst 0, 1) := by decide +kernel
theorem dX4_drift_51 : decode cX4_drift 51 = .ok (.aload_n 0, 1) := by decide +kernel
theorem dX4_drift_52 : decode cX4_drift 52 = .ok (.getfield 18, 3) := by decide +kernel
theorem dX4_drift_55 : decode cX4_drift 55 = .ok (.iload 4, 2) := by decide +kernel
theorem dX4_drift_57 : decode cX4_drift 57 = .ok (.iaload, 1) := by decide +kernel
theorem dX4_drift_58 : decode cX4_drift 58 = .ok (.aload_n 0, 1) := by decide +kernel
theorem dX4_drift_59 : decode cX4_drift 59 = .ok (.getfield 36, 3) := by decide +kernel
theorem dX4_drift_62 : decode cX4_drift 62 = .ok (.getfield 97, 3) := by decide +kernel
theorem dX4_drift_65 : decode cX4_drift 65 = .ok (.iload 4, 2) := by decide +kernel
theorem dX4_drift_67 : decode cX4_drift 67 = .ok (.iaload, 1) := by decide +kernel
theorem dX4_drift_68 : decode cX4_drift 68 = .ok (.isub, 1) := by decide +kernel
theorem dX4_drift_69 : decode cX4_drift 69 = .ok (.invokestatic 86, 3) := by decide +kernel
theorem dX4_drift_72 : decode cX4_drift 72 = .ok (.iastore, 1) := by decide +kernel
theorem dX4_drift_73 : decode cX4_drift 73 = .ok (.iinc 4 1, 3) := by decide +kernel
theorem dX4_drift_76 : decode cX4_drift 76 = .ok (.goto (-54), 3) := by decide +kernel
theorem dX4_drift_79 : decode cX4_drift 79 = .ok (.aload_n 3, 1) := by decide +kernel
theorem dX4_drift_80 : decode cX4_drift 80 = .ok (.iconst 2, 1) := by decide +kernel
theorem dX4_drift_81 : decode cX4_drift 81 = .ok (.dup2, 1) := by decide +kernel
theorem dX4_drift_82 : decode cX4_drift 82 = .ok (.iaload, 1) := by decide +kernel
theorem dX4_drift_83 : decode cX4_drift 83 = .ok (.aload_n 0, 1) := by decide +kernel
theorem dX4_drift_84 : decode cX4_drift 84 = .ok (.iload_n 1, 1) := by decide +kernel
theorem dX4_drift_85 : decode cX4_drift 85 = .ok (.aload_n 0, 1) := by decide +kernel
theorem dX4_drift_86 : decode cX4_drift 86 = .ok (.getfield 36, 3) := by decide +kernel
theorem dX4_drift_89 : decode cX4_drift 89 = .ok (.getfield 107, 3) := by decide +kernel
theorem dX4_drift_92 : decode cX4_drift 92 = .ok (.aload_n 0, 1) := by decide +kernel
theorem dX4_drift_93 : decode cX4_drift 93 = .ok (.getfield 40, 3) := by decide +kernel
theorem dX4_drift_96 : decode cX4_drift 96 = .ok (.iaload, 1) := by decide +kernel
theorem dX4_drift_97 : decode cX4_drift 97 = .ok (.invokestatic 86, 3) := by decide +kernel
theorem dX4_drift_100 : decode cX4_drift 100 = .ok (.invokevirtual 110, 3) := by decide +kernel
theorem dX4_drift_103 : decode cX4_drift 103 = .ok (.iadd, 1) := by decide +kernel
theorem dX4_drift_104 : decode cX4_drift 104 = .ok (.iastore, 1) := by decide +kernel
theorem dX4_drift_105 : decode cX4_drift 105 = .ok (.aload_n 3, 1) := by decide +kernel
theorem dX4_drift_106 : decode cX4_drift 106 = .ok (.iconst 1, 1) := by decide +kernel
theorem dX4_drift_107 : decode cX4_drift 107 = .ok (.dup2, 1) := by decide +kernel
theorem dX4_drift_108 : decode cX4_drift 108 = .ok (.iaload, 1) := by decide +kernel
theorem dX4_drift_109 : decode cX4_drift 109 = .ok (.aload_n 0, 1) := by decide +kernel
theorem dX4_drift_110 : decode cX4_drift 110 = .ok (.invokevirtual 114, 3) := by decide +kernel
theorem dX4_drift_113 : decode cX4_drift 113 = .ok (.iadd, 1) := by decide +kernel
theorem dX4_drift_114 : decode cX4_drift 114 = .ok (.iastore, 1) := by decide +kernel
theorem dX4_drift_115 : decode cX4_drift 115 = .ok (.aload_n 3, 1) := by decide +kernel
theorem dX4_drift_116 : decode cX4_drift 116 = .ok (.iconst 0, 1) := by decide +kernel
theorem dX4_drift_117 : decode cX4_drift 117 = .ok (.dup2, 1) := by decide +kernel
theorem dX4_drift_118 : decode cX4_drift 118 = .ok (.iaload, 1) := by decide +kernel
theorem dX4_drift_119 : decode cX4_drift 119 = .ok (.aload_n 0, 1) := by decide +kernel
theorem dX4_drift_120 : decode cX4_drift 120 = .ok (.aload_n 2, 1) := by decide +kernel
theorem dX4_drift_121 : decode cX4_drift 121 = .ok (.invokevirtual 117, 3) := by decide +kernel
theorem dX4_drift_124 : decode cX4_drift 124 = .ok (.iadd, 1) := by decide +kernel
theorem dX4_drift_125 : decode cX4_drift 125 = .ok (.iastore, 1) := by decide +kernel
theorem dX4_drift_126 : decode cX4_drift 126 = .ok (.return_, 1) := by decide +kernel
theorem dX4_breakRopes_0 : decode cX4_breakRopes 0 = .ok (.iconst 0, 1) := by decide +kernel
theorem dX4_breakRopes_1 : decode cX4_breakRopes 1 = .ok (.istore_n 2, 1) := by decide +kernel
theorem dX4_breakRopes_2 : decode cX4_breakRopes 2 = .ok (.iconst 0, 1) := by decide +kernel
theorem dX4_breakRopes_3 : decode cX4_breakRopes 3 = .ok (.istore_n 3, 1) := by decide +kernel
theorem dX4_breakRopes_4 : decode cX4_breakRopes 4 = .ok (.iload_n 3, 1) := by decide +kernel
theorem dX4_breakRopes_5 : decode cX4_breakRopes 5 = .ok (.aload_n 0, 1) := by decide +kernel
theorem dX4_breakRopes_6 : decode cX4_breakRopes 6 = .ok (.getfield 47, 3) := by decide +kernel
theorem dX4_breakRopes_9 : decode cX4_breakRopes 9 = .ok (.if_icmp .ge 25, 3) := by decide +kernel
theorem dX4_breakRopes_12 : decode cX4_breakRopes 12 = .ok (.aload_n 0, 1) := by decide +kernel
theorem dX4_breakRopes_13 : decode cX4_breakRopes 13 = .ok (.getfield 33, 3) := by decide +kernel
theorem dX4_breakRopes_16 : decode cX4_breakRopes 16 = .ok (.iload_n 3, 1) := by decide +kernel
theorem dX4_breakRopes_17 : decode cX4_breakRopes 17 = .ok (.iaload, 1) := by decide +kernel
theorem dX4_breakRopes_18 : decode cX4_breakRopes 18 = .ok (.iload_n 1, 1) := by decide +kernel
theorem dX4_breakRopes_19 : decode cX4_breakRopes 19 = .ok (.if_icmp .ge 9, 3) := by decide +kernel
theorem dX4_breakRopes_22 : decode cX4_breakRopes 22 = .ok (.iload_n 2, 1) := by decide +kernel
theorem dX4_breakRopes_23 : decode cX4_breakRopes 23 = .ok (.iconst 1, 1) := by decide +kernel
theorem dX4_breakRopes_24 : decode cX4_breakRopes 24 = .ok (.iload_n 3, 1) := by decide +kernel
theorem dX4_breakRopes_25 : decode cX4_breakRopes 25 = .ok (.ishl, 1) := by decide +kernel
theorem dX4_breakRopes_26 : decode cX4_breakRopes 26 = .ok (.ior, 1) := by decide +kernel
theorem dX4_breakRopes_27 : decode cX4_breakRopes 27 = .ok (.istore_n 2, 1) := by decide +kernel
theorem dX4_breakRopes_28 : decode cX4_breakRopes 28 = .ok (.iinc 3 1, 3) := by decide +kernel
theorem dX4_breakRopes_31 : decode cX4_breakRopes 31 = .ok (.goto (-27), 3) := by decide +kernel
theorem dX4_breakRopes_34 : decode cX4_breakRopes 34 = .ok (.aload_n 0, 1) := by decide +kernel
theorem dX4_breakRopes_35 : decode cX4_breakRopes 35 = .ok (.iload_n 2, 1) := by decide +kernel
theorem dX4_breakRopes_36 : decode cX4_breakRopes 36 = .ok (.invokevirtual 93, 3) := by decide +kernel
theorem dX4_breakRopes_39 : decode cX4_breakRopes 39 = .ok (.iload_n 2, 1) := by decide +kernel
theorem dX4_breakRopes_40 : decode cX4_breakRopes 40 = .ok (.invokestatic 121, 3) := by decide +kernel
theorem dX4_breakRopes_43 : decode cX4_breakRopes 43 = .ok (.ireturn, 1) := by decide +kernel
theorem dX4_land_0 : decode cX4_land 0 = .ok (.iconst 0, 1) := by decide +kernel
theorem dX4_land_1 : decode cX4_land 1 = .ok (.istore_n 1, 1) := by decide +kernel
theorem dX4_land_2 : decode cX4_land 2 = .ok (.iconst 0, 1) := by decide +kernel
theorem dX4_land_3 : decode cX4_land 3 = .ok (.istore_n 2, 1) := by decide +kernel
theorem dX4_land_4 : decode cX4_land 4 = .ok (.iload_n 2, 1) := by decide +kernel
theorem dX4_land_5 : decode cX4_land 5 = .ok (.aload_n 0, 1) := by decide +kernel
theorem dX4_land_6 : decode cX4_land 6 = .ok (.getfield 36, 3) := by decide +kernel
theorem dX4_land_9 : decode cX4_land 9 = .ok (.getfield 70, 3) := by decide +kernel
theorem dX4_land_12 : decode cX4_land 12 = .ok (.if_icmp .ge 49, 3) := by decide +kernel
theorem dX4_land_15 : decode cX4_land 15 = .ok (.aload_n 0, 1) := by decide +kernel
theorem dX4_land_16 : decode cX4_land 16 = .ok (.getfield 9, 3) := by decide +kernel
theorem dX4_land_19 : decode cX4_land 19 = .ok (.iload_n 2, 1) := by decide +kernel
theorem dX4_land_20 : decode cX4_land 20 = .ok (.iaload, 1) := by decide +kernel
theorem dX4_land_21 : decode cX4_land 21 = .ok (.ifCond .ne 34, 3) := by decide +kernel
theorem dX4_land_24 : decode cX4_land 24 = .ok (.aload_n 0, 1) := by decide +kernel
theorem dX4_land_25 : decode cX4_land 25 = .ok (.getfield 36, 3) := by decide +kernel
theorem dX4_land_28 : decode cX4_land 28 = .ok (.getfield 73, 3) := by decide +kernel
theorem dX4_land_31 : decode cX4_land 31 = .ok (.iload_n 2, 1) := by decide +kernel
theorem dX4_land_32 : decode cX4_land 32 = .ok (.iaload, 1) := by decide +kernel
theorem dX4_land_33 : decode cX4_land 33 = .ok (.aload_n 0, 1) := by decide +kernel
theorem dX4_land_34 : decode cX4_land 34 = .ok (.getfield 40, 3) := by decide +kernel
theorem dX4_land_37 : decode cX4_land 37 = .ok (.if_icmp .ne 18, 3) := by decide +kernel
theorem dX4_land_40 : decode cX4_land 40 = .ok (.aload_n 0, 1) := by decide +kernel
theorem dX4_land_41 : decode cX4_land 41 = .ok (.getfield 9, 3) := by decide +kernel
theorem dX4_land_44 : decode cX4_land 44 = .ok (.iload_n 2, 1) := by decide +kernel
theorem dX4_land_45 : decode cX4_land 45 = .ok (.iconst 1, 1) := by decide +kernel
theorem dX4_land_46 : decode cX4_land 46 = .ok (.iastore, 1) := by decide +kernel
theorem dX4_land_47 : decode cX4_land 47 = .ok (.iload_n 1, 1) := by decide +kernel
theorem dX4_land_48 : decode cX4_land 48 = .ok (.aload_n 0, 1) := by decide +kernel
theorem dX4_land_49 : decode cX4_land 49 = .ok (.iload_n 2, 1) := by decide +kernel
theorem dX4_land_50 : decode cX4_land 50 = .ok (.invokevirtual 126, 3) := by decide +kernel
theorem dX4_land_53 : decode cX4_land 53 = .ok (.ior, 1) := by decide +kernel
theorem dX4_land_54 : decode cX4_land 54 = .ok (.istore_n 1, 1) := by decide +kernel
theorem dX4_land_55 : decode cX4_land 55 = .ok (.iinc 2 1, 3) := by decide +kernel
theorem dX4_land_58 : decode cX4_land 58 = .ok (.goto (-54), 3) := by decide +kernel
theorem dX4_land_61 : decode cX4_land 61 = .ok (.iconst 0, 1) := by decide +kernel
theorem dX4_land_62 : decode cX4_land 62 = .ok (.istore_n 2, 1) := by decide +kernel
theorem dX4_land_63 : decode cX4_land 63 = .ok (.iload_n 2, 1) := by decide +kernel
theorem dX4_land_64 : decode cX4_land 64 = .ok (.aload_n 0, 1) := by decide +kernel
theorem dX4_land_65 : decode cX4_land 65 = .ok (.getfield 36, 3) := by decide +kernel
theorem dX4_land_68 : decode cX4_land 68 = .ok (.getfield 67, 3) := by decide +kernel
theorem dX4_land_71 : decode cX4_land 71 = .ok (.if_icmp .ge 24, 3) := by decide +kernel
theorem dX4_land_74 : decode cX4_land 74 = .ok (.iload_n 1, 1) := by decide +kernel
theorem dX4_land_75 : decode cX4_land 75 = .ok (.iload_n 2, 1) := by decide +kernel
theorem dX4_land_76 : decode cX4_land 76 = .ok (.invokestatic 76, 3) := by decide +kernel
theorem dX4_land_79 : decode cX4_land 79 = .ok (.ifCond .eq 10, 3) := by decide +kernel
theorem dX4_land_82 : decode cX4_land 82 = .ok (.aload_n 0, 1) := by decide +kernel
theorem dX4_land_83 : decode cX4_land 83 = .ok (.getfield 21, 3) := by decide +kernel
theorem dX4_land_86 : decode cX4_land 86 = .ok (.iload_n 2, 1) := by decide +kernel
theorem dX4_land_87 : decode cX4_land 87 = .ok (.iconst 1, 1) := by decide +kernel
theorem dX4_land_88 : decode cX4_land 88 = .ok (.iastore, 1) := by decide +kernel
theorem dX4_land_89 : decode cX4_land 89 = .ok (.iinc 2 1, 3) := by decide +kernel
theorem dX4_land_92 : decode cX4_land 92 = .ok (.goto (-29), 3) := by decide +kernel
theorem dX4_land_95 : decode cX4_land 95 = .ok (.aload_n 0, 1) := by decide +kernel
theorem dX4_land_96 : decode cX4_land 96 = .ok (.aload_n 0, 1) := by decide +kernel
theorem dX4_land_97 : decode cX4_land 97 = .ok (.iload_n 1, 1) := by decide +kernel
theorem dX4_land_98 : decode cX4_land 98 = .ok (.invokevirtual 129, 3) := by decide +kernel
theorem dX4_land_101 : decode cX4_land 101 = .ok (.invokevirtual 132, 3) := by decide +kernel
theorem dX4_land_104 : decode cX4_land 104 = .ok (.iload_n 1, 1) := by decide +kernel
theorem dX4_land_105 : decode cX4_land 105 = .ok (.invokestatic 121, 3) := by decide +kernel
theorem dX4_land_108 : decode cX4_land 108 = .ok (.ireturn, 1) := by decide +kernel
theorem dX4_sink_0 : decode cX4_sink 0 = .ok (.aload_n 1, 1) := by decide +kernel
theorem dX4_sink_1 : decode cX4_sink 1 = .ok (.aload_n 0, 1) := by decide +kernel
theorem dX4_sink_2 : decode cX4_sink 2 = .ok (.iconst 0, 1) := by decide +kernel
theorem dX4_sink_3 : decode cX4_sink 3 = .ok (.invokevirtual 135, 3) := by decide +kernel
theorem dX4_sink_6 : decode cX4_sink 6 = .ok (.aload_n 1, 1) := by decide +kernel
theorem dX4_sink_7 : decode cX4_sink 7 = .ok (.aload_n 0, 1) := by decide +kernel
theorem dX4_sink_8 : decode cX4_sink 8 = .ok (.invokevirtual 141, 3) := by decide +kernel
theorem dX4_sink_11 : decode cX4_sink 11 = .ok (.istore_n 2, 1) := by decide +kernel
theorem dX4_sink_12 : decode cX4_sink 12 = .ok (.iconst 0, 1) := by decide +kernel
theorem dX4_sink_13 : decode cX4_sink 13 = .ok (.istore_n 3, 1) := by decide +kernel
theorem dX4_sink_14 : decode cX4_sink 14 = .ok (.iload_n 3, 1) := by decide +kernel
theorem dX4_sink_15 : decode cX4_sink 15 = .ok (.aload_n 0, 1) := by decide +kernel
theorem dX4_sink_16 : decode cX4_sink 16 = .ok (.getfield 36, 3) := by decide +kernel
theorem dX4_sink_19 : decode cX4_sink 19 = .ok (.getfield 70, 3) := by decide +kernel
theorem dX4_sink_22 : decode cX4_sink 22 = .ok (.if_icmp .ge 27, 3) := by decide +kernel
theorem dX4_sink_25 : decode cX4_sink 25 = .ok (.aload_n 1, 1) := by decide +kernel
theorem dX4_sink_26 : decode cX4_sink 26 = .ok (.getfield 145, 3) := by decide +kernel
theorem dX4_sink_29 : decode cX4_sink 29 = .ok (.iload_n 3, 1) := by decide +kernel
theorem dX4_sink_30 : decode cX4_sink 30 = .ok (.iaload, 1) := by decide +kernel
theorem dX4_sink_31 : decode cX4_sink 31 = .ok (.iload_n 2, 1) := by decide +kernel
theorem dX4_sink_32 : decode cX4_sink 32 = .ok (.iand, 1) := by decide +kernel
theorem dX4_sink_33 : decode cX4_sink 33 = .ok (.ifCond .eq 10, 3) := by decide +kernel
theorem dX4_sink_36 : decode cX4_sink 36 = .ok (.aload_n 0, 1) := by decide +kernel
theorem dX4_sink_37 : decode cX4_sink 37 = .ok (.getfield 9, 3) := by decide +kernel
theorem dX4_sink_40 : decode cX4_sink 40 = .ok (.iload_n 3, 1) := by decide +kernel
theorem dX4_sink_41 : decode cX4_sink 41 = .ok (.iconst 2, 1) := by decide +kernel
theorem dX4_sink_42 : decode cX4_sink 42 = .ok (.iastore, 1) := by decide +kernel
theorem dX4_sink_43 : decode cX4_sink 43 = .ok (.iinc 3 1, 3) := by decide +kernel
theorem dX4_sink_46 : decode cX4_sink 46 = .ok (.goto (-32), 3) := by decide +kernel
theorem dX4_sink_49 : decode cX4_sink 49 = .ok (.iconst 0, 1) := by decide +kernel
theorem dX4_sink_50 : decode cX4_sink 50 = .ok (.istore_n 3, 1) := by decide +kernel
theorem dX4_sink_51 : decode cX4_sink 51 = .ok (.iload_n 3, 1) := by decide +kernel
theorem dX4_sink_52 : decode cX4_sink 52 = .ok (.aload_n 0, 1) := by decide +kernel
theorem dX4_sink_53 : decode cX4_sink 53 = .ok (.getfield 36, 3) := by decide +kernel
theorem dX4_sink_56 : decode cX4_sink 56 = .ok (.getfield 67, 3) := by decide +kernel
theorem dX4_sink_59 : decode cX4_sink 59 = .ok (.if_icmp .ge 34, 3) := by decide +kernel
theorem dX4_sink_62 : decode cX4_sink 62 = .ok (.iload_n 2, 1) := by decide +kernel
theorem dX4_sink_63 : decode cX4_sink 63 = .ok (.iload_n 3, 1) := by decide +kernel
theorem dX4_sink_64 : decode cX4_sink 64 = .ok (.invokestatic 76, 3) := by decide +kernel
theorem dX4_sink_67 : decode cX4_sink 67 = .ok (.ifCond .eq 20, 3) := by decide +kernel
theorem dX4_sink_70 : decode cX4_sink 70 = .ok (.aload_n 0, 1) := by decide +kernel
theorem dX4_sink_71 : decode cX4_sink 71 = .ok (.getfield 21, 3) := by decide +kernel
theorem dX4_sink_74 : decode cX4_sink 74 = .ok (.iload_n 3, 1) := by decide +kernel
theorem dX4_sink_75 : decode cX4_sink 75 = .ok (.iconst 2, 1) := by decide +kernel
theorem dX4_sink_76 : decode cX4_sink 76 = .ok (.iastore, 1) := by decide +kernel
theorem dX4_sink_77 : decode cX4_sink 77 = .ok (.aload_n 0, 1) := by decide +kernel
theorem dX4_sink_78 : decode cX4_sink 78 = .ok (.getfield 24, 3) := by decide +kernel
theorem dX4_sink_81 : decode cX4_sink 81 = .ok (.iload_n 3, 1) := by decide +kernel
theorem dX4_sink_82 : decode cX4_sink 82 = .ok (.aload_n 0, 1) := by decide +kernel
theorem dX4_sink_83 : decode cX4_sink 83 = .ok (.getfield 40, 3) := by decide +kernel
theorem dX4_sink_86 : decode cX4_sink 86 = .ok (.iastore, 1) := by decide +kernel
theorem dX4_sink_87 : decode cX4_sink 87 = .ok (.iinc 3 1, 3) := by decide +kernel
theorem dX4_sink_90 : decode cX4_sink 90 = .ok (.goto (-39), 3) := by decide +kernel
theorem dX4_sink_93 : decode cX4_sink 93 = .ok (.aload_n 0, 1) := by decide +kernel
theorem dX4_sink_94 : decode cX4_sink 94 = .ok (.aload_n 0, 1) := by decide +kernel
theorem dX4_sink_95 : decode cX4_sink 95 = .ok (.iload_n 2, 1) := by decide +kernel
theorem dX4_sink_96 : decode cX4_sink 96 = .ok (.invokevirtual 129, 3) := by decide +kernel
theorem dX4_sink_99 : decode cX4_sink 99 = .ok (.invokevirtual 93, 3) := by decide +kernel
theorem dX4_sink_102 : decode cX4_sink 102 = .ok (.iload_n 2, 1) := by decide +kernel
theorem dX4_sink_103 : decode cX4_sink 103 = .ok (.invokestatic 121, 3) := by decide +kernel
theorem dX4_sink_106 : decode cX4_sink 106 = .ok (.ireturn, 1) := by decide +kernel
theorem dX5_init_0 : decode cX5_init 0 = .ok (.aload_n 0, 1) := by decide +kernel
theorem dX5_init_1 : decode cX5_init 1 = .ok (.invokespecial 3, 3) := by decide +kernel
theorem dX5_init_4 : decode cX5_init 4 = .ok (.aload_n 0, 1) := by decide +kernel
theorem dX5_init_5 : decode cX5_init 5 = .ok (.bipush 6, 2) := by decide +kernel
theorem dX5_init_7 : decode cX5_init 7 = .ok (.newarray .int, 2) := by decide +kernel
theorem dX5_init_9 : decode cX5_init 9 = .ok (.putfield 9, 3) := by decide +kernel
theorem dX5_init_12 : decode cX5_init 12 = .ok (.aload_n 0, 1) := by decide +kernel
theorem dX5_init_13 : decode cX5_init 13 = .ok (.bipush 6, 2) := by decide +kernel
theorem dX5_init_15 : decode cX5_init 15 = .ok (.newarray .int, 2) := by decide +kernel
theorem dX5_init_17 : decode cX5_init 17 = .ok (.putfield 15, 3) := by decide +kernel
theorem dX5_init_20 : decode cX5_init 20 = .ok (.aload_n 0, 1) := by decide +kernel
theorem dX5_init_21 : decode cX5_init 21 = .ok (.bipush 8, 2) := by decide +kernel
theorem dX5_init_23 : decode cX5_init 23 = .ok (.newarray .int, 2) := by decide +kernel
theorem dX5_init_25 : decode cX5_init 25 = .ok (.putfield 18, 3) := by decide +kernel
theorem dX5_init_28 : decode cX5_init 28 = .ok (.aload_n 0, 1) := by decide +kernel
theorem dX5_init_29 : decode cX5_init 29 = .ok (.bipush 8, 2) := by decide +kernel
theorem dX5_init_31 : decode cX5_init 31 = .ok (.newarray .int, 2) := by decide +kernel
theorem dX5_init_33 : decode cX5_init 33 = .ok (.putfield 21, 3) := by decide +kernel
theorem dX5_init_36 : decode cX5_init 36 = .ok (.aload_n 0, 1) := by decide +kernel
theorem dX5_init_37 : decode cX5_init 37 = .ok (.bipush 100, 2) := by decide +kernel
theorem dX5_init_39 : decode cX5_init 39 = .ok (.newarray .int, 2) := by decide +kernel
theorem dX5_init_41 : decode cX5_init 41 = .ok (.putfield 24, 3) := by decide +kernel
theorem dX5_init_44 : decode cX5_init 44 = .ok (.return_, 1) := by decide +kernel
theorem dX5_clear_0 : decode cX5_clear 0 = .ok (.aload_n 0, 1) := by decide +kernel
theorem dX5_clear_1 : decode cX5_clear 1 = .ok (.iconst 0, 1) := by decide +kernel
theorem dX5_clear_2 : decode cX5_clear 2 = .ok (.putfield 27, 3) := by decide +kernel
theorem dX5_clear_5 : decode cX5_clear 5 = .ok (.aload_n 0, 1) := by decide +kernel
theorem dX5_clear_6 : decode cX5_clear 6 = .ok (.iconst 0, 1) := by decide +kernel
theorem dX5_clear_7 : decode cX5_clear 7 = .ok (.putfield 31, 3) := by decide +kernel
theorem dX5_clear_10 : decode cX5_clear 10 = .ok (.aload_n 0, 1) := by decide +kernel
theorem dX5_clear_11 : decode cX5_clear 11 = .ok (.iconst 0, 1) := by decide +kernel
theorem dX5_clear_12 : decode cX5_clear 12 = .ok (.putfield 34, 3) := by decide +kernel
theorem dX5_clear_15 : decode cX5_clear 15 = .ok (.aload_n 0, 1) := by decide +kernel
theorem dX5_clear_16 : decode cX5_clear 16 = .ok (.iconst 0, 1) := by decide +kernel
theorem dX5_clear_17 : decode cX5_clear 17 = .ok (.putfield 37, 3) := by decide +kernel
theorem dX5_clear_20 : decode cX5_clear 20 = .ok (.aload_n 0, 1) := by decide +kernel
theorem dX5_clear_21 : decode cX5_clear 21 = .ok (.getfield 24, 3) := by decide +kernel
theorem dX5_clear_24 : decode cX5_clear 24 = .ok (.iconst 0, 1) := by decide +kernel
theorem dX5_clear_25 : decode cX5_clear 25 = .ok (.invokestatic 40, 3) := by decide +kernel
theorem dX5_clear_28 : decode cX5_clear 28 = .ok (.return_, 1) := by decide +kernel
theorem dX5_copyFrom_0 : decode cX5_copyFrom 0 = .ok (.aload_n 0, 1) := by decide +kernel
theorem dX5_copyFrom_1 : decode cX5_copyFrom 1 = .ok (.aload_n 1, 1) := by decide +kernel
theorem dX5_copyFrom_2 : decode cX5_copyFrom 2 = .ok (.getfield 27, 3) := by decide +kernel
theorem dX5_copyFrom_5 : decode cX5_copyFrom 5 = .ok (.putfield 27, 3) := by decide +kernel
theorem dX5_copyFrom_8 : decode cX5_copyFrom 8 = .ok (.aload_n 0, 1) := by decide +kernel
theorem dX5_copyFrom_9 : decode cX5_copyFrom 9 = .ok (.aload_n 1, 1) := by decide +kernel
theorem dX5_copyFrom_10 : decode cX5_copyFrom 10 = .ok (.getfield 31, 3) := by decide +kernel
theorem dX5_copyFrom_13 : decode cX5_copyFrom 13 = .ok (.putfield 31, 3) := by decide +kernel
theorem dX5_copyFrom_16 : decode cX5_copyFrom 16 = .ok (.aload_n 0, 1) := by decide +kernel
theorem dX5_copyFrom_17 : decode cX5_copyFrom 17 = .ok (.aload_n 1, 1) := by decide +kernel
theorem dX5_copyFrom_18 : decode cX5_copyFrom 18 = .ok (.getfield 34, 3) := by decide +kernel
theorem dX5_copyFrom_21 : decode cX5_copyFrom 21 = .ok (.putfield 34, 3) := by decide +kernel
theorem dX5_copyFrom_24 : decode cX5_copyFrom 24 = .ok (.aload_n 0, 1) := by decide +kernel
theorem dX5_copyFrom_25 : decode cX5_copyFrom 25 = .ok (.aload_n 1, 1) := by decide +kernel
theorem dX5_copyFrom_26 : decode cX5_copyFrom 26 = .ok (.getfield 37, 3) := by decide +kernel
theorem dX5_copyFrom_29 : decode cX5_copyFrom 29 = .ok (.putfield 37, 3) := by decide +kernel
theorem dX5_copyFrom_32 : decode cX5_copyFrom 32 = .ok (.aload_n 1, 1) := by decide +kernel
theorem dX5_copyFrom_33 : decode cX5_copyFrom 33 = .ok (.getfield 9, 3) := by decide +kernel
theorem dX5_copyFrom_36 : decode cX5_copyFrom 36 = .ok (.iconst 0, 1) := by decide +kernel
theorem dX5_copyFrom_37 : decode cX5_copyFrom 37 = .ok (.aload_n 0, 1) := by decide +kernel
theorem dX5_copyFrom_38 : decode cX5_copyFrom 38 = .ok (.getfield 9, 3) := by decide +kernel
theorem dX5_copyFrom_41 : decode cX5_copyFrom 41 = .ok (.iconst 0, 1) := by decide +kernel
theorem dX5_copyFrom_42 : decode cX5_copyFrom 42 = .ok (.bipush 6, 2) := by decide +kernel
theorem dX5_copyFrom_44 : decode cX5_copyFrom 44 = .ok (.invokestatic 46, 3) := by decide +kernel
theorem dX5_copyFrom_47 : decode cX5_copyFrom 47 = .ok (.aload_n 1, 1) := by decide +kernel
theorem dX5_copyFrom_48 : decode cX5_copyFrom 48 = .ok (.getfield 15, 3) := by decide +kernel
theorem dX5_copyFrom_51 : decode cX5_copyFrom 51 = .ok (.iconst 0, 1) := by decide +kernel
theorem dX5_copyFrom_52 : decode cX5_copyFrom 52 = .ok (.aload_n 0, 1) := by decide +kernel
theorem dX5_copyFrom_53 : decode cX5_copyFrom 53 = .ok (.getfield 15, 3) := by decide +kernel
theorem dX5_copyFrom_56 : decode cX5_copyFrom 56 = .ok (.iconst 0, 1) := by decide +kernel
theorem dX5_copyFrom_57 : decode cX5_copyFrom 57 = .ok (.bipush 6, 2) := by decide +kernel
theorem dX5_copyFrom_59 : decode cX5_copyFrom 59 = .ok (.invokestatic 46, 3) := by decide +kernel
theorem dX5_copyFrom_62 : decode cX5_copyFrom 62 = .ok (.aload_n 1, 1) := by decide +kernel
theorem dX5_copyFrom_63 : decode cX5_copyFrom 63 = .ok (.getfield 18, 3) := by decide +kernel
theorem dX5_copyFrom_66 : decode cX5_copyFrom 66 = .ok (.iconst 0, 1) := by decide +kernel
theorem dX5_copyFrom_67 : decode cX5_copyFrom 67 = .ok (.aload_n 0, 1) := by decide +kernel
theorem dX5_copyFrom_68 : decode cX5_copyFrom 68 = .ok (.getfield 18, 3) := by decide +kernel
theorem dX5_copyFrom_71 : decode cX5_copyFrom 71 = .ok (.iconst 0, 1) := by decide +kernel
theorem dX5_copyFrom_72 : decode cX5_copyFrom 72 = .ok (.bipush 8, 2) := by decide +kernel
theorem dX5_copyFrom_74 : decode cX5_copyFrom 74 = .ok (.invokestatic 46, 3) := by decide +kernel
theorem dX5_copyFrom_77 : decode cX5_copyFrom 77 = .ok (.aload_n 1, 1) := by decide +kernel
theorem dX5_copyFrom_78 : decode cX5_copyFrom 78 = .ok (.getfield 21, 3) := by decide +kernel
theorem dX5_copyFrom_81 : decode cX5_copyFrom 81 = .ok (.iconst 0, 1) := by decide +kernel
theorem dX5_copyFrom_82 : decode cX5_copyFrom 82 = .ok (.aload_n 0, 1) := by decide +kernel
theorem dX5_copyFrom_83 : decode cX5_copyFrom 83 = .ok (.getfield 21, 3) := by decide +kernel
theorem dX5_copyFrom_86 : decode cX5_copyFrom 86 = .ok (.iconst 0, 1) := by decide +kernel
theorem dX5_copyFrom_87 : decode cX5_copyFrom 87 = .ok (.bipush 8, 2) := by decide +kernel
theorem dX5_copyFrom_89 : decode cX5_copyFrom 89 = .ok (.invokestatic 46, 3) := by decide +kernel
theorem dX5_copyFrom_92 : decode cX5_copyFrom 92 = .ok (.aload_n 1, 1) := by decide +kernel
theorem dX5_copyFrom_93 : decode cX5_copyFrom 93 = .ok (.getfield 24, 3) := by decide +kernel
theorem dX5_copyFrom_96 : decode cX5_copyFrom 96 = .ok (.iconst 0, 1) := by decide +kernel
theorem dX5_copyFrom_97 : decode cX5_copyFrom 97 = .ok (.aload_n 0, 1) := by decide +kernel
theorem dX5_copyFrom_98 : decode cX5_copyFrom 98 = .ok (.getfield 24, 3) := by decide +kernel
theorem dX5_copyFrom_101 : decode cX5_copyFrom 101 = .ok (.iconst 0, 1) := by decide +kernel
theorem dX5_copyFrom_102 : decode cX5_copyFrom 102 = .ok (.bipush 100, 2) := by decide +kernel
theorem dX5_copyFrom_104 : decode cX5_copyFrom 104 = .ok (.invokestatic 46, 3) := by decide +kernel
theorem dX5_copyFrom_107 : decode cX5_copyFrom 107 = .ok (.return_, 1) := by decide +kernel
theorem dX6_init_0 : decode cX6_init 0 = .ok (.aload_n 0, 1) := by decide +kernel
theorem dX6_init_1 : decode cX6_init 1 = .ok (.invokespecial 3, 3) := by decide +kernel
theorem dX6_init_4 : decode cX6_init 4 = .ok (.aload_n 0, 1) := by decide +kernel
theorem dX6_init_5 : decode cX6_init 5 = .ok (.new 9, 3) := by decide +kernel
theorem dX6_init_8 : decode cX6_init 8 = .ok (.dup, 1) := by decide +kernel
theorem dX6_init_9 : decode cX6_init 9 = .ok (.invokespecial 11, 3) := by decide +kernel
theorem dX6_init_12 : decode cX6_init 12 = .ok (.putfield 12, 3) := by decide +kernel
theorem dX6_init_15 : decode cX6_init 15 = .ok (.aload_n 0, 1) := by decide +kernel
theorem dX6_init_16 : decode cX6_init 16 = .ok (.new 18, 3) := by decide +kernel
theorem dX6_init_19 : decode cX6_init 19 = .ok (.dup, 1) := by decide +kernel
theorem dX6_init_20 : decode cX6_init 20 = .ok (.aload_n 0, 1) := by decide +kernel
theorem dX6_init_21 : decode cX6_init 21 = .ok (.getfield 12, 3) := by decide +kernel
theorem dX6_init_24 : decode cX6_init 24 = .ok (.invokespecial 20, 3) := by decide +kernel
theorem dX6_init_27 : decode cX6_init 27 = .ok (.putfield 23, 3) := by decide +kernel
theorem dX6_init_30 : decode cX6_init 30 = .ok (.aload_n 0, 1) := by decide +kernel
theorem dX6_init_31 : decode cX6_init 31 = .ok (.aload_n 1, 1) := by decide +kernel
theorem dX6_init_32 : decode cX6_init 32 = .ok (.putfield 27, 3) := by decide +kernel
theorem dX6_init_35 : decode cX6_init 35 = .ok (.return_, 1) := by decide +kernel
theorem dX6_read_0 : decode cX6_read 0 = .ok (.aload_n 0, 1) := by decide +kernel
theorem dX6_read_1 : decode cX6_read 1 = .ok (.getfield 27, 3) := by decide +kernel
theorem dX6_read_4 : decode cX6_read 4 = .ok (.invokevirtual 31, 3) := by decide +kernel
theorem dX6_read_7 : decode cX6_read 7 = .ok (.aload_n 0, 1) := by decide +kernel
theorem dX6_read_8 : decode cX6_read 8 = .ok (.getfield 12, 3) := by decide +kernel
theorem dX6_read_11 : decode cX6_read 11 = .ok (.invokevirtual 36, 3) := by decide +kernel
theorem dX6_read_14 : decode cX6_read 14 = .ok (.aload_n 0, 1) := by decide +kernel
theorem dX6_read_15 : decode cX6_read 15 = .ok (.getfield 23, 3) := by decide +kernel
theorem dX6_read_18 : decode cX6_read 18 = .ok (.invokevirtual 39, 3) := by decide +kernel
theorem dX6_read_21 : decode cX6_read 21 = .ok (.iconst 0, 1) := by decide +kernel
theorem dX6_read_22 : decode cX6_read 22 = .ok (.istore_n 1, 1) := by decide +kernel
theorem dX6_read_23 : decode cX6_read 23 = .ok (.iload_n 1, 1) := by decide +kernel
theorem dX6_read_24 : decode cX6_read 24 = .ok (.bipush 40, 2) := by decide +kernel
theorem dX6_read_26 : decode cX6_read 26 = .ok (.if_icmp .gt 60, 3) := by decide +kernel
theorem dX6_read_29 : decode cX6_read 29 = .ok (.aload_n 0, 1) := by decide +kernel
theorem dX6_read_30 : decode cX6_read 30 = .ok (.iload_n 1, 1) := by decide +kernel
theorem dX6_read_31 : decode cX6_read 31 = .ok (.invokevirtual 40, 3) := by decide +kernel
theorem dX6_read_34 : decode cX6_read 34 = .ok (.ifCond .ne 5, 3) := by decide +kernel
theorem dX6_read_37 : decode cX6_read 37 = .ok (.iconst 0, 1) := by decide +kernel
theorem dX6_read_38 : decode cX6_read 38 = .ok (.ireturn, 1) := by decide +kernel
theorem dX6_read_39 : decode cX6_read 39 = .ok (.aload_n 0, 1) := by decide +kernel
theorem dX6_read_40 : decode cX6_read 40 = .ok (.getfield 27, 3) := by decide +kernel
theorem dX6_read_43 : decode cX6_read 43 = .ok (.invokevirtual 44, 3) := by decide +kernel
theorem dX6_read_46 : decode cX6_read 46 = .ok (.iconst (-1), 1) := by decide +kernel
theorem dX6_read_47 : decode cX6_read 47 = .ok (.if_icmp .ne 5, 3) := by decide +kernel
theorem dX6_read_50 : decode cX6_read 50 = .ok (.iconst 1, 1) := by decide +kernel
theorem dX6_read_51 : decode cX6_read 51 = .ok (.ireturn, 1) := by decide +kernel
theorem dX6_read_52 : decode cX6_read 52 = .ok (.aload_n 0, 1) := by decide +kernel
theorem dX6_read_53 : decode cX6_read 53 = .ok (.getfield 27, 3) := by decide +kernel
theorem dX6_read_56 : decode cX6_read 56 = .ok (.bipush 59, 2) := by decide +kernel
theorem dX6_read_58 : decode cX6_read 58 = .ok (.invokevirtual 48, 3) := by decide +kernel
theorem dX6_read_61 : decode cX6_read 61 = .ok (.ifCond .ne 19, 3) := by decide +kernel
theorem dX6_read_64 : decode cX6_read 64 = .ok (.aload_n 0, 1) := by decide +kernel
theorem dX6_read_65 : decode cX6_read 65 = .ok (.getfield 27, 3) := by decide +kernel
theorem dX6_read_68 : decode cX6_read 68 = .ok (.aload_n 0, 1) := by decide +kernel
theorem dX6_read_69 : decode cX6_read 69 = .ok (.getfield 27, 3) := by decide +kernel
theorem dX6_read_72 : decode cX6_read 72 = .ok (.getfield 51, 3) := by decide +kernel
theorem dX6_read_75 : decode cX6_read 75 = .ok (.iconst 0, 1) := by decide +kernel
theorem dX6_read_76 : decode cX6_read 76 = .ok (.invokevirtual 55, 3) := by decide +kernel
theorem dX6_read_79 : decode cX6_read 79 = .ok (.ireturn, 1) := by decide +kernel
theorem dX6_read_80 : decode cX6_read 80 = .ok (.iinc 1 1, 3) := by decide +kernel
theorem dX6_read_83 : decode cX6_read 83 = .ok (.goto (-60), 3) := by decide +kernel
theorem dX6_read_86 : decode cX6_read 86 = .ok (.iconst 0, 1) := by decide +kernel
theorem dX6_read_87 : decode cX6_read 87 = .ok (.ireturn, 1) := by decide +kernel
