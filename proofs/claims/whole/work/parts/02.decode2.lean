theorem dX11_rule_0 : decode cX11_rule 0 = .ok (.aload_n 0, 1) := by decide +kernel
theorem dX11_rule_1 : decode cX11_rule 1 = .ok (.getfield 132, 3) := by decide +kernel
theorem dX11_rule_4 : decode cX11_rule 4 = .ok (.bipush 6, 2) := by decide +kernel
theorem dX11_rule_6 : decode cX11_rule 6 = .ok (.if_icmp .lt 5, 3) := by decide +kernel
theorem dX11_rule_9 : decode cX11_rule 9 = .ok (.iconst (-1), 1) := by decide +kernel
theorem dX11_rule_10 : decode cX11_rule 10 = .ok (.ireturn, 1) := by decide +kernel
theorem dX11_rule_11 : decode cX11_rule 11 = .ok (.aload_n 0, 1) := by decide +kernel
theorem dX11_rule_12 : decode cX11_rule 12 = .ok (.getfield 28, 3) := by decide +kernel
theorem dX11_rule_15 : decode cX11_rule 15 = .ok (.invokevirtual 135, 3) := by decide +kernel
theorem dX11_rule_18 : decode cX11_rule 18 = .ok (.istore_n 1, 1) := by decide +kernel
theorem dX11_rule_19 : decode cX11_rule 19 = .ok (.aload_n 0, 1) := by decide +kernel
theorem dX11_rule_20 : decode cX11_rule 20 = .ok (.getfield 12, 3) := by decide +kernel
theorem dX11_rule_23 : decode cX11_rule 23 = .ok (.iconst 0, 1) := by decide +kernel
theorem dX11_rule_24 : decode cX11_rule 24 = .ok (.putfield 106, 3) := by decide +kernel
theorem dX11_rule_27 : decode cX11_rule 27 = .ok (.iload_n 1, 1) := by decide +kernel
theorem dX11_rule_28 : decode cX11_rule 28 = .ok (.ifCond .ne 14, 3) := by decide +kernel
theorem dX11_rule_31 : decode cX11_rule 31 = .ok (.bipush (-2), 2) := by decide +kernel
theorem dX11_rule_33 : decode cX11_rule 33 = .ok (.aload_n 0, 1) := by decide +kernel
theorem dX11_rule_34 : decode cX11_rule 34 = .ok (.getfield 12, 3) := by decide +kernel
theorem dX11_rule_37 : decode cX11_rule 37 = .ok (.getfield 118, 3) := by decide +kernel
theorem dX11_rule_40 : decode cX11_rule 40 = .ok (.isub, 1) := by decide +kernel
theorem dX11_rule_41 : decode cX11_rule 41 = .ok (.ireturn, 1) := by decide +kernel
theorem dX11_rule_42 : decode cX11_rule 42 = .ok (.aload_n 0, 1) := by decide +kernel
theorem dX11_rule_43 : decode cX11_rule 43 = .ok (.getfield 49, 3) := by decide +kernel
theorem dX11_rule_46 : decode cX11_rule 46 = .ok (.aload_n 0, 1) := by decide +kernel
theorem dX11_rule_47 : decode cX11_rule 47 = .ok (.getfield 132, 3) := by decide +kernel
theorem dX11_rule_50 : decode cX11_rule 50 = .ok (.aaload, 1) := by decide +kernel
theorem dX11_rule_51 : decode cX11_rule 51 = .ok (.aload_n 0, 1) := by decide +kernel
theorem dX11_rule_52 : decode cX11_rule 52 = .ok (.getfield 28, 3) := by decide +kernel
theorem dX11_rule_55 : decode cX11_rule 55 = .ok (.getfield 136, 3) := by decide +kernel
theorem dX11_rule_58 : decode cX11_rule 58 = .ok (.invokevirtual 140, 3) := by decide +kernel
theorem dX11_rule_61 : decode cX11_rule 61 = .ok (.aload_n 0, 1) := by decide +kernel
theorem dX11_rule_62 : decode cX11_rule 62 = .ok (.dup, 1) := by decide +kernel
theorem dX11_rule_63 : decode cX11_rule 63 = .ok (.getfield 132, 3) := by decide +kernel
theorem dX11_rule_66 : decode cX11_rule 66 = .ok (.iconst 1, 1) := by decide +kernel
theorem dX11_rule_67 : decode cX11_rule 67 = .ok (.iadd, 1) := by decide +kernel
theorem dX11_rule_68 : decode cX11_rule 68 = .ok (.putfield 132, 3) := by decide +kernel
theorem dX11_rule_71 : decode cX11_rule 71 = .ok (.aload_n 0, 1) := by decide +kernel
theorem dX11_rule_72 : decode cX11_rule 72 = .ok (.getfield 132, 3) := by decide +kernel
theorem dX11_rule_75 : decode cX11_rule 75 = .ok (.iconst 1, 1) := by decide +kernel
theorem dX11_rule_76 : decode cX11_rule 76 = .ok (.isub, 1) := by decide +kernel
theorem dX11_rule_77 : decode cX11_rule 77 = .ok (.ireturn, 1) := by decide +kernel
theorem dX11_owner_0 : decode cX11_owner 0 = .ok (.iload_n 1, 1) := by decide +kernel
theorem dX11_owner_1 : decode cX11_owner 1 = .ok (.ifCond .lt 17, 3) := by decide +kernel
theorem dX11_owner_4 : decode cX11_owner 4 = .ok (.iload_n 1, 1) := by decide +kernel
theorem dX11_owner_5 : decode cX11_owner 5 = .ok (.aload_n 0, 1) := by decide +kernel
theorem dX11_owner_6 : decode cX11_owner 6 = .ok (.getfield 35, 3) := by decide +kernel
theorem dX11_owner_9 : decode cX11_owner 9 = .ok (.getfield 91, 3) := by decide +kernel
theorem dX11_owner_12 : decode cX11_owner 12 = .ok (.getfield 144, 3) := by decide +kernel
theorem dX11_owner_15 : decode cX11_owner 15 = .ok (.if_icmp .lt 5, 3) := by decide +kernel
theorem dX11_owner_18 : decode cX11_owner 18 = .ok (.iconst (-1), 1) := by decide +kernel
theorem dX11_owner_19 : decode cX11_owner 19 = .ok (.ireturn, 1) := by decide +kernel
theorem dX11_owner_20 : decode cX11_owner 20 = .ok (.iload_n 2, 1) := by decide +kernel
theorem dX11_owner_21 : decode cX11_owner 21 = .ok (.tableswitch 98 0 3 #[31, 44, 57, 70], 31) := by decide +kernel
theorem dX11_owner_52 : decode cX11_owner 52 = .ok (.aload_n 0, 1) := by decide +kernel
theorem dX11_owner_53 : decode cX11_owner 53 = .ok (.getfield 35, 3) := by decide +kernel
theorem dX11_owner_56 : decode cX11_owner 56 = .ok (.getfield 91, 3) := by decide +kernel
theorem dX11_owner_59 : decode cX11_owner 59 = .ok (.getfield 147, 3) := by decide +kernel
theorem dX11_owner_62 : decode cX11_owner 62 = .ok (.iload_n 1, 1) := by decide +kernel
theorem dX11_owner_63 : decode cX11_owner 63 = .ok (.iaload, 1) := by decide +kernel
theorem dX11_owner_64 : decode cX11_owner 64 = .ok (.ireturn, 1) := by decide +kernel
theorem dX11_owner_65 : decode cX11_owner 65 = .ok (.aload_n 0, 1) := by decide +kernel
theorem dX11_owner_66 : decode cX11_owner 66 = .ok (.getfield 35, 3) := by decide +kernel
theorem dX11_owner_69 : decode cX11_owner 69 = .ok (.getfield 91, 3) := by decide +kernel
theorem dX11_owner_72 : decode cX11_owner 72 = .ok (.getfield 150, 3) := by decide +kernel
theorem dX11_owner_75 : decode cX11_owner 75 = .ok (.iload_n 1, 1) := by decide +kernel
theorem dX11_owner_76 : decode cX11_owner 76 = .ok (.iaload, 1) := by decide +kernel
theorem dX11_owner_77 : decode cX11_owner 77 = .ok (.ireturn, 1) := by decide +kernel
theorem dX11_owner_78 : decode cX11_owner 78 = .ok (.aload_n 0, 1) := by decide +kernel
theorem dX11_owner_79 : decode cX11_owner 79 = .ok (.getfield 35, 3) := by decide +kernel
theorem dX11_owner_82 : decode cX11_owner 82 = .ok (.getfield 71, 3) := by decide +kernel
theorem dX11_owner_85 : decode cX11_owner 85 = .ok (.getfield 153, 3) := by decide +kernel
theorem dX11_owner_88 : decode cX11_owner 88 = .ok (.iload_n 1, 1) := by decide +kernel
theorem dX11_owner_89 : decode cX11_owner 89 = .ok (.iaload, 1) := by decide +kernel
theorem dX11_owner_90 : decode cX11_owner 90 = .ok (.ireturn, 1) := by decide +kernel
theorem dX11_owner_91 : decode cX11_owner 91 = .ok (.aload_n 0, 1) := by decide +kernel
theorem dX11_owner_92 : decode cX11_owner 92 = .ok (.getfield 56, 3) := by decide +kernel
theorem dX11_owner_95 : decode cX11_owner 95 = .ok (.aload_n 0, 1) := by decide +kernel
theorem dX11_owner_96 : decode cX11_owner 96 = .ok (.getfield 35, 3) := by decide +kernel
theorem dX11_owner_99 : decode cX11_owner 99 = .ok (.getfield 71, 3) := by decide +kernel
theorem dX11_owner_102 : decode cX11_owner 102 = .ok (.iconst 0, 1) := by decide +kernel
theorem dX11_owner_103 : decode cX11_owner 103 = .ok (.invokevirtual 156, 3) := by decide +kernel
theorem dX11_owner_106 : decode cX11_owner 106 = .ok (.aload_n 0, 1) := by decide +kernel
theorem dX11_owner_107 : decode cX11_owner 107 = .ok (.getfield 56, 3) := by decide +kernel
theorem dX11_owner_110 : decode cX11_owner 110 = .ok (.getfield 160, 3) := by decide +kernel
theorem dX11_owner_113 : decode cX11_owner 113 = .ok (.iload_n 1, 1) := by decide +kernel
theorem dX11_owner_114 : decode cX11_owner 114 = .ok (.iaload, 1) := by decide +kernel
theorem dX11_owner_115 : decode cX11_owner 115 = .ok (.invokestatic 163, 3) := by decide +kernel
theorem dX11_owner_118 : decode cX11_owner 118 = .ok (.ireturn, 1) := by decide +kernel
theorem dX11_owner_119 : decode cX11_owner 119 = .ok (.iconst (-1), 1) := by decide +kernel
theorem dX11_owner_120 : decode cX11_owner 120 = .ok (.ireturn, 1) := by decide +kernel
theorem dX11_thing_0 : decode cX11_thing 0 = .ok (.iload_n 1, 1) := by decide +kernel
theorem dX11_thing_1 : decode cX11_thing 1 = .ok (.ifCond .lt 17, 3) := by decide +kernel
theorem dX11_thing_4 : decode cX11_thing 4 = .ok (.iload_n 1, 1) := by decide +kernel
theorem dX11_thing_5 : decode cX11_thing 5 = .ok (.aload_n 0, 1) := by decide +kernel
theorem dX11_thing_6 : decode cX11_thing 6 = .ok (.getfield 35, 3) := by decide +kernel
theorem dX11_thing_9 : decode cX11_thing 9 = .ok (.getfield 91, 3) := by decide +kernel
theorem dX11_thing_12 : decode cX11_thing 12 = .ok (.getfield 127, 3) := by decide +kernel
theorem dX11_thing_15 : decode cX11_thing 15 = .ok (.if_icmp .lt 5, 3) := by decide +kernel
theorem dX11_thing_18 : decode cX11_thing 18 = .ok (.iconst (-1), 1) := by decide +kernel
theorem dX11_thing_19 : decode cX11_thing 19 = .ok (.ireturn, 1) := by decide +kernel
theorem dX11_thing_20 : decode cX11_thing 20 = .ok (.iload_n 2, 1) := by decide +kernel
theorem dX11_thing_21 : decode cX11_thing 21 = .ok (.tableswitch 129 0 5 #[39, 52, 65, 78, 91, 104], 39) := by decide +kernel
theorem dX11_thing_60 : decode cX11_thing 60 = .ok (.aload_n 0, 1) := by decide +kernel
theorem dX11_thing_61 : decode cX11_thing 61 = .ok (.getfield 35, 3) := by decide +kernel
theorem dX11_thing_64 : decode cX11_thing 64 = .ok (.getfield 71, 3) := by decide +kernel
theorem dX11_thing_67 : decode cX11_thing 67 = .ok (.getfield 167, 3) := by decide +kernel
theorem dX11_thing_70 : decode cX11_thing 70 = .ok (.iload_n 1, 1) := by decide +kernel
theorem dX11_thing_71 : decode cX11_thing 71 = .ok (.iaload, 1) := by decide +kernel
theorem dX11_thing_72 : decode cX11_thing 72 = .ok (.ireturn, 1) := by decide +kernel
theorem dX11_thing_73 : decode cX11_thing 73 = .ok (.aload_n 0, 1) := by decide +kernel
theorem dX11_thing_74 : decode cX11_thing 74 = .ok (.getfield 35, 3) := by decide +kernel
theorem dX11_thing_77 : decode cX11_thing 77 = .ok (.getfield 91, 3) := by decide +kernel
theorem dX11_thing_80 : decode cX11_thing 80 = .ok (.getfield 170, 3) := by decide +kernel
theorem dX11_thing_83 : decode cX11_thing 83 = .ok (.iload_n 1, 1) := by decide +kernel
theorem dX11_thing_84 : decode cX11_thing 84 = .ok (.iaload, 1) := by decide +kernel
theorem dX11_thing_85 : decode cX11_thing 85 = .ok (.ireturn, 1) := by decide +kernel
theorem dX11_thing_86 : decode cX11_thing 86 = .ok (.aload_n 0, 1) := by decide +kernel
theorem dX11_thing_87 : decode cX11_thing 87 = .ok (.getfield 35, 3) := by decide +kernel
theorem dX11_thing_90 : decode cX11_thing 90 = .ok (.getfield 71, 3) := by decide +kernel
theorem dX11_thing_93 : decode cX11_thing 93 = .ok (.getfield 173, 3) := by decide +kernel
theorem dX11_thing_96 : decode cX11_thing 96 = .ok (.iload_n 1, 1) := by decide +kernel
theorem dX11_thing_97 : decode cX11_thing 97 = .ok (.iaload, 1) := by decide +kernel
theorem dX11_thing_98 : decode cX11_thing 98 = .ok (.ireturn, 1) := by decide +kernel
theorem dX11_thing_99 : decode cX11_thing 99 = .ok (.aload_n 0, 1) := by decide +kernel
theorem dX11_thing_100 : decode cX11_thing 100 = .ok (.getfield 35, 3) := by decide +kernel
theorem dX11_thing_103 : decode cX11_thing 103 = .ok (.getfield 91, 3) := by decide +kernel
theorem dX11_thing_106 : decode cX11_thing 106 = .ok (.getfield 176, 3) := by decide +kernel
theorem dX11_thing_109 : decode cX11_thing 109 = .ok (.iload_n 1, 1) := by decide +kernel
theorem dX11_thing_110 : decode cX11_thing 110 = .ok (.iaload, 1) := by decide +kernel
theorem dX11_thing_111 : decode cX11_thing 111 = .ok (.ireturn, 1) := by decide +kernel
theorem dX11_thing_112 : decode cX11_thing 112 = .ok (.aload_n 0, 1) := by decide +kernel
theorem dX11_thing_113 : decode cX11_thing 113 = .ok (.getfield 35, 3) := by decide +kernel
theorem dX11_thing_116 : decode cX11_thing 116 = .ok (.getfield 71, 3) := by decide +kernel
theorem dX11_thing_119 : decode cX11_thing 119 = .ok (.getfield 179, 3) := by decide +kernel
theorem dX11_thing_122 : decode cX11_thing 122 = .ok (.iload_n 1, 1) := by decide +kernel
theorem dX11_thing_123 : decode cX11_thing 123 = .ok (.iaload, 1) := by decide +kernel
theorem dX11_thing_124 : decode cX11_thing 124 = .ok (.ireturn, 1) := by decide +kernel
theorem dX11_thing_125 : decode cX11_thing 125 = .ok (.aload_n 0, 1) := by decide +kernel
theorem dX11_thing_126 : decode cX11_thing 126 = .ok (.getfield 56, 3) := by decide +kernel
theorem dX11_thing_129 : decode cX11_thing 129 = .ok (.aload_n 0, 1) := by decide +kernel
theorem dX11_thing_130 : decode cX11_thing 130 = .ok (.getfield 35, 3) := by decide +kernel
theorem dX11_thing_133 : decode cX11_thing 133 = .ok (.getfield 71, 3) := by decide +kernel
theorem dX11_thing_136 : decode cX11_thing 136 = .ok (.iconst 0, 1) := by decide +kernel
theorem dX11_thing_137 : decode cX11_thing 137 = .ok (.invokevirtual 182, 3) := by decide +kernel
theorem dX11_thing_140 : decode cX11_thing 140 = .ok (.aload_n 0, 1) := by decide +kernel
theorem dX11_thing_141 : decode cX11_thing 141 = .ok (.getfield 56, 3) := by decide +kernel
theorem dX11_thing_144 : decode cX11_thing 144 = .ok (.getfield 185, 3) := by decide +kernel
theorem dX11_thing_147 : decode cX11_thing 147 = .ok (.iload_n 1, 1) := by decide +kernel
theorem dX11_thing_148 : decode cX11_thing 148 = .ok (.iaload, 1) := by decide +kernel
theorem dX11_thing_149 : decode cX11_thing 149 = .ok (.ireturn, 1) := by decide +kernel
theorem dX11_thing_150 : decode cX11_thing 150 = .ok (.iconst (-1), 1) := by decide +kernel
theorem dX11_thing_151 : decode cX11_thing 151 = .ok (.ireturn, 1) := by decide +kernel
theorem dX11_rope_0 : decode cX11_rope 0 = .ok (.iload_n 1, 1) := by decide +kernel
theorem dX11_rope_1 : decode cX11_rope 1 = .ok (.ifCond .lt 17, 3) := by decide +kernel
theorem dX11_rope_4 : decode cX11_rope 4 = .ok (.iload_n 1, 1) := by decide +kernel
theorem dX11_rope_5 : decode cX11_rope 5 = .ok (.aload_n 0, 1) := by decide +kernel
theorem dX11_rope_6 : decode cX11_rope 6 = .ok (.getfield 35, 3) := by decide +kernel
theorem dX11_rope_9 : decode cX11_rope 9 = .ok (.getfield 71, 3) := by decide +kernel
theorem dX11_rope_12 : decode cX11_rope 12 = .ok (.getfield 188, 3) := by decide +kernel
theorem dX11_rope_15 : decode cX11_rope 15 = .ok (.if_icmp .lt 5, 3) := by decide +kernel
theorem dX11_rope_18 : decode cX11_rope 18 = .ok (.iconst (-1), 1) := by decide +kernel
theorem dX11_rope_19 : decode cX11_rope 19 = .ok (.ireturn, 1) := by decide +kernel
theorem dX11_rope_20 : decode cX11_rope 20 = .ok (.iload_n 2, 1) := by decide +kernel
theorem dX11_rope_21 : decode cX11_rope 21 = .ok (.tableswitch 66 0 2 #[27, 40, 53], 27) := by decide +kernel
theorem dX11_rope_48 : decode cX11_rope 48 = .ok (.aload_n 0, 1) := by decide +kernel
theorem dX11_rope_49 : decode cX11_rope 49 = .ok (.getfield 35, 3) := by decide +kernel
theorem dX11_rope_52 : decode cX11_rope 52 = .ok (.getfield 71, 3) := by decide +kernel
theorem dX11_rope_55 : decode cX11_rope 55 = .ok (.getfield 191, 3) := by decide +kernel
theorem dX11_rope_58 : decode cX11_rope 58 = .ok (.iload_n 1, 1) := by decide +kernel
theorem dX11_rope_59 : decode cX11_rope 59 = .ok (.iaload, 1) := by decide +kernel
theorem dX11_rope_60 : decode cX11_rope 60 = .ok (.ireturn, 1) := by decide +kernel
theorem dX11_rope_61 : decode cX11_rope 61 = .ok (.aload_n 0, 1) := by decide +kernel
theorem dX11_rope_62 : decode cX11_rope 62 = .ok (.getfield 35, 3) := by decide +kernel
theorem dX11_rope_65 : decode cX11_rope 65 = .ok (.getfield 71, 3) := by decide +kernel
theorem dX11_rope_68 : decode cX11_rope 68 = .ok (.getfield 194, 3) := by decide +kernel
theorem dX11_rope_71 : decode cX11_rope 71 = .ok (.iload_n 1, 1) := by decide +kernel
theorem dX11_rope_72 : decode cX11_rope 72 = .ok (.iaload, 1) := by decide +kernel
theorem dX11_rope_73 : decode cX11_rope 73 = .ok (.ireturn, 1) := by decide +kernel
theorem dX11_rope_74 : decode cX11_rope 74 = .ok (.aload_n 0, 1) := by decide +kernel
theorem dX11_rope_75 : decode cX11_rope 75 = .ok (.getfield 35, 3) := by decide +kernel
theorem dX11_rope_78 : decode cX11_rope 78 = .ok (.getfield 71, 3) := by decide +kernel
theorem dX11_rope_81 : decode cX11_rope 81 = .ok (.getfield 197, 3) := by decide +kernel
theorem dX11_rope_84 : decode cX11_rope 84 = .ok (.iload_n 1, 1) := by decide +kernel
theorem dX11_rope_85 : decode cX11_rope 85 = .ok (.iaload, 1) := by decide +kernel
theorem dX11_rope_86 : decode cX11_rope 86 = .ok (.ireturn, 1) := by decide +kernel
theorem dX11_rope_87 : decode cX11_rope 87 = .ok (.iconst (-1), 1) := by decide +kernel
theorem dX11_rope_88 : decode cX11_rope 88 = .ok (.ireturn, 1) := by decide +kernel
theorem dX11_rapid_0 : decode cX11_rapid 0 = .ok (.aload_n 0, 1) := by decide +kernel
theorem dX11_rapid_1 : decode cX11_rapid 1 = .ok (.invokevirtual 200, 3) := by decide +kernel
theorem dX11_rapid_4 : decode cX11_rapid 4 = .ok (.ifCond .eq 21, 3) := by decide +kernel
theorem dX11_rapid_7 : decode cX11_rapid 7 = .ok (.iload_n 1, 1) := by decide +kernel
theorem dX11_rapid_8 : decode cX11_rapid 8 = .ok (.ifCond .lt 17, 3) := by decide +kernel
theorem dX11_rapid_11 : decode cX11_rapid 11 = .ok (.iload_n 1, 1) := by decide +kernel
theorem dX11_rapid_12 : decode cX11_rapid 12 = .ok (.aload_n 0, 1) := by decide +kernel
theorem dX11_rapid_13 : decode cX11_rapid 13 = .ok (.getfield 35, 3) := by decide +kernel
theorem dX11_rapid_16 : decode cX11_rapid 16 = .ok (.getfield 91, 3) := by decide +kernel
theorem dX11_rapid_19 : decode cX11_rapid 19 = .ok (.getfield 203, 3) := by decide +kernel
theorem dX11_rapid_22 : decode cX11_rapid 22 = .ok (.if_icmp .le 5, 3) := by decide +kernel
theorem dX11_rapid_25 : decode cX11_rapid 25 = .ok (.iconst (-1), 1) := by decide +kernel
theorem dX11_rapid_26 : decode cX11_rapid 26 = .ok (.ireturn, 1) := by decide +kernel
theorem dX11_rapid_27 : decode cX11_rapid 27 = .ok (.aload_n 0, 1) := by decide +kernel
theorem dX11_rapid_28 : decode cX11_rapid 28 = .ok (.getfield 35, 3) := by decide +kernel
theorem dX11_rapid_31 : decode cX11_rapid 31 = .ok (.getfield 91, 3) := by decide +kernel
theorem dX11_rapid_34 : decode cX11_rapid 34 = .ok (.getfield 206, 3) := by decide +kernel
theorem dX11_rapid_37 : decode cX11_rapid 37 = .ok (.iload_n 1, 1) := by decide +kernel
theorem dX11_rapid_38 : decode cX11_rapid 38 = .ok (.iaload, 1) := by decide +kernel
theorem dX11_rapid_39 : decode cX11_rapid 39 = .ok (.ireturn, 1) := by decide +kernel
theorem dX11_margin_0 : decode cX11_margin 0 = .ok (.aload_n 0, 1) := by decide +kernel
theorem dX11_margin_1 : decode cX11_margin 1 = .ok (.iload_n 1, 1) := by decide +kernel
theorem dX11_margin_2 : decode cX11_margin 2 = .ok (.invokevirtual 209, 3) := by decide +kernel
theorem dX11_margin_5 : decode cX11_margin 5 = .ok (.ifCond .ne 7, 3) := by decide +kernel
theorem dX11_margin_8 : decode cX11_margin 8 = .ok (.sipush (-10000), 3) := by decide +kernel
theorem dX11_margin_11 : decode cX11_margin 11 = .ok (.ireturn, 1) := by decide +kernel
theorem dX11_margin_12 : decode cX11_margin 12 = .ok (.aload_n 0, 1) := by decide +kernel
theorem dX11_margin_13 : decode cX11_margin 13 = .ok (.getfield 56, 3) := by decide +kernel
theorem dX11_margin_16 : decode cX11_margin 16 = .ok (.aload_n 0, 1) := by decide +kernel
theorem dX11_margin_17 : decode cX11_margin 17 = .ok (.getfield 35, 3) := by decide +kernel
theorem dX11_margin_20 : decode cX11_margin 20 = .ok (.getfield 71, 3) := by decide +kernel
theorem dX11_margin_23 : decode cX11_margin 23 = .ok (.iconst 0, 1) := by decide +kernel
theorem dX11_margin_24 : decode cX11_margin 24 = .ok (.invokevirtual 156, 3) := by decide +kernel
theorem dX11_margin_27 : decode cX11_margin 27 = .ok (.aload_n 0, 1) := by decide +kernel
theorem dX11_margin_28 : decode cX11_margin 28 = .ok (.getfield 56, 3) := by decide +kernel
theorem dX11_margin_31 : decode cX11_margin 31 = .ok (.aload_n 0, 1) := by decide +kernel
theorem dX11_margin_32 : decode cX11_margin 32 = .ok (.getfield 35, 3) := by decide +kernel
theorem dX11_margin_35 : decode cX11_margin 35 = .ok (.getfield 71, 3) := by decide +kernel
theorem dX11_margin_38 : decode cX11_margin 38 = .ok (.aload_n 0, 1) := by decide +kernel
theorem dX11_margin_39 : decode cX11_margin 39 = .ok (.getfield 56, 3) := by decide +kernel
theorem dX11_margin_42 : decode cX11_margin 42 = .ok (.getfield 185, 3) := by decide +kernel
theorem dX11_margin_45 : decode cX11_margin 45 = .ok (.iload_n 1, 1) := by decide +kernel
theorem dX11_margin_46 : decode cX11_margin 46 = .ok (.iaload, 1) := by decide +kernel
theorem dX11_margin_47 : decode cX11_margin 47 = .ok (.invokevirtual 213, 3) := by decide +kernel
theorem dX11_margin_50 : decode cX11_margin 50 = .ok (.ireturn, 1) := by decide +kernel
theorem dX11_mile_0 : decode cX11_mile 0 = .ok (.aload_n 0, 1) := by decide +kernel
theorem dX11_mile_1 : decode cX11_mile 1 = .ok (.getfield 35, 3) := by decide +kernel
theorem dX11_mile_4 : decode cX11_mile 4 = .ok (.getfield 71, 3) := by decide +kernel
theorem dX11_mile_7 : decode cX11_mile 7 = .ok (.invokevirtual 217, 3) := by decide +kernel
theorem dX11_mile_10 : decode cX11_mile 10 = .ok (.iconst 1, 1) := by decide +kernel
theorem dX11_mile_11 : decode cX11_mile 11 = .ok (.if_icmp .ge 5, 3) := by decide +kernel
theorem dX11_mile_14 : decode cX11_mile 14 = .ok (.iconst (-1), 1) := by decide +kernel
theorem dX11_mile_15 : decode cX11_mile 15 = .ok (.ireturn, 1) := by decide +kernel
theorem dX11_mile_16 : decode cX11_mile 16 = .ok (.aload_n 0, 1) := by decide +kernel
theorem dX11_mile_17 : decode cX11_mile 17 = .ok (.getfield 35, 3) := by decide +kernel
theorem dX11_mile_20 : decode cX11_mile 20 = .ok (.invokevirtual 221, 3) := by decide +kernel
theorem dX11_mile_23 : decode cX11_mile 23 = .ok (.aload_n 0, 1) := by decide +kernel
theorem dX11_mile_24 : decode cX11_mile 24 = .ok (.getfield 101, 3) := by decide +kernel
theorem dX11_mile_27 : decode cX11_mile 27 = .ok (.iconst 0, 1) := by decide +kernel
theorem dX11_mile_28 : decode cX11_mile 28 = .ok (.invokestatic 224, 3) := by decide +kernel
theorem dX11_mile_31 : decode cX11_mile 31 = .ok (.aload_n 0, 1) := by decide +kernel
theorem dX11_mile_32 : decode cX11_mile 32 = .ok (.getfield 35, 3) := by decide +kernel
theorem dX11_mile_35 : decode cX11_mile 35 = .ok (.getfield 71, 3) := by decide +kernel
theorem dX11_mile_38 : decode cX11_mile 38 = .ok (.iconst 0, 1) := by decide +kernel
theorem dX11_mile_39 : decode cX11_mile 39 = .ok (.aload_n 0, 1) := by decide +kernel
theorem dX11_mile_40 : decode cX11_mile 40 = .ok (.getfield 56, 3) := by decide +kernel
theorem dX11_mile_43 : decode cX11_mile 43 = .ok (.aload_n 0, 1) := by decide +kernel
theorem dX11_mile_44 : decode cX11_mile 44 = .ok (.getfield 101, 3) := by decide +kernel
theorem dX11_mile_47 : decode cX11_mile 47 = .ok (.invokevirtual 230, 3) := by decide +kernel
theorem dX11_mile_50 : decode cX11_mile 50 = .ok (.aload_n 0, 1) := by decide +kernel
theorem dX11_mile_51 : decode cX11_mile 51 = .ok (.getfield 101, 3) := by decide +kernel
theorem dX11_mile_54 : decode cX11_mile 54 = .ok (.iconst 0, 1) := by decide +kernel
theorem dX11_mile_55 : decode cX11_mile 55 = .ok (.iaload, 1) := by decide +kernel
theorem dX11_mile_56 : decode cX11_mile 56 = .ok (.ireturn, 1) := by decide +kernel
theorem dX11_bind_0 : decode cX11_bind 0 = .ok (.aload_n 0, 1) := by decide +kernel
theorem dX11_bind_1 : decode cX11_bind 1 = .ok (.iload_n 1, 1) := by decide +kernel
theorem dX11_bind_2 : decode cX11_bind 2 = .ok (.invokevirtual 209, 3) := by decide +kernel
theorem dX11_bind_5 : decode cX11_bind 5 = .ok (.ifCond .eq 23, 3) := by decide +kernel
theorem dX11_bind_8 : decode cX11_bind 8 = .ok (.aload_n 0, 1) := by decide +kernel
theorem dX11_bind_9 : decode cX11_bind 9 = .ok (.iload_n 2, 1) := by decide +kernel
theorem dX11_bind_10 : decode cX11_bind 10 = .ok (.invokevirtual 209, 3) := by decide +kernel
theorem dX11_bind_13 : decode cX11_bind 13 = .ok (.ifCond .eq 15, 3) := by decide +kernel
theorem dX11_bind_16 : decode cX11_bind 16 = .ok (.iload_n 1, 1) := by decide +kernel
theorem dX11_bind_17 : decode cX11_bind 17 = .ok (.iload_n 2, 1) := by decide +kernel
theorem dX11_bind_18 : decode cX11_bind 18 = .ok (.if_icmp .eq 10, 3) := by decide +kernel
theorem dX11_bind_21 : decode cX11_bind 21 = .ok (.iload_n 3, 1) := by decide +kernel
theorem dX11_bind_22 : decode cX11_bind 22 = .ok (.invokestatic 234, 3) := by decide +kernel
theorem dX11_bind_25 : decode cX11_bind 25 = .ok (.ifCond .ne 5, 3) := by decide +kernel
theorem dX11_bind_28 : decode cX11_bind 28 = .ok (.iconst (-1), 1) := by decide +kernel
theorem dX11_bind_29 : decode cX11_bind 29 = .ok (.ireturn, 1) := by decide +kernel
theorem dX11_bind_30 : decode cX11_bind 30 = .ok (.aload_n 0, 1) := by decide +kernel
theorem dX11_bind_31 : decode cX11_bind 31 = .ok (.getfield 35, 3) := by decide +kernel
theorem dX11_bind_34 : decode cX11_bind 34 = .ok (.getfield 71, 3) := by decide +kernel
theorem dX11_bind_37 : decode cX11_bind 37 = .ok (.iload_n 1, 1) := by decide +kernel
theorem dX11_bind_38 : decode cX11_bind 38 = .ok (.iload_n 2, 1) := by decide +kernel
theorem dX11_bind_39 : decode cX11_bind 39 = .ok (.invokevirtual 237, 3) := by decide +kernel
theorem dX11_bind_42 : decode cX11_bind 42 = .ok (.ifCond .ne 17, 3) := by decide +kernel
theorem dX11_bind_45 : decode cX11_bind 45 = .ok (.aload_n 0, 1) := by decide +kernel
theorem dX11_bind_46 : decode cX11_bind 46 = .ok (.getfield 35, 3) := by decide +kernel
theorem dX11_bind_49 : decode cX11_bind 49 = .ok (.getfield 71, 3) := by decide +kernel
theorem dX11_bind_52 : decode cX11_bind 52 = .ok (.iload_n 3, 1) := by decide +kernel
theorem dX11_bind_53 : decode cX11_bind 53 = .ok (.invokevirtual 241, 3) := by decide +kernel
theorem dX11_bind_56 : decode cX11_bind 56 = .ok (.ifCond .ne 5, 3) := by decide +kernel
theorem dX11_bind_59 : decode cX11_bind 59 = .ok (.iconst (-1), 1) := by decide +kernel
theorem dX11_bind_60 : decode cX11_bind 60 = .ok (.ireturn, 1) := by decide +kernel
theorem dX11_bind_61 : decode cX11_bind 61 = .ok (.aload_n 0, 1) := by decide +kernel
theorem dX11_bind_62 : decode cX11_bind 62 = .ok (.getfield 35, 3) := by decide +kernel
theorem dX11_bind_65 : decode cX11_bind 65 = .ok (.invokevirtual 221, 3) := by decide +kernel
theorem dX11_bind_68 : decode cX11_bind 68 = .ok (.aload_n 0, 1) := by decide +kernel
theorem dX11_bind_69 : decode cX11_bind 69 = .ok (.getfield 35, 3) := by decide +kernel
theorem dX11_bind_72 : decode cX11_bind 72 = .ok (.getfield 71, 3) := by decide +kernel
theorem dX11_bind_75 : decode cX11_bind 75 = .ok (.iload_n 1, 1) := by decide +kernel
theorem dX11_bind_76 : decode cX11_bind 76 = .ok (.iload_n 2, 1) := by decide +kernel
theorem dX11_bind_77 : decode cX11_bind 77 = .ok (.iload_n 3, 1) := by decide +kernel
theorem dX11_bind_78 : decode cX11_bind 78 = .ok (.invokevirtual 244, 3) := by decide +kernel
theorem dX11_bind_81 : decode cX11_bind 81 = .ok (.aload_n 0, 1) := by decide +kernel
theorem dX11_bind_82 : decode cX11_bind 82 = .ok (.getfield 35, 3) := by decide +kernel
theorem dX11_bind_85 : decode cX11_bind 85 = .ok (.getfield 71, 3) := by decide +kernel
theorem dX11_bind_88 : decode cX11_bind 88 = .ok (.getfield 188, 3) := by decide +kernel
theorem dX11_bind_91 : decode cX11_bind 91 = .ok (.iconst 1, 1) := by decide +kernel
theorem dX11_bind_92 : decode cX11_bind 92 = .ok (.isub, 1) := by decide +kernel
theorem dX11_bind_93 : decode cX11_bind 93 = .ok (.ireturn, 1) := by decide +kernel
theorem dX11_cut_0 : decode cX11_cut 0 = .ok (.iload_n 1, 1) := by decide +kernel
theorem dX11_cut_1 : decode cX11_cut 1 = .ok (.ifCond .lt 17, 3) := by decide +kernel
theorem dX11_cut_4 : decode cX11_cut 4 = .ok (.iload_n 1, 1) := by decide +kernel
theorem dX11_cut_5 : decode cX11_cut 5 = .ok (.aload_n 0, 1) := by decide +kernel
theorem dX11_cut_6 : decode cX11_cut 6 = .ok (.getfield 35, 3) := by decide +kernel
theorem dX11_cut_9 : decode cX11_cut 9 = .ok (.getfield 71, 3) := by decide +kernel
theorem dX11_cut_12 : decode cX11_cut 12 = .ok (.getfield 188, 3) := by decide +kernel
theorem dX11_cut_15 : decode cX11_cut 15 = .ok (.if_icmp .lt 5, 3) := by decide +kernel
theorem dX11_cut_18 : decode cX11_cut 18 = .ok (.iconst (-1), 1) := by decide +kernel
theorem dX11_cut_19 : decode cX11_cut 19 = .ok (.ireturn, 1) := by decide +kernel
theorem dX11_cut_20 : decode cX11_cut 20 = .ok (.aload_n 0, 1) := by decide +kernel
theorem dX11_cut_21 : decode cX11_cut 21 = .ok (.getfield 35, 3) := by decide +kernel
theorem dX11_cut_24 : decode cX11_cut 24 = .ok (.invokevirtual 221, 3) := by decide +kernel
theorem dX11_cut_27 : decode cX11_cut 27 = .ok (.aload_n 0, 1) := by decide +kernel
theorem dX11_cut_28 : decode cX11_cut 28 = .ok (.getfield 35, 3) := by decide +kernel
theorem dX11_cut_31 : decode cX11_cut 31 = .ok (.getfield 71, 3) := by decide +kernel
theorem dX11_cut_34 : decode cX11_cut 34 = .ok (.iconst 1, 1) := by decide +kernel
theorem dX11_cut_35 : decode cX11_cut 35 = .ok (.iload_n 1, 1) := by decide +kernel
theorem dX11_cut_36 : decode cX11_cut 36 = .ok (.ishl, 1) := by decide +kernel
theorem dX11_cut_37 : decode cX11_cut 37 = .ok (.invokevirtual 248, 3) := by decide +kernel
theorem dX11_cut_40 : decode cX11_cut 40 = .ok (.aload_n 0, 1) := by decide +kernel
theorem dX11_cut_41 : decode cX11_cut 41 = .ok (.getfield 35, 3) := by decide +kernel
theorem dX11_cut_44 : decode cX11_cut 44 = .ok (.getfield 71, 3) := by decide +kernel
theorem dX11_cut_47 : decode cX11_cut 47 = .ok (.getfield 251, 3) := by decide +kernel
theorem dX11_cut_50 : decode cX11_cut 50 = .ok (.ireturn, 1) := by decide +kernel
theorem dX11_saw_0 : decode cX11_saw 0 = .ok (.aload_n 0, 1) := by decide +kernel
theorem dX11_saw_1 : decode cX11_saw 1 = .ok (.iload_n 1, 1) := by decide +kernel
theorem dX11_saw_2 : decode cX11_saw 2 = .ok (.invokevirtual 209, 3) := by decide +kernel
theorem dX11_saw_5 : decode cX11_saw 5 = .ok (.ifCond .ne 5, 3) := by decide +kernel
theorem dX11_saw_8 : decode cX11_saw 8 = .ok (.iconst (-1), 1) := by decide +kernel
theorem dX11_saw_9 : decode cX11_saw 9 = .ok (.ireturn, 1) := by decide +kernel
theorem dX11_saw_10 : decode cX11_saw 10 = .ok (.aload_n 0, 1) := by decide +kernel
theorem dX11_saw_11 : decode cX11_saw 11 = .ok (.getfield 35, 3) := by decide +kernel
theorem dX11_saw_14 : decode cX11_saw 14 = .ok (.invokevirtual 221, 3) := by decide +kernel
theorem dX11_saw_17 : decode cX11_saw 17 = .ok (.aload_n 0, 1) := by decide +kernel
theorem dX11_saw_18 : decode cX11_saw 18 = .ok (.getfield 35, 3) := by decide +kernel
theorem dX11_saw_21 : decode cX11_saw 21 = .ok (.getfield 71, 3) := by decide +kernel
theorem dX11_saw_24 : decode cX11_saw 24 = .ok (.iconst 1, 1) := by decide +kernel
theorem dX11_saw_25 : decode cX11_saw 25 = .ok (.iload_n 1, 1) := by decide +kernel
theorem dX11_saw_26 : decode cX11_saw 26 = .ok (.ishl, 1) := by decide +kernel
theorem dX11_saw_27 : decode cX11_saw 27 = .ok (.invokevirtual 254, 3) := by decide +kernel
theorem dX11_saw_30 : decode cX11_saw 30 = .ok (.istore_n 2, 1) := by decide +kernel
theorem dX11_saw_31 : decode cX11_saw 31 = .ok (.aload_n 0, 1) := by decide +kernel
theorem dX11_saw_32 : decode cX11_saw 32 = .ok (.getfield 35, 3) := by decide +kernel
theorem dX11_saw_35 : decode cX11_saw 35 = .ok (.getfield 71, 3) := by decide +kernel
theorem dX11_saw_38 : decode cX11_saw 38 = .ok (.iload_n 2, 1) := by decide +kernel
theorem dX11_saw_39 : decode cX11_saw 39 = .ok (.invokevirtual 257, 3) := by decide +kernel
theorem dX11_saw_42 : decode cX11_saw 42 = .ok (.iload_n 2, 1) := by decide +kernel
theorem dX11_saw_43 : decode cX11_saw 43 = .ok (.invokestatic 260, 3) := by decide +kernel
theorem dX11_saw_46 : decode cX11_saw 46 = .ok (.ireturn, 1) := by decide +kernel
theorem dX11_push_0 : decode cX11_push 0 = .ok (.aload_n 0, 1) := by decide +kernel
theorem dX11_push_1 : decode cX11_push 1 = .ok (.iload_n 1, 1) := by decide +kernel
theorem dX11_push_2 : decode cX11_push 2 = .ok (.invokevirtual 209, 3) := by decide +kernel
theorem dX11_push_5 : decode cX11_push 5 = .ok (.ifCond .eq 21, 3) := by decide +kernel
theorem dX11_push_8 : decode cX11_push 8 = .ok (.iload_n 2, 1) := by decide +kernel
theorem dX11_push_9 : decode cX11_push 9 = .ok (.ifCond .lt 17, 3) := by decide +kernel
theorem dX11_push_12 : decode cX11_push 12 = .ok (.iload_n 2, 1) := by decide +kernel
theorem dX11_push_13 : decode cX11_push 13 = .ok (.aload_n 0, 1) := by decide +kernel
theorem dX11_push_14 : decode cX11_push 14 = .ok (.getfield 35, 3) := by decide +kernel
theorem dX11_push_17 : decode cX11_push 17 = .ok (.getfield 91, 3) := by decide +kernel
theorem dX11_push_20 : decode cX11_push 20 = .ok (.getfield 144, 3) := by decide +kernel
theorem dX11_push_23 : decode cX11_push 23 = .ok (.if_icmp .lt 5, 3) := by decide +kernel
theorem dX11_push_26 : decode cX11_push 26 = .ok (.iconst (-1), 1) := by decide +kernel
theorem dX11_push_27 : decode cX11_push 27 = .ok (.ireturn, 1) := by decide +kernel
theorem dX11_push_28 : decode cX11_push 28 = .ok (.aload_n 0, 1) := by decide +kernel
theorem dX11_push_29 : decode cX11_push 29 = .ok (.getfield 35, 3) := by decide +kernel
theorem dX11_push_32 : decode cX11_push 32 = .ok (.getfield 71, 3) := by decide +kernel
theorem dX11_push_35 : decode cX11_push 35 = .ok (.getfield 167, 3) := by decide +kernel
theorem dX11_push_38 : decode cX11_push 38 = .ok (.iload_n 1, 1) := by decide +kernel
theorem dX11_push_39 : decode cX11_push 39 = .ok (.iaload, 1) := by decide +kernel
theorem dX11_push_40 : decode cX11_push 40 = .ok (.istore_n 3, 1) := by decide +kernel
theorem dX11_push_41 : decode cX11_push 41 = .ok (.iload_n 3, 1) := by decide +kernel
theorem dX11_push_42 : decode cX11_push 42 = .ok (.iload_n 2, 1) := by decide +kernel
theorem dX11_push_43 : decode cX11_push 43 = .ok (.if_icmp .ne 5, 3) := by decide +kernel
theorem dX11_push_46 : decode cX11_push 46 = .ok (.iconst (-1), 1) := by decide +kernel
theorem dX11_push_47 : decode cX11_push 47 = .ok (.ireturn, 1) := by decide +kernel
theorem dX11_push_48 : decode cX11_push 48 = .ok (.aload_n 0, 1) := by decide +kernel
theorem dX11_push_49 : decode cX11_push 49 = .ok (.getfield 35, 3) := by decide +kernel
theorem dX11_push_52 : decode cX11_push 52 = .ok (.invokevirtual 221, 3) := by decide +kernel
theorem dX11_push_55 : decode cX11_push 55 = .ok (.aload_n 0, 1) := by decide +kernel
theorem dX11_push_56 : decode cX11_push 56 = .ok (.getfield 35, 3) := by decide +kernel
theorem dX11_push_59 : decode cX11_push 59 = .ok (.getfield 71, 3) := by decide +kernel
theorem dX11_push_62 : decode cX11_push 62 = .ok (.getfield 167, 3) := by decide +kernel
theorem dX11_push_65 : decode cX11_push 65 = .ok (.iload_n 1, 1) := by decide +kernel
theorem dX11_push_66 : decode cX11_push 66 = .ok (.iload_n 2, 1) := by decide +kernel
theorem dX11_push_67 : decode cX11_push 67 = .ok (.iastore, 1) := by decide +kernel
theorem dX11_push_68 : decode cX11_push 68 = .ok (.iload_n 3, 1) := by decide +kernel
theorem dX11_push_69 : decode cX11_push 69 = .ok (.ireturn, 1) := by decide +kernel
theorem dX11_undo_0 : decode cX11_undo 0 = .ok (.aload_n 0, 1) := by decide +kernel
theorem dX11_undo_1 : decode cX11_undo 1 = .ok (.getfield 35, 3) := by decide +kernel
theorem dX11_undo_4 : decode cX11_undo 4 = .ok (.getfield 265, 3) := by decide +kernel
theorem dX11_undo_7 : decode cX11_undo 7 = .ok (.iconst 1, 1) := by decide +kernel
theorem dX11_undo_8 : decode cX11_undo 8 = .ok (.if_icmp .ge 6, 3) := by decide +kernel
theorem dX11_undo_11 : decode cX11_undo 11 = .ok (.bipush (-2), 2) := by decide +kernel
theorem dX11_undo_13 : decode cX11_undo 13 = .ok (.ireturn, 1) := by decide +kernel
theorem dX11_undo_14 : decode cX11_undo 14 = .ok (.aload_n 0, 1) := by decide +kernel
theorem dX11_undo_15 : decode cX11_undo 15 = .ok (.getfield 35, 3) := by decide +kernel
theorem dX11_undo_18 : decode cX11_undo 18 = .ok (.invokevirtual 268, 3) := by decide +kernel
theorem dX11_undo_21 : decode cX11_undo 21 = .ok (.aload_n 0, 1) := by decide +kernel
theorem dX11_undo_22 : decode cX11_undo 22 = .ok (.getfield 35, 3) := by decide +kernel
theorem dX11_undo_25 : decode cX11_undo 25 = .ok (.getfield 265, 3) := by decide +kernel
theorem dX11_undo_28 : decode cX11_undo 28 = .ok (.ireturn, 1) := by decide +kernel
theorem dX11_run_0 : decode cX11_run 0 = .ok (.iload_n 1, 1) := by decide +kernel
theorem dX11_run_1 : decode cX11_run 1 = .ok (.ifCond .lt 18, 3) := by decide +kernel
theorem dX11_run_4 : decode cX11_run 4 = .ok (.iload_n 1, 1) := by decide +kernel
theorem dX11_run_5 : decode cX11_run 5 = .ok (.aload_n 0, 1) := by decide +kernel
theorem dX11_run_6 : decode cX11_run 6 = .ok (.getfield 132, 3) := by decide +kernel
theorem dX11_run_9 : decode cX11_run 9 = .ok (.if_icmp .ge 10, 3) := by decide +kernel
theorem dX11_run_12 : decode cX11_run 12 = .ok (.iload_n 3, 1) := by decide +kernel
theorem dX11_run_13 : decode cX11_run 13 = .ok (.invokestatic 234, 3) := by decide +kernel
theorem dX11_run_16 : decode cX11_run 16 = .ok (.ifCond .ne 5, 3) := by decide +kernel
theorem dX11_run_19 : decode cX11_run 19 = .ok (.iconst (-1), 1) := by decide +kernel
theorem dX11_run_20 : decode cX11_run 20 = .ok (.ireturn, 1) := by decide +kernel
theorem dX11_run_21 : decode cX11_run 21 = .ok (.iload_n 2, 1) := by decide +kernel
theorem dX11_run_22 : decode cX11_run 22 = .ok (.iconst 1, 1) := by decide +kernel
theorem dX11_run_23 : decode cX11_run 23 = .ok (.if_icmp .lt 17, 3) := by decide +kernel
theorem dX11_run_26 : decode cX11_run 26 = .ok (.iload_n 2, 1) := by decide +kernel
theorem dX11_run_27 : decode cX11_run 27 = .ok (.aload_n 0, 1) := by decide +kernel
theorem dX11_run_28 : decode cX11_run 28 = .ok (.getfield 35, 3) := by decide +kernel
theorem dX11_run_31 : decode cX11_run 31 = .ok (.getfield 71, 3) := by decide +kernel
theorem dX11_run_34 : decode cX11_run 34 = .ok (.invokevirtual 217, 3) := by decide +kernel
theorem dX11_run_37 : decode cX11_run 37 = .ok (.if_icmp .le 5, 3) := by decide +kernel
theorem dX11_run_40 : decode cX11_run 40 = .ok (.iconst (-1), 1) := by decide +kernel
theorem dX11_run_41 : decode cX11_run 41 = .ok (.ireturn, 1) := by decide +kernel
theorem dX11_run_42 : decode cX11_run 42 = .ok (.aload_n 0, 1) := by decide +kernel
theorem dX11_run_43 : decode cX11_run 43 = .ok (.getfield 35, 3) := by decide +kernel
theorem dX11_run_46 : decode cX11_run 46 = .ok (.iconst 0, 1) := by decide +kernel
theorem dX11_run_47 : decode cX11_run 47 = .ok (.putfield 265, 3) := by decide +kernel
theorem dX11_run_50 : decode cX11_run 50 = .ok (.aload_n 0, 1) := by decide +kernel
theorem dX11_run_51 : decode cX11_run 51 = .ok (.getfield 101, 3) := by decide +kernel
theorem dX11_run_54 : decode cX11_run 54 = .ok (.iconst 0, 1) := by decide +kernel
theorem dX11_run_55 : decode cX11_run 55 = .ok (.invokestatic 224, 3) := by decide +kernel
theorem dX11_run_58 : decode cX11_run 58 = .ok (.iconst 0, 1) := by decide +kernel
theorem dX11_run_59 : decode cX11_run 59 = .ok (.istore 4, 2) := by decide +kernel
theorem dX11_run_61 : decode cX11_run 61 = .ok (.iload 4, 2) := by decide +kernel
theorem dX11_run_63 : decode cX11_run 63 = .ok (.iload_n 2, 1) := by decide +kernel
theorem dX11_run_64 : decode cX11_run 64 = .ok (.if_icmp .ge 53, 3) := by decide +kernel
theorem dX11_run_67 : decode cX11_run 67 = .ok (.aload_n 0, 1) := by decide +kernel
theorem dX11_run_68 : decode cX11_run 68 = .ok (.getfield 35, 3) := by decide +kernel
theorem dX11_run_71 : decode cX11_run 71 = .ok (.getfield 71, 3) := by decide +kernel
theorem dX11_run_74 : decode cX11_run 74 = .ok (.iload_n 3, 1) := by decide +kernel
theorem dX11_run_75 : decode cX11_run 75 = .ok (.invokevirtual 241, 3) := by decide +kernel
theorem dX11_run_78 : decode cX11_run 78 = .ok (.ifCond .eq 14, 3) := by decide +kernel
theorem dX11_run_81 : decode cX11_run 81 = .ok (.aload_n 0, 1) := by decide +kernel
theorem dX11_run_82 : decode cX11_run 82 = .ok (.aload_n 0, 1) := by decide +kernel
theorem dX11_run_83 : decode cX11_run 83 = .ok (.getfield 49, 3) := by decide +kernel
theorem dX11_run_86 : decode cX11_run 86 = .ok (.iload_n 1, 1) := by decide +kernel
theorem dX11_run_87 : decode cX11_run 87 = .ok (.aaload, 1) := by decide +kernel
theorem dX11_run_88 : decode cX11_run 88 = .ok (.iload_n 3, 1) := by decide +kernel
theorem dX11_run_89 : decode cX11_run 89 = .ok (.invokevirtual 271, 3) := by decide +kernel
theorem dX11_run_92 : decode cX11_run 92 = .ok (.aload_n 0, 1) := by decide +kernel
theorem dX11_run_93 : decode cX11_run 93 = .ok (.getfield 35, 3) := by decide +kernel
theorem dX11_run_96 : decode cX11_run 96 = .ok (.getfield 71, 3) := by decide +kernel
theorem dX11_run_99 : decode cX11_run 99 = .ok (.iconst 0, 1) := by decide +kernel
theorem dX11_run_100 : decode cX11_run 100 = .ok (.aload_n 0, 1) := by decide +kernel
theorem dX11_run_101 : decode cX11_run 101 = .ok (.getfield 56, 3) := by decide +kernel
theorem dX11_run_104 : decode cX11_run 104 = .ok (.aload_n 0, 1) := by decide +kernel
theorem dX11_run_105 : decode cX11_run 105 = .ok (.getfield 101, 3) := by decide +kernel
theorem dX11_run_108 : decode cX11_run 108 = .ok (.invokevirtual 230, 3) := by decide +kernel
theorem dX11_run_111 : decode cX11_run 111 = .ok (.iinc 4 1, 3) := by decide +kernel
theorem dX11_run_114 : decode cX11_run 114 = .ok (.goto (-53), 3) := by decide +kernel
theorem dX11_run_117 : decode cX11_run 117 = .ok (.aload_n 0, 1) := by decide +kernel
theorem dX11_run_118 : decode cX11_run 118 = .ok (.getfield 101, 3) := by decide +kernel
theorem dX11_run_121 : decode cX11_run 121 = .ok (.iconst 0, 1) := by decide +kernel
theorem dX11_run_122 : decode cX11_run 122 = .ok (.iaload, 1) := by decide +kernel
theorem dX11_run_123 : decode cX11_run 123 = .ok (.ireturn, 1) := by decide +kernel
theorem dX11_ahead_0 : decode cX11_ahead 0 = .ok (.aload_n 0, 1) := by decide +kernel
theorem dX11_ahead_1 : decode cX11_ahead 1 = .ok (.invokevirtual 200, 3) := by decide +kernel
theorem dX11_ahead_4 : decode cX11_ahead 4 = .ok (.ifCond .eq 21, 3) := by decide +kernel
theorem dX11_ahead_7 : decode cX11_ahead 7 = .ok (.iload_n 1, 1) := by decide +kernel
theorem dX11_ahead_8 : decode cX11_ahead 8 = .ok (.ifCond .lt 17, 3) := by decide +kernel
theorem dX11_ahead_11 : decode cX11_ahead 11 = .ok (.iload_n 1, 1) := by decide +kernel
theorem dX11_ahead_12 : decode cX11_ahead 12 = .ok (.aload_n 0, 1) := by decide +kernel
theorem dX11_ahead_13 : decode cX11_ahead 13 = .ok (.getfield 35, 3) := by decide +kernel
theorem dX11_ahead_16 : decode cX11_ahead 16 = .ok (.getfield 71, 3) := by decide +kernel
theorem dX11_ahead_19 : decode cX11_ahead 19 = .ok (.invokevirtual 217, 3) := by decide +kernel
theorem dX11_ahead_22 : decode cX11_ahead 22 = .ok (.if_icmp .le 5, 3) := by decide +kernel
theorem dX11_ahead_25 : decode cX11_ahead 25 = .ok (.iconst (-1), 1) := by decide +kernel
theorem dX11_ahead_26 : decode cX11_ahead 26 = .ok (.ireturn, 1) := by decide +kernel
theorem dX11_ahead_27 : decode cX11_ahead 27 = .ok (.aload_n 0, 1) := by decide +kernel
theorem dX11_ahead_28 : decode cX11_ahead 28 = .ok (.iload_n 1, 1) := by decide +kernel
theorem dX11_ahead_29 : decode cX11_ahead 29 = .ok (.invokevirtual 275, 3) := by decide +kernel
theorem dX11_ahead_32 : decode cX11_ahead 32 = .ok (.iload_n 2, 1) := by decide +kernel
theorem dX11_ahead_33 : decode cX11_ahead 33 = .ok (.tableswitch 67 0 3 #[31, 40, 49, 58], 31) := by decide +kernel
theorem dX11_ahead_64 : decode cX11_ahead 64 = .ok (.aload_n 0, 1) := by decide +kernel
theorem dX11_ahead_65 : decode cX11_ahead 65 = .ok (.getfield 98, 3) := by decide +kernel
theorem dX11_ahead_68 : decode cX11_ahead 68 = .ok (.iconst 0, 1) := by decide +kernel
theorem dX11_ahead_69 : decode cX11_ahead 69 = .ok (.invokevirtual 278, 3) := by decide +kernel
theorem dX11_ahead_72 : decode cX11_ahead 72 = .ok (.ireturn, 1) := by decide +kernel
theorem dX11_ahead_73 : decode cX11_ahead 73 = .ok (.aload_n 0, 1) := by decide +kernel
theorem dX11_ahead_74 : decode cX11_ahead 74 = .ok (.getfield 98, 3) := by decide +kernel
theorem dX11_ahead_77 : decode cX11_ahead 77 = .ok (.iconst 1, 1) := by decide +kernel
theorem dX11_ahead_78 : decode cX11_ahead 78 = .ok (.invokevirtual 278, 3) := by decide +kernel
theorem dX11_ahead_81 : decode cX11_ahead 81 = .ok (.ireturn, 1) := by decide +kernel
theorem dX11_ahead_82 : decode cX11_ahead 82 = .ok (.aload_n 0, 1) := by decide +kernel
theorem dX11_ahead_83 : decode cX11_ahead 83 = .ok (.getfield 98, 3) := by decide +kernel
theorem dX11_ahead_86 : decode cX11_ahead 86 = .ok (.iconst 2, 1) := by decide +kernel
theorem dX11_ahead_87 : decode cX11_ahead 87 = .ok (.invokevirtual 278, 3) := by decide +kernel
theorem dX11_ahead_90 : decode cX11_ahead 90 = .ok (.ireturn, 1) := by decide +kernel
theorem dX11_ahead_91 : decode cX11_ahead 91 = .ok (.aload_n 0, 1) := by decide +kernel
theorem dX11_ahead_92 : decode cX11_ahead 92 = .ok (.getfield 98, 3) := by decide +kernel
theorem dX11_ahead_95 : decode cX11_ahead 95 = .ok (.iconst 2, 1) := by decide +kernel
theorem dX11_ahead_96 : decode cX11_ahead 96 = .ok (.invokevirtual 281, 3) := by decide +kernel
theorem dX11_ahead_99 : decode cX11_ahead 99 = .ok (.ireturn, 1) := by decide +kernel
theorem dX11_ahead_100 : decode cX11_ahead 100 = .ok (.iconst (-1), 1) := by decide +kernel
theorem dX11_ahead_101 : decode cX11_ahead 101 = .ok (.ireturn, 1) := by decide +kernel
theorem dX11_sinks_0 : decode cX11_sinks 0 = .ok (.iload_n 1, 1) := by decide +kernel
theorem dX11_sinks_1 : decode cX11_sinks 1 = .ok (.ifCond .lt 17, 3) := by decide +kernel
theorem dX11_sinks_4 : decode cX11_sinks 4 = .ok (.iload_n 1, 1) := by decide +kernel
theorem dX11_sinks_5 : decode cX11_sinks 5 = .ok (.aload_n 0, 1) := by decide +kernel
theorem dX11_sinks_6 : decode cX11_sinks 6 = .ok (.getfield 35, 3) := by decide +kernel
theorem dX11_sinks_9 : decode cX11_sinks 9 = .ok (.getfield 91, 3) := by decide +kernel
theorem dX11_sinks_12 : decode cX11_sinks 12 = .ok (.getfield 127, 3) := by decide +kernel
theorem dX11_sinks_15 : decode cX11_sinks 15 = .ok (.if_icmp .lt 5, 3) := by decide +kernel
theorem dX11_sinks_18 : decode cX11_sinks 18 = .ok (.iconst (-1), 1) := by decide +kernel
theorem dX11_sinks_19 : decode cX11_sinks 19 = .ok (.ireturn, 1) := by decide +kernel
theorem dX11_sinks_20 : decode cX11_sinks 20 = .ok (.aload_n 0, 1) := by decide +kernel
theorem dX11_sinks_21 : decode cX11_sinks 21 = .ok (.aload_n 0, 1) := by decide +kernel
theorem dX11_sinks_22 : decode cX11_sinks 22 = .ok (.getfield 35, 3) := by decide +kernel
theorem dX11_sinks_25 : decode cX11_sinks 25 = .ok (.getfield 71, 3) := by decide +kernel
theorem dX11_sinks_28 : decode cX11_sinks 28 = .ok (.invokevirtual 217, 3) := by decide +kernel
theorem dX11_sinks_31 : decode cX11_sinks 31 = .ok (.invokevirtual 275, 3) := by decide +kernel
theorem dX11_sinks_34 : decode cX11_sinks 34 = .ok (.aload_n 0, 1) := by decide +kernel
theorem dX11_sinks_35 : decode cX11_sinks 35 = .ok (.getfield 98, 3) := by decide +kernel
theorem dX11_sinks_38 : decode cX11_sinks 38 = .ok (.getfield 179, 3) := by decide +kernel
theorem dX11_sinks_41 : decode cX11_sinks 41 = .ok (.iload_n 1, 1) := by decide +kernel
theorem dX11_sinks_42 : decode cX11_sinks 42 = .ok (.iaload, 1) := by decide +kernel
theorem dX11_sinks_43 : decode cX11_sinks 43 = .ok (.iconst 2, 1) := by decide +kernel
theorem dX11_sinks_44 : decode cX11_sinks 44 = .ok (.if_icmp .ne 15, 3) := by decide +kernel
theorem dX11_sinks_47 : decode cX11_sinks 47 = .ok (.aload_n 0, 1) := by decide +kernel
theorem dX11_sinks_48 : decode cX11_sinks 48 = .ok (.getfield 98, 3) := by decide +kernel
theorem dX11_sinks_51 : decode cX11_sinks 51 = .ok (.getfield 284, 3) := by decide +kernel
theorem dX11_sinks_54 : decode cX11_sinks 54 = .ok (.iload_n 1, 1) := by decide +kernel
theorem dX11_sinks_55 : decode cX11_sinks 55 = .ok (.iaload, 1) := by decide +kernel
theorem dX11_sinks_56 : decode cX11_sinks 56 = .ok (.goto 5, 3) := by decide +kernel
theorem dX11_sinks_59 : decode cX11_sinks 59 = .ok (.bipush (-2), 2) := by decide +kernel
theorem dX11_sinks_61 : decode cX11_sinks 61 = .ok (.ireturn, 1) := by decide +kernel
theorem dX11_bearers_0 : decode cX11_bearers 0 = .ok (.aload_n 0, 1) := by decide +kernel
theorem dX11_bearers_1 : decode cX11_bearers 1 = .ok (.iload_n 1, 1) := by decide +kernel
theorem dX11_bearers_2 : decode cX11_bearers 2 = .ok (.invokevirtual 287, 3) := by decide +kernel
theorem dX11_bearers_5 : decode cX11_bearers 5 = .ok (.ifCond .eq 12, 3) := by decide +kernel
theorem dX11_bearers_8 : decode cX11_bearers 8 = .ok (.iload_n 2, 1) := by decide +kernel
theorem dX11_bearers_9 : decode cX11_bearers 9 = .ok (.ifCond .lt 8, 3) := by decide +kernel
theorem dX11_bearers_12 : decode cX11_bearers 12 = .ok (.iload_n 2, 1) := by decide +kernel
theorem dX11_bearers_13 : decode cX11_bearers 13 = .ok (.iconst 1, 1) := by decide +kernel
theorem dX11_bearers_14 : decode cX11_bearers 14 = .ok (.if_icmp .le 5, 3) := by decide +kernel
theorem dX11_bearers_17 : decode cX11_bearers 17 = .ok (.iconst (-1), 1) := by decide +kernel
theorem dX11_bearers_18 : decode cX11_bearers 18 = .ok (.ireturn, 1) := by decide +kernel
theorem dX11_bearers_19 : decode cX11_bearers 19 = .ok (.aload_n 0, 1) := by decide +kernel
theorem dX11_bearers_20 : decode cX11_bearers 20 = .ok (.getfield 65, 3) := by decide +kernel
theorem dX11_bearers_23 : decode cX11_bearers 23 = .ok (.iload_n 1, 1) := by decide +kernel
theorem dX11_bearers_24 : decode cX11_bearers 24 = .ok (.invokevirtual 290, 3) := by decide +kernel
theorem dX11_bearers_27 : decode cX11_bearers 27 = .ok (.istore_n 3, 1) := by decide +kernel
theorem dX11_bearers_28 : decode cX11_bearers 28 = .ok (.iload_n 3, 1) := by decide +kernel
theorem dX11_bearers_29 : decode cX11_bearers 29 = .ok (.iconst (-1), 1) := by decide +kernel
theorem dX11_bearers_30 : decode cX11_bearers 30 = .ok (.if_icmp .ne 6, 3) := by decide +kernel
theorem dX11_bearers_33 : decode cX11_bearers 33 = .ok (.bipush (-2), 2) := by decide +kernel
theorem dX11_bearers_35 : decode cX11_bearers 35 = .ok (.ireturn, 1) := by decide +kernel
theorem dX11_bearers_36 : decode cX11_bearers 36 = .ok (.iload_n 2, 1) := by decide +kernel
theorem dX11_bearers_37 : decode cX11_bearers 37 = .ok (.ifCond .ne 10, 3) := by decide +kernel
theorem dX11_bearers_40 : decode cX11_bearers 40 = .ok (.iload_n 3, 1) := by decide +kernel
theorem dX11_bearers_41 : decode cX11_bearers 41 = .ok (.invokestatic 260, 3) := by decide +kernel
theorem dX11_bearers_44 : decode cX11_bearers 44 = .ok (.goto 4, 3) := by decide +kernel
theorem dX11_bearers_47 : decode cX11_bearers 47 = .ok (.iload_n 3, 1) := by decide +kernel
theorem dX11_bearers_48 : decode cX11_bearers 48 = .ok (.ireturn, 1) := by decide +kernel
theorem dX11_plan_0 : decode cX11_plan 0 = .ok (.aload_n 0, 1) := by decide +kernel
theorem dX11_plan_1 : decode cX11_plan 1 = .ok (.invokevirtual 200, 3) := by decide +kernel
theorem dX11_plan_4 : decode cX11_plan 4 = .ok (.ifCond .eq 14, 3) := by decide +kernel
theorem dX11_plan_7 : decode cX11_plan 7 = .ok (.iload_n 1, 1) := by decide +kernel
theorem dX11_plan_8 : decode cX11_plan 8 = .ok (.iconst (-1), 1) := by decide +kernel
theorem dX11_plan_9 : decode cX11_plan 9 = .ok (.if_icmp .lt 9, 3) := by decide +kernel
theorem dX11_plan_12 : decode cX11_plan 12 = .ok (.iload_n 1, 1) := by decide +kernel
theorem dX11_plan_13 : decode cX11_plan 13 = .ok (.bipush 7, 2) := by decide +kernel
theorem dX11_plan_15 : decode cX11_plan 15 = .ok (.if_icmp .lt 6, 3) := by decide +kernel
theorem dX11_plan_18 : decode cX11_plan 18 = .ok (.bipush (-4), 2) := by decide +kernel
theorem dX11_plan_20 : decode cX11_plan 20 = .ok (.ireturn, 1) := by decide +kernel
theorem dX11_plan_21 : decode cX11_plan 21 = .ok (.aload_n 0, 1) := by decide +kernel
theorem dX11_plan_22 : decode cX11_plan 22 = .ok (.getfield 35, 3) := by decide +kernel
theorem dX11_plan_25 : decode cX11_plan 25 = .ok (.getfield 71, 3) := by decide +kernel
theorem dX11_plan_28 : decode cX11_plan 28 = .ok (.iconst 0, 1) := by decide +kernel
theorem dX11_plan_29 : decode cX11_plan 29 = .ok (.invokevirtual 278, 3) := by decide +kernel
theorem dX11_plan_32 : decode cX11_plan 32 = .ok (.invokestatic 260, 3) := by decide +kernel
theorem dX11_plan_35 : decode cX11_plan 35 = .ok (.bipush 7, 2) := by decide +kernel
theorem dX11_plan_37 : decode cX11_plan 37 = .ok (.if_icmp .le 6, 3) := by decide +kernel
theorem dX11_plan_40 : decode cX11_plan 40 = .ok (.bipush (-3), 2) := by decide +kernel
theorem dX11_plan_42 : decode cX11_plan 42 = .ok (.ireturn, 1) := by decide +kernel
theorem dX11_plan_43 : decode cX11_plan 43 = .ok (.aload_n 0, 1) := by decide +kernel
theorem dX11_plan_44 : decode cX11_plan 44 = .ok (.getfield 78, 3) := by decide +kernel
theorem dX11_plan_47 : decode cX11_plan 47 = .ok (.invokevirtual 293, 3) := by decide +kernel
theorem dX11_plan_50 : decode cX11_plan 50 = .ok (.iload_n 1, 1) := by decide +kernel
theorem dX11_plan_51 : decode cX11_plan 51 = .ok (.iconst (-1), 1) := by decide +kernel
theorem dX11_plan_52 : decode cX11_plan 52 = .ok (.if_icmp .ne 11, 3) := by decide +kernel
theorem dX11_plan_55 : decode cX11_plan 55 = .ok (.aload_n 0, 1) := by decide +kernel
theorem dX11_plan_56 : decode cX11_plan 56 = .ok (.getfield 78, 3) := by decide +kernel
theorem dX11_plan_59 : decode cX11_plan 59 = .ok (.getfield 295, 3) := by decide +kernel
theorem dX11_plan_62 : decode cX11_plan 62 = .ok (.ireturn, 1) := by decide +kernel
theorem dX11_plan_63 : decode cX11_plan 63 = .ok (.aload_n 0, 1) := by decide +kernel
theorem dX11_plan_64 : decode cX11_plan 64 = .ok (.getfield 78, 3) := by decide +kernel
theorem dX11_plan_67 : decode cX11_plan 67 = .ok (.getfield 295, 3) := by decide +kernel
theorem dX11_plan_70 : decode cX11_plan 70 = .ok (.ifCond .le 26, 3) := by decide +kernel
theorem dX11_plan_73 : decode cX11_plan 73 = .ok (.iload_n 1, 1) := by decide +kernel
theorem dX11_plan_74 : decode cX11_plan 74 = .ok (.aload_n 0, 1) := by decide +kernel
theorem dX11_plan_75 : decode cX11_plan 75 = .ok (.getfield 78, 3) := by decide +kernel
theorem dX11_plan_78 : decode cX11_plan 78 = .ok (.getfield 298, 3) := by decide +kernel
theorem dX11_plan_81 : decode cX11_plan 81 = .ok (.if_icmp .ge 15, 3) := by decide +kernel
theorem dX11_plan_84 : decode cX11_plan 84 = .ok (.aload_n 0, 1) := by decide +kernel
theorem dX11_plan_85 : decode cX11_plan 85 = .ok (.getfield 78, 3) := by decide +kernel
theorem dX11_plan_88 : decode cX11_plan 88 = .ok (.getfield 299, 3) := by decide +kernel
theorem dX11_plan_91 : decode cX11_plan 91 = .ok (.iload_n 1, 1) := by decide +kernel
theorem dX11_plan_92 : decode cX11_plan 92 = .ok (.iaload, 1) := by decide +kernel
theorem dX11_plan_93 : decode cX11_plan 93 = .ok (.goto 5, 3) := by decide +kernel
theorem dX11_plan_96 : decode cX11_plan 96 = .ok (.bipush (-2), 2) := by decide +kernel
theorem dX11_plan_98 : decode cX11_plan 98 = .ok (.ireturn, 1) := by decide +kernel
theorem dX11_sawn_0 : decode cX11_sawn 0 = .ok (.aload_n 0, 1) := by decide +kernel
theorem dX11_sawn_1 : decode cX11_sawn 1 = .ok (.iload_n 1, 1) := by decide +kernel
theorem dX11_sawn_2 : decode cX11_sawn 2 = .ok (.invokevirtual 287, 3) := by decide +kernel
theorem dX11_sawn_5 : decode cX11_sawn 5 = .ok (.ifCond .eq 12, 3) := by decide +kernel
theorem dX11_sawn_8 : decode cX11_sawn 8 = .ok (.iload_n 2, 1) := by decide +kernel
theorem dX11_sawn_9 : decode cX11_sawn 9 = .ok (.ifCond .lt 8, 3) := by decide +kernel
theorem dX11_sawn_12 : decode cX11_sawn 12 = .ok (.iload_n 2, 1) := by decide +kernel
theorem dX11_sawn_13 : decode cX11_sawn 13 = .ok (.iconst 2, 1) := by decide +kernel
theorem dX11_sawn_14 : decode cX11_sawn 14 = .ok (.if_icmp .le 5, 3) := by decide +kernel
theorem dX11_sawn_17 : decode cX11_sawn 17 = .ok (.iconst (-1), 1) := by decide +kernel
theorem dX11_sawn_18 : decode cX11_sawn 18 = .ok (.ireturn, 1) := by decide +kernel
theorem dX11_sawn_19 : decode cX11_sawn 19 = .ok (.aload_n 0, 1) := by decide +kernel
theorem dX11_sawn_20 : decode cX11_sawn 20 = .ok (.getfield 65, 3) := by decide +kernel
theorem dX11_sawn_23 : decode cX11_sawn 23 = .ok (.iload_n 1, 1) := by decide +kernel
theorem dX11_sawn_24 : decode cX11_sawn 24 = .ok (.invokevirtual 302, 3) := by decide +kernel
theorem dX11_sawn_27 : decode cX11_sawn 27 = .ok (.iload_n 2, 1) := by decide +kernel
theorem dX11_sawn_28 : decode cX11_sawn 28 = .ok (.iconst 2, 1) := by decide +kernel
theorem dX11_sawn_29 : decode cX11_sawn 29 = .ok (.if_icmp .ne 11, 3) := by decide +kernel
theorem dX11_sawn_32 : decode cX11_sawn 32 = .ok (.aload_n 0, 1) := by decide +kernel
theorem dX11_sawn_33 : decode cX11_sawn 33 = .ok (.getfield 65, 3) := by decide +kernel
theorem dX11_sawn_36 : decode cX11_sawn 36 = .ok (.getfield 305, 3) := by decide +kernel
theorem dX11_sawn_39 : decode cX11_sawn 39 = .ok (.ireturn, 1) := by decide +kernel
theorem dX11_sawn_40 : decode cX11_sawn 40 = .ok (.aload_n 0, 1) := by decide +kernel
theorem dX11_sawn_41 : decode cX11_sawn 41 = .ok (.getfield 65, 3) := by decide +kernel
theorem dX11_sawn_44 : decode cX11_sawn 44 = .ok (.getfield 305, 3) := by decide +kernel
theorem dX11_sawn_47 : decode cX11_sawn 47 = .ok (.ifCond .ne 6, 3) := by decide +kernel
theorem dX11_sawn_50 : decode cX11_sawn 50 = .ok (.bipush (-2), 2) := by decide +kernel
theorem dX11_sawn_52 : decode cX11_sawn 52 = .ok (.ireturn, 1) := by decide +kernel
theorem dX11_sawn_53 : decode cX11_sawn 53 = .ok (.iload_n 2, 1) := by decide +kernel
theorem dX11_sawn_54 : decode cX11_sawn 54 = .ok (.ifCond .ne 16, 3) := by decide +kernel
theorem dX11_sawn_57 : decode cX11_sawn 57 = .ok (.aload_n 0, 1) := by decide +kernel
theorem dX11_sawn_58 : decode cX11_sawn 58 = .ok (.getfield 65, 3) := by decide +kernel
theorem dX11_sawn_61 : decode cX11_sawn 61 = .ok (.getfield 308, 3) := by decide +kernel
theorem dX11_sawn_64 : decode cX11_sawn 64 = .ok (.invokestatic 260, 3) := by decide +kernel
theorem dX11_sawn_67 : decode cX11_sawn 67 = .ok (.goto 10, 3) := by decide +kernel
theorem dX11_sawn_70 : decode cX11_sawn 70 = .ok (.aload_n 0, 1) := by decide +kernel
theorem dX11_sawn_71 : decode cX11_sawn 71 = .ok (.getfield 65, 3) := by decide +kernel
theorem dX11_sawn_74 : decode cX11_sawn 74 = .ok (.getfield 308, 3) := by decide +kernel
theorem dX11_sawn_77 : decode cX11_sawn 77 = .ok (.ireturn, 1) := by decide +kernel
theorem dX11_locks_0 : decode cX11_locks 0 = .ok (.aload_n 0, 1) := by decide +kernel
theorem dX11_locks_1 : decode cX11_locks 1 = .ok (.invokevirtual 200, 3) := by decide +kernel
theorem dX11_locks_4 : decode cX11_locks 4 = .ok (.ifCond .eq 25, 3) := by decide +kernel
theorem dX11_locks_7 : decode cX11_locks 7 = .ok (.iload_n 1, 1) := by decide +kernel
theorem dX11_locks_8 : decode cX11_locks 8 = .ok (.iconst 1, 1) := by decide +kernel
theorem dX11_locks_9 : decode cX11_locks 9 = .ok (.if_icmp .lt 20, 3) := by decide +kernel
theorem dX11_locks_12 : decode cX11_locks 12 = .ok (.iload_n 1, 1) := by decide +kernel
theorem dX11_locks_13 : decode cX11_locks 13 = .ok (.sipush 200, 3) := by decide +kernel
theorem dX11_locks_16 : decode cX11_locks 16 = .ok (.if_icmp .gt 13, 3) := by decide +kernel
theorem dX11_locks_19 : decode cX11_locks 19 = .ok (.iload_n 2, 1) := by decide +kernel
theorem dX11_locks_20 : decode cX11_locks 20 = .ok (.ifCond .lt 9, 3) := by decide +kernel
theorem dX11_locks_23 : decode cX11_locks 23 = .ok (.iload_n 2, 1) := by decide +kernel
theorem dX11_locks_24 : decode cX11_locks 24 = .ok (.bipush 8, 2) := by decide +kernel
theorem dX11_locks_26 : decode cX11_locks 26 = .ok (.if_icmp .le 5, 3) := by decide +kernel
theorem dX11_locks_29 : decode cX11_locks 29 = .ok (.iconst (-1), 1) := by decide +kernel
theorem dX11_locks_30 : decode cX11_locks 30 = .ok (.ireturn, 1) := by decide +kernel
theorem dX11_locks_31 : decode cX11_locks 31 = .ok (.aload_n 0, 1) := by decide +kernel
theorem dX11_locks_32 : decode cX11_locks 32 = .ok (.getfield 85, 3) := by decide +kernel
theorem dX11_locks_35 : decode cX11_locks 35 = .ok (.iload_n 1, 1) := by decide +kernel
theorem dX11_locks_36 : decode cX11_locks 36 = .ok (.invokevirtual 311, 3) := by decide +kernel
theorem dX11_locks_39 : decode cX11_locks 39 = .ok (.ifCond .ne 6, 3) := by decide +kernel
theorem dX11_locks_42 : decode cX11_locks 42 = .ok (.bipush (-2), 2) := by decide +kernel
theorem dX11_locks_44 : decode cX11_locks 44 = .ok (.ireturn, 1) := by decide +kernel
theorem dX11_locks_45 : decode cX11_locks 45 = .ok (.iload_n 2, 1) := by decide +kernel
theorem dX11_locks_46 : decode cX11_locks 46 = .ok (.ifCond .ne 13, 3) := by decide +kernel
theorem dX11_locks_49 : decode cX11_locks 49 = .ok (.aload_n 0, 1) := by decide +kernel
theorem dX11_locks_50 : decode cX11_locks 50 = .ok (.getfield 85, 3) := by decide +kernel
theorem dX11_locks_53 : decode cX11_locks 53 = .ok (.getfield 313, 3) := by decide +kernel
theorem dX11_locks_56 : decode cX11_locks 56 = .ok (.goto 14, 3) := by decide +kernel
theorem dX11_locks_59 : decode cX11_locks 59 = .ok (.aload_n 0, 1) := by decide +kernel
theorem dX11_locks_60 : decode cX11_locks 60 = .ok (.getfield 85, 3) := by decide +kernel
theorem dX11_locks_63 : decode cX11_locks 63 = .ok (.getfield 316, 3) := by decide +kernel
theorem dX11_locks_66 : decode cX11_locks 66 = .ok (.iload_n 2, 1) := by decide +kernel
theorem dX11_locks_67 : decode cX11_locks 67 = .ok (.iconst 1, 1) := by decide +kernel
theorem dX11_locks_68 : decode cX11_locks 68 = .ok (.isub, 1) := by decide +kernel
theorem dX11_locks_69 : decode cX11_locks 69 = .ok (.iaload, 1) := by decide +kernel
theorem dX11_locks_70 : decode cX11_locks 70 = .ok (.ireturn, 1) := by decide +kernel
theorem dX11_delta_0 : decode cX11_delta 0 = .ok (.aload_n 0, 1) := by decide +kernel
theorem dX11_delta_1 : decode cX11_delta 1 = .ok (.invokevirtual 200, 3) := by decide +kernel
theorem dX11_delta_4 : decode cX11_delta 4 = .ok (.ifCond .eq 12, 3) := by decide +kernel
theorem dX11_delta_7 : decode cX11_delta 7 = .ok (.iload_n 1, 1) := by decide +kernel
theorem dX11_delta_8 : decode cX11_delta 8 = .ok (.ifCond .lt 8, 3) := by decide +kernel
theorem dX11_delta_11 : decode cX11_delta 11 = .ok (.iload_n 1, 1) := by decide +kernel
theorem dX11_delta_12 : decode cX11_delta 12 = .ok (.iconst 1, 1) := by decide +kernel
theorem dX11_delta_13 : decode cX11_delta 13 = .ok (.if_icmp .le 5, 3) := by decide +kernel
theorem dX11_delta_16 : decode cX11_delta 16 = .ok (.iconst (-1), 1) := by decide +kernel
theorem dX11_delta_17 : decode cX11_delta 17 = .ok (.ireturn, 1) := by decide +kernel
theorem dX11_delta_18 : decode cX11_delta 18 = .ok (.aload_n 0, 1) := by decide +kernel
theorem dX11_delta_19 : decode cX11_delta 19 = .ok (.getfield 65, 3) := by decide +kernel
theorem dX11_delta_22 : decode cX11_delta 22 = .ok (.invokevirtual 317, 3) := by decide +kernel
theorem dX11_delta_25 : decode cX11_delta 25 = .ok (.iload_n 1, 1) := by decide +kernel
theorem dX11_delta_26 : decode cX11_delta 26 = .ok (.ifCond .ne 13, 3) := by decide +kernel
theorem dX11_delta_29 : decode cX11_delta 29 = .ok (.aload_n 0, 1) := by decide +kernel
theorem dX11_delta_30 : decode cX11_delta 30 = .ok (.getfield 65, 3) := by decide +kernel
theorem dX11_delta_33 : decode cX11_delta 33 = .ok (.getfield 320, 3) := by decide +kernel
theorem dX11_delta_36 : decode cX11_delta 36 = .ok (.goto 10, 3) := by decide +kernel
theorem dX11_delta_39 : decode cX11_delta 39 = .ok (.aload_n 0, 1) := by decide +kernel
theorem dX11_delta_40 : decode cX11_delta 40 = .ok (.getfield 65, 3) := by decide +kernel
theorem dX11_delta_43 : decode cX11_delta 43 = .ok (.getfield 323, 3) := by decide +kernel
theorem dX11_delta_46 : decode cX11_delta 46 = .ok (.ireturn, 1) := by decide +kernel
theorem dX11_weak_0 : decode cX11_weak 0 = .ok (.aload_n 0, 1) := by decide +kernel
theorem dX11_weak_1 : decode cX11_weak 1 = .ok (.invokevirtual 200, 3) := by decide +kernel
theorem dX11_weak_4 : decode cX11_weak 4 = .ok (.ifCond .ne 5, 3) := by decide +kernel
theorem dX11_weak_7 : decode cX11_weak 7 = .ok (.iconst (-1), 1) := by decide +kernel
theorem dX11_weak_8 : decode cX11_weak 8 = .ok (.ireturn, 1) := by decide +kernel
theorem dX11_weak_9 : decode cX11_weak 9 = .ok (.iload_n 1, 1) := by decide +kernel
theorem dX11_weak_10 : decode cX11_weak 10 = .ok (.lookupswitch 42 #[(0, 26), (1, 34)], 26) := by decide +kernel
theorem dX11_weak_36 : decode cX11_weak 36 = .ok (.aload_n 0, 1) := by decide +kernel
theorem dX11_weak_37 : decode cX11_weak 37 = .ok (.getfield 65, 3) := by decide +kernel
theorem dX11_weak_40 : decode cX11_weak 40 = .ok (.invokevirtual 326, 3) := by decide +kernel
theorem dX11_weak_43 : decode cX11_weak 43 = .ok (.ireturn, 1) := by decide +kernel
theorem dX11_weak_44 : decode cX11_weak 44 = .ok (.aload_n 0, 1) := by decide +kernel
theorem dX11_weak_45 : decode cX11_weak 45 = .ok (.getfield 65, 3) := by decide +kernel
theorem dX11_weak_48 : decode cX11_weak 48 = .ok (.invokevirtual 329, 3) := by decide +kernel
theorem dX11_weak_51 : decode cX11_weak 51 = .ok (.ireturn, 1) := by decide +kernel
theorem dX11_weak_52 : decode cX11_weak 52 = .ok (.iconst (-1), 1) := by decide +kernel
theorem dX11_weak_53 : decode cX11_weak 53 = .ok (.ireturn, 1) := by decide +kernel
theorem dX11_offer_0 : decode cX11_offer 0 = .ok (.iload_n 1, 1) := by decide +kernel
theorem dX11_offer_1 : decode cX11_offer 1 = .ok (.iconst (-1), 1) := by decide +kernel
theorem dX11_offer_2 : decode cX11_offer 2 = .ok (.if_icmp .ne 13, 3) := by decide +kernel
theorem dX11_offer_5 : decode cX11_offer 5 = .ok (.aload_n 0, 1) := by decide +kernel
theorem dX11_offer_6 : decode cX11_offer 6 = .ok (.getfield 35, 3) := by decide +kernel
theorem dX11_offer_9 : decode cX11_offer 9 = .ok (.iconst 0, 1) := by decide +kernel
theorem dX11_offer_10 : decode cX11_offer 10 = .ok (.putfield 332, 3) := by decide +kernel
theorem dX11_offer_13 : decode cX11_offer 13 = .ok (.iconst 0, 1) := by decide +kernel
theorem dX11_offer_14 : decode cX11_offer 14 = .ok (.ireturn, 1) := by decide +kernel
theorem dX11_offer_15 : decode cX11_offer 15 = .ok (.aload_n 0, 1) := by decide +kernel
theorem dX11_offer_16 : decode cX11_offer 16 = .ok (.invokevirtual 200, 3) := by decide +kernel
theorem dX11_offer_19 : decode cX11_offer 19 = .ok (.ifCond .eq 25, 3) := by decide +kernel
theorem dX11_offer_22 : decode cX11_offer 22 = .ok (.aload_n 0, 1) := by decide +kernel
theorem dX11_offer_23 : decode cX11_offer 23 = .ok (.getfield 35, 3) := by decide +kernel
theorem dX11_offer_26 : decode cX11_offer 26 = .ok (.getfield 332, 3) := by decide +kernel
theorem dX11_offer_29 : decode cX11_offer 29 = .ok (.bipush 6, 2) := by decide +kernel
theorem dX11_offer_31 : decode cX11_offer 31 = .ok (.if_icmp .ge 13, 3) := by decide +kernel
theorem dX11_offer_34 : decode cX11_offer 34 = .ok (.iload_n 1, 1) := by decide +kernel
theorem dX11_offer_35 : decode cX11_offer 35 = .ok (.ifCond .lt 9, 3) := by decide +kernel
theorem dX11_offer_38 : decode cX11_offer 38 = .ok (.iload_n 1, 1) := by decide +kernel
theorem dX11_offer_39 : decode cX11_offer 39 = .ok (.bipush 50, 2) := by decide +kernel
theorem dX11_offer_41 : decode cX11_offer 41 = .ok (.if_icmp .le 6, 3) := by decide +kernel
theorem dX11_offer_44 : decode cX11_offer 44 = .ok (.bipush (-2), 2) := by decide +kernel
theorem dX11_offer_46 : decode cX11_offer 46 = .ok (.ireturn, 1) := by decide +kernel
theorem dX11_offer_47 : decode cX11_offer 47 = .ok (.iload_n 2, 1) := by decide +kernel
theorem dX11_offer_48 : decode cX11_offer 48 = .ok (.ifCond .lt 19, 3) := by decide +kernel
theorem dX11_offer_51 : decode cX11_offer 51 = .ok (.iload_n 2, 1) := by decide +kernel
theorem dX11_offer_52 : decode cX11_offer 52 = .ok (.bipush 99, 2) := by decide +kernel
theorem dX11_offer_54 : decode cX11_offer 54 = .ok (.if_icmp .gt 13, 3) := by decide +kernel
theorem dX11_offer_57 : decode cX11_offer 57 = .ok (.iload_n 3, 1) := by decide +kernel
theorem dX11_offer_58 : decode cX11_offer 58 = .ok (.ifCond .lt 9, 3) := by decide +kernel
theorem dX11_offer_61 : decode cX11_offer 61 = .ok (.iload_n 3, 1) := by decide +kernel
theorem dX11_offer_62 : decode cX11_offer 62 = .ok (.bipush 9, 2) := by decide +kernel
theorem dX11_offer_64 : decode cX11_offer 64 = .ok (.if_icmp .le 6, 3) := by decide +kernel
theorem dX11_offer_67 : decode cX11_offer 67 = .ok (.bipush (-2), 2) := by decide +kernel
theorem dX11_offer_69 : decode cX11_offer 69 = .ok (.ireturn, 1) := by decide +kernel
theorem dX11_offer_70 : decode cX11_offer 70 = .ok (.aload_n 0, 1) := by decide +kernel
theorem dX11_offer_71 : decode cX11_offer 71 = .ok (.getfield 35, 3) := by decide +kernel
theorem dX11_offer_74 : decode cX11_offer 74 = .ok (.iload_n 1, 1) := by decide +kernel
theorem dX11_offer_75 : decode cX11_offer 75 = .ok (.iload_n 2, 1) := by decide +kernel
theorem dX11_offer_76 : decode cX11_offer 76 = .ok (.iload_n 3, 1) := by decide +kernel
theorem dX11_offer_77 : decode cX11_offer 77 = .ok (.invokevirtual 335, 3) := by decide +kernel
theorem dX11_offer_80 : decode cX11_offer 80 = .ok (.aload_n 0, 1) := by decide +kernel
theorem dX11_offer_81 : decode cX11_offer 81 = .ok (.getfield 35, 3) := by decide +kernel
theorem dX11_offer_84 : decode cX11_offer 84 = .ok (.getfield 332, 3) := by decide +kernel
theorem dX11_offer_87 : decode cX11_offer 87 = .ok (.ireturn, 1) := by decide +kernel
theorem dX11_take_0 : decode cX11_take 0 = .ok (.aload_n 0, 1) := by decide +kernel
theorem dX11_take_1 : decode cX11_take 1 = .ok (.iload_n 1, 1) := by decide +kernel
theorem dX11_take_2 : decode cX11_take 2 = .ok (.invokevirtual 209, 3) := by decide +kernel
theorem dX11_take_5 : decode cX11_take 5 = .ok (.ifCond .eq 12, 3) := by decide +kernel
theorem dX11_take_8 : decode cX11_take 8 = .ok (.iload_n 2, 1) := by decide +kernel
theorem dX11_take_9 : decode cX11_take 9 = .ok (.ifCond .lt 8, 3) := by decide +kernel
theorem dX11_take_12 : decode cX11_take 12 = .ok (.iload_n 2, 1) := by decide +kernel
theorem dX11_take_13 : decode cX11_take 13 = .ok (.iconst 1, 1) := by decide +kernel
theorem dX11_take_14 : decode cX11_take 14 = .ok (.if_icmp .le 5, 3) := by decide +kernel
theorem dX11_take_17 : decode cX11_take 17 = .ok (.iconst (-1), 1) := by decide +kernel
theorem dX11_take_18 : decode cX11_take 18 = .ok (.ireturn, 1) := by decide +kernel
theorem dX11_take_19 : decode cX11_take 19 = .ok (.aload_n 0, 1) := by decide +kernel
theorem dX11_take_20 : decode cX11_take 20 = .ok (.getfield 65, 3) := by decide +kernel
theorem dX11_take_23 : decode cX11_take 23 = .ok (.iload_n 1, 1) := by decide +kernel
theorem dX11_take_24 : decode cX11_take 24 = .ok (.invokevirtual 338, 3) := by decide +kernel
theorem dX11_take_27 : decode cX11_take 27 = .ok (.iload_n 2, 1) := by decide +kernel
theorem dX11_take_28 : decode cX11_take 28 = .ok (.iconst 1, 1) := by decide +kernel
theorem dX11_take_29 : decode cX11_take 29 = .ok (.if_icmp .ne 11, 3) := by decide +kernel
theorem dX11_take_32 : decode cX11_take 32 = .ok (.aload_n 0, 1) := by decide +kernel
theorem dX11_take_33 : decode cX11_take 33 = .ok (.getfield 65, 3) := by decide +kernel
theorem dX11_take_36 : decode cX11_take 36 = .ok (.getfield 341, 3) := by decide +kernel
theorem dX11_take_39 : decode cX11_take 39 = .ok (.ireturn, 1) := by decide +kernel
theorem dX11_take_40 : decode cX11_take 40 = .ok (.aload_n 0, 1) := by decide +kernel
theorem dX11_take_41 : decode cX11_take 41 = .ok (.getfield 65, 3) := by decide +kernel
theorem dX11_take_44 : decode cX11_take 44 = .ok (.getfield 344, 3) := by decide +kernel
theorem dX11_take_47 : decode cX11_take 47 = .ok (.iconst (-1), 1) := by decide +kernel
theorem dX11_take_48 : decode cX11_take 48 = .ok (.if_icmp .ne 8, 3) := by decide +kernel
theorem dX11_take_51 : decode cX11_take 51 = .ok (.bipush (-2), 2) := by decide +kernel
theorem dX11_take_53 : decode cX11_take 53 = .ok (.goto 10, 3) := by decide +kernel
theorem dX11_take_56 : decode cX11_take 56 = .ok (.aload_n 0, 1) := by decide +kernel
theorem dX11_take_57 : decode cX11_take 57 = .ok (.getfield 65, 3) := by decide +kernel
theorem dX11_take_60 : decode cX11_take 60 = .ok (.getfield 344, 3) := by decide +kernel
theorem dX11_take_63 : decode cX11_take 63 = .ok (.ireturn, 1) := by decide +kernel
theorem dX11_game_0 : decode cX11_game 0 = .ok (.aload_n 0, 1) := by decide +kernel
theorem dX11_game_1 : decode cX11_game 1 = .ok (.iload_n 1, 1) := by decide +kernel
theorem dX11_game_2 : decode cX11_game 2 = .ok (.invokevirtual 209, 3) := by decide +kernel
theorem dX11_game_5 : decode cX11_game 5 = .ok (.ifCond .eq 12, 3) := by decide +kernel
theorem dX11_game_8 : decode cX11_game 8 = .ok (.iload_n 2, 1) := by decide +kernel
theorem dX11_game_9 : decode cX11_game 9 = .ok (.ifCond .lt 8, 3) := by decide +kernel
theorem dX11_game_12 : decode cX11_game 12 = .ok (.iload_n 2, 1) := by decide +kernel
theorem dX11_game_13 : decode cX11_game 13 = .ok (.iconst 1, 1) := by decide +kernel
theorem dX11_game_14 : decode cX11_game 14 = .ok (.if_icmp .le 5, 3) := by decide +kernel
theorem dX11_game_17 : decode cX11_game 17 = .ok (.iconst (-1), 1) := by decide +kernel
theorem dX11_game_18 : decode cX11_game 18 = .ok (.ireturn, 1) := by decide +kernel
theorem dX11_game_19 : decode cX11_game 19 = .ok (.aload_n 0, 1) := by decide +kernel
theorem dX11_game_20 : decode cX11_game 20 = .ok (.getfield 65, 3) := by decide +kernel
theorem dX11_game_23 : decode cX11_game 23 = .ok (.iload_n 1, 1) := by decide +kernel
theorem dX11_game_24 : decode cX11_game 24 = .ok (.invokevirtual 347, 3) := by decide +kernel
theorem dX11_game_27 : decode cX11_game 27 = .ok (.istore_n 3, 1) := by decide +kernel
theorem dX11_game_28 : decode cX11_game 28 = .ok (.iload_n 2, 1) := by decide +kernel
theorem dX11_game_29 : decode cX11_game 29 = .ok (.ifCond .ne 14, 3) := by decide +kernel
theorem dX11_game_32 : decode cX11_game 32 = .ok (.iload_n 3, 1) := by decide +kernel
theorem dX11_game_33 : decode cX11_game 33 = .ok (.iconst (-1), 1) := by decide +kernel
theorem dX11_game_34 : decode cX11_game 34 = .ok (.if_icmp .ne 7, 3) := by decide +kernel
theorem dX11_game_37 : decode cX11_game 37 = .ok (.iconst 0, 1) := by decide +kernel
theorem dX11_game_38 : decode cX11_game 38 = .ok (.goto 4, 3) := by decide +kernel
theorem dX11_game_41 : decode cX11_game 41 = .ok (.iconst 1, 1) := by decide +kernel
theorem dX11_game_42 : decode cX11_game 42 = .ok (.ireturn, 1) := by decide +kernel
theorem dX11_game_43 : decode cX11_game 43 = .ok (.iload_n 3, 1) := by decide +kernel
theorem dX11_game_44 : decode cX11_game 44 = .ok (.iconst (-1), 1) := by decide +kernel
theorem dX11_game_45 : decode cX11_game 45 = .ok (.if_icmp .ne 8, 3) := by decide +kernel
theorem dX11_game_48 : decode cX11_game 48 = .ok (.bipush (-2), 2) := by decide +kernel
theorem dX11_game_50 : decode cX11_game 50 = .ok (.goto 4, 3) := by decide +kernel
theorem dX11_game_53 : decode cX11_game 53 = .ok (.iload_n 3, 1) := by decide +kernel
theorem dX11_game_54 : decode cX11_game 54 = .ok (.ireturn, 1) := by decide +kernel
theorem dX11_seed_0 : decode cX11_seed 0 = .ok (.iload_n 1, 1) := by decide +kernel
theorem dX11_seed_1 : decode cX11_seed 1 = .ok (.ifCond .ge 5, 3) := by decide +kernel
theorem dX11_seed_4 : decode cX11_seed 4 = .ok (.iconst (-1), 1) := by decide +kernel
theorem dX11_seed_5 : decode cX11_seed 5 = .ok (.ireturn, 1) := by decide +kernel
theorem dX11_seed_6 : decode cX11_seed 6 = .ok (.aload_n 0, 1) := by decide +kernel
theorem dX11_seed_7 : decode cX11_seed 7 = .ok (.getfield 35, 3) := by decide +kernel
theorem dX11_seed_10 : decode cX11_seed 10 = .ok (.getfield 350, 3) := by decide +kernel
theorem dX11_seed_13 : decode cX11_seed 13 = .ok (.istore_n 2, 1) := by decide +kernel
theorem dX11_seed_14 : decode cX11_seed 14 = .ok (.aload_n 0, 1) := by decide +kernel
theorem dX11_seed_15 : decode cX11_seed 15 = .ok (.getfield 35, 3) := by decide +kernel
theorem dX11_seed_18 : decode cX11_seed 18 = .ok (.iload_n 1, 1) := by decide +kernel
theorem dX11_seed_19 : decode cX11_seed 19 = .ok (.putfield 350, 3) := by decide +kernel
theorem dX11_seed_22 : decode cX11_seed 22 = .ok (.iload_n 2, 1) := by decide +kernel
theorem dX11_seed_23 : decode cX11_seed 23 = .ok (.ireturn, 1) := by decide +kernel
theorem dX11_drawn_0 : decode cX11_drawn 0 = .ok (.iload_n 1, 1) := by decide +kernel
theorem dX11_drawn_1 : decode cX11_drawn 1 = .ok (.iconst 1, 1) := by decide +kernel
theorem dX11_drawn_2 : decode cX11_drawn 2 = .ok (.if_icmp .lt 20, 3) := by decide +kernel
theorem dX11_drawn_5 : decode cX11_drawn 5 = .ok (.iload_n 1, 1) := by decide +kernel
theorem dX11_drawn_6 : decode cX11_drawn 6 = .ok (.bipush 20, 2) := by decide +kernel
theorem dX11_drawn_8 : decode cX11_drawn 8 = .ok (.if_icmp .gt 14, 3) := by decide +kernel
theorem dX11_drawn_11 : decode cX11_drawn 11 = .ok (.iload_n 2, 1) := by decide +kernel
theorem dX11_drawn_12 : decode cX11_drawn 12 = .ok (.iconst 1, 1) := by decide +kernel
theorem dX11_drawn_13 : decode cX11_drawn 13 = .ok (.if_icmp .lt 9, 3) := by decide +kernel
theorem dX11_drawn_16 : decode cX11_drawn 16 = .ok (.iload_n 2, 1) := by decide +kernel
theorem dX11_drawn_17 : decode cX11_drawn 17 = .ok (.bipush 60, 2) := by decide +kernel
theorem dX11_drawn_19 : decode cX11_drawn 19 = .ok (.if_icmp .le 5, 3) := by decide +kernel
theorem dX11_drawn_22 : decode cX11_drawn 22 = .ok (.iconst (-1), 1) := by decide +kernel
theorem dX11_drawn_23 : decode cX11_drawn 23 = .ok (.ireturn, 1) := by decide +kernel
theorem dX11_drawn_24 : decode cX11_drawn 24 = .ok (.iload_n 2, 1) := by decide +kernel
theorem dX11_drawn_25 : decode cX11_drawn 25 = .ok (.aload_n 0, 1) := by decide +kernel
theorem dX11_drawn_26 : decode cX11_drawn 26 = .ok (.getfield 35, 3) := by decide +kernel
theorem dX11_drawn_29 : decode cX11_drawn 29 = .ok (.getfield 71, 3) := by decide +kernel
theorem dX11_drawn_32 : decode cX11_drawn 32 = .ok (.invokevirtual 217, 3) := by decide +kernel
theorem dX11_drawn_35 : decode cX11_drawn 35 = .ok (.if_icmp .gt 12, 3) := by decide +kernel
theorem dX11_drawn_38 : decode cX11_drawn 38 = .ok (.iload_n 3, 1) := by decide +kernel
theorem dX11_drawn_39 : decode cX11_drawn 39 = .ok (.ifCond .lt 8, 3) := by decide +kernel
theorem dX11_drawn_42 : decode cX11_drawn 42 = .ok (.iload_n 3, 1) := by decide +kernel
theorem dX11_drawn_43 : decode cX11_drawn 43 = .ok (.iconst 2, 1) := by decide +kernel
theorem dX11_drawn_44 : decode cX11_drawn 44 = .ok (.if_icmp .le 5, 3) := by decide +kernel
theorem dX11_drawn_47 : decode cX11_drawn 47 = .ok (.iconst (-1), 1) := by decide +kernel
theorem dX11_drawn_48 : decode cX11_drawn 48 = .ok (.ireturn, 1) := by decide +kernel
theorem dX11_drawn_49 : decode cX11_drawn 49 = .ok (.aload_n 0, 1) := by decide +kernel
theorem dX11_drawn_50 : decode cX11_drawn 50 = .ok (.getfield 101, 3) := by decide +kernel
theorem dX11_drawn_53 : decode cX11_drawn 53 = .ok (.iconst 0, 1) := by decide +kernel
theorem dX11_drawn_54 : decode cX11_drawn 54 = .ok (.invokestatic 224, 3) := by decide +kernel
theorem dX11_drawn_57 : decode cX11_drawn 57 = .ok (.aload_n 0, 1) := by decide +kernel
theorem dX11_drawn_58 : decode cX11_drawn 58 = .ok (.getfield 35, 3) := by decide +kernel
theorem dX11_drawn_61 : decode cX11_drawn 61 = .ok (.getfield 350, 3) := by decide +kernel
theorem dX11_drawn_64 : decode cX11_drawn 64 = .ok (.istore 4, 2) := by decide +kernel
theorem dX11_drawn_66 : decode cX11_drawn 66 = .ok (.iconst 0, 1) := by decide +kernel
theorem dX11_drawn_67 : decode cX11_drawn 67 = .ok (.istore 5, 2) := by decide +kernel
theorem dX11_drawn_69 : decode cX11_drawn 69 = .ok (.iload 5, 2) := by decide +kernel
theorem dX11_drawn_71 : decode cX11_drawn 71 = .ok (.iload_n 1, 1) := by decide +kernel
theorem dX11_drawn_72 : decode cX11_drawn 72 = .ok (.if_icmp .ge 69, 3) := by decide +kernel
theorem dX11_drawn_75 : decode cX11_drawn 75 = .ok (.aload_n 0, 1) := by decide +kernel
theorem dX11_drawn_76 : decode cX11_drawn 76 = .ok (.getfield 98, 3) := by decide +kernel
theorem dX11_drawn_79 : decode cX11_drawn 79 = .ok (.aload_n 0, 1) := by decide +kernel
theorem dX11_drawn_80 : decode cX11_drawn 80 = .ok (.getfield 35, 3) := by decide +kernel
theorem dX11_drawn_83 : decode cX11_drawn 83 = .ok (.getfield 71, 3) := by decide +kernel
theorem dX11_drawn_86 : decode cX11_drawn 86 = .ok (.invokevirtual 353, 3) := by decide +kernel
theorem dX11_drawn_89 : decode cX11_drawn 89 = .ok (.iconst 0, 1) := by decide +kernel
theorem dX11_drawn_90 : decode cX11_drawn 90 = .ok (.istore 6, 2) := by decide +kernel
theorem dX11_drawn_92 : decode cX11_drawn 92 = .ok (.iload 6, 2) := by decide +kernel
theorem dX11_drawn_94 : decode cX11_drawn 94 = .ok (.iload_n 2, 1) := by decide +kernel
theorem dX11_drawn_95 : decode cX11_drawn 95 = .ok (.if_icmp .ge 40, 3) := by decide +kernel
theorem dX11_drawn_98 : decode cX11_drawn 98 = .ok (.iload 4, 2) := by decide +kernel
theorem dX11_drawn_100 : decode cX11_drawn 100 = .ok (.invokestatic 355, 3) := by decide +kernel
theorem dX11_drawn_103 : decode cX11_drawn 103 = .ok (.istore 4, 2) := by decide +kernel
theorem dX11_drawn_105 : decode cX11_drawn 105 = .ok (.aload_n 0, 1) := by decide +kernel
theorem dX11_drawn_106 : decode cX11_drawn 106 = .ok (.getfield 98, 3) := by decide +kernel
theorem dX11_drawn_109 : decode cX11_drawn 109 = .ok (.iload 4, 2) := by decide +kernel
theorem dX11_drawn_111 : decode cX11_drawn 111 = .ok (.ldc_w 358, 3) := by decide +kernel
theorem dX11_drawn_114 : decode cX11_drawn 114 = .ok (.idiv, 1) := by decide +kernel
theorem dX11_drawn_115 : decode cX11_drawn 115 = .ok (.bipush 10, 2) := by decide +kernel
theorem dX11_drawn_117 : decode cX11_drawn 117 = .ok (.irem, 1) := by decide +kernel
theorem dX11_drawn_118 : decode cX11_drawn 118 = .ok (.aload_n 0, 1) := by decide +kernel
theorem dX11_drawn_119 : decode cX11_drawn 119 = .ok (.getfield 56, 3) := by decide +kernel
theorem dX11_drawn_122 : decode cX11_drawn 122 = .ok (.aload_n 0, 1) := by decide +kernel
theorem dX11_drawn_123 : decode cX11_drawn 123 = .ok (.getfield 101, 3) := by decide +kernel
theorem dX11_drawn_126 : decode cX11_drawn 126 = .ok (.invokevirtual 230, 3) := by decide +kernel
theorem dX11_drawn_129 : decode cX11_drawn 129 = .ok (.iinc 6 1, 3) := by decide +kernel
theorem dX11_drawn_132 : decode cX11_drawn 132 = .ok (.goto (-40), 3) := by decide +kernel
theorem dX11_drawn_135 : decode cX11_drawn 135 = .ok (.iinc 5 1, 3) := by decide +kernel
theorem dX11_drawn_138 : decode cX11_drawn 138 = .ok (.goto (-69), 3) := by decide +kernel
theorem dX11_drawn_141 : decode cX11_drawn 141 = .ok (.aload_n 0, 1) := by decide +kernel
theorem dX11_drawn_142 : decode cX11_drawn 142 = .ok (.getfield 101, 3) := by decide +kernel
theorem dX11_drawn_145 : decode cX11_drawn 145 = .ok (.iload_n 3, 1) := by decide +kernel
theorem dX11_drawn_146 : decode cX11_drawn 146 = .ok (.iaload, 1) := by decide +kernel
theorem dX11_drawn_147 : decode cX11_drawn 147 = .ok (.ireturn, 1) := by decide +kernel
theorem dX11_count_0 : decode cX11_count 0 = .ok (.iload_n 1, 1) := by decide +kernel
theorem dX11_count_1 : decode cX11_count 1 = .ok (.tableswitch 220 0 13 #[71, 82, 93, 104, 115, 126, 137, 142, 153, 176, 188, 196, 204, 212], 71) := by decide +kernel
theorem dX11_count_72 : decode cX11_count 72 = .ok (.aload_n 0, 1) := by decide +kernel
theorem dX11_count_73 : decode cX11_count 73 = .ok (.getfield 35, 3) := by decide +kernel
theorem dX11_count_76 : decode cX11_count 76 = .ok (.getfield 91, 3) := by decide +kernel
theorem dX11_count_79 : decode cX11_count 79 = .ok (.getfield 203, 3) := by decide +kernel
theorem dX11_count_82 : decode cX11_count 82 = .ok (.ireturn, 1) := by decide +kernel
theorem dX11_count_83 : decode cX11_count 83 = .ok (.aload_n 0, 1) := by decide +kernel
theorem dX11_count_84 : decode cX11_count 84 = .ok (.getfield 35, 3) := by decide +kernel
theorem dX11_count_87 : decode cX11_count 87 = .ok (.getfield 71, 3) := by decide +kernel
theorem dX11_count_90 : decode cX11_count 90 = .ok (.getfield 251, 3) := by decide +kernel
theorem dX11_count_93 : decode cX11_count 93 = .ok (.ireturn, 1) := by decide +kernel
theorem dX11_count_94 : decode cX11_count 94 = .ok (.aload_n 0, 1) := by decide +kernel
theorem dX11_count_95 : decode cX11_count 95 = .ok (.getfield 35, 3) := by decide +kernel
theorem dX11_count_98 : decode cX11_count 98 = .ok (.getfield 91, 3) := by decide +kernel
theorem dX11_count_101 : decode cX11_count 101 = .ok (.getfield 144, 3) := by decide +kernel
theorem dX11_count_104 : decode cX11_count 104 = .ok (.ireturn, 1) := by decide +kernel
theorem dX11_count_105 : decode cX11_count 105 = .ok (.aload_n 0, 1) := by decide +kernel
theorem dX11_count_106 : decode cX11_count 106 = .ok (.getfield 35, 3) := by decide +kernel
theorem dX11_count_109 : decode cX11_count 109 = .ok (.getfield 91, 3) := by decide +kernel
theorem dX11_count_112 : decode cX11_count 112 = .ok (.getfield 127, 3) := by decide +kernel
theorem dX11_count_115 : decode cX11_count 115 = .ok (.ireturn, 1) := by decide +kernel
theorem dX11_count_116 : decode cX11_count 116 = .ok (.aload_n 0, 1) := by decide +kernel
theorem dX11_count_117 : decode cX11_count 117 = .ok (.getfield 35, 3) := by decide +kernel
theorem dX11_count_120 : decode cX11_count 120 = .ok (.getfield 71, 3) := by decide +kernel
theorem dX11_count_123 : decode cX11_count 123 = .ok (.getfield 188, 3) := by decide +kernel
theorem dX11_count_126 : decode cX11_count 126 = .ok (.ireturn, 1) := by decide +kernel
theorem dX11_count_127 : decode cX11_count 127 = .ok (.aload_n 0, 1) := by decide +kernel
theorem dX11_count_128 : decode cX11_count 128 = .ok (.getfield 35, 3) := by decide +kernel
theorem dX11_count_131 : decode cX11_count 131 = .ok (.getfield 91, 3) := by decide +kernel
theorem dX11_count_134 : decode cX11_count 134 = .ok (.getfield 359, 3) := by decide +kernel
theorem dX11_count_137 : decode cX11_count 137 = .ok (.ireturn, 1) := by decide +kernel
theorem dX11_count_138 : decode cX11_count 138 = .ok (.aload_n 0, 1) := by decide +kernel
theorem dX11_count_139 : decode cX11_count 139 = .ok (.getfield 132, 3) := by decide +kernel
theorem dX11_count_142 : decode cX11_count 142 = .ok (.ireturn, 1) := by decide +kernel
theorem dX11_count_143 : decode cX11_count 143 = .ok (.aload_n 0, 1) := by decide +kernel
theorem dX11_count_144 : decode cX11_count 144 = .ok (.getfield 35, 3) := by decide +kernel
theorem dX11_count_147 : decode cX11_count 147 = .ok (.getfield 71, 3) := by decide +kernel
theorem dX11_count_150 : decode cX11_count 150 = .ok (.getfield 362, 3) := by decide +kernel
theorem dX11_count_153 : decode cX11_count 153 = .ok (.ireturn, 1) := by decide +kernel
theorem dX11_count_154 : decode cX11_count 154 = .ok (.aload_n 0, 1) := by decide +kernel
theorem dX11_count_155 : decode cX11_count 155 = .ok (.getfield 56, 3) := by decide +kernel
theorem dX11_count_158 : decode cX11_count 158 = .ok (.aload_n 0, 1) := by decide +kernel
theorem dX11_count_159 : decode cX11_count 159 = .ok (.getfield 35, 3) := by decide +kernel
theorem dX11_count_162 : decode cX11_count 162 = .ok (.getfield 71, 3) := by decide +kernel
theorem dX11_count_165 : decode cX11_count 165 = .ok (.iconst 0, 1) := by decide +kernel
theorem dX11_count_166 : decode cX11_count 166 = .ok (.invokevirtual 182, 3) := by decide +kernel
theorem dX11_count_169 : decode cX11_count 169 = .ok (.aload_n 0, 1) := by decide +kernel
theorem dX11_count_170 : decode cX11_count 170 = .ok (.getfield 56, 3) := by decide +kernel
theorem dX11_count_173 : decode cX11_count 173 = .ok (.invokevirtual 365, 3) := by decide +kernel
theorem dX11_count_176 : decode cX11_count 176 = .ok (.ireturn, 1) := by decide +kernel
theorem dX11_count_177 : decode cX11_count 177 = .ok (.aload_n 0, 1) := by decide +kernel
theorem dX11_count_178 : decode cX11_count 178 = .ok (.getfield 35, 3) := by decide +kernel
theorem dX11_count_181 : decode cX11_count 181 = .ok (.getfield 71, 3) := by decide +kernel
theorem dX11_count_184 : decode cX11_count 184 = .ok (.iconst 0, 1) := by decide +kernel
theorem dX11_count_185 : decode cX11_count 185 = .ok (.invokevirtual 278, 3) := by decide +kernel
theorem dX11_count_188 : decode cX11_count 188 = .ok (.ireturn, 1) := by decide +kernel
theorem dX11_count_189 : decode cX11_count 189 = .ok (.aload_n 0, 1) := by decide +kernel
theorem dX11_count_190 : decode cX11_count 190 = .ok (.getfield 35, 3) := by decide +kernel
theorem dX11_count_193 : decode cX11_count 193 = .ok (.getfield 332, 3) := by decide +kernel
theorem dX11_count_196 : decode cX11_count 196 = .ok (.ireturn, 1) := by decide +kernel
theorem dX11_count_197 : decode cX11_count 197 = .ok (.aload_n 0, 1) := by decide +kernel
theorem dX11_count_198 : decode cX11_count 198 = .ok (.getfield 35, 3) := by decide +kernel
theorem dX11_count_201 : decode cX11_count 201 = .ok (.getfield 265, 3) := by decide +kernel
theorem dX11_count_204 : decode cX11_count 204 = .ok (.ireturn, 1) := by decide +kernel
theorem dX11_count_205 : decode cX11_count 205 = .ok (.aload_n 0, 1) := by decide +kernel
theorem dX11_count_206 : decode cX11_count 206 = .ok (.getfield 35, 3) := by decide +kernel
theorem dX11_count_209 : decode cX11_count 209 = .ok (.getfield 350, 3) := by decide +kernel
theorem dX11_count_212 : decode cX11_count 212 = .ok (.ireturn, 1) := by decide +kernel
theorem dX11_count_213 : decode cX11_count 213 = .ok (.aload_n 0, 1) := by decide +kernel
theorem dX11_count_214 : decode cX11_count 214 = .ok (.getfield 12, 3) := by decide +kernel
theorem dX11_count_217 : decode cX11_count 217 = .ok (.getfield 106, 3) := by decide +kernel
theorem dX11_count_220 : decode cX11_count 220 = .ok (.ireturn, 1) := by decide +kernel
theorem dX11_count_221 : decode cX11_count 221 = .ok (.iconst (-1), 1) := by decide +kernel
theorem dX11_count_222 : decode cX11_count 222 = .ok (.ireturn, 1) := by decide +kernel
theorem dX11_image_0 : decode cX11_image 0 = .ok (.iload_n 1, 1) := by decide +kernel
theorem dX11_image_1 : decode cX11_image 1 = .ok (.ifCond .lt 8, 3) := by decide +kernel
theorem dX11_image_4 : decode cX11_image 4 = .ok (.iload_n 1, 1) := by decide +kernel
theorem dX11_image_5 : decode cX11_image 5 = .ok (.iconst 4, 1) := by decide +kernel
theorem dX11_image_6 : decode cX11_image 6 = .ok (.if_icmp .lt 5, 3) := by decide +kernel
theorem dX11_image_9 : decode cX11_image 9 = .ok (.iconst (-1), 1) := by decide +kernel
theorem dX11_image_10 : decode cX11_image 10 = .ok (.ireturn, 1) := by decide +kernel
theorem dX11_image_11 : decode cX11_image 11 = .ok (.aload_n 0, 1) := by decide +kernel
theorem dX11_image_12 : decode cX11_image 12 = .ok (.getfield 39, 3) := by decide +kernel
theorem dX11_image_15 : decode cX11_image 15 = .ok (.iload_n 1, 1) := by decide +kernel
theorem dX11_image_16 : decode cX11_image 16 = .ok (.aaload, 1) := by decide +kernel
theorem dX11_image_17 : decode cX11_image 17 = .ok (.aload_n 0, 1) := by decide +kernel
theorem dX11_image_18 : decode cX11_image 18 = .ok (.getfield 35, 3) := by decide +kernel
theorem dX11_image_21 : decode cX11_image 21 = .ok (.invokevirtual 368, 3) := by decide +kernel
theorem dX11_image_24 : decode cX11_image 24 = .ok (.aload_n 0, 1) := by decide +kernel
theorem dX11_image_25 : decode cX11_image 25 = .ok (.getfield 43, 3) := by decide +kernel
theorem dX11_image_28 : decode cX11_image 28 = .ok (.iload_n 1, 1) := by decide +kernel
theorem dX11_image_29 : decode cX11_image 29 = .ok (.iconst 1, 1) := by decide +kernel
theorem dX11_image_30 : decode cX11_image 30 = .ok (.bastore, 1) := by decide +kernel
theorem dX11_image_31 : decode cX11_image 31 = .ok (.aload_n 0, 1) := by decide +kernel
theorem dX11_image_32 : decode cX11_image 32 = .ok (.getfield 35, 3) := by decide +kernel
theorem dX11_image_35 : decode cX11_image 35 = .ok (.getfield 71, 3) := by decide +kernel
theorem dX11_image_38 : decode cX11_image 38 = .ok (.getfield 362, 3) := by decide +kernel
theorem dX11_image_41 : decode cX11_image 41 = .ok (.ireturn, 1) := by decide +kernel
theorem dX11_back_0 : decode cX11_back 0 = .ok (.iload_n 1, 1) := by decide +kernel
theorem dX11_back_1 : decode cX11_back 1 = .ok (.ifCond .lt 17, 3) := by decide +kernel
theorem dX11_back_4 : decode cX11_back 4 = .ok (.iload_n 1, 1) := by decide +kernel
theorem dX11_back_5 : decode cX11_back 5 = .ok (.iconst 4, 1) := by decide +kernel
theorem dX11_back_6 : decode cX11_back 6 = .ok (.if_icmp .ge 12, 3) := by decide +kernel
theorem dX11_back_9 : decode cX11_back 9 = .ok (.aload_n 0, 1) := by decide +kernel
theorem dX11_back_10 : decode cX11_back 10 = .ok (.getfield 43, 3) := by decide +kernel
theorem dX11_back_13 : decode cX11_back 13 = .ok (.iload_n 1, 1) := by decide +kernel
theorem dX11_back_14 : decode cX11_back 14 = .ok (.baload, 1) := by decide +kernel
theorem dX11_back_15 : decode cX11_back 15 = .ok (.ifCond .ne 5, 3) := by decide +kernel
theorem dX11_back_18 : decode cX11_back 18 = .ok (.iconst (-1), 1) := by decide +kernel
theorem dX11_back_19 : decode cX11_back 19 = .ok (.ireturn, 1) := by decide +kernel
theorem dX11_back_20 : decode cX11_back 20 = .ok (.aload_n 0, 1) := by decide +kernel
theorem dX11_back_21 : decode cX11_back 21 = .ok (.getfield 35, 3) := by decide +kernel
theorem dX11_back_24 : decode cX11_back 24 = .ok (.aload_n 0, 1) := by decide +kernel
theorem dX11_back_25 : decode cX11_back 25 = .ok (.getfield 39, 3) := by decide +kernel
theorem dX11_back_28 : decode cX11_back 28 = .ok (.iload_n 1, 1) := by decide +kernel
theorem dX11_back_29 : decode cX11_back 29 = .ok (.aaload, 1) := by decide +kernel
theorem dX11_back_30 : decode cX11_back 30 = .ok (.invokevirtual 368, 3) := by decide +kernel
theorem dX11_back_33 : decode cX11_back 33 = .ok (.aload_n 0, 1) := by decide +kernel
theorem dX11_back_34 : decode cX11_back 34 = .ok (.getfield 35, 3) := by decide +kernel
theorem dX11_back_37 : decode cX11_back 37 = .ok (.getfield 71, 3) := by decide +kernel
theorem dX11_back_40 : decode cX11_back 40 = .ok (.getfield 362, 3) := by decide +kernel
theorem dX11_back_43 : decode cX11_back 43 = .ok (.ireturn, 1) := by decide +kernel
theorem dX11_hasRiver_0 : decode cX11_hasRiver 0 = .ok (.aload_n 0, 1) := by decide +kernel
theorem dX11_hasRiver_1 : decode cX11_hasRiver 1 = .ok (.getfield 35, 3) := by decide +kernel
theorem dX11_hasRiver_4 : decode cX11_hasRiver 4 = .ok (.getfield 91, 3) := by decide +kernel
theorem dX11_hasRiver_7 : decode cX11_hasRiver 7 = .ok (.getfield 203, 3) := by decide +kernel
theorem dX11_hasRiver_10 : decode cX11_hasRiver 10 = .ok (.ifCond .le 7, 3) := by decide +kernel
theorem dX11_hasRiver_13 : decode cX11_hasRiver 13 = .ok (.iconst 1, 1) := by decide +kernel
theorem dX11_hasRiver_14 : decode cX11_hasRiver 14 = .ok (.goto 4, 3) := by decide +kernel
theorem dX11_hasRiver_17 : decode cX11_hasRiver 17 = .ok (.iconst 0, 1) := by decide +kernel
theorem dX11_hasRiver_18 : decode cX11_hasRiver 18 = .ok (.ireturn, 1) := by decide +kernel
theorem dX11_isAfloat_0 : decode cX11_isAfloat 0 = .ok (.iload_n 1, 1) := by decide +kernel
theorem dX11_isAfloat_1 : decode cX11_isAfloat 1 = .ok (.ifCond .lt 36, 3) := by decide +kernel
theorem dX11_isAfloat_4 : decode cX11_isAfloat 4 = .ok (.iload_n 1, 1) := by decide +kernel
theorem dX11_isAfloat_5 : decode cX11_isAfloat 5 = .ok (.aload_n 0, 1) := by decide +kernel
theorem dX11_isAfloat_6 : decode cX11_isAfloat 6 = .ok (.getfield 35, 3) := by decide +kernel
theorem dX11_isAfloat_9 : decode cX11_isAfloat 9 = .ok (.getfield 91, 3) := by decide +kernel
theorem dX11_isAfloat_12 : decode cX11_isAfloat 12 = .ok (.getfield 127, 3) := by decide +kernel
theorem dX11_isAfloat_15 : decode cX11_isAfloat 15 = .ok (.if_icmp .ge 22, 3) := by decide +kernel
theorem dX11_isAfloat_18 : decode cX11_isAfloat 18 = .ok (.aload_n 0, 1) := by decide +kernel
theorem dX11_isAfloat_19 : decode cX11_isAfloat 19 = .ok (.getfield 35, 3) := by decide +kernel
theorem dX11_isAfloat_22 : decode cX11_isAfloat 22 = .ok (.getfield 71, 3) := by decide +kernel
theorem dX11_isAfloat_25 : decode cX11_isAfloat 25 = .ok (.getfield 179, 3) := by decide +kernel
theorem dX11_isAfloat_28 : decode cX11_isAfloat 28 = .ok (.iload_n 1, 1) := by decide +kernel
theorem dX11_isAfloat_29 : decode cX11_isAfloat 29 = .ok (.iaload, 1) := by decide +kernel
theorem dX11_isAfloat_30 : decode cX11_isAfloat 30 = .ok (.ifCond .ne 7, 3) := by decide +kernel
theorem dX11_isAfloat_33 : decode cX11_isAfloat 33 = .ok (.iconst 1, 1) := by decide +kernel
theorem dX11_isAfloat_34 : decode cX11_isAfloat 34 = .ok (.goto 4, 3) := by decide +kernel
theorem dX11_isAfloat_37 : decode cX11_isAfloat 37 = .ok (.iconst 0, 1) := by decide +kernel
theorem dX11_isAfloat_38 : decode cX11_isAfloat 38 = .ok (.ireturn, 1) := by decide +kernel
theorem dX11_isSetAfloat_0 : decode cX11_isSetAfloat 0 = .ok (.aload_n 0, 1) := by decide +kernel
theorem dX11_isSetAfloat_1 : decode cX11_isSetAfloat 1 = .ok (.invokevirtual 200, 3) := by decide +kernel
theorem dX11_isSetAfloat_4 : decode cX11_isSetAfloat 4 = .ok (.ifCond .eq 25, 3) := by decide +kernel
theorem dX11_isSetAfloat_7 : decode cX11_isSetAfloat 7 = .ok (.iload_n 1, 1) := by decide +kernel
theorem dX11_isSetAfloat_8 : decode cX11_isSetAfloat 8 = .ok (.aload_n 0, 1) := by decide +kernel
theorem dX11_isSetAfloat_9 : decode cX11_isSetAfloat 9 = .ok (.getfield 35, 3) := by decide +kernel
theorem dX11_isSetAfloat_12 : decode cX11_isSetAfloat 12 = .ok (.getfield 71, 3) := by decide +kernel
theorem dX11_isSetAfloat_15 : decode cX11_isSetAfloat 15 = .ok (.iconst 0, 1) := by decide +kernel
theorem dX11_isSetAfloat_16 : decode cX11_isSetAfloat 16 = .ok (.invokevirtual 278, 3) := by decide +kernel
theorem dX11_isSetAfloat_19 : decode cX11_isSetAfloat 19 = .ok (.iconst (-1), 1) := by decide +kernel
theorem dX11_isSetAfloat_20 : decode cX11_isSetAfloat 20 = .ok (.ixor, 1) := by decide +kernel
theorem dX11_isSetAfloat_21 : decode cX11_isSetAfloat 21 = .ok (.iand, 1) := by decide +kernel
theorem dX11_isSetAfloat_22 : decode cX11_isSetAfloat 22 = .ok (.ifCond .ne 7, 3) := by decide +kernel
theorem dX11_isSetAfloat_25 : decode cX11_isSetAfloat 25 = .ok (.iconst 1, 1) := by decide +kernel
theorem dX11_isSetAfloat_26 : decode cX11_isSetAfloat 26 = .ok (.goto 4, 3) := by decide +kernel
theorem dX11_isSetAfloat_29 : decode cX11_isSetAfloat 29 = .ok (.iconst 0, 1) := by decide +kernel
theorem dX11_isSetAfloat_30 : decode cX11_isSetAfloat 30 = .ok (.ireturn, 1) := by decide +kernel
theorem dX11_isStrength_0 : decode cX11_isStrength 0 = .ok (.iload_n 0, 1) := by decide +kernel
theorem dX11_isStrength_1 : decode cX11_isStrength 1 = .ok (.iconst 1, 1) := by decide +kernel
theorem dX11_isStrength_2 : decode cX11_isStrength 2 = .ok (.if_icmp .lt 13, 3) := by decide +kernel
theorem dX11_isStrength_5 : decode cX11_isStrength 5 = .ok (.iload_n 0, 1) := by decide +kernel
theorem dX11_isStrength_6 : decode cX11_isStrength 6 = .ok (.bipush 9, 2) := by decide +kernel
theorem dX11_isStrength_8 : decode cX11_isStrength 8 = .ok (.if_icmp .gt 7, 3) := by decide +kernel
theorem dX11_isStrength_11 : decode cX11_isStrength 11 = .ok (.iconst 1, 1) := by decide +kernel
theorem dX11_isStrength_12 : decode cX11_isStrength 12 = .ok (.goto 4, 3) := by decide +kernel
theorem dX11_isStrength_15 : decode cX11_isStrength 15 = .ok (.iconst 0, 1) := by decide +kernel
theorem dX11_isStrength_16 : decode cX11_isStrength 16 = .ok (.ireturn, 1) := by decide +kernel
theorem dX11_leastOf_0 : decode cX11_leastOf 0 = .ok (.iconst 0, 1) := by decide +kernel
theorem dX11_leastOf_1 : decode cX11_leastOf 1 = .ok (.istore_n 1, 1) := by decide +kernel
theorem dX11_leastOf_2 : decode cX11_leastOf 2 = .ok (.iload_n 1, 1) := by decide +kernel
theorem dX11_leastOf_3 : decode cX11_leastOf 3 = .ok (.bipush 8, 2) := by decide +kernel
theorem dX11_leastOf_5 : decode cX11_leastOf 5 = .ok (.if_icmp .ge 19, 3) := by decide +kernel
theorem dX11_leastOf_8 : decode cX11_leastOf 8 = .ok (.iload_n 0, 1) := by decide +kernel
theorem dX11_leastOf_9 : decode cX11_leastOf 9 = .ok (.iload_n 1, 1) := by decide +kernel
theorem dX11_leastOf_10 : decode cX11_leastOf 10 = .ok (.invokestatic 371, 3) := by decide +kernel
theorem dX11_leastOf_13 : decode cX11_leastOf 13 = .ok (.ifCond .eq 5, 3) := by decide +kernel
theorem dX11_leastOf_16 : decode cX11_leastOf 16 = .ok (.iload_n 1, 1) := by decide +kernel
theorem dX11_leastOf_17 : decode cX11_leastOf 17 = .ok (.ireturn, 1) := by decide +kernel
theorem dX11_leastOf_18 : decode cX11_leastOf 18 = .ok (.iinc 1 1, 3) := by decide +kernel
theorem dX11_leastOf_21 : decode cX11_leastOf 21 = .ok (.goto (-19), 3) := by decide +kernel
theorem dX11_leastOf_24 : decode cX11_leastOf 24 = .ok (.iconst (-1), 1) := by decide +kernel
theorem dX11_leastOf_25 : decode cX11_leastOf 25 = .ok (.ireturn, 1) := by decide +kernel
theorem dX11_contains_0 : decode cX11_contains 0 = .ok (.iload_n 0, 1) := by decide +kernel
theorem dX11_contains_1 : decode cX11_contains 1 = .ok (.iload_n 1, 1) := by decide +kernel
theorem dX11_contains_2 : decode cX11_contains 2 = .ok (.ishr, 1) := by decide +kernel
theorem dX11_contains_3 : decode cX11_contains 3 = .ok (.iconst 1, 1) := by decide +kernel
theorem dX11_contains_4 : decode cX11_contains 4 = .ok (.iand, 1) := by decide +kernel
theorem dX11_contains_5 : decode cX11_contains 5 = .ok (.ifCond .eq 7, 3) := by decide +kernel
theorem dX11_contains_8 : decode cX11_contains 8 = .ok (.iconst 1, 1) := by decide +kernel
theorem dX11_contains_9 : decode cX11_contains 9 = .ok (.goto 4, 3) := by decide +kernel
theorem dX11_contains_12 : decode cX11_contains 12 = .ok (.iconst 0, 1) := by decide +kernel
theorem dX11_contains_13 : decode cX11_contains 13 = .ok (.ireturn, 1) := by decide +kernel
theorem dX11_nextDraw_0 : decode cX11_nextDraw 0 = .ok (.iload_n 0, 1) := by decide +kernel
theorem dX11_nextDraw_1 : decode cX11_nextDraw 1 = .ok (.i2l, 1) := by decide +kernel
theorem dX11_nextDraw_2 : decode cX11_nextDraw 2 = .ok (.ldc2_w 374, 3) := by decide +kernel
theorem dX11_nextDraw_5 : decode cX11_nextDraw 5 = .ok (.lmul, 1) := by decide +kernel
theorem dX11_nextDraw_6 : decode cX11_nextDraw 6 = .ok (.ldc2_w 376, 3) := by decide +kernel
theorem dX11_nextDraw_9 : decode cX11_nextDraw 9 = .ok (.ladd, 1) := by decide +kernel
theorem dX11_nextDraw_10 : decode cX11_nextDraw 10 = .ok (.ldc2_w 378, 3) := by decide +kernel
theorem dX11_nextDraw_13 : decode cX11_nextDraw 13 = .ok (.lrem, 1) := by decide +kernel
theorem dX11_nextDraw_14 : decode cX11_nextDraw 14 = .ok (.l2i, 1) := by decide +kernel
theorem dX11_nextDraw_15 : decode cX11_nextDraw 15 = .ok (.ireturn, 1) := by decide +kernel
theorem dX11_tryAhead_0 : decode cX11_tryAhead 0 = .ok (.aload_n 0, 1) := by decide +kernel
theorem dX11_tryAhead_1 : decode cX11_tryAhead 1 = .ok (.getfield 98, 3) := by decide +kernel
theorem dX11_tryAhead_4 : decode cX11_tryAhead 4 = .ok (.aload_n 0, 1) := by decide +kernel
theorem dX11_tryAhead_5 : decode cX11_tryAhead 5 = .ok (.getfield 35, 3) := by decide +kernel
theorem dX11_tryAhead_8 : decode cX11_tryAhead 8 = .ok (.getfield 71, 3) := by decide +kernel
theorem dX11_tryAhead_11 : decode cX11_tryAhead 11 = .ok (.invokevirtual 353, 3) := by decide +kernel
theorem dX11_tryAhead_14 : decode cX11_tryAhead 14 = .ok (.iconst 0, 1) := by decide +kernel
theorem dX11_tryAhead_15 : decode cX11_tryAhead 15 = .ok (.istore_n 2, 1) := by decide +kernel
theorem dX11_tryAhead_16 : decode cX11_tryAhead 16 = .ok (.iload_n 2, 1) := by decide +kernel
theorem dX11_tryAhead_17 : decode cX11_tryAhead 17 = .ok (.iload_n 1, 1) := by decide +kernel
theorem dX11_tryAhead_18 : decode cX11_tryAhead 18 = .ok (.if_icmp .ge 25, 3) := by decide +kernel
theorem dX11_tryAhead_21 : decode cX11_tryAhead 21 = .ok (.aload_n 0, 1) := by decide +kernel
theorem dX11_tryAhead_22 : decode cX11_tryAhead 22 = .ok (.getfield 98, 3) := by decide +kernel
theorem dX11_tryAhead_25 : decode cX11_tryAhead 25 = .ok (.iconst 0, 1) := by decide +kernel
theorem dX11_tryAhead_26 : decode cX11_tryAhead 26 = .ok (.aload_n 0, 1) := by decide +kernel
theorem dX11_tryAhead_27 : decode cX11_tryAhead 27 = .ok (.getfield 56, 3) := by decide +kernel
theorem dX11_tryAhead_30 : decode cX11_tryAhead 30 = .ok (.aload_n 0, 1) := by decide +kernel
theorem dX11_tryAhead_31 : decode cX11_tryAhead 31 = .ok (.getfield 101, 3) := by decide +kernel
theorem dX11_tryAhead_34 : decode cX11_tryAhead 34 = .ok (.invokevirtual 230, 3) := by decide +kernel
theorem dX11_tryAhead_37 : decode cX11_tryAhead 37 = .ok (.iinc 2 1, 3) := by decide +kernel
theorem dX11_tryAhead_40 : decode cX11_tryAhead 40 = .ok (.goto (-24), 3) := by decide +kernel
theorem dX11_tryAhead_43 : decode cX11_tryAhead 43 = .ok (.return_, 1) := by decide +kernel
theorem dX11_tieBest_0 : decode cX11_tieBest 0 = .ok (.aload_n 0, 1) := by decide +kernel
theorem dX11_tieBest_1 : decode cX11_tieBest 1 = .ok (.getfield 35, 3) := by decide +kernel
theorem dX11_tieBest_4 : decode cX11_tieBest 4 = .ok (.getfield 71, 3) := by decide +kernel
theorem dX11_tieBest_7 : decode cX11_tieBest 7 = .ok (.astore_n 3, 1) := by decide +kernel
theorem dX11_tieBest_8 : decode cX11_tieBest 8 = .ok (.aload_n 0, 1) := by decide +kernel
theorem dX11_tieBest_9 : decode cX11_tieBest 9 = .ok (.getfield 56, 3) := by decide +kernel
theorem dX11_tieBest_12 : decode cX11_tieBest 12 = .ok (.aload_n 3, 1) := by decide +kernel
theorem dX11_tieBest_13 : decode cX11_tieBest 13 = .ok (.iconst 0, 1) := by decide +kernel
theorem dX11_tieBest_14 : decode cX11_tieBest 14 = .ok (.invokevirtual 182, 3) := by decide +kernel
theorem dX11_tieBest_17 : decode cX11_tieBest 17 = .ok (.lconst 0, 1) := by decide +kernel
theorem dX11_tieBest_18 : decode cX11_tieBest 18 = .ok (.lstore 4, 2) := by decide +kernel
theorem dX11_tieBest_20 : decode cX11_tieBest 20 = .ok (.iconst 0, 1) := by decide +kernel
theorem dX11_tieBest_21 : decode cX11_tieBest 21 = .ok (.istore 6, 2) := by decide +kernel
theorem dX11_tieBest_23 : decode cX11_tieBest 23 = .ok (.iconst 0, 1) := by decide +kernel
theorem dX11_tieBest_24 : decode cX11_tieBest 24 = .ok (.istore 7, 2) := by decide +kernel
theorem dX11_tieBest_26 : decode cX11_tieBest 26 = .ok (.iconst 0, 1) := by decide +kernel
theorem dX11_tieBest_27 : decode cX11_tieBest 27 = .ok (.istore 8, 2) := by decide +kernel
theorem dX11_tieBest_29 : decode cX11_tieBest 29 = .ok (.iload 8, 2) := by decide +kernel
theorem dX11_tieBest_31 : decode cX11_tieBest 31 = .ok (.aload_n 0, 1) := by decide +kernel
theorem dX11_tieBest_32 : decode cX11_tieBest 32 = .ok (.getfield 35, 3) := by decide +kernel
theorem dX11_tieBest_35 : decode cX11_tieBest 35 = .ok (.getfield 91, 3) := by decide +kernel
theorem dX11_tieBest_38 : decode cX11_tieBest 38 = .ok (.getfield 127, 3) := by decide +kernel
theorem dX11_tieBest_41 : decode cX11_tieBest 41 = .ok (.if_icmp .ge 103, 3) := by decide +kernel
theorem dX11_tieBest_44 : decode cX11_tieBest 44 = .ok (.iload 8, 2) := by decide +kernel
theorem dX11_tieBest_46 : decode cX11_tieBest 46 = .ok (.iconst 1, 1) := by decide +kernel
theorem dX11_tieBest_47 : decode cX11_tieBest 47 = .ok (.iadd, 1) := by decide +kernel
theorem dX11_tieBest_48 : decode cX11_tieBest 48 = .ok (.istore 9, 2) := by decide +kernel
theorem dX11_tieBest_50 : decode cX11_tieBest 50 = .ok (.iload 9, 2) := by decide +kernel
theorem dX11_tieBest_52 : decode cX11_tieBest 52 = .ok (.aload_n 0, 1) := by decide +kernel
theorem dX11_tieBest_53 : decode cX11_tieBest 53 = .ok (.getfield 35, 3) := by decide +kernel
theorem dX11_tieBest_56 : decode cX11_tieBest 56 = .ok (.getfield 91, 3) := by decide +kernel
theorem dX11_tieBest_59 : decode cX11_tieBest 59 = .ok (.getfield 127, 3) := by decide +kernel
theorem dX11_tieBest_62 : decode cX11_tieBest 62 = .ok (.if_icmp .ge 76, 3) := by decide +kernel
theorem dX11_tieBest_65 : decode cX11_tieBest 65 = .ok (.aload_n 0, 1) := by decide +kernel
theorem dX11_tieBest_66 : decode cX11_tieBest 66 = .ok (.iload 8, 2) := by decide +kernel
theorem dX11_tieBest_68 : decode cX11_tieBest 68 = .ok (.invokevirtual 209, 3) := by decide +kernel
theorem dX11_tieBest_71 : decode cX11_tieBest 71 = .ok (.ifCond .eq 61, 3) := by decide +kernel
theorem dX11_tieBest_74 : decode cX11_tieBest 74 = .ok (.aload_n 0, 1) := by decide +kernel
theorem dX11_tieBest_75 : decode cX11_tieBest 75 = .ok (.iload 9, 2) := by decide +kernel
theorem dX11_tieBest_77 : decode cX11_tieBest 77 = .ok (.invokevirtual 209, 3) := by decide +kernel
theorem dX11_tieBest_80 : decode cX11_tieBest 80 = .ok (.ifCond .eq 52, 3) := by decide +kernel
theorem dX11_tieBest_83 : decode cX11_tieBest 83 = .ok (.aload_n 3, 1) := by decide +kernel
theorem dX11_tieBest_84 : decode cX11_tieBest 84 = .ok (.iload 8, 2) := by decide +kernel
theorem dX11_tieBest_86 : decode cX11_tieBest 86 = .ok (.iload 9, 2) := by decide +kernel
theorem dX11_tieBest_88 : decode cX11_tieBest 88 = .ok (.invokevirtual 237, 3) := by decide +kernel
theorem dX11_tieBest_91 : decode cX11_tieBest 91 = .ok (.ifCond .eq 6, 3) := by decide +kernel
theorem dX11_tieBest_94 : decode cX11_tieBest 94 = .ok (.goto 38, 3) := by decide +kernel
theorem dX11_tieBest_97 : decode cX11_tieBest 97 = .ok (.aload_n 1, 1) := by decide +kernel
theorem dX11_tieBest_98 : decode cX11_tieBest 98 = .ok (.aload_n 3, 1) := by decide +kernel
theorem dX11_tieBest_99 : decode cX11_tieBest 99 = .ok (.aload_n 0, 1) := by decide +kernel
theorem dX11_tieBest_100 : decode cX11_tieBest 100 = .ok (.getfield 56, 3) := by decide +kernel
theorem dX11_tieBest_103 : decode cX11_tieBest 103 = .ok (.iload 8, 2) := by decide +kernel
theorem dX11_tieBest_105 : decode cX11_tieBest 105 = .ok (.iload 9, 2) := by decide +kernel
theorem dX11_tieBest_107 : decode cX11_tieBest 107 = .ok (.invokevirtual 380, 3) := by decide +kernel
theorem dX11_tieBest_110 : decode cX11_tieBest 110 = .ok (.lstore 10, 2) := by decide +kernel
theorem dX11_tieBest_112 : decode cX11_tieBest 112 = .ok (.lload 10, 2) := by decide +kernel
theorem dX11_tieBest_114 : decode cX11_tieBest 114 = .ok (.lload 4, 2) := by decide +kernel
theorem dX11_tieBest_116 : decode cX11_tieBest 116 = .ok (.lcmp, 1) := by decide +kernel
theorem dX11_tieBest_117 : decode cX11_tieBest 117 = .ok (.ifCond .le 15, 3) := by decide +kernel
theorem dX11_tieBest_120 : decode cX11_tieBest 120 = .ok (.lload 10, 2) := by decide +kernel
theorem dX11_tieBest_122 : decode cX11_tieBest 122 = .ok (.lstore 4, 2) := by decide +kernel
theorem dX11_tieBest_124 : decode cX11_tieBest 124 = .ok (.iload 8, 2) := by decide +kernel
theorem dX11_tieBest_126 : decode cX11_tieBest 126 = .ok (.istore 6, 2) := by decide +kernel
theorem dX11_tieBest_128 : decode cX11_tieBest 128 = .ok (.iload 9, 2) := by decide +kernel
theorem dX11_tieBest_130 : decode cX11_tieBest 130 = .ok (.istore 7, 2) := by decide +kernel
theorem dX11_tieBest_132 : decode cX11_tieBest 132 = .ok (.iinc 9 1, 3) := by decide +kernel
theorem dX11_tieBest_135 : decode cX11_tieBest 135 = .ok (.goto (-85), 3) := by decide +kernel
theorem dX11_tieBest_138 : decode cX11_tieBest 138 = .ok (.iinc 8 1, 3) := by decide +kernel
theorem dX11_tieBest_141 : decode cX11_tieBest 141 = .ok (.goto (-112), 3) := by decide +kernel
theorem dX11_tieBest_144 : decode cX11_tieBest 144 = .ok (.lload 4, 2) := by decide +kernel
theorem dX11_tieBest_146 : decode cX11_tieBest 146 = .ok (.lconst 0, 1) := by decide +kernel
theorem dX11_tieBest_147 : decode cX11_tieBest 147 = .ok (.lcmp, 1) := by decide +kernel
theorem dX11_tieBest_148 : decode cX11_tieBest 148 = .ok (.ifCond .le 12, 3) := by decide +kernel
theorem dX11_tieBest_151 : decode cX11_tieBest 151 = .ok (.aload_n 3, 1) := by decide +kernel
theorem dX11_tieBest_152 : decode cX11_tieBest 152 = .ok (.iload 6, 2) := by decide +kernel
theorem dX11_tieBest_154 : decode cX11_tieBest 154 = .ok (.iload 7, 2) := by decide +kernel
theorem dX11_tieBest_156 : decode cX11_tieBest 156 = .ok (.iload_n 2, 1) := by decide +kernel
theorem dX11_tieBest_157 : decode cX11_tieBest 157 = .ok (.invokevirtual 244, 3) := by decide +kernel
theorem dX11_tieBest_160 : decode cX11_tieBest 160 = .ok (.return_, 1) := by decide +kernel
theorem dX12_init_0 : decode cX12_init 0 = .ok (.aload_n 0, 1) := by decide +kernel
theorem dX12_init_1 : decode cX12_init 1 = .ok (.invokespecial 3, 3) := by decide +kernel
theorem dX12_init_4 : decode cX12_init 4 = .ok (.aload_n 0, 1) := by decide +kernel
theorem dX12_init_5 : decode cX12_init 5 = .ok (.bipush 9, 2) := by decide +kernel
theorem dX12_init_7 : decode cX12_init 7 = .ok (.newarray .int, 2) := by decide +kernel
theorem dX12_init_9 : decode cX12_init 9 = .ok (.putfield 9, 3) := by decide +kernel
theorem dX12_init_12 : decode cX12_init 12 = .ok (.aload_n 0, 1) := by decide +kernel
theorem dX12_init_13 : decode cX12_init 13 = .ok (.bipush 6, 2) := by decide +kernel
theorem dX12_init_15 : decode cX12_init 15 = .ok (.newarray .int, 2) := by decide +kernel
theorem dX12_init_17 : decode cX12_init 17 = .ok (.putfield 13, 3) := by decide +kernel
theorem dX12_init_20 : decode cX12_init 20 = .ok (.aload_n 0, 1) := by decide +kernel
theorem dX12_init_21 : decode cX12_init 21 = .ok (.bipush 6, 2) := by decide +kernel
theorem dX12_init_23 : decode cX12_init 23 = .ok (.newarray .int, 2) := by decide +kernel
theorem dX12_init_25 : decode cX12_init 25 = .ok (.putfield 16, 3) := by decide +kernel
theorem dX12_init_28 : decode cX12_init 28 = .ok (.aload_n 0, 1) := by decide +kernel
theorem dX12_init_29 : decode cX12_init 29 = .ok (.bipush 6, 2) := by decide +kernel
theorem dX12_init_31 : decode cX12_init 31 = .ok (.newarray .int, 2) := by decide +kernel
theorem dX12_init_33 : decode cX12_init 33 = .ok (.putfield 19, 3) := by decide +kernel
theorem dX12_init_36 : decode cX12_init 36 = .ok (.aload_n 0, 1) := by decide +kernel
theorem dX12_init_37 : decode cX12_init 37 = .ok (.bipush 8, 2) := by decide +kernel
theorem dX12_init_39 : decode cX12_init 39 = .ok (.newarray .int, 2) := by decide +kernel
theorem dX12_init_41 : decode cX12_init 41 = .ok (.putfield 22, 3) := by decide +kernel
theorem dX12_init_44 : decode cX12_init 44 = .ok (.aload_n 0, 1) := by decide +kernel
theorem dX12_init_45 : decode cX12_init 45 = .ok (.bipush 8, 2) := by decide +kernel
theorem dX12_init_47 : decode cX12_init 47 = .ok (.newarray .int, 2) := by decide +kernel
theorem dX12_init_49 : decode cX12_init 49 = .ok (.putfield 25, 3) := by decide +kernel
theorem dX12_init_52 : decode cX12_init 52 = .ok (.aload_n 0, 1) := by decide +kernel
theorem dX12_init_53 : decode cX12_init 53 = .ok (.bipush 8, 2) := by decide +kernel
theorem dX12_init_55 : decode cX12_init 55 = .ok (.newarray .int, 2) := by decide +kernel
theorem dX12_init_57 : decode cX12_init 57 = .ok (.putfield 28, 3) := by decide +kernel
theorem dX12_init_60 : decode cX12_init 60 = .ok (.aload_n 0, 1) := by decide +kernel
theorem dX12_init_61 : decode cX12_init 61 = .ok (.bipush 8, 2) := by decide +kernel
theorem dX12_init_63 : decode cX12_init 63 = .ok (.newarray .int, 2) := by decide +kernel
theorem dX12_init_65 : decode cX12_init 65 = .ok (.putfield 31, 3) := by decide +kernel
theorem dX12_init_68 : decode cX12_init 68 = .ok (.aload_n 0, 1) := by decide +kernel
theorem dX12_init_69 : decode cX12_init 69 = .ok (.bipush 8, 2) := by decide +kernel
theorem dX12_init_71 : decode cX12_init 71 = .ok (.newarray .int, 2) := by decide +kernel
theorem dX12_init_73 : decode cX12_init 73 = .ok (.putfield 34, 3) := by decide +kernel
theorem dX12_init_76 : decode cX12_init 76 = .ok (.aload_n 0, 1) := by decide +kernel
theorem dX12_init_77 : decode cX12_init 77 = .ok (.bipush 8, 2) := by decide +kernel
theorem dX12_init_79 : decode cX12_init 79 = .ok (.newarray .int, 2) := by decide +kernel
theorem dX12_init_81 : decode cX12_init 81 = .ok (.putfield 37, 3) := by decide +kernel
theorem dX12_init_84 : decode cX12_init 84 = .ok (.aload_n 0, 1) := by decide +kernel
theorem dX12_init_85 : decode cX12_init 85 = .ok (.bipush 12, 2) := by decide +kernel
theorem dX12_init_87 : decode cX12_init 87 = .ok (.newarray .int, 2) := by decide +kernel
theorem dX12_init_89 : decode cX12_init 89 = .ok (.putfield 40, 3) := by decide +kernel
theorem dX12_init_92 : decode cX12_init 92 = .ok (.aload_n 0, 1) := by decide +kernel
theorem dX12_init_93 : decode cX12_init 93 = .ok (.bipush 12, 2) := by decide +kernel
theorem dX12_init_95 : decode cX12_init 95 = .ok (.newarray .int, 2) := by decide +kernel
theorem dX12_init_97 : decode cX12_init 97 = .ok (.putfield 43, 3) := by decide +kernel
theorem dX12_init_100 : decode cX12_init 100 = .ok (.aload_n 0, 1) := by decide +kernel
theorem dX12_init_101 : decode cX12_init 101 = .ok (.bipush 12, 2) := by decide +kernel
theorem dX12_init_103 : decode cX12_init 103 = .ok (.newarray .int, 2) := by decide +kernel
theorem dX12_init_105 : decode cX12_init 105 = .ok (.putfield 46, 3) := by decide +kernel
theorem dX12_init_108 : decode cX12_init 108 = .ok (.aload_n 0, 1) := by decide +kernel
theorem dX12_init_109 : decode cX12_init 109 = .ok (.bipush 6, 2) := by decide +kernel
theorem dX12_init_111 : decode cX12_init 111 = .ok (.newarray .int, 2) := by decide +kernel
theorem dX12_init_113 : decode cX12_init 113 = .ok (.putfield 49, 3) := by decide +kernel
theorem dX12_init_116 : decode cX12_init 116 = .ok (.aload_n 0, 1) := by decide +kernel
theorem dX12_init_117 : decode cX12_init 117 = .ok (.bipush 6, 2) := by decide +kernel
theorem dX12_init_119 : decode cX12_init 119 = .ok (.newarray .int, 2) := by decide +kernel
theorem dX12_init_121 : decode cX12_init 121 = .ok (.putfield 52, 3) := by decide +kernel
theorem dX12_init_124 : decode cX12_init 124 = .ok (.aload_n 0, 1) := by decide +kernel
theorem dX12_init_125 : decode cX12_init 125 = .ok (.bipush 6, 2) := by decide +kernel
theorem dX12_init_127 : decode cX12_init 127 = .ok (.newarray .int, 2) := by decide +kernel
theorem dX12_init_129 : decode cX12_init 129 = .ok (.putfield 55, 3) := by decide +kernel
theorem dX12_init_132 : decode cX12_init 132 = .ok (.aload_n 0, 1) := by decide +kernel
theorem dX12_init_133 : decode cX12_init 133 = .ok (.bipush 6, 2) := by decide +kernel
theorem dX12_init_135 : decode cX12_init 135 = .ok (.newarray .int, 2) := by decide +kernel
theorem dX12_init_137 : decode cX12_init 137 = .ok (.putfield 58, 3) := by decide +kernel
theorem dX12_init_140 : decode cX12_init 140 = .ok (.aload_n 0, 1) := by decide +kernel
theorem dX12_init_141 : decode cX12_init 141 = .ok (.bipush 6, 2) := by decide +kernel
theorem dX12_init_143 : decode cX12_init 143 = .ok (.newarray .int, 2) := by decide +kernel
theorem dX12_init_145 : decode cX12_init 145 = .ok (.putfield 61, 3) := by decide +kernel
theorem dX12_init_148 : decode cX12_init 148 = .ok (.aload_n 0, 1) := by decide +kernel
theorem dX12_init_149 : decode cX12_init 149 = .ok (.bipush 6, 2) := by decide +kernel
theorem dX12_init_151 : decode cX12_init 151 = .ok (.newarray .int, 2) := by decide +kernel
theorem dX12_init_153 : decode cX12_init 153 = .ok (.putfield 64, 3) := by decide +kernel
theorem dX12_init_156 : decode cX12_init 156 = .ok (.aload_n 0, 1) := by decide +kernel
theorem dX12_init_157 : decode cX12_init 157 = .ok (.bipush 6, 2) := by decide +kernel
theorem dX12_init_159 : decode cX12_init 159 = .ok (.newarray .int, 2) := by decide +kernel
theorem dX12_init_161 : decode cX12_init 161 = .ok (.putfield 67, 3) := by decide +kernel
theorem dX12_init_164 : decode cX12_init 164 = .ok (.aload_n 0, 1) := by decide +kernel
theorem dX12_init_165 : decode cX12_init 165 = .ok (.bipush 6, 2) := by decide +kernel
theorem dX12_init_167 : decode cX12_init 167 = .ok (.newarray .int, 2) := by decide +kernel
theorem dX12_init_169 : decode cX12_init 169 = .ok (.putfield 70, 3) := by decide +kernel
theorem dX12_init_172 : decode cX12_init 172 = .ok (.aload_n 0, 1) := by decide +kernel
theorem dX12_init_173 : decode cX12_init 173 = .ok (.bipush 8, 2) := by decide +kernel
theorem dX12_init_175 : decode cX12_init 175 = .ok (.newarray .int, 2) := by decide +kernel
theorem dX12_init_177 : decode cX12_init 177 = .ok (.putfield 73, 3) := by decide +kernel
theorem dX12_init_180 : decode cX12_init 180 = .ok (.aload_n 0, 1) := by decide +kernel
theorem dX12_init_181 : decode cX12_init 181 = .ok (.bipush 8, 2) := by decide +kernel
theorem dX12_init_183 : decode cX12_init 183 = .ok (.newarray .int, 2) := by decide +kernel
theorem dX12_init_185 : decode cX12_init 185 = .ok (.putfield 76, 3) := by decide +kernel
theorem dX12_init_188 : decode cX12_init 188 = .ok (.aload_n 0, 1) := by decide +kernel
theorem dX12_init_189 : decode cX12_init 189 = .ok (.bipush 8, 2) := by decide +kernel
theorem dX12_init_191 : decode cX12_init 191 = .ok (.newarray .int, 2) := by decide +kernel
theorem dX12_init_193 : decode cX12_init 193 = .ok (.putfield 79, 3) := by decide +kernel
theorem dX12_init_196 : decode cX12_init 196 = .ok (.aload_n 0, 1) := by decide +kernel
theorem dX12_init_197 : decode cX12_init 197 = .ok (.bipush 8, 2) := by decide +kernel
theorem dX12_init_199 : decode cX12_init 199 = .ok (.newarray .int, 2) := by decide +kernel
theorem dX12_init_201 : decode cX12_init 201 = .ok (.putfield 82, 3) := by decide +kernel
theorem dX12_init_204 : decode cX12_init 204 = .ok (.aload_n 0, 1) := by decide +kernel
theorem dX12_init_205 : decode cX12_init 205 = .ok (.bipush 12, 2) := by decide +kernel
theorem dX12_init_207 : decode cX12_init 207 = .ok (.newarray .int, 2) := by decide +kernel
theorem dX12_init_209 : decode cX12_init 209 = .ok (.putfield 85, 3) := by decide +kernel
theorem dX12_init_212 : decode cX12_init 212 = .ok (.aload_n 0, 1) := by decide +kernel
theorem dX12_init_213 : decode cX12_init 213 = .ok (.bipush 12, 2) := by decide +kernel
theorem dX12_init_215 : decode cX12_init 215 = .ok (.newarray .int, 2) := by decide +kernel
theorem dX12_init_217 : decode cX12_init 217 = .ok (.putfield 88, 3) := by decide +kernel
theorem dX12_init_220 : decode cX12_init 220 = .ok (.aload_n 0, 1) := by decide +kernel
theorem dX12_init_221 : decode cX12_init 221 = .ok (.bipush 12, 2) := by decide +kernel
theorem dX12_init_223 : decode cX12_init 223 = .ok (.newarray .int, 2) := by decide +kernel
theorem dX12_init_225 : decode cX12_init 225 = .ok (.putfield 91, 3) := by decide +kernel
theorem dX12_init_228 : decode cX12_init 228 = .ok (.aload_n 0, 1) := by decide +kernel
theorem dX12_init_229 : decode cX12_init 229 = .ok (.bipush 6, 2) := by decide +kernel
theorem dX12_init_231 : decode cX12_init 231 = .ok (.newarray .int, 2) := by decide +kernel
theorem dX12_init_233 : decode cX12_init 233 = .ok (.putfield 94, 3) := by decide +kernel
theorem dX12_init_236 : decode cX12_init 236 = .ok (.aload_n 0, 1) := by decide +kernel
theorem dX12_init_237 : decode cX12_init 237 = .ok (.bipush 6, 2) := by decide +kernel
theorem dX12_init_239 : decode cX12_init 239 = .ok (.newarray .int, 2) := by decide +kernel
theorem dX12_init_241 : decode cX12_init 241 = .ok (.putfield 97, 3) := by decide +kernel
theorem dX12_init_244 : decode cX12_init 244 = .ok (.aload_n 0, 1) := by decide +kernel
theorem dX12_init_245 : decode cX12_init 245 = .ok (.bipush 12, 2) := by decide +kernel
theorem dX12_init_247 : decode cX12_init 247 = .ok (.putfield 100, 3) := by decide +kernel
theorem dX12_init_250 : decode cX12_init 250 = .ok (.aload_n 0, 1) := by decide +kernel
theorem dX12_init_251 : decode cX12_init 251 = .ok (.sipush 400, 3) := by decide +kernel
theorem dX12_init_254 : decode cX12_init 254 = .ok (.newarray .byte, 2) := by decide +kernel
theorem dX12_init_256 : decode cX12_init 256 = .ok (.putfield 104, 3) := by decide +kernel
theorem dX12_init_259 : decode cX12_init 259 = .ok (.aload_n 0, 1) := by decide +kernel
theorem dX12_init_260 : decode cX12_init 260 = .ok (.sipush 1800, 3) := by decide +kernel
theorem dX12_init_263 : decode cX12_init 263 = .ok (.newarray .int, 2) := by decide +kernel
theorem dX12_init_265 : decode cX12_init 265 = .ok (.putfield 108, 3) := by decide +kernel
theorem dX12_init_268 : decode cX12_init 268 = .ok (.aload_n 0, 1) := by decide +kernel
theorem dX12_init_269 : decode cX12_init 269 = .ok (.sipush 1800, 3) := by decide +kernel
theorem dX12_init_272 : decode cX12_init 272 = .ok (.newarray .int, 2) := by decide +kernel
theorem dX12_init_274 : decode cX12_init 274 = .ok (.putfield 111, 3) := by decide +kernel
theorem dX12_init_277 : decode cX12_init 277 = .ok (.aload_n 0, 1) := by decide +kernel
theorem dX12_init_278 : decode cX12_init 278 = .ok (.bipush 6, 2) := by decide +kernel
theorem dX12_init_280 : decode cX12_init 280 = .ok (.newarray .int, 2) := by decide +kernel
theorem dX12_init_282 : decode cX12_init 282 = .ok (.putfield 114, 3) := by decide +kernel
theorem dX12_init_285 : decode cX12_init 285 = .ok (.aload_n 0, 1) := by decide +kernel
theorem dX12_init_286 : decode cX12_init 286 = .ok (.bipush 72, 2) := by decide +kernel
theorem dX12_init_288 : decode cX12_init 288 = .ok (.newarray .int, 2) := by decide +kernel
theorem dX12_init_290 : decode cX12_init 290 = .ok (.putfield 117, 3) := by decide +kernel
theorem dX12_init_293 : decode cX12_init 293 = .ok (.aload_n 0, 1) := by decide +kernel
theorem dX12_init_294 : decode cX12_init 294 = .ok (.bipush 72, 2) := by decide +kernel
theorem dX12_init_296 : decode cX12_init 296 = .ok (.newarray .int, 2) := by decide +kernel
theorem dX12_init_298 : decode cX12_init 298 = .ok (.putfield 120, 3) := by decide +kernel
theorem dX12_init_301 : decode cX12_init 301 = .ok (.aload_n 0, 1) := by decide +kernel
theorem dX12_init_302 : decode cX12_init 302 = .ok (.bipush 72, 2) := by decide +kernel
theorem dX12_init_304 : decode cX12_init 304 = .ok (.newarray .int, 2) := by decide +kernel
theorem dX12_init_306 : decode cX12_init 306 = .ok (.putfield 123, 3) := by decide +kernel
theorem dX12_init_309 : decode cX12_init 309 = .ok (.aload_n 0, 1) := by decide +kernel
theorem dX12_init_310 : decode cX12_init 310 = .ok (.sipush 402, 3) := by decide +kernel
theorem dX12_init_313 : decode cX12_init 313 = .ok (.newarray .int, 2) := by decide +kernel
theorem dX12_init_315 : decode cX12_init 315 = .ok (.putfield 126, 3) := by decide +kernel
theorem dX12_init_318 : decode cX12_init 318 = .ok (.aload_n 0, 1) := by decide +kernel
theorem dX12_init_319 : decode cX12_init 319 = .ok (.bipush 12, 2) := by decide +kernel
theorem dX12_init_321 : decode cX12_init 321 = .ok (.newarray .long, 2) := by decide +kernel
theorem dX12_init_323 : decode cX12_init 323 = .ok (.putfield 129, 3) := by decide +kernel
theorem dX12_init_326 : decode cX12_init 326 = .ok (.aload_n 0, 1) := by decide +kernel
theorem dX12_init_327 : decode cX12_init 327 = .ok (.sipush 300, 3) := by decide +kernel
theorem dX12_init_330 : decode cX12_init 330 = .ok (.newarray .long, 2) := by decide +kernel
theorem dX12_init_332 : decode cX12_init 332 = .ok (.putfield 133, 3) := by decide +kernel
theorem dX12_init_335 : decode cX12_init 335 = .ok (.aload_n 0, 1) := by decide +kernel
theorem dX12_init_336 : decode cX12_init 336 = .ok (.sipush 1540, 3) := by decide +kernel
theorem dX12_init_339 : decode cX12_init 339 = .ok (.newarray .int, 2) := by decide +kernel
theorem dX12_init_341 : decode cX12_init 341 = .ok (.putfield 136, 3) := by decide +kernel
theorem dX12_init_344 : decode cX12_init 344 = .ok (.aload_n 0, 1) := by decide +kernel
theorem dX12_init_345 : decode cX12_init 345 = .ok (.iconst 1, 1) := by decide +kernel
theorem dX12_init_346 : decode cX12_init 346 = .ok (.newarray .int, 2) := by decide +kernel
theorem dX12_init_348 : decode cX12_init 348 = .ok (.putfield 139, 3) := by decide +kernel
theorem dX12_init_351 : decode cX12_init 351 = .ok (.aload_n 0, 1) := by decide +kernel
theorem dX12_init_352 : decode cX12_init 352 = .ok (.bipush 9, 2) := by decide +kernel
theorem dX12_init_354 : decode cX12_init 354 = .ok (.newarray .int, 2) := by decide +kernel
theorem dX12_init_356 : decode cX12_init 356 = .ok (.putfield 142, 3) := by decide +kernel
theorem dX12_init_359 : decode cX12_init 359 = .ok (.aload_n 0, 1) := by decide +kernel
theorem dX12_init_360 : decode cX12_init 360 = .ok (.bipush 8, 2) := by decide +kernel
theorem dX12_init_362 : decode cX12_init 362 = .ok (.newarray .int, 2) := by decide +kernel
theorem dX12_init_364 : decode cX12_init 364 = .ok (.putfield 145, 3) := by decide +kernel
theorem dX12_init_367 : decode cX12_init 367 = .ok (.aload_n 0, 1) := by decide +kernel
theorem dX12_init_368 : decode cX12_init 368 = .ok (.bipush 7, 2) := by decide +kernel
theorem dX12_init_370 : decode cX12_init 370 = .ok (.newarray .int, 2) := by decide +kernel
theorem dX12_init_372 : decode cX12_init 372 = .ok (.putfield 148, 3) := by decide +kernel
theorem dX12_init_375 : decode cX12_init 375 = .ok (.aload_n 0, 1) := by decide +kernel
theorem dX12_init_376 : decode cX12_init 376 = .ok (.bipush 9, 2) := by decide +kernel
theorem dX12_init_378 : decode cX12_init 378 = .ok (.newarray .int, 2) := by decide +kernel
theorem dX12_init_380 : decode cX12_init 380 = .ok (.putfield 151, 3) := by decide +kernel
theorem dX12_init_383 : decode cX12_init 383 = .ok (.aload_n 0, 1) := by decide +kernel
theorem dX12_init_384 : decode cX12_init 384 = .ok (.bipush 8, 2) := by decide +kernel
theorem dX12_init_386 : decode cX12_init 386 = .ok (.newarray .int, 2) := by decide +kernel
theorem dX12_init_388 : decode cX12_init 388 = .ok (.putfield 154, 3) := by decide +kernel
theorem dX12_init_391 : decode cX12_init 391 = .ok (.aload_n 0, 1) := by decide +kernel
theorem dX12_init_392 : decode cX12_init 392 = .ok (.bipush 8, 2) := by decide +kernel
theorem dX12_init_394 : decode cX12_init 394 = .ok (.newarray .int, 2) := by decide +kernel
theorem dX12_init_396 : decode cX12_init 396 = .ok (.putfield 157, 3) := by decide +kernel
theorem dX12_init_399 : decode cX12_init 399 = .ok (.aload_n 0, 1) := by decide +kernel
theorem dX12_init_400 : decode cX12_init 400 = .ok (.bipush 8, 2) := by decide +kernel
theorem dX12_init_402 : decode cX12_init 402 = .ok (.newarray .int, 2) := by decide +kernel
theorem dX12_init_404 : decode cX12_init 404 = .ok (.putfield 160, 3) := by decide +kernel
theorem dX12_init_407 : decode cX12_init 407 = .ok (.aload_n 0, 1) := by decide +kernel
theorem dX12_init_408 : decode cX12_init 408 = .ok (.sipush 256, 3) := by decide +kernel
theorem dX12_init_411 : decode cX12_init 411 = .ok (.newarray .boolean, 2) := by decide +kernel
theorem dX12_init_413 : decode cX12_init 413 = .ok (.putfield 163, 3) := by decide +kernel
theorem dX12_init_416 : decode cX12_init 416 = .ok (.aload_n 0, 1) := by decide +kernel
theorem dX12_init_417 : decode cX12_init 417 = .ok (.sipush 9500, 3) := by decide +kernel
theorem dX12_init_420 : decode cX12_init 420 = .ok (.newarray .int, 2) := by decide +kernel
theorem dX12_init_422 : decode cX12_init 422 = .ok (.putfield 167, 3) := by decide +kernel
theorem dX12_init_425 : decode cX12_init 425 = .ok (.aload_n 0, 1) := by decide +kernel
theorem dX12_init_426 : decode cX12_init 426 = .ok (.iconst 4, 1) := by decide +kernel
theorem dX12_init_427 : decode cX12_init 427 = .ok (.newarray .boolean, 2) := by decide +kernel
theorem dX12_init_429 : decode cX12_init 429 = .ok (.putfield 170, 3) := by decide +kernel
theorem dX12_init_432 : decode cX12_init 432 = .ok (.return_, 1) := by decide +kernel
theorem dX12_in_0 : decode cX12_in 0 = .ok (.lload_n 0, 1) := by decide +kernel
theorem dX12_in_1 : decode cX12_in 1 = .ok (.lload_n 2, 1) := by decide +kernel
theorem dX12_in_2 : decode cX12_in 2 = .ok (.lcmp, 1) := by decide +kernel
theorem dX12_in_3 : decode cX12_in 3 = .ok (.ifCond .lt 14, 3) := by decide +kernel
theorem dX12_in_6 : decode cX12_in 6 = .ok (.lload_n 0, 1) := by decide +kernel
theorem dX12_in_7 : decode cX12_in 7 = .ok (.lload 4, 2) := by decide +kernel
theorem dX12_in_9 : decode cX12_in 9 = .ok (.lcmp, 1) := by decide +kernel
theorem dX12_in_10 : decode cX12_in 10 = .ok (.ifCond .gt 7, 3) := by decide +kernel
theorem dX12_in_13 : decode cX12_in 13 = .ok (.iconst 1, 1) := by decide +kernel
theorem dX12_in_14 : decode cX12_in 14 = .ok (.goto 4, 3) := by decide +kernel
theorem dX12_in_17 : decode cX12_in 17 = .ok (.iconst 0, 1) := by decide +kernel
theorem dX12_in_18 : decode cX12_in 18 = .ok (.ireturn, 1) := by decide +kernel
theorem dX12_bits_0 : decode cX12_bits 0 = .ok (.iconst 0, 1) := by decide +kernel
theorem dX12_bits_1 : decode cX12_bits 1 = .ok (.istore_n 1, 1) := by decide +kernel
theorem dX12_bits_2 : decode cX12_bits 2 = .ok (.iconst 0, 1) := by decide +kernel
theorem dX12_bits_3 : decode cX12_bits 3 = .ok (.istore_n 2, 1) := by decide +kernel
theorem dX12_bits_4 : decode cX12_bits 4 = .ok (.iload_n 2, 1) := by decide +kernel
theorem dX12_bits_5 : decode cX12_bits 5 = .ok (.bipush 16, 2) := by decide +kernel
theorem dX12_bits_7 : decode cX12_bits 7 = .ok (.if_icmp .ge 17, 3) := by decide +kernel
theorem dX12_bits_10 : decode cX12_bits 10 = .ok (.iload_n 1, 1) := by decide +kernel
theorem dX12_bits_11 : decode cX12_bits 11 = .ok (.iload_n 0, 1) := by decide +kernel
theorem dX12_bits_12 : decode cX12_bits 12 = .ok (.iload_n 2, 1) := by decide +kernel
theorem dX12_bits_13 : decode cX12_bits 13 = .ok (.ishr, 1) := by decide +kernel
theorem dX12_bits_14 : decode cX12_bits 14 = .ok (.iconst 1, 1) := by decide +kernel
theorem dX12_bits_15 : decode cX12_bits 15 = .ok (.iand, 1) := by decide +kernel
theorem dX12_bits_16 : decode cX12_bits 16 = .ok (.iadd, 1) := by decide +kernel
theorem dX12_bits_17 : decode cX12_bits 17 = .ok (.istore_n 1, 1) := by decide +kernel
theorem dX12_bits_18 : decode cX12_bits 18 = .ok (.iinc 2 1, 3) := by decide +kernel
theorem dX12_bits_21 : decode cX12_bits 21 = .ok (.goto (-17), 3) := by decide +kernel
theorem dX12_bits_24 : decode cX12_bits 24 = .ok (.iload_n 1, 1) := by decide +kernel
theorem dX12_bits_25 : decode cX12_bits 25 = .ok (.ireturn, 1) := by decide +kernel
theorem dX12_has_0 : decode cX12_has 0 = .ok (.iload_n 0, 1) := by decide +kernel
theorem dX12_has_1 : decode cX12_has 1 = .ok (.iload_n 1, 1) := by decide +kernel
theorem dX12_has_2 : decode cX12_has 2 = .ok (.ishr, 1) := by decide +kernel
theorem dX12_has_3 : decode cX12_has 3 = .ok (.iconst 1, 1) := by decide +kernel
theorem dX12_has_4 : decode cX12_has 4 = .ok (.iand, 1) := by decide +kernel
theorem dX12_has_5 : decode cX12_has 5 = .ok (.iconst 1, 1) := by decide +kernel
theorem dX12_has_6 : decode cX12_has 6 = .ok (.if_icmp .ne 7, 3) := by decide +kernel
theorem dX12_has_9 : decode cX12_has 9 = .ok (.iconst 1, 1) := by decide +kernel
theorem dX12_has_10 : decode cX12_has 10 = .ok (.goto 4, 3) := by decide +kernel
theorem dX12_has_13 : decode cX12_has 13 = .ok (.iconst 0, 1) := by decide +kernel
theorem dX12_has_14 : decode cX12_has 14 = .ok (.ireturn, 1) := by decide +kernel
theorem dX12_isRiver_0 : decode cX12_isRiver 0 = .ok (.aload_n 0, 1) := by decide +kernel
theorem dX12_isRiver_1 : decode cX12_isRiver 1 = .ok (.getfield 9, 3) := by decide +kernel
theorem dX12_isRiver_4 : decode cX12_isRiver 4 = .ok (.iconst 0, 1) := by decide +kernel
theorem dX12_isRiver_5 : decode cX12_isRiver 5 = .ok (.iaload, 1) := by decide +kernel
theorem dX12_isRiver_6 : decode cX12_isRiver 6 = .ok (.ifCond .le 7, 3) := by decide +kernel
theorem dX12_isRiver_9 : decode cX12_isRiver 9 = .ok (.iconst 1, 1) := by decide +kernel
theorem dX12_isRiver_10 : decode cX12_isRiver 10 = .ok (.goto 4, 3) := by decide +kernel
theorem dX12_isRiver_13 : decode cX12_isRiver 13 = .ok (.iconst 0, 1) := by decide +kernel
theorem dX12_isRiver_14 : decode cX12_isRiver 14 = .ok (.ireturn, 1) := by decide +kernel
theorem dX12_isOwner_0 : decode cX12_isOwner 0 = .ok (.iload_n 1, 1) := by decide +kernel
theorem dX12_isOwner_1 : decode cX12_isOwner 1 = .ok (.i2l, 1) := by decide +kernel
theorem dX12_isOwner_2 : decode cX12_isOwner 2 = .ok (.lconst 0, 1) := by decide +kernel
theorem dX12_isOwner_3 : decode cX12_isOwner 3 = .ok (.aload_n 0, 1) := by decide +kernel
theorem dX12_isOwner_4 : decode cX12_isOwner 4 = .ok (.getfield 9, 3) := by decide +kernel
theorem dX12_isOwner_7 : decode cX12_isOwner 7 = .ok (.iconst 2, 1) := by decide +kernel
theorem dX12_isOwner_8 : decode cX12_isOwner 8 = .ok (.iaload, 1) := by decide +kernel
theorem dX12_isOwner_9 : decode cX12_isOwner 9 = .ok (.iconst 1, 1) := by decide +kernel
theorem dX12_isOwner_10 : decode cX12_isOwner 10 = .ok (.isub, 1) := by decide +kernel
theorem dX12_isOwner_11 : decode cX12_isOwner 11 = .ok (.i2l, 1) := by decide +kernel
theorem dX12_isOwner_12 : decode cX12_isOwner 12 = .ok (.invokestatic 176, 3) := by decide +kernel
theorem dX12_isOwner_15 : decode cX12_isOwner 15 = .ok (.ireturn, 1) := by decide +kernel
theorem dX12_isThing_0 : decode cX12_isThing 0 = .ok (.iload_n 1, 1) := by decide +kernel
theorem dX12_isThing_1 : decode cX12_isThing 1 = .ok (.i2l, 1) := by decide +kernel
theorem dX12_isThing_2 : decode cX12_isThing 2 = .ok (.lconst 0, 1) := by decide +kernel
theorem dX12_isThing_3 : decode cX12_isThing 3 = .ok (.aload_n 0, 1) := by decide +kernel
theorem dX12_isThing_4 : decode cX12_isThing 4 = .ok (.getfield 9, 3) := by decide +kernel
theorem dX12_isThing_7 : decode cX12_isThing 7 = .ok (.iconst 3, 1) := by decide +kernel
theorem dX12_isThing_8 : decode cX12_isThing 8 = .ok (.iaload, 1) := by decide +kernel
theorem dX12_isThing_9 : decode cX12_isThing 9 = .ok (.iconst 1, 1) := by decide +kernel
theorem dX12_isThing_10 : decode cX12_isThing 10 = .ok (.isub, 1) := by decide +kernel
theorem dX12_isThing_11 : decode cX12_isThing 11 = .ok (.i2l, 1) := by decide +kernel
theorem dX12_isThing_12 : decode cX12_isThing 12 = .ok (.invokestatic 176, 3) := by decide +kernel
theorem dX12_isThing_15 : decode cX12_isThing 15 = .ok (.ireturn, 1) := by decide +kernel
theorem dX12_isAfloat_0 : decode cX12_isAfloat 0 = .ok (.aload_n 0, 1) := by decide +kernel
theorem dX12_isAfloat_1 : decode cX12_isAfloat 1 = .ok (.iload_n 1, 1) := by decide +kernel
theorem dX12_isAfloat_2 : decode cX12_isAfloat 2 = .ok (.invokevirtual 180, 3) := by decide +kernel
theorem dX12_isAfloat_5 : decode cX12_isAfloat 5 = .ok (.ifCond .eq 16, 3) := by decide +kernel
theorem dX12_isAfloat_8 : decode cX12_isAfloat 8 = .ok (.aload_n 0, 1) := by decide +kernel
theorem dX12_isAfloat_9 : decode cX12_isAfloat 9 = .ok (.getfield 34, 3) := by decide +kernel
theorem dX12_isAfloat_12 : decode cX12_isAfloat 12 = .ok (.iload_n 1, 1) := by decide +kernel
theorem dX12_isAfloat_13 : decode cX12_isAfloat 13 = .ok (.iaload, 1) := by decide +kernel
theorem dX12_isAfloat_14 : decode cX12_isAfloat 14 = .ok (.ifCond .ne 7, 3) := by decide +kernel
theorem dX12_isAfloat_17 : decode cX12_isAfloat 17 = .ok (.iconst 1, 1) := by decide +kernel
theorem dX12_isAfloat_18 : decode cX12_isAfloat 18 = .ok (.goto 4, 3) := by decide +kernel
theorem dX12_isAfloat_21 : decode cX12_isAfloat 21 = .ok (.iconst 0, 1) := by decide +kernel
theorem dX12_isAfloat_22 : decode cX12_isAfloat 22 = .ok (.ireturn, 1) := by decide +kernel
theorem dX12_isRope_0 : decode cX12_isRope 0 = .ok (.iload_n 1, 1) := by decide +kernel
theorem dX12_isRope_1 : decode cX12_isRope 1 = .ok (.i2l, 1) := by decide +kernel
theorem dX12_isRope_2 : decode cX12_isRope 2 = .ok (.lconst 0, 1) := by decide +kernel
theorem dX12_isRope_3 : decode cX12_isRope 3 = .ok (.aload_n 0, 1) := by decide +kernel
theorem dX12_isRope_4 : decode cX12_isRope 4 = .ok (.getfield 9, 3) := by decide +kernel
theorem dX12_isRope_7 : decode cX12_isRope 7 = .ok (.iconst 4, 1) := by decide +kernel
theorem dX12_isRope_8 : decode cX12_isRope 8 = .ok (.iaload, 1) := by decide +kernel
theorem dX12_isRope_9 : decode cX12_isRope 9 = .ok (.iconst 1, 1) := by decide +kernel
theorem dX12_isRope_10 : decode cX12_isRope 10 = .ok (.isub, 1) := by decide +kernel
theorem dX12_isRope_11 : decode cX12_isRope 11 = .ok (.i2l, 1) := by decide +kernel
theorem dX12_isRope_12 : decode cX12_isRope 12 = .ok (.invokestatic 176, 3) := by decide +kernel
theorem dX12_isRope_15 : decode cX12_isRope 15 = .ok (.ireturn, 1) := by decide +kernel
theorem dX12_milesLeft_0 : decode cX12_milesLeft 0 = .ok (.aload_n 0, 1) := by decide +kernel
theorem dX12_milesLeft_1 : decode cX12_milesLeft 1 = .ok (.getfield 9, 3) := by decide +kernel
theorem dX12_milesLeft_4 : decode cX12_milesLeft 4 = .ok (.iconst 0, 1) := by decide +kernel
theorem dX12_milesLeft_5 : decode cX12_milesLeft 5 = .ok (.iaload, 1) := by decide +kernel
theorem dX12_milesLeft_6 : decode cX12_milesLeft 6 = .ok (.aload_n 0, 1) := by decide +kernel
theorem dX12_milesLeft_7 : decode cX12_milesLeft 7 = .ok (.getfield 9, 3) := by decide +kernel
theorem dX12_milesLeft_10 : decode cX12_milesLeft 10 = .ok (.bipush 6, 2) := by decide +kernel
theorem dX12_milesLeft_12 : decode cX12_milesLeft 12 = .ok (.iaload, 1) := by decide +kernel
theorem dX12_milesLeft_13 : decode cX12_milesLeft 13 = .ok (.isub, 1) := by decide +kernel
theorem dX12_milesLeft_14 : decode cX12_milesLeft 14 = .ok (.ireturn, 1) := by decide +kernel
theorem dX12_feed_0 : decode cX12_feed 0 = .ok (.aload_n 0, 1) := by decide +kernel
theorem dX12_feed_1 : decode cX12_feed 1 = .ok (.getfield 184, 3) := by decide +kernel
theorem dX12_feed_4 : decode cX12_feed 4 = .ok (.bipush 20, 2) := by decide +kernel
theorem dX12_feed_6 : decode cX12_feed 6 = .ok (.iadd, 1) := by decide +kernel
theorem dX12_feed_7 : decode cX12_feed 7 = .ok (.sipush 400, 3) := by decide +kernel
theorem dX12_feed_10 : decode cX12_feed 10 = .ok (.if_icmp .le 5, 3) := by decide +kernel
theorem dX12_feed_13 : decode cX12_feed 13 = .ok (.iconst (-1), 1) := by decide +kernel
theorem dX12_feed_14 : decode cX12_feed 14 = .ok (.ireturn, 1) := by decide +kernel
theorem dX12_feed_15 : decode cX12_feed 15 = .ok (.aload_n 0, 1) := by decide +kernel
theorem dX12_feed_16 : decode cX12_feed 16 = .ok (.iload_n 1, 1) := by decide +kernel
theorem dX12_feed_17 : decode cX12_feed 17 = .ok (.invokevirtual 187, 3) := by decide +kernel
theorem dX12_feed_20 : decode cX12_feed 20 = .ok (.aload_n 0, 1) := by decide +kernel
theorem dX12_feed_21 : decode cX12_feed 21 = .ok (.iload_n 2, 1) := by decide +kernel
theorem dX12_feed_22 : decode cX12_feed 22 = .ok (.invokevirtual 187, 3) := by decide +kernel
theorem dX12_feed_25 : decode cX12_feed 25 = .ok (.aload_n 0, 1) := by decide +kernel
theorem dX12_feed_26 : decode cX12_feed 26 = .ok (.iload_n 3, 1) := by decide +kernel
theorem dX12_feed_27 : decode cX12_feed 27 = .ok (.invokevirtual 187, 3) := by decide +kernel
theorem dX12_feed_30 : decode cX12_feed 30 = .ok (.aload_n 0, 1) := by decide +kernel
theorem dX12_feed_31 : decode cX12_feed 31 = .ok (.iload 4, 2) := by decide +kernel
theorem dX12_feed_33 : decode cX12_feed 33 = .ok (.invokevirtual 187, 3) := by decide +kernel
theorem dX12_feed_36 : decode cX12_feed 36 = .ok (.aload_n 0, 1) := by decide +kernel
theorem dX12_feed_37 : decode cX12_feed 37 = .ok (.iload 5, 2) := by decide +kernel
theorem dX12_feed_39 : decode cX12_feed 39 = .ok (.invokevirtual 187, 3) := by decide +kernel
theorem dX12_feed_42 : decode cX12_feed 42 = .ok (.aload_n 0, 1) := by decide +kernel
theorem dX12_feed_43 : decode cX12_feed 43 = .ok (.getfield 184, 3) := by decide +kernel
theorem dX12_feed_46 : decode cX12_feed 46 = .ok (.ireturn, 1) := by decide +kernel
theorem dX12_put_0 : decode cX12_put 0 = .ok (.bipush 24, 2) := by decide +kernel
theorem dX12_put_2 : decode cX12_put 2 = .ok (.istore_n 2, 1) := by decide +kernel
theorem dX12_put_3 : decode cX12_put 3 = .ok (.iload_n 2, 1) := by decide +kernel
theorem dX12_put_4 : decode cX12_put 4 = .ok (.ifCond .lt 32, 3) := by decide +kernel
theorem dX12_put_7 : decode cX12_put 7 = .ok (.aload_n 0, 1) := by decide +kernel
theorem dX12_put_8 : decode cX12_put 8 = .ok (.getfield 104, 3) := by decide +kernel
theorem dX12_put_11 : decode cX12_put 11 = .ok (.aload_n 0, 1) := by decide +kernel
theorem dX12_put_12 : decode cX12_put 12 = .ok (.getfield 184, 3) := by decide +kernel
theorem dX12_put_15 : decode cX12_put 15 = .ok (.iload_n 1, 1) := by decide +kernel
theorem dX12_put_16 : decode cX12_put 16 = .ok (.iload_n 2, 1) := by decide +kernel
theorem dX12_put_17 : decode cX12_put 17 = .ok (.ishr, 1) := by decide +kernel
theorem dX12_put_18 : decode cX12_put 18 = .ok (.i2b, 1) := by decide +kernel
theorem dX12_put_19 : decode cX12_put 19 = .ok (.bastore, 1) := by decide +kernel
theorem dX12_put_20 : decode cX12_put 20 = .ok (.aload_n 0, 1) := by decide +kernel
theorem dX12_put_21 : decode cX12_put 21 = .ok (.dup, 1) := by decide +kernel
theorem dX12_put_22 : decode cX12_put 22 = .ok (.getfield 184, 3) := by decide +kernel
theorem dX12_put_25 : decode cX12_put 25 = .ok (.iconst 1, 1) := by decide +kernel
theorem dX12_put_26 : decode cX12_put 26 = .ok (.iadd, 1) := by decide +kernel
theorem dX12_put_27 : decode cX12_put 27 = .ok (.putfield 184, 3) := by decide +kernel
theorem dX12_put_30 : decode cX12_put 30 = .ok (.iinc 2 (-8), 3) := by decide +kernel
theorem dX12_put_33 : decode cX12_put 33 = .ok (.goto (-30), 3) := by decide +kernel
theorem dX12_put_36 : decode cX12_put 36 = .ok (.return_, 1) := by decide +kernel
theorem dX12_end_0 : decode cX12_end 0 = .ok (.iload_n 1, 1) := by decide +kernel
theorem dX12_end_1 : decode cX12_end 1 = .ok (.ifCond .lt 11, 3) := by decide +kernel
theorem dX12_end_4 : decode cX12_end 4 = .ok (.iload_n 1, 1) := by decide +kernel
theorem dX12_end_5 : decode cX12_end 5 = .ok (.aload_n 0, 1) := by decide +kernel
theorem dX12_end_6 : decode cX12_end 6 = .ok (.getfield 184, 3) := by decide +kernel
theorem dX12_end_9 : decode cX12_end 9 = .ok (.if_icmp .le 5, 3) := by decide +kernel
theorem dX12_end_12 : decode cX12_end 12 = .ok (.iconst (-1), 1) := by decide +kernel
theorem dX12_end_13 : decode cX12_end 13 = .ok (.ireturn, 1) := by decide +kernel
theorem dX12_end_14 : decode cX12_end 14 = .ok (.aload_n 0, 1) := by decide +kernel
theorem dX12_end_15 : decode cX12_end 15 = .ok (.iload_n 1, 1) := by decide +kernel
theorem dX12_end_16 : decode cX12_end 16 = .ok (.putfield 184, 3) := by decide +kernel
theorem dX12_end_19 : decode cX12_end 19 = .ok (.iload_n 1, 1) := by decide +kernel
theorem dX12_end_20 : decode cX12_end 20 = .ok (.ireturn, 1) := by decide +kernel
theorem dX12_wordOf_0 : decode cX12_wordOf 0 = .ok (.iload_n 0, 1) := by decide +kernel
theorem dX12_wordOf_1 : decode cX12_wordOf 1 = .ok (.tableswitch 92 0 10 #[59, 62, 65, 68, 71, 74, 77, 80, 83, 86, 89], 59) := by decide +kernel
theorem dX12_wordOf_60 : decode cX12_wordOf 60 = .ok (.ldc 191, 2) := by decide +kernel
theorem dX12_wordOf_62 : decode cX12_wordOf 62 = .ok (.areturn, 1) := by decide +kernel
theorem dX12_wordOf_63 : decode cX12_wordOf 63 = .ok (.ldc 193, 2) := by decide +kernel
theorem dX12_wordOf_65 : decode cX12_wordOf 65 = .ok (.areturn, 1) := by decide +kernel
theorem dX12_wordOf_66 : decode cX12_wordOf 66 = .ok (.ldc 195, 2) := by decide +kernel
theorem dX12_wordOf_68 : decode cX12_wordOf 68 = .ok (.areturn, 1) := by decide +kernel
theorem dX12_wordOf_69 : decode cX12_wordOf 69 = .ok (.ldc 197, 2) := by decide +kernel
theorem dX12_wordOf_71 : decode cX12_wordOf 71 = .ok (.areturn, 1) := by decide +kernel
theorem dX12_wordOf_72 : decode cX12_wordOf 72 = .ok (.ldc 198, 2) := by decide +kernel
theorem dX12_wordOf_74 : decode cX12_wordOf 74 = .ok (.areturn, 1) := by decide +kernel
theorem dX12_wordOf_75 : decode cX12_wordOf 75 = .ok (.ldc 199, 2) := by decide +kernel
theorem dX12_wordOf_77 : decode cX12_wordOf 77 = .ok (.areturn, 1) := by decide +kernel
theorem dX12_wordOf_78 : decode cX12_wordOf 78 = .ok (.ldc 201, 2) := by decide +kernel
theorem dX12_wordOf_80 : decode cX12_wordOf 80 = .ok (.areturn, 1) := by decide +kernel
theorem dX12_wordOf_81 : decode cX12_wordOf 81 = .ok (.ldc 203, 2) := by decide +kernel
theorem dX12_wordOf_83 : decode cX12_wordOf 83 = .ok (.areturn, 1) := by decide +kernel
theorem dX12_wordOf_84 : decode cX12_wordOf 84 = .ok (.ldc 205, 2) := by decide +kernel
theorem dX12_wordOf_86 : decode cX12_wordOf 86 = .ok (.areturn, 1) := by decide +kernel
theorem dX12_wordOf_87 : decode cX12_wordOf 87 = .ok (.ldc 207, 2) := by decide +kernel
theorem dX12_wordOf_89 : decode cX12_wordOf 89 = .ok (.areturn, 1) := by decide +kernel
theorem dX12_wordOf_90 : decode cX12_wordOf 90 = .ok (.ldc 209, 2) := by decide +kernel
theorem dX12_wordOf_92 : decode cX12_wordOf 92 = .ok (.areturn, 1) := by decide +kernel
theorem dX12_wordOf_93 : decode cX12_wordOf 93 = .ok (.ldc 210, 2) := by decide +kernel
theorem dX12_wordOf_95 : decode cX12_wordOf 95 = .ok (.areturn, 1) := by decide +kernel
theorem dX12_fails_0 : decode cX12_fails 0 = .ok (.aload_n 0, 1) := by decide +kernel
theorem dX12_fails_1 : decode cX12_fails 1 = .ok (.aload_n 0, 1) := by decide +kernel
theorem dX12_fails_2 : decode cX12_fails 2 = .ok (.getfield 212, 3) := by decide +kernel
theorem dX12_fails_5 : decode cX12_fails 5 = .ok (.ifCond .ne 14, 3) := by decide +kernel
theorem dX12_fails_8 : decode cX12_fails 8 = .ok (.iconst 1, 1) := by decide +kernel
theorem dX12_fails_9 : decode cX12_fails 9 = .ok (.bipush 8, 2) := by decide +kernel
theorem dX12_fails_11 : decode cX12_fails 11 = .ok (.iload_n 2, 1) := by decide +kernel
theorem dX12_fails_12 : decode cX12_fails 12 = .ok (.imul, 1) := by decide +kernel
theorem dX12_fails_13 : decode cX12_fails 13 = .ok (.iadd, 1) := by decide +kernel
theorem dX12_fails_14 : decode cX12_fails 14 = .ok (.iload_n 1, 1) := by decide +kernel
theorem dX12_fails_15 : decode cX12_fails 15 = .ok (.iadd, 1) := by decide +kernel
theorem dX12_fails_16 : decode cX12_fails 16 = .ok (.goto 7, 3) := by decide +kernel
theorem dX12_fails_19 : decode cX12_fails 19 = .ok (.aload_n 0, 1) := by decide +kernel
theorem dX12_fails_20 : decode cX12_fails 20 = .ok (.getfield 212, 3) := by decide +kernel
theorem dX12_fails_23 : decode cX12_fails 23 = .ok (.putfield 212, 3) := by decide +kernel
theorem dX12_fails_26 : decode cX12_fails 26 = .ok (.return_, 1) := by decide +kernel
theorem dX12_sign_0 : decode cX12_sign 0 = .ok (.aload_n 0, 1) := by decide +kernel
theorem dX12_sign_1 : decode cX12_sign 1 = .ok (.getfield 215, 3) := by decide +kernel
theorem dX12_sign_4 : decode cX12_sign 4 = .ok (.aload_n 0, 1) := by decide +kernel
theorem dX12_sign_5 : decode cX12_sign 5 = .ok (.getfield 184, 3) := by decide +kernel
theorem dX12_sign_8 : decode cX12_sign 8 = .ok (.if_icmp .ge 19, 3) := by decide +kernel
theorem dX12_sign_11 : decode cX12_sign 11 = .ok (.aload_n 0, 1) := by decide +kernel
theorem dX12_sign_12 : decode cX12_sign 12 = .ok (.getfield 104, 3) := by decide +kernel
theorem dX12_sign_15 : decode cX12_sign 15 = .ok (.aload_n 0, 1) := by decide +kernel
theorem dX12_sign_16 : decode cX12_sign 16 = .ok (.getfield 215, 3) := by decide +kernel
theorem dX12_sign_19 : decode cX12_sign 19 = .ok (.baload, 1) := by decide +kernel
theorem dX12_sign_20 : decode cX12_sign 20 = .ok (.sipush 255, 3) := by decide +kernel
theorem dX12_sign_23 : decode cX12_sign 23 = .ok (.iand, 1) := by decide +kernel
theorem dX12_sign_24 : decode cX12_sign 24 = .ok (.goto 4, 3) := by decide +kernel
theorem dX12_sign_27 : decode cX12_sign 27 = .ok (.iconst (-1), 1) := by decide +kernel
theorem dX12_sign_28 : decode cX12_sign 28 = .ok (.ireturn, 1) := by decide +kernel
theorem dX12_blanks_0 : decode cX12_blanks 0 = .ok (.aload_n 0, 1) := by decide +kernel
theorem dX12_blanks_1 : decode cX12_blanks 1 = .ok (.invokevirtual 218, 3) := by decide +kernel
theorem dX12_blanks_4 : decode cX12_blanks 4 = .ok (.bipush 32, 2) := by decide +kernel
theorem dX12_blanks_6 : decode cX12_blanks 6 = .ok (.if_icmp .ne 16, 3) := by decide +kernel
theorem dX12_blanks_9 : decode cX12_blanks 9 = .ok (.aload_n 0, 1) := by decide +kernel
theorem dX12_blanks_10 : decode cX12_blanks 10 = .ok (.dup, 1) := by decide +kernel
theorem dX12_blanks_11 : decode cX12_blanks 11 = .ok (.getfield 215, 3) := by decide +kernel
theorem dX12_blanks_14 : decode cX12_blanks 14 = .ok (.iconst 1, 1) := by decide +kernel
theorem dX12_blanks_15 : decode cX12_blanks 15 = .ok (.iadd, 1) := by decide +kernel
theorem dX12_blanks_16 : decode cX12_blanks 16 = .ok (.putfield 215, 3) := by decide +kernel
theorem dX12_blanks_19 : decode cX12_blanks 19 = .ok (.goto (-19), 3) := by decide +kernel
theorem dX12_blanks_22 : decode cX12_blanks 22 = .ok (.return_, 1) := by decide +kernel
theorem dX12_isDigit_0 : decode cX12_isDigit 0 = .ok (.aload_n 0, 1) := by decide +kernel
theorem dX12_isDigit_1 : decode cX12_isDigit 1 = .ok (.invokevirtual 218, 3) := by decide +kernel
theorem dX12_isDigit_4 : decode cX12_isDigit 4 = .ok (.i2l, 1) := by decide +kernel
theorem dX12_isDigit_5 : decode cX12_isDigit 5 = .ok (.ldc2_w 222, 3) := by decide +kernel
theorem dX12_isDigit_8 : decode cX12_isDigit 8 = .ok (.ldc2_w 224, 3) := by decide +kernel
theorem dX12_isDigit_11 : decode cX12_isDigit 11 = .ok (.invokestatic 176, 3) := by decide +kernel
theorem dX12_isDigit_14 : decode cX12_isDigit 14 = .ok (.ireturn, 1) := by decide +kernel
theorem dX12_stood_0 : decode cX12_stood 0 = .ok (.aload_n 0, 1) := by decide +kernel
theorem dX12_stood_1 : decode cX12_stood 1 = .ok (.getfield 215, 3) := by decide +kernel
theorem dX12_stood_4 : decode cX12_stood 4 = .ok (.istore_n 2, 1) := by decide +kernel
theorem dX12_stood_5 : decode cX12_stood 5 = .ok (.iload_n 2, 1) := by decide +kernel
theorem dX12_stood_6 : decode cX12_stood 6 = .ok (.aload_n 0, 1) := by decide +kernel
theorem dX12_stood_7 : decode cX12_stood 7 = .ok (.getfield 184, 3) := by decide +kernel
theorem dX12_stood_10 : decode cX12_stood 10 = .ok (.if_icmp .ge 31, 3) := by decide +kernel
theorem dX12_stood_13 : decode cX12_stood 13 = .ok (.aload_n 0, 1) := by decide +kernel
theorem dX12_stood_14 : decode cX12_stood 14 = .ok (.getfield 104, 3) := by decide +kernel
theorem dX12_stood_17 : decode cX12_stood 17 = .ok (.iload_n 2, 1) := by decide +kernel
theorem dX12_stood_18 : decode cX12_stood 18 = .ok (.baload, 1) := by decide +kernel
theorem dX12_stood_19 : decode cX12_stood 19 = .ok (.bipush 97, 2) := by decide +kernel
theorem dX12_stood_21 : decode cX12_stood 21 = .ok (.if_icmp .lt 20, 3) := by decide +kernel
theorem dX12_stood_24 : decode cX12_stood 24 = .ok (.aload_n 0, 1) := by decide +kernel
theorem dX12_stood_25 : decode cX12_stood 25 = .ok (.getfield 104, 3) := by decide +kernel
theorem dX12_stood_28 : decode cX12_stood 28 = .ok (.iload_n 2, 1) := by decide +kernel
theorem dX12_stood_29 : decode cX12_stood 29 = .ok (.baload, 1) := by decide +kernel
theorem dX12_stood_30 : decode cX12_stood 30 = .ok (.bipush 122, 2) := by decide +kernel
theorem dX12_stood_32 : decode cX12_stood 32 = .ok (.if_icmp .gt 9, 3) := by decide +kernel
theorem dX12_stood_35 : decode cX12_stood 35 = .ok (.iinc 2 1, 3) := by decide +kernel
theorem dX12_stood_38 : decode cX12_stood 38 = .ok (.goto (-33), 3) := by decide +kernel
theorem dX12_stood_41 : decode cX12_stood 41 = .ok (.iload_n 2, 1) := by decide +kernel
theorem dX12_stood_42 : decode cX12_stood 42 = .ok (.aload_n 0, 1) := by decide +kernel
theorem dX12_stood_43 : decode cX12_stood 43 = .ok (.getfield 215, 3) := by decide +kernel
theorem dX12_stood_46 : decode cX12_stood 46 = .ok (.isub, 1) := by decide +kernel
theorem dX12_stood_47 : decode cX12_stood 47 = .ok (.aload_n 1, 1) := by decide +kernel
theorem dX12_stood_48 : decode cX12_stood 48 = .ok (.invokevirtual 226, 3) := by decide +kernel
theorem dX12_stood_51 : decode cX12_stood 51 = .ok (.if_icmp .ne 7, 3) := by decide +kernel
theorem dX12_stood_54 : decode cX12_stood 54 = .ok (.iconst 1, 1) := by decide +kernel
theorem dX12_stood_55 : decode cX12_stood 55 = .ok (.goto 4, 3) := by decide +kernel
theorem dX12_stood_58 : decode cX12_stood 58 = .ok (.iconst 0, 1) := by decide +kernel
theorem dX12_stood_59 : decode cX12_stood 59 = .ok (.istore_n 3, 1) := by decide +kernel
theorem dX12_stood_60 : decode cX12_stood 60 = .ok (.iconst 0, 1) := by decide +kernel
theorem dX12_stood_61 : decode cX12_stood 61 = .ok (.istore 4, 2) := by decide +kernel
theorem dX12_stood_63 : decode cX12_stood 63 = .ok (.iload 4, 2) := by decide +kernel
theorem dX12_stood_65 : decode cX12_stood 65 = .ok (.aload_n 1, 1) := by decide +kernel
theorem dX12_stood_66 : decode cX12_stood 66 = .ok (.invokevirtual 226, 3) := by decide +kernel
theorem dX12_stood_69 : decode cX12_stood 69 = .ok (.if_icmp .ge 40, 3) := by decide +kernel
theorem dX12_stood_72 : decode cX12_stood 72 = .ok (.iload_n 3, 1) := by decide +kernel
theorem dX12_stood_73 : decode cX12_stood 73 = .ok (.ifCond .eq 36, 3) := by decide +kernel
theorem dX12_stood_76 : decode cX12_stood 76 = .ok (.aload_n 0, 1) := by decide +kernel
theorem dX12_stood_77 : decode cX12_stood 77 = .ok (.getfield 104, 3) := by decide +kernel
theorem dX12_stood_80 : decode cX12_stood 80 = .ok (.aload_n 0, 1) := by decide +kernel
theorem dX12_stood_81 : decode cX12_stood 81 = .ok (.getfield 215, 3) := by decide +kernel
theorem dX12_stood_84 : decode cX12_stood 84 = .ok (.iload 4, 2) := by decide +kernel
theorem dX12_stood_86 : decode cX12_stood 86 = .ok (.iadd, 1) := by decide +kernel
theorem dX12_stood_87 : decode cX12_stood 87 = .ok (.baload, 1) := by decide +kernel
theorem dX12_stood_88 : decode cX12_stood 88 = .ok (.aload_n 1, 1) := by decide +kernel
theorem dX12_stood_89 : decode cX12_stood 89 = .ok (.iload 4, 2) := by decide +kernel
theorem dX12_stood_91 : decode cX12_stood 91 = .ok (.invokevirtual 231, 3) := by decide +kernel
theorem dX12_stood_94 : decode cX12_stood 94 = .ok (.if_icmp .ne 7, 3) := by decide +kernel
theorem dX12_stood_97 : decode cX12_stood 97 = .ok (.iconst 1, 1) := by decide +kernel
theorem dX12_stood_98 : decode cX12_stood 98 = .ok (.goto 4, 3) := by decide +kernel
theorem dX12_stood_101 : decode cX12_stood 101 = .ok (.iconst 0, 1) := by decide +kernel
theorem dX12_stood_102 : decode cX12_stood 102 = .ok (.istore_n 3, 1) := by decide +kernel
theorem dX12_stood_103 : decode cX12_stood 103 = .ok (.iinc 4 1, 3) := by decide +kernel
theorem dX12_stood_106 : decode cX12_stood 106 = .ok (.goto (-43), 3) := by decide +kernel
theorem dX12_stood_109 : decode cX12_stood 109 = .ok (.iload_n 3, 1) := by decide +kernel
theorem dX12_stood_110 : decode cX12_stood 110 = .ok (.ireturn, 1) := by decide +kernel
theorem dX12_takes_0 : decode cX12_takes 0 = .ok (.aload_n 0, 1) := by decide +kernel
theorem dX12_takes_1 : decode cX12_takes 1 = .ok (.invokevirtual 235, 3) := by decide +kernel
theorem dX12_takes_4 : decode cX12_takes 4 = .ok (.aload_n 0, 1) := by decide +kernel
theorem dX12_takes_5 : decode cX12_takes 5 = .ok (.aload_n 1, 1) := by decide +kernel
theorem dX12_takes_6 : decode cX12_takes 6 = .ok (.invokevirtual 238, 3) := by decide +kernel
theorem dX12_takes_9 : decode cX12_takes 9 = .ok (.istore_n 2, 1) := by decide +kernel
theorem dX12_takes_10 : decode cX12_takes 10 = .ok (.aload_n 0, 1) := by decide +kernel
theorem dX12_takes_11 : decode cX12_takes 11 = .ok (.dup, 1) := by decide +kernel
theorem dX12_takes_12 : decode cX12_takes 12 = .ok (.getfield 215, 3) := by decide +kernel
theorem dX12_takes_15 : decode cX12_takes 15 = .ok (.iload_n 2, 1) := by decide +kernel
theorem dX12_takes_16 : decode cX12_takes 16 = .ok (.ifCond .eq 10, 3) := by decide +kernel
theorem dX12_takes_19 : decode cX12_takes 19 = .ok (.aload_n 1, 1) := by decide +kernel
theorem dX12_takes_20 : decode cX12_takes 20 = .ok (.invokevirtual 226, 3) := by decide +kernel
theorem dX12_takes_23 : decode cX12_takes 23 = .ok (.goto 4, 3) := by decide +kernel
theorem dX12_takes_26 : decode cX12_takes 26 = .ok (.iconst 0, 1) := by decide +kernel
theorem dX12_takes_27 : decode cX12_takes 27 = .ok (.iadd, 1) := by decide +kernel
theorem dX12_takes_28 : decode cX12_takes 28 = .ok (.putfield 215, 3) := by decide +kernel
theorem dX12_takes_31 : decode cX12_takes 31 = .ok (.iload_n 2, 1) := by decide +kernel
theorem dX12_takes_32 : decode cX12_takes 32 = .ok (.ireturn, 1) := by decide +kernel
theorem dX12_entry_0 : decode cX12_entry 0 = .ok (.aload_n 0, 1) := by decide +kernel
theorem dX12_entry_1 : decode cX12_entry 1 = .ok (.getfield 212, 3) := by decide +kernel
theorem dX12_entry_4 : decode cX12_entry 4 = .ok (.ifCond .ne 51, 3) := by decide +kernel
theorem dX12_entry_7 : decode cX12_entry 7 = .ok (.aload_n 0, 1) := by decide +kernel
theorem dX12_entry_8 : decode cX12_entry 8 = .ok (.getfield 108, 3) := by decide +kernel
theorem dX12_entry_11 : decode cX12_entry 11 = .ok (.sipush 300, 3) := by decide +kernel
theorem dX12_entry_14 : decode cX12_entry 14 = .ok (.aload_n 0, 1) := by decide +kernel
theorem dX12_entry_15 : decode cX12_entry 15 = .ok (.getfield 242, 3) := by decide +kernel
theorem dX12_entry_18 : decode cX12_entry 18 = .ok (.imul, 1) := by decide +kernel
theorem dX12_entry_19 : decode cX12_entry 19 = .ok (.aload_n 0, 1) := by decide +kernel
theorem dX12_entry_20 : decode cX12_entry 20 = .ok (.getfield 245, 3) := by decide +kernel
theorem dX12_entry_23 : decode cX12_entry 23 = .ok (.iadd, 1) := by decide +kernel
theorem dX12_entry_24 : decode cX12_entry 24 = .ok (.iload_n 1, 1) := by decide +kernel
theorem dX12_entry_25 : decode cX12_entry 25 = .ok (.iastore, 1) := by decide +kernel
theorem dX12_entry_26 : decode cX12_entry 26 = .ok (.aload_n 0, 1) := by decide +kernel
theorem dX12_entry_27 : decode cX12_entry 27 = .ok (.getfield 111, 3) := by decide +kernel
theorem dX12_entry_30 : decode cX12_entry 30 = .ok (.sipush 300, 3) := by decide +kernel
theorem dX12_entry_33 : decode cX12_entry 33 = .ok (.aload_n 0, 1) := by decide +kernel
theorem dX12_entry_34 : decode cX12_entry 34 = .ok (.getfield 242, 3) := by decide +kernel
theorem dX12_entry_37 : decode cX12_entry 37 = .ok (.imul, 1) := by decide +kernel
theorem dX12_entry_38 : decode cX12_entry 38 = .ok (.aload_n 0, 1) := by decide +kernel
theorem dX12_entry_39 : decode cX12_entry 39 = .ok (.getfield 245, 3) := by decide +kernel
theorem dX12_entry_42 : decode cX12_entry 42 = .ok (.iadd, 1) := by decide +kernel
theorem dX12_entry_43 : decode cX12_entry 43 = .ok (.iload_n 2, 1) := by decide +kernel
theorem dX12_entry_44 : decode cX12_entry 44 = .ok (.iastore, 1) := by decide +kernel
theorem dX12_entry_45 : decode cX12_entry 45 = .ok (.aload_n 0, 1) := by decide +kernel
theorem dX12_entry_46 : decode cX12_entry 46 = .ok (.dup, 1) := by decide +kernel
theorem dX12_entry_47 : decode cX12_entry 47 = .ok (.getfield 245, 3) := by decide +kernel
theorem dX12_entry_50 : decode cX12_entry 50 = .ok (.iconst 1, 1) := by decide +kernel
theorem dX12_entry_51 : decode cX12_entry 51 = .ok (.iadd, 1) := by decide +kernel
theorem dX12_entry_52 : decode cX12_entry 52 = .ok (.putfield 245, 3) := by decide +kernel
theorem dX12_entry_55 : decode cX12_entry 55 = .ok (.return_, 1) := by decide +kernel
theorem dX12_isCounted_0 : decode cX12_isCounted 0 = .ok (.aload_n 0, 1) := by decide +kernel
theorem dX12_isCounted_1 : decode cX12_isCounted 1 = .ok (.getfield 248, 3) := by decide +kernel
theorem dX12_isCounted_4 : decode cX12_isCounted 4 = .ok (.bipush 60, 2) := by decide +kernel
theorem dX12_isCounted_6 : decode cX12_isCounted 6 = .ok (.if_icmp .ne 9, 3) := by decide +kernel
theorem dX12_isCounted_9 : decode cX12_isCounted 9 = .ok (.aload_n 0, 1) := by decide +kernel
theorem dX12_isCounted_10 : decode cX12_isCounted 10 = .ok (.iconst 3, 1) := by decide +kernel
theorem dX12_isCounted_11 : decode cX12_isCounted 11 = .ok (.iload_n 1, 1) := by decide +kernel
theorem dX12_isCounted_12 : decode cX12_isCounted 12 = .ok (.invokevirtual 251, 3) := by decide +kernel
theorem dX12_isCounted_15 : decode cX12_isCounted 15 = .ok (.aload_n 0, 1) := by decide +kernel
theorem dX12_isCounted_16 : decode cX12_isCounted 16 = .ok (.dup, 1) := by decide +kernel
theorem dX12_isCounted_17 : decode cX12_isCounted 17 = .ok (.getfield 248, 3) := by decide +kernel
theorem dX12_isCounted_20 : decode cX12_isCounted 20 = .ok (.iconst 1, 1) := by decide +kernel
theorem dX12_isCounted_21 : decode cX12_isCounted 21 = .ok (.iadd, 1) := by decide +kernel
theorem dX12_isCounted_22 : decode cX12_isCounted 22 = .ok (.putfield 248, 3) := by decide +kernel
theorem dX12_isCounted_25 : decode cX12_isCounted 25 = .ok (.return_, 1) := by decide +kernel
theorem dX12_digits_0 : decode cX12_digits 0 = .ok (.aload_n 0, 1) := by decide +kernel
theorem dX12_digits_1 : decode cX12_digits 1 = .ok (.invokevirtual 255, 3) := by decide +kernel
theorem dX12_digits_4 : decode cX12_digits 4 = .ok (.ifCond .ne 14, 3) := by decide +kernel
theorem dX12_digits_7 : decode cX12_digits 7 = .ok (.aload_n 0, 1) := by decide +kernel
theorem dX12_digits_8 : decode cX12_digits 8 = .ok (.iconst 0, 1) := by decide +kernel
theorem dX12_digits_9 : decode cX12_digits 9 = .ok (.aload_n 0, 1) := by decide +kernel
theorem dX12_digits_10 : decode cX12_digits 10 = .ok (.getfield 215, 3) := by decide +kernel
theorem dX12_digits_13 : decode cX12_digits 13 = .ok (.invokevirtual 251, 3) := by decide +kernel
theorem dX12_digits_16 : decode cX12_digits 16 = .ok (.iconst 0, 1) := by decide +kernel
theorem dX12_digits_17 : decode cX12_digits 17 = .ok (.ireturn, 1) := by decide +kernel
theorem dX12_digits_18 : decode cX12_digits 18 = .ok (.aload_n 0, 1) := by decide +kernel
theorem dX12_digits_19 : decode cX12_digits 19 = .ok (.getfield 215, 3) := by decide +kernel
theorem dX12_digits_22 : decode cX12_digits 22 = .ok (.istore_n 2, 1) := by decide +kernel
theorem dX12_digits_23 : decode cX12_digits 23 = .ok (.iconst 0, 1) := by decide +kernel
theorem dX12_digits_24 : decode cX12_digits 24 = .ok (.istore_n 3, 1) := by decide +kernel
theorem dX12_digits_25 : decode cX12_digits 25 = .ok (.aload_n 0, 1) := by decide +kernel
theorem dX12_digits_26 : decode cX12_digits 26 = .ok (.invokevirtual 255, 3) := by decide +kernel
theorem dX12_digits_29 : decode cX12_digits 29 = .ok (.ifCond .eq 43, 3) := by decide +kernel
theorem dX12_digits_32 : decode cX12_digits 32 = .ok (.aload_n 0, 1) := by decide +kernel
theorem dX12_digits_33 : decode cX12_digits 33 = .ok (.getfield 215, 3) := by decide +kernel
theorem dX12_digits_36 : decode cX12_digits 36 = .ok (.iload_n 2, 1) := by decide +kernel
theorem dX12_digits_37 : decode cX12_digits 37 = .ok (.isub, 1) := by decide +kernel
theorem dX12_digits_38 : decode cX12_digits 38 = .ok (.iconst 5, 1) := by decide +kernel
theorem dX12_digits_39 : decode cX12_digits 39 = .ok (.if_icmp .ge 18, 3) := by decide +kernel
theorem dX12_digits_42 : decode cX12_digits 42 = .ok (.bipush 10, 2) := by decide +kernel
theorem dX12_digits_44 : decode cX12_digits 44 = .ok (.iload_n 3, 1) := by decide +kernel
theorem dX12_digits_45 : decode cX12_digits 45 = .ok (.imul, 1) := by decide +kernel
theorem dX12_digits_46 : decode cX12_digits 46 = .ok (.aload_n 0, 1) := by decide +kernel
theorem dX12_digits_47 : decode cX12_digits 47 = .ok (.invokevirtual 218, 3) := by decide +kernel
theorem dX12_digits_50 : decode cX12_digits 50 = .ok (.iadd, 1) := by decide +kernel
theorem dX12_digits_51 : decode cX12_digits 51 = .ok (.bipush 48, 2) := by decide +kernel
theorem dX12_digits_53 : decode cX12_digits 53 = .ok (.isub, 1) := by decide +kernel
theorem dX12_digits_54 : decode cX12_digits 54 = .ok (.goto 4, 3) := by decide +kernel
theorem dX12_digits_57 : decode cX12_digits 57 = .ok (.iload_n 3, 1) := by decide +kernel
theorem dX12_digits_58 : decode cX12_digits 58 = .ok (.istore_n 3, 1) := by decide +kernel
theorem dX12_digits_59 : decode cX12_digits 59 = .ok (.aload_n 0, 1) := by decide +kernel
theorem dX12_digits_60 : decode cX12_digits 60 = .ok (.dup, 1) := by decide +kernel
theorem dX12_digits_61 : decode cX12_digits 61 = .ok (.getfield 215, 3) := by decide +kernel
theorem dX12_digits_64 : decode cX12_digits 64 = .ok (.iconst 1, 1) := by decide +kernel
theorem dX12_digits_65 : decode cX12_digits 65 = .ok (.iadd, 1) := by decide +kernel
theorem dX12_digits_66 : decode cX12_digits 66 = .ok (.putfield 215, 3) := by decide +kernel
theorem dX12_digits_69 : decode cX12_digits 69 = .ok (.goto (-44), 3) := by decide +kernel
theorem dX12_digits_72 : decode cX12_digits 72 = .ok (.aload_n 0, 1) := by decide +kernel
theorem dX12_digits_73 : decode cX12_digits 73 = .ok (.getfield 215, 3) := by decide +kernel
theorem dX12_digits_76 : decode cX12_digits 76 = .ok (.iload_n 2, 1) := by decide +kernel
theorem dX12_digits_77 : decode cX12_digits 77 = .ok (.isub, 1) := by decide +kernel
theorem dX12_digits_78 : decode cX12_digits 78 = .ok (.iconst 5, 1) := by decide +kernel
theorem dX12_digits_79 : decode cX12_digits 79 = .ok (.if_icmp .gt 8, 3) := by decide +kernel
theorem dX12_digits_82 : decode cX12_digits 82 = .ok (.iload_n 3, 1) := by decide +kernel
theorem dX12_digits_83 : decode cX12_digits 83 = .ok (.iload_n 1, 1) := by decide +kernel
theorem dX12_digits_84 : decode cX12_digits 84 = .ok (.if_icmp .le 9, 3) := by decide +kernel
theorem dX12_digits_87 : decode cX12_digits 87 = .ok (.aload_n 0, 1) := by decide +kernel
theorem dX12_digits_88 : decode cX12_digits 88 = .ok (.iconst 1, 1) := by decide +kernel
theorem dX12_digits_89 : decode cX12_digits 89 = .ok (.iload_n 2, 1) := by decide +kernel
theorem dX12_digits_90 : decode cX12_digits 90 = .ok (.invokevirtual 251, 3) := by decide +kernel
theorem dX12_digits_93 : decode cX12_digits 93 = .ok (.iload_n 3, 1) := by decide +kernel
theorem dX12_digits_94 : decode cX12_digits 94 = .ok (.ireturn, 1) := by decide +kernel
theorem dX12_value_0 : decode cX12_value 0 = .ok (.aload_n 0, 1) := by decide +kernel
theorem dX12_value_1 : decode cX12_value 1 = .ok (.invokevirtual 235, 3) := by decide +kernel
theorem dX12_value_4 : decode cX12_value 4 = .ok (.aload_n 0, 1) := by decide +kernel
theorem dX12_value_5 : decode cX12_value 5 = .ok (.getfield 215, 3) := by decide +kernel
theorem dX12_value_8 : decode cX12_value 8 = .ok (.istore_n 1, 1) := by decide +kernel
theorem dX12_value_9 : decode cX12_value 9 = .ok (.aload_n 0, 1) := by decide +kernel
theorem dX12_value_10 : decode cX12_value 10 = .ok (.invokevirtual 255, 3) := by decide +kernel
theorem dX12_value_13 : decode cX12_value 13 = .ok (.ifCond .eq 23, 3) := by decide +kernel
theorem dX12_value_16 : decode cX12_value 16 = .ok (.aload_n 0, 1) := by decide +kernel
theorem dX12_value_17 : decode cX12_value 17 = .ok (.ldc_w 259, 3) := by decide +kernel
theorem dX12_value_20 : decode cX12_value 20 = .ok (.invokevirtual 260, 3) := by decide +kernel
theorem dX12_value_23 : decode cX12_value 23 = .ok (.istore_n 2, 1) := by decide +kernel
theorem dX12_value_24 : decode cX12_value 24 = .ok (.aload_n 0, 1) := by decide +kernel
theorem dX12_value_25 : decode cX12_value 25 = .ok (.iload_n 1, 1) := by decide +kernel
theorem dX12_value_26 : decode cX12_value 26 = .ok (.invokevirtual 264, 3) := by decide +kernel
theorem dX12_value_29 : decode cX12_value 29 = .ok (.aload_n 0, 1) := by decide +kernel
theorem dX12_value_30 : decode cX12_value 30 = .ok (.iconst 0, 1) := by decide +kernel
theorem dX12_value_31 : decode cX12_value 31 = .ok (.iload_n 2, 1) := by decide +kernel
theorem dX12_value_32 : decode cX12_value 32 = .ok (.invokevirtual 267, 3) := by decide +kernel
theorem dX12_value_35 : decode cX12_value 35 = .ok (.return_, 1) := by decide +kernel
theorem dX12_value_36 : decode cX12_value 36 = .ok (.iconst 0, 1) := by decide +kernel
theorem dX12_value_37 : decode cX12_value 37 = .ok (.istore_n 2, 1) := by decide +kernel
theorem dX12_value_38 : decode cX12_value 38 = .ok (.iload_n 2, 1) := by decide +kernel
theorem dX12_value_39 : decode cX12_value 39 = .ok (.aload_n 0, 1) := by decide +kernel
theorem dX12_value_40 : decode cX12_value 40 = .ok (.getfield 100, 3) := by decide +kernel
theorem dX12_value_43 : decode cX12_value 43 = .ok (.if_icmp .ge 20, 3) := by decide +kernel
theorem dX12_value_46 : decode cX12_value 46 = .ok (.aload_n 0, 1) := by decide +kernel
theorem dX12_value_47 : decode cX12_value 47 = .ok (.iload_n 2, 1) := by decide +kernel
theorem dX12_value_48 : decode cX12_value 48 = .ok (.invokestatic 270, 3) := by decide +kernel
theorem dX12_value_51 : decode cX12_value 51 = .ok (.invokevirtual 238, 3) := by decide +kernel
theorem dX12_value_54 : decode cX12_value 54 = .ok (.ifCond .ne 9, 3) := by decide +kernel
theorem dX12_value_57 : decode cX12_value 57 = .ok (.iinc 2 1, 3) := by decide +kernel
theorem dX12_value_60 : decode cX12_value 60 = .ok (.goto (-22), 3) := by decide +kernel
theorem dX12_value_63 : decode cX12_value 63 = .ok (.iload_n 2, 1) := by decide +kernel
theorem dX12_value_64 : decode cX12_value 64 = .ok (.aload_n 0, 1) := by decide +kernel
theorem dX12_value_65 : decode cX12_value 65 = .ok (.getfield 100, 3) := by decide +kernel
theorem dX12_value_68 : decode cX12_value 68 = .ok (.if_icmp .ne 10, 3) := by decide +kernel
theorem dX12_value_71 : decode cX12_value 71 = .ok (.aload_n 0, 1) := by decide +kernel
theorem dX12_value_72 : decode cX12_value 72 = .ok (.iconst 0, 1) := by decide +kernel
theorem dX12_value_73 : decode cX12_value 73 = .ok (.iload_n 1, 1) := by decide +kernel
theorem dX12_value_74 : decode cX12_value 74 = .ok (.invokevirtual 251, 3) := by decide +kernel
theorem dX12_value_77 : decode cX12_value 77 = .ok (.return_, 1) := by decide +kernel
theorem dX12_value_78 : decode cX12_value 78 = .ok (.aload_n 0, 1) := by decide +kernel
theorem dX12_value_79 : decode cX12_value 79 = .ok (.iload_n 1, 1) := by decide +kernel
theorem dX12_value_80 : decode cX12_value 80 = .ok (.invokevirtual 264, 3) := by decide +kernel
theorem dX12_value_83 : decode cX12_value 83 = .ok (.aload_n 0, 1) := by decide +kernel
theorem dX12_value_84 : decode cX12_value 84 = .ok (.dup, 1) := by decide +kernel
theorem dX12_value_85 : decode cX12_value 85 = .ok (.getfield 215, 3) := by decide +kernel
theorem dX12_value_88 : decode cX12_value 88 = .ok (.iload_n 2, 1) := by decide +kernel
theorem dX12_value_89 : decode cX12_value 89 = .ok (.invokestatic 270, 3) := by decide +kernel
theorem dX12_value_92 : decode cX12_value 92 = .ok (.invokevirtual 226, 3) := by decide +kernel
theorem dX12_value_95 : decode cX12_value 95 = .ok (.iadd, 1) := by decide +kernel
theorem dX12_value_96 : decode cX12_value 96 = .ok (.putfield 215, 3) := by decide +kernel
theorem dX12_value_99 : decode cX12_value 99 = .ok (.aload_n 0, 1) := by decide +kernel
theorem dX12_value_100 : decode cX12_value 100 = .ok (.iconst 1, 1) := by decide +kernel
theorem dX12_value_101 : decode cX12_value 101 = .ok (.iload_n 2, 1) := by decide +kernel
theorem dX12_value_102 : decode cX12_value 102 = .ok (.invokevirtual 267, 3) := by decide +kernel
theorem dX12_value_105 : decode cX12_value 105 = .ok (.return_, 1) := by decide +kernel
theorem dX12_term_0 : decode cX12_term 0 = .ok (.aload_n 0, 1) := by decide +kernel
theorem dX12_term_1 : decode cX12_term 1 = .ok (.invokevirtual 274, 3) := by decide +kernel
theorem dX12_term_4 : decode cX12_term 4 = .ok (.aload_n 0, 1) := by decide +kernel
theorem dX12_term_5 : decode cX12_term 5 = .ok (.invokevirtual 235, 3) := by decide +kernel
theorem dX12_term_8 : decode cX12_term 8 = .ok (.aload_n 0, 1) := by decide +kernel
theorem dX12_term_9 : decode cX12_term 9 = .ok (.getfield 212, 3) := by decide +kernel
theorem dX12_term_12 : decode cX12_term 12 = .ok (.ifCond .ne 88, 3) := by decide +kernel
theorem dX12_term_15 : decode cX12_term 15 = .ok (.aload_n 0, 1) := by decide +kernel
theorem dX12_term_16 : decode cX12_term 16 = .ok (.invokevirtual 218, 3) := by decide +kernel
theorem dX12_term_19 : decode cX12_term 19 = .ok (.bipush 42, 2) := by decide +kernel
theorem dX12_term_21 : decode cX12_term 21 = .ok (.if_icmp .eq 21, 3) := by decide +kernel
theorem dX12_term_24 : decode cX12_term 24 = .ok (.aload_n 0, 1) := by decide +kernel
theorem dX12_term_25 : decode cX12_term 25 = .ok (.invokevirtual 218, 3) := by decide +kernel
theorem dX12_term_28 : decode cX12_term 28 = .ok (.bipush 47, 2) := by decide +kernel
theorem dX12_term_30 : decode cX12_term 30 = .ok (.if_icmp .eq 12, 3) := by decide +kernel
theorem dX12_term_33 : decode cX12_term 33 = .ok (.aload_n 0, 1) := by decide +kernel
theorem dX12_term_34 : decode cX12_term 34 = .ok (.invokevirtual 218, 3) := by decide +kernel
theorem dX12_term_37 : decode cX12_term 37 = .ok (.bipush 37, 2) := by decide +kernel
theorem dX12_term_39 : decode cX12_term 39 = .ok (.if_icmp .ne 61, 3) := by decide +kernel
theorem dX12_term_42 : decode cX12_term 42 = .ok (.aload_n 0, 1) := by decide +kernel
theorem dX12_term_43 : decode cX12_term 43 = .ok (.invokevirtual 218, 3) := by decide +kernel
theorem dX12_term_46 : decode cX12_term 46 = .ok (.bipush 42, 2) := by decide +kernel
theorem dX12_term_48 : decode cX12_term 48 = .ok (.if_icmp .ne 8, 3) := by decide +kernel
theorem dX12_term_51 : decode cX12_term 51 = .ok (.bipush 13, 2) := by decide +kernel
theorem dX12_term_53 : decode cX12_term 53 = .ok (.goto 19, 3) := by decide +kernel
theorem dX12_term_56 : decode cX12_term 56 = .ok (.aload_n 0, 1) := by decide +kernel
theorem dX12_term_57 : decode cX12_term 57 = .ok (.invokevirtual 218, 3) := by decide +kernel
theorem dX12_term_60 : decode cX12_term 60 = .ok (.bipush 47, 2) := by decide +kernel
theorem dX12_term_62 : decode cX12_term 62 = .ok (.if_icmp .ne 8, 3) := by decide +kernel
theorem dX12_term_65 : decode cX12_term 65 = .ok (.bipush 14, 2) := by decide +kernel
theorem dX12_term_67 : decode cX12_term 67 = .ok (.goto 5, 3) := by decide +kernel
theorem dX12_term_70 : decode cX12_term 70 = .ok (.bipush 15, 2) := by decide +kernel
theorem dX12_term_72 : decode cX12_term 72 = .ok (.istore_n 1, 1) := by decide +kernel
theorem dX12_term_73 : decode cX12_term 73 = .ok (.aload_n 0, 1) := by decide +kernel
theorem dX12_term_74 : decode cX12_term 74 = .ok (.dup, 1) := by decide +kernel
theorem dX12_term_75 : decode cX12_term 75 = .ok (.getfield 215, 3) := by decide +kernel
theorem dX12_term_78 : decode cX12_term 78 = .ok (.iconst 1, 1) := by decide +kernel
theorem dX12_term_79 : decode cX12_term 79 = .ok (.iadd, 1) := by decide +kernel
theorem dX12_term_80 : decode cX12_term 80 = .ok (.putfield 215, 3) := by decide +kernel
theorem dX12_term_83 : decode cX12_term 83 = .ok (.aload_n 0, 1) := by decide +kernel
theorem dX12_term_84 : decode cX12_term 84 = .ok (.invokevirtual 274, 3) := by decide +kernel
theorem dX12_term_87 : decode cX12_term 87 = .ok (.aload_n 0, 1) := by decide +kernel
theorem dX12_term_88 : decode cX12_term 88 = .ok (.iload_n 1, 1) := by decide +kernel
theorem dX12_term_89 : decode cX12_term 89 = .ok (.iconst 0, 1) := by decide +kernel
theorem dX12_term_90 : decode cX12_term 90 = .ok (.invokevirtual 267, 3) := by decide +kernel
theorem dX12_term_93 : decode cX12_term 93 = .ok (.aload_n 0, 1) := by decide +kernel
theorem dX12_term_94 : decode cX12_term 94 = .ok (.invokevirtual 235, 3) := by decide +kernel
theorem dX12_term_97 : decode cX12_term 97 = .ok (.goto (-89), 3) := by decide +kernel
theorem dX12_term_100 : decode cX12_term 100 = .ok (.return_, 1) := by decide +kernel
theorem dX12_sum_0 : decode cX12_sum 0 = .ok (.aload_n 0, 1) := by decide +kernel
theorem dX12_sum_1 : decode cX12_sum 1 = .ok (.invokevirtual 277, 3) := by decide +kernel
theorem dX12_sum_4 : decode cX12_sum 4 = .ok (.aload_n 0, 1) := by decide +kernel
theorem dX12_sum_5 : decode cX12_sum 5 = .ok (.getfield 212, 3) := by decide +kernel
theorem dX12_sum_8 : decode cX12_sum 8 = .ok (.ifCond .ne 59, 3) := by decide +kernel
theorem dX12_sum_11 : decode cX12_sum 11 = .ok (.aload_n 0, 1) := by decide +kernel
theorem dX12_sum_12 : decode cX12_sum 12 = .ok (.invokevirtual 218, 3) := by decide +kernel
theorem dX12_sum_15 : decode cX12_sum 15 = .ok (.bipush 43, 2) := by decide +kernel
theorem dX12_sum_17 : decode cX12_sum 17 = .ok (.if_icmp .eq 12, 3) := by decide +kernel
theorem dX12_sum_20 : decode cX12_sum 20 = .ok (.aload_n 0, 1) := by decide +kernel
theorem dX12_sum_21 : decode cX12_sum 21 = .ok (.invokevirtual 218, 3) := by decide +kernel
theorem dX12_sum_24 : decode cX12_sum 24 = .ok (.bipush 45, 2) := by decide +kernel
theorem dX12_sum_26 : decode cX12_sum 26 = .ok (.if_icmp .ne 41, 3) := by decide +kernel
theorem dX12_sum_29 : decode cX12_sum 29 = .ok (.aload_n 0, 1) := by decide +kernel
theorem dX12_sum_30 : decode cX12_sum 30 = .ok (.invokevirtual 218, 3) := by decide +kernel
theorem dX12_sum_33 : decode cX12_sum 33 = .ok (.bipush 43, 2) := by decide +kernel
theorem dX12_sum_35 : decode cX12_sum 35 = .ok (.if_icmp .ne 7, 3) := by decide +kernel
theorem dX12_sum_38 : decode cX12_sum 38 = .ok (.iconst 2, 1) := by decide +kernel
theorem dX12_sum_39 : decode cX12_sum 39 = .ok (.goto 4, 3) := by decide +kernel
theorem dX12_sum_42 : decode cX12_sum 42 = .ok (.iconst 3, 1) := by decide +kernel
theorem dX12_sum_43 : decode cX12_sum 43 = .ok (.istore_n 1, 1) := by decide +kernel
theorem dX12_sum_44 : decode cX12_sum 44 = .ok (.aload_n 0, 1) := by decide +kernel
theorem dX12_sum_45 : decode cX12_sum 45 = .ok (.dup, 1) := by decide +kernel
theorem dX12_sum_46 : decode cX12_sum 46 = .ok (.getfield 215, 3) := by decide +kernel
theorem dX12_sum_49 : decode cX12_sum 49 = .ok (.iconst 1, 1) := by decide +kernel
theorem dX12_sum_50 : decode cX12_sum 50 = .ok (.iadd, 1) := by decide +kernel
theorem dX12_sum_51 : decode cX12_sum 51 = .ok (.putfield 215, 3) := by decide +kernel
theorem dX12_sum_54 : decode cX12_sum 54 = .ok (.aload_n 0, 1) := by decide +kernel
theorem dX12_sum_55 : decode cX12_sum 55 = .ok (.invokevirtual 277, 3) := by decide +kernel
theorem dX12_sum_58 : decode cX12_sum 58 = .ok (.aload_n 0, 1) := by decide +kernel
theorem dX12_sum_59 : decode cX12_sum 59 = .ok (.iload_n 1, 1) := by decide +kernel
theorem dX12_sum_60 : decode cX12_sum 60 = .ok (.iconst 0, 1) := by decide +kernel
theorem dX12_sum_61 : decode cX12_sum 61 = .ok (.invokevirtual 267, 3) := by decide +kernel
theorem dX12_sum_64 : decode cX12_sum 64 = .ok (.goto (-60), 3) := by decide +kernel
theorem dX12_sum_67 : decode cX12_sum 67 = .ok (.return_, 1) := by decide +kernel
