section
theorem dX12_runs_40 : decode cX12_runs 40 = .ok (.iaload, 1) := by decide +kernel
theorem dX12_runs_41 : decode cX12_runs 41 = .ok (.iconst 1, 1) := by decide +kernel
theorem dX12_runs_42 : decode cX12_runs 42 = .ok (.if_icmp .ne 51, 3) := by decide +kernel
theorem dX12_runs_45 : decode cX12_runs 45 = .ok (.aload_n 0, 1) := by decide +kernel
theorem dX12_runs_46 : decode cX12_runs 46 = .ok (.getfield 83, 3) := by decide +kernel
theorem dX12_runs_49 : decode cX12_runs 49 = .ok (.iload 4, 2) := by decide +kernel
theorem dX12_runs_51 : decode cX12_runs 51 = .ok (.aload_n 0, 1) := by decide +kernel
theorem dX12_runs_52 : decode cX12_runs 52 = .ok (.getfield 58, 3) := by decide +kernel
theorem dX12_runs_55 : decode cX12_runs 55 = .ok (.iload 5, 2) := by decide +kernel
theorem dX12_runs_57 : decode cX12_runs 57 = .ok (.iaload, 1) := by decide +kernel
theorem dX12_runs_58 : decode cX12_runs 58 = .ok (.ifCond .ne 13, 3) := by decide +kernel
theorem dX12_runs_61 : decode cX12_runs 61 = .ok (.aload_n 0, 1) := by decide +kernel
theorem dX12_runs_62 : decode cX12_runs 62 = .ok (.getfield 61, 3) := by decide +kernel
theorem dX12_runs_65 : decode cX12_runs 65 = .ok (.iload 5, 2) := by decide +kernel
theorem dX12_runs_67 : decode cX12_runs 67 = .ok (.iaload, 1) := by decide +kernel
theorem dX12_runs_68 : decode cX12_runs 68 = .ok (.goto 15, 3) := by decide +kernel
theorem dX12_runs_71 : decode cX12_runs 71 = .ok (.aload_n 0, 1) := by decide +kernel
theorem dX12_runs_72 : decode cX12_runs 72 = .ok (.getfield 80, 3) := by decide +kernel
theorem dX12_runs_75 : decode cX12_runs 75 = .ok (.aload_n 0, 1) := by decide +kernel
theorem dX12_runs_76 : decode cX12_runs 76 = .ok (.getfield 61, 3) := by decide +kernel
theorem dX12_runs_79 : decode cX12_runs 79 = .ok (.iload 5, 2) := by decide +kernel
theorem dX12_runs_81 : decode cX12_runs 81 = .ok (.iaload, 1) := by decide +kernel
theorem dX12_runs_82 : decode cX12_runs 82 = .ok (.iaload, 1) := by decide +kernel
theorem dX12_runs_83 : decode cX12_runs 83 = .ok (.iastore, 1) := by decide +kernel
theorem dX12_runs_84 : decode cX12_runs 84 = .ok (.iload 4, 2) := by decide +kernel
theorem dX12_runs_86 : decode cX12_runs 86 = .ok (.iconst 1, 1) := by decide +kernel
theorem dX12_runs_87 : decode cX12_runs 87 = .ok (.iadd, 1) := by decide +kernel
theorem dX12_runs_88 : decode cX12_runs 88 = .ok (.istore 4, 2) := by decide +kernel
theorem dX12_runs_90 : decode cX12_runs 90 = .ok (.goto 80, 3) := by decide +kernel
theorem dX12_runs_93 : decode cX12_runs 93 = .ok (.aload_n 0, 1) := by decide +kernel
theorem dX12_runs_94 : decode cX12_runs 94 = .ok (.getfield 58, 3) := by decide +kernel
theorem dX12_runs_97 : decode cX12_runs 97 = .ok (.iload 5, 2) := by decide +kernel
theorem dX12_runs_99 : decode cX12_runs 99 = .ok (.iaload, 1) := by decide +kernel
theorem dX12_runs_100 : decode cX12_runs 100 = .ok (.bipush 9, 2) := by decide +kernel
theorem dX12_runs_102 : decode cX12_runs 102 = .ok (.if_icmp .ne 26, 3) := by decide +kernel
theorem dX12_runs_105 : decode cX12_runs 105 = .ok (.aload_n 0, 1) := by decide +kernel
theorem dX12_runs_106 : decode cX12_runs 106 = .ok (.getfield 83, 3) := by decide +kernel
theorem dX12_runs_109 : decode cX12_runs 109 = .ok (.iload 4, 2) := by decide +kernel
theorem dX12_runs_111 : decode cX12_runs 111 = .ok (.iconst 1, 1) := by decide +kernel
theorem dX12_runs_112 : decode cX12_runs 112 = .ok (.isub, 1) := by decide +kernel
theorem dX12_runs_113 : decode cX12_runs 113 = .ok (.iconst 1, 1) := by decide +kernel
theorem dX12_runs_114 : decode cX12_runs 114 = .ok (.aload_n 0, 1) := by decide +kernel
theorem dX12_runs_115 : decode cX12_runs 115 = .ok (.getfield 83, 3) := by decide +kernel
theorem dX12_runs_118 : decode cX12_runs 118 = .ok (.iload 4, 2) := by decide +kernel
theorem dX12_runs_120 : decode cX12_runs 120 = .ok (.iconst 1, 1) := by decide +kernel
theorem dX12_runs_121 : decode cX12_runs 121 = .ok (.isub, 1) := by decide +kernel
theorem dX12_runs_122 : decode cX12_runs 122 = .ok (.iaload, 1) := by decide +kernel
theorem dX12_runs_123 : decode cX12_runs 123 = .ok (.isub, 1) := by decide +kernel
theorem dX12_runs_124 : decode cX12_runs 124 = .ok (.iastore, 1) := by decide +kernel
theorem dX12_runs_125 : decode cX12_runs 125 = .ok (.goto 45, 3) := by decide +kernel
theorem dX12_runs_128 : decode cX12_runs 128 = .ok (.iload 4, 2) := by decide +kernel
theorem dX12_runs_130 : decode cX12_runs 130 = .ok (.iconst 1, 1) := by decide +kernel
theorem dX12_runs_131 : decode cX12_runs 131 = .ok (.isub, 1) := by decide +kernel
theorem dX12_runs_132 : decode cX12_runs 132 = .ok (.istore 4, 2) := by decide +kernel
theorem dX12_runs_134 : decode cX12_runs 134 = .ok (.aload_n 0, 1) := by decide +kernel
theorem dX12_runs_135 : decode cX12_runs 135 = .ok (.getfield 83, 3) := by decide +kernel
theorem dX12_runs_138 : decode cX12_runs 138 = .ok (.iload 4, 2) := by decide +kernel
theorem dX12_runs_140 : decode cX12_runs 140 = .ok (.iconst 1, 1) := by decide +kernel
theorem dX12_runs_141 : decode cX12_runs 141 = .ok (.isub, 1) := by decide +kernel
theorem dX12_runs_142 : decode cX12_runs 142 = .ok (.aload_n 0, 1) := by decide +kernel
theorem dX12_runs_143 : decode cX12_runs 143 = .ok (.aload_n 0, 1) := by decide +kernel
theorem dX12_runs_144 : decode cX12_runs 144 = .ok (.getfield 58, 3) := by decide +kernel
theorem dX12_runs_147 : decode cX12_runs 147 = .ok (.iload 5, 2) := by decide +kernel
theorem dX12_runs_149 : decode cX12_runs 149 = .ok (.iaload, 1) := by decide +kernel
theorem dX12_runs_150 : decode cX12_runs 150 = .ok (.aload_n 0, 1) := by decide +kernel
theorem dX12_runs_151 : decode cX12_runs 151 = .ok (.getfield 83, 3) := by decide +kernel
theorem dX12_runs_154 : decode cX12_runs 154 = .ok (.iload 4, 2) := by decide +kernel
theorem dX12_runs_156 : decode cX12_runs 156 = .ok (.iconst 1, 1) := by decide +kernel
theorem dX12_runs_157 : decode cX12_runs 157 = .ok (.isub, 1) := by decide +kernel
theorem dX12_runs_158 : decode cX12_runs 158 = .ok (.iaload, 1) := by decide +kernel
theorem dX12_runs_159 : decode cX12_runs 159 = .ok (.aload_n 0, 1) := by decide +kernel
theorem dX12_runs_160 : decode cX12_runs 160 = .ok (.getfield 83, 3) := by decide +kernel
theorem dX12_runs_163 : decode cX12_runs 163 = .ok (.iload 4, 2) := by decide +kernel
theorem dX12_runs_165 : decode cX12_runs 165 = .ok (.iaload, 1) := by decide +kernel
theorem dX12_runs_166 : decode cX12_runs 166 = .ok (.invokevirtual 335, 3) := by decide +kernel
theorem dX12_runs_169 : decode cX12_runs 169 = .ok (.iastore, 1) := by decide +kernel
theorem dX12_runs_170 : decode cX12_runs 170 = .ok (.iinc 5 1, 3) := by decide +kernel
theorem dX12_runs_173 : decode cX12_runs 173 = .ok (.goto (-161), 3) := by decide +kernel
theorem dX12_runs_176 : decode cX12_runs 176 = .ok (.aload_n 0, 1) := by decide +kernel
theorem dX12_runs_177 : decode cX12_runs 177 = .ok (.getfield 83, 3) := by decide +kernel
theorem dX12_runs_180 : decode cX12_runs 180 = .ok (.iconst 0, 1) := by decide +kernel
theorem dX12_runs_181 : decode cX12_runs 181 = .ok (.iaload, 1) := by decide +kernel
theorem dX12_runs_182 : decode cX12_runs 182 = .ok (.ireturn, 1) := by decide +kernel
theorem dX12_lineOf_0 : decode cX12_lineOf 0 = .ok (.iconst 0, 1) := by decide +kernel
theorem dX12_lineOf_1 : decode cX12_lineOf 1 = .ok (.istore_n 2, 1) := by decide +kernel
theorem dX12_lineOf_2 : decode cX12_lineOf 2 = .ok (.iload_n 2, 1) := by decide +kernel
theorem dX12_lineOf_3 : decode cX12_lineOf 3 = .ok (.aload_n 0, 1) := by decide +kernel
theorem dX12_lineOf_4 : decode cX12_lineOf 4 = .ok (.getfield 43, 3) := by decide +kernel
theorem dX12_lineOf_7 : decode cX12_lineOf 7 = .ok (.iconst 0, 1) := by decide +kernel
theorem dX12_lineOf_8 : decode cX12_lineOf 8 = .ok (.iaload, 1) := by decide +kernel
theorem dX12_lineOf_9 : decode cX12_lineOf 9 = .ok (.if_icmp .ge 56, 3) := by decide +kernel
theorem dX12_lineOf_12 : decode cX12_lineOf 12 = .ok (.aload_n 0, 1) := by decide +kernel
theorem dX12_lineOf_13 : decode cX12_lineOf 13 = .ok (.getfield 46, 3) := by decide +kernel
theorem dX12_lineOf_16 : decode cX12_lineOf 16 = .ok (.iload_n 2, 1) := by decide +kernel
theorem dX12_lineOf_17 : decode cX12_lineOf 17 = .ok (.iaload, 1) := by decide +kernel
theorem dX12_lineOf_18 : decode cX12_lineOf 18 = .ok (.iload_n 1, 1) := by decide +kernel
theorem dX12_lineOf_19 : decode cX12_lineOf 19 = .ok (.if_icmp .ne 40, 3) := by decide +kernel
theorem dX12_lineOf_22 : decode cX12_lineOf 22 = .ok (.aload_n 0, 1) := by decide +kernel
theorem dX12_lineOf_23 : decode cX12_lineOf 23 = .ok (.getfield 52, 3) := by decide +kernel
theorem dX12_lineOf_26 : decode cX12_lineOf 26 = .ok (.iload_n 2, 1) := by decide +kernel
theorem dX12_lineOf_27 : decode cX12_lineOf 27 = .ok (.iaload, 1) := by decide +kernel
theorem dX12_lineOf_28 : decode cX12_lineOf 28 = .ok (.aload_n 0, 1) := by decide +kernel
theorem dX12_lineOf_29 : decode cX12_lineOf 29 = .ok (.getfield 55, 3) := by decide +kernel
theorem dX12_lineOf_32 : decode cX12_lineOf 32 = .ok (.iload_n 2, 1) := by decide +kernel
theorem dX12_lineOf_33 : decode cX12_lineOf 33 = .ok (.iaload, 1) := by decide +kernel
theorem dX12_lineOf_34 : decode cX12_lineOf 34 = .ok (.if_icmp .eq 23, 3) := by decide +kernel
theorem dX12_lineOf_37 : decode cX12_lineOf 37 = .ok (.aload_n 0, 1) := by decide +kernel
theorem dX12_lineOf_38 : decode cX12_lineOf 38 = .ok (.iconst 0, 1) := by decide +kernel
theorem dX12_lineOf_39 : decode cX12_lineOf 39 = .ok (.aload_n 0, 1) := by decide +kernel
theorem dX12_lineOf_40 : decode cX12_lineOf 40 = .ok (.getfield 52, 3) := by decide +kernel
theorem dX12_lineOf_43 : decode cX12_lineOf 43 = .ok (.iload_n 2, 1) := by decide +kernel
theorem dX12_lineOf_44 : decode cX12_lineOf 44 = .ok (.iaload, 1) := by decide +kernel
theorem dX12_lineOf_45 : decode cX12_lineOf 45 = .ok (.aload_n 0, 1) := by decide +kernel
theorem dX12_lineOf_46 : decode cX12_lineOf 46 = .ok (.getfield 55, 3) := by decide +kernel
theorem dX12_lineOf_49 : decode cX12_lineOf 49 = .ok (.iload_n 2, 1) := by decide +kernel
theorem dX12_lineOf_50 : decode cX12_lineOf 50 = .ok (.iaload, 1) := by decide +kernel
theorem dX12_lineOf_51 : decode cX12_lineOf 51 = .ok (.invokevirtual 338, 3) := by decide +kernel
theorem dX12_lineOf_54 : decode cX12_lineOf 54 = .ok (.ifCond .eq 5, 3) := by decide +kernel
theorem dX12_lineOf_57 : decode cX12_lineOf 57 = .ok (.iload_n 2, 1) := by decide +kernel
theorem dX12_lineOf_58 : decode cX12_lineOf 58 = .ok (.ireturn, 1) := by decide +kernel
theorem dX12_lineOf_59 : decode cX12_lineOf 59 = .ok (.iinc 2 1, 3) := by decide +kernel
theorem dX12_lineOf_62 : decode cX12_lineOf 62 = .ok (.goto (-60), 3) := by decide +kernel
theorem dX12_lineOf_65 : decode cX12_lineOf 65 = .ok (.iconst (-1), 1) := by decide +kernel
theorem dX12_lineOf_66 : decode cX12_lineOf 66 = .ok (.ireturn, 1) := by decide +kernel
theorem dX12_asks_0 : decode cX12_asks 0 = .ok (.aload_n 0, 1) := by decide +kernel
theorem dX12_asks_1 : decode cX12_asks 1 = .ok (.getfield 80, 3) := by decide +kernel
theorem dX12_asks_4 : decode cX12_asks 4 = .ok (.iconst 0, 1) := by decide +kernel
theorem dX12_asks_5 : decode cX12_asks 5 = .ok (.aload_n 0, 1) := by decide +kernel
theorem dX12_asks_6 : decode cX12_asks 6 = .ok (.getfield 19, 3) := by decide +kernel
theorem dX12_asks_9 : decode cX12_asks 9 = .ok (.iload_n 2, 1) := by decide +kernel
theorem dX12_asks_10 : decode cX12_asks 10 = .ok (.iaload, 1) := by decide +kernel
theorem dX12_asks_11 : decode cX12_asks 11 = .ok (.iastore, 1) := by decide +kernel
theorem dX12_asks_12 : decode cX12_asks 12 = .ok (.aload_n 0, 1) := by decide +kernel
theorem dX12_asks_13 : decode cX12_asks 13 = .ok (.getfield 80, 3) := by decide +kernel
theorem dX12_asks_16 : decode cX12_asks 16 = .ok (.iconst 1, 1) := by decide +kernel
theorem dX12_asks_17 : decode cX12_asks 17 = .ok (.aload_n 0, 1) := by decide +kernel
theorem dX12_asks_18 : decode cX12_asks 18 = .ok (.getfield 22, 3) := by decide +kernel
theorem dX12_asks_21 : decode cX12_asks 21 = .ok (.iload_n 2, 1) := by decide +kernel
theorem dX12_asks_22 : decode cX12_asks 22 = .ok (.iaload, 1) := by decide +kernel
theorem dX12_asks_23 : decode cX12_asks 23 = .ok (.iastore, 1) := by decide +kernel
theorem dX12_asks_24 : decode cX12_asks 24 = .ok (.aload_n 0, 1) := by decide +kernel
theorem dX12_asks_25 : decode cX12_asks 25 = .ok (.getfield 80, 3) := by decide +kernel
theorem dX12_asks_28 : decode cX12_asks 28 = .ok (.iconst 2, 1) := by decide +kernel
theorem dX12_asks_29 : decode cX12_asks 29 = .ok (.aload_n 0, 1) := by decide +kernel
theorem dX12_asks_30 : decode cX12_asks 30 = .ok (.getfield 25, 3) := by decide +kernel
theorem dX12_asks_33 : decode cX12_asks 33 = .ok (.iload_n 2, 1) := by decide +kernel
theorem dX12_asks_34 : decode cX12_asks 34 = .ok (.iaload, 1) := by decide +kernel
theorem dX12_asks_35 : decode cX12_asks 35 = .ok (.iastore, 1) := by decide +kernel
theorem dX12_asks_36 : decode cX12_asks 36 = .ok (.aload_n 0, 1) := by decide +kernel
theorem dX12_asks_37 : decode cX12_asks 37 = .ok (.getfield 80, 3) := by decide +kernel
theorem dX12_asks_40 : decode cX12_asks 40 = .ok (.iconst 3, 1) := by decide +kernel
theorem dX12_asks_41 : decode cX12_asks 41 = .ok (.aload_n 0, 1) := by decide +kernel
theorem dX12_asks_42 : decode cX12_asks 42 = .ok (.getfield 31, 3) := by decide +kernel
theorem dX12_asks_45 : decode cX12_asks 45 = .ok (.iload_n 1, 1) := by decide +kernel
theorem dX12_asks_46 : decode cX12_asks 46 = .ok (.iaload, 1) := by decide +kernel
theorem dX12_asks_47 : decode cX12_asks 47 = .ok (.iload_n 2, 1) := by decide +kernel
theorem dX12_asks_48 : decode cX12_asks 48 = .ok (.if_icmp .ne 7, 3) := by decide +kernel
theorem dX12_asks_51 : decode cX12_asks 51 = .ok (.iconst 1, 1) := by decide +kernel
theorem dX12_asks_52 : decode cX12_asks 52 = .ok (.goto 4, 3) := by decide +kernel
theorem dX12_asks_55 : decode cX12_asks 55 = .ok (.iconst 0, 1) := by decide +kernel
theorem dX12_asks_56 : decode cX12_asks 56 = .ok (.iastore, 1) := by decide +kernel
theorem dX12_asks_57 : decode cX12_asks 57 = .ok (.aload_n 0, 1) := by decide +kernel
theorem dX12_asks_58 : decode cX12_asks 58 = .ok (.getfield 80, 3) := by decide +kernel
theorem dX12_asks_61 : decode cX12_asks 61 = .ok (.iconst 4, 1) := by decide +kernel
theorem dX12_asks_62 : decode cX12_asks 62 = .ok (.iconst 0, 1) := by decide +kernel
theorem dX12_asks_63 : decode cX12_asks 63 = .ok (.iastore, 1) := by decide +kernel
theorem dX12_asks_64 : decode cX12_asks 64 = .ok (.aload_n 0, 1) := by decide +kernel
theorem dX12_asks_65 : decode cX12_asks 65 = .ok (.getfield 80, 3) := by decide +kernel
theorem dX12_asks_68 : decode cX12_asks 68 = .ok (.iconst 5, 1) := by decide +kernel
theorem dX12_asks_69 : decode cX12_asks 69 = .ok (.iconst 0, 1) := by decide +kernel
theorem dX12_asks_70 : decode cX12_asks 70 = .ok (.iastore, 1) := by decide +kernel
theorem dX12_asks_71 : decode cX12_asks 71 = .ok (.aload_n 0, 1) := by decide +kernel
theorem dX12_asks_72 : decode cX12_asks 72 = .ok (.getfield 80, 3) := by decide +kernel
theorem dX12_asks_75 : decode cX12_asks 75 = .ok (.bipush 6, 2) := by decide +kernel
theorem dX12_asks_77 : decode cX12_asks 77 = .ok (.iconst 0, 1) := by decide +kernel
theorem dX12_asks_78 : decode cX12_asks 78 = .ok (.iastore, 1) := by decide +kernel
theorem dX12_asks_79 : decode cX12_asks 79 = .ok (.aload_n 0, 1) := by decide +kernel
theorem dX12_asks_80 : decode cX12_asks 80 = .ok (.getfield 80, 3) := by decide +kernel
theorem dX12_asks_83 : decode cX12_asks 83 = .ok (.bipush 7, 2) := by decide +kernel
theorem dX12_asks_85 : decode cX12_asks 85 = .ok (.aload_n 0, 1) := by decide +kernel
theorem dX12_asks_86 : decode cX12_asks 86 = .ok (.getfield 28, 3) := by decide +kernel
theorem dX12_asks_89 : decode cX12_asks 89 = .ok (.iload_n 1, 1) := by decide +kernel
theorem dX12_asks_90 : decode cX12_asks 90 = .ok (.iaload, 1) := by decide +kernel
theorem dX12_asks_91 : decode cX12_asks 91 = .ok (.iastore, 1) := by decide +kernel
theorem dX12_asks_92 : decode cX12_asks 92 = .ok (.aload_n 0, 1) := by decide +kernel
theorem dX12_asks_93 : decode cX12_asks 93 = .ok (.getfield 80, 3) := by decide +kernel
theorem dX12_asks_96 : decode cX12_asks 96 = .ok (.bipush 8, 2) := by decide +kernel
theorem dX12_asks_98 : decode cX12_asks 98 = .ok (.aload_n 0, 1) := by decide +kernel
theorem dX12_asks_99 : decode cX12_asks 99 = .ok (.getfield 7, 3) := by decide +kernel
theorem dX12_asks_102 : decode cX12_asks 102 = .ok (.iconst 0, 1) := by decide +kernel
theorem dX12_asks_103 : decode cX12_asks 103 = .ok (.iaload, 1) := by decide +kernel
theorem dX12_asks_104 : decode cX12_asks 104 = .ok (.iastore, 1) := by decide +kernel
theorem dX12_asks_105 : decode cX12_asks 105 = .ok (.aload_n 0, 1) := by decide +kernel
theorem dX12_asks_106 : decode cX12_asks 106 = .ok (.getfield 80, 3) := by decide +kernel
theorem dX12_asks_109 : decode cX12_asks 109 = .ok (.bipush 9, 2) := by decide +kernel
theorem dX12_asks_111 : decode cX12_asks 111 = .ok (.aload_n 0, 1) := by decide +kernel
theorem dX12_asks_112 : decode cX12_asks 112 = .ok (.getfield 7, 3) := by decide +kernel
theorem dX12_asks_115 : decode cX12_asks 115 = .ok (.bipush 33, 2) := by decide +kernel
theorem dX12_asks_117 : decode cX12_asks 117 = .ok (.iload_n 1, 1) := by decide +kernel
theorem dX12_asks_118 : decode cX12_asks 118 = .ok (.iadd, 1) := by decide +kernel
theorem dX12_asks_119 : decode cX12_asks 119 = .ok (.iaload, 1) := by decide +kernel
theorem dX12_asks_120 : decode cX12_asks 120 = .ok (.iastore, 1) := by decide +kernel
theorem dX12_asks_121 : decode cX12_asks 121 = .ok (.aload_n 0, 1) := by decide +kernel
theorem dX12_asks_122 : decode cX12_asks 122 = .ok (.getfield 80, 3) := by decide +kernel
theorem dX12_asks_125 : decode cX12_asks 125 = .ok (.bipush 10, 2) := by decide +kernel
theorem dX12_asks_127 : decode cX12_asks 127 = .ok (.aload_n 0, 1) := by decide +kernel
theorem dX12_asks_128 : decode cX12_asks 128 = .ok (.getfield 7, 3) := by decide +kernel
theorem dX12_asks_131 : decode cX12_asks 131 = .ok (.bipush 25, 2) := by decide +kernel
theorem dX12_asks_133 : decode cX12_asks 133 = .ok (.iload_n 1, 1) := by decide +kernel
theorem dX12_asks_134 : decode cX12_asks 134 = .ok (.iadd, 1) := by decide +kernel
theorem dX12_asks_135 : decode cX12_asks 135 = .ok (.iaload, 1) := by decide +kernel
theorem dX12_asks_136 : decode cX12_asks 136 = .ok (.iastore, 1) := by decide +kernel
theorem dX12_asks_137 : decode cX12_asks 137 = .ok (.return_, 1) := by decide +kernel
theorem dX12_lawTells_0 : decode cX12_lawTells 0 = .ok (.aload_n 0, 1) := by decide +kernel
theorem dX12_lawTells_1 : decode cX12_lawTells 1 = .ok (.iload_n 1, 1) := by decide +kernel
theorem dX12_lawTells_2 : decode cX12_lawTells 2 = .ok (.invokevirtual 341, 3) := by decide +kernel
theorem dX12_lawTells_5 : decode cX12_lawTells 5 = .ok (.istore 5, 2) := by decide +kernel
theorem dX12_lawTells_7 : decode cX12_lawTells 7 = .ok (.aload_n 0, 1) := by decide +kernel
theorem dX12_lawTells_8 : decode cX12_lawTells 8 = .ok (.iload 5, 2) := by decide +kernel
theorem dX12_lawTells_10 : decode cX12_lawTells 10 = .ok (.iconst (-1), 1) := by decide +kernel
theorem dX12_lawTells_11 : decode cX12_lawTells 11 = .ok (.if_icmp .ne 7, 3) := by decide +kernel
theorem dX12_lawTells_14 : decode cX12_lawTells 14 = .ok (.iload_n 2, 1) := by decide +kernel
theorem dX12_lawTells_15 : decode cX12_lawTells 15 = .ok (.goto 22, 3) := by decide +kernel
theorem dX12_lawTells_18 : decode cX12_lawTells 18 = .ok (.aload_n 0, 1) := by decide +kernel
theorem dX12_lawTells_19 : decode cX12_lawTells 19 = .ok (.iconst 0, 1) := by decide +kernel
theorem dX12_lawTells_20 : decode cX12_lawTells 20 = .ok (.aload_n 0, 1) := by decide +kernel
theorem dX12_lawTells_21 : decode cX12_lawTells 21 = .ok (.getfield 49, 3) := by decide +kernel
theorem dX12_lawTells_24 : decode cX12_lawTells 24 = .ok (.iload 5, 2) := by decide +kernel
theorem dX12_lawTells_26 : decode cX12_lawTells 26 = .ok (.iaload, 1) := by decide +kernel
theorem dX12_lawTells_27 : decode cX12_lawTells 27 = .ok (.aload_n 0, 1) := by decide +kernel
theorem dX12_lawTells_28 : decode cX12_lawTells 28 = .ok (.getfield 52, 3) := by decide +kernel
theorem dX12_lawTells_31 : decode cX12_lawTells 31 = .ok (.iload 5, 2) := by decide +kernel
theorem dX12_lawTells_33 : decode cX12_lawTells 33 = .ok (.iaload, 1) := by decide +kernel
theorem dX12_lawTells_34 : decode cX12_lawTells 34 = .ok (.invokevirtual 338, 3) := by decide +kernel
theorem dX12_lawTells_37 : decode cX12_lawTells 37 = .ok (.iload_n 3, 1) := by decide +kernel
theorem dX12_lawTells_38 : decode cX12_lawTells 38 = .ok (.iload 4, 2) := by decide +kernel
theorem dX12_lawTells_40 : decode cX12_lawTells 40 = .ok (.invokevirtual 344, 3) := by decide +kernel
theorem dX12_lawTells_43 : decode cX12_lawTells 43 = .ok (.ireturn, 1) := by decide +kernel
theorem dX12_yesOf_0 : decode cX12_yesOf 0 = .ok (.aload_n 0, 1) := by decide +kernel
theorem dX12_yesOf_1 : decode cX12_yesOf 1 = .ok (.iload_n 1, 1) := by decide +kernel
theorem dX12_yesOf_2 : decode cX12_yesOf 2 = .ok (.iload_n 2, 1) := by decide +kernel
theorem dX12_yesOf_3 : decode cX12_yesOf 3 = .ok (.invokevirtual 347, 3) := by decide +kernel
theorem dX12_yesOf_6 : decode cX12_yesOf 6 = .ok (.aload_n 0, 1) := by decide +kernel
theorem dX12_yesOf_7 : decode cX12_yesOf 7 = .ok (.getfield 80, 3) := by decide +kernel
theorem dX12_yesOf_10 : decode cX12_yesOf 10 = .ok (.iconst 5, 1) := by decide +kernel
theorem dX12_yesOf_11 : decode cX12_yesOf 11 = .ok (.aload_n 0, 1) := by decide +kernel
theorem dX12_yesOf_12 : decode cX12_yesOf 12 = .ok (.getfield 71, 3) := by decide +kernel
theorem dX12_yesOf_15 : decode cX12_yesOf 15 = .ok (.iload_n 3, 1) := by decide +kernel
theorem dX12_yesOf_16 : decode cX12_yesOf 16 = .ok (.iaload, 1) := by decide +kernel
theorem dX12_yesOf_17 : decode cX12_yesOf 17 = .ok (.iastore, 1) := by decide +kernel
theorem dX12_yesOf_18 : decode cX12_yesOf 18 = .ok (.aload_n 0, 1) := by decide +kernel
theorem dX12_yesOf_19 : decode cX12_yesOf 19 = .ok (.getfield 80, 3) := by decide +kernel
theorem dX12_yesOf_22 : decode cX12_yesOf 22 = .ok (.bipush 6, 2) := by decide +kernel
theorem dX12_yesOf_24 : decode cX12_yesOf 24 = .ok (.iload 4, 2) := by decide +kernel
theorem dX12_yesOf_26 : decode cX12_yesOf 26 = .ok (.iastore, 1) := by decide +kernel
theorem dX12_yesOf_27 : decode cX12_yesOf 27 = .ok (.aload_n 0, 1) := by decide +kernel
theorem dX12_yesOf_28 : decode cX12_yesOf 28 = .ok (.iconst 0, 1) := by decide +kernel
theorem dX12_yesOf_29 : decode cX12_yesOf 29 = .ok (.sipush 500, 3) := by decide +kernel
theorem dX12_yesOf_32 : decode cX12_yesOf 32 = .ok (.bipush 40, 2) := by decide +kernel
theorem dX12_yesOf_34 : decode cX12_yesOf 34 = .ok (.aload_n 0, 1) := by decide +kernel
theorem dX12_yesOf_35 : decode cX12_yesOf 35 = .ok (.getfield 22, 3) := by decide +kernel
theorem dX12_yesOf_38 : decode cX12_yesOf 38 = .ok (.iload_n 2, 1) := by decide +kernel
theorem dX12_yesOf_39 : decode cX12_yesOf 39 = .ok (.iaload, 1) := by decide +kernel
theorem dX12_yesOf_40 : decode cX12_yesOf 40 = .ok (.imul, 1) := by decide +kernel
theorem dX12_yesOf_41 : decode cX12_yesOf 41 = .ok (.iadd, 1) := by decide +kernel
theorem dX12_yesOf_42 : decode cX12_yesOf 42 = .ok (.bipush 30, 2) := by decide +kernel
theorem dX12_yesOf_44 : decode cX12_yesOf 44 = .ok (.aload_n 0, 1) := by decide +kernel
theorem dX12_yesOf_45 : decode cX12_yesOf 45 = .ok (.getfield 25, 3) := by decide +kernel
theorem dX12_yesOf_48 : decode cX12_yesOf 48 = .ok (.iload_n 2, 1) := by decide +kernel
theorem dX12_yesOf_49 : decode cX12_yesOf 49 = .ok (.iaload, 1) := by decide +kernel
theorem dX12_yesOf_50 : decode cX12_yesOf 50 = .ok (.imul, 1) := by decide +kernel
theorem dX12_yesOf_51 : decode cX12_yesOf 51 = .ok (.isub, 1) := by decide +kernel
theorem dX12_yesOf_52 : decode cX12_yesOf 52 = .ok (.sipush 200, 3) := by decide +kernel
theorem dX12_yesOf_55 : decode cX12_yesOf 55 = .ok (.aload_n 0, 1) := by decide +kernel
theorem dX12_yesOf_56 : decode cX12_yesOf 56 = .ok (.getfield 80, 3) := by decide +kernel
theorem dX12_yesOf_59 : decode cX12_yesOf 59 = .ok (.iconst 3, 1) := by decide +kernel
theorem dX12_yesOf_60 : decode cX12_yesOf 60 = .ok (.iaload, 1) := by decide +kernel
theorem dX12_yesOf_61 : decode cX12_yesOf 61 = .ok (.imul, 1) := by decide +kernel
theorem dX12_yesOf_62 : decode cX12_yesOf 62 = .ok (.iadd, 1) := by decide +kernel
theorem dX12_yesOf_63 : decode cX12_yesOf 63 = .ok (.iconst 0, 1) := by decide +kernel
theorem dX12_yesOf_64 : decode cX12_yesOf 64 = .ok (.sipush 1000, 3) := by decide +kernel
theorem dX12_yesOf_67 : decode cX12_yesOf 67 = .ok (.invokevirtual 350, 3) := by decide +kernel
theorem dX12_yesOf_70 : decode cX12_yesOf 70 = .ok (.ireturn, 1) := by decide +kernel
theorem dX12_countsOf_0 : decode cX12_countsOf 0 = .ok (.aload_n 0, 1) := by decide +kernel
theorem dX12_countsOf_1 : decode cX12_countsOf 1 = .ok (.iload_n 1, 1) := by decide +kernel
theorem dX12_countsOf_2 : decode cX12_countsOf 2 = .ok (.iload_n 2, 1) := by decide +kernel
theorem dX12_countsOf_3 : decode cX12_countsOf 3 = .ok (.invokevirtual 347, 3) := by decide +kernel
theorem dX12_countsOf_6 : decode cX12_countsOf 6 = .ok (.aload_n 0, 1) := by decide +kernel
theorem dX12_countsOf_7 : decode cX12_countsOf 7 = .ok (.getfield 80, 3) := by decide +kernel
theorem dX12_countsOf_10 : decode cX12_countsOf 10 = .ok (.iconst 4, 1) := by decide +kernel
theorem dX12_countsOf_11 : decode cX12_countsOf 11 = .ok (.iload 5, 2) := by decide +kernel
theorem dX12_countsOf_13 : decode cX12_countsOf 13 = .ok (.iastore, 1) := by decide +kernel
theorem dX12_countsOf_14 : decode cX12_countsOf 14 = .ok (.aload_n 0, 1) := by decide +kernel
theorem dX12_countsOf_15 : decode cX12_countsOf 15 = .ok (.getfield 80, 3) := by decide +kernel
theorem dX12_countsOf_18 : decode cX12_countsOf 18 = .ok (.iconst 5, 1) := by decide +kernel
theorem dX12_countsOf_19 : decode cX12_countsOf 19 = .ok (.aload_n 0, 1) := by decide +kernel
theorem dX12_countsOf_20 : decode cX12_countsOf 20 = .ok (.getfield 71, 3) := by decide +kernel
theorem dX12_countsOf_23 : decode cX12_countsOf 23 = .ok (.iload_n 3, 1) := by decide +kernel
theorem dX12_countsOf_24 : decode cX12_countsOf 24 = .ok (.iaload, 1) := by decide +kernel
theorem dX12_countsOf_25 : decode cX12_countsOf 25 = .ok (.iastore, 1) := by decide +kernel
theorem dX12_countsOf_26 : decode cX12_countsOf 26 = .ok (.aload_n 0, 1) := by decide +kernel
theorem dX12_countsOf_27 : decode cX12_countsOf 27 = .ok (.getfield 80, 3) := by decide +kernel
theorem dX12_countsOf_30 : decode cX12_countsOf 30 = .ok (.bipush 6, 2) := by decide +kernel
theorem dX12_countsOf_32 : decode cX12_countsOf 32 = .ok (.iload 4, 2) := by decide +kernel
theorem dX12_countsOf_34 : decode cX12_countsOf 34 = .ok (.iastore, 1) := by decide +kernel
theorem dX12_countsOf_35 : decode cX12_countsOf 35 = .ok (.aload_n 0, 1) := by decide +kernel
theorem dX12_countsOf_36 : decode cX12_countsOf 36 = .ok (.iconst 1, 1) := by decide +kernel
theorem dX12_countsOf_37 : decode cX12_countsOf 37 = .ok (.iconst 1, 1) := by decide +kernel
theorem dX12_countsOf_38 : decode cX12_countsOf 38 = .ok (.bipush (-99), 2) := by decide +kernel
theorem dX12_countsOf_40 : decode cX12_countsOf 40 = .ok (.bipush 99, 2) := by decide +kernel
theorem dX12_countsOf_42 : decode cX12_countsOf 42 = .ok (.invokevirtual 350, 3) := by decide +kernel
theorem dX12_countsOf_45 : decode cX12_countsOf 45 = .ok (.ireturn, 1) := by decide +kernel
theorem dX12_joyOf_0 : decode cX12_joyOf 0 = .ok (.aload_n 0, 1) := by decide +kernel
theorem dX12_joyOf_1 : decode cX12_joyOf 1 = .ok (.iload_n 1, 1) := by decide +kernel
theorem dX12_joyOf_2 : decode cX12_joyOf 2 = .ok (.iload_n 2, 1) := by decide +kernel
theorem dX12_joyOf_3 : decode cX12_joyOf 3 = .ok (.invokevirtual 347, 3) := by decide +kernel
theorem dX12_joyOf_6 : decode cX12_joyOf 6 = .ok (.aload_n 0, 1) := by decide +kernel
theorem dX12_joyOf_7 : decode cX12_joyOf 7 = .ok (.iconst 2, 1) := by decide +kernel
theorem dX12_joyOf_8 : decode cX12_joyOf 8 = .ok (.aload_n 0, 1) := by decide +kernel
theorem dX12_joyOf_9 : decode cX12_joyOf 9 = .ok (.getfield 22, 3) := by decide +kernel
theorem dX12_joyOf_12 : decode cX12_joyOf 12 = .ok (.iload_n 2, 1) := by decide +kernel
theorem dX12_joyOf_13 : decode cX12_joyOf 13 = .ok (.iaload, 1) := by decide +kernel
theorem dX12_joyOf_14 : decode cX12_joyOf 14 = .ok (.iconst 4, 1) := by decide +kernel
theorem dX12_joyOf_15 : decode cX12_joyOf 15 = .ok (.isub, 1) := by decide +kernel
theorem dX12_joyOf_16 : decode cX12_joyOf 16 = .ok (.aload_n 0, 1) := by decide +kernel
theorem dX12_joyOf_17 : decode cX12_joyOf 17 = .ok (.getfield 80, 3) := by decide +kernel
theorem dX12_joyOf_20 : decode cX12_joyOf 20 = .ok (.iconst 3, 1) := by decide +kernel
theorem dX12_joyOf_21 : decode cX12_joyOf 21 = .ok (.iaload, 1) := by decide +kernel
theorem dX12_joyOf_22 : decode cX12_joyOf 22 = .ok (.iadd, 1) := by decide +kernel
theorem dX12_joyOf_23 : decode cX12_joyOf 23 = .ok (.bipush (-20), 2) := by decide +kernel
theorem dX12_joyOf_25 : decode cX12_joyOf 25 = .ok (.bipush 20, 2) := by decide +kernel
theorem dX12_joyOf_27 : decode cX12_joyOf 27 = .ok (.invokevirtual 350, 3) := by decide +kernel
theorem dX12_joyOf_30 : decode cX12_joyOf 30 = .ok (.ireturn, 1) := by decide +kernel
theorem dX12_notes_0 : decode cX12_notes 0 = .ok (.aload_n 0, 1) := by decide +kernel
theorem dX12_notes_1 : decode cX12_notes 1 = .ok (.getfield 155, 3) := by decide +kernel
theorem dX12_notes_4 : decode cX12_notes 4 = .ok (.ifCond .ne 15, 3) := by decide +kernel
theorem dX12_notes_7 : decode cX12_notes 7 = .ok (.aload_n 0, 1) := by decide +kernel
theorem dX12_notes_8 : decode cX12_notes 8 = .ok (.getfield 7, 3) := by decide +kernel
theorem dX12_notes_11 : decode cX12_notes 11 = .ok (.iconst 2, 1) := by decide +kernel
theorem dX12_notes_12 : decode cX12_notes 12 = .ok (.iaload, 1) := by decide +kernel
theorem dX12_notes_13 : decode cX12_notes 13 = .ok (.sipush 150, 3) := by decide +kernel
theorem dX12_notes_16 : decode cX12_notes 16 = .ok (.if_icmp .ne 4, 3) := by decide +kernel
theorem dX12_notes_19 : decode cX12_notes 19 = .ok (.return_, 1) := by decide +kernel
theorem dX12_notes_20 : decode cX12_notes 20 = .ok (.iconst 4, 1) := by decide +kernel
theorem dX12_notes_21 : decode cX12_notes 21 = .ok (.aload_n 0, 1) := by decide +kernel
theorem dX12_notes_22 : decode cX12_notes 22 = .ok (.getfield 7, 3) := by decide +kernel
theorem dX12_notes_25 : decode cX12_notes 25 = .ok (.iconst 2, 1) := by decide +kernel
theorem dX12_notes_26 : decode cX12_notes 26 = .ok (.iaload, 1) := by decide +kernel
theorem dX12_notes_27 : decode cX12_notes 27 = .ok (.imul, 1) := by decide +kernel
theorem dX12_notes_28 : decode cX12_notes 28 = .ok (.istore 4, 2) := by decide +kernel
theorem dX12_notes_30 : decode cX12_notes 30 = .ok (.aload_n 0, 1) := by decide +kernel
theorem dX12_notes_31 : decode cX12_notes 31 = .ok (.getfield 34, 3) := by decide +kernel
theorem dX12_notes_34 : decode cX12_notes 34 = .ok (.iload 4, 2) := by decide +kernel
theorem dX12_notes_36 : decode cX12_notes 36 = .ok (.aload_n 0, 1) := by decide +kernel
theorem dX12_notes_37 : decode cX12_notes 37 = .ok (.getfield 7, 3) := by decide +kernel
theorem dX12_notes_40 : decode cX12_notes 40 = .ok (.iconst 0, 1) := by decide +kernel
theorem dX12_notes_41 : decode cX12_notes 41 = .ok (.iaload, 1) := by decide +kernel
theorem dX12_notes_42 : decode cX12_notes 42 = .ok (.iastore, 1) := by decide +kernel
theorem dX12_notes_43 : decode cX12_notes 43 = .ok (.aload_n 0, 1) := by decide +kernel
theorem dX12_notes_44 : decode cX12_notes 44 = .ok (.getfield 34, 3) := by decide +kernel
theorem dX12_notes_47 : decode cX12_notes 47 = .ok (.iload 4, 2) := by decide +kernel
theorem dX12_notes_49 : decode cX12_notes 49 = .ok (.iconst 1, 1) := by decide +kernel
theorem dX12_notes_50 : decode cX12_notes 50 = .ok (.iadd, 1) := by decide +kernel
theorem dX12_notes_51 : decode cX12_notes 51 = .ok (.iload_n 1, 1) := by decide +kernel
theorem dX12_notes_52 : decode cX12_notes 52 = .ok (.iastore, 1) := by decide +kernel
theorem dX12_notes_53 : decode cX12_notes 53 = .ok (.aload_n 0, 1) := by decide +kernel
theorem dX12_notes_54 : decode cX12_notes 54 = .ok (.getfield 34, 3) := by decide +kernel
theorem dX12_notes_57 : decode cX12_notes 57 = .ok (.iload 4, 2) := by decide +kernel
theorem dX12_notes_59 : decode cX12_notes 59 = .ok (.iconst 2, 1) := by decide +kernel
theorem dX12_notes_60 : decode cX12_notes 60 = .ok (.iadd, 1) := by decide +kernel
theorem dX12_notes_61 : decode cX12_notes 61 = .ok (.iload_n 2, 1) := by decide +kernel
theorem dX12_notes_62 : decode cX12_notes 62 = .ok (.iastore, 1) := by decide +kernel
theorem dX12_notes_63 : decode cX12_notes 63 = .ok (.aload_n 0, 1) := by decide +kernel
theorem dX12_notes_64 : decode cX12_notes 64 = .ok (.getfield 34, 3) := by decide +kernel
theorem dX12_notes_67 : decode cX12_notes 67 = .ok (.iload 4, 2) := by decide +kernel
theorem dX12_notes_69 : decode cX12_notes 69 = .ok (.iconst 3, 1) := by decide +kernel
theorem dX12_notes_70 : decode cX12_notes 70 = .ok (.iadd, 1) := by decide +kernel
theorem dX12_notes_71 : decode cX12_notes 71 = .ok (.iload_n 3, 1) := by decide +kernel
theorem dX12_notes_72 : decode cX12_notes 72 = .ok (.iastore, 1) := by decide +kernel
theorem dX12_notes_73 : decode cX12_notes 73 = .ok (.aload_n 0, 1) := by decide +kernel
theorem dX12_notes_74 : decode cX12_notes 74 = .ok (.getfield 7, 3) := by decide +kernel
theorem dX12_notes_77 : decode cX12_notes 77 = .ok (.iconst 2, 1) := by decide +kernel
theorem dX12_notes_78 : decode cX12_notes 78 = .ok (.aload_n 0, 1) := by decide +kernel
theorem dX12_notes_79 : decode cX12_notes 79 = .ok (.getfield 7, 3) := by decide +kernel
theorem dX12_notes_82 : decode cX12_notes 82 = .ok (.iconst 2, 1) := by decide +kernel
theorem dX12_notes_83 : decode cX12_notes 83 = .ok (.iaload, 1) := by decide +kernel
theorem dX12_notes_84 : decode cX12_notes 84 = .ok (.iconst 1, 1) := by decide +kernel
theorem dX12_notes_85 : decode cX12_notes 85 = .ok (.iadd, 1) := by decide +kernel
theorem dX12_notes_86 : decode cX12_notes 86 = .ok (.iastore, 1) := by decide +kernel
theorem dX12_notes_87 : decode cX12_notes 87 = .ok (.return_, 1) := by decide +kernel
theorem dX12_isSent_0 : decode cX12_isSent 0 = .ok (.aload_n 0, 1) := by decide +kernel
theorem dX12_isSent_1 : decode cX12_isSent 1 = .ok (.getfield 86, 3) := by decide +kernel
theorem dX12_isSent_4 : decode cX12_isSent 4 = .ok (.iconst 0, 1) := by decide +kernel
theorem dX12_isSent_5 : decode cX12_isSent 5 = .ok (.iload_n 1, 1) := by decide +kernel
theorem dX12_isSent_6 : decode cX12_isSent 6 = .ok (.iastore, 1) := by decide +kernel
theorem dX12_isSent_7 : decode cX12_isSent 7 = .ok (.aload_n 0, 1) := by decide +kernel
theorem dX12_isSent_8 : decode cX12_isSent 8 = .ok (.getfield 86, 3) := by decide +kernel
theorem dX12_isSent_11 : decode cX12_isSent 11 = .ok (.iconst 1, 1) := by decide +kernel
theorem dX12_isSent_12 : decode cX12_isSent 12 = .ok (.iload_n 2, 1) := by decide +kernel
theorem dX12_isSent_13 : decode cX12_isSent 13 = .ok (.iastore, 1) := by decide +kernel
theorem dX12_isSent_14 : decode cX12_isSent 14 = .ok (.aload_n 0, 1) := by decide +kernel
theorem dX12_isSent_15 : decode cX12_isSent 15 = .ok (.getfield 86, 3) := by decide +kernel
theorem dX12_isSent_18 : decode cX12_isSent 18 = .ok (.iconst 2, 1) := by decide +kernel
theorem dX12_isSent_19 : decode cX12_isSent 19 = .ok (.iload_n 3, 1) := by decide +kernel
theorem dX12_isSent_20 : decode cX12_isSent 20 = .ok (.iastore, 1) := by decide +kernel
theorem dX12_isSent_21 : decode cX12_isSent 21 = .ok (.return_, 1) := by decide +kernel
theorem dX12_isAsked_0 : decode cX12_isAsked 0 = .ok (.aload_n 0, 1) := by decide +kernel
theorem dX12_isAsked_1 : decode cX12_isAsked 1 = .ok (.getfield 86, 3) := by decide +kernel
theorem dX12_isAsked_4 : decode cX12_isAsked 4 = .ok (.iload_n 3, 1) := by decide +kernel
theorem dX12_isAsked_5 : decode cX12_isAsked 5 = .ok (.iaload, 1) := by decide +kernel
theorem dX12_isAsked_6 : decode cX12_isAsked 6 = .ok (.istore 4, 2) := by decide +kernel
theorem dX12_isAsked_8 : decode cX12_isAsked 8 = .ok (.aload_n 0, 1) := by decide +kernel
theorem dX12_isAsked_9 : decode cX12_isAsked 9 = .ok (.iload_n 1, 1) := by decide +kernel
theorem dX12_isAsked_10 : decode cX12_isAsked 10 = .ok (.iload 4, 2) := by decide +kernel
theorem dX12_isAsked_12 : decode cX12_isAsked 12 = .ok (.iload_n 2, 1) := by decide +kernel
theorem dX12_isAsked_13 : decode cX12_isAsked 13 = .ok (.iload_n 3, 1) := by decide +kernel
theorem dX12_isAsked_14 : decode cX12_isAsked 14 = .ok (.invokevirtual 354, 3) := by decide +kernel
theorem dX12_isAsked_17 : decode cX12_isAsked 17 = .ok (.istore 5, 2) := by decide +kernel
theorem dX12_isAsked_19 : decode cX12_isAsked 19 = .ok (.aload_n 0, 1) := by decide +kernel
theorem dX12_isAsked_20 : decode cX12_isAsked 20 = .ok (.getfield 155, 3) := by decide +kernel
theorem dX12_isAsked_23 : decode cX12_isAsked 23 = .ok (.ifCond .eq 21, 3) := by decide +kernel
theorem dX12_isAsked_26 : decode cX12_isAsked 26 = .ok (.iconst 2, 1) := by decide +kernel
theorem dX12_isAsked_27 : decode cX12_isAsked 27 = .ok (.iload 5, 2) := by decide +kernel
theorem dX12_isAsked_29 : decode cX12_isAsked 29 = .ok (.imul, 1) := by decide +kernel
theorem dX12_isAsked_30 : decode cX12_isAsked 30 = .ok (.sipush 1000, 3) := by decide +kernel
theorem dX12_isAsked_33 : decode cX12_isAsked 33 = .ok (.if_icmp .lt 7, 3) := by decide +kernel
theorem dX12_isAsked_36 : decode cX12_isAsked 36 = .ok (.iconst 1, 1) := by decide +kernel
theorem dX12_isAsked_37 : decode cX12_isAsked 37 = .ok (.goto 24, 3) := by decide +kernel
theorem dX12_isAsked_40 : decode cX12_isAsked 40 = .ok (.iconst 0, 1) := by decide +kernel
theorem dX12_isAsked_41 : decode cX12_isAsked 41 = .ok (.goto 20, 3) := by decide +kernel
theorem dX12_isAsked_44 : decode cX12_isAsked 44 = .ok (.aload_n 0, 1) := by decide +kernel
theorem dX12_isAsked_45 : decode cX12_isAsked 45 = .ok (.sipush 1000, 3) := by decide +kernel
theorem dX12_isAsked_48 : decode cX12_isAsked 48 = .ok (.invokevirtual 357, 3) := by decide +kernel
theorem dX12_isAsked_51 : decode cX12_isAsked 51 = .ok (.iload 5, 2) := by decide +kernel
theorem dX12_isAsked_53 : decode cX12_isAsked 53 = .ok (.if_icmp .ge 7, 3) := by decide +kernel
theorem dX12_isAsked_56 : decode cX12_isAsked 56 = .ok (.iconst 1, 1) := by decide +kernel
theorem dX12_isAsked_57 : decode cX12_isAsked 57 = .ok (.goto 4, 3) := by decide +kernel
theorem dX12_isAsked_60 : decode cX12_isAsked 60 = .ok (.iconst 0, 1) := by decide +kernel
theorem dX12_isAsked_61 : decode cX12_isAsked 61 = .ok (.istore 6, 2) := by decide +kernel
theorem dX12_isAsked_63 : decode cX12_isAsked 63 = .ok (.aload_n 0, 1) := by decide +kernel
theorem dX12_isAsked_64 : decode cX12_isAsked 64 = .ok (.iload 6, 2) := by decide +kernel
theorem dX12_isAsked_66 : decode cX12_isAsked 66 = .ok (.ifCond .eq 7, 3) := by decide +kernel
theorem dX12_isAsked_69 : decode cX12_isAsked 69 = .ok (.iconst 0, 1) := by decide +kernel
theorem dX12_isAsked_70 : decode cX12_isAsked 70 = .ok (.goto 4, 3) := by decide +kernel
theorem dX12_isAsked_73 : decode cX12_isAsked 73 = .ok (.iconst 1, 1) := by decide +kernel
theorem dX12_isAsked_74 : decode cX12_isAsked 74 = .ok (.iload 4, 2) := by decide +kernel
theorem dX12_isAsked_76 : decode cX12_isAsked 76 = .ok (.aload_n 0, 1) := by decide +kernel
theorem dX12_isAsked_77 : decode cX12_isAsked 77 = .ok (.getfield 71, 3) := by decide +kernel
theorem dX12_isAsked_80 : decode cX12_isAsked 80 = .ok (.iload_n 2, 1) := by decide +kernel
theorem dX12_isAsked_81 : decode cX12_isAsked 81 = .ok (.iaload, 1) := by decide +kernel
theorem dX12_isAsked_82 : decode cX12_isAsked 82 = .ok (.invokevirtual 360, 3) := by decide +kernel
theorem dX12_isAsked_85 : decode cX12_isAsked 85 = .ok (.aload_n 0, 1) := by decide +kernel
theorem dX12_isAsked_86 : decode cX12_isAsked 86 = .ok (.getfield 89, 3) := by decide +kernel
theorem dX12_isAsked_89 : decode cX12_isAsked 89 = .ok (.iload_n 3, 1) := by decide +kernel
theorem dX12_isAsked_90 : decode cX12_isAsked 90 = .ok (.aload_n 0, 1) := by decide +kernel
theorem dX12_isAsked_91 : decode cX12_isAsked 91 = .ok (.getfield 89, 3) := by decide +kernel
theorem dX12_isAsked_94 : decode cX12_isAsked 94 = .ok (.iload_n 3, 1) := by decide +kernel
theorem dX12_isAsked_95 : decode cX12_isAsked 95 = .ok (.iaload, 1) := by decide +kernel
theorem dX12_isAsked_96 : decode cX12_isAsked 96 = .ok (.aload_n 0, 1) := by decide +kernel
theorem dX12_isAsked_97 : decode cX12_isAsked 97 = .ok (.iload_n 1, 1) := by decide +kernel
theorem dX12_isAsked_98 : decode cX12_isAsked 98 = .ok (.iload 4, 2) := by decide +kernel
theorem dX12_isAsked_100 : decode cX12_isAsked 100 = .ok (.iload_n 2, 1) := by decide +kernel
theorem dX12_isAsked_101 : decode cX12_isAsked 101 = .ok (.iload_n 3, 1) := by decide +kernel
theorem dX12_isAsked_102 : decode cX12_isAsked 102 = .ok (.iload 6, 2) := by decide +kernel
theorem dX12_isAsked_104 : decode cX12_isAsked 104 = .ok (.ifCond .eq 7, 3) := by decide +kernel
theorem dX12_isAsked_107 : decode cX12_isAsked 107 = .ok (.iconst 1, 1) := by decide +kernel
theorem dX12_isAsked_108 : decode cX12_isAsked 108 = .ok (.goto 4, 3) := by decide +kernel
theorem dX12_isAsked_111 : decode cX12_isAsked 111 = .ok (.iconst 0, 1) := by decide +kernel
theorem dX12_isAsked_112 : decode cX12_isAsked 112 = .ok (.invokevirtual 364, 3) := by decide +kernel
theorem dX12_isAsked_115 : decode cX12_isAsked 115 = .ok (.iadd, 1) := by decide +kernel
theorem dX12_isAsked_116 : decode cX12_isAsked 116 = .ok (.iastore, 1) := by decide +kernel
theorem dX12_isAsked_117 : decode cX12_isAsked 117 = .ok (.return_, 1) := by decide +kernel
theorem dX12_takes_0 : decode cX12_takes 0 = .ok (.iconst 0, 1) := by decide +kernel
theorem dX12_takes_1 : decode cX12_takes 1 = .ok (.istore_n 2, 1) := by decide +kernel
theorem dX12_takes_2 : decode cX12_takes 2 = .ok (.iload_n 2, 1) := by decide +kernel
theorem dX12_takes_3 : decode cX12_takes 3 = .ok (.iconst 3, 1) := by decide +kernel
theorem dX12_takes_4 : decode cX12_takes 4 = .ok (.if_icmp .ge 16, 3) := by decide +kernel
theorem dX12_takes_7 : decode cX12_takes 7 = .ok (.aload_n 0, 1) := by decide +kernel
theorem dX12_takes_8 : decode cX12_takes 8 = .ok (.getfield 89, 3) := by decide +kernel
theorem dX12_takes_11 : decode cX12_takes 11 = .ok (.iload_n 2, 1) := by decide +kernel
theorem dX12_takes_12 : decode cX12_takes 12 = .ok (.iconst 0, 1) := by decide +kernel
theorem dX12_takes_13 : decode cX12_takes 13 = .ok (.iastore, 1) := by decide +kernel
theorem dX12_takes_14 : decode cX12_takes 14 = .ok (.iinc 2 1, 3) := by decide +kernel
theorem dX12_takes_17 : decode cX12_takes 17 = .ok (.goto (-15), 3) := by decide +kernel
theorem dX12_takes_20 : decode cX12_takes 20 = .ok (.iconst 0, 1) := by decide +kernel
theorem dX12_takes_21 : decode cX12_takes 21 = .ok (.istore_n 2, 1) := by decide +kernel
theorem dX12_takes_22 : decode cX12_takes 22 = .ok (.iload_n 2, 1) := by decide +kernel
theorem dX12_takes_23 : decode cX12_takes 23 = .ok (.aload_n 0, 1) := by decide +kernel
theorem dX12_takes_24 : decode cX12_takes 24 = .ok (.getfield 317, 3) := by decide +kernel
theorem dX12_takes_27 : decode cX12_takes 27 = .ok (.if_icmp .ge 29, 3) := by decide +kernel
theorem dX12_takes_30 : decode cX12_takes 30 = .ok (.iconst 0, 1) := by decide +kernel
theorem dX12_takes_31 : decode cX12_takes 31 = .ok (.istore_n 3, 1) := by decide +kernel
theorem dX12_takes_32 : decode cX12_takes 32 = .ok (.iload_n 3, 1) := by decide +kernel
theorem dX12_takes_33 : decode cX12_takes 33 = .ok (.iconst 3, 1) := by decide +kernel
theorem dX12_takes_34 : decode cX12_takes 34 = .ok (.if_icmp .ge 16, 3) := by decide +kernel
theorem dX12_takes_37 : decode cX12_takes 37 = .ok (.aload_n 0, 1) := by decide +kernel
theorem dX12_takes_38 : decode cX12_takes 38 = .ok (.iload_n 1, 1) := by decide +kernel
theorem dX12_takes_39 : decode cX12_takes 39 = .ok (.iload_n 2, 1) := by decide +kernel
theorem dX12_takes_40 : decode cX12_takes 40 = .ok (.iload_n 3, 1) := by decide +kernel
theorem dX12_takes_41 : decode cX12_takes 41 = .ok (.invokevirtual 368, 3) := by decide +kernel
theorem dX12_takes_44 : decode cX12_takes 44 = .ok (.iinc 3 1, 3) := by decide +kernel
theorem dX12_takes_47 : decode cX12_takes 47 = .ok (.goto (-15), 3) := by decide +kernel
theorem dX12_takes_50 : decode cX12_takes 50 = .ok (.iinc 2 1, 3) := by decide +kernel
theorem dX12_takes_53 : decode cX12_takes 53 = .ok (.goto (-31), 3) := by decide +kernel
theorem dX12_takes_56 : decode cX12_takes 56 = .ok (.iconst 0, 1) := by decide +kernel
theorem dX12_takes_57 : decode cX12_takes 57 = .ok (.istore_n 2, 1) := by decide +kernel
theorem dX12_takes_58 : decode cX12_takes 58 = .ok (.iload_n 2, 1) := by decide +kernel
theorem dX12_takes_59 : decode cX12_takes 59 = .ok (.iconst 3, 1) := by decide +kernel
theorem dX12_takes_60 : decode cX12_takes 60 = .ok (.if_icmp .ge 81, 3) := by decide +kernel
theorem dX12_takes_63 : decode cX12_takes 63 = .ok (.aload_n 0, 1) := by decide +kernel
theorem dX12_takes_64 : decode cX12_takes 64 = .ok (.aload_n 0, 1) := by decide +kernel
theorem dX12_takes_65 : decode cX12_takes 65 = .ok (.getfield 7, 3) := by decide +kernel
theorem dX12_takes_68 : decode cX12_takes 68 = .ok (.iconst 4, 1) := by decide +kernel
theorem dX12_takes_69 : decode cX12_takes 69 = .ok (.iaload, 1) := by decide +kernel
theorem dX12_takes_70 : decode cX12_takes 70 = .ok (.aload_n 0, 1) := by decide +kernel
theorem dX12_takes_71 : decode cX12_takes 71 = .ok (.getfield 86, 3) := by decide +kernel
theorem dX12_takes_74 : decode cX12_takes 74 = .ok (.iload_n 2, 1) := by decide +kernel
theorem dX12_takes_75 : decode cX12_takes 75 = .ok (.iaload, 1) := by decide +kernel
theorem dX12_takes_76 : decode cX12_takes 76 = .ok (.invokevirtual 371, 3) := by decide +kernel
theorem dX12_takes_79 : decode cX12_takes 79 = .ok (.ifCond .ne 6, 3) := by decide +kernel
theorem dX12_takes_82 : decode cX12_takes 82 = .ok (.goto 53, 3) := by decide +kernel
theorem dX12_takes_85 : decode cX12_takes 85 = .ok (.aload_n 0, 1) := by decide +kernel
theorem dX12_takes_86 : decode cX12_takes 86 = .ok (.getfield 89, 3) := by decide +kernel
theorem dX12_takes_89 : decode cX12_takes 89 = .ok (.iload_n 2, 1) := by decide +kernel
theorem dX12_takes_90 : decode cX12_takes 90 = .ok (.aload_n 0, 1) := by decide +kernel
theorem dX12_takes_91 : decode cX12_takes 91 = .ok (.getfield 89, 3) := by decide +kernel
theorem dX12_takes_94 : decode cX12_takes 94 = .ok (.iload_n 2, 1) := by decide +kernel
theorem dX12_takes_95 : decode cX12_takes 95 = .ok (.iaload, 1) := by decide +kernel
theorem dX12_takes_96 : decode cX12_takes 96 = .ok (.bipush 10, 2) := by decide +kernel
theorem dX12_takes_98 : decode cX12_takes 98 = .ok (.iadd, 1) := by decide +kernel
theorem dX12_takes_99 : decode cX12_takes 99 = .ok (.iastore, 1) := by decide +kernel
theorem dX12_takes_100 : decode cX12_takes 100 = .ok (.aload_n 0, 1) := by decide +kernel
theorem dX12_takes_101 : decode cX12_takes 101 = .ok (.getfield 7, 3) := by decide +kernel
theorem dX12_takes_104 : decode cX12_takes 104 = .ok (.iconst 4, 1) := by decide +kernel
theorem dX12_takes_105 : decode cX12_takes 105 = .ok (.aload_n 0, 1) := by decide +kernel
theorem dX12_takes_106 : decode cX12_takes 106 = .ok (.getfield 7, 3) := by decide +kernel
theorem dX12_takes_109 : decode cX12_takes 109 = .ok (.iconst 4, 1) := by decide +kernel
theorem dX12_takes_110 : decode cX12_takes 110 = .ok (.iaload, 1) := by decide +kernel
theorem dX12_takes_111 : decode cX12_takes 111 = .ok (.iconst 1, 1) := by decide +kernel
theorem dX12_takes_112 : decode cX12_takes 112 = .ok (.aload_n 0, 1) := by decide +kernel
theorem dX12_takes_113 : decode cX12_takes 113 = .ok (.getfield 86, 3) := by decide +kernel
theorem dX12_takes_116 : decode cX12_takes 116 = .ok (.iload_n 2, 1) := by decide +kernel
theorem dX12_takes_117 : decode cX12_takes 117 = .ok (.iaload, 1) := by decide +kernel
theorem dX12_takes_118 : decode cX12_takes 118 = .ok (.ishl, 1) := by decide +kernel
theorem dX12_takes_119 : decode cX12_takes 119 = .ok (.iconst (-1), 1) := by decide +kernel
theorem dX12_takes_120 : decode cX12_takes 120 = .ok (.ixor, 1) := by decide +kernel
theorem dX12_takes_121 : decode cX12_takes 121 = .ok (.iand, 1) := by decide +kernel
theorem dX12_takes_122 : decode cX12_takes 122 = .ok (.iastore, 1) := by decide +kernel
theorem dX12_takes_123 : decode cX12_takes 123 = .ok (.aload_n 0, 1) := by decide +kernel
theorem dX12_takes_124 : decode cX12_takes 124 = .ok (.iconst 2, 1) := by decide +kernel
theorem dX12_takes_125 : decode cX12_takes 125 = .ok (.aload_n 0, 1) := by decide +kernel
theorem dX12_takes_126 : decode cX12_takes 126 = .ok (.getfield 86, 3) := by decide +kernel
theorem dX12_takes_129 : decode cX12_takes 129 = .ok (.iload_n 2, 1) := by decide +kernel
theorem dX12_takes_130 : decode cX12_takes 130 = .ok (.iaload, 1) := by decide +kernel
theorem dX12_takes_131 : decode cX12_takes 131 = .ok (.iload_n 2, 1) := by decide +kernel
theorem dX12_takes_132 : decode cX12_takes 132 = .ok (.invokevirtual 360, 3) := by decide +kernel
theorem dX12_takes_135 : decode cX12_takes 135 = .ok (.iinc 2 1, 3) := by decide +kernel
theorem dX12_takes_138 : decode cX12_takes 138 = .ok (.goto (-80), 3) := by decide +kernel
theorem dX12_takes_141 : decode cX12_takes 141 = .ok (.iconst 0, 1) := by decide +kernel
theorem dX12_takes_142 : decode cX12_takes 142 = .ok (.istore_n 2, 1) := by decide +kernel
theorem dX12_takes_143 : decode cX12_takes 143 = .ok (.iconst 1, 1) := by decide +kernel
theorem dX12_takes_144 : decode cX12_takes 144 = .ok (.istore_n 3, 1) := by decide +kernel
theorem dX12_takes_145 : decode cX12_takes 145 = .ok (.iload_n 3, 1) := by decide +kernel
theorem dX12_takes_146 : decode cX12_takes 146 = .ok (.iconst 3, 1) := by decide +kernel
theorem dX12_takes_147 : decode cX12_takes 147 = .ok (.if_icmp .ge 26, 3) := by decide +kernel
theorem dX12_takes_150 : decode cX12_takes 150 = .ok (.aload_n 0, 1) := by decide +kernel
theorem dX12_takes_151 : decode cX12_takes 151 = .ok (.getfield 89, 3) := by decide +kernel
theorem dX12_takes_154 : decode cX12_takes 154 = .ok (.iload_n 3, 1) := by decide +kernel
theorem dX12_takes_155 : decode cX12_takes 155 = .ok (.iaload, 1) := by decide +kernel
theorem dX12_takes_156 : decode cX12_takes 156 = .ok (.aload_n 0, 1) := by decide +kernel
theorem dX12_takes_157 : decode cX12_takes 157 = .ok (.getfield 89, 3) := by decide +kernel
theorem dX12_takes_160 : decode cX12_takes 160 = .ok (.iload_n 2, 1) := by decide +kernel
theorem dX12_takes_161 : decode cX12_takes 161 = .ok (.iaload, 1) := by decide +kernel
theorem dX12_takes_162 : decode cX12_takes 162 = .ok (.if_icmp .le 5, 3) := by decide +kernel
theorem dX12_takes_165 : decode cX12_takes 165 = .ok (.iload_n 3, 1) := by decide +kernel
theorem dX12_takes_166 : decode cX12_takes 166 = .ok (.istore_n 2, 1) := by decide +kernel
theorem dX12_takes_167 : decode cX12_takes 167 = .ok (.iinc 3 1, 3) := by decide +kernel
theorem dX12_takes_170 : decode cX12_takes 170 = .ok (.goto (-25), 3) := by decide +kernel
theorem dX12_takes_173 : decode cX12_takes 173 = .ok (.iload_n 2, 1) := by decide +kernel
theorem dX12_takes_174 : decode cX12_takes 174 = .ok (.ireturn, 1) := by decide +kernel
theorem dX12_weds_0 : decode cX12_weds 0 = .ok (.aload_n 0, 1) := by decide +kernel
theorem dX12_weds_1 : decode cX12_weds 1 = .ok (.iload_n 2, 1) := by decide +kernel
theorem dX12_weds_2 : decode cX12_weds 2 = .ok (.iload_n 3, 1) := by decide +kernel
theorem dX12_weds_3 : decode cX12_weds 3 = .ok (.iload 4, 2) := by decide +kernel
theorem dX12_weds_5 : decode cX12_weds 5 = .ok (.invokevirtual 375, 3) := by decide +kernel
theorem dX12_weds_8 : decode cX12_weds 8 = .ok (.aload_n 0, 1) := by decide +kernel
theorem dX12_weds_9 : decode cX12_weds 9 = .ok (.iload_n 1, 1) := by decide +kernel
theorem dX12_weds_10 : decode cX12_weds 10 = .ok (.invokevirtual 378, 3) := by decide +kernel
theorem dX12_weds_13 : decode cX12_weds 13 = .ok (.istore 5, 2) := by decide +kernel
theorem dX12_weds_15 : decode cX12_weds 15 = .ok (.aload_n 0, 1) := by decide +kernel
theorem dX12_weds_16 : decode cX12_weds 16 = .ok (.getfield 86, 3) := by decide +kernel
theorem dX12_weds_19 : decode cX12_weds 19 = .ok (.iload 5, 2) := by decide +kernel
theorem dX12_weds_21 : decode cX12_weds 21 = .ok (.iaload, 1) := by decide +kernel
theorem dX12_weds_22 : decode cX12_weds 22 = .ok (.istore 6, 2) := by decide +kernel
theorem dX12_weds_24 : decode cX12_weds 24 = .ok (.aload_n 0, 1) := by decide +kernel
theorem dX12_weds_25 : decode cX12_weds 25 = .ok (.getfield 7, 3) := by decide +kernel
theorem dX12_weds_28 : decode cX12_weds 28 = .ok (.bipush 17, 2) := by decide +kernel
theorem dX12_weds_30 : decode cX12_weds 30 = .ok (.iload_n 1, 1) := by decide +kernel
theorem dX12_weds_31 : decode cX12_weds 31 = .ok (.iadd, 1) := by decide +kernel
theorem dX12_weds_32 : decode cX12_weds 32 = .ok (.iload 6, 2) := by decide +kernel
theorem dX12_weds_34 : decode cX12_weds 34 = .ok (.iconst 1, 1) := by decide +kernel
theorem dX12_weds_35 : decode cX12_weds 35 = .ok (.iadd, 1) := by decide +kernel
theorem dX12_weds_36 : decode cX12_weds 36 = .ok (.iastore, 1) := by decide +kernel
theorem dX12_weds_37 : decode cX12_weds 37 = .ok (.aload_n 0, 1) := by decide +kernel
theorem dX12_weds_38 : decode cX12_weds 38 = .ok (.getfield 7, 3) := by decide +kernel
theorem dX12_weds_41 : decode cX12_weds 41 = .ok (.iconst 5, 1) := by decide +kernel
theorem dX12_weds_42 : decode cX12_weds 42 = .ok (.iload 6, 2) := by decide +kernel
theorem dX12_weds_44 : decode cX12_weds 44 = .ok (.iadd, 1) := by decide +kernel
theorem dX12_weds_45 : decode cX12_weds 45 = .ok (.iload_n 1, 1) := by decide +kernel
theorem dX12_weds_46 : decode cX12_weds 46 = .ok (.iconst 1, 1) := by decide +kernel
theorem dX12_weds_47 : decode cX12_weds 47 = .ok (.iadd, 1) := by decide +kernel
theorem dX12_weds_48 : decode cX12_weds 48 = .ok (.iastore, 1) := by decide +kernel
theorem dX12_weds_49 : decode cX12_weds 49 = .ok (.aload_n 0, 1) := by decide +kernel
theorem dX12_weds_50 : decode cX12_weds 50 = .ok (.getfield 7, 3) := by decide +kernel
theorem dX12_weds_53 : decode cX12_weds 53 = .ok (.bipush 41, 2) := by decide +kernel
theorem dX12_weds_55 : decode cX12_weds 55 = .ok (.iload_n 1, 1) := by decide +kernel
theorem dX12_weds_56 : decode cX12_weds 56 = .ok (.iadd, 1) := by decide +kernel
theorem dX12_weds_57 : decode cX12_weds 57 = .ok (.aload_n 0, 1) := by decide +kernel
theorem dX12_weds_58 : decode cX12_weds 58 = .ok (.getfield 7, 3) := by decide +kernel
theorem dX12_weds_61 : decode cX12_weds 61 = .ok (.bipush 41, 2) := by decide +kernel
theorem dX12_weds_63 : decode cX12_weds 63 = .ok (.iload_n 1, 1) := by decide +kernel
theorem dX12_weds_64 : decode cX12_weds 64 = .ok (.iadd, 1) := by decide +kernel
theorem dX12_weds_65 : decode cX12_weds 65 = .ok (.iaload, 1) := by decide +kernel
theorem dX12_weds_66 : decode cX12_weds 66 = .ok (.iconst 1, 1) := by decide +kernel
theorem dX12_weds_67 : decode cX12_weds 67 = .ok (.iadd, 1) := by decide +kernel
theorem dX12_weds_68 : decode cX12_weds 68 = .ok (.iastore, 1) := by decide +kernel
theorem dX12_weds_69 : decode cX12_weds 69 = .ok (.aload_n 0, 1) := by decide +kernel
theorem dX12_weds_70 : decode cX12_weds 70 = .ok (.iconst 3, 1) := by decide +kernel
theorem dX12_weds_71 : decode cX12_weds 71 = .ok (.iload 6, 2) := by decide +kernel
theorem dX12_weds_73 : decode cX12_weds 73 = .ok (.aload_n 0, 1) := by decide +kernel
theorem dX12_weds_74 : decode cX12_weds 74 = .ok (.getfield 89, 3) := by decide +kernel
theorem dX12_weds_77 : decode cX12_weds 77 = .ok (.iload 5, 2) := by decide +kernel
theorem dX12_weds_79 : decode cX12_weds 79 = .ok (.iaload, 1) := by decide +kernel
theorem dX12_weds_80 : decode cX12_weds 80 = .ok (.invokevirtual 360, 3) := by decide +kernel
theorem dX12_weds_83 : decode cX12_weds 83 = .ok (.aload_n 0, 1) := by decide +kernel
theorem dX12_weds_84 : decode cX12_weds 84 = .ok (.getfield 7, 3) := by decide +kernel
theorem dX12_weds_87 : decode cX12_weds 87 = .ok (.iconst 3, 1) := by decide +kernel
theorem dX12_weds_88 : decode cX12_weds 88 = .ok (.aload_n 0, 1) := by decide +kernel
theorem dX12_weds_89 : decode cX12_weds 89 = .ok (.getfield 7, 3) := by decide +kernel
theorem dX12_weds_92 : decode cX12_weds 92 = .ok (.iconst 3, 1) := by decide +kernel
theorem dX12_weds_93 : decode cX12_weds 93 = .ok (.iaload, 1) := by decide +kernel
theorem dX12_weds_94 : decode cX12_weds 94 = .ok (.aload_n 0, 1) := by decide +kernel
theorem dX12_weds_95 : decode cX12_weds 95 = .ok (.getfield 31, 3) := by decide +kernel
theorem dX12_weds_98 : decode cX12_weds 98 = .ok (.iload_n 1, 1) := by decide +kernel
theorem dX12_weds_99 : decode cX12_weds 99 = .ok (.iaload, 1) := by decide +kernel
theorem dX12_weds_100 : decode cX12_weds 100 = .ok (.iload 6, 2) := by decide +kernel
theorem dX12_weds_102 : decode cX12_weds 102 = .ok (.if_icmp .ne 8, 3) := by decide +kernel
theorem dX12_weds_105 : decode cX12_weds 105 = .ok (.bipush (-3), 2) := by decide +kernel
theorem dX12_weds_107 : decode cX12_weds 107 = .ok (.goto 4, 3) := by decide +kernel
theorem dX12_weds_110 : decode cX12_weds 110 = .ok (.iconst 1, 1) := by decide +kernel
theorem dX12_weds_111 : decode cX12_weds 111 = .ok (.iadd, 1) := by decide +kernel
theorem dX12_weds_112 : decode cX12_weds 112 = .ok (.iastore, 1) := by decide +kernel
theorem dX12_weds_113 : decode cX12_weds 113 = .ok (.iload 6, 2) := by decide +kernel
theorem dX12_weds_115 : decode cX12_weds 115 = .ok (.ireturn, 1) := by decide +kernel
theorem dX12_areUnlike_0 : decode cX12_areUnlike 0 = .ok (.aload_n 0, 1) := by decide +kernel
theorem dX12_areUnlike_1 : decode cX12_areUnlike 1 = .ok (.iload_n 1, 1) := by decide +kernel
theorem dX12_areUnlike_2 : decode cX12_areUnlike 2 = .ok (.invokevirtual 171, 3) := by decide +kernel
theorem dX12_areUnlike_5 : decode cX12_areUnlike 5 = .ok (.ifCond .eq 38, 3) := by decide +kernel
theorem dX12_areUnlike_8 : decode cX12_areUnlike 8 = .ok (.aload_n 0, 1) := by decide +kernel
theorem dX12_areUnlike_9 : decode cX12_areUnlike 9 = .ok (.iload_n 2, 1) := by decide +kernel
theorem dX12_areUnlike_10 : decode cX12_areUnlike 10 = .ok (.invokevirtual 171, 3) := by decide +kernel
theorem dX12_areUnlike_13 : decode cX12_areUnlike 13 = .ok (.ifCond .eq 30, 3) := by decide +kernel
theorem dX12_areUnlike_16 : decode cX12_areUnlike 16 = .ok (.aload_n 0, 1) := by decide +kernel
theorem dX12_areUnlike_17 : decode cX12_areUnlike 17 = .ok (.iload_n 3, 1) := by decide +kernel
theorem dX12_areUnlike_18 : decode cX12_areUnlike 18 = .ok (.invokevirtual 171, 3) := by decide +kernel
theorem dX12_areUnlike_21 : decode cX12_areUnlike 21 = .ok (.ifCond .eq 22, 3) := by decide +kernel
theorem dX12_areUnlike_24 : decode cX12_areUnlike 24 = .ok (.iload_n 1, 1) := by decide +kernel
theorem dX12_areUnlike_25 : decode cX12_areUnlike 25 = .ok (.iload_n 2, 1) := by decide +kernel
theorem dX12_areUnlike_26 : decode cX12_areUnlike 26 = .ok (.if_icmp .eq 17, 3) := by decide +kernel
theorem dX12_areUnlike_29 : decode cX12_areUnlike 29 = .ok (.iload_n 2, 1) := by decide +kernel
theorem dX12_areUnlike_30 : decode cX12_areUnlike 30 = .ok (.iload_n 3, 1) := by decide +kernel
theorem dX12_areUnlike_31 : decode cX12_areUnlike 31 = .ok (.if_icmp .eq 12, 3) := by decide +kernel
theorem dX12_areUnlike_34 : decode cX12_areUnlike 34 = .ok (.iload_n 1, 1) := by decide +kernel
theorem dX12_areUnlike_35 : decode cX12_areUnlike 35 = .ok (.iload_n 3, 1) := by decide +kernel
theorem dX12_areUnlike_36 : decode cX12_areUnlike 36 = .ok (.if_icmp .eq 7, 3) := by decide +kernel
theorem dX12_areUnlike_39 : decode cX12_areUnlike 39 = .ok (.iconst 1, 1) := by decide +kernel
theorem dX12_areUnlike_40 : decode cX12_areUnlike 40 = .ok (.goto 4, 3) := by decide +kernel
theorem dX12_areUnlike_43 : decode cX12_areUnlike 43 = .ok (.iconst 0, 1) := by decide +kernel
theorem dX12_areUnlike_44 : decode cX12_areUnlike 44 = .ok (.ireturn, 1) := by decide +kernel
theorem dX12_canWed_0 : decode cX12_canWed 0 = .ok (.aload_n 0, 1) := by decide +kernel
theorem dX12_canWed_1 : decode cX12_canWed 1 = .ok (.iload_n 1, 1) := by decide +kernel
theorem dX12_canWed_2 : decode cX12_canWed 2 = .ok (.invokevirtual 381, 3) := by decide +kernel
theorem dX12_canWed_5 : decode cX12_canWed 5 = .ok (.iconst (-1), 1) := by decide +kernel
theorem dX12_canWed_6 : decode cX12_canWed 6 = .ok (.if_icmp .ne 32, 3) := by decide +kernel
theorem dX12_canWed_9 : decode cX12_canWed 9 = .ok (.aload_n 0, 1) := by decide +kernel
theorem dX12_canWed_10 : decode cX12_canWed 10 = .ok (.iload_n 2, 1) := by decide +kernel
theorem dX12_canWed_11 : decode cX12_canWed 11 = .ok (.invokevirtual 384, 3) := by decide +kernel
theorem dX12_canWed_14 : decode cX12_canWed 14 = .ok (.ifCond .eq 24, 3) := by decide +kernel
theorem dX12_canWed_17 : decode cX12_canWed 17 = .ok (.aload_n 0, 1) := by decide +kernel
theorem dX12_canWed_18 : decode cX12_canWed 18 = .ok (.iload_n 3, 1) := by decide +kernel
theorem dX12_canWed_19 : decode cX12_canWed 19 = .ok (.invokevirtual 384, 3) := by decide +kernel
theorem dX12_canWed_22 : decode cX12_canWed 22 = .ok (.ifCond .eq 16, 3) := by decide +kernel
theorem dX12_canWed_25 : decode cX12_canWed 25 = .ok (.aload_n 0, 1) := by decide +kernel
theorem dX12_canWed_26 : decode cX12_canWed 26 = .ok (.iload 4, 2) := by decide +kernel
theorem dX12_canWed_28 : decode cX12_canWed 28 = .ok (.invokevirtual 384, 3) := by decide +kernel
theorem dX12_canWed_31 : decode cX12_canWed 31 = .ok (.ifCond .eq 7, 3) := by decide +kernel
theorem dX12_canWed_34 : decode cX12_canWed 34 = .ok (.iconst 1, 1) := by decide +kernel
theorem dX12_canWed_35 : decode cX12_canWed 35 = .ok (.goto 4, 3) := by decide +kernel
theorem dX12_canWed_38 : decode cX12_canWed 38 = .ok (.iconst 0, 1) := by decide +kernel
theorem dX12_canWed_39 : decode cX12_canWed 39 = .ok (.ireturn, 1) := by decide +kernel
theorem dX12_wed_0 : decode cX12_wed 0 = .ok (.aload_n 0, 1) := by decide +kernel
theorem dX12_wed_1 : decode cX12_wed 1 = .ok (.iconst 0, 1) := by decide +kernel
theorem dX12_wed_2 : decode cX12_wed 2 = .ok (.putfield 149, 3) := by decide +kernel
theorem dX12_wed_5 : decode cX12_wed 5 = .ok (.aload_n 0, 1) := by decide +kernel
theorem dX12_wed_6 : decode cX12_wed 6 = .ok (.iload_n 1, 1) := by decide +kernel
theorem dX12_wed_7 : decode cX12_wed 7 = .ok (.invokevirtual 175, 3) := by decide +kernel
theorem dX12_wed_10 : decode cX12_wed 10 = .ok (.ifCond .eq 26, 3) := by decide +kernel
theorem dX12_wed_13 : decode cX12_wed 13 = .ok (.aload_n 0, 1) := by decide +kernel
theorem dX12_wed_14 : decode cX12_wed 14 = .ok (.iload_n 2, 1) := by decide +kernel
theorem dX12_wed_15 : decode cX12_wed 15 = .ok (.iload_n 3, 1) := by decide +kernel
theorem dX12_wed_16 : decode cX12_wed 16 = .ok (.iload 4, 2) := by decide +kernel
theorem dX12_wed_18 : decode cX12_wed 18 = .ok (.invokevirtual 387, 3) := by decide +kernel
theorem dX12_wed_21 : decode cX12_wed 21 = .ok (.ifCond .eq 15, 3) := by decide +kernel
theorem dX12_wed_24 : decode cX12_wed 24 = .ok (.aload_n 0, 1) := by decide +kernel
theorem dX12_wed_25 : decode cX12_wed 25 = .ok (.iload_n 1, 1) := by decide +kernel
theorem dX12_wed_26 : decode cX12_wed 26 = .ok (.iload_n 2, 1) := by decide +kernel
theorem dX12_wed_27 : decode cX12_wed 27 = .ok (.iload_n 3, 1) := by decide +kernel
theorem dX12_wed_28 : decode cX12_wed 28 = .ok (.iload 4, 2) := by decide +kernel
theorem dX12_wed_30 : decode cX12_wed 30 = .ok (.invokevirtual 390, 3) := by decide +kernel
theorem dX12_wed_33 : decode cX12_wed 33 = .ok (.ifCond .ne 5, 3) := by decide +kernel
theorem dX12_wed_36 : decode cX12_wed 36 = .ok (.iconst (-1), 1) := by decide +kernel
theorem dX12_wed_37 : decode cX12_wed 37 = .ok (.ireturn, 1) := by decide +kernel
theorem dX12_wed_38 : decode cX12_wed 38 = .ok (.aload_n 0, 1) := by decide +kernel
theorem dX12_wed_39 : decode cX12_wed 39 = .ok (.invokevirtual 394, 3) := by decide +kernel
theorem dX12_wed_42 : decode cX12_wed 42 = .ok (.aload_n 0, 1) := by decide +kernel
theorem dX12_wed_43 : decode cX12_wed 43 = .ok (.iload_n 1, 1) := by decide +kernel
theorem dX12_wed_44 : decode cX12_wed 44 = .ok (.iload_n 2, 1) := by decide +kernel
theorem dX12_wed_45 : decode cX12_wed 45 = .ok (.iload_n 3, 1) := by decide +kernel
theorem dX12_wed_46 : decode cX12_wed 46 = .ok (.iload 4, 2) := by decide +kernel
theorem dX12_wed_48 : decode cX12_wed 48 = .ok (.invokevirtual 397, 3) := by decide +kernel
theorem dX12_wed_51 : decode cX12_wed 51 = .ok (.ireturn, 1) := by decide +kernel
theorem dX12_parts_0 : decode cX12_parts 0 = .ok (.aload_n 0, 1) := by decide +kernel
theorem dX12_parts_1 : decode cX12_parts 1 = .ok (.iconst 5, 1) := by decide +kernel
theorem dX12_parts_2 : decode cX12_parts 2 = .ok (.iload_n 1, 1) := by decide +kernel
theorem dX12_parts_3 : decode cX12_parts 3 = .ok (.aload_n 0, 1) := by decide +kernel
theorem dX12_parts_4 : decode cX12_parts 4 = .ok (.getfield 7, 3) := by decide +kernel
theorem dX12_parts_7 : decode cX12_parts 7 = .ok (.bipush 25, 2) := by decide +kernel
theorem dX12_parts_9 : decode cX12_parts 9 = .ok (.iload_n 1, 1) := by decide +kernel
theorem dX12_parts_10 : decode cX12_parts 10 = .ok (.iadd, 1) := by decide +kernel
theorem dX12_parts_11 : decode cX12_parts 11 = .ok (.iaload, 1) := by decide +kernel
theorem dX12_parts_12 : decode cX12_parts 12 = .ok (.invokevirtual 360, 3) := by decide +kernel
theorem dX12_parts_15 : decode cX12_parts 15 = .ok (.aload_n 0, 1) := by decide +kernel
theorem dX12_parts_16 : decode cX12_parts 16 = .ok (.getfield 7, 3) := by decide +kernel
theorem dX12_parts_19 : decode cX12_parts 19 = .ok (.iconst 5, 1) := by decide +kernel
theorem dX12_parts_20 : decode cX12_parts 20 = .ok (.aload_n 0, 1) := by decide +kernel
theorem dX12_parts_21 : decode cX12_parts 21 = .ok (.iload_n 1, 1) := by decide +kernel
theorem dX12_parts_22 : decode cX12_parts 22 = .ok (.invokevirtual 381, 3) := by decide +kernel
theorem dX12_parts_25 : decode cX12_parts 25 = .ok (.iadd, 1) := by decide +kernel
theorem dX12_parts_26 : decode cX12_parts 26 = .ok (.iconst 0, 1) := by decide +kernel
theorem dX12_parts_27 : decode cX12_parts 27 = .ok (.iastore, 1) := by decide +kernel
theorem dX12_parts_28 : decode cX12_parts 28 = .ok (.aload_n 0, 1) := by decide +kernel
theorem dX12_parts_29 : decode cX12_parts 29 = .ok (.getfield 7, 3) := by decide +kernel
theorem dX12_parts_32 : decode cX12_parts 32 = .ok (.bipush 17, 2) := by decide +kernel
theorem dX12_parts_34 : decode cX12_parts 34 = .ok (.iload_n 1, 1) := by decide +kernel
theorem dX12_parts_35 : decode cX12_parts 35 = .ok (.iadd, 1) := by decide +kernel
theorem dX12_parts_36 : decode cX12_parts 36 = .ok (.iconst 0, 1) := by decide +kernel
theorem dX12_parts_37 : decode cX12_parts 37 = .ok (.iastore, 1) := by decide +kernel
theorem dX12_parts_38 : decode cX12_parts 38 = .ok (.aload_n 0, 1) := by decide +kernel
theorem dX12_parts_39 : decode cX12_parts 39 = .ok (.getfield 7, 3) := by decide +kernel
theorem dX12_parts_42 : decode cX12_parts 42 = .ok (.bipush 25, 2) := by decide +kernel
theorem dX12_parts_44 : decode cX12_parts 44 = .ok (.iload_n 1, 1) := by decide +kernel
theorem dX12_parts_45 : decode cX12_parts 45 = .ok (.iadd, 1) := by decide +kernel
theorem dX12_parts_46 : decode cX12_parts 46 = .ok (.iconst 0, 1) := by decide +kernel
theorem dX12_parts_47 : decode cX12_parts 47 = .ok (.iastore, 1) := by decide +kernel
theorem dX12_parts_48 : decode cX12_parts 48 = .ok (.return_, 1) := by decide +kernel
theorem dX12_part_0 : decode cX12_part 0 = .ok (.aload_n 0, 1) := by decide +kernel
theorem dX12_part_1 : decode cX12_part 1 = .ok (.iconst 0, 1) := by decide +kernel
theorem dX12_part_2 : decode cX12_part 2 = .ok (.putfield 149, 3) := by decide +kernel
theorem dX12_part_5 : decode cX12_part 5 = .ok (.aload_n 0, 1) := by decide +kernel
theorem dX12_part_6 : decode cX12_part 6 = .ok (.iload_n 1, 1) := by decide +kernel
theorem dX12_part_7 : decode cX12_part 7 = .ok (.invokevirtual 175, 3) := by decide +kernel
theorem dX12_part_10 : decode cX12_part 10 = .ok (.ifCond .eq 12, 3) := by decide +kernel
theorem dX12_part_13 : decode cX12_part 13 = .ok (.aload_n 0, 1) := by decide +kernel
theorem dX12_part_14 : decode cX12_part 14 = .ok (.iload_n 1, 1) := by decide +kernel
theorem dX12_part_15 : decode cX12_part 15 = .ok (.invokevirtual 381, 3) := by decide +kernel
theorem dX12_part_18 : decode cX12_part 18 = .ok (.iconst (-1), 1) := by decide +kernel
theorem dX12_part_19 : decode cX12_part 19 = .ok (.if_icmp .ne 5, 3) := by decide +kernel
theorem dX12_part_22 : decode cX12_part 22 = .ok (.iconst 0, 1) := by decide +kernel
theorem dX12_part_23 : decode cX12_part 23 = .ok (.ireturn, 1) := by decide +kernel
theorem dX12_part_24 : decode cX12_part 24 = .ok (.aload_n 0, 1) := by decide +kernel
theorem dX12_part_25 : decode cX12_part 25 = .ok (.invokevirtual 394, 3) := by decide +kernel
theorem dX12_part_28 : decode cX12_part 28 = .ok (.aload_n 0, 1) := by decide +kernel
theorem dX12_part_29 : decode cX12_part 29 = .ok (.iload_n 1, 1) := by decide +kernel
theorem dX12_part_30 : decode cX12_part 30 = .ok (.invokevirtual 400, 3) := by decide +kernel
theorem dX12_part_33 : decode cX12_part 33 = .ok (.iconst 1, 1) := by decide +kernel
theorem dX12_part_34 : decode cX12_part 34 = .ok (.ireturn, 1) := by decide +kernel
theorem dX12_cough_0 : decode cX12_cough 0 = .ok (.aload_n 0, 1) := by decide +kernel
theorem dX12_cough_1 : decode cX12_cough 1 = .ok (.iconst 0, 1) := by decide +kernel
theorem dX12_cough_2 : decode cX12_cough 2 = .ok (.putfield 149, 3) := by decide +kernel
theorem dX12_cough_5 : decode cX12_cough 5 = .ok (.aload_n 0, 1) := by decide +kernel
theorem dX12_cough_6 : decode cX12_cough 6 = .ok (.iload_n 1, 1) := by decide +kernel
theorem dX12_cough_7 : decode cX12_cough 7 = .ok (.invokevirtual 171, 3) := by decide +kernel
theorem dX12_cough_10 : decode cX12_cough 10 = .ok (.ifCond .eq 18, 3) := by decide +kernel
theorem dX12_cough_13 : decode cX12_cough 13 = .ok (.aload_n 0, 1) := by decide +kernel
theorem dX12_cough_14 : decode cX12_cough 14 = .ok (.aload_n 0, 1) := by decide +kernel
theorem dX12_cough_15 : decode cX12_cough 15 = .ok (.getfield 7, 3) := by decide +kernel
theorem dX12_cough_18 : decode cX12_cough 18 = .ok (.iconst 4, 1) := by decide +kernel
theorem dX12_cough_19 : decode cX12_cough 19 = .ok (.iaload, 1) := by decide +kernel
theorem dX12_cough_20 : decode cX12_cough 20 = .ok (.iload_n 1, 1) := by decide +kernel
theorem dX12_cough_21 : decode cX12_cough 21 = .ok (.invokevirtual 371, 3) := by decide +kernel
theorem dX12_cough_24 : decode cX12_cough 24 = .ok (.iload_n 2, 1) := by decide +kernel
theorem dX12_cough_25 : decode cX12_cough 25 = .ok (.if_icmp .ne 5, 3) := by decide +kernel
theorem dX12_cough_28 : decode cX12_cough 28 = .ok (.iconst 0, 1) := by decide +kernel
theorem dX12_cough_29 : decode cX12_cough 29 = .ok (.ireturn, 1) := by decide +kernel
theorem dX12_cough_30 : decode cX12_cough 30 = .ok (.aload_n 0, 1) := by decide +kernel
theorem dX12_cough_31 : decode cX12_cough 31 = .ok (.invokevirtual 394, 3) := by decide +kernel
theorem dX12_cough_34 : decode cX12_cough 34 = .ok (.aload_n 0, 1) := by decide +kernel
theorem dX12_cough_35 : decode cX12_cough 35 = .ok (.getfield 7, 3) := by decide +kernel
theorem dX12_cough_38 : decode cX12_cough 38 = .ok (.iconst 4, 1) := by decide +kernel
theorem dX12_cough_39 : decode cX12_cough 39 = .ok (.aload_n 0, 1) := by decide +kernel
theorem dX12_cough_40 : decode cX12_cough 40 = .ok (.getfield 7, 3) := by decide +kernel
theorem dX12_cough_43 : decode cX12_cough 43 = .ok (.iconst 4, 1) := by decide +kernel
theorem dX12_cough_44 : decode cX12_cough 44 = .ok (.iaload, 1) := by decide +kernel
theorem dX12_cough_45 : decode cX12_cough 45 = .ok (.iconst 1, 1) := by decide +kernel
theorem dX12_cough_46 : decode cX12_cough 46 = .ok (.iload_n 1, 1) := by decide +kernel
theorem dX12_cough_47 : decode cX12_cough 47 = .ok (.ishl, 1) := by decide +kernel
theorem dX12_cough_48 : decode cX12_cough 48 = .ok (.ixor, 1) := by decide +kernel
theorem dX12_cough_49 : decode cX12_cough 49 = .ok (.iastore, 1) := by decide +kernel
theorem dX12_cough_50 : decode cX12_cough 50 = .ok (.iconst 1, 1) := by decide +kernel
theorem dX12_cough_51 : decode cX12_cough 51 = .ok (.ireturn, 1) := by decide +kernel
theorem dX12_does_0 : decode cX12_does 0 = .ok (.aload_n 0, 1) := by decide +kernel
theorem dX12_does_1 : decode cX12_does 1 = .ok (.getfield 74, 3) := by decide +kernel
theorem dX12_does_4 : decode cX12_does 4 = .ok (.iload_n 1, 1) := by decide +kernel
theorem dX12_does_5 : decode cX12_does 5 = .ok (.iconst 1, 1) := by decide +kernel
theorem dX12_does_6 : decode cX12_does 6 = .ok (.iadd, 1) := by decide +kernel
theorem dX12_does_7 : decode cX12_does 7 = .ok (.iaload, 1) := by decide +kernel
theorem dX12_does_8 : decode cX12_does 8 = .ok (.istore_n 2, 1) := by decide +kernel
theorem dX12_does_9 : decode cX12_does 9 = .ok (.aload_n 0, 1) := by decide +kernel
theorem dX12_does_10 : decode cX12_does 10 = .ok (.getfield 74, 3) := by decide +kernel
theorem dX12_does_13 : decode cX12_does 13 = .ok (.iload_n 1, 1) := by decide +kernel
theorem dX12_does_14 : decode cX12_does 14 = .ok (.iconst 2, 1) := by decide +kernel
theorem dX12_does_15 : decode cX12_does 15 = .ok (.iadd, 1) := by decide +kernel
theorem dX12_does_16 : decode cX12_does 16 = .ok (.iaload, 1) := by decide +kernel
theorem dX12_does_17 : decode cX12_does 17 = .ok (.istore_n 3, 1) := by decide +kernel
theorem dX12_does_18 : decode cX12_does 18 = .ok (.iload_n 2, 1) := by decide +kernel
theorem dX12_does_19 : decode cX12_does 19 = .ok (.ifCond .ne 65, 3) := by decide +kernel
theorem dX12_does_22 : decode cX12_does 22 = .ok (.aload_n 0, 1) := by decide +kernel
theorem dX12_does_23 : decode cX12_does 23 = .ok (.iload_n 3, 1) := by decide +kernel
theorem dX12_does_24 : decode cX12_does 24 = .ok (.aload_n 0, 1) := by decide +kernel
theorem dX12_does_25 : decode cX12_does 25 = .ok (.getfield 74, 3) := by decide +kernel
theorem dX12_does_28 : decode cX12_does 28 = .ok (.iload_n 1, 1) := by decide +kernel
theorem dX12_does_29 : decode cX12_does 29 = .ok (.iconst 3, 1) := by decide +kernel
theorem dX12_does_30 : decode cX12_does 30 = .ok (.iadd, 1) := by decide +kernel
theorem dX12_does_31 : decode cX12_does 31 = .ok (.iaload, 1) := by decide +kernel
theorem dX12_does_32 : decode cX12_does 32 = .ok (.aload_n 0, 1) := by decide +kernel
theorem dX12_does_33 : decode cX12_does 33 = .ok (.getfield 74, 3) := by decide +kernel
theorem dX12_does_36 : decode cX12_does 36 = .ok (.iload_n 1, 1) := by decide +kernel
theorem dX12_does_37 : decode cX12_does 37 = .ok (.iconst 4, 1) := by decide +kernel
theorem dX12_does_38 : decode cX12_does 38 = .ok (.iadd, 1) := by decide +kernel
theorem dX12_does_39 : decode cX12_does 39 = .ok (.iaload, 1) := by decide +kernel
theorem dX12_does_40 : decode cX12_does 40 = .ok (.aload_n 0, 1) := by decide +kernel
theorem dX12_does_41 : decode cX12_does 41 = .ok (.getfield 74, 3) := by decide +kernel
theorem dX12_does_44 : decode cX12_does 44 = .ok (.iload_n 1, 1) := by decide +kernel
theorem dX12_does_45 : decode cX12_does 45 = .ok (.iconst 5, 1) := by decide +kernel
theorem dX12_does_46 : decode cX12_does 46 = .ok (.iadd, 1) := by decide +kernel
theorem dX12_does_47 : decode cX12_does 47 = .ok (.iaload, 1) := by decide +kernel
theorem dX12_does_48 : decode cX12_does 48 = .ok (.invokevirtual 390, 3) := by decide +kernel
theorem dX12_does_51 : decode cX12_does 51 = .ok (.ifCond .eq 33, 3) := by decide +kernel
theorem dX12_does_54 : decode cX12_does 54 = .ok (.aload_n 0, 1) := by decide +kernel
theorem dX12_does_55 : decode cX12_does 55 = .ok (.iload_n 3, 1) := by decide +kernel
theorem dX12_does_56 : decode cX12_does 56 = .ok (.aload_n 0, 1) := by decide +kernel
theorem dX12_does_57 : decode cX12_does 57 = .ok (.getfield 74, 3) := by decide +kernel
theorem dX12_does_60 : decode cX12_does 60 = .ok (.iload_n 1, 1) := by decide +kernel
theorem dX12_does_61 : decode cX12_does 61 = .ok (.iconst 3, 1) := by decide +kernel
theorem dX12_does_62 : decode cX12_does 62 = .ok (.iadd, 1) := by decide +kernel
theorem dX12_does_63 : decode cX12_does 63 = .ok (.iaload, 1) := by decide +kernel
theorem dX12_does_64 : decode cX12_does 64 = .ok (.aload_n 0, 1) := by decide +kernel
theorem dX12_does_65 : decode cX12_does 65 = .ok (.getfield 74, 3) := by decide +kernel
theorem dX12_does_68 : decode cX12_does 68 = .ok (.iload_n 1, 1) := by decide +kernel
theorem dX12_does_69 : decode cX12_does 69 = .ok (.iconst 4, 1) := by decide +kernel
theorem dX12_does_70 : decode cX12_does 70 = .ok (.iadd, 1) := by decide +kernel
theorem dX12_does_71 : decode cX12_does 71 = .ok (.iaload, 1) := by decide +kernel
theorem dX12_does_72 : decode cX12_does 72 = .ok (.aload_n 0, 1) := by decide +kernel
theorem dX12_does_73 : decode cX12_does 73 = .ok (.getfield 74, 3) := by decide +kernel
theorem dX12_does_76 : decode cX12_does 76 = .ok (.iload_n 1, 1) := by decide +kernel
theorem dX12_does_77 : decode cX12_does 77 = .ok (.iconst 5, 1) := by decide +kernel
theorem dX12_does_78 : decode cX12_does 78 = .ok (.iadd, 1) := by decide +kernel
theorem dX12_does_79 : decode cX12_does 79 = .ok (.iaload, 1) := by decide +kernel
theorem dX12_does_80 : decode cX12_does 80 = .ok (.invokevirtual 397, 3) := by decide +kernel
theorem dX12_does_83 : decode cX12_does 83 = .ok (.pop, 1) := by decide +kernel
theorem dX12_does_84 : decode cX12_does 84 = .ok (.iload_n 2, 1) := by decide +kernel
theorem dX12_does_85 : decode cX12_does 85 = .ok (.iconst 1, 1) := by decide +kernel
theorem dX12_does_86 : decode cX12_does 86 = .ok (.if_icmp .ne 19, 3) := by decide +kernel
theorem dX12_does_89 : decode cX12_does 89 = .ok (.aload_n 0, 1) := by decide +kernel
theorem dX12_does_90 : decode cX12_does 90 = .ok (.getfield 7, 3) := by decide +kernel
theorem dX12_does_93 : decode cX12_does 93 = .ok (.iconst 4, 1) := by decide +kernel
theorem dX12_does_94 : decode cX12_does 94 = .ok (.aload_n 0, 1) := by decide +kernel
theorem dX12_does_95 : decode cX12_does 95 = .ok (.getfield 7, 3) := by decide +kernel
theorem dX12_does_98 : decode cX12_does 98 = .ok (.iconst 4, 1) := by decide +kernel
theorem dX12_does_99 : decode cX12_does 99 = .ok (.iaload, 1) := by decide +kernel
theorem dX12_does_100 : decode cX12_does 100 = .ok (.iconst 1, 1) := by decide +kernel
theorem dX12_does_101 : decode cX12_does 101 = .ok (.iload_n 3, 1) := by decide +kernel
theorem dX12_does_102 : decode cX12_does 102 = .ok (.ishl, 1) := by decide +kernel
theorem dX12_does_103 : decode cX12_does 103 = .ok (.ior, 1) := by decide +kernel
theorem dX12_does_104 : decode cX12_does 104 = .ok (.iastore, 1) := by decide +kernel
theorem dX12_does_105 : decode cX12_does 105 = .ok (.iload_n 2, 1) := by decide +kernel
theorem dX12_does_106 : decode cX12_does 106 = .ok (.iconst 2, 1) := by decide +kernel
theorem dX12_does_107 : decode cX12_does 107 = .ok (.if_icmp .ne 17, 3) := by decide +kernel
theorem dX12_does_110 : decode cX12_does 110 = .ok (.aload_n 0, 1) := by decide +kernel
theorem dX12_does_111 : decode cX12_does 111 = .ok (.iload_n 3, 1) := by decide +kernel
theorem dX12_does_112 : decode cX12_does 112 = .ok (.invokevirtual 381, 3) := by decide +kernel
theorem dX12_does_115 : decode cX12_does 115 = .ok (.iconst (-1), 1) := by decide +kernel
theorem dX12_does_116 : decode cX12_does 116 = .ok (.if_icmp .eq 8, 3) := by decide +kernel
theorem dX12_does_119 : decode cX12_does 119 = .ok (.aload_n 0, 1) := by decide +kernel
theorem dX12_does_120 : decode cX12_does 120 = .ok (.iload_n 3, 1) := by decide +kernel
theorem dX12_does_121 : decode cX12_does 121 = .ok (.invokevirtual 400, 3) := by decide +kernel
theorem dX12_does_124 : decode cX12_does 124 = .ok (.return_, 1) := by decide +kernel
theorem dX12_lives_0 : decode cX12_lives 0 = .ok (.aload_n 0, 1) := by decide +kernel
theorem dX12_lives_1 : decode cX12_lives 1 = .ok (.getfield 7, 3) := by decide +kernel
theorem dX12_lives_4 : decode cX12_lives 4 = .ok (.bipush 25, 2) := by decide +kernel
theorem dX12_lives_6 : decode cX12_lives 6 = .ok (.iload_n 1, 1) := by decide +kernel
theorem dX12_lives_7 : decode cX12_lives 7 = .ok (.iadd, 1) := by decide +kernel
theorem dX12_lives_8 : decode cX12_lives 8 = .ok (.aload_n 0, 1) := by decide +kernel
theorem dX12_lives_9 : decode cX12_lives 9 = .ok (.aload_n 0, 1) := by decide +kernel
theorem dX12_lives_10 : decode cX12_lives 10 = .ok (.getfield 7, 3) := by decide +kernel
theorem dX12_lives_13 : decode cX12_lives 13 = .ok (.bipush 25, 2) := by decide +kernel
theorem dX12_lives_15 : decode cX12_lives 15 = .ok (.iload_n 1, 1) := by decide +kernel
theorem dX12_lives_16 : decode cX12_lives 16 = .ok (.iadd, 1) := by decide +kernel
theorem dX12_lives_17 : decode cX12_lives 17 = .ok (.iaload, 1) := by decide +kernel
theorem dX12_lives_18 : decode cX12_lives 18 = .ok (.aload_n 0, 1) := by decide +kernel
theorem dX12_lives_19 : decode cX12_lives 19 = .ok (.iload_n 1, 1) := by decide +kernel
theorem dX12_lives_20 : decode cX12_lives 20 = .ok (.aload_n 0, 1) := by decide +kernel
theorem dX12_lives_21 : decode cX12_lives 21 = .ok (.iload_n 1, 1) := by decide +kernel
theorem dX12_lives_22 : decode cX12_lives 22 = .ok (.invokevirtual 381, 3) := by decide +kernel
theorem dX12_lives_25 : decode cX12_lives 25 = .ok (.invokevirtual 403, 3) := by decide +kernel
theorem dX12_lives_28 : decode cX12_lives 28 = .ok (.iadd, 1) := by decide +kernel
theorem dX12_lives_29 : decode cX12_lives 29 = .ok (.bipush (-99), 2) := by decide +kernel
theorem dX12_lives_31 : decode cX12_lives 31 = .ok (.bipush 99, 2) := by decide +kernel
theorem dX12_lives_33 : decode cX12_lives 33 = .ok (.invokevirtual 344, 3) := by decide +kernel
theorem dX12_lives_36 : decode cX12_lives 36 = .ok (.iastore, 1) := by decide +kernel
theorem dX12_lives_37 : decode cX12_lives 37 = .ok (.aload_n 0, 1) := by decide +kernel
theorem dX12_lives_38 : decode cX12_lives 38 = .ok (.getfield 7, 3) := by decide +kernel
theorem dX12_lives_41 : decode cX12_lives 41 = .ok (.bipush 33, 2) := by decide +kernel
theorem dX12_lives_43 : decode cX12_lives 43 = .ok (.iload_n 1, 1) := by decide +kernel
theorem dX12_lives_44 : decode cX12_lives 44 = .ok (.iadd, 1) := by decide +kernel
theorem dX12_lives_45 : decode cX12_lives 45 = .ok (.iaload, 1) := by decide +kernel
theorem dX12_lives_46 : decode cX12_lives 46 = .ok (.bipush 20, 2) := by decide +kernel
theorem dX12_lives_48 : decode cX12_lives 48 = .ok (.if_icmp .ne 5, 3) := by decide +kernel
theorem dX12_lives_51 : decode cX12_lives 51 = .ok (.iconst 0, 1) := by decide +kernel
theorem dX12_lives_52 : decode cX12_lives 52 = .ok (.ireturn, 1) := by decide +kernel
theorem dX12_lives_53 : decode cX12_lives 53 = .ok (.aload_n 0, 1) := by decide +kernel
theorem dX12_lives_54 : decode cX12_lives 54 = .ok (.bipush 100, 2) := by decide +kernel
theorem dX12_lives_56 : decode cX12_lives 56 = .ok (.iconst 5, 1) := by decide +kernel
theorem dX12_lives_57 : decode cX12_lives 57 = .ok (.aload_n 0, 1) := by decide +kernel
theorem dX12_lives_58 : decode cX12_lives 58 = .ok (.getfield 7, 3) := by decide +kernel
theorem dX12_lives_61 : decode cX12_lives 61 = .ok (.bipush 25, 2) := by decide +kernel
theorem dX12_lives_63 : decode cX12_lives 63 = .ok (.iload_n 1, 1) := by decide +kernel
theorem dX12_lives_64 : decode cX12_lives 64 = .ok (.iadd, 1) := by decide +kernel
theorem dX12_lives_65 : decode cX12_lives 65 = .ok (.iaload, 1) := by decide +kernel
theorem dX12_lives_66 : decode cX12_lives 66 = .ok (.imul, 1) := by decide +kernel
theorem dX12_lives_67 : decode cX12_lives 67 = .ok (.iadd, 1) := by decide +kernel
theorem dX12_lives_68 : decode cX12_lives 68 = .ok (.iconst 0, 1) := by decide +kernel
theorem dX12_lives_69 : decode cX12_lives 69 = .ok (.sipush 1000, 3) := by decide +kernel
theorem dX12_lives_72 : decode cX12_lives 72 = .ok (.invokevirtual 344, 3) := by decide +kernel
theorem dX12_lives_75 : decode cX12_lives 75 = .ok (.istore_n 2, 1) := by decide +kernel
theorem dX12_lives_76 : decode cX12_lives 76 = .ok (.aload_n 0, 1) := by decide +kernel
theorem dX12_lives_77 : decode cX12_lives 77 = .ok (.getfield 155, 3) := by decide +kernel
theorem dX12_lives_80 : decode cX12_lives 80 = .ok (.ifCond .eq 15, 3) := by decide +kernel
theorem dX12_lives_83 : decode cX12_lives 83 = .ok (.iconst 2, 1) := by decide +kernel
theorem dX12_lives_84 : decode cX12_lives 84 = .ok (.iload_n 2, 1) := by decide +kernel
theorem dX12_lives_85 : decode cX12_lives 85 = .ok (.imul, 1) := by decide +kernel
theorem dX12_lives_86 : decode cX12_lives 86 = .ok (.sipush 1000, 3) := by decide +kernel
theorem dX12_lives_89 : decode cX12_lives 89 = .ok (.if_icmp .ge 19, 3) := by decide +kernel
theorem dX12_lives_92 : decode cX12_lives 92 = .ok (.goto 14, 3) := by decide +kernel
theorem dX12_lives_95 : decode cX12_lives 95 = .ok (.aload_n 0, 1) := by decide +kernel
theorem dX12_lives_96 : decode cX12_lives 96 = .ok (.sipush 1000, 3) := by decide +kernel
theorem dX12_lives_99 : decode cX12_lives 99 = .ok (.invokevirtual 357, 3) := by decide +kernel
theorem dX12_lives_102 : decode cX12_lives 102 = .ok (.iload_n 2, 1) := by decide +kernel
theorem dX12_lives_103 : decode cX12_lives 103 = .ok (.if_icmp .lt 5, 3) := by decide +kernel
theorem dX12_lives_106 : decode cX12_lives 106 = .ok (.iconst 0, 1) := by decide +kernel
theorem dX12_lives_107 : decode cX12_lives 107 = .ok (.ireturn, 1) := by decide +kernel
theorem dX12_lives_108 : decode cX12_lives 108 = .ok (.aload_n 0, 1) := by decide +kernel
theorem dX12_lives_109 : decode cX12_lives 109 = .ok (.getfield 7, 3) := by decide +kernel
theorem dX12_lives_112 : decode cX12_lives 112 = .ok (.bipush 33, 2) := by decide +kernel
theorem dX12_lives_114 : decode cX12_lives 114 = .ok (.iload_n 1, 1) := by decide +kernel
theorem dX12_lives_115 : decode cX12_lives 115 = .ok (.iadd, 1) := by decide +kernel
theorem dX12_lives_116 : decode cX12_lives 116 = .ok (.aload_n 0, 1) := by decide +kernel
theorem dX12_lives_117 : decode cX12_lives 117 = .ok (.getfield 7, 3) := by decide +kernel
theorem dX12_lives_120 : decode cX12_lives 120 = .ok (.bipush 33, 2) := by decide +kernel
theorem dX12_lives_122 : decode cX12_lives 122 = .ok (.iload_n 1, 1) := by decide +kernel
theorem dX12_lives_123 : decode cX12_lives 123 = .ok (.iadd, 1) := by decide +kernel
theorem dX12_lives_124 : decode cX12_lives 124 = .ok (.iaload, 1) := by decide +kernel
theorem dX12_lives_125 : decode cX12_lives 125 = .ok (.iconst 1, 1) := by decide +kernel
theorem dX12_lives_126 : decode cX12_lives 126 = .ok (.iadd, 1) := by decide +kernel
theorem dX12_lives_127 : decode cX12_lives 127 = .ok (.iastore, 1) := by decide +kernel
theorem dX12_lives_128 : decode cX12_lives 128 = .ok (.aload_n 0, 1) := by decide +kernel
theorem dX12_lives_129 : decode cX12_lives 129 = .ok (.iconst 4, 1) := by decide +kernel
theorem dX12_lives_130 : decode cX12_lives 130 = .ok (.iload_n 1, 1) := by decide +kernel
theorem dX12_lives_131 : decode cX12_lives 131 = .ok (.aload_n 0, 1) := by decide +kernel
theorem dX12_lives_132 : decode cX12_lives 132 = .ok (.getfield 7, 3) := by decide +kernel
theorem dX12_lives_135 : decode cX12_lives 135 = .ok (.bipush 33, 2) := by decide +kernel
theorem dX12_lives_137 : decode cX12_lives 137 = .ok (.iload_n 1, 1) := by decide +kernel
theorem dX12_lives_138 : decode cX12_lives 138 = .ok (.iadd, 1) := by decide +kernel
theorem dX12_lives_139 : decode cX12_lives 139 = .ok (.iaload, 1) := by decide +kernel
theorem dX12_lives_140 : decode cX12_lives 140 = .ok (.invokevirtual 360, 3) := by decide +kernel
theorem dX12_lives_143 : decode cX12_lives 143 = .ok (.iconst 1, 1) := by decide +kernel
theorem dX12_lives_144 : decode cX12_lives 144 = .ok (.ireturn, 1) := by decide +kernel
theorem dX12_goesBy_0 : decode cX12_goesBy 0 = .ok (.iconst 0, 1) := by decide +kernel
theorem dX12_goesBy_1 : decode cX12_goesBy 1 = .ok (.istore_n 1, 1) := by decide +kernel
theorem dX12_goesBy_2 : decode cX12_goesBy 2 = .ok (.iload_n 1, 1) := by decide +kernel
theorem dX12_goesBy_3 : decode cX12_goesBy 3 = .ok (.aload_n 0, 1) := by decide +kernel
theorem dX12_goesBy_4 : decode cX12_goesBy 4 = .ok (.getfield 320, 3) := by decide +kernel
theorem dX12_goesBy_7 : decode cX12_goesBy 7 = .ok (.if_icmp .ge 35, 3) := by decide +kernel
theorem dX12_goesBy_10 : decode cX12_goesBy 10 = .ok (.aload_n 0, 1) := by decide +kernel
theorem dX12_goesBy_11 : decode cX12_goesBy 11 = .ok (.getfield 74, 3) := by decide +kernel
theorem dX12_goesBy_14 : decode cX12_goesBy 14 = .ok (.bipush 6, 2) := by decide +kernel
theorem dX12_goesBy_16 : decode cX12_goesBy 16 = .ok (.iload_n 1, 1) := by decide +kernel
theorem dX12_goesBy_17 : decode cX12_goesBy 17 = .ok (.imul, 1) := by decide +kernel
theorem dX12_goesBy_18 : decode cX12_goesBy 18 = .ok (.iaload, 1) := by decide +kernel
theorem dX12_goesBy_19 : decode cX12_goesBy 19 = .ok (.aload_n 0, 1) := by decide +kernel
theorem dX12_goesBy_20 : decode cX12_goesBy 20 = .ok (.getfield 7, 3) := by decide +kernel
theorem dX12_goesBy_23 : decode cX12_goesBy 23 = .ok (.iconst 0, 1) := by decide +kernel
theorem dX12_goesBy_24 : decode cX12_goesBy 24 = .ok (.iaload, 1) := by decide +kernel
theorem dX12_goesBy_25 : decode cX12_goesBy 25 = .ok (.if_icmp .ne 11, 3) := by decide +kernel
theorem dX12_goesBy_28 : decode cX12_goesBy 28 = .ok (.aload_n 0, 1) := by decide +kernel
theorem dX12_goesBy_29 : decode cX12_goesBy 29 = .ok (.bipush 6, 2) := by decide +kernel
theorem dX12_goesBy_31 : decode cX12_goesBy 31 = .ok (.iload_n 1, 1) := by decide +kernel
theorem dX12_goesBy_32 : decode cX12_goesBy 32 = .ok (.imul, 1) := by decide +kernel
theorem dX12_goesBy_33 : decode cX12_goesBy 33 = .ok (.invokevirtual 406, 3) := by decide +kernel
theorem dX12_goesBy_36 : decode cX12_goesBy 36 = .ok (.iinc 1 1, 3) := by decide +kernel
theorem dX12_goesBy_39 : decode cX12_goesBy 39 = .ok (.goto (-37), 3) := by decide +kernel
theorem dX12_goesBy_42 : decode cX12_goesBy 42 = .ok (.iconst 0, 1) := by decide +kernel
theorem dX12_goesBy_43 : decode cX12_goesBy 43 = .ok (.istore_n 1, 1) := by decide +kernel
theorem dX12_goesBy_44 : decode cX12_goesBy 44 = .ok (.iconst 0, 1) := by decide +kernel
theorem dX12_goesBy_45 : decode cX12_goesBy 45 = .ok (.istore_n 2, 1) := by decide +kernel
theorem dX12_goesBy_46 : decode cX12_goesBy 46 = .ok (.iload_n 2, 1) := by decide +kernel
theorem dX12_goesBy_47 : decode cX12_goesBy 47 = .ok (.aload_n 0, 1) := by decide +kernel
theorem dX12_goesBy_48 : decode cX12_goesBy 48 = .ok (.getfield 164, 3) := by decide +kernel
theorem dX12_goesBy_51 : decode cX12_goesBy 51 = .ok (.if_icmp .ge 30, 3) := by decide +kernel
theorem dX12_goesBy_54 : decode cX12_goesBy 54 = .ok (.aload_n 0, 1) := by decide +kernel
theorem dX12_goesBy_55 : decode cX12_goesBy 55 = .ok (.iload_n 2, 1) := by decide +kernel
theorem dX12_goesBy_56 : decode cX12_goesBy 56 = .ok (.invokevirtual 381, 3) := by decide +kernel
theorem dX12_goesBy_59 : decode cX12_goesBy 59 = .ok (.iconst (-1), 1) := by decide +kernel
theorem dX12_goesBy_60 : decode cX12_goesBy 60 = .ok (.if_icmp .eq 15, 3) := by decide +kernel
theorem dX12_goesBy_63 : decode cX12_goesBy 63 = .ok (.aload_n 0, 1) := by decide +kernel
theorem dX12_goesBy_64 : decode cX12_goesBy 64 = .ok (.iload_n 2, 1) := by decide +kernel
theorem dX12_goesBy_65 : decode cX12_goesBy 65 = .ok (.invokevirtual 409, 3) := by decide +kernel
theorem dX12_goesBy_68 : decode cX12_goesBy 68 = .ok (.ifCond .eq 7, 3) := by decide +kernel
theorem dX12_goesBy_71 : decode cX12_goesBy 71 = .ok (.iload_n 1, 1) := by decide +kernel
theorem dX12_goesBy_72 : decode cX12_goesBy 72 = .ok (.iconst 1, 1) := by decide +kernel
theorem dX12_goesBy_73 : decode cX12_goesBy 73 = .ok (.iadd, 1) := by decide +kernel
theorem dX12_goesBy_74 : decode cX12_goesBy 74 = .ok (.istore_n 1, 1) := by decide +kernel
theorem dX12_goesBy_75 : decode cX12_goesBy 75 = .ok (.iinc 2 1, 3) := by decide +kernel
theorem dX12_goesBy_78 : decode cX12_goesBy 78 = .ok (.goto (-32), 3) := by decide +kernel
theorem dX12_goesBy_81 : decode cX12_goesBy 81 = .ok (.aload_n 0, 1) := by decide +kernel
theorem dX12_goesBy_82 : decode cX12_goesBy 82 = .ok (.getfield 7, 3) := by decide +kernel
theorem dX12_goesBy_85 : decode cX12_goesBy 85 = .ok (.iconst 0, 1) := by decide +kernel
theorem dX12_goesBy_86 : decode cX12_goesBy 86 = .ok (.aload_n 0, 1) := by decide +kernel
theorem dX12_goesBy_87 : decode cX12_goesBy 87 = .ok (.getfield 7, 3) := by decide +kernel
theorem dX12_goesBy_90 : decode cX12_goesBy 90 = .ok (.iconst 0, 1) := by decide +kernel
theorem dX12_goesBy_91 : decode cX12_goesBy 91 = .ok (.iaload, 1) := by decide +kernel
theorem dX12_goesBy_92 : decode cX12_goesBy 92 = .ok (.iconst 1, 1) := by decide +kernel
theorem dX12_goesBy_93 : decode cX12_goesBy 93 = .ok (.iadd, 1) := by decide +kernel
theorem dX12_goesBy_94 : decode cX12_goesBy 94 = .ok (.iastore, 1) := by decide +kernel
theorem dX12_goesBy_95 : decode cX12_goesBy 95 = .ok (.iload_n 1, 1) := by decide +kernel
theorem dX12_goesBy_96 : decode cX12_goesBy 96 = .ok (.ireturn, 1) := by decide +kernel
theorem dX12_years_0 : decode cX12_years 0 = .ok (.aload_n 0, 1) := by decide +kernel
theorem dX12_years_1 : decode cX12_years 1 = .ok (.iconst 0, 1) := by decide +kernel
theorem dX12_years_2 : decode cX12_years 2 = .ok (.putfield 149, 3) := by decide +kernel
theorem dX12_years_5 : decode cX12_years 5 = .ok (.aload_n 0, 1) := by decide +kernel
theorem dX12_years_6 : decode cX12_years 6 = .ok (.iload_n 1, 1) := by decide +kernel
theorem dX12_years_7 : decode cX12_years 7 = .ok (.iconst 1, 1) := by decide +kernel
theorem dX12_years_8 : decode cX12_years 8 = .ok (.bipush 60, 2) := by decide +kernel
theorem dX12_years_10 : decode cX12_years 10 = .ok (.invokevirtual 167, 3) := by decide +kernel
theorem dX12_years_13 : decode cX12_years 13 = .ok (.ifCond .eq 17, 3) := by decide +kernel
theorem dX12_years_16 : decode cX12_years 16 = .ok (.aload_n 0, 1) := by decide +kernel
theorem dX12_years_17 : decode cX12_years 17 = .ok (.getfield 7, 3) := by decide +kernel
theorem dX12_years_20 : decode cX12_years 20 = .ok (.iconst 0, 1) := by decide +kernel
theorem dX12_years_21 : decode cX12_years 21 = .ok (.iaload, 1) := by decide +kernel
theorem dX12_years_22 : decode cX12_years 22 = .ok (.iload_n 1, 1) := by decide +kernel
theorem dX12_years_23 : decode cX12_years 23 = .ok (.iadd, 1) := by decide +kernel
theorem dX12_years_24 : decode cX12_years 24 = .ok (.sipush 9999, 3) := by decide +kernel
theorem dX12_years_27 : decode cX12_years 27 = .ok (.if_icmp .le 5, 3) := by decide +kernel
theorem dX12_years_30 : decode cX12_years 30 = .ok (.iconst (-1), 1) := by decide +kernel
theorem dX12_years_31 : decode cX12_years 31 = .ok (.ireturn, 1) := by decide +kernel
theorem dX12_years_32 : decode cX12_years 32 = .ok (.iconst 0, 1) := by decide +kernel
theorem dX12_years_33 : decode cX12_years 33 = .ok (.istore_n 2, 1) := by decide +kernel
theorem dX12_years_34 : decode cX12_years 34 = .ok (.iconst 0, 1) := by decide +kernel
theorem dX12_years_35 : decode cX12_years 35 = .ok (.istore_n 3, 1) := by decide +kernel
theorem dX12_years_36 : decode cX12_years 36 = .ok (.iload_n 3, 1) := by decide +kernel
theorem dX12_years_37 : decode cX12_years 37 = .ok (.iload_n 1, 1) := by decide +kernel
theorem dX12_years_38 : decode cX12_years 38 = .ok (.if_icmp .ge 20, 3) := by decide +kernel
theorem dX12_years_41 : decode cX12_years 41 = .ok (.aload_n 0, 1) := by decide +kernel
theorem dX12_years_42 : decode cX12_years 42 = .ok (.invokevirtual 394, 3) := by decide +kernel
theorem dX12_years_45 : decode cX12_years 45 = .ok (.iload_n 2, 1) := by decide +kernel
theorem dX12_years_46 : decode cX12_years 46 = .ok (.aload_n 0, 1) := by decide +kernel
theorem dX12_years_47 : decode cX12_years 47 = .ok (.invokevirtual 412, 3) := by decide +kernel
theorem dX12_years_50 : decode cX12_years 50 = .ok (.iadd, 1) := by decide +kernel
theorem dX12_years_51 : decode cX12_years 51 = .ok (.istore_n 2, 1) := by decide +kernel
theorem dX12_years_52 : decode cX12_years 52 = .ok (.iinc 3 1, 3) := by decide +kernel
theorem dX12_years_55 : decode cX12_years 55 = .ok (.goto (-19), 3) := by decide +kernel
theorem dX12_years_58 : decode cX12_years 58 = .ok (.iload_n 2, 1) := by decide +kernel
theorem dX12_years_59 : decode cX12_years 59 = .ok (.ireturn, 1) := by decide +kernel
theorem dX12_of_0 : decode cX12_of 0 = .ok (.aload_n 0, 1) := by decide +kernel
theorem dX12_of_1 : decode cX12_of 1 = .ok (.iconst 0, 1) := by decide +kernel
theorem dX12_of_2 : decode cX12_of 2 = .ok (.putfield 149, 3) := by decide +kernel
theorem dX12_of_5 : decode cX12_of 5 = .ok (.aload_n 0, 1) := by decide +kernel
theorem dX12_of_6 : decode cX12_of 6 = .ok (.iload_n 1, 1) := by decide +kernel
theorem dX12_of_7 : decode cX12_of 7 = .ok (.invokevirtual 171, 3) := by decide +kernel
theorem dX12_of_10 : decode cX12_of 10 = .ok (.ifCond .ne 6, 3) := by decide +kernel
theorem dX12_of_13 : decode cX12_of 13 = .ok (.bipush (-2), 2) := by decide +kernel
theorem dX12_of_15 : decode cX12_of 15 = .ok (.ireturn, 1) := by decide +kernel
theorem dX12_of_16 : decode cX12_of 16 = .ok (.iload_n 2, 1) := by decide +kernel
theorem dX12_of_17 : decode cX12_of 17 = .ok (.ifCond .ne 10, 3) := by decide +kernel
theorem dX12_of_20 : decode cX12_of 20 = .ok (.aload_n 0, 1) := by decide +kernel
theorem dX12_of_21 : decode cX12_of 21 = .ok (.getfield 19, 3) := by decide +kernel
theorem dX12_of_24 : decode cX12_of 24 = .ok (.iload_n 1, 1) := by decide +kernel
theorem dX12_of_25 : decode cX12_of 25 = .ok (.iaload, 1) := by decide +kernel
theorem dX12_of_26 : decode cX12_of 26 = .ok (.ireturn, 1) := by decide +kernel
theorem dX12_of_27 : decode cX12_of 27 = .ok (.iload_n 2, 1) := by decide +kernel
theorem dX12_of_28 : decode cX12_of 28 = .ok (.iconst 1, 1) := by decide +kernel
theorem dX12_of_29 : decode cX12_of 29 = .ok (.if_icmp .ne 10, 3) := by decide +kernel
theorem dX12_of_32 : decode cX12_of 32 = .ok (.aload_n 0, 1) := by decide +kernel
theorem dX12_of_33 : decode cX12_of 33 = .ok (.getfield 22, 3) := by decide +kernel
theorem dX12_of_36 : decode cX12_of 36 = .ok (.iload_n 1, 1) := by decide +kernel
theorem dX12_of_37 : decode cX12_of 37 = .ok (.iaload, 1) := by decide +kernel
theorem dX12_of_38 : decode cX12_of 38 = .ok (.ireturn, 1) := by decide +kernel
theorem dX12_of_39 : decode cX12_of 39 = .ok (.iload_n 2, 1) := by decide +kernel
theorem dX12_of_40 : decode cX12_of 40 = .ok (.iconst 2, 1) := by decide +kernel
theorem dX12_of_41 : decode cX12_of 41 = .ok (.if_icmp .ne 10, 3) := by decide +kernel
theorem dX12_of_44 : decode cX12_of 44 = .ok (.aload_n 0, 1) := by decide +kernel
theorem dX12_of_45 : decode cX12_of 45 = .ok (.getfield 25, 3) := by decide +kernel
theorem dX12_of_48 : decode cX12_of 48 = .ok (.iload_n 1, 1) := by decide +kernel
theorem dX12_of_49 : decode cX12_of 49 = .ok (.iaload, 1) := by decide +kernel
theorem dX12_of_50 : decode cX12_of 50 = .ok (.ireturn, 1) := by decide +kernel
theorem dX12_of_51 : decode cX12_of 51 = .ok (.iload_n 2, 1) := by decide +kernel
theorem dX12_of_52 : decode cX12_of 52 = .ok (.iconst 3, 1) := by decide +kernel
theorem dX12_of_53 : decode cX12_of 53 = .ok (.if_icmp .ne 14, 3) := by decide +kernel
theorem dX12_of_56 : decode cX12_of 56 = .ok (.aload_n 0, 1) := by decide +kernel
theorem dX12_of_57 : decode cX12_of 57 = .ok (.getfield 7, 3) := by decide +kernel
theorem dX12_of_60 : decode cX12_of 60 = .ok (.iconst 5, 1) := by decide +kernel
theorem dX12_of_61 : decode cX12_of 61 = .ok (.iload_n 1, 1) := by decide +kernel
theorem dX12_of_62 : decode cX12_of 62 = .ok (.iadd, 1) := by decide +kernel
theorem dX12_of_63 : decode cX12_of 63 = .ok (.iaload, 1) := by decide +kernel
theorem dX12_of_64 : decode cX12_of 64 = .ok (.iconst 1, 1) := by decide +kernel
theorem dX12_of_65 : decode cX12_of 65 = .ok (.isub, 1) := by decide +kernel
theorem dX12_of_66 : decode cX12_of 66 = .ok (.ireturn, 1) := by decide +kernel
theorem dX12_of_67 : decode cX12_of 67 = .ok (.iload_n 2, 1) := by decide +kernel
theorem dX12_of_68 : decode cX12_of 68 = .ok (.iconst 4, 1) := by decide +kernel
theorem dX12_of_69 : decode cX12_of 69 = .ok (.if_icmp .ne 12, 3) := by decide +kernel
theorem dX12_of_72 : decode cX12_of 72 = .ok (.aload_n 0, 1) := by decide +kernel
theorem dX12_of_73 : decode cX12_of 73 = .ok (.getfield 77, 3) := by decide +kernel
theorem dX12_of_76 : decode cX12_of 76 = .ok (.iload_n 1, 1) := by decide +kernel
theorem dX12_of_77 : decode cX12_of 77 = .ok (.iaload, 1) := by decide +kernel
theorem dX12_of_78 : decode cX12_of 78 = .ok (.goto 23, 3) := by decide +kernel
theorem dX12_of_81 : decode cX12_of 81 = .ok (.iload_n 2, 1) := by decide +kernel
theorem dX12_of_82 : decode cX12_of 82 = .ok (.iconst 5, 1) := by decide +kernel
theorem dX12_of_83 : decode cX12_of 83 = .ok (.if_icmp .ne 16, 3) := by decide +kernel
theorem dX12_of_86 : decode cX12_of 86 = .ok (.aload_n 0, 1) := by decide +kernel
theorem dX12_of_87 : decode cX12_of 87 = .ok (.getfield 7, 3) := by decide +kernel
theorem dX12_of_90 : decode cX12_of 90 = .ok (.iconst 4, 1) := by decide +kernel
theorem dX12_of_91 : decode cX12_of 91 = .ok (.iaload, 1) := by decide +kernel
theorem dX12_of_92 : decode cX12_of 92 = .ok (.iload_n 1, 1) := by decide +kernel
theorem dX12_of_93 : decode cX12_of 93 = .ok (.ishr, 1) := by decide +kernel
theorem dX12_of_94 : decode cX12_of 94 = .ok (.iconst 1, 1) := by decide +kernel
theorem dX12_of_95 : decode cX12_of 95 = .ok (.iand, 1) := by decide +kernel
theorem dX12_of_96 : decode cX12_of 96 = .ok (.goto 5, 3) := by decide +kernel
theorem dX12_of_99 : decode cX12_of 99 = .ok (.bipush (-2), 2) := by decide +kernel
theorem dX12_of_101 : decode cX12_of 101 = .ok (.ireturn, 1) := by decide +kernel
theorem dX12_who_0 : decode cX12_who 0 = .ok (.aload_n 0, 1) := by decide +kernel
theorem dX12_who_1 : decode cX12_who 1 = .ok (.iconst 0, 1) := by decide +kernel
theorem dX12_who_2 : decode cX12_who 2 = .ok (.putfield 149, 3) := by decide +kernel
theorem dX12_who_5 : decode cX12_who 5 = .ok (.aload_n 0, 1) := by decide +kernel
theorem dX12_who_6 : decode cX12_who 6 = .ok (.iload_n 1, 1) := by decide +kernel
theorem dX12_who_7 : decode cX12_who 7 = .ok (.invokevirtual 175, 3) := by decide +kernel
theorem dX12_who_10 : decode cX12_who 10 = .ok (.ifCond .ne 6, 3) := by decide +kernel
theorem dX12_who_13 : decode cX12_who 13 = .ok (.bipush (-100), 2) := by decide +kernel
theorem dX12_who_15 : decode cX12_who 15 = .ok (.ireturn, 1) := by decide +kernel
theorem dX12_who_16 : decode cX12_who 16 = .ok (.iload_n 2, 1) := by decide +kernel
theorem dX12_who_17 : decode cX12_who 17 = .ok (.ifCond .ne 10, 3) := by decide +kernel
theorem dX12_who_20 : decode cX12_who 20 = .ok (.aload_n 0, 1) := by decide +kernel
theorem dX12_who_21 : decode cX12_who 21 = .ok (.getfield 28, 3) := by decide +kernel
theorem dX12_who_24 : decode cX12_who 24 = .ok (.iload_n 1, 1) := by decide +kernel
theorem dX12_who_25 : decode cX12_who 25 = .ok (.iaload, 1) := by decide +kernel
theorem dX12_who_26 : decode cX12_who 26 = .ok (.ireturn, 1) := by decide +kernel
theorem dX12_who_27 : decode cX12_who 27 = .ok (.iload_n 2, 1) := by decide +kernel
theorem dX12_who_28 : decode cX12_who 28 = .ok (.iconst 1, 1) := by decide +kernel
theorem dX12_who_29 : decode cX12_who 29 = .ok (.if_icmp .ne 10, 3) := by decide +kernel
theorem dX12_who_32 : decode cX12_who 32 = .ok (.aload_n 0, 1) := by decide +kernel
theorem dX12_who_33 : decode cX12_who 33 = .ok (.getfield 31, 3) := by decide +kernel
theorem dX12_who_36 : decode cX12_who 36 = .ok (.iload_n 1, 1) := by decide +kernel
theorem dX12_who_37 : decode cX12_who 37 = .ok (.iaload, 1) := by decide +kernel
theorem dX12_who_38 : decode cX12_who 38 = .ok (.ireturn, 1) := by decide +kernel
theorem dX12_who_39 : decode cX12_who 39 = .ok (.iload_n 2, 1) := by decide +kernel
theorem dX12_who_40 : decode cX12_who 40 = .ok (.iconst 2, 1) := by decide +kernel
theorem dX12_who_41 : decode cX12_who 41 = .ok (.if_icmp .ne 9, 3) := by decide +kernel
theorem dX12_who_44 : decode cX12_who 44 = .ok (.aload_n 0, 1) := by decide +kernel
theorem dX12_who_45 : decode cX12_who 45 = .ok (.iload_n 1, 1) := by decide +kernel
theorem dX12_who_46 : decode cX12_who 46 = .ok (.invokevirtual 381, 3) := by decide +kernel
theorem dX12_who_49 : decode cX12_who 49 = .ok (.ireturn, 1) := by decide +kernel
theorem dX12_who_50 : decode cX12_who 50 = .ok (.iload_n 2, 1) := by decide +kernel
theorem dX12_who_51 : decode cX12_who 51 = .ok (.iconst 3, 1) := by decide +kernel
theorem dX12_who_52 : decode cX12_who 52 = .ok (.if_icmp .ne 13, 3) := by decide +kernel
theorem dX12_who_55 : decode cX12_who 55 = .ok (.aload_n 0, 1) := by decide +kernel
theorem dX12_who_56 : decode cX12_who 56 = .ok (.getfield 7, 3) := by decide +kernel
theorem dX12_who_59 : decode cX12_who 59 = .ok (.bipush 25, 2) := by decide +kernel
theorem dX12_who_61 : decode cX12_who 61 = .ok (.iload_n 1, 1) := by decide +kernel
theorem dX12_who_62 : decode cX12_who 62 = .ok (.iadd, 1) := by decide +kernel
theorem dX12_who_63 : decode cX12_who 63 = .ok (.iaload, 1) := by decide +kernel
theorem dX12_who_64 : decode cX12_who 64 = .ok (.ireturn, 1) := by decide +kernel
theorem dX12_who_65 : decode cX12_who 65 = .ok (.iload_n 2, 1) := by decide +kernel
theorem dX12_who_66 : decode cX12_who 66 = .ok (.iconst 4, 1) := by decide +kernel
theorem dX12_who_67 : decode cX12_who 67 = .ok (.if_icmp .ne 13, 3) := by decide +kernel
theorem dX12_who_70 : decode cX12_who 70 = .ok (.aload_n 0, 1) := by decide +kernel
theorem dX12_who_71 : decode cX12_who 71 = .ok (.getfield 7, 3) := by decide +kernel
theorem dX12_who_74 : decode cX12_who 74 = .ok (.bipush 33, 2) := by decide +kernel
theorem dX12_who_76 : decode cX12_who 76 = .ok (.iload_n 1, 1) := by decide +kernel
theorem dX12_who_77 : decode cX12_who 77 = .ok (.iadd, 1) := by decide +kernel
theorem dX12_who_78 : decode cX12_who 78 = .ok (.iaload, 1) := by decide +kernel
theorem dX12_who_79 : decode cX12_who 79 = .ok (.ireturn, 1) := by decide +kernel
theorem dX12_who_80 : decode cX12_who 80 = .ok (.iload_n 2, 1) := by decide +kernel
theorem dX12_who_81 : decode cX12_who 81 = .ok (.iconst 5, 1) := by decide +kernel
theorem dX12_who_82 : decode cX12_who 82 = .ok (.if_icmp .ne 13, 3) := by decide +kernel
theorem dX12_who_85 : decode cX12_who 85 = .ok (.aload_n 0, 1) := by decide +kernel
theorem dX12_who_86 : decode cX12_who 86 = .ok (.getfield 7, 3) := by decide +kernel
theorem dX12_who_89 : decode cX12_who 89 = .ok (.bipush 41, 2) := by decide +kernel
theorem dX12_who_91 : decode cX12_who 91 = .ok (.iload_n 1, 1) := by decide +kernel
theorem dX12_who_92 : decode cX12_who 92 = .ok (.iadd, 1) := by decide +kernel
theorem dX12_who_93 : decode cX12_who 93 = .ok (.iaload, 1) := by decide +kernel
theorem dX12_who_94 : decode cX12_who 94 = .ok (.ireturn, 1) := by decide +kernel
theorem dX12_who_95 : decode cX12_who 95 = .ok (.aload_n 0, 1) := by decide +kernel
theorem dX12_who_96 : decode cX12_who 96 = .ok (.iload_n 2, 1) := by decide +kernel
theorem dX12_who_97 : decode cX12_who 97 = .ok (.bipush 10, 2) := by decide +kernel
theorem dX12_who_99 : decode cX12_who 99 = .ok (.bipush 9, 2) := by decide +kernel
theorem dX12_who_101 : decode cX12_who 101 = .ok (.aload_n 0, 1) := by decide +kernel
theorem dX12_who_102 : decode cX12_who 102 = .ok (.getfield 161, 3) := by decide +kernel
theorem dX12_who_105 : decode cX12_who 105 = .ok (.iadd, 1) := by decide +kernel
theorem dX12_who_106 : decode cX12_who 106 = .ok (.invokevirtual 167, 3) := by decide +kernel
theorem dX12_who_109 : decode cX12_who 109 = .ok (.ifCond .eq 15, 3) := by decide +kernel
theorem dX12_who_112 : decode cX12_who 112 = .ok (.aload_n 0, 1) := by decide +kernel
theorem dX12_who_113 : decode cX12_who 113 = .ok (.iload_n 1, 1) := by decide +kernel
theorem dX12_who_114 : decode cX12_who 114 = .ok (.iload_n 2, 1) := by decide +kernel
theorem dX12_who_115 : decode cX12_who 115 = .ok (.bipush 10, 2) := by decide +kernel
theorem dX12_who_117 : decode cX12_who 117 = .ok (.isub, 1) := by decide +kernel
theorem dX12_who_118 : decode cX12_who 118 = .ok (.invokevirtual 403, 3) := by decide +kernel
theorem dX12_who_121 : decode cX12_who 121 = .ok (.goto 5, 3) := by decide +kernel
theorem dX12_who_124 : decode cX12_who 124 = .ok (.bipush (-100), 2) := by decide +kernel
theorem dX12_who_126 : decode cX12_who 126 = .ok (.ireturn, 1) := by decide +kernel
theorem dX12_canAskOf_0 : decode cX12_canAskOf 0 = .ok (.aload_n 0, 1) := by decide +kernel
theorem dX12_canAskOf_1 : decode cX12_canAskOf 1 = .ok (.iload_n 1, 1) := by decide +kernel
theorem dX12_canAskOf_2 : decode cX12_canAskOf 2 = .ok (.invokevirtual 175, 3) := by decide +kernel
theorem dX12_canAskOf_5 : decode cX12_canAskOf 5 = .ok (.ifCond .eq 41, 3) := by decide +kernel
theorem dX12_canAskOf_8 : decode cX12_canAskOf 8 = .ok (.aload_n 0, 1) := by decide +kernel
theorem dX12_canAskOf_9 : decode cX12_canAskOf 9 = .ok (.iload_n 2, 1) := by decide +kernel
theorem dX12_canAskOf_10 : decode cX12_canAskOf 10 = .ok (.invokevirtual 171, 3) := by decide +kernel
theorem dX12_canAskOf_13 : decode cX12_canAskOf 13 = .ok (.ifCond .eq 33, 3) := by decide +kernel
theorem dX12_canAskOf_16 : decode cX12_canAskOf 16 = .ok (.aload_n 0, 1) := by decide +kernel
theorem dX12_canAskOf_17 : decode cX12_canAskOf 17 = .ok (.iload_n 3, 1) := by decide +kernel
theorem dX12_canAskOf_18 : decode cX12_canAskOf 18 = .ok (.iconst 0, 1) := by decide +kernel
theorem dX12_canAskOf_19 : decode cX12_canAskOf 19 = .ok (.aload_n 0, 1) := by decide +kernel
theorem dX12_canAskOf_20 : decode cX12_canAskOf 20 = .ok (.getfield 317, 3) := by decide +kernel
theorem dX12_canAskOf_23 : decode cX12_canAskOf 23 = .ok (.iconst 1, 1) := by decide +kernel
theorem dX12_canAskOf_24 : decode cX12_canAskOf 24 = .ok (.isub, 1) := by decide +kernel
theorem dX12_canAskOf_25 : decode cX12_canAskOf 25 = .ok (.invokevirtual 167, 3) := by decide +kernel
theorem dX12_canAskOf_28 : decode cX12_canAskOf 28 = .ok (.ifCond .eq 18, 3) := by decide +kernel
theorem dX12_canAskOf_31 : decode cX12_canAskOf 31 = .ok (.aload_n 0, 1) := by decide +kernel
theorem dX12_canAskOf_32 : decode cX12_canAskOf 32 = .ok (.iload 4, 2) := by decide +kernel
theorem dX12_canAskOf_34 : decode cX12_canAskOf 34 = .ok (.iconst 0, 1) := by decide +kernel
theorem dX12_canAskOf_35 : decode cX12_canAskOf 35 = .ok (.iconst 2, 1) := by decide +kernel
theorem dX12_canAskOf_36 : decode cX12_canAskOf 36 = .ok (.invokevirtual 167, 3) := by decide +kernel
theorem dX12_canAskOf_39 : decode cX12_canAskOf 39 = .ok (.ifCond .eq 7, 3) := by decide +kernel
theorem dX12_canAskOf_42 : decode cX12_canAskOf 42 = .ok (.iconst 1, 1) := by decide +kernel
theorem dX12_canAskOf_43 : decode cX12_canAskOf 43 = .ok (.goto 4, 3) := by decide +kernel
theorem dX12_canAskOf_46 : decode cX12_canAskOf 46 = .ok (.iconst 0, 1) := by decide +kernel
theorem dX12_canAskOf_47 : decode cX12_canAskOf 47 = .ok (.ireturn, 1) := by decide +kernel
theorem dX12_yes_0 : decode cX12_yes 0 = .ok (.aload_n 0, 1) := by decide +kernel
theorem dX12_yes_1 : decode cX12_yes 1 = .ok (.iconst 0, 1) := by decide +kernel
theorem dX12_yes_2 : decode cX12_yes 2 = .ok (.putfield 149, 3) := by decide +kernel
theorem dX12_yes_5 : decode cX12_yes 5 = .ok (.aload_n 0, 1) := by decide +kernel
theorem dX12_yes_6 : decode cX12_yes 6 = .ok (.iload_n 1, 1) := by decide +kernel
theorem dX12_yes_7 : decode cX12_yes 7 = .ok (.iload_n 2, 1) := by decide +kernel
theorem dX12_yes_8 : decode cX12_yes 8 = .ok (.iload_n 3, 1) := by decide +kernel
theorem dX12_yes_9 : decode cX12_yes 9 = .ok (.iload 4, 2) := by decide +kernel
theorem dX12_yes_11 : decode cX12_yes 11 = .ok (.invokevirtual 415, 3) := by decide +kernel
theorem dX12_yes_14 : decode cX12_yes 14 = .ok (.ifCond .eq 15, 3) := by decide +kernel
theorem dX12_yes_17 : decode cX12_yes 17 = .ok (.aload_n 0, 1) := by decide +kernel
theorem dX12_yes_18 : decode cX12_yes 18 = .ok (.iload_n 1, 1) := by decide +kernel
theorem dX12_yes_19 : decode cX12_yes 19 = .ok (.iload_n 2, 1) := by decide +kernel
theorem dX12_yes_20 : decode cX12_yes 20 = .ok (.iload_n 3, 1) := by decide +kernel
theorem dX12_yes_21 : decode cX12_yes 21 = .ok (.iload 4, 2) := by decide +kernel
theorem dX12_yes_23 : decode cX12_yes 23 = .ok (.invokevirtual 354, 3) := by decide +kernel
theorem dX12_yes_26 : decode cX12_yes 26 = .ok (.goto 4, 3) := by decide +kernel
theorem dX12_yes_29 : decode cX12_yes 29 = .ok (.iconst (-1), 1) := by decide +kernel
theorem dX12_yes_30 : decode cX12_yes 30 = .ok (.ireturn, 1) := by decide +kernel
theorem dX12_counts_0 : decode cX12_counts 0 = .ok (.aload_n 0, 1) := by decide +kernel
theorem dX12_counts_1 : decode cX12_counts 1 = .ok (.iconst 0, 1) := by decide +kernel
theorem dX12_counts_2 : decode cX12_counts 2 = .ok (.putfield 149, 3) := by decide +kernel
theorem dX12_counts_5 : decode cX12_counts 5 = .ok (.aload_n 0, 1) := by decide +kernel
theorem dX12_counts_6 : decode cX12_counts 6 = .ok (.iload_n 1, 1) := by decide +kernel
theorem dX12_counts_7 : decode cX12_counts 7 = .ok (.iload_n 2, 1) := by decide +kernel
theorem dX12_counts_8 : decode cX12_counts 8 = .ok (.iload_n 3, 1) := by decide +kernel
theorem dX12_counts_9 : decode cX12_counts 9 = .ok (.iload 4, 2) := by decide +kernel
theorem dX12_counts_11 : decode cX12_counts 11 = .ok (.invokevirtual 415, 3) := by decide +kernel
theorem dX12_counts_14 : decode cX12_counts 14 = .ok (.ifCond .eq 25, 3) := by decide +kernel
theorem dX12_counts_17 : decode cX12_counts 17 = .ok (.aload_n 0, 1) := by decide +kernel
theorem dX12_counts_18 : decode cX12_counts 18 = .ok (.iload_n 1, 1) := by decide +kernel
theorem dX12_counts_19 : decode cX12_counts 19 = .ok (.iload_n 2, 1) := by decide +kernel
theorem dX12_counts_20 : decode cX12_counts 20 = .ok (.iload_n 3, 1) := by decide +kernel
theorem dX12_counts_21 : decode cX12_counts 21 = .ok (.iload 4, 2) := by decide +kernel
theorem dX12_counts_23 : decode cX12_counts 23 = .ok (.iload 5, 2) := by decide +kernel
theorem dX12_counts_25 : decode cX12_counts 25 = .ok (.ifCond .eq 7, 3) := by decide +kernel
theorem dX12_counts_28 : decode cX12_counts 28 = .ok (.iconst 1, 1) := by decide +kernel
theorem dX12_counts_29 : decode cX12_counts 29 = .ok (.goto 4, 3) := by decide +kernel
theorem dX12_counts_32 : decode cX12_counts 32 = .ok (.iconst 0, 1) := by decide +kernel
theorem dX12_counts_33 : decode cX12_counts 33 = .ok (.invokevirtual 364, 3) := by decide +kernel
theorem dX12_counts_36 : decode cX12_counts 36 = .ok (.goto 5, 3) := by decide +kernel
theorem dX12_counts_39 : decode cX12_counts 39 = .ok (.bipush (-100), 2) := by decide +kernel
theorem dX12_counts_41 : decode cX12_counts 41 = .ok (.ireturn, 1) := by decide +kernel
theorem dX12_book_0 : decode cX12_book 0 = .ok (.aload_n 0, 1) := by decide +kernel
theorem dX12_book_1 : decode cX12_book 1 = .ok (.iconst 0, 1) := by decide +kernel
theorem dX12_book_2 : decode cX12_book 2 = .ok (.putfield 149, 3) := by decide +kernel
theorem dX12_book_5 : decode cX12_book 5 = .ok (.aload_n 0, 1) := by decide +kernel
theorem dX12_book_6 : decode cX12_book 6 = .ok (.iload_n 1, 1) := by decide +kernel
theorem dX12_book_7 : decode cX12_book 7 = .ok (.iconst 0, 1) := by decide +kernel
theorem dX12_book_8 : decode cX12_book 8 = .ok (.aload_n 0, 1) := by decide +kernel
theorem dX12_book_9 : decode cX12_book 9 = .ok (.getfield 7, 3) := by decide +kernel
theorem dX12_book_12 : decode cX12_book 12 = .ok (.iconst 2, 1) := by decide +kernel
theorem dX12_book_13 : decode cX12_book 13 = .ok (.iaload, 1) := by decide +kernel
theorem dX12_book_14 : decode cX12_book 14 = .ok (.iconst 1, 1) := by decide +kernel
theorem dX12_book_15 : decode cX12_book 15 = .ok (.isub, 1) := by decide +kernel
theorem dX12_book_16 : decode cX12_book 16 = .ok (.invokevirtual 167, 3) := by decide +kernel
theorem dX12_book_19 : decode cX12_book 19 = .ok (.ifCond .eq 26, 3) := by decide +kernel
theorem dX12_book_22 : decode cX12_book 22 = .ok (.aload_n 0, 1) := by decide +kernel
theorem dX12_book_23 : decode cX12_book 23 = .ok (.iload_n 2, 1) := by decide +kernel
theorem dX12_book_24 : decode cX12_book 24 = .ok (.iconst 0, 1) := by decide +kernel
theorem dX12_book_25 : decode cX12_book 25 = .ok (.iconst 3, 1) := by decide +kernel
theorem dX12_book_26 : decode cX12_book 26 = .ok (.invokevirtual 167, 3) := by decide +kernel
theorem dX12_book_29 : decode cX12_book 29 = .ok (.ifCond .eq 16, 3) := by decide +kernel
theorem dX12_book_32 : decode cX12_book 32 = .ok (.aload_n 0, 1) := by decide +kernel
theorem dX12_book_33 : decode cX12_book 33 = .ok (.getfield 34, 3) := by decide +kernel
theorem dX12_book_36 : decode cX12_book 36 = .ok (.iconst 4, 1) := by decide +kernel
theorem dX12_book_37 : decode cX12_book 37 = .ok (.iload_n 1, 1) := by decide +kernel
theorem dX12_book_38 : decode cX12_book 38 = .ok (.imul, 1) := by decide +kernel
theorem dX12_book_39 : decode cX12_book 39 = .ok (.iload_n 2, 1) := by decide +kernel
theorem dX12_book_40 : decode cX12_book 40 = .ok (.iadd, 1) := by decide +kernel
theorem dX12_book_41 : decode cX12_book 41 = .ok (.iaload, 1) := by decide +kernel
theorem dX12_book_42 : decode cX12_book 42 = .ok (.goto 6, 3) := by decide +kernel
theorem dX12_book_45 : decode cX12_book 45 = .ok (.sipush (-10000), 3) := by decide +kernel
theorem dX12_book_48 : decode cX12_book 48 = .ok (.ireturn, 1) := by decide +kernel
theorem dX12_would_0 : decode cX12_would 0 = .ok (.aload_n 0, 1) := by decide +kernel
theorem dX12_would_1 : decode cX12_would 1 = .ok (.iconst 0, 1) := by decide +kernel
theorem dX12_would_2 : decode cX12_would 2 = .ok (.putfield 149, 3) := by decide +kernel
theorem dX12_would_5 : decode cX12_would 5 = .ok (.aload_n 0, 1) := by decide +kernel
theorem dX12_would_6 : decode cX12_would 6 = .ok (.iload_n 1, 1) := by decide +kernel
theorem dX12_would_7 : decode cX12_would 7 = .ok (.invokevirtual 175, 3) := by decide +kernel
theorem dX12_would_10 : decode cX12_would 10 = .ok (.ifCond .eq 25, 3) := by decide +kernel
theorem dX12_would_13 : decode cX12_would 13 = .ok (.aload_n 0, 1) := by decide +kernel
theorem dX12_would_14 : decode cX12_would 14 = .ok (.iload_n 2, 1) := by decide +kernel
theorem dX12_would_15 : decode cX12_would 15 = .ok (.iload_n 3, 1) := by decide +kernel
theorem dX12_would_16 : decode cX12_would 16 = .ok (.iload 4, 2) := by decide +kernel
theorem dX12_would_18 : decode cX12_would 18 = .ok (.invokevirtual 387, 3) := by decide +kernel
theorem dX12_would_21 : decode cX12_would 21 = .ok (.ifCond .eq 14, 3) := by decide +kernel
theorem dX12_would_24 : decode cX12_would 24 = .ok (.aload_n 0, 1) := by decide +kernel
theorem dX12_would_25 : decode cX12_would 25 = .ok (.iload 5, 2) := by decide +kernel
theorem dX12_would_27 : decode cX12_would 27 = .ok (.iconst 0, 1) := by decide +kernel
theorem dX12_would_28 : decode cX12_would 28 = .ok (.iconst 1, 1) := by decide +kernel
theorem dX12_would_29 : decode cX12_would 29 = .ok (.invokevirtual 167, 3) := by decide +kernel
theorem dX12_would_32 : decode cX12_would 32 = .ok (.ifCond .ne 7, 3) := by decide +kernel
theorem dX12_would_35 : decode cX12_would 35 = .ok (.sipush (-10000), 3) := by decide +kernel
theorem dX12_would_38 : decode cX12_would 38 = .ok (.ireturn, 1) := by decide +kernel
theorem dX12_would_39 : decode cX12_would 39 = .ok (.aload_n 0, 1) := by decide +kernel
theorem dX12_would_40 : decode cX12_would 40 = .ok (.invokevirtual 418, 3) := by decide +kernel
theorem dX12_would_43 : decode cX12_would 43 = .ok (.aload_n 0, 1) := by decide +kernel
theorem dX12_would_44 : decode cX12_would 44 = .ok (.iload_n 2, 1) := by decide +kernel
theorem dX12_would_45 : decode cX12_would 45 = .ok (.iload_n 3, 1) := by decide +kernel
theorem dX12_would_46 : decode cX12_would 46 = .ok (.iload 4, 2) := by decide +kernel
theorem dX12_would_48 : decode cX12_would 48 = .ok (.invokevirtual 375, 3) := by decide +kernel
theorem dX12_would_51 : decode cX12_would 51 = .ok (.aload_n 0, 1) := by decide +kernel
theorem dX12_would_52 : decode cX12_would 52 = .ok (.iload_n 1, 1) := by decide +kernel
theorem dX12_would_53 : decode cX12_would 53 = .ok (.invokevirtual 378, 3) := by decide +kernel
theorem dX12_would_56 : decode cX12_would 56 = .ok (.istore 6, 2) := by decide +kernel
theorem dX12_would_58 : decode cX12_would 58 = .ok (.aload_n 0, 1) := by decide +kernel
theorem dX12_would_59 : decode cX12_would 59 = .ok (.invokevirtual 421, 3) := by decide +kernel
theorem dX12_would_62 : decode cX12_would 62 = .ok (.iload 5, 2) := by decide +kernel
theorem dX12_would_64 : decode cX12_would 64 = .ok (.ifCond .ne 13, 3) := by decide +kernel
theorem dX12_would_67 : decode cX12_would 67 = .ok (.aload_n 0, 1) := by decide +kernel
theorem dX12_would_68 : decode cX12_would 68 = .ok (.getfield 86, 3) := by decide +kernel
theorem dX12_would_71 : decode cX12_would 71 = .ok (.iload 6, 2) := by decide +kernel
theorem dX12_would_73 : decode cX12_would 73 = .ok (.iaload, 1) := by decide +kernel
theorem dX12_would_74 : decode cX12_would 74 = .ok (.goto 10, 3) := by decide +kernel
theorem dX12_would_77 : decode cX12_would 77 = .ok (.aload_n 0, 1) := by decide +kernel
theorem dX12_would_78 : decode cX12_would 78 = .ok (.getfield 89, 3) := by decide +kernel
theorem dX12_would_81 : decode cX12_would 81 = .ok (.iload 6, 2) := by decide +kernel
theorem dX12_would_83 : decode cX12_would 83 = .ok (.iaload, 1) := by decide +kernel
theorem dX12_would_84 : decode cX12_would 84 = .ok (.ireturn, 1) := by decide +kernel
theorem dX12_goes_0 : decode cX12_goes 0 = .ok (.aload_n 0, 1) := by decide +kernel
theorem dX12_goes_1 : decode cX12_goes 1 = .ok (.iconst 0, 1) := by decide +kernel
theorem dX12_goes_2 : decode cX12_goes 2 = .ok (.putfield 149, 3) := by decide +kernel
theorem dX12_goes_5 : decode cX12_goes 5 = .ok (.aload_n 0, 1) := by decide +kernel
theorem dX12_goes_6 : decode cX12_goes 6 = .ok (.iload_n 1, 1) := by decide +kernel
theorem dX12_goes_7 : decode cX12_goes 7 = .ok (.iconst 1, 1) := by decide +kernel
theorem dX12_goes_8 : decode cX12_goes 8 = .ok (.bipush 60, 2) := by decide +kernel
theorem dX12_goes_10 : decode cX12_goes 10 = .ok (.invokevirtual 167, 3) := by decide +kernel
theorem dX12_goes_13 : decode cX12_goes 13 = .ok (.ifCond .eq 13, 3) := by decide +kernel
theorem dX12_goes_16 : decode cX12_goes 16 = .ok (.aload_n 0, 1) := by decide +kernel
theorem dX12_goes_17 : decode cX12_goes 17 = .ok (.iload_n 2, 1) := by decide +kernel
theorem dX12_goes_18 : decode cX12_goes 18 = .ok (.iconst 0, 1) := by decide +kernel
theorem dX12_goes_19 : decode cX12_goes 19 = .ok (.iconst 3, 1) := by decide +kernel
theorem dX12_goes_20 : decode cX12_goes 20 = .ok (.invokevirtual 167, 3) := by decide +kernel
theorem dX12_goes_23 : decode cX12_goes 23 = .ok (.ifCond .ne 7, 3) := by decide +kernel
theorem dX12_goes_26 : decode cX12_goes 26 = .ok (.sipush (-10000), 3) := by decide +kernel
theorem dX12_goes_29 : decode cX12_goes 29 = .ok (.ireturn, 1) := by decide +kernel
theorem dX12_goes_30 : decode cX12_goes 30 = .ok (.aload_n 0, 1) := by decide +kernel
theorem dX12_goes_31 : decode cX12_goes 31 = .ok (.invokevirtual 418, 3) := by decide +kernel
theorem dX12_goes_34 : decode cX12_goes 34 = .ok (.iconst 0, 1) := by decide +kernel
theorem dX12_goes_35 : decode cX12_goes 35 = .ok (.istore_n 3, 1) := by decide +kernel
theorem dX12_goes_36 : decode cX12_goes 36 = .ok (.iload_n 3, 1) := by decide +kernel
theorem dX12_goes_37 : decode cX12_goes 37 = .ok (.iload_n 1, 1) := by decide +kernel
theorem dX12_goes_38 : decode cX12_goes 38 = .ok (.if_icmp .ge 14, 3) := by decide +kernel
theorem dX12_goes_41 : decode cX12_goes 41 = .ok (.aload_n 0, 1) := by decide +kernel
theorem dX12_goes_42 : decode cX12_goes 42 = .ok (.invokevirtual 412, 3) := by decide +kernel
theorem dX12_goes_45 : decode cX12_goes 45 = .ok (.pop, 1) := by decide +kernel
theorem dX12_goes_46 : decode cX12_goes 46 = .ok (.iinc 3 1, 3) := by decide +kernel
theorem dX12_goes_49 : decode cX12_goes 49 = .ok (.goto (-13), 3) := by decide +kernel
theorem dX12_goes_52 : decode cX12_goes 52 = .ok (.iconst 0, 1) := by decide +kernel
theorem dX12_goes_53 : decode cX12_goes 53 = .ok (.istore_n 3, 1) := by decide +kernel
theorem dX12_goes_54 : decode cX12_goes 54 = .ok (.iconst 0, 1) := by decide +kernel
theorem dX12_goes_55 : decode cX12_goes 55 = .ok (.istore 4, 2) := by decide +kernel
theorem dX12_goes_57 : decode cX12_goes 57 = .ok (.iconst 0, 1) := by decide +kernel
theorem dX12_goes_58 : decode cX12_goes 58 = .ok (.istore 5, 2) := by decide +kernel
theorem dX12_goes_60 : decode cX12_goes 60 = .ok (.iconst 0, 1) := by decide +kernel
theorem dX12_goes_61 : decode cX12_goes 61 = .ok (.istore 6, 2) := by decide +kernel
theorem dX12_goes_63 : decode cX12_goes 63 = .ok (.iload 6, 2) := by decide +kernel
theorem dX12_goes_65 : decode cX12_goes 65 = .ok (.aload_n 0, 1) := by decide +kernel
theorem dX12_goes_66 : decode cX12_goes 66 = .ok (.getfield 164, 3) := by decide +kernel
theorem dX12_goes_69 : decode cX12_goes 69 = .ok (.if_icmp .ge 53, 3) := by decide +kernel
theorem dX12_goes_72 : decode cX12_goes 72 = .ok (.iload_n 3, 1) := by decide +kernel
theorem dX12_goes_73 : decode cX12_goes 73 = .ok (.aload_n 0, 1) := by decide +kernel
theorem dX12_goes_74 : decode cX12_goes 74 = .ok (.getfield 7, 3) := by decide +kernel
theorem dX12_goes_77 : decode cX12_goes 77 = .ok (.bipush 33, 2) := by decide +kernel
theorem dX12_goes_79 : decode cX12_goes 79 = .ok (.iload 6, 2) := by decide +kernel
theorem dX12_goes_81 : decode cX12_goes 81 = .ok (.iadd, 1) := by decide +kernel
theorem dX12_goes_82 : decode cX12_goes 82 = .ok (.iaload, 1) := by decide +kernel
theorem dX12_goes_83 : decode cX12_goes 83 = .ok (.iadd, 1) := by decide +kernel
theorem dX12_goes_84 : decode cX12_goes 84 = .ok (.istore_n 3, 1) := by decide +kernel
theorem dX12_goes_85 : decode cX12_goes 85 = .ok (.iload 4, 2) := by decide +kernel
theorem dX12_goes_87 : decode cX12_goes 87 = .ok (.aload_n 0, 1) := by decide +kernel
theorem dX12_goes_88 : decode cX12_goes 88 = .ok (.getfield 7, 3) := by decide +kernel
theorem dX12_goes_91 : decode cX12_goes 91 = .ok (.bipush 25, 2) := by decide +kernel
theorem dX12_goes_93 : decode cX12_goes 93 = .ok (.iload 6, 2) := by decide +kernel
theorem dX12_goes_95 : decode cX12_goes 95 = .ok (.iadd, 1) := by decide +kernel
theorem dX12_goes_96 : decode cX12_goes 96 = .ok (.iaload, 1) := by decide +kernel
theorem dX12_goes_97 : decode cX12_goes 97 = .ok (.iadd, 1) := by decide +kernel
theorem dX12_goes_98 : decode cX12_goes 98 = .ok (.istore 4, 2) := by decide +kernel
theorem dX12_goes_100 : decode cX12_goes 100 = .ok (.aload_n 0, 1) := by decide +kernel
theorem dX12_goes_101 : decode cX12_goes 101 = .ok (.iload 6, 2) := by decide +kernel
theorem dX12_goes_103 : decode cX12_goes 103 = .ok (.invokevirtual 381, 3) := by decide +kernel
theorem dX12_goes_106 : decode cX12_goes 106 = .ok (.iconst (-1), 1) := by decide +kernel
theorem dX12_goes_107 : decode cX12_goes 107 = .ok (.if_icmp .eq 9, 3) := by decide +kernel
theorem dX12_goes_110 : decode cX12_goes 110 = .ok (.iload 5, 2) := by decide +kernel
theorem dX12_goes_112 : decode cX12_goes 112 = .ok (.iconst 1, 1) := by decide +kernel
theorem dX12_goes_113 : decode cX12_goes 113 = .ok (.iadd, 1) := by decide +kernel
theorem dX12_goes_114 : decode cX12_goes 114 = .ok (.istore 5, 2) := by decide +kernel
theorem dX12_goes_116 : decode cX12_goes 116 = .ok (.iinc 6 1, 3) := by decide +kernel
theorem dX12_goes_119 : decode cX12_goes 119 = .ok (.goto (-56), 3) := by decide +kernel
theorem dX12_goes_122 : decode cX12_goes 122 = .ok (.iload_n 2, 1) := by decide +kernel
theorem dX12_goes_123 : decode cX12_goes 123 = .ok (.ifCond .ne 12, 3) := by decide +kernel
theorem dX12_goes_126 : decode cX12_goes 126 = .ok (.aload_n 0, 1) := by decide +kernel
theorem dX12_goes_127 : decode cX12_goes 127 = .ok (.getfield 7, 3) := by decide +kernel
theorem dX12_goes_130 : decode cX12_goes 130 = .ok (.iconst 3, 1) := by decide +kernel
theorem dX12_goes_131 : decode cX12_goes 131 = .ok (.iaload, 1) := by decide +kernel
theorem dX12_goes_132 : decode cX12_goes 132 = .ok (.goto 24, 3) := by decide +kernel
theorem dX12_goes_135 : decode cX12_goes 135 = .ok (.iload_n 2, 1) := by decide +kernel
theorem dX12_goes_136 : decode cX12_goes 136 = .ok (.iconst 1, 1) := by decide +kernel
theorem dX12_goes_137 : decode cX12_goes 137 = .ok (.if_icmp .ne 7, 3) := by decide +kernel
theorem dX12_goes_140 : decode cX12_goes 140 = .ok (.iload_n 3, 1) := by decide +kernel
theorem dX12_goes_141 : decode cX12_goes 141 = .ok (.goto 15, 3) := by decide +kernel
theorem dX12_goes_144 : decode cX12_goes 144 = .ok (.iload_n 2, 1) := by decide +kernel
theorem dX12_goes_145 : decode cX12_goes 145 = .ok (.iconst 2, 1) := by decide +kernel
theorem dX12_goes_146 : decode cX12_goes 146 = .ok (.if_icmp .ne 8, 3) := by decide +kernel
theorem dX12_goes_149 : decode cX12_goes 149 = .ok (.iload 4, 2) := by decide +kernel
theorem dX12_goes_151 : decode cX12_goes 151 = .ok (.goto 5, 3) := by decide +kernel
theorem dX12_goes_154 : decode cX12_goes 154 = .ok (.iload 5, 2) := by decide +kernel
theorem dX12_goes_156 : decode cX12_goes 156 = .ok (.istore 6, 2) := by decide +kernel
theorem dX12_goes_158 : decode cX12_goes 158 = .ok (.aload_n 0, 1) := by decide +kernel
theorem dX12_goes_159 : decode cX12_goes 159 = .ok (.invokevirtual 421, 3) := by decide +kernel
theorem dX12_goes_162 : decode cX12_goes 162 = .ok (.iload 6, 2) := by decide +kernel
theorem dX12_goes_164 : decode cX12_goes 164 = .ok (.ireturn, 1) := by decide +kernel
theorem dX12_tellsBy_0 : decode cX12_tellsBy 0 = .ok (.ldc_w 424, 3) := by decide +kernel
theorem dX12_tellsBy_3 : decode cX12_tellsBy 3 = .ok (.istore 4, 2) := by decide +kernel
theorem dX12_tellsBy_5 : decode cX12_tellsBy 5 = .ok (.aload_n 0, 1) := by decide +kernel
theorem dX12_tellsBy_6 : decode cX12_tellsBy 6 = .ok (.iload_n 1, 1) := by decide +kernel
theorem dX12_tellsBy_7 : decode cX12_tellsBy 7 = .ok (.aload_n 0, 1) := by decide +kernel
theorem dX12_tellsBy_8 : decode cX12_tellsBy 8 = .ok (.getfield 86, 3) := by decide +kernel
theorem dX12_tellsBy_11 : decode cX12_tellsBy 11 = .ok (.iload_n 3, 1) := by decide +kernel
theorem dX12_tellsBy_12 : decode cX12_tellsBy 12 = .ok (.iaload, 1) := by decide +kernel
theorem dX12_tellsBy_13 : decode cX12_tellsBy 13 = .ok (.iload_n 2, 1) := by decide +kernel
theorem dX12_tellsBy_14 : decode cX12_tellsBy 14 = .ok (.iload_n 3, 1) := by decide +kernel
theorem dX12_tellsBy_15 : decode cX12_tellsBy 15 = .ok (.invokevirtual 354, 3) := by decide +kernel
theorem dX12_tellsBy_18 : decode cX12_tellsBy 18 = .ok (.istore 5, 2) := by decide +kernel
theorem dX12_tellsBy_20 : decode cX12_tellsBy 20 = .ok (.iconst 0, 1) := by decide +kernel
theorem dX12_tellsBy_21 : decode cX12_tellsBy 21 = .ok (.istore 6, 2) := by decide +kernel
theorem dX12_tellsBy_23 : decode cX12_tellsBy 23 = .ok (.iload 6, 2) := by decide +kernel
theorem dX12_tellsBy_25 : decode cX12_tellsBy 25 = .ok (.iconst 3, 1) := by decide +kernel
theorem dX12_tellsBy_26 : decode cX12_tellsBy 26 = .ok (.if_icmp .ge 44, 3) := by decide +kernel
theorem dX12_tellsBy_29 : decode cX12_tellsBy 29 = .ok (.iload 6, 2) := by decide +kernel
theorem dX12_tellsBy_31 : decode cX12_tellsBy 31 = .ok (.iload_n 3, 1) := by decide +kernel
theorem dX12_tellsBy_32 : decode cX12_tellsBy 32 = .ok (.if_icmp .eq 32, 3) := by decide +kernel
theorem dX12_tellsBy_35 : decode cX12_tellsBy 35 = .ok (.aload_n 0, 1) := by decide +kernel
theorem dX12_tellsBy_36 : decode cX12_tellsBy 36 = .ok (.iload 4, 2) := by decide +kernel
theorem dX12_tellsBy_38 : decode cX12_tellsBy 38 = .ok (.aload_n 0, 1) := by decide +kernel
theorem dX12_tellsBy_39 : decode cX12_tellsBy 39 = .ok (.iload 5, 2) := by decide +kernel
theorem dX12_tellsBy_41 : decode cX12_tellsBy 41 = .ok (.aload_n 0, 1) := by decide +kernel
theorem dX12_tellsBy_42 : decode cX12_tellsBy 42 = .ok (.iload_n 1, 1) := by decide +kernel
theorem dX12_tellsBy_43 : decode cX12_tellsBy 43 = .ok (.aload_n 0, 1) := by decide +kernel
theorem dX12_tellsBy_44 : decode cX12_tellsBy 44 = .ok (.getfield 86, 3) := by decide +kernel
theorem dX12_tellsBy_47 : decode cX12_tellsBy 47 = .ok (.iload 6, 2) := by decide +kernel
theorem dX12_tellsBy_49 : decode cX12_tellsBy 49 = .ok (.iaload, 1) := by decide +kernel
theorem dX12_tellsBy_50 : decode cX12_tellsBy 50 = .ok (.iload_n 2, 1) := by decide +kernel
theorem dX12_tellsBy_51 : decode cX12_tellsBy 51 = .ok (.iload 6, 2) := by decide +kernel
theorem dX12_tellsBy_53 : decode cX12_tellsBy 53 = .ok (.invokevirtual 354, 3) := by decide +kernel
theorem dX12_tellsBy_56 : decode cX12_tellsBy 56 = .ok (.invokevirtual 425, 3) := by decide +kernel
theorem dX12_tellsBy_59 : decode cX12_tellsBy 59 = .ok (.invokevirtual 428, 3) := by decide +kernel
theorem dX12_tellsBy_62 : decode cX12_tellsBy 62 = .ok (.istore 4, 2) := by decide +kernel
theorem dX12_tellsBy_64 : decode cX12_tellsBy 64 = .ok (.iinc 6 1, 3) := by decide +kernel
theorem dX12_tellsBy_67 : decode cX12_tellsBy 67 = .ok (.goto (-44), 3) := by decide +kernel
theorem dX12_tellsBy_70 : decode cX12_tellsBy 70 = .ok (.iload 4, 2) := by decide +kernel
theorem dX12_tellsBy_72 : decode cX12_tellsBy 72 = .ok (.ireturn, 1) := by decide +kernel
theorem dX12_tells_0 : decode cX12_tells 0 = .ok (.aload_n 0, 1) := by decide +kernel
theorem dX12_tells_1 : decode cX12_tells 1 = .ok (.iconst 0, 1) := by decide +kernel
theorem dX12_tells_2 : decode cX12_tells 2 = .ok (.putfield 149, 3) := by decide +kernel
theorem dX12_tells_5 : decode cX12_tells 5 = .ok (.aload_n 0, 1) := by decide +kernel
theorem dX12_tells_6 : decode cX12_tells 6 = .ok (.iload_n 1, 1) := by decide +kernel
theorem dX12_tells_7 : decode cX12_tells 7 = .ok (.invokevirtual 175, 3) := by decide +kernel
theorem dX12_tells_10 : decode cX12_tells 10 = .ok (.ifCond .eq 32, 3) := by decide +kernel
theorem dX12_tells_13 : decode cX12_tells 13 = .ok (.aload_n 0, 1) := by decide +kernel
theorem dX12_tells_14 : decode cX12_tells 14 = .ok (.iload_n 2, 1) := by decide +kernel
theorem dX12_tells_15 : decode cX12_tells 15 = .ok (.iload_n 3, 1) := by decide +kernel
theorem dX12_tells_16 : decode cX12_tells 16 = .ok (.iload 4, 2) := by decide +kernel
theorem dX12_tells_18 : decode cX12_tells 18 = .ok (.invokevirtual 387, 3) := by decide +kernel
theorem dX12_tells_21 : decode cX12_tells 21 = .ok (.ifCond .eq 21, 3) := by decide +kernel
theorem dX12_tells_24 : decode cX12_tells 24 = .ok (.aload_n 0, 1) := by decide +kernel
theorem dX12_tells_25 : decode cX12_tells 25 = .ok (.getfield 317, 3) := by decide +kernel
theorem dX12_tells_28 : decode cX12_tells 28 = .ok (.ifCond .eq 14, 3) := by decide +kernel
theorem dX12_tells_31 : decode cX12_tells 31 = .ok (.aload_n 0, 1) := by decide +kernel
theorem dX12_tells_32 : decode cX12_tells 32 = .ok (.iload 5, 2) := by decide +kernel
theorem dX12_tells_34 : decode cX12_tells 34 = .ok (.iconst 0, 1) := by decide +kernel
theorem dX12_tells_35 : decode cX12_tells 35 = .ok (.iconst 1, 1) := by decide +kernel
theorem dX12_tells_36 : decode cX12_tells 36 = .ok (.invokevirtual 167, 3) := by decide +kernel
theorem dX12_tells_39 : decode cX12_tells 39 = .ok (.ifCond .ne 5, 3) := by decide +kernel
theorem dX12_tells_42 : decode cX12_tells 42 = .ok (.iconst (-1), 1) := by decide +kernel
theorem dX12_tells_43 : decode cX12_tells 43 = .ok (.ireturn, 1) := by decide +kernel
theorem dX12_tells_44 : decode cX12_tells 44 = .ok (.aload_n 0, 1) := by decide +kernel
theorem dX12_tells_45 : decode cX12_tells 45 = .ok (.iload_n 2, 1) := by decide +kernel
theorem dX12_tells_46 : decode cX12_tells 46 = .ok (.iload_n 3, 1) := by decide +kernel
theorem dX12_tells_47 : decode cX12_tells 47 = .ok (.iload 4, 2) := by decide +kernel
theorem dX12_tells_49 : decode cX12_tells 49 = .ok (.invokevirtual 375, 3) := by decide +kernel
theorem dX12_tells_52 : decode cX12_tells 52 = .ok (.iconst (-1), 1) := by decide +kernel
theorem dX12_tells_53 : decode cX12_tells 53 = .ok (.istore 6, 2) := by decide +kernel
theorem dX12_tells_55 : decode cX12_tells 55 = .ok (.iconst 0, 1) := by decide +kernel
theorem dX12_tells_56 : decode cX12_tells 56 = .ok (.istore 7, 2) := by decide +kernel
theorem dX12_tells_58 : decode cX12_tells 58 = .ok (.iload 7, 2) := by decide +kernel
theorem dX12_tells_60 : decode cX12_tells 60 = .ok (.iconst 3, 1) := by decide +kernel
theorem dX12_tells_61 : decode cX12_tells 61 = .ok (.if_icmp .ge 29, 3) := by decide +kernel
theorem dX12_tells_64 : decode cX12_tells 64 = .ok (.aload_n 0, 1) := by decide +kernel
theorem dX12_tells_65 : decode cX12_tells 65 = .ok (.getfield 86, 3) := by decide +kernel
theorem dX12_tells_68 : decode cX12_tells 68 = .ok (.iload 7, 2) := by decide +kernel
theorem dX12_tells_70 : decode cX12_tells 70 = .ok (.iaload, 1) := by decide +kernel
theorem dX12_tells_71 : decode cX12_tells 71 = .ok (.aload_n 0, 1) := by decide +kernel
theorem dX12_tells_72 : decode cX12_tells 72 = .ok (.getfield 31, 3) := by decide +kernel
theorem dX12_tells_75 : decode cX12_tells 75 = .ok (.iload_n 1, 1) := by decide +kernel
theorem dX12_tells_76 : decode cX12_tells 76 = .ok (.iaload, 1) := by decide +kernel
theorem dX12_tells_77 : decode cX12_tells 77 = .ok (.if_icmp .ne 7, 3) := by decide +kernel
theorem dX12_tells_80 : decode cX12_tells 80 = .ok (.iload 7, 2) := by decide +kernel
theorem dX12_tells_82 : decode cX12_tells 82 = .ok (.istore 6, 2) := by decide +kernel
theorem dX12_tells_84 : decode cX12_tells 84 = .ok (.iinc 7 1, 3) := by decide +kernel
theorem dX12_tells_87 : decode cX12_tells 87 = .ok (.goto (-29), 3) := by decide +kernel
theorem dX12_tells_90 : decode cX12_tells 90 = .ok (.iload 6, 2) := by decide +kernel
theorem dX12_tells_92 : decode cX12_tells 92 = .ok (.iconst (-1), 1) := by decide +kernel
theorem dX12_tells_93 : decode cX12_tells 93 = .ok (.if_icmp .ne 5, 3) := by decide +kernel
theorem dX12_tells_96 : decode cX12_tells 96 = .ok (.iconst (-1), 1) := by decide +kernel
theorem dX12_tells_97 : decode cX12_tells 97 = .ok (.ireturn, 1) := by decide +kernel
theorem dX12_tells_98 : decode cX12_tells 98 = .ok (.iconst 0, 1) := by decide +kernel
theorem dX12_tells_99 : decode cX12_tells 99 = .ok (.istore 7, 2) := by decide +kernel
theorem dX12_tells_101 : decode cX12_tells 101 = .ok (.iconst 1, 1) := by decide +kernel
theorem dX12_tells_102 : decode cX12_tells 102 = .ok (.istore 8, 2) := by decide +kernel
theorem dX12_tells_104 : decode cX12_tells 104 = .ok (.iload 8, 2) := by decide +kernel
theorem dX12_tells_106 : decode cX12_tells 106 = .ok (.aload_n 0, 1) := by decide +kernel
theorem dX12_tells_107 : decode cX12_tells 107 = .ok (.getfield 317, 3) := by decide +kernel
theorem dX12_tells_110 : decode cX12_tells 110 = .ok (.if_icmp .ge 34, 3) := by decide +kernel
theorem dX12_tells_113 : decode cX12_tells 113 = .ok (.aload_n 0, 1) := by decide +kernel
theorem dX12_tells_114 : decode cX12_tells 114 = .ok (.iload_n 1, 1) := by decide +kernel
theorem dX12_tells_115 : decode cX12_tells 115 = .ok (.iload 8, 2) := by decide +kernel
theorem dX12_tells_117 : decode cX12_tells 117 = .ok (.iload 6, 2) := by decide +kernel
theorem dX12_tells_119 : decode cX12_tells 119 = .ok (.invokevirtual 431, 3) := by decide +kernel
theorem dX12_tells_122 : decode cX12_tells 122 = .ok (.aload_n 0, 1) := by decide +kernel
theorem dX12_tells_123 : decode cX12_tells 123 = .ok (.iload_n 1, 1) := by decide +kernel
theorem dX12_tells_124 : decode cX12_tells 124 = .ok (.iload 7, 2) := by decide +kernel
theorem dX12_tells_126 : decode cX12_tells 126 = .ok (.iload 6, 2) := by decide +kernel
theorem dX12_tells_128 : decode cX12_tells 128 = .ok (.invokevirtual 431, 3) := by decide +kernel
theorem dX12_tells_131 : decode cX12_tells 131 = .ok (.if_icmp .le 7, 3) := by decide +kernel
theorem dX12_tells_134 : decode cX12_tells 134 = .ok (.iload 8, 2) := by decide +kernel
theorem dX12_tells_136 : decode cX12_tells 136 = .ok (.istore 7, 2) := by decide +kernel
theorem dX12_tells_138 : decode cX12_tells 138 = .ok (.iinc 8 1, 3) := by decide +kernel
theorem dX12_tells_141 : decode cX12_tells 141 = .ok (.goto (-37), 3) := by decide +kernel
theorem dX12_tells_144 : decode cX12_tells 144 = .ok (.iload 5, 2) := by decide +kernel
theorem dX12_tells_146 : decode cX12_tells 146 = .ok (.ifCond .ne 8, 3) := by decide +kernel
theorem dX12_tells_149 : decode cX12_tells 149 = .ok (.iload 7, 2) := by decide +kernel
theorem dX12_tells_151 : decode cX12_tells 151 = .ok (.goto 12, 3) := by decide +kernel
theorem dX12_tells_154 : decode cX12_tells 154 = .ok (.aload_n 0, 1) := by decide +kernel
theorem dX12_tells_155 : decode cX12_tells 155 = .ok (.iload_n 1, 1) := by decide +kernel
theorem dX12_tells_156 : decode cX12_tells 156 = .ok (.iload 7, 2) := by decide +kernel
theorem dX12_tells_158 : decode cX12_tells 158 = .ok (.iload 6, 2) := by decide +kernel
theorem dX12_tells_160 : decode cX12_tells 160 = .ok (.invokevirtual 431, 3) := by decide +kernel
theorem dX12_tells_163 : decode cX12_tells 163 = .ok (.ireturn, 1) := by decide +kernel
theorem dX12_moreBy_0 : decode cX12_moreBy 0 = .ok (.aload_n 0, 1) := by decide +kernel
theorem dX12_moreBy_1 : decode cX12_moreBy 1 = .ok (.invokevirtual 418, 3) := by decide +kernel
theorem dX12_moreBy_4 : decode cX12_moreBy 4 = .ok (.aload_n 0, 1) := by decide +kernel
theorem dX12_moreBy_5 : decode cX12_moreBy 5 = .ok (.iload_n 2, 1) := by decide +kernel
theorem dX12_moreBy_6 : decode cX12_moreBy 6 = .ok (.aload_n 0, 1) := by decide +kernel
theorem dX12_moreBy_7 : decode cX12_moreBy 7 = .ok (.getfield 31, 3) := by decide +kernel
theorem dX12_moreBy_10 : decode cX12_moreBy 10 = .ok (.iload_n 1, 1) := by decide +kernel
theorem dX12_moreBy_11 : decode cX12_moreBy 11 = .ok (.iaload, 1) := by decide +kernel
theorem dX12_moreBy_12 : decode cX12_moreBy 12 = .ok (.iload_n 3, 1) := by decide +kernel
theorem dX12_moreBy_13 : decode cX12_moreBy 13 = .ok (.invokevirtual 375, 3) := by decide +kernel
theorem dX12_moreBy_16 : decode cX12_moreBy 16 = .ok (.aload_n 0, 1) := by decide +kernel
theorem dX12_moreBy_17 : decode cX12_moreBy 17 = .ok (.iload_n 1, 1) := by decide +kernel
theorem dX12_moreBy_18 : decode cX12_moreBy 18 = .ok (.invokevirtual 378, 3) := by decide +kernel
theorem dX12_moreBy_21 : decode cX12_moreBy 21 = .ok (.pop, 1) := by decide +kernel
theorem dX12_moreBy_22 : decode cX12_moreBy 22 = .ok (.aload_n 0, 1) := by decide +kernel
theorem dX12_moreBy_23 : decode cX12_moreBy 23 = .ok (.invokevirtual 421, 3) := by decide +kernel
theorem dX12_moreBy_26 : decode cX12_moreBy 26 = .ok (.aload_n 0, 1) := by decide +kernel
theorem dX12_moreBy_27 : decode cX12_moreBy 27 = .ok (.getfield 89, 3) := by decide +kernel
theorem dX12_moreBy_30 : decode cX12_moreBy 30 = .ok (.iconst 1, 1) := by decide +kernel
theorem dX12_moreBy_31 : decode cX12_moreBy 31 = .ok (.iaload, 1) := by decide +kernel
theorem dX12_moreBy_32 : decode cX12_moreBy 32 = .ok (.aload_n 0, 1) := by decide +kernel
theorem dX12_moreBy_33 : decode cX12_moreBy 33 = .ok (.aload_n 0, 1) := by decide +kernel
theorem dX12_moreBy_34 : decode cX12_moreBy 34 = .ok (.getfield 89, 3) := by decide +kernel
theorem dX12_moreBy_37 : decode cX12_moreBy 37 = .ok (.iconst 0, 1) := by decide +kernel
theorem dX12_moreBy_38 : decode cX12_moreBy 38 = .ok (.iaload, 1) := by decide +kernel
theorem dX12_moreBy_39 : decode cX12_moreBy 39 = .ok (.aload_n 0, 1) := by decide +kernel
theorem dX12_moreBy_40 : decode cX12_moreBy 40 = .ok (.getfield 89, 3) := by decide +kernel
theorem dX12_moreBy_43 : decode cX12_moreBy 43 = .ok (.iconst 2, 1) := by decide +kernel
theorem dX12_moreBy_44 : decode cX12_moreBy 44 = .ok (.iaload, 1) := by decide +kernel
theorem dX12_moreBy_45 : decode cX12_moreBy 45 = .ok (.invokevirtual 434, 3) := by decide +kernel
theorem dX12_moreBy_48 : decode cX12_moreBy 48 = .ok (.isub, 1) := by decide +kernel
theorem dX12_moreBy_49 : decode cX12_moreBy 49 = .ok (.ireturn, 1) := by decide +kernel
theorem dX12_sent_0 : decode cX12_sent 0 = .ok (.aload_n 0, 1) := by decide +kernel
theorem dX12_sent_1 : decode cX12_sent 1 = .ok (.iconst 0, 1) := by decide +kernel
theorem dX12_sent_2 : decode cX12_sent 2 = .ok (.putfield 149, 3) := by decide +kernel
theorem dX12_sent_5 : decode cX12_sent 5 = .ok (.aload_n 0, 1) := by decide +kernel
theorem dX12_sent_6 : decode cX12_sent 6 = .ok (.iload_n 1, 1) := by decide +kernel
theorem dX12_sent_7 : decode cX12_sent 7 = .ok (.invokevirtual 175, 3) := by decide +kernel
theorem dX12_sent_10 : decode cX12_sent 10 = .ok (.ifCond .eq 13, 3) := by decide +kernel
theorem dX12_sent_13 : decode cX12_sent 13 = .ok (.aload_n 0, 1) := by decide +kernel
theorem dX12_sent_14 : decode cX12_sent 14 = .ok (.iload_n 2, 1) := by decide +kernel
theorem dX12_sent_15 : decode cX12_sent 15 = .ok (.iconst 0, 1) := by decide +kernel
theorem dX12_sent_16 : decode cX12_sent 16 = .ok (.iconst 1, 1) := by decide +kernel
theorem dX12_sent_17 : decode cX12_sent 17 = .ok (.invokevirtual 167, 3) := by decide +kernel
theorem dX12_sent_20 : decode cX12_sent 20 = .ok (.ifCond .ne 7, 3) := by decide +kernel
theorem dX12_sent_23 : decode cX12_sent 23 = .ok (.sipush (-10000), 3) := by decide +kernel
theorem dX12_sent_26 : decode cX12_sent 26 = .ok (.ireturn, 1) := by decide +kernel
theorem dX12_sent_27 : decode cX12_sent 27 = .ok (.iconst (-1), 1) := by decide +kernel
theorem dX12_sent_28 : decode cX12_sent 28 = .ok (.istore_n 3, 1) := by decide +kernel
theorem dX12_sent_29 : decode cX12_sent 29 = .ok (.ldc_w 437, 3) := by decide +kernel
theorem dX12_sent_32 : decode cX12_sent 32 = .ok (.istore 4, 2) := by decide +kernel
theorem dX12_sent_34 : decode cX12_sent 34 = .ok (.iconst 0, 1) := by decide +kernel
theorem dX12_sent_35 : decode cX12_sent 35 = .ok (.istore 5, 2) := by decide +kernel
theorem dX12_sent_37 : decode cX12_sent 37 = .ok (.iconst 0, 1) := by decide +kernel
theorem dX12_sent_38 : decode cX12_sent 38 = .ok (.istore 6, 2) := by decide +kernel
theorem dX12_sent_40 : decode cX12_sent 40 = .ok (.iload 6, 2) := by decide +kernel
theorem dX12_sent_42 : decode cX12_sent 42 = .ok (.aload_n 0, 1) := by decide +kernel
theorem dX12_sent_43 : decode cX12_sent 43 = .ok (.getfield 161, 3) := by decide +kernel
theorem dX12_sent_46 : decode cX12_sent 46 = .ok (.if_icmp .ge 128, 3) := by decide +kernel
theorem dX12_sent_49 : decode cX12_sent 49 = .ok (.iconst 0, 1) := by decide +kernel
theorem dX12_sent_50 : decode cX12_sent 50 = .ok (.istore 7, 2) := by decide +kernel
theorem dX12_sent_52 : decode cX12_sent 52 = .ok (.iload 7, 2) := by decide +kernel
theorem dX12_sent_54 : decode cX12_sent 54 = .ok (.iload 6, 2) := by decide +kernel
theorem dX12_sent_56 : decode cX12_sent 56 = .ok (.if_icmp .ge 112, 3) := by decide +kernel
theorem dX12_sent_59 : decode cX12_sent 59 = .ok (.aload_n 0, 1) := by decide +kernel
theorem dX12_sent_60 : decode cX12_sent 60 = .ok (.iload 7, 2) := by decide +kernel
theorem dX12_sent_62 : decode cX12_sent 62 = .ok (.invokevirtual 384, 3) := by decide +kernel
theorem dX12_sent_65 : decode cX12_sent 65 = .ok (.ifCond .eq 97, 3) := by decide +kernel
theorem dX12_sent_68 : decode cX12_sent 68 = .ok (.aload_n 0, 1) := by decide +kernel
theorem dX12_sent_69 : decode cX12_sent 69 = .ok (.iload 6, 2) := by decide +kernel
theorem dX12_sent_71 : decode cX12_sent 71 = .ok (.invokevirtual 384, 3) := by decide +kernel
theorem dX12_sent_74 : decode cX12_sent 74 = .ok (.ifCond .eq 88, 3) := by decide +kernel
theorem dX12_sent_77 : decode cX12_sent 77 = .ok (.iload 7, 2) := by decide +kernel
theorem dX12_sent_79 : decode cX12_sent 79 = .ok (.aload_n 0, 1) := by decide +kernel
theorem dX12_sent_80 : decode cX12_sent 80 = .ok (.getfield 31, 3) := by decide +kernel
theorem dX12_sent_83 : decode cX12_sent 83 = .ok (.iload_n 1, 1) := by decide +kernel
theorem dX12_sent_84 : decode cX12_sent 84 = .ok (.iaload, 1) := by decide +kernel
theorem dX12_sent_85 : decode cX12_sent 85 = .ok (.if_icmp .eq 77, 3) := by decide +kernel
theorem dX12_sent_88 : decode cX12_sent 88 = .ok (.iload 6, 2) := by decide +kernel
theorem dX12_sent_90 : decode cX12_sent 90 = .ok (.aload_n 0, 1) := by decide +kernel
theorem dX12_sent_91 : decode cX12_sent 91 = .ok (.getfield 31, 3) := by decide +kernel
theorem dX12_sent_94 : decode cX12_sent 94 = .ok (.iload_n 1, 1) := by decide +kernel
theorem dX12_sent_95 : decode cX12_sent 95 = .ok (.iaload, 1) := by decide +kernel
theorem dX12_sent_96 : decode cX12_sent 96 = .ok (.if_icmp .ne 6, 3) := by decide +kernel
theorem dX12_sent_99 : decode cX12_sent 99 = .ok (.goto 63, 3) := by decide +kernel
theorem dX12_sent_102 : decode cX12_sent 102 = .ok (.aload_n 0, 1) := by decide +kernel
theorem dX12_sent_103 : decode cX12_sent 103 = .ok (.iload_n 1, 1) := by decide +kernel
theorem dX12_sent_104 : decode cX12_sent 104 = .ok (.iload 7, 2) := by decide +kernel
theorem dX12_sent_106 : decode cX12_sent 106 = .ok (.iload 6, 2) := by decide +kernel
theorem dX12_sent_108 : decode cX12_sent 108 = .ok (.invokevirtual 438, 3) := by decide +kernel
theorem dX12_sent_111 : decode cX12_sent 111 = .ok (.istore 8, 2) := by decide +kernel
theorem dX12_sent_113 : decode cX12_sent 113 = .ok (.iconst 1, 1) := by decide +kernel
theorem dX12_sent_114 : decode cX12_sent 114 = .ok (.iload 7, 2) := by decide +kernel
theorem dX12_sent_116 : decode cX12_sent 116 = .ok (.ishl, 1) := by decide +kernel
theorem dX12_sent_117 : decode cX12_sent 117 = .ok (.iconst 1, 1) := by decide +kernel
theorem dX12_sent_118 : decode cX12_sent 118 = .ok (.iload 6, 2) := by decide +kernel
theorem dX12_sent_120 : decode cX12_sent 120 = .ok (.ishl, 1) := by decide +kernel
theorem dX12_sent_121 : decode cX12_sent 121 = .ok (.ior, 1) := by decide +kernel
theorem dX12_sent_122 : decode cX12_sent 122 = .ok (.istore 5, 2) := by decide +kernel
theorem dX12_sent_124 : decode cX12_sent 124 = .ok (.iload_n 3, 1) := by decide +kernel
theorem dX12_sent_125 : decode cX12_sent 125 = .ok (.iconst (-1), 1) := by decide +kernel
theorem dX12_sent_126 : decode cX12_sent 126 = .ok (.if_icmp .eq 23, 3) := by decide +kernel
theorem dX12_sent_129 : decode cX12_sent 129 = .ok (.iload 8, 2) := by decide +kernel
theorem dX12_sent_131 : decode cX12_sent 131 = .ok (.iload 4, 2) := by decide +kernel
theorem dX12_sent_133 : decode cX12_sent 133 = .ok (.if_icmp .gt 16, 3) := by decide +kernel
theorem dX12_sent_136 : decode cX12_sent 136 = .ok (.iload 8, 2) := by decide +kernel
theorem dX12_sent_138 : decode cX12_sent 138 = .ok (.iload 4, 2) := by decide +kernel
theorem dX12_sent_140 : decode cX12_sent 140 = .ok (.if_icmp .ne 12, 3) := by decide +kernel
theorem dX12_sent_143 : decode cX12_sent 143 = .ok (.iload 5, 2) := by decide +kernel
theorem dX12_sent_145 : decode cX12_sent 145 = .ok (.iload_n 3, 1) := by decide +kernel
theorem dX12_sent_146 : decode cX12_sent 146 = .ok (.if_icmp .ge 6, 3) := by decide +kernel
theorem dX12_sent_149 : decode cX12_sent 149 = .ok (.iload 5, 2) := by decide +kernel
theorem dX12_sent_151 : decode cX12_sent 151 = .ok (.istore_n 3, 1) := by decide +kernel
theorem dX12_sent_152 : decode cX12_sent 152 = .ok (.aload_n 0, 1) := by decide +kernel
theorem dX12_sent_153 : decode cX12_sent 153 = .ok (.iload 4, 2) := by decide +kernel
theorem dX12_sent_155 : decode cX12_sent 155 = .ok (.iload 8, 2) := by decide +kernel
theorem dX12_sent_157 : decode cX12_sent 157 = .ok (.invokevirtual 434, 3) := by decide +kernel
theorem dX12_sent_160 : decode cX12_sent 160 = .ok (.istore 4, 2) := by decide +kernel
theorem dX12_sent_162 : decode cX12_sent 162 = .ok (.iinc 7 1, 3) := by decide +kernel
theorem dX12_sent_165 : decode cX12_sent 165 = .ok (.goto (-113), 3) := by decide +kernel
theorem dX12_sent_168 : decode cX12_sent 168 = .ok (.iinc 6 1, 3) := by decide +kernel
theorem dX12_sent_171 : decode cX12_sent 171 = .ok (.goto (-131), 3) := by decide +kernel
theorem dX12_sent_174 : decode cX12_sent 174 = .ok (.iload_n 3, 1) := by decide +kernel
theorem dX12_sent_175 : decode cX12_sent 175 = .ok (.iconst (-1), 1) := by decide +kernel
theorem dX12_sent_176 : decode cX12_sent 176 = .ok (.if_icmp .ne 9, 3) := by decide +kernel
theorem dX12_sent_179 : decode cX12_sent 179 = .ok (.sipush (-10000), 3) := by decide +kernel
theorem dX12_sent_182 : decode cX12_sent 182 = .ok (.goto 13, 3) := by decide +kernel
theorem dX12_sent_185 : decode cX12_sent 185 = .ok (.iload_n 2, 1) := by decide +kernel
theorem dX12_sent_186 : decode cX12_sent 186 = .ok (.ifCond .ne 7, 3) := by decide +kernel
theorem dX12_sent_189 : decode cX12_sent 189 = .ok (.iload_n 3, 1) := by decide +kernel
theorem dX12_sent_190 : decode cX12_sent 190 = .ok (.goto 5, 3) := by decide +kernel
theorem dX12_sent_193 : decode cX12_sent 193 = .ok (.iload 4, 2) := by decide +kernel
theorem dX12_sent_195 : decode cX12_sent 195 = .ok (.ireturn, 1) := by decide +kernel
theorem dX12_man_0 : decode cX12_man 0 = .ok (.aload_n 0, 1) := by decide +kernel
theorem dX12_man_1 : decode cX12_man 1 = .ok (.iconst 0, 1) := by decide +kernel
theorem dX12_man_2 : decode cX12_man 2 = .ok (.putfield 149, 3) := by decide +kernel
theorem dX12_man_5 : decode cX12_man 5 = .ok (.iload_n 1, 1) := by decide +kernel
theorem dX12_man_6 : decode cX12_man 6 = .ok (.iconst (-1), 1) := by decide +kernel
theorem dX12_man_7 : decode cX12_man 7 = .ok (.if_icmp .ne 10, 3) := by decide +kernel
theorem dX12_man_10 : decode cX12_man 10 = .ok (.aload_n 0, 1) := by decide +kernel
theorem dX12_man_11 : decode cX12_man 11 = .ok (.iconst 0, 1) := by decide +kernel
theorem dX12_man_12 : decode cX12_man 12 = .ok (.putfield 441, 3) := by decide +kernel
theorem dX12_man_15 : decode cX12_man 15 = .ok (.iconst 0, 1) := by decide +kernel
theorem dX12_man_16 : decode cX12_man 16 = .ok (.ireturn, 1) := by decide +kernel
theorem dX12_man_17 : decode cX12_man 17 = .ok (.aload_n 0, 1) := by decide +kernel
theorem dX12_man_18 : decode cX12_man 18 = .ok (.iload_n 1, 1) := by decide +kernel
theorem dX12_man_19 : decode cX12_man 19 = .ok (.iconst 0, 1) := by decide +kernel
theorem dX12_man_20 : decode cX12_man 20 = .ok (.iconst 5, 1) := by decide +kernel
theorem dX12_man_21 : decode cX12_man 21 = .ok (.invokevirtual 167, 3) := by decide +kernel
theorem dX12_man_24 : decode cX12_man 24 = .ok (.ifCond .eq 22, 3) := by decide +kernel
theorem dX12_man_27 : decode cX12_man 27 = .ok (.aload_n 0, 1) := by decide +kernel
theorem dX12_man_28 : decode cX12_man 28 = .ok (.iload_n 2, 1) := by decide +kernel
theorem dX12_man_29 : decode cX12_man 29 = .ok (.iconst 0, 1) := by decide +kernel
theorem dX12_man_30 : decode cX12_man 30 = .ok (.iconst 5, 1) := by decide +kernel
theorem dX12_man_31 : decode cX12_man 31 = .ok (.invokevirtual 167, 3) := by decide +kernel
theorem dX12_man_34 : decode cX12_man 34 = .ok (.ifCond .eq 12, 3) := by decide +kernel
theorem dX12_man_37 : decode cX12_man 37 = .ok (.aload_n 0, 1) := by decide +kernel
theorem dX12_man_38 : decode cX12_man 38 = .ok (.getfield 441, 3) := by decide +kernel
theorem dX12_man_41 : decode cX12_man 41 = .ok (.bipush 10, 2) := by decide +kernel
theorem dX12_man_43 : decode cX12_man 43 = .ok (.if_icmp .ne 5, 3) := by decide +kernel
theorem dX12_man_46 : decode cX12_man 46 = .ok (.iconst (-1), 1) := by decide +kernel
theorem dX12_man_47 : decode cX12_man 47 = .ok (.ireturn, 1) := by decide +kernel
theorem dX12_man_48 : decode cX12_man 48 = .ok (.aload_n 0, 1) := by decide +kernel
theorem dX12_man_49 : decode cX12_man 49 = .ok (.getfield 92, 3) := by decide +kernel
theorem dX12_man_52 : decode cX12_man 52 = .ok (.aload_n 0, 1) := by decide +kernel
theorem dX12_man_53 : decode cX12_man 53 = .ok (.getfield 441, 3) := by decide +kernel
theorem dX12_man_56 : decode cX12_man 56 = .ok (.iload_n 1, 1) := by decide +kernel
theorem dX12_man_57 : decode cX12_man 57 = .ok (.iastore, 1) := by decide +kernel
theorem dX12_man_58 : decode cX12_man 58 = .ok (.aload_n 0, 1) := by decide +kernel
theorem dX12_man_59 : decode cX12_man 59 = .ok (.getfield 95, 3) := by decide +kernel
theorem dX12_man_62 : decode cX12_man 62 = .ok (.aload_n 0, 1) := by decide +kernel
theorem dX12_man_63 : decode cX12_man 63 = .ok (.getfield 441, 3) := by decide +kernel
theorem dX12_man_66 : decode cX12_man 66 = .ok (.iload_n 2, 1) := by decide +kernel
theorem dX12_man_67 : decode cX12_man 67 = .ok (.iastore, 1) := by decide +kernel
theorem dX12_man_68 : decode cX12_man 68 = .ok (.aload_n 0, 1) := by decide +kernel
theorem dX12_man_69 : decode cX12_man 69 = .ok (.getfield 98, 3) := by decide +kernel
theorem dX12_man_72 : decode cX12_man 72 = .ok (.aload_n 0, 1) := by decide +kernel
theorem dX12_man_73 : decode cX12_man 73 = .ok (.getfield 441, 3) := by decide +kernel
theorem dX12_man_76 : decode cX12_man 76 = .ok (.iload_n 3, 1) := by decide +kernel
theorem dX12_man_77 : decode cX12_man 77 = .ok (.ifCond .eq 7, 3) := by decide +kernel
theorem dX12_man_80 : decode cX12_man 80 = .ok (.iconst 1, 1) := by decide +kernel
theorem dX12_man_81 : decode cX12_man 81 = .ok (.goto 4, 3) := by decide +kernel
theorem dX12_man_84 : decode cX12_man 84 = .ok (.iconst 0, 1) := by decide +kernel
theorem dX12_man_85 : decode cX12_man 85 = .ok (.iastore, 1) := by decide +kernel
theorem dX12_man_86 : decode cX12_man 86 = .ok (.aload_n 0, 1) := by decide +kernel
theorem dX12_man_87 : decode cX12_man 87 = .ok (.aload_n 0, 1) := by decide +kernel
theorem dX12_man_88 : decode cX12_man 88 = .ok (.getfield 441, 3) := by decide +kernel
theorem dX12_man_91 : decode cX12_man 91 = .ok (.iconst 1, 1) := by decide +kernel
theorem dX12_man_92 : decode cX12_man 92 = .ok (.iadd, 1) := by decide +kernel
theorem dX12_man_93 : decode cX12_man 93 = .ok (.putfield 441, 3) := by decide +kernel
theorem dX12_man_96 : decode cX12_man 96 = .ok (.aload_n 0, 1) := by decide +kernel
theorem dX12_man_97 : decode cX12_man 97 = .ok (.getfield 441, 3) := by decide +kernel
theorem dX12_man_100 : decode cX12_man 100 = .ok (.ireturn, 1) := by decide +kernel
theorem dX12_canLie_0 : decode cX12_canLie 0 = .ok (.iconst 0, 1) := by decide +kernel
theorem dX12_canLie_1 : decode cX12_canLie 1 = .ok (.istore_n 2, 1) := by decide +kernel
theorem dX12_canLie_2 : decode cX12_canLie 2 = .ok (.iload_n 2, 1) := by decide +kernel
theorem dX12_canLie_3 : decode cX12_canLie 3 = .ok (.aload_n 0, 1) := by decide +kernel
theorem dX12_canLie_4 : decode cX12_canLie 4 = .ok (.getfield 441, 3) := by decide +kernel
theorem dX12_canLie_7 : decode cX12_canLie 7 = .ok (.if_icmp .ge 61, 3) := by decide +kernel
theorem dX12_canLie_10 : decode cX12_canLie 10 = .ok (.aload_n 0, 1) := by decide +kernel
theorem dX12_canLie_11 : decode cX12_canLie 11 = .ok (.iload_n 1, 1) := by decide +kernel
theorem dX12_canLie_12 : decode cX12_canLie 12 = .ok (.aload_n 0, 1) := by decide +kernel
theorem dX12_canLie_13 : decode cX12_canLie 13 = .ok (.getfield 95, 3) := by decide +kernel
theorem dX12_canLie_16 : decode cX12_canLie 16 = .ok (.iload_n 2, 1) := by decide +kernel
theorem dX12_canLie_17 : decode cX12_canLie 17 = .ok (.iaload, 1) := by decide +kernel
theorem dX12_canLie_18 : decode cX12_canLie 18 = .ok (.invokevirtual 371, 3) := by decide +kernel
theorem dX12_canLie_21 : decode cX12_canLie 21 = .ok (.aload_n 0, 1) := by decide +kernel
theorem dX12_canLie_22 : decode cX12_canLie 22 = .ok (.getfield 98, 3) := by decide +kernel
theorem dX12_canLie_25 : decode cX12_canLie 25 = .ok (.iload_n 2, 1) := by decide +kernel
theorem dX12_canLie_26 : decode cX12_canLie 26 = .ok (.iaload, 1) := by decide +kernel
theorem dX12_canLie_27 : decode cX12_canLie 27 = .ok (.iconst 1, 1) := by decide +kernel
theorem dX12_canLie_28 : decode cX12_canLie 28 = .ok (.if_icmp .ne 7, 3) := by decide +kernel
theorem dX12_canLie_31 : decode cX12_canLie 31 = .ok (.iconst 1, 1) := by decide +kernel
theorem dX12_canLie_32 : decode cX12_canLie 32 = .ok (.goto 4, 3) := by decide +kernel
theorem dX12_canLie_35 : decode cX12_canLie 35 = .ok (.iconst 0, 1) := by decide +kernel
theorem dX12_canLie_36 : decode cX12_canLie 36 = .ok (.if_icmp .ne 7, 3) := by decide +kernel
theorem dX12_canLie_39 : decode cX12_canLie 39 = .ok (.iconst 1, 1) := by decide +kernel
theorem dX12_canLie_40 : decode cX12_canLie 40 = .ok (.goto 4, 3) := by decide +kernel
theorem dX12_canLie_43 : decode cX12_canLie 43 = .ok (.iconst 0, 1) := by decide +kernel
theorem dX12_canLie_44 : decode cX12_canLie 44 = .ok (.istore_n 3, 1) := by decide +kernel
theorem dX12_canLie_45 : decode cX12_canLie 45 = .ok (.iload_n 3, 1) := by decide +kernel
theorem dX12_canLie_46 : decode cX12_canLie 46 = .ok (.aload_n 0, 1) := by decide +kernel
theorem dX12_canLie_47 : decode cX12_canLie 47 = .ok (.iload_n 1, 1) := by decide +kernel
theorem dX12_canLie_48 : decode cX12_canLie 48 = .ok (.aload_n 0, 1) := by decide +kernel
theorem dX12_canLie_49 : decode cX12_canLie 49 = .ok (.getfield 92, 3) := by decide +kernel
theorem dX12_canLie_52 : decode cX12_canLie 52 = .ok (.iload_n 2, 1) := by decide +kernel
theorem dX12_canLie_53 : decode cX12_canLie 53 = .ok (.iaload, 1) := by decide +kernel
theorem dX12_canLie_54 : decode cX12_canLie 54 = .ok (.invokevirtual 371, 3) := by decide +kernel
theorem dX12_canLie_57 : decode cX12_canLie 57 = .ok (.if_icmp .ne 5, 3) := by decide +kernel
theorem dX12_canLie_60 : decode cX12_canLie 60 = .ok (.iconst 0, 1) := by decide +kernel
theorem dX12_canLie_61 : decode cX12_canLie 61 = .ok (.ireturn, 1) := by decide +kernel
theorem dX12_canLie_62 : decode cX12_canLie 62 = .ok (.iinc 2 1, 3) := by decide +kernel
theorem dX12_canLie_65 : decode cX12_canLie 65 = .ok (.goto (-63), 3) := by decide +kernel
theorem dX12_canLie_68 : decode cX12_canLie 68 = .ok (.iconst 1, 1) := by decide +kernel
theorem dX12_canLie_69 : decode cX12_canLie 69 = .ok (.ireturn, 1) := by decide +kernel
theorem dX12_liars_0 : decode cX12_liars 0 = .ok (.aload_n 0, 1) := by decide +kernel
theorem dX12_liars_1 : decode cX12_liars 1 = .ok (.iconst 0, 1) := by decide +kernel
theorem dX12_liars_2 : decode cX12_liars 2 = .ok (.putfield 149, 3) := by decide +kernel
theorem dX12_liars_5 : decode cX12_liars 5 = .ok (.aload_n 0, 1) := by decide +kernel
theorem dX12_liars_6 : decode cX12_liars 6 = .ok (.iload_n 1, 1) := by decide +kernel
theorem dX12_liars_7 : decode cX12_liars 7 = .ok (.iconst 0, 1) := by decide +kernel
theorem dX12_liars_8 : decode cX12_liars 8 = .ok (.iconst 1, 1) := by decide +kernel
theorem dX12_liars_9 : decode cX12_liars 9 = .ok (.invokevirtual 167, 3) := by decide +kernel
theorem dX12_liars_12 : decode cX12_liars 12 = .ok (.ifCond .ne 17, 3) := by decide +kernel
theorem dX12_liars_15 : decode cX12_liars 15 = .ok (.aload_n 0, 1) := by decide +kernel
theorem dX12_liars_16 : decode cX12_liars 16 = .ok (.iload_n 1, 1) := by decide +kernel
theorem dX12_liars_17 : decode cX12_liars 17 = .ok (.bipush 10, 2) := by decide +kernel
theorem dX12_liars_19 : decode cX12_liars 19 = .ok (.bipush 15, 2) := by decide +kernel
theorem dX12_liars_21 : decode cX12_liars 21 = .ok (.invokevirtual 167, 3) := by decide +kernel
theorem dX12_liars_24 : decode cX12_liars 24 = .ok (.ifCond .ne 5, 3) := by decide +kernel
theorem dX12_liars_27 : decode cX12_liars 27 = .ok (.iconst (-1), 1) := by decide +kernel
theorem dX12_liars_28 : decode cX12_liars 28 = .ok (.ireturn, 1) := by decide +kernel
theorem dX12_liars_29 : decode cX12_liars 29 = .ok (.iconst 0, 1) := by decide +kernel
theorem dX12_liars_30 : decode cX12_liars 30 = .ok (.istore_n 2, 1) := by decide +kernel
theorem dX12_liars_31 : decode cX12_liars 31 = .ok (.ldc_w 424, 3) := by decide +kernel
theorem dX12_liars_34 : decode cX12_liars 34 = .ok (.istore_n 3, 1) := by decide +kernel
theorem dX12_liars_35 : decode cX12_liars 35 = .ok (.iconst 0, 1) := by decide +kernel
theorem dX12_liars_36 : decode cX12_liars 36 = .ok (.istore 4, 2) := by decide +kernel
theorem dX12_liars_38 : decode cX12_liars 38 = .ok (.iconst 0, 1) := by decide +kernel
theorem dX12_liars_39 : decode cX12_liars 39 = .ok (.istore 5, 2) := by decide +kernel
theorem dX12_liars_41 : decode cX12_liars 41 = .ok (.iload 5, 2) := by decide +kernel
theorem dX12_liars_43 : decode cX12_liars 43 = .ok (.bipush 64, 2) := by decide +kernel
theorem dX12_liars_45 : decode cX12_liars 45 = .ok (.if_icmp .ge 61, 3) := by decide +kernel
theorem dX12_liars_48 : decode cX12_liars 48 = .ok (.aload_n 0, 1) := by decide +kernel
theorem dX12_liars_49 : decode cX12_liars 49 = .ok (.iload 5, 2) := by decide +kernel
theorem dX12_liars_51 : decode cX12_liars 51 = .ok (.invokevirtual 444, 3) := by decide +kernel
theorem dX12_liars_54 : decode cX12_liars 54 = .ok (.ifCond .ne 6, 3) := by decide +kernel
theorem dX12_liars_57 : decode cX12_liars 57 = .ok (.goto 43, 3) := by decide +kernel
theorem dX12_liars_60 : decode cX12_liars 60 = .ok (.iload_n 2, 1) := by decide +kernel
theorem dX12_liars_61 : decode cX12_liars 61 = .ok (.iconst 1, 1) := by decide +kernel
theorem dX12_liars_62 : decode cX12_liars 62 = .ok (.iadd, 1) := by decide +kernel
theorem dX12_liars_63 : decode cX12_liars 63 = .ok (.istore_n 2, 1) := by decide +kernel
theorem dX12_liars_64 : decode cX12_liars 64 = .ok (.aload_n 0, 1) := by decide +kernel
theorem dX12_liars_65 : decode cX12_liars 65 = .ok (.iload_n 3, 1) := by decide +kernel
theorem dX12_liars_66 : decode cX12_liars 66 = .ok (.aload_n 0, 1) := by decide +kernel
theorem dX12_liars_67 : decode cX12_liars 67 = .ok (.iload 5, 2) := by decide +kernel
theorem dX12_liars_69 : decode cX12_liars 69 = .ok (.invokevirtual 447, 3) := by decide +kernel
theorem dX12_liars_72 : decode cX12_liars 72 = .ok (.invokevirtual 428, 3) := by decide +kernel
theorem dX12_liars_75 : decode cX12_liars 75 = .ok (.istore_n 3, 1) := by decide +kernel
theorem dX12_liars_76 : decode cX12_liars 76 = .ok (.iload_n 1, 1) := by decide +kernel
theorem dX12_liars_77 : decode cX12_liars 77 = .ok (.iconst 1, 1) := by decide +kernel
theorem dX12_liars_78 : decode cX12_liars 78 = .ok (.if_icmp .le 22, 3) := by decide +kernel
theorem dX12_liars_81 : decode cX12_liars 81 = .ok (.aload_n 0, 1) := by decide +kernel
theorem dX12_liars_82 : decode cX12_liars 82 = .ok (.iload 5, 2) := by decide +kernel
theorem dX12_liars_84 : decode cX12_liars 84 = .ok (.iload_n 1, 1) := by decide +kernel
theorem dX12_liars_85 : decode cX12_liars 85 = .ok (.bipush 10, 2) := by decide +kernel
theorem dX12_liars_87 : decode cX12_liars 87 = .ok (.isub, 1) := by decide +kernel
theorem dX12_liars_88 : decode cX12_liars 88 = .ok (.invokevirtual 371, 3) := by decide +kernel
theorem dX12_liars_91 : decode cX12_liars 91 = .ok (.ifCond .eq 9, 3) := by decide +kernel
theorem dX12_liars_94 : decode cX12_liars 94 = .ok (.iload 4, 2) := by decide +kernel
theorem dX12_liars_96 : decode cX12_liars 96 = .ok (.iconst 1, 1) := by decide +kernel
theorem dX12_liars_97 : decode cX12_liars 97 = .ok (.iadd, 1) := by decide +kernel
theorem dX12_liars_98 : decode cX12_liars 98 = .ok (.istore 4, 2) := by decide +kernel
theorem dX12_liars_100 : decode cX12_liars 100 = .ok (.iinc 5 1, 3) := by decide +kernel
theorem dX12_liars_103 : decode cX12_liars 103 = .ok (.goto (-62), 3) := by decide +kernel
theorem dX12_liars_106 : decode cX12_liars 106 = .ok (.iload_n 1, 1) := by decide +kernel
theorem dX12_liars_107 : decode cX12_liars 107 = .ok (.ifCond .ne 5, 3) := by decide +kernel
theorem dX12_liars_110 : decode cX12_liars 110 = .ok (.iload_n 2, 1) := by decide +kernel
theorem dX12_liars_111 : decode cX12_liars 111 = .ok (.ireturn, 1) := by decide +kernel
theorem dX12_liars_112 : decode cX12_liars 112 = .ok (.iload_n 2, 1) := by decide +kernel
theorem dX12_liars_113 : decode cX12_liars 113 = .ok (.ifCond .ne 5, 3) := by decide +kernel
theorem dX12_liars_116 : decode cX12_liars 116 = .ok (.iconst (-1), 1) := by decide +kernel
theorem dX12_liars_117 : decode cX12_liars 117 = .ok (.ireturn, 1) := by decide +kernel
theorem dX12_liars_118 : decode cX12_liars 118 = .ok (.iload_n 1, 1) := by decide +kernel
theorem dX12_liars_119 : decode cX12_liars 119 = .ok (.iconst 1, 1) := by decide +kernel
theorem dX12_liars_120 : decode cX12_liars 120 = .ok (.if_icmp .ne 7, 3) := by decide +kernel
theorem dX12_liars_123 : decode cX12_liars 123 = .ok (.iload_n 3, 1) := by decide +kernel
theorem dX12_liars_124 : decode cX12_liars 124 = .ok (.goto 23, 3) := by decide +kernel
theorem dX12_liars_127 : decode cX12_liars 127 = .ok (.iload 4, 2) := by decide +kernel
theorem dX12_liars_129 : decode cX12_liars 129 = .ok (.iload_n 2, 1) := by decide +kernel
theorem dX12_liars_130 : decode cX12_liars 130 = .ok (.if_icmp .ne 7, 3) := by decide +kernel
theorem dX12_liars_133 : decode cX12_liars 133 = .ok (.iconst 1, 1) := by decide +kernel
theorem dX12_liars_134 : decode cX12_liars 134 = .ok (.goto 13, 3) := by decide +kernel
theorem dX12_liars_137 : decode cX12_liars 137 = .ok (.iload 4, 2) := by decide +kernel
theorem dX12_liars_139 : decode cX12_liars 139 = .ok (.ifCond .ne 7, 3) := by decide +kernel
theorem dX12_liars_142 : decode cX12_liars 142 = .ok (.iconst 0, 1) := by decide +kernel
theorem dX12_liars_143 : decode cX12_liars 143 = .ok (.goto 4, 3) := by decide +kernel
theorem dX12_liars_146 : decode cX12_liars 146 = .ok (.iconst (-1), 1) := by decide +kernel
theorem dX12_liars_147 : decode cX12_liars 147 = .ok (.ireturn, 1) := by decide +kernel
theorem dX12_plumeAt_0 : decode cX12_plumeAt 0 = .ok (.iload_n 2, 1) := by decide +kernel
theorem dX12_plumeAt_1 : decode cX12_plumeAt 1 = .ok (.ifCond .ne 10, 3) := by decide +kernel
theorem dX12_plumeAt_4 : decode cX12_plumeAt 4 = .ok (.iload_n 1, 1) := by decide +kernel
theorem dX12_plumeAt_5 : decode cX12_plumeAt 5 = .ok (.bipush 100, 2) := by decide +kernel
theorem dX12_plumeAt_7 : decode cX12_plumeAt 7 = .ok (.idiv, 1) := by decide +kernel
theorem dX12_plumeAt_8 : decode cX12_plumeAt 8 = .ok (.goto 22, 3) := by decide +kernel
theorem dX12_plumeAt_11 : decode cX12_plumeAt 11 = .ok (.iload_n 2, 1) := by decide +kernel
theorem dX12_plumeAt_12 : decode cX12_plumeAt 12 = .ok (.iconst 1, 1) := by decide +kernel
theorem dX12_plumeAt_13 : decode cX12_plumeAt 13 = .ok (.if_icmp .ne 13, 3) := by decide +kernel
theorem dX12_plumeAt_16 : decode cX12_plumeAt 16 = .ok (.iload_n 1, 1) := by decide +kernel
theorem dX12_plumeAt_17 : decode cX12_plumeAt 17 = .ok (.bipush 10, 2) := by decide +kernel
theorem dX12_plumeAt_19 : decode cX12_plumeAt 19 = .ok (.idiv, 1) := by decide +kernel
theorem dX12_plumeAt_20 : decode cX12_plumeAt 20 = .ok (.bipush 10, 2) := by decide +kernel
theorem dX12_plumeAt_22 : decode cX12_plumeAt 22 = .ok (.irem, 1) := by decide +kernel
theorem dX12_plumeAt_23 : decode cX12_plumeAt 23 = .ok (.goto 7, 3) := by decide +kernel
theorem dX12_plumeAt_26 : decode cX12_plumeAt 26 = .ok (.iload_n 1, 1) := by decide +kernel
theorem dX12_plumeAt_27 : decode cX12_plumeAt 27 = .ok (.bipush 10, 2) := by decide +kernel
theorem dX12_plumeAt_29 : decode cX12_plumeAt 29 = .ok (.irem, 1) := by decide +kernel
theorem dX12_plumeAt_30 : decode cX12_plumeAt 30 = .ok (.ireturn, 1) := by decide +kernel
theorem dX12_isRow_0 : decode cX12_isRow 0 = .ok (.aload_n 0, 1) := by decide +kernel
theorem dX12_isRow_1 : decode cX12_isRow 1 = .ok (.iload_n 1, 1) := by decide +kernel
theorem dX12_isRow_2 : decode cX12_isRow 2 = .ok (.iconst 0, 1) := by decide +kernel
theorem dX12_isRow_3 : decode cX12_isRow 3 = .ok (.sipush 555, 3) := by decide +kernel
theorem dX12_isRow_6 : decode cX12_isRow 6 = .ok (.invokevirtual 167, 3) := by decide +kernel
theorem dX12_isRow_9 : decode cX12_isRow 9 = .ok (.ifCond .eq 29, 3) := by decide +kernel
theorem dX12_isRow_12 : decode cX12_isRow 12 = .ok (.aload_n 0, 1) := by decide +kernel
theorem dX12_isRow_13 : decode cX12_isRow 13 = .ok (.iload_n 1, 1) := by decide +kernel
theorem dX12_isRow_14 : decode cX12_isRow 14 = .ok (.iconst 1, 1) := by decide +kernel
theorem dX12_isRow_15 : decode cX12_isRow 15 = .ok (.invokevirtual 450, 3) := by decide +kernel
theorem dX12_isRow_18 : decode cX12_isRow 18 = .ok (.bipush 6, 2) := by decide +kernel
theorem dX12_isRow_20 : decode cX12_isRow 20 = .ok (.if_icmp .ge 18, 3) := by decide +kernel
theorem dX12_isRow_23 : decode cX12_isRow 23 = .ok (.aload_n 0, 1) := by decide +kernel
theorem dX12_isRow_24 : decode cX12_isRow 24 = .ok (.iload_n 1, 1) := by decide +kernel
theorem dX12_isRow_25 : decode cX12_isRow 25 = .ok (.iconst 2, 1) := by decide +kernel
theorem dX12_isRow_26 : decode cX12_isRow 26 = .ok (.invokevirtual 450, 3) := by decide +kernel
theorem dX12_isRow_29 : decode cX12_isRow 29 = .ok (.bipush 6, 2) := by decide +kernel
theorem dX12_isRow_31 : decode cX12_isRow 31 = .ok (.if_icmp .ge 7, 3) := by decide +kernel
theorem dX12_isRow_34 : decode cX12_isRow 34 = .ok (.iconst 1, 1) := by decide +kernel
theorem dX12_isRow_35 : decode cX12_isRow 35 = .ok (.goto 4, 3) := by decide +kernel
theorem dX12_isRow_38 : decode cX12_isRow 38 = .ok (.iconst 0, 1) := by decide +kernel
theorem dX12_isRow_39 : decode cX12_isRow 39 = .ok (.ireturn, 1) := by decide +kernel
theorem dX12_saidOf_0 : decode cX12_saidOf 0 = .ok (.iconst 0, 1) := by decide +kernel
theorem dX12_saidOf_1 : decode cX12_saidOf 1 = .ok (.istore_n 3, 1) := by decide +kernel
theorem dX12_saidOf_2 : decode cX12_saidOf 2 = .ok (.iconst 0, 1) := by decide +kernel
theorem dX12_saidOf_3 : decode cX12_saidOf 3 = .ok (.istore 4, 2) := by decide +kernel
theorem dX12_saidOf_5 : decode cX12_saidOf 5 = .ok (.iconst 0, 1) := by decide +kernel
theorem dX12_saidOf_6 : decode cX12_saidOf 6 = .ok (.istore 5, 2) := by decide +kernel
theorem dX12_saidOf_8 : decode cX12_saidOf 8 = .ok (.iload 5, 2) := by decide +kernel
theorem dX12_saidOf_10 : decode cX12_saidOf 10 = .ok (.iconst 3, 1) := by decide +kernel
theorem dX12_saidOf_11 : decode cX12_saidOf 11 = .ok (.if_icmp .ge 30, 3) := by decide +kernel
theorem dX12_saidOf_14 : decode cX12_saidOf 14 = .ok (.aload_n 0, 1) := by decide +kernel
theorem dX12_saidOf_15 : decode cX12_saidOf 15 = .ok (.iload_n 1, 1) := by decide +kernel
theorem dX12_saidOf_16 : decode cX12_saidOf 16 = .ok (.iload 5, 2) := by decide +kernel
theorem dX12_saidOf_18 : decode cX12_saidOf 18 = .ok (.invokevirtual 450, 3) := by decide +kernel
theorem dX12_saidOf_21 : decode cX12_saidOf 21 = .ok (.aload_n 0, 1) := by decide +kernel
theorem dX12_saidOf_22 : decode cX12_saidOf 22 = .ok (.iload_n 2, 1) := by decide +kernel
theorem dX12_saidOf_23 : decode cX12_saidOf 23 = .ok (.iload 5, 2) := by decide +kernel
theorem dX12_saidOf_25 : decode cX12_saidOf 25 = .ok (.invokevirtual 450, 3) := by decide +kernel
theorem dX12_saidOf_28 : decode cX12_saidOf 28 = .ok (.if_icmp .ne 7, 3) := by decide +kernel
theorem dX12_saidOf_31 : decode cX12_saidOf 31 = .ok (.iload_n 3, 1) := by decide +kernel
theorem dX12_saidOf_32 : decode cX12_saidOf 32 = .ok (.iconst 1, 1) := by decide +kernel
theorem dX12_saidOf_33 : decode cX12_saidOf 33 = .ok (.iadd, 1) := by decide +kernel
theorem dX12_saidOf_34 : decode cX12_saidOf 34 = .ok (.istore_n 3, 1) := by decide +kernel
theorem dX12_saidOf_35 : decode cX12_saidOf 35 = .ok (.iinc 5 1, 3) := by decide +kernel
theorem dX12_saidOf_38 : decode cX12_saidOf 38 = .ok (.goto (-30), 3) := by decide +kernel
theorem dX12_saidOf_41 : decode cX12_saidOf 41 = .ok (.iconst 0, 1) := by decide +kernel
theorem dX12_saidOf_42 : decode cX12_saidOf 42 = .ok (.istore 5, 2) := by decide +kernel
theorem dX12_saidOf_44 : decode cX12_saidOf 44 = .ok (.iload 5, 2) := by decide +kernel
theorem dX12_saidOf_46 : decode cX12_saidOf 46 = .ok (.bipush 6, 2) := by decide +kernel
theorem dX12_saidOf_48 : decode cX12_saidOf 48 = .ok (.if_icmp .ge 79, 3) := by decide +kernel
theorem dX12_saidOf_51 : decode cX12_saidOf 51 = .ok (.iconst 0, 1) := by decide +kernel
theorem dX12_saidOf_52 : decode cX12_saidOf 52 = .ok (.istore 6, 2) := by decide +kernel
theorem dX12_saidOf_54 : decode cX12_saidOf 54 = .ok (.iconst 0, 1) := by decide +kernel
theorem dX12_saidOf_55 : decode cX12_saidOf 55 = .ok (.istore 7, 2) := by decide +kernel
theorem dX12_saidOf_57 : decode cX12_saidOf 57 = .ok (.iconst 0, 1) := by decide +kernel
theorem dX12_saidOf_58 : decode cX12_saidOf 58 = .ok (.istore 8, 2) := by decide +kernel
theorem dX12_saidOf_60 : decode cX12_saidOf 60 = .ok (.iload 8, 2) := by decide +kernel
theorem dX12_saidOf_62 : decode cX12_saidOf 62 = .ok (.iconst 3, 1) := by decide +kernel
theorem dX12_saidOf_63 : decode cX12_saidOf 63 = .ok (.if_icmp .ge 45, 3) := by decide +kernel
theorem dX12_saidOf_66 : decode cX12_saidOf 66 = .ok (.aload_n 0, 1) := by decide +kernel
theorem dX12_saidOf_67 : decode cX12_saidOf 67 = .ok (.iload_n 1, 1) := by decide +kernel
theorem dX12_saidOf_68 : decode cX12_saidOf 68 = .ok (.iload 8, 2) := by decide +kernel
theorem dX12_saidOf_70 : decode cX12_saidOf 70 = .ok (.invokevirtual 450, 3) := by decide +kernel
theorem dX12_saidOf_73 : decode cX12_saidOf 73 = .ok (.iload 5, 2) := by decide +kernel
theorem dX12_saidOf_75 : decode cX12_saidOf 75 = .ok (.if_icmp .ne 9, 3) := by decide +kernel
theorem dX12_saidOf_78 : decode cX12_saidOf 78 = .ok (.iload 6, 2) := by decide +kernel
theorem dX12_saidOf_80 : decode cX12_saidOf 80 = .ok (.iconst 1, 1) := by decide +kernel
theorem dX12_saidOf_81 : decode cX12_saidOf 81 = .ok (.iadd, 1) := by decide +kernel
theorem dX12_saidOf_82 : decode cX12_saidOf 82 = .ok (.istore 6, 2) := by decide +kernel
theorem dX12_saidOf_84 : decode cX12_saidOf 84 = .ok (.aload_n 0, 1) := by decide +kernel
theorem dX12_saidOf_85 : decode cX12_saidOf 85 = .ok (.iload_n 2, 1) := by decide +kernel
theorem dX12_saidOf_86 : decode cX12_saidOf 86 = .ok (.iload 8, 2) := by decide +kernel
theorem dX12_saidOf_88 : decode cX12_saidOf 88 = .ok (.invokevirtual 450, 3) := by decide +kernel
theorem dX12_saidOf_91 : decode cX12_saidOf 91 = .ok (.iload 5, 2) := by decide +kernel
theorem dX12_saidOf_93 : decode cX12_saidOf 93 = .ok (.if_icmp .ne 9, 3) := by decide +kernel
theorem dX12_saidOf_96 : decode cX12_saidOf 96 = .ok (.iload 7, 2) := by decide +kernel
theorem dX12_saidOf_98 : decode cX12_saidOf 98 = .ok (.iconst 1, 1) := by decide +kernel
theorem dX12_saidOf_99 : decode cX12_saidOf 99 = .ok (.iadd, 1) := by decide +kernel
theorem dX12_saidOf_100 : decode cX12_saidOf 100 = .ok (.istore 7, 2) := by decide +kernel
theorem dX12_saidOf_102 : decode cX12_saidOf 102 = .ok (.iinc 8 1, 3) := by decide +kernel
theorem dX12_saidOf_105 : decode cX12_saidOf 105 = .ok (.goto (-45), 3) := by decide +kernel
theorem dX12_saidOf_108 : decode cX12_saidOf 108 = .ok (.iload 4, 2) := by decide +kernel
theorem dX12_saidOf_110 : decode cX12_saidOf 110 = .ok (.aload_n 0, 1) := by decide +kernel
theorem dX12_saidOf_111 : decode cX12_saidOf 111 = .ok (.iload 6, 2) := by decide +kernel
theorem dX12_saidOf_113 : decode cX12_saidOf 113 = .ok (.iload 7, 2) := by decide +kernel
theorem dX12_saidOf_115 : decode cX12_saidOf 115 = .ok (.invokevirtual 428, 3) := by decide +kernel
theorem dX12_saidOf_118 : decode cX12_saidOf 118 = .ok (.iadd, 1) := by decide +kernel
theorem dX12_saidOf_119 : decode cX12_saidOf 119 = .ok (.istore 4, 2) := by decide +kernel
theorem dX12_saidOf_121 : decode cX12_saidOf 121 = .ok (.iinc 5 1, 3) := by decide +kernel
theorem dX12_saidOf_124 : decode cX12_saidOf 124 = .ok (.goto (-80), 3) := by decide +kernel
theorem dX12_saidOf_127 : decode cX12_saidOf 127 = .ok (.iconst 4, 1) := by decide +kernel
theorem dX12_saidOf_128 : decode cX12_saidOf 128 = .ok (.iload_n 3, 1) := by decide +kernel
theorem dX12_saidOf_129 : decode cX12_saidOf 129 = .ok (.imul, 1) := by decide +kernel
theorem dX12_saidOf_130 : decode cX12_saidOf 130 = .ok (.iload 4, 2) := by decide +kernel
theorem dX12_saidOf_132 : decode cX12_saidOf 132 = .ok (.iadd, 1) := by decide +kernel
theorem dX12_saidOf_133 : decode cX12_saidOf 133 = .ok (.iload_n 3, 1) := by decide +kernel
theorem dX12_saidOf_134 : decode cX12_saidOf 134 = .ok (.isub, 1) := by decide +kernel
theorem dX12_saidOf_135 : decode cX12_saidOf 135 = .ok (.ireturn, 1) := by decide +kernel
theorem dX12_guess_0 : decode cX12_guess 0 = .ok (.aload_n 0, 1) := by decide +kernel
theorem dX12_guess_1 : decode cX12_guess 1 = .ok (.iconst 0, 1) := by decide +kernel
theorem dX12_guess_2 : decode cX12_guess 2 = .ok (.putfield 149, 3) := by decide +kernel
theorem dX12_guess_5 : decode cX12_guess 5 = .ok (.iload_n 1, 1) := by decide +kernel
theorem dX12_guess_6 : decode cX12_guess 6 = .ok (.iconst (-1), 1) := by decide +kernel
theorem dX12_guess_7 : decode cX12_guess 7 = .ok (.if_icmp .ne 10, 3) := by decide +kernel
theorem dX12_guess_10 : decode cX12_guess 10 = .ok (.aload_n 0, 1) := by decide +kernel
theorem dX12_guess_11 : decode cX12_guess 11 = .ok (.iconst 0, 1) := by decide +kernel
theorem dX12_guess_12 : decode cX12_guess 12 = .ok (.putfield 453, 3) := by decide +kernel
theorem dX12_guess_15 : decode cX12_guess 15 = .ok (.iconst 0, 1) := by decide +kernel
theorem dX12_guess_16 : decode cX12_guess 16 = .ok (.ireturn, 1) := by decide +kernel
theorem dX12_guess_17 : decode cX12_guess 17 = .ok (.aload_n 0, 1) := by decide +kernel
theorem dX12_guess_18 : decode cX12_guess 18 = .ok (.iload_n 1, 1) := by decide +kernel
theorem dX12_guess_19 : decode cX12_guess 19 = .ok (.invokevirtual 456, 3) := by decide +kernel
theorem dX12_guess_22 : decode cX12_guess 22 = .ok (.ifCond .eq 39, 3) := by decide +kernel
theorem dX12_guess_25 : decode cX12_guess 25 = .ok (.aload_n 0, 1) := by decide +kernel
theorem dX12_guess_26 : decode cX12_guess 26 = .ok (.iload_n 2, 1) := by decide +kernel
theorem dX12_guess_27 : decode cX12_guess 27 = .ok (.iconst 0, 1) := by decide +kernel
theorem dX12_guess_28 : decode cX12_guess 28 = .ok (.iconst 3, 1) := by decide +kernel
theorem dX12_guess_29 : decode cX12_guess 29 = .ok (.invokevirtual 167, 3) := by decide +kernel
theorem dX12_guess_32 : decode cX12_guess 32 = .ok (.ifCond .eq 29, 3) := by decide +kernel
theorem dX12_guess_35 : decode cX12_guess 35 = .ok (.aload_n 0, 1) := by decide +kernel
theorem dX12_guess_36 : decode cX12_guess 36 = .ok (.iload_n 3, 1) := by decide +kernel
theorem dX12_guess_37 : decode cX12_guess 37 = .ok (.iconst 0, 1) := by decide +kernel
theorem dX12_guess_38 : decode cX12_guess 38 = .ok (.iconst 3, 1) := by decide +kernel
theorem dX12_guess_39 : decode cX12_guess 39 = .ok (.invokevirtual 167, 3) := by decide +kernel
theorem dX12_guess_42 : decode cX12_guess 42 = .ok (.ifCond .eq 19, 3) := by decide +kernel
theorem dX12_guess_45 : decode cX12_guess 45 = .ok (.iload_n 2, 1) := by decide +kernel
theorem dX12_guess_46 : decode cX12_guess 46 = .ok (.iload_n 3, 1) := by decide +kernel
theorem dX12_guess_47 : decode cX12_guess 47 = .ok (.iadd, 1) := by decide +kernel
theorem dX12_guess_48 : decode cX12_guess 48 = .ok (.iconst 3, 1) := by decide +kernel
theorem dX12_guess_49 : decode cX12_guess 49 = .ok (.if_icmp .gt 12, 3) := by decide +kernel
theorem dX12_guess_52 : decode cX12_guess 52 = .ok (.aload_n 0, 1) := by decide +kernel
theorem dX12_guess_53 : decode cX12_guess 53 = .ok (.getfield 453, 3) := by decide +kernel
theorem dX12_guess_56 : decode cX12_guess 56 = .ok (.bipush 8, 2) := by decide +kernel
theorem dX12_guess_58 : decode cX12_guess 58 = .ok (.if_icmp .ne 5, 3) := by decide +kernel
theorem dX12_guess_61 : decode cX12_guess 61 = .ok (.iconst (-1), 1) := by decide +kernel
theorem dX12_guess_62 : decode cX12_guess 62 = .ok (.ireturn, 1) := by decide +kernel
theorem dX12_guess_63 : decode cX12_guess 63 = .ok (.aload_n 0, 1) := by decide +kernel
theorem dX12_guess_64 : decode cX12_guess 64 = .ok (.getfield 101, 3) := by decide +kernel
theorem dX12_guess_67 : decode cX12_guess 67 = .ok (.aload_n 0, 1) := by decide +kernel
theorem dX12_guess_68 : decode cX12_guess 68 = .ok (.getfield 453, 3) := by decide +kernel
theorem dX12_guess_71 : decode cX12_guess 71 = .ok (.iload_n 1, 1) := by decide +kernel
theorem dX12_guess_72 : decode cX12_guess 72 = .ok (.iastore, 1) := by decide +kernel
theorem dX12_guess_73 : decode cX12_guess 73 = .ok (.aload_n 0, 1) := by decide +kernel
theorem dX12_guess_74 : decode cX12_guess 74 = .ok (.getfield 104, 3) := by decide +kernel
theorem dX12_guess_77 : decode cX12_guess 77 = .ok (.aload_n 0, 1) := by decide +kernel
theorem dX12_guess_78 : decode cX12_guess 78 = .ok (.getfield 453, 3) := by decide +kernel
theorem dX12_guess_81 : decode cX12_guess 81 = .ok (.iconst 4, 1) := by decide +kernel
theorem dX12_guess_82 : decode cX12_guess 82 = .ok (.iload_n 2, 1) := by decide +kernel
theorem dX12_guess_83 : decode cX12_guess 83 = .ok (.imul, 1) := by decide +kernel
theorem dX12_guess_84 : decode cX12_guess 84 = .ok (.iload_n 3, 1) := by decide +kernel
theorem dX12_guess_85 : decode cX12_guess 85 = .ok (.iadd, 1) := by decide +kernel
theorem dX12_guess_86 : decode cX12_guess 86 = .ok (.iastore, 1) := by decide +kernel
theorem dX12_guess_87 : decode cX12_guess 87 = .ok (.aload_n 0, 1) := by decide +kernel
theorem dX12_guess_88 : decode cX12_guess 88 = .ok (.aload_n 0, 1) := by decide +kernel
theorem dX12_guess_89 : decode cX12_guess 89 = .ok (.getfield 453, 3) := by decide +kernel
theorem dX12_guess_92 : decode cX12_guess 92 = .ok (.iconst 1, 1) := by decide +kernel
theorem dX12_guess_93 : decode cX12_guess 93 = .ok (.iadd, 1) := by decide +kernel
theorem dX12_guess_94 : decode cX12_guess 94 = .ok (.putfield 453, 3) := by decide +kernel
theorem dX12_guess_97 : decode cX12_guess 97 = .ok (.aload_n 0, 1) := by decide +kernel
theorem dX12_guess_98 : decode cX12_guess 98 = .ok (.getfield 453, 3) := by decide +kernel
theorem dX12_guess_101 : decode cX12_guess 101 = .ok (.ireturn, 1) := by decide +kernel
theorem dX12_findsFits_0 : decode cX12_findsFits 0 = .ok (.aload_n 0, 1) := by decide +kernel
theorem dX12_findsFits_1 : decode cX12_findsFits 1 = .ok (.iconst 0, 1) := by decide +kernel
theorem dX12_findsFits_2 : decode cX12_findsFits 2 = .ok (.putfield 459, 3) := by decide +kernel
theorem dX12_findsFits_5 : decode cX12_findsFits 5 = .ok (.iconst 0, 1) := by decide +kernel
theorem dX12_findsFits_6 : decode cX12_findsFits 6 = .ok (.istore_n 1, 1) := by decide +kernel
theorem dX12_findsFits_7 : decode cX12_findsFits 7 = .ok (.iload_n 1, 1) := by decide +kernel
theorem dX12_findsFits_8 : decode cX12_findsFits 8 = .ok (.sipush 556, 3) := by decide +kernel
theorem dX12_findsFits_11 : decode cX12_findsFits 11 = .ok (.if_icmp .ge 88, 3) := by decide +kernel
theorem dX12_findsFits_14 : decode cX12_findsFits 14 = .ok (.aload_n 0, 1) := by decide +kernel
theorem dX12_findsFits_15 : decode cX12_findsFits 15 = .ok (.iload_n 1, 1) := by decide +kernel
theorem dX12_findsFits_16 : decode cX12_findsFits 16 = .ok (.invokevirtual 456, 3) := by decide +kernel
theorem dX12_findsFits_19 : decode cX12_findsFits 19 = .ok (.istore_n 2, 1) := by decide +kernel
theorem dX12_findsFits_20 : decode cX12_findsFits 20 = .ok (.iconst 0, 1) := by decide +kernel
theorem dX12_findsFits_21 : decode cX12_findsFits 21 = .ok (.istore_n 3, 1) := by decide +kernel
theorem dX12_findsFits_22 : decode cX12_findsFits 22 = .ok (.iload_n 3, 1) := by decide +kernel
theorem dX12_findsFits_23 : decode cX12_findsFits 23 = .ok (.aload_n 0, 1) := by decide +kernel
theorem dX12_findsFits_24 : decode cX12_findsFits 24 = .ok (.getfield 453, 3) := by decide +kernel
theorem dX12_findsFits_27 : decode cX12_findsFits 27 = .ok (.if_icmp .ge 39, 3) := by decide +kernel
theorem dX12_findsFits_30 : decode cX12_findsFits 30 = .ok (.iload_n 2, 1) := by decide +kernel
theorem dX12_findsFits_31 : decode cX12_findsFits 31 = .ok (.ifCond .eq 35, 3) := by decide +kernel
theorem dX12_findsFits_34 : decode cX12_findsFits 34 = .ok (.aload_n 0, 1) := by decide +kernel
theorem dX12_findsFits_35 : decode cX12_findsFits 35 = .ok (.iload_n 1, 1) := by decide +kernel
theorem dX12_findsFits_36 : decode cX12_findsFits 36 = .ok (.aload_n 0, 1) := by decide +kernel
theorem dX12_findsFits_37 : decode cX12_findsFits 37 = .ok (.getfield 101, 3) := by decide +kernel
theorem dX12_findsFits_40 : decode cX12_findsFits 40 = .ok (.iload_n 3, 1) := by decide +kernel
theorem dX12_findsFits_41 : decode cX12_findsFits 41 = .ok (.iaload, 1) := by decide +kernel
theorem dX12_findsFits_42 : decode cX12_findsFits 42 = .ok (.invokevirtual 462, 3) := by decide +kernel
theorem dX12_findsFits_45 : decode cX12_findsFits 45 = .ok (.aload_n 0, 1) := by decide +kernel
theorem dX12_findsFits_46 : decode cX12_findsFits 46 = .ok (.getfield 104, 3) := by decide +kernel
theorem dX12_findsFits_49 : decode cX12_findsFits 49 = .ok (.iload_n 3, 1) := by decide +kernel
theorem dX12_findsFits_50 : decode cX12_findsFits 50 = .ok (.iaload, 1) := by decide +kernel
theorem dX12_findsFits_51 : decode cX12_findsFits 51 = .ok (.if_icmp .ne 7, 3) := by decide +kernel
theorem dX12_findsFits_54 : decode cX12_findsFits 54 = .ok (.iconst 1, 1) := by decide +kernel
theorem dX12_findsFits_55 : decode cX12_findsFits 55 = .ok (.goto 4, 3) := by decide +kernel
theorem dX12_findsFits_58 : decode cX12_findsFits 58 = .ok (.iconst 0, 1) := by decide +kernel
theorem dX12_findsFits_59 : decode cX12_findsFits 59 = .ok (.istore_n 2, 1) := by decide +kernel
theorem dX12_findsFits_60 : decode cX12_findsFits 60 = .ok (.iinc 3 1, 3) := by decide +kernel
theorem dX12_findsFits_63 : decode cX12_findsFits 63 = .ok (.goto (-41), 3) := by decide +kernel
theorem dX12_findsFits_66 : decode cX12_findsFits 66 = .ok (.iload_n 2, 1) := by decide +kernel
theorem dX12_findsFits_67 : decode cX12_findsFits 67 = .ok (.ifCond .ne 6, 3) := by decide +kernel
theorem dX12_findsFits_70 : decode cX12_findsFits 70 = .ok (.goto 23, 3) := by decide +kernel
theorem dX12_findsFits_73 : decode cX12_findsFits 73 = .ok (.aload_n 0, 1) := by decide +kernel
theorem dX12_findsFits_74 : decode cX12_findsFits 74 = .ok (.getfield 110, 3) := by decide +kernel
theorem dX12_findsFits_77 : decode cX12_findsFits 77 = .ok (.aload_n 0, 1) := by decide +kernel
theorem dX12_findsFits_78 : decode cX12_findsFits 78 = .ok (.getfield 459, 3) := by decide +kernel
theorem dX12_findsFits_81 : decode cX12_findsFits 81 = .ok (.iload_n 1, 1) := by decide +kernel
theorem dX12_findsFits_82 : decode cX12_findsFits 82 = .ok (.iastore, 1) := by decide +kernel
theorem dX12_findsFits_83 : decode cX12_findsFits 83 = .ok (.aload_n 0, 1) := by decide +kernel
theorem dX12_findsFits_84 : decode cX12_findsFits 84 = .ok (.aload_n 0, 1) := by decide +kernel
theorem dX12_findsFits_85 : decode cX12_findsFits 85 = .ok (.getfield 459, 3) := by decide +kernel
theorem dX12_findsFits_88 : decode cX12_findsFits 88 = .ok (.iconst 1, 1) := by decide +kernel
theorem dX12_findsFits_89 : decode cX12_findsFits 89 = .ok (.iadd, 1) := by decide +kernel
theorem dX12_findsFits_90 : decode cX12_findsFits 90 = .ok (.putfield 459, 3) := by decide +kernel
theorem dX12_findsFits_93 : decode cX12_findsFits 93 = .ok (.iinc 1 1, 3) := by decide +kernel
theorem dX12_findsFits_96 : decode cX12_findsFits 96 = .ok (.goto (-89), 3) := by decide +kernel
theorem dX12_findsFits_99 : decode cX12_findsFits 99 = .ok (.return_, 1) := by decide +kernel
theorem dX12_mostLeft_0 : decode cX12_mostLeft 0 = .ok (.iconst 0, 1) := by decide +kernel
theorem dX12_mostLeft_1 : decode cX12_mostLeft 1 = .ok (.istore_n 2, 1) := by decide +kernel
theorem dX12_mostLeft_2 : decode cX12_mostLeft 2 = .ok (.iload_n 2, 1) := by decide +kernel
theorem dX12_mostLeft_3 : decode cX12_mostLeft 3 = .ok (.bipush 16, 2) := by decide +kernel
theorem dX12_mostLeft_5 : decode cX12_mostLeft 5 = .ok (.if_icmp .ge 16, 3) := by decide +kernel
theorem dX12_mostLeft_8 : decode cX12_mostLeft 8 = .ok (.aload_n 0, 1) := by decide +kernel
theorem dX12_mostLeft_9 : decode cX12_mostLeft 9 = .ok (.getfield 107, 3) := by decide +kernel
theorem dX12_mostLeft_12 : decode cX12_mostLeft 12 = .ok (.iload_n 2, 1) := by decide +kernel
theorem dX12_mostLeft_13 : decode cX12_mostLeft 13 = .ok (.iconst 0, 1) := by decide +kernel
theorem dX12_mostLeft_14 : decode cX12_mostLeft 14 = .ok (.iastore, 1) := by decide +kernel
theorem dX12_mostLeft_15 : decode cX12_mostLeft 15 = .ok (.iinc 2 1, 3) := by decide +kernel
theorem dX12_mostLeft_18 : decode cX12_mostLeft 18 = .ok (.goto (-16), 3) := by decide +kernel
theorem dX12_mostLeft_21 : decode cX12_mostLeft 21 = .ok (.iconst 0, 1) := by decide +kernel
theorem dX12_mostLeft_22 : decode cX12_mostLeft 22 = .ok (.istore_n 2, 1) := by decide +kernel
theorem dX12_mostLeft_23 : decode cX12_mostLeft 23 = .ok (.iconst 0, 1) := by decide +kernel
theorem dX12_mostLeft_24 : decode cX12_mostLeft 24 = .ok (.istore_n 3, 1) := by decide +kernel
theorem dX12_mostLeft_25 : decode cX12_mostLeft 25 = .ok (.iload_n 3, 1) := by decide +kernel
theorem dX12_mostLeft_26 : decode cX12_mostLeft 26 = .ok (.aload_n 0, 1) := by decide +kernel
theorem dX12_mostLeft_27 : decode cX12_mostLeft 27 = .ok (.getfield 459, 3) := by decide +kernel
theorem dX12_mostLeft_30 : decode cX12_mostLeft 30 = .ok (.if_icmp .ge 51, 3) := by decide +kernel
theorem dX12_mostLeft_33 : decode cX12_mostLeft 33 = .ok (.aload_n 0, 1) := by decide +kernel
theorem dX12_mostLeft_34 : decode cX12_mostLeft 34 = .ok (.aload_n 0, 1) := by decide +kernel
theorem dX12_mostLeft_35 : decode cX12_mostLeft 35 = .ok (.getfield 110, 3) := by decide +kernel
theorem dX12_mostLeft_38 : decode cX12_mostLeft 38 = .ok (.iload_n 3, 1) := by decide +kernel
theorem dX12_mostLeft_39 : decode cX12_mostLeft 39 = .ok (.iaload, 1) := by decide +kernel
theorem dX12_mostLeft_40 : decode cX12_mostLeft 40 = .ok (.iload_n 1, 1) := by decide +kernel
theorem dX12_mostLeft_41 : decode cX12_mostLeft 41 = .ok (.invokevirtual 462, 3) := by decide +kernel
theorem dX12_mostLeft_44 : decode cX12_mostLeft 44 = .ok (.istore 4, 2) := by decide +kernel
theorem dX12_mostLeft_46 : decode cX12_mostLeft 46 = .ok (.aload_n 0, 1) := by decide +kernel
theorem dX12_mostLeft_47 : decode cX12_mostLeft 47 = .ok (.getfield 107, 3) := by decide +kernel
theorem dX12_mostLeft_50 : decode cX12_mostLeft 50 = .ok (.iload 4, 2) := by decide +kernel
theorem dX12_mostLeft_52 : decode cX12_mostLeft 52 = .ok (.aload_n 0, 1) := by decide +kernel
theorem dX12_mostLeft_53 : decode cX12_mostLeft 53 = .ok (.getfield 107, 3) := by decide +kernel
theorem dX12_mostLeft_56 : decode cX12_mostLeft 56 = .ok (.iload 4, 2) := by decide +kernel
theorem dX12_mostLeft_58 : decode cX12_mostLeft 58 = .ok (.iaload, 1) := by decide +kernel
theorem dX12_mostLeft_59 : decode cX12_mostLeft 59 = .ok (.iconst 1, 1) := by decide +kernel
theorem dX12_mostLeft_60 : decode cX12_mostLeft 60 = .ok (.iadd, 1) := by decide +kernel
theorem dX12_mostLeft_61 : decode cX12_mostLeft 61 = .ok (.iastore, 1) := by decide +kernel
theorem dX12_mostLeft_62 : decode cX12_mostLeft 62 = .ok (.aload_n 0, 1) := by decide +kernel
theorem dX12_mostLeft_63 : decode cX12_mostLeft 63 = .ok (.iload_n 2, 1) := by decide +kernel
theorem dX12_mostLeft_64 : decode cX12_mostLeft 64 = .ok (.aload_n 0, 1) := by decide +kernel
theorem dX12_mostLeft_65 : decode cX12_mostLeft 65 = .ok (.getfield 107, 3) := by decide +kernel
theorem dX12_mostLeft_68 : decode cX12_mostLeft 68 = .ok (.iload 4, 2) := by decide +kernel
theorem dX12_mostLeft_70 : decode cX12_mostLeft 70 = .ok (.iaload, 1) := by decide +kernel
theorem dX12_mostLeft_71 : decode cX12_mostLeft 71 = .ok (.invokevirtual 434, 3) := by decide +kernel
theorem dX12_mostLeft_74 : decode cX12_mostLeft 74 = .ok (.istore_n 2, 1) := by decide +kernel
theorem dX12_mostLeft_75 : decode cX12_mostLeft 75 = .ok (.iinc 3 1, 3) := by decide +kernel
theorem dX12_mostLeft_78 : decode cX12_mostLeft 78 = .ok (.goto (-53), 3) := by decide +kernel
theorem dX12_mostLeft_81 : decode cX12_mostLeft 81 = .ok (.iload_n 2, 1) := by decide +kernel
theorem dX12_mostLeft_82 : decode cX12_mostLeft 82 = .ok (.ireturn, 1) := by decide +kernel
theorem dX12_nextGuess_0 : decode cX12_nextGuess 0 = .ok (.iconst (-1), 1) := by decide +kernel
theorem dX12_nextGuess_1 : decode cX12_nextGuess 1 = .ok (.istore_n 1, 1) := by decide +kernel
theorem dX12_nextGuess_2 : decode cX12_nextGuess 2 = .ok (.ldc_w 424, 3) := by decide +kernel
theorem dX12_nextGuess_5 : decode cX12_nextGuess 5 = .ok (.istore_n 2, 1) := by decide +kernel
theorem dX12_nextGuess_6 : decode cX12_nextGuess 6 = .ok (.iconst 0, 1) := by decide +kernel
theorem dX12_nextGuess_7 : decode cX12_nextGuess 7 = .ok (.istore_n 3, 1) := by decide +kernel
theorem dX12_nextGuess_8 : decode cX12_nextGuess 8 = .ok (.iload_n 3, 1) := by decide +kernel
theorem dX12_nextGuess_9 : decode cX12_nextGuess 9 = .ok (.sipush 556, 3) := by decide +kernel
theorem dX12_nextGuess_12 : decode cX12_nextGuess 12 = .ok (.if_icmp .ge 47, 3) := by decide +kernel
theorem dX12_nextGuess_15 : decode cX12_nextGuess 15 = .ok (.aload_n 0, 1) := by decide +kernel
theorem dX12_nextGuess_16 : decode cX12_nextGuess 16 = .ok (.iload_n 3, 1) := by decide +kernel
theorem dX12_nextGuess_17 : decode cX12_nextGuess 17 = .ok (.invokevirtual 456, 3) := by decide +kernel
theorem dX12_nextGuess_20 : decode cX12_nextGuess 20 = .ok (.ifCond .ne 6, 3) := by decide +kernel
theorem dX12_nextGuess_23 : decode cX12_nextGuess 23 = .ok (.goto 30, 3) := by decide +kernel
theorem dX12_nextGuess_26 : decode cX12_nextGuess 26 = .ok (.aload_n 0, 1) := by decide +kernel
theorem dX12_nextGuess_27 : decode cX12_nextGuess 27 = .ok (.iload_n 3, 1) := by decide +kernel
theorem dX12_nextGuess_28 : decode cX12_nextGuess 28 = .ok (.invokevirtual 465, 3) := by decide +kernel
theorem dX12_nextGuess_31 : decode cX12_nextGuess 31 = .ok (.istore 4, 2) := by decide +kernel
theorem dX12_nextGuess_33 : decode cX12_nextGuess 33 = .ok (.iload 4, 2) := by decide +kernel
theorem dX12_nextGuess_35 : decode cX12_nextGuess 35 = .ok (.iload_n 2, 1) := by decide +kernel
theorem dX12_nextGuess_36 : decode cX12_nextGuess 36 = .ok (.if_icmp .ge 7, 3) := by decide +kernel
theorem dX12_nextGuess_39 : decode cX12_nextGuess 39 = .ok (.iload_n 3, 1) := by decide +kernel
theorem dX12_nextGuess_40 : decode cX12_nextGuess 40 = .ok (.goto 4, 3) := by decide +kernel
theorem dX12_nextGuess_43 : decode cX12_nextGuess 43 = .ok (.iload_n 1, 1) := by decide +kernel
theorem dX12_nextGuess_44 : decode cX12_nextGuess 44 = .ok (.istore_n 1, 1) := by decide +kernel
theorem dX12_nextGuess_45 : decode cX12_nextGuess 45 = .ok (.aload_n 0, 1) := by decide +kernel
theorem dX12_nextGuess_46 : decode cX12_nextGuess 46 = .ok (.iload_n 2, 1) := by decide +kernel
theorem dX12_nextGuess_47 : decode cX12_nextGuess 47 = .ok (.iload 4, 2) := by decide +kernel
theorem dX12_nextGuess_49 : decode cX12_nextGuess 49 = .ok (.invokevirtual 428, 3) := by decide +kernel
theorem dX12_nextGuess_52 : decode cX12_nextGuess 52 = .ok (.istore_n 2, 1) := by decide +kernel
theorem dX12_nextGuess_53 : decode cX12_nextGuess 53 = .ok (.iinc 3 1, 3) := by decide +kernel
theorem dX12_nextGuess_56 : decode cX12_nextGuess 56 = .ok (.goto (-48), 3) := by decide +kernel
theorem dX12_nextGuess_59 : decode cX12_nextGuess 59 = .ok (.iload_n 1, 1) := by decide +kernel
theorem dX12_nextGuess_60 : decode cX12_nextGuess 60 = .ok (.ireturn, 1) := by decide +kernel
theorem dX12_plumes_0 : decode cX12_plumes 0 = .ok (.aload_n 0, 1) := by decide +kernel
theorem dX12_plumes_1 : decode cX12_plumes 1 = .ok (.iconst 0, 1) := by decide +kernel
theorem dX12_plumes_2 : decode cX12_plumes 2 = .ok (.putfield 149, 3) := by decide +kernel
theorem dX12_plumes_5 : decode cX12_plumes 5 = .ok (.aload_n 0, 1) := by decide +kernel
theorem dX12_plumes_6 : decode cX12_plumes 6 = .ok (.iload_n 1, 1) := by decide +kernel
end
