section
theorem dX0_init_0 : decode cX0_init 0 = .ok (.aload_n 0, 1) := by decide +kernel
theorem dX0_init_1 : decode cX0_init 1 = .ok (.invokespecial 3, 3) := by decide +kernel
theorem dX0_init_4 : decode cX0_init 4 = .ok (.aload_n 0, 1) := by decide +kernel
theorem dX0_init_5 : decode cX0_init 5 = .ok (.new 9, 3) := by decide +kernel
theorem dX0_init_8 : decode cX0_init 8 = .ok (.dup, 1) := by decide +kernel
theorem dX0_init_9 : decode cX0_init 9 = .ok (.invokespecial 11, 3) := by decide +kernel
theorem dX0_init_12 : decode cX0_init 12 = .ok (.putfield 12, 3) := by decide +kernel
theorem dX0_init_15 : decode cX0_init 15 = .ok (.aload_n 0, 1) := by decide +kernel
theorem dX0_init_16 : decode cX0_init 16 = .ok (.bipush 12, 2) := by decide +kernel
theorem dX0_init_18 : decode cX0_init 18 = .ok (.newarray .int, 2) := by decide +kernel
theorem dX0_init_20 : decode cX0_init 20 = .ok (.putfield 18, 3) := by decide +kernel
theorem dX0_init_23 : decode cX0_init 23 = .ok (.aload_n 0, 1) := by decide +kernel
theorem dX0_init_24 : decode cX0_init 24 = .ok (.bipush 12, 2) := by decide +kernel
theorem dX0_init_26 : decode cX0_init 26 = .ok (.newarray .int, 2) := by decide +kernel
theorem dX0_init_28 : decode cX0_init 28 = .ok (.putfield 22, 3) := by decide +kernel
theorem dX0_init_31 : decode cX0_init 31 = .ok (.aload_n 0, 1) := by decide +kernel
theorem dX0_init_32 : decode cX0_init 32 = .ok (.bipush 12, 2) := by decide +kernel
theorem dX0_init_34 : decode cX0_init 34 = .ok (.newarray .int, 2) := by decide +kernel
theorem dX0_init_36 : decode cX0_init 36 = .ok (.putfield 25, 3) := by decide +kernel
theorem dX0_init_39 : decode cX0_init 39 = .ok (.aload_n 0, 1) := by decide +kernel
theorem dX0_init_40 : decode cX0_init 40 = .ok (.bipush 8, 2) := by decide +kernel
theorem dX0_init_42 : decode cX0_init 42 = .ok (.newarray .int, 2) := by decide +kernel
theorem dX0_init_44 : decode cX0_init 44 = .ok (.putfield 28, 3) := by decide +kernel
theorem dX0_init_47 : decode cX0_init 47 = .ok (.aload_n 0, 1) := by decide +kernel
theorem dX0_init_48 : decode cX0_init 48 = .ok (.bipush 8, 2) := by decide +kernel
theorem dX0_init_50 : decode cX0_init 50 = .ok (.newarray .int, 2) := by decide +kernel
theorem dX0_init_52 : decode cX0_init 52 = .ok (.putfield 31, 3) := by decide +kernel
theorem dX0_init_55 : decode cX0_init 55 = .ok (.aload_n 0, 1) := by decide +kernel
theorem dX0_init_56 : decode cX0_init 56 = .ok (.new 34, 3) := by decide +kernel
theorem dX0_init_59 : decode cX0_init 59 = .ok (.dup, 1) := by decide +kernel
theorem dX0_init_60 : decode cX0_init 60 = .ok (.invokespecial 36, 3) := by decide +kernel
theorem dX0_init_63 : decode cX0_init 63 = .ok (.putfield 37, 3) := by decide +kernel
theorem dX0_init_66 : decode cX0_init 66 = .ok (.aload_n 0, 1) := by decide +kernel
theorem dX0_init_67 : decode cX0_init 67 = .ok (.new 41, 3) := by decide +kernel
theorem dX0_init_70 : decode cX0_init 70 = .ok (.dup, 1) := by decide +kernel
theorem dX0_init_71 : decode cX0_init 71 = .ok (.bipush 16, 2) := by decide +kernel
theorem dX0_init_73 : decode cX0_init 73 = .ok (.iconst 1, 1) := by decide +kernel
theorem dX0_init_74 : decode cX0_init 74 = .ok (.invokespecial 43, 3) := by decide +kernel
theorem dX0_init_77 : decode cX0_init 77 = .ok (.putfield 46, 3) := by decide +kernel
theorem dX0_init_80 : decode cX0_init 80 = .ok (.aload_n 0, 1) := by decide +kernel
theorem dX0_init_81 : decode cX0_init 81 = .ok (.new 41, 3) := by decide +kernel
theorem dX0_init_84 : decode cX0_init 84 = .ok (.dup, 1) := by decide +kernel
theorem dX0_init_85 : decode cX0_init 85 = .ok (.bipush 16, 2) := by decide +kernel
theorem dX0_init_87 : decode cX0_init 87 = .ok (.bipush 6, 2) := by decide +kernel
theorem dX0_init_89 : decode cX0_init 89 = .ok (.invokespecial 43, 3) := by decide +kernel
theorem dX0_init_92 : decode cX0_init 92 = .ok (.putfield 50, 3) := by decide +kernel
theorem dX0_init_95 : decode cX0_init 95 = .ok (.aload_n 0, 1) := by decide +kernel
theorem dX0_init_96 : decode cX0_init 96 = .ok (.new 41, 3) := by decide +kernel
theorem dX0_init_99 : decode cX0_init 99 = .ok (.dup, 1) := by decide +kernel
theorem dX0_init_100 : decode cX0_init 100 = .ok (.bipush 16, 2) := by decide +kernel
theorem dX0_init_102 : decode cX0_init 102 = .ok (.iconst 2, 1) := by decide +kernel
theorem dX0_init_103 : decode cX0_init 103 = .ok (.invokespecial 43, 3) := by decide +kernel
theorem dX0_init_106 : decode cX0_init 106 = .ok (.putfield 53, 3) := by decide +kernel
theorem dX0_init_109 : decode cX0_init 109 = .ok (.aload_n 0, 1) := by decide +kernel
theorem dX0_init_110 : decode cX0_init 110 = .ok (.new 41, 3) := by decide +kernel
theorem dX0_init_113 : decode cX0_init 113 = .ok (.dup, 1) := by decide +kernel
theorem dX0_init_114 : decode cX0_init 114 = .ok (.sipush 150, 3) := by decide +kernel
theorem dX0_init_117 : decode cX0_init 117 = .ok (.iconst 4, 1) := by decide +kernel
theorem dX0_init_118 : decode cX0_init 118 = .ok (.invokespecial 43, 3) := by decide +kernel
theorem dX0_init_121 : decode cX0_init 121 = .ok (.putfield 56, 3) := by decide +kernel
theorem dX0_init_124 : decode cX0_init 124 = .ok (.aload_n 0, 1) := by decide +kernel
theorem dX0_init_125 : decode cX0_init 125 = .ok (.new 41, 3) := by decide +kernel
theorem dX0_init_128 : decode cX0_init 128 = .ok (.dup, 1) := by decide +kernel
theorem dX0_init_129 : decode cX0_init 129 = .ok (.bipush 10, 2) := by decide +kernel
theorem dX0_init_131 : decode cX0_init 131 = .ok (.iconst 3, 1) := by decide +kernel
theorem dX0_init_132 : decode cX0_init 132 = .ok (.invokespecial 43, 3) := by decide +kernel
theorem dX0_init_135 : decode cX0_init 135 = .ok (.putfield 59, 3) := by decide +kernel
theorem dX0_init_138 : decode cX0_init 138 = .ok (.aload_n 0, 1) := by decide +kernel
theorem dX0_init_139 : decode cX0_init 139 = .ok (.new 41, 3) := by decide +kernel
theorem dX0_init_142 : decode cX0_init 142 = .ok (.dup, 1) := by decide +kernel
theorem dX0_init_143 : decode cX0_init 143 = .ok (.bipush 8, 2) := by decide +kernel
theorem dX0_init_145 : decode cX0_init 145 = .ok (.iconst 3, 1) := by decide +kernel
theorem dX0_init_146 : decode cX0_init 146 = .ok (.invokespecial 43, 3) := by decide +kernel
theorem dX0_init_149 : decode cX0_init 149 = .ok (.putfield 62, 3) := by decide +kernel
theorem dX0_init_152 : decode cX0_init 152 = .ok (.aload_n 0, 1) := by decide +kernel
theorem dX0_init_153 : decode cX0_init 153 = .ok (.new 41, 3) := by decide +kernel
theorem dX0_init_156 : decode cX0_init 156 = .ok (.dup, 1) := by decide +kernel
theorem dX0_init_157 : decode cX0_init 157 = .ok (.bipush 6, 2) := by decide +kernel
theorem dX0_init_159 : decode cX0_init 159 = .ok (.iconst 2, 1) := by decide +kernel
theorem dX0_init_160 : decode cX0_init 160 = .ok (.invokespecial 43, 3) := by decide +kernel
theorem dX0_init_163 : decode cX0_init 163 = .ok (.putfield 65, 3) := by decide +kernel
theorem dX0_init_166 : decode cX0_init 166 = .ok (.aload_n 0, 1) := by decide +kernel
theorem dX0_init_167 : decode cX0_init 167 = .ok (.new 41, 3) := by decide +kernel
theorem dX0_init_170 : decode cX0_init 170 = .ok (.dup, 1) := by decide +kernel
theorem dX0_init_171 : decode cX0_init 171 = .ok (.bipush 16, 2) := by decide +kernel
theorem dX0_init_173 : decode cX0_init 173 = .ok (.iconst 2, 1) := by decide +kernel
theorem dX0_init_174 : decode cX0_init 174 = .ok (.invokespecial 43, 3) := by decide +kernel
theorem dX0_init_177 : decode cX0_init 177 = .ok (.putfield 68, 3) := by decide +kernel
theorem dX0_init_180 : decode cX0_init 180 = .ok (.aload_n 0, 1) := by decide +kernel
theorem dX0_init_181 : decode cX0_init 181 = .ok (.new 41, 3) := by decide +kernel
theorem dX0_init_184 : decode cX0_init 184 = .ok (.dup, 1) := by decide +kernel
theorem dX0_init_185 : decode cX0_init 185 = .ok (.bipush 12, 2) := by decide +kernel
theorem dX0_init_187 : decode cX0_init 187 = .ok (.iconst 1, 1) := by decide +kernel
theorem dX0_init_188 : decode cX0_init 188 = .ok (.invokespecial 43, 3) := by decide +kernel
theorem dX0_init_191 : decode cX0_init 191 = .ok (.putfield 71, 3) := by decide +kernel
theorem dX0_init_194 : decode cX0_init 194 = .ok (.aload_n 0, 1) := by decide +kernel
theorem dX0_init_195 : decode cX0_init 195 = .ok (.new 41, 3) := by decide +kernel
theorem dX0_init_198 : decode cX0_init 198 = .ok (.dup, 1) := by decide +kernel
theorem dX0_init_199 : decode cX0_init 199 = .ok (.bipush 7, 2) := by decide +kernel
theorem dX0_init_201 : decode cX0_init 201 = .ok (.iconst 1, 1) := by decide +kernel
theorem dX0_init_202 : decode cX0_init 202 = .ok (.invokespecial 43, 3) := by decide +kernel
theorem dX0_init_205 : decode cX0_init 205 = .ok (.putfield 74, 3) := by decide +kernel
theorem dX0_init_208 : decode cX0_init 208 = .ok (.aload_n 0, 1) := by decide +kernel
theorem dX0_init_209 : decode cX0_init 209 = .ok (.bipush 6, 2) := by decide +kernel
theorem dX0_init_211 : decode cX0_init 211 = .ok (.newarray .int, 2) := by decide +kernel
theorem dX0_init_213 : decode cX0_init 213 = .ok (.dup, 1) := by decide +kernel
theorem dX0_init_214 : decode cX0_init 214 = .ok (.iconst 0, 1) := by decide +kernel
theorem dX0_init_215 : decode cX0_init 215 = .ok (.iconst 1, 1) := by decide +kernel
theorem dX0_init_216 : decode cX0_init 216 = .ok (.iastore, 1) := by decide +kernel
theorem dX0_init_217 : decode cX0_init 217 = .ok (.dup, 1) := by decide +kernel
theorem dX0_init_218 : decode cX0_init 218 = .ok (.iconst 1, 1) := by decide +kernel
theorem dX0_init_219 : decode cX0_init 219 = .ok (.iconst 0, 1) := by decide +kernel
theorem dX0_init_220 : decode cX0_init 220 = .ok (.iastore, 1) := by decide +kernel
theorem dX0_init_221 : decode cX0_init 221 = .ok (.dup, 1) := by decide +kernel
theorem dX0_init_222 : decode cX0_init 222 = .ok (.iconst 2, 1) := by decide +kernel
theorem dX0_init_223 : decode cX0_init 223 = .ok (.iconst 1, 1) := by decide +kernel
theorem dX0_init_224 : decode cX0_init 224 = .ok (.iastore, 1) := by decide +kernel
theorem dX0_init_225 : decode cX0_init 225 = .ok (.dup, 1) := by decide +kernel
theorem dX0_init_226 : decode cX0_init 226 = .ok (.iconst 3, 1) := by decide +kernel
theorem dX0_init_227 : decode cX0_init 227 = .ok (.iconst 0, 1) := by decide +kernel
theorem dX0_init_228 : decode cX0_init 228 = .ok (.iastore, 1) := by decide +kernel
theorem dX0_init_229 : decode cX0_init 229 = .ok (.dup, 1) := by decide +kernel
theorem dX0_init_230 : decode cX0_init 230 = .ok (.iconst 4, 1) := by decide +kernel
theorem dX0_init_231 : decode cX0_init 231 = .ok (.iconst 1, 1) := by decide +kernel
theorem dX0_init_232 : decode cX0_init 232 = .ok (.iastore, 1) := by decide +kernel
theorem dX0_init_233 : decode cX0_init 233 = .ok (.dup, 1) := by decide +kernel
theorem dX0_init_234 : decode cX0_init 234 = .ok (.iconst 5, 1) := by decide +kernel
theorem dX0_init_235 : decode cX0_init 235 = .ok (.iconst 0, 1) := by decide +kernel
theorem dX0_init_236 : decode cX0_init 236 = .ok (.iastore, 1) := by decide +kernel
theorem dX0_init_237 : decode cX0_init 237 = .ok (.putfield 77, 3) := by decide +kernel
theorem dX0_init_240 : decode cX0_init 240 = .ok (.return_, 1) := by decide +kernel
theorem dX0_copyFrom_0 : decode cX0_copyFrom 0 = .ok (.aload_n 0, 1) := by decide +kernel
theorem dX0_copyFrom_1 : decode cX0_copyFrom 1 = .ok (.getfield 12, 3) := by decide +kernel
theorem dX0_copyFrom_4 : decode cX0_copyFrom 4 = .ok (.aload_n 1, 1) := by decide +kernel
theorem dX0_copyFrom_5 : decode cX0_copyFrom 5 = .ok (.getfield 12, 3) := by decide +kernel
theorem dX0_copyFrom_8 : decode cX0_copyFrom 8 = .ok (.invokevirtual 80, 3) := by decide +kernel
theorem dX0_copyFrom_11 : decode cX0_copyFrom 11 = .ok (.aload_n 1, 1) := by decide +kernel
theorem dX0_copyFrom_12 : decode cX0_copyFrom 12 = .ok (.getfield 18, 3) := by decide +kernel
theorem dX0_copyFrom_15 : decode cX0_copyFrom 15 = .ok (.iconst 0, 1) := by decide +kernel
theorem dX0_copyFrom_16 : decode cX0_copyFrom 16 = .ok (.aload_n 0, 1) := by decide +kernel
theorem dX0_copyFrom_17 : decode cX0_copyFrom 17 = .ok (.getfield 18, 3) := by decide +kernel
theorem dX0_copyFrom_20 : decode cX0_copyFrom 20 = .ok (.iconst 0, 1) := by decide +kernel
theorem dX0_copyFrom_21 : decode cX0_copyFrom 21 = .ok (.bipush 12, 2) := by decide +kernel
theorem dX0_copyFrom_23 : decode cX0_copyFrom 23 = .ok (.invokestatic 84, 3) := by decide +kernel
theorem dX0_copyFrom_26 : decode cX0_copyFrom 26 = .ok (.aload_n 1, 1) := by decide +kernel
theorem dX0_copyFrom_27 : decode cX0_copyFrom 27 = .ok (.getfield 22, 3) := by decide +kernel
theorem dX0_copyFrom_30 : decode cX0_copyFrom 30 = .ok (.iconst 0, 1) := by decide +kernel
theorem dX0_copyFrom_31 : decode cX0_copyFrom 31 = .ok (.aload_n 0, 1) := by decide +kernel
theorem dX0_copyFrom_32 : decode cX0_copyFrom 32 = .ok (.getfield 22, 3) := by decide +kernel
theorem dX0_copyFrom_35 : decode cX0_copyFrom 35 = .ok (.iconst 0, 1) := by decide +kernel
theorem dX0_copyFrom_36 : decode cX0_copyFrom 36 = .ok (.bipush 12, 2) := by decide +kernel
theorem dX0_copyFrom_38 : decode cX0_copyFrom 38 = .ok (.invokestatic 84, 3) := by decide +kernel
theorem dX0_copyFrom_41 : decode cX0_copyFrom 41 = .ok (.aload_n 1, 1) := by decide +kernel
theorem dX0_copyFrom_42 : decode cX0_copyFrom 42 = .ok (.getfield 25, 3) := by decide +kernel
theorem dX0_copyFrom_45 : decode cX0_copyFrom 45 = .ok (.iconst 0, 1) := by decide +kernel
theorem dX0_copyFrom_46 : decode cX0_copyFrom 46 = .ok (.aload_n 0, 1) := by decide +kernel
theorem dX0_copyFrom_47 : decode cX0_copyFrom 47 = .ok (.getfield 25, 3) := by decide +kernel
theorem dX0_copyFrom_50 : decode cX0_copyFrom 50 = .ok (.iconst 0, 1) := by decide +kernel
theorem dX0_copyFrom_51 : decode cX0_copyFrom 51 = .ok (.bipush 12, 2) := by decide +kernel
theorem dX0_copyFrom_53 : decode cX0_copyFrom 53 = .ok (.invokestatic 84, 3) := by decide +kernel
theorem dX0_copyFrom_56 : decode cX0_copyFrom 56 = .ok (.aload_n 1, 1) := by decide +kernel
theorem dX0_copyFrom_57 : decode cX0_copyFrom 57 = .ok (.getfield 28, 3) := by decide +kernel
theorem dX0_copyFrom_60 : decode cX0_copyFrom 60 = .ok (.iconst 0, 1) := by decide +kernel
theorem dX0_copyFrom_61 : decode cX0_copyFrom 61 = .ok (.aload_n 0, 1) := by decide +kernel
theorem dX0_copyFrom_62 : decode cX0_copyFrom 62 = .ok (.getfield 28, 3) := by decide +kernel
theorem dX0_copyFrom_65 : decode cX0_copyFrom 65 = .ok (.iconst 0, 1) := by decide +kernel
theorem dX0_copyFrom_66 : decode cX0_copyFrom 66 = .ok (.bipush 8, 2) := by decide +kernel
theorem dX0_copyFrom_68 : decode cX0_copyFrom 68 = .ok (.invokestatic 84, 3) := by decide +kernel
theorem dX0_copyFrom_71 : decode cX0_copyFrom 71 = .ok (.aload_n 1, 1) := by decide +kernel
theorem dX0_copyFrom_72 : decode cX0_copyFrom 72 = .ok (.getfield 31, 3) := by decide +kernel
theorem dX0_copyFrom_75 : decode cX0_copyFrom 75 = .ok (.iconst 0, 1) := by decide +kernel
theorem dX0_copyFrom_76 : decode cX0_copyFrom 76 = .ok (.aload_n 0, 1) := by decide +kernel
theorem dX0_copyFrom_77 : decode cX0_copyFrom 77 = .ok (.getfield 31, 3) := by decide +kernel
theorem dX0_copyFrom_80 : decode cX0_copyFrom 80 = .ok (.iconst 0, 1) := by decide +kernel
theorem dX0_copyFrom_81 : decode cX0_copyFrom 81 = .ok (.bipush 8, 2) := by decide +kernel
theorem dX0_copyFrom_83 : decode cX0_copyFrom 83 = .ok (.invokestatic 84, 3) := by decide +kernel
theorem dX0_copyFrom_86 : decode cX0_copyFrom 86 = .ok (.aload_n 0, 1) := by decide +kernel
theorem dX0_copyFrom_87 : decode cX0_copyFrom 87 = .ok (.aload_n 1, 1) := by decide +kernel
theorem dX0_copyFrom_88 : decode cX0_copyFrom 88 = .ok (.getfield 90, 3) := by decide +kernel
theorem dX0_copyFrom_91 : decode cX0_copyFrom 91 = .ok (.putfield 90, 3) := by decide +kernel
theorem dX0_copyFrom_94 : decode cX0_copyFrom 94 = .ok (.aload_n 0, 1) := by decide +kernel
theorem dX0_copyFrom_95 : decode cX0_copyFrom 95 = .ok (.aload_n 1, 1) := by decide +kernel
theorem dX0_copyFrom_96 : decode cX0_copyFrom 96 = .ok (.getfield 94, 3) := by decide +kernel
theorem dX0_copyFrom_99 : decode cX0_copyFrom 99 = .ok (.putfield 94, 3) := by decide +kernel
theorem dX0_copyFrom_102 : decode cX0_copyFrom 102 = .ok (.aload_n 0, 1) := by decide +kernel
theorem dX0_copyFrom_103 : decode cX0_copyFrom 103 = .ok (.getfield 37, 3) := by decide +kernel
theorem dX0_copyFrom_106 : decode cX0_copyFrom 106 = .ok (.aload_n 1, 1) := by decide +kernel
theorem dX0_copyFrom_107 : decode cX0_copyFrom 107 = .ok (.getfield 37, 3) := by decide +kernel
theorem dX0_copyFrom_110 : decode cX0_copyFrom 110 = .ok (.invokevirtual 97, 3) := by decide +kernel
theorem dX0_copyFrom_113 : decode cX0_copyFrom 113 = .ok (.aload_n 0, 1) := by decide +kernel
theorem dX0_copyFrom_114 : decode cX0_copyFrom 114 = .ok (.getfield 46, 3) := by decide +kernel
theorem dX0_copyFrom_117 : decode cX0_copyFrom 117 = .ok (.aload_n 1, 1) := by decide +kernel
theorem dX0_copyFrom_118 : decode cX0_copyFrom 118 = .ok (.getfield 46, 3) := by decide +kernel
theorem dX0_copyFrom_121 : decode cX0_copyFrom 121 = .ok (.invokevirtual 100, 3) := by decide +kernel
theorem dX0_copyFrom_124 : decode cX0_copyFrom 124 = .ok (.aload_n 0, 1) := by decide +kernel
theorem dX0_copyFrom_125 : decode cX0_copyFrom 125 = .ok (.getfield 50, 3) := by decide +kernel
theorem dX0_copyFrom_128 : decode cX0_copyFrom 128 = .ok (.aload_n 1, 1) := by decide +kernel
theorem dX0_copyFrom_129 : decode cX0_copyFrom 129 = .ok (.getfield 50, 3) := by decide +kernel
theorem dX0_copyFrom_132 : decode cX0_copyFrom 132 = .ok (.invokevirtual 100, 3) := by decide +kernel
theorem dX0_copyFrom_135 : decode cX0_copyFrom 135 = .ok (.aload_n 0, 1) := by decide +kernel
theorem dX0_copyFrom_136 : decode cX0_copyFrom 136 = .ok (.getfield 53, 3) := by decide +kernel
theorem dX0_copyFrom_139 : decode cX0_copyFrom 139 = .ok (.aload_n 1, 1) := by decide +kernel
theorem dX0_copyFrom_140 : decode cX0_copyFrom 140 = .ok (.getfield 53, 3) := by decide +kernel
theorem dX0_copyFrom_143 : decode cX0_copyFrom 143 = .ok (.invokevirtual 100, 3) := by decide +kernel
theorem dX0_copyFrom_146 : decode cX0_copyFrom 146 = .ok (.aload_n 0, 1) := by decide +kernel
theorem dX0_copyFrom_147 : decode cX0_copyFrom 147 = .ok (.getfield 56, 3) := by decide +kernel
theorem dX0_copyFrom_150 : decode cX0_copyFrom 150 = .ok (.aload_n 1, 1) := by decide +kernel
theorem dX0_copyFrom_151 : decode cX0_copyFrom 151 = .ok (.getfield 56, 3) := by decide +kernel
theorem dX0_copyFrom_154 : decode cX0_copyFrom 154 = .ok (.invokevirtual 100, 3) := by decide +kernel
theorem dX0_copyFrom_157 : decode cX0_copyFrom 157 = .ok (.aload_n 0, 1) := by decide +kernel
theorem dX0_copyFrom_158 : decode cX0_copyFrom 158 = .ok (.getfield 59, 3) := by decide +kernel
theorem dX0_copyFrom_161 : decode cX0_copyFrom 161 = .ok (.aload_n 1, 1) := by decide +kernel
theorem dX0_copyFrom_162 : decode cX0_copyFrom 162 = .ok (.getfield 59, 3) := by decide +kernel
theorem dX0_copyFrom_165 : decode cX0_copyFrom 165 = .ok (.invokevirtual 100, 3) := by decide +kernel
theorem dX0_copyFrom_168 : decode cX0_copyFrom 168 = .ok (.aload_n 0, 1) := by decide +kernel
theorem dX0_copyFrom_169 : decode cX0_copyFrom 169 = .ok (.getfield 62, 3) := by decide +kernel
theorem dX0_copyFrom_172 : decode cX0_copyFrom 172 = .ok (.aload_n 1, 1) := by decide +kernel
theorem dX0_copyFrom_173 : decode cX0_copyFrom 173 = .ok (.getfield 62, 3) := by decide +kernel
theorem dX0_copyFrom_176 : decode cX0_copyFrom 176 = .ok (.invokevirtual 100, 3) := by decide +kernel
theorem dX0_copyFrom_179 : decode cX0_copyFrom 179 = .ok (.aload_n 0, 1) := by decide +kernel
theorem dX0_copyFrom_180 : decode cX0_copyFrom 180 = .ok (.getfield 65, 3) := by decide +kernel
theorem dX0_copyFrom_183 : decode cX0_copyFrom 183 = .ok (.aload_n 1, 1) := by decide +kernel
theorem dX0_copyFrom_184 : decode cX0_copyFrom 184 = .ok (.getfield 65, 3) := by decide +kernel
theorem dX0_copyFrom_187 : decode cX0_copyFrom 187 = .ok (.invokevirtual 100, 3) := by decide +kernel
theorem dX0_copyFrom_190 : decode cX0_copyFrom 190 = .ok (.aload_n 0, 1) := by decide +kernel
theorem dX0_copyFrom_191 : decode cX0_copyFrom 191 = .ok (.getfield 68, 3) := by decide +kernel
theorem dX0_copyFrom_194 : decode cX0_copyFrom 194 = .ok (.aload_n 1, 1) := by decide +kernel
theorem dX0_copyFrom_195 : decode cX0_copyFrom 195 = .ok (.getfield 68, 3) := by decide +kernel
theorem dX0_copyFrom_198 : decode cX0_copyFrom 198 = .ok (.invokevirtual 100, 3) := by decide +kernel
theorem dX0_copyFrom_201 : decode cX0_copyFrom 201 = .ok (.aload_n 0, 1) := by decide +kernel
theorem dX0_copyFrom_202 : decode cX0_copyFrom 202 = .ok (.getfield 71, 3) := by decide +kernel
theorem dX0_copyFrom_205 : decode cX0_copyFrom 205 = .ok (.aload_n 1, 1) := by decide +kernel
theorem dX0_copyFrom_206 : decode cX0_copyFrom 206 = .ok (.getfield 71, 3) := by decide +kernel
theorem dX0_copyFrom_209 : decode cX0_copyFrom 209 = .ok (.invokevirtual 100, 3) := by decide +kernel
theorem dX0_copyFrom_212 : decode cX0_copyFrom 212 = .ok (.aload_n 0, 1) := by decide +kernel
theorem dX0_copyFrom_213 : decode cX0_copyFrom 213 = .ok (.getfield 74, 3) := by decide +kernel
theorem dX0_copyFrom_216 : decode cX0_copyFrom 216 = .ok (.aload_n 1, 1) := by decide +kernel
theorem dX0_copyFrom_217 : decode cX0_copyFrom 217 = .ok (.getfield 74, 3) := by decide +kernel
theorem dX0_copyFrom_220 : decode cX0_copyFrom 220 = .ok (.invokevirtual 100, 3) := by decide +kernel
theorem dX0_copyFrom_223 : decode cX0_copyFrom 223 = .ok (.aload_n 1, 1) := by decide +kernel
theorem dX0_copyFrom_224 : decode cX0_copyFrom 224 = .ok (.getfield 77, 3) := by decide +kernel
theorem dX0_copyFrom_227 : decode cX0_copyFrom 227 = .ok (.iconst 0, 1) := by decide +kernel
theorem dX0_copyFrom_228 : decode cX0_copyFrom 228 = .ok (.aload_n 0, 1) := by decide +kernel
theorem dX0_copyFrom_229 : decode cX0_copyFrom 229 = .ok (.getfield 77, 3) := by decide +kernel
theorem dX0_copyFrom_232 : decode cX0_copyFrom 232 = .ok (.iconst 0, 1) := by decide +kernel
theorem dX0_copyFrom_233 : decode cX0_copyFrom 233 = .ok (.bipush 6, 2) := by decide +kernel
theorem dX0_copyFrom_235 : decode cX0_copyFrom 235 = .ok (.invokestatic 84, 3) := by decide +kernel
theorem dX0_copyFrom_238 : decode cX0_copyFrom 238 = .ok (.return_, 1) := by decide +kernel
theorem dX0_isWoman_0 : decode cX0_isWoman 0 = .ok (.iload_n 1, 1) := by decide +kernel
theorem dX0_isWoman_1 : decode cX0_isWoman 1 = .ok (.aload_n 0, 1) := by decide +kernel
theorem dX0_isWoman_2 : decode cX0_isWoman 2 = .ok (.getfield 90, 3) := by decide +kernel
theorem dX0_isWoman_5 : decode cX0_isWoman 5 = .ok (.invokestatic 103, 3) := by decide +kernel
theorem dX0_isWoman_8 : decode cX0_isWoman 8 = .ok (.ifCond .eq 13, 3) := by decide +kernel
theorem dX0_isWoman_11 : decode cX0_isWoman 11 = .ok (.iload_n 1, 1) := by decide +kernel
theorem dX0_isWoman_12 : decode cX0_isWoman 12 = .ok (.bipush 12, 2) := by decide +kernel
theorem dX0_isWoman_14 : decode cX0_isWoman 14 = .ok (.if_icmp .ge 7, 3) := by decide +kernel
theorem dX0_isWoman_17 : decode cX0_isWoman 17 = .ok (.iconst 1, 1) := by decide +kernel
theorem dX0_isWoman_18 : decode cX0_isWoman 18 = .ok (.goto 4, 3) := by decide +kernel
theorem dX0_isWoman_21 : decode cX0_isWoman 21 = .ok (.iconst 0, 1) := by decide +kernel
theorem dX0_isWoman_22 : decode cX0_isWoman 22 = .ok (.ireturn, 1) := by decide +kernel
theorem dX0_isGroom_0 : decode cX0_isGroom 0 = .ok (.iload_n 1, 1) := by decide +kernel
theorem dX0_isGroom_1 : decode cX0_isGroom 1 = .ok (.aload_n 0, 1) := by decide +kernel
theorem dX0_isGroom_2 : decode cX0_isGroom 2 = .ok (.getfield 94, 3) := by decide +kernel
theorem dX0_isGroom_5 : decode cX0_isGroom 5 = .ok (.invokestatic 103, 3) := by decide +kernel
theorem dX0_isGroom_8 : decode cX0_isGroom 8 = .ok (.ifCond .eq 13, 3) := by decide +kernel
theorem dX0_isGroom_11 : decode cX0_isGroom 11 = .ok (.iload_n 1, 1) := by decide +kernel
theorem dX0_isGroom_12 : decode cX0_isGroom 12 = .ok (.bipush 8, 2) := by decide +kernel
theorem dX0_isGroom_14 : decode cX0_isGroom 14 = .ok (.if_icmp .ge 7, 3) := by decide +kernel
theorem dX0_isGroom_17 : decode cX0_isGroom 17 = .ok (.iconst 1, 1) := by decide +kernel
theorem dX0_isGroom_18 : decode cX0_isGroom 18 = .ok (.goto 4, 3) := by decide +kernel
theorem dX0_isGroom_21 : decode cX0_isGroom 21 = .ok (.iconst 0, 1) := by decide +kernel
theorem dX0_isGroom_22 : decode cX0_isGroom 22 = .ok (.ireturn, 1) := by decide +kernel
theorem dX0_areThree_0 : decode cX0_areThree 0 = .ok (.aload_n 0, 1) := by decide +kernel
theorem dX0_areThree_1 : decode cX0_areThree 1 = .ok (.iload_n 1, 1) := by decide +kernel
theorem dX0_areThree_2 : decode cX0_areThree 2 = .ok (.invokevirtual 107, 3) := by decide +kernel
theorem dX0_areThree_5 : decode cX0_areThree 5 = .ok (.ifCond .eq 38, 3) := by decide +kernel
theorem dX0_areThree_8 : decode cX0_areThree 8 = .ok (.aload_n 0, 1) := by decide +kernel
theorem dX0_areThree_9 : decode cX0_areThree 9 = .ok (.iload_n 2, 1) := by decide +kernel
theorem dX0_areThree_10 : decode cX0_areThree 10 = .ok (.invokevirtual 107, 3) := by decide +kernel
theorem dX0_areThree_13 : decode cX0_areThree 13 = .ok (.ifCond .eq 30, 3) := by decide +kernel
theorem dX0_areThree_16 : decode cX0_areThree 16 = .ok (.aload_n 0, 1) := by decide +kernel
theorem dX0_areThree_17 : decode cX0_areThree 17 = .ok (.iload_n 3, 1) := by decide +kernel
theorem dX0_areThree_18 : decode cX0_areThree 18 = .ok (.invokevirtual 107, 3) := by decide +kernel
theorem dX0_areThree_21 : decode cX0_areThree 21 = .ok (.ifCond .eq 22, 3) := by decide +kernel
theorem dX0_areThree_24 : decode cX0_areThree 24 = .ok (.iload_n 1, 1) := by decide +kernel
theorem dX0_areThree_25 : decode cX0_areThree 25 = .ok (.iload_n 2, 1) := by decide +kernel
theorem dX0_areThree_26 : decode cX0_areThree 26 = .ok (.if_icmp .eq 17, 3) := by decide +kernel
theorem dX0_areThree_29 : decode cX0_areThree 29 = .ok (.iload_n 2, 1) := by decide +kernel
theorem dX0_areThree_30 : decode cX0_areThree 30 = .ok (.iload_n 3, 1) := by decide +kernel
theorem dX0_areThree_31 : decode cX0_areThree 31 = .ok (.if_icmp .eq 12, 3) := by decide +kernel
theorem dX0_areThree_34 : decode cX0_areThree 34 = .ok (.iload_n 1, 1) := by decide +kernel
theorem dX0_areThree_35 : decode cX0_areThree 35 = .ok (.iload_n 3, 1) := by decide +kernel
theorem dX0_areThree_36 : decode cX0_areThree 36 = .ok (.if_icmp .eq 7, 3) := by decide +kernel
theorem dX0_areThree_39 : decode cX0_areThree 39 = .ok (.iconst 1, 1) := by decide +kernel
theorem dX0_areThree_40 : decode cX0_areThree 40 = .ok (.goto 4, 3) := by decide +kernel
theorem dX0_areThree_43 : decode cX0_areThree 43 = .ok (.iconst 0, 1) := by decide +kernel
theorem dX0_areThree_44 : decode cX0_areThree 44 = .ok (.ireturn, 1) := by decide +kernel
theorem dX0_addWoman_0 : decode cX0_addWoman 0 = .ok (.aload_n 0, 1) := by decide +kernel
theorem dX0_addWoman_1 : decode cX0_addWoman 1 = .ok (.getfield 90, 3) := by decide +kernel
theorem dX0_addWoman_4 : decode cX0_addWoman 4 = .ok (.bipush 12, 2) := by decide +kernel
theorem dX0_addWoman_6 : decode cX0_addWoman 6 = .ok (.if_icmp .lt 5, 3) := by decide +kernel
theorem dX0_addWoman_9 : decode cX0_addWoman 9 = .ok (.iconst (-1), 1) := by decide +kernel
theorem dX0_addWoman_10 : decode cX0_addWoman 10 = .ok (.ireturn, 1) := by decide +kernel
theorem dX0_addWoman_11 : decode cX0_addWoman 11 = .ok (.aload_n 0, 1) := by decide +kernel
theorem dX0_addWoman_12 : decode cX0_addWoman 12 = .ok (.getfield 18, 3) := by decide +kernel
theorem dX0_addWoman_15 : decode cX0_addWoman 15 = .ok (.aload_n 0, 1) := by decide +kernel
theorem dX0_addWoman_16 : decode cX0_addWoman 16 = .ok (.getfield 90, 3) := by decide +kernel
theorem dX0_addWoman_19 : decode cX0_addWoman 19 = .ok (.iload_n 1, 1) := by decide +kernel
theorem dX0_addWoman_20 : decode cX0_addWoman 20 = .ok (.iastore, 1) := by decide +kernel
theorem dX0_addWoman_21 : decode cX0_addWoman 21 = .ok (.aload_n 0, 1) := by decide +kernel
theorem dX0_addWoman_22 : decode cX0_addWoman 22 = .ok (.getfield 22, 3) := by decide +kernel
theorem dX0_addWoman_25 : decode cX0_addWoman 25 = .ok (.aload_n 0, 1) := by decide +kernel
theorem dX0_addWoman_26 : decode cX0_addWoman 26 = .ok (.getfield 90, 3) := by decide +kernel
theorem dX0_addWoman_29 : decode cX0_addWoman 29 = .ok (.iload_n 2, 1) := by decide +kernel
theorem dX0_addWoman_30 : decode cX0_addWoman 30 = .ok (.iastore, 1) := by decide +kernel
theorem dX0_addWoman_31 : decode cX0_addWoman 31 = .ok (.aload_n 0, 1) := by decide +kernel
theorem dX0_addWoman_32 : decode cX0_addWoman 32 = .ok (.getfield 25, 3) := by decide +kernel
theorem dX0_addWoman_35 : decode cX0_addWoman 35 = .ok (.aload_n 0, 1) := by decide +kernel
theorem dX0_addWoman_36 : decode cX0_addWoman 36 = .ok (.getfield 90, 3) := by decide +kernel
theorem dX0_addWoman_39 : decode cX0_addWoman 39 = .ok (.iload_n 3, 1) := by decide +kernel
theorem dX0_addWoman_40 : decode cX0_addWoman 40 = .ok (.iastore, 1) := by decide +kernel
theorem dX0_addWoman_41 : decode cX0_addWoman 41 = .ok (.aload_n 0, 1) := by decide +kernel
theorem dX0_addWoman_42 : decode cX0_addWoman 42 = .ok (.dup, 1) := by decide +kernel
theorem dX0_addWoman_43 : decode cX0_addWoman 43 = .ok (.getfield 90, 3) := by decide +kernel
theorem dX0_addWoman_46 : decode cX0_addWoman 46 = .ok (.iconst 1, 1) := by decide +kernel
theorem dX0_addWoman_47 : decode cX0_addWoman 47 = .ok (.iadd, 1) := by decide +kernel
theorem dX0_addWoman_48 : decode cX0_addWoman 48 = .ok (.putfield 90, 3) := by decide +kernel
theorem dX0_addWoman_51 : decode cX0_addWoman 51 = .ok (.aload_n 0, 1) := by decide +kernel
theorem dX0_addWoman_52 : decode cX0_addWoman 52 = .ok (.getfield 90, 3) := by decide +kernel
theorem dX0_addWoman_55 : decode cX0_addWoman 55 = .ok (.iconst 1, 1) := by decide +kernel
theorem dX0_addWoman_56 : decode cX0_addWoman 56 = .ok (.isub, 1) := by decide +kernel
theorem dX0_addWoman_57 : decode cX0_addWoman 57 = .ok (.ireturn, 1) := by decide +kernel
theorem dX0_addGroom_0 : decode cX0_addGroom 0 = .ok (.aload_n 0, 1) := by decide +kernel
theorem dX0_addGroom_1 : decode cX0_addGroom 1 = .ok (.getfield 94, 3) := by decide +kernel
theorem dX0_addGroom_4 : decode cX0_addGroom 4 = .ok (.bipush 8, 2) := by decide +kernel
theorem dX0_addGroom_6 : decode cX0_addGroom 6 = .ok (.if_icmp .lt 5, 3) := by decide +kernel
theorem dX0_addGroom_9 : decode cX0_addGroom 9 = .ok (.iconst (-1), 1) := by decide +kernel
theorem dX0_addGroom_10 : decode cX0_addGroom 10 = .ok (.ireturn, 1) := by decide +kernel
theorem dX0_addGroom_11 : decode cX0_addGroom 11 = .ok (.aload_n 0, 1) := by decide +kernel
theorem dX0_addGroom_12 : decode cX0_addGroom 12 = .ok (.getfield 28, 3) := by decide +kernel
theorem dX0_addGroom_15 : decode cX0_addGroom 15 = .ok (.aload_n 0, 1) := by decide +kernel
theorem dX0_addGroom_16 : decode cX0_addGroom 16 = .ok (.getfield 94, 3) := by decide +kernel
theorem dX0_addGroom_19 : decode cX0_addGroom 19 = .ok (.iload_n 1, 1) := by decide +kernel
theorem dX0_addGroom_20 : decode cX0_addGroom 20 = .ok (.iastore, 1) := by decide +kernel
theorem dX0_addGroom_21 : decode cX0_addGroom 21 = .ok (.aload_n 0, 1) := by decide +kernel
theorem dX0_addGroom_22 : decode cX0_addGroom 22 = .ok (.getfield 31, 3) := by decide +kernel
theorem dX0_addGroom_25 : decode cX0_addGroom 25 = .ok (.aload_n 0, 1) := by decide +kernel
theorem dX0_addGroom_26 : decode cX0_addGroom 26 = .ok (.getfield 94, 3) := by decide +kernel
theorem dX0_addGroom_29 : decode cX0_addGroom 29 = .ok (.iload_n 2, 1) := by decide +kernel
theorem dX0_addGroom_30 : decode cX0_addGroom 30 = .ok (.iastore, 1) := by decide +kernel
theorem dX0_addGroom_31 : decode cX0_addGroom 31 = .ok (.aload_n 0, 1) := by decide +kernel
theorem dX0_addGroom_32 : decode cX0_addGroom 32 = .ok (.dup, 1) := by decide +kernel
theorem dX0_addGroom_33 : decode cX0_addGroom 33 = .ok (.getfield 94, 3) := by decide +kernel
theorem dX0_addGroom_36 : decode cX0_addGroom 36 = .ok (.iconst 1, 1) := by decide +kernel
theorem dX0_addGroom_37 : decode cX0_addGroom 37 = .ok (.iadd, 1) := by decide +kernel
theorem dX0_addGroom_38 : decode cX0_addGroom 38 = .ok (.putfield 94, 3) := by decide +kernel
theorem dX0_addGroom_41 : decode cX0_addGroom 41 = .ok (.aload_n 0, 1) := by decide +kernel
theorem dX0_addGroom_42 : decode cX0_addGroom 42 = .ok (.getfield 94, 3) := by decide +kernel
theorem dX0_addGroom_45 : decode cX0_addGroom 45 = .ok (.iconst 1, 1) := by decide +kernel
theorem dX0_addGroom_46 : decode cX0_addGroom 46 = .ok (.isub, 1) := by decide +kernel
theorem dX0_addGroom_47 : decode cX0_addGroom 47 = .ok (.ireturn, 1) := by decide +kernel
theorem dX0_change_0 : decode cX0_change 0 = .ok (.iload_n 1, 1) := by decide +kernel
theorem dX0_change_1 : decode cX0_change 1 = .ok (.tableswitch 145 0 5 #[39, 39, 39, 64, 89, 115], 39) := by decide +kernel
theorem dX0_change_40 : decode cX0_change 40 = .ok (.aload_n 0, 1) := by decide +kernel
theorem dX0_change_41 : decode cX0_change 41 = .ok (.iload_n 2, 1) := by decide +kernel
theorem dX0_change_42 : decode cX0_change 42 = .ok (.invokevirtual 107, 3) := by decide +kernel
theorem dX0_change_45 : decode cX0_change 45 = .ok (.ifCond .eq 14, 3) := by decide +kernel
theorem dX0_change_48 : decode cX0_change 48 = .ok (.iload_n 3, 1) := by decide +kernel
theorem dX0_change_49 : decode cX0_change 49 = .ok (.invokestatic 111, 3) := by decide +kernel
theorem dX0_change_52 : decode cX0_change 52 = .ok (.ifCond .eq 7, 3) := by decide +kernel
theorem dX0_change_55 : decode cX0_change 55 = .ok (.iconst 1, 1) := by decide +kernel
theorem dX0_change_56 : decode cX0_change 56 = .ok (.goto 4, 3) := by decide +kernel
theorem dX0_change_59 : decode cX0_change 59 = .ok (.iconst 0, 1) := by decide +kernel
theorem dX0_change_60 : decode cX0_change 60 = .ok (.istore 4, 2) := by decide +kernel
theorem dX0_change_62 : decode cX0_change 62 = .ok (.goto 87, 3) := by decide +kernel
theorem dX0_change_65 : decode cX0_change 65 = .ok (.aload_n 0, 1) := by decide +kernel
theorem dX0_change_66 : decode cX0_change 66 = .ok (.iload_n 2, 1) := by decide +kernel
theorem dX0_change_67 : decode cX0_change 67 = .ok (.invokevirtual 114, 3) := by decide +kernel
theorem dX0_change_70 : decode cX0_change 70 = .ok (.ifCond .eq 14, 3) := by decide +kernel
theorem dX0_change_73 : decode cX0_change 73 = .ok (.iload_n 3, 1) := by decide +kernel
theorem dX0_change_74 : decode cX0_change 74 = .ok (.invokestatic 111, 3) := by decide +kernel
theorem dX0_change_77 : decode cX0_change 77 = .ok (.ifCond .eq 7, 3) := by decide +kernel
theorem dX0_change_80 : decode cX0_change 80 = .ok (.iconst 1, 1) := by decide +kernel
theorem dX0_change_81 : decode cX0_change 81 = .ok (.goto 4, 3) := by decide +kernel
theorem dX0_change_84 : decode cX0_change 84 = .ok (.iconst 0, 1) := by decide +kernel
theorem dX0_change_85 : decode cX0_change 85 = .ok (.istore 4, 2) := by decide +kernel
theorem dX0_change_87 : decode cX0_change 87 = .ok (.goto 62, 3) := by decide +kernel
theorem dX0_change_90 : decode cX0_change 90 = .ok (.aload_n 0, 1) := by decide +kernel
theorem dX0_change_91 : decode cX0_change 91 = .ok (.iload_n 2, 1) := by decide +kernel
theorem dX0_change_92 : decode cX0_change 92 = .ok (.invokevirtual 114, 3) := by decide +kernel
theorem dX0_change_95 : decode cX0_change 95 = .ok (.ifCond .eq 15, 3) := by decide +kernel
theorem dX0_change_98 : decode cX0_change 98 = .ok (.aload_n 0, 1) := by decide +kernel
theorem dX0_change_99 : decode cX0_change 99 = .ok (.iload_n 3, 1) := by decide +kernel
theorem dX0_change_100 : decode cX0_change 100 = .ok (.invokevirtual 107, 3) := by decide +kernel
theorem dX0_change_103 : decode cX0_change 103 = .ok (.ifCond .eq 7, 3) := by decide +kernel
theorem dX0_change_106 : decode cX0_change 106 = .ok (.iconst 1, 1) := by decide +kernel
theorem dX0_change_107 : decode cX0_change 107 = .ok (.goto 4, 3) := by decide +kernel
theorem dX0_change_110 : decode cX0_change 110 = .ok (.iconst 0, 1) := by decide +kernel
theorem dX0_change_111 : decode cX0_change 111 = .ok (.istore 4, 2) := by decide +kernel
theorem dX0_change_113 : decode cX0_change 113 = .ok (.goto 36, 3) := by decide +kernel
theorem dX0_change_116 : decode cX0_change 116 = .ok (.aload_n 0, 1) := by decide +kernel
theorem dX0_change_117 : decode cX0_change 117 = .ok (.iload_n 2, 1) := by decide +kernel
theorem dX0_change_118 : decode cX0_change 118 = .ok (.invokevirtual 114, 3) := by decide +kernel
theorem dX0_change_121 : decode cX0_change 121 = .ok (.ifCond .eq 19, 3) := by decide +kernel
theorem dX0_change_124 : decode cX0_change 124 = .ok (.iload_n 3, 1) := by decide +kernel
theorem dX0_change_125 : decode cX0_change 125 = .ok (.bipush (-99), 2) := by decide +kernel
theorem dX0_change_127 : decode cX0_change 127 = .ok (.if_icmp .lt 13, 3) := by decide +kernel
theorem dX0_change_130 : decode cX0_change 130 = .ok (.iload_n 3, 1) := by decide +kernel
theorem dX0_change_131 : decode cX0_change 131 = .ok (.bipush 99, 2) := by decide +kernel
theorem dX0_change_133 : decode cX0_change 133 = .ok (.if_icmp .gt 7, 3) := by decide +kernel
theorem dX0_change_136 : decode cX0_change 136 = .ok (.iconst 1, 1) := by decide +kernel
theorem dX0_change_137 : decode cX0_change 137 = .ok (.goto 4, 3) := by decide +kernel
theorem dX0_change_140 : decode cX0_change 140 = .ok (.iconst 0, 1) := by decide +kernel
theorem dX0_change_141 : decode cX0_change 141 = .ok (.istore 4, 2) := by decide +kernel
theorem dX0_change_143 : decode cX0_change 143 = .ok (.goto 6, 3) := by decide +kernel
theorem dX0_change_146 : decode cX0_change 146 = .ok (.iconst 0, 1) := by decide +kernel
theorem dX0_change_147 : decode cX0_change 147 = .ok (.istore 4, 2) := by decide +kernel
theorem dX0_change_149 : decode cX0_change 149 = .ok (.iload 4, 2) := by decide +kernel
theorem dX0_change_151 : decode cX0_change 151 = .ok (.ifCond .ne 5, 3) := by decide +kernel
theorem dX0_change_154 : decode cX0_change 154 = .ok (.iconst 0, 1) := by decide +kernel
theorem dX0_change_155 : decode cX0_change 155 = .ok (.ireturn, 1) := by decide +kernel
theorem dX0_change_156 : decode cX0_change 156 = .ok (.iload_n 1, 1) := by decide +kernel
theorem dX0_change_157 : decode cX0_change 157 = .ok (.tableswitch 85 0 4 #[35, 45, 55, 65, 75], 35) := by decide +kernel
theorem dX0_change_192 : decode cX0_change 192 = .ok (.aload_n 0, 1) := by decide +kernel
theorem dX0_change_193 : decode cX0_change 193 = .ok (.getfield 18, 3) := by decide +kernel
theorem dX0_change_196 : decode cX0_change 196 = .ok (.iload_n 2, 1) := by decide +kernel
theorem dX0_change_197 : decode cX0_change 197 = .ok (.iload_n 3, 1) := by decide +kernel
theorem dX0_change_198 : decode cX0_change 198 = .ok (.iastore, 1) := by decide +kernel
theorem dX0_change_199 : decode cX0_change 199 = .ok (.goto 53, 3) := by decide +kernel
theorem dX0_change_202 : decode cX0_change 202 = .ok (.aload_n 0, 1) := by decide +kernel
theorem dX0_change_203 : decode cX0_change 203 = .ok (.getfield 22, 3) := by decide +kernel
theorem dX0_change_206 : decode cX0_change 206 = .ok (.iload_n 2, 1) := by decide +kernel
theorem dX0_change_207 : decode cX0_change 207 = .ok (.iload_n 3, 1) := by decide +kernel
theorem dX0_change_208 : decode cX0_change 208 = .ok (.iastore, 1) := by decide +kernel
theorem dX0_change_209 : decode cX0_change 209 = .ok (.goto 43, 3) := by decide +kernel
theorem dX0_change_212 : decode cX0_change 212 = .ok (.aload_n 0, 1) := by decide +kernel
theorem dX0_change_213 : decode cX0_change 213 = .ok (.getfield 25, 3) := by decide +kernel
theorem dX0_change_216 : decode cX0_change 216 = .ok (.iload_n 2, 1) := by decide +kernel
theorem dX0_change_217 : decode cX0_change 217 = .ok (.iload_n 3, 1) := by decide +kernel
theorem dX0_change_218 : decode cX0_change 218 = .ok (.iastore, 1) := by decide +kernel
theorem dX0_change_219 : decode cX0_change 219 = .ok (.goto 33, 3) := by decide +kernel
theorem dX0_change_222 : decode cX0_change 222 = .ok (.aload_n 0, 1) := by decide +kernel
theorem dX0_change_223 : decode cX0_change 223 = .ok (.getfield 28, 3) := by decide +kernel
theorem dX0_change_226 : decode cX0_change 226 = .ok (.iload_n 2, 1) := by decide +kernel
theorem dX0_change_227 : decode cX0_change 227 = .ok (.iload_n 3, 1) := by decide +kernel
theorem dX0_change_228 : decode cX0_change 228 = .ok (.iastore, 1) := by decide +kernel
theorem dX0_change_229 : decode cX0_change 229 = .ok (.goto 23, 3) := by decide +kernel
theorem dX0_change_232 : decode cX0_change 232 = .ok (.aload_n 0, 1) := by decide +kernel
theorem dX0_change_233 : decode cX0_change 233 = .ok (.getfield 31, 3) := by decide +kernel
theorem dX0_change_236 : decode cX0_change 236 = .ok (.iload_n 2, 1) := by decide +kernel
theorem dX0_change_237 : decode cX0_change 237 = .ok (.iload_n 3, 1) := by decide +kernel
theorem dX0_change_238 : decode cX0_change 238 = .ok (.iastore, 1) := by decide +kernel
theorem dX0_change_239 : decode cX0_change 239 = .ok (.goto 13, 3) := by decide +kernel
theorem dX0_change_242 : decode cX0_change 242 = .ok (.aload_n 0, 1) := by decide +kernel
theorem dX0_change_243 : decode cX0_change 243 = .ok (.getfield 12, 3) := by decide +kernel
theorem dX0_change_246 : decode cX0_change 246 = .ok (.getfield 117, 3) := by decide +kernel
theorem dX0_change_249 : decode cX0_change 249 = .ok (.iload_n 2, 1) := by decide +kernel
theorem dX0_change_250 : decode cX0_change 250 = .ok (.iload_n 3, 1) := by decide +kernel
theorem dX0_change_251 : decode cX0_change 251 = .ok (.iastore, 1) := by decide +kernel
theorem dX0_change_252 : decode cX0_change 252 = .ok (.iconst 1, 1) := by decide +kernel
theorem dX0_change_253 : decode cX0_change 253 = .ok (.ireturn, 1) := by decide +kernel
theorem dX0_allWomen_0 : decode cX0_allWomen 0 = .ok (.iconst 1, 1) := by decide +kernel
theorem dX0_allWomen_1 : decode cX0_allWomen 1 = .ok (.aload_n 0, 1) := by decide +kernel
theorem dX0_allWomen_2 : decode cX0_allWomen 2 = .ok (.getfield 90, 3) := by decide +kernel
theorem dX0_allWomen_5 : decode cX0_allWomen 5 = .ok (.ishl, 1) := by decide +kernel
theorem dX0_allWomen_6 : decode cX0_allWomen 6 = .ok (.iconst 1, 1) := by decide +kernel
theorem dX0_allWomen_7 : decode cX0_allWomen 7 = .ok (.isub, 1) := by decide +kernel
theorem dX0_allWomen_8 : decode cX0_allWomen 8 = .ok (.ireturn, 1) := by decide +kernel
theorem dX0_freeWomen_0 : decode cX0_freeWomen 0 = .ok (.iconst 0, 1) := by decide +kernel
theorem dX0_freeWomen_1 : decode cX0_freeWomen 1 = .ok (.istore_n 1, 1) := by decide +kernel
theorem dX0_freeWomen_2 : decode cX0_freeWomen 2 = .ok (.iconst 0, 1) := by decide +kernel
theorem dX0_freeWomen_3 : decode cX0_freeWomen 3 = .ok (.istore_n 2, 1) := by decide +kernel
theorem dX0_freeWomen_4 : decode cX0_freeWomen 4 = .ok (.iload_n 2, 1) := by decide +kernel
theorem dX0_freeWomen_5 : decode cX0_freeWomen 5 = .ok (.aload_n 0, 1) := by decide +kernel
theorem dX0_freeWomen_6 : decode cX0_freeWomen 6 = .ok (.getfield 90, 3) := by decide +kernel
theorem dX0_freeWomen_9 : decode cX0_freeWomen 9 = .ok (.if_icmp .ge 34, 3) := by decide +kernel
theorem dX0_freeWomen_12 : decode cX0_freeWomen 12 = .ok (.iload_n 2, 1) := by decide +kernel
theorem dX0_freeWomen_13 : decode cX0_freeWomen 13 = .ok (.bipush 12, 2) := by decide +kernel
theorem dX0_freeWomen_15 : decode cX0_freeWomen 15 = .ok (.if_icmp .ge 28, 3) := by decide +kernel
theorem dX0_freeWomen_18 : decode cX0_freeWomen 18 = .ok (.aload_n 0, 1) := by decide +kernel
theorem dX0_freeWomen_19 : decode cX0_freeWomen 19 = .ok (.getfield 12, 3) := by decide +kernel
theorem dX0_freeWomen_22 : decode cX0_freeWomen 22 = .ok (.getfield 120, 3) := by decide +kernel
theorem dX0_freeWomen_25 : decode cX0_freeWomen 25 = .ok (.iload_n 2, 1) := by decide +kernel
theorem dX0_freeWomen_26 : decode cX0_freeWomen 26 = .ok (.iaload, 1) := by decide +kernel
theorem dX0_freeWomen_27 : decode cX0_freeWomen 27 = .ok (.iconst (-1), 1) := by decide +kernel
theorem dX0_freeWomen_28 : decode cX0_freeWomen 28 = .ok (.if_icmp .ne 9, 3) := by decide +kernel
theorem dX0_freeWomen_31 : decode cX0_freeWomen 31 = .ok (.iload_n 1, 1) := by decide +kernel
theorem dX0_freeWomen_32 : decode cX0_freeWomen 32 = .ok (.iconst 1, 1) := by decide +kernel
theorem dX0_freeWomen_33 : decode cX0_freeWomen 33 = .ok (.iload_n 2, 1) := by decide +kernel
theorem dX0_freeWomen_34 : decode cX0_freeWomen 34 = .ok (.ishl, 1) := by decide +kernel
theorem dX0_freeWomen_35 : decode cX0_freeWomen 35 = .ok (.ior, 1) := by decide +kernel
theorem dX0_freeWomen_36 : decode cX0_freeWomen 36 = .ok (.istore_n 1, 1) := by decide +kernel
theorem dX0_freeWomen_37 : decode cX0_freeWomen 37 = .ok (.iinc 2 1, 3) := by decide +kernel
theorem dX0_freeWomen_40 : decode cX0_freeWomen 40 = .ok (.goto (-36), 3) := by decide +kernel
theorem dX0_freeWomen_43 : decode cX0_freeWomen 43 = .ok (.iload_n 1, 1) := by decide +kernel
theorem dX0_freeWomen_44 : decode cX0_freeWomen 44 = .ok (.ireturn, 1) := by decide +kernel
theorem dX0_sistersOf_0 : decode cX0_sistersOf 0 = .ok (.iconst 0, 1) := by decide +kernel
theorem dX0_sistersOf_1 : decode cX0_sistersOf 1 = .ok (.istore_n 2, 1) := by decide +kernel
theorem dX0_sistersOf_2 : decode cX0_sistersOf 2 = .ok (.iconst 0, 1) := by decide +kernel
theorem dX0_sistersOf_3 : decode cX0_sistersOf 3 = .ok (.istore_n 3, 1) := by decide +kernel
theorem dX0_sistersOf_4 : decode cX0_sistersOf 4 = .ok (.iload_n 3, 1) := by decide +kernel
theorem dX0_sistersOf_5 : decode cX0_sistersOf 5 = .ok (.aload_n 0, 1) := by decide +kernel
theorem dX0_sistersOf_6 : decode cX0_sistersOf 6 = .ok (.getfield 53, 3) := by decide +kernel
theorem dX0_sistersOf_9 : decode cX0_sistersOf 9 = .ok (.getfield 123, 3) := by decide +kernel
theorem dX0_sistersOf_12 : decode cX0_sistersOf 12 = .ok (.if_icmp .ge 63, 3) := by decide +kernel
theorem dX0_sistersOf_15 : decode cX0_sistersOf 15 = .ok (.aload_n 0, 1) := by decide +kernel
theorem dX0_sistersOf_16 : decode cX0_sistersOf 16 = .ok (.getfield 53, 3) := by decide +kernel
theorem dX0_sistersOf_19 : decode cX0_sistersOf 19 = .ok (.iload_n 3, 1) := by decide +kernel
theorem dX0_sistersOf_20 : decode cX0_sistersOf 20 = .ok (.iconst 0, 1) := by decide +kernel
theorem dX0_sistersOf_21 : decode cX0_sistersOf 21 = .ok (.invokevirtual 126, 3) := by decide +kernel
theorem dX0_sistersOf_24 : decode cX0_sistersOf 24 = .ok (.istore 4, 2) := by decide +kernel
theorem dX0_sistersOf_26 : decode cX0_sistersOf 26 = .ok (.aload_n 0, 1) := by decide +kernel
theorem dX0_sistersOf_27 : decode cX0_sistersOf 27 = .ok (.getfield 53, 3) := by decide +kernel
theorem dX0_sistersOf_30 : decode cX0_sistersOf 30 = .ok (.iload_n 3, 1) := by decide +kernel
theorem dX0_sistersOf_31 : decode cX0_sistersOf 31 = .ok (.iconst 1, 1) := by decide +kernel
theorem dX0_sistersOf_32 : decode cX0_sistersOf 32 = .ok (.invokevirtual 126, 3) := by decide +kernel
theorem dX0_sistersOf_35 : decode cX0_sistersOf 35 = .ok (.istore 5, 2) := by decide +kernel
theorem dX0_sistersOf_37 : decode cX0_sistersOf 37 = .ok (.iload_n 1, 1) := by decide +kernel
theorem dX0_sistersOf_38 : decode cX0_sistersOf 38 = .ok (.iload 4, 2) := by decide +kernel
theorem dX0_sistersOf_40 : decode cX0_sistersOf 40 = .ok (.invokestatic 130, 3) := by decide +kernel
theorem dX0_sistersOf_43 : decode cX0_sistersOf 43 = .ok (.ifCond .eq 10, 3) := by decide +kernel
theorem dX0_sistersOf_46 : decode cX0_sistersOf 46 = .ok (.iload_n 2, 1) := by decide +kernel
theorem dX0_sistersOf_47 : decode cX0_sistersOf 47 = .ok (.iconst 1, 1) := by decide +kernel
theorem dX0_sistersOf_48 : decode cX0_sistersOf 48 = .ok (.iload 5, 2) := by decide +kernel
theorem dX0_sistersOf_50 : decode cX0_sistersOf 50 = .ok (.ishl, 1) := by decide +kernel
theorem dX0_sistersOf_51 : decode cX0_sistersOf 51 = .ok (.ior, 1) := by decide +kernel
theorem dX0_sistersOf_52 : decode cX0_sistersOf 52 = .ok (.istore_n 2, 1) := by decide +kernel
theorem dX0_sistersOf_53 : decode cX0_sistersOf 53 = .ok (.iload_n 1, 1) := by decide +kernel
theorem dX0_sistersOf_54 : decode cX0_sistersOf 54 = .ok (.iload 5, 2) := by decide +kernel
theorem dX0_sistersOf_56 : decode cX0_sistersOf 56 = .ok (.invokestatic 130, 3) := by decide +kernel
theorem dX0_sistersOf_59 : decode cX0_sistersOf 59 = .ok (.ifCond .eq 10, 3) := by decide +kernel
theorem dX0_sistersOf_62 : decode cX0_sistersOf 62 = .ok (.iload_n 2, 1) := by decide +kernel
theorem dX0_sistersOf_63 : decode cX0_sistersOf 63 = .ok (.iconst 1, 1) := by decide +kernel
theorem dX0_sistersOf_64 : decode cX0_sistersOf 64 = .ok (.iload 4, 2) := by decide +kernel
theorem dX0_sistersOf_66 : decode cX0_sistersOf 66 = .ok (.ishl, 1) := by decide +kernel
theorem dX0_sistersOf_67 : decode cX0_sistersOf 67 = .ok (.ior, 1) := by decide +kernel
theorem dX0_sistersOf_68 : decode cX0_sistersOf 68 = .ok (.istore_n 2, 1) := by decide +kernel
theorem dX0_sistersOf_69 : decode cX0_sistersOf 69 = .ok (.iinc 3 1, 3) := by decide +kernel
theorem dX0_sistersOf_72 : decode cX0_sistersOf 72 = .ok (.goto (-68), 3) := by decide +kernel
theorem dX0_sistersOf_75 : decode cX0_sistersOf 75 = .ok (.iload_n 2, 1) := by decide +kernel
theorem dX0_sistersOf_76 : decode cX0_sistersOf 76 = .ok (.ireturn, 1) := by decide +kernel
theorem dX0_groupOf_0 : decode cX0_groupOf 0 = .ok (.iconst 1, 1) := by decide +kernel
theorem dX0_groupOf_1 : decode cX0_groupOf 1 = .ok (.iload_n 1, 1) := by decide +kernel
theorem dX0_groupOf_2 : decode cX0_groupOf 2 = .ok (.ishl, 1) := by decide +kernel
theorem dX0_groupOf_3 : decode cX0_groupOf 3 = .ok (.istore_n 2, 1) := by decide +kernel
theorem dX0_groupOf_4 : decode cX0_groupOf 4 = .ok (.iconst 1, 1) := by decide +kernel
theorem dX0_groupOf_5 : decode cX0_groupOf 5 = .ok (.istore_n 3, 1) := by decide +kernel
theorem dX0_groupOf_6 : decode cX0_groupOf 6 = .ok (.iload_n 3, 1) := by decide +kernel
theorem dX0_groupOf_7 : decode cX0_groupOf 7 = .ok (.bipush 12, 2) := by decide +kernel
theorem dX0_groupOf_9 : decode cX0_groupOf 9 = .ok (.if_icmp .ge 17, 3) := by decide +kernel
theorem dX0_groupOf_12 : decode cX0_groupOf 12 = .ok (.iload_n 2, 1) := by decide +kernel
theorem dX0_groupOf_13 : decode cX0_groupOf 13 = .ok (.aload_n 0, 1) := by decide +kernel
theorem dX0_groupOf_14 : decode cX0_groupOf 14 = .ok (.iload_n 2, 1) := by decide +kernel
theorem dX0_groupOf_15 : decode cX0_groupOf 15 = .ok (.invokevirtual 133, 3) := by decide +kernel
theorem dX0_groupOf_18 : decode cX0_groupOf 18 = .ok (.ior, 1) := by decide +kernel
theorem dX0_groupOf_19 : decode cX0_groupOf 19 = .ok (.istore_n 2, 1) := by decide +kernel
theorem dX0_groupOf_20 : decode cX0_groupOf 20 = .ok (.iinc 3 1, 3) := by decide +kernel
theorem dX0_groupOf_23 : decode cX0_groupOf 23 = .ok (.goto (-17), 3) := by decide +kernel
theorem dX0_groupOf_26 : decode cX0_groupOf 26 = .ok (.iload_n 2, 1) := by decide +kernel
theorem dX0_groupOf_27 : decode cX0_groupOf 27 = .ok (.ireturn, 1) := by decide +kernel
theorem dX1_init_0 : decode cX1_init 0 = .ok (.aload_n 0, 1) := by decide +kernel
theorem dX1_init_1 : decode cX1_init 1 = .ok (.invokespecial 3, 3) := by decide +kernel
theorem dX1_init_4 : decode cX1_init 4 = .ok (.aload_n 0, 1) := by decide +kernel
theorem dX1_init_5 : decode cX1_init 5 = .ok (.sipush 400, 3) := by decide +kernel
theorem dX1_init_8 : decode cX1_init 8 = .ok (.newarray .int, 2) := by decide +kernel
theorem dX1_init_10 : decode cX1_init 10 = .ok (.putfield 9, 3) := by decide +kernel
theorem dX1_init_13 : decode cX1_init 13 = .ok (.aload_n 0, 1) := by decide +kernel
theorem dX1_init_14 : decode cX1_init 14 = .ok (.bipush 16, 2) := by decide +kernel
theorem dX1_init_16 : decode cX1_init 16 = .ok (.newarray .int, 2) := by decide +kernel
theorem dX1_init_18 : decode cX1_init 18 = .ok (.putfield 15, 3) := by decide +kernel
theorem dX1_init_21 : decode cX1_init 21 = .ok (.aload_n 0, 1) := by decide +kernel
theorem dX1_init_22 : decode cX1_init 22 = .ok (.bipush 16, 2) := by decide +kernel
theorem dX1_init_24 : decode cX1_init 24 = .ok (.newarray .int, 2) := by decide +kernel
theorem dX1_init_26 : decode cX1_init 26 = .ok (.putfield 18, 3) := by decide +kernel
theorem dX1_init_29 : decode cX1_init 29 = .ok (.aload_n 0, 1) := by decide +kernel
theorem dX1_init_30 : decode cX1_init 30 = .ok (.bipush 16, 2) := by decide +kernel
theorem dX1_init_32 : decode cX1_init 32 = .ok (.newarray .int, 2) := by decide +kernel
theorem dX1_init_34 : decode cX1_init 34 = .ok (.putfield 21, 3) := by decide +kernel
theorem dX1_init_37 : decode cX1_init 37 = .ok (.aload_n 0, 1) := by decide +kernel
theorem dX1_init_38 : decode cX1_init 38 = .ok (.bipush 16, 2) := by decide +kernel
theorem dX1_init_40 : decode cX1_init 40 = .ok (.newarray .int, 2) := by decide +kernel
theorem dX1_init_42 : decode cX1_init 42 = .ok (.putfield 24, 3) := by decide +kernel
theorem dX1_init_45 : decode cX1_init 45 = .ok (.aload_n 0, 1) := by decide +kernel
theorem dX1_init_46 : decode cX1_init 46 = .ok (.bipush 40, 2) := by decide +kernel
theorem dX1_init_48 : decode cX1_init 48 = .ok (.newarray .int, 2) := by decide +kernel
theorem dX1_init_50 : decode cX1_init 50 = .ok (.putfield 27, 3) := by decide +kernel
theorem dX1_init_53 : decode cX1_init 53 = .ok (.return_, 1) := by decide +kernel
theorem dX1_clear_0 : decode cX1_clear 0 = .ok (.aload_n 0, 1) := by decide +kernel
theorem dX1_clear_1 : decode cX1_clear 1 = .ok (.iconst 0, 1) := by decide +kernel
theorem dX1_clear_2 : decode cX1_clear 2 = .ok (.putfield 30, 3) := by decide +kernel
theorem dX1_clear_5 : decode cX1_clear 5 = .ok (.aload_n 0, 1) := by decide +kernel
theorem dX1_clear_6 : decode cX1_clear 6 = .ok (.iconst 0, 1) := by decide +kernel
theorem dX1_clear_7 : decode cX1_clear 7 = .ok (.putfield 34, 3) := by decide +kernel
theorem dX1_clear_10 : decode cX1_clear 10 = .ok (.return_, 1) := by decide +kernel
theorem dX1_put_0 : decode cX1_put 0 = .ok (.aload_n 0, 1) := by decide +kernel
theorem dX1_put_1 : decode cX1_put 1 = .ok (.getfield 34, 3) := by decide +kernel
theorem dX1_put_4 : decode cX1_put 4 = .ok (.sipush 400, 3) := by decide +kernel
theorem dX1_put_7 : decode cX1_put 7 = .ok (.if_icmp .ge 23, 3) := by decide +kernel
theorem dX1_put_10 : decode cX1_put 10 = .ok (.aload_n 0, 1) := by decide +kernel
theorem dX1_put_11 : decode cX1_put 11 = .ok (.getfield 9, 3) := by decide +kernel
theorem dX1_put_14 : decode cX1_put 14 = .ok (.aload_n 0, 1) := by decide +kernel
theorem dX1_put_15 : decode cX1_put 15 = .ok (.getfield 34, 3) := by decide +kernel
theorem dX1_put_18 : decode cX1_put 18 = .ok (.iload_n 1, 1) := by decide +kernel
theorem dX1_put_19 : decode cX1_put 19 = .ok (.iastore, 1) := by decide +kernel
theorem dX1_put_20 : decode cX1_put 20 = .ok (.aload_n 0, 1) := by decide +kernel
theorem dX1_put_21 : decode cX1_put 21 = .ok (.dup, 1) := by decide +kernel
theorem dX1_put_22 : decode cX1_put 22 = .ok (.getfield 34, 3) := by decide +kernel
theorem dX1_put_25 : decode cX1_put 25 = .ok (.iconst 1, 1) := by decide +kernel
theorem dX1_put_26 : decode cX1_put 26 = .ok (.iadd, 1) := by decide +kernel
theorem dX1_put_27 : decode cX1_put 27 = .ok (.putfield 34, 3) := by decide +kernel
theorem dX1_put_30 : decode cX1_put 30 = .ok (.return_, 1) := by decide +kernel
theorem dX1_closeLine_0 : decode cX1_closeLine 0 = .ok (.aload_n 0, 1) := by decide +kernel
theorem dX1_closeLine_1 : decode cX1_closeLine 1 = .ok (.getfield 30, 3) := by decide +kernel
theorem dX1_closeLine_4 : decode cX1_closeLine 4 = .ok (.bipush 16, 2) := by decide +kernel
theorem dX1_closeLine_6 : decode cX1_closeLine 6 = .ok (.if_icmp .ge 56, 3) := by decide +kernel
theorem dX1_closeLine_9 : decode cX1_closeLine 9 = .ok (.aload_n 0, 1) := by decide +kernel
theorem dX1_closeLine_10 : decode cX1_closeLine 10 = .ok (.getfield 15, 3) := by decide +kernel
theorem dX1_closeLine_13 : decode cX1_closeLine 13 = .ok (.aload_n 0, 1) := by decide +kernel
theorem dX1_closeLine_14 : decode cX1_closeLine 14 = .ok (.getfield 30, 3) := by decide +kernel
theorem dX1_closeLine_17 : decode cX1_closeLine 17 = .ok (.iload_n 1, 1) := by decide +kernel
theorem dX1_closeLine_18 : decode cX1_closeLine 18 = .ok (.iastore, 1) := by decide +kernel
theorem dX1_closeLine_19 : decode cX1_closeLine 19 = .ok (.aload_n 0, 1) := by decide +kernel
theorem dX1_closeLine_20 : decode cX1_closeLine 20 = .ok (.getfield 18, 3) := by decide +kernel
theorem dX1_closeLine_23 : decode cX1_closeLine 23 = .ok (.aload_n 0, 1) := by decide +kernel
theorem dX1_closeLine_24 : decode cX1_closeLine 24 = .ok (.getfield 30, 3) := by decide +kernel
theorem dX1_closeLine_27 : decode cX1_closeLine 27 = .ok (.iload_n 2, 1) := by decide +kernel
theorem dX1_closeLine_28 : decode cX1_closeLine 28 = .ok (.iastore, 1) := by decide +kernel
theorem dX1_closeLine_29 : decode cX1_closeLine 29 = .ok (.aload_n 0, 1) := by decide +kernel
theorem dX1_closeLine_30 : decode cX1_closeLine 30 = .ok (.getfield 21, 3) := by decide +kernel
theorem dX1_closeLine_33 : decode cX1_closeLine 33 = .ok (.aload_n 0, 1) := by decide +kernel
theorem dX1_closeLine_34 : decode cX1_closeLine 34 = .ok (.getfield 30, 3) := by decide +kernel
theorem dX1_closeLine_37 : decode cX1_closeLine 37 = .ok (.iload_n 3, 1) := by decide +kernel
theorem dX1_closeLine_38 : decode cX1_closeLine 38 = .ok (.iastore, 1) := by decide +kernel
theorem dX1_closeLine_39 : decode cX1_closeLine 39 = .ok (.aload_n 0, 1) := by decide +kernel
theorem dX1_closeLine_40 : decode cX1_closeLine 40 = .ok (.getfield 24, 3) := by decide +kernel
theorem dX1_closeLine_43 : decode cX1_closeLine 43 = .ok (.aload_n 0, 1) := by decide +kernel
theorem dX1_closeLine_44 : decode cX1_closeLine 44 = .ok (.getfield 30, 3) := by decide +kernel
theorem dX1_closeLine_47 : decode cX1_closeLine 47 = .ok (.aload_n 0, 1) := by decide +kernel
theorem dX1_closeLine_48 : decode cX1_closeLine 48 = .ok (.getfield 34, 3) := by decide +kernel
theorem dX1_closeLine_51 : decode cX1_closeLine 51 = .ok (.iastore, 1) := by decide +kernel
theorem dX1_closeLine_52 : decode cX1_closeLine 52 = .ok (.aload_n 0, 1) := by decide +kernel
theorem dX1_closeLine_53 : decode cX1_closeLine 53 = .ok (.dup, 1) := by decide +kernel
theorem dX1_closeLine_54 : decode cX1_closeLine 54 = .ok (.getfield 30, 3) := by decide +kernel
theorem dX1_closeLine_57 : decode cX1_closeLine 57 = .ok (.iconst 1, 1) := by decide +kernel
theorem dX1_closeLine_58 : decode cX1_closeLine 58 = .ok (.iadd, 1) := by decide +kernel
theorem dX1_closeLine_59 : decode cX1_closeLine 59 = .ok (.putfield 30, 3) := by decide +kernel
theorem dX1_closeLine_62 : decode cX1_closeLine 62 = .ok (.return_, 1) := by decide +kernel
theorem dX1_copyFrom_0 : decode cX1_copyFrom 0 = .ok (.aload_n 1, 1) := by decide +kernel
theorem dX1_copyFrom_1 : decode cX1_copyFrom 1 = .ok (.getfield 9, 3) := by decide +kernel
theorem dX1_copyFrom_4 : decode cX1_copyFrom 4 = .ok (.iconst 0, 1) := by decide +kernel
theorem dX1_copyFrom_5 : decode cX1_copyFrom 5 = .ok (.aload_n 0, 1) := by decide +kernel
theorem dX1_copyFrom_6 : decode cX1_copyFrom 6 = .ok (.getfield 9, 3) := by decide +kernel
theorem dX1_copyFrom_9 : decode cX1_copyFrom 9 = .ok (.iconst 0, 1) := by decide +kernel
theorem dX1_copyFrom_10 : decode cX1_copyFrom 10 = .ok (.sipush 400, 3) := by decide +kernel
theorem dX1_copyFrom_13 : decode cX1_copyFrom 13 = .ok (.invokestatic 37, 3) := by decide +kernel
theorem dX1_copyFrom_16 : decode cX1_copyFrom 16 = .ok (.aload_n 1, 1) := by decide +kernel
theorem dX1_copyFrom_17 : decode cX1_copyFrom 17 = .ok (.getfield 15, 3) := by decide +kernel
theorem dX1_copyFrom_20 : decode cX1_copyFrom 20 = .ok (.iconst 0, 1) := by decide +kernel
theorem dX1_copyFrom_21 : decode cX1_copyFrom 21 = .ok (.aload_n 0, 1) := by decide +kernel
theorem dX1_copyFrom_22 : decode cX1_copyFrom 22 = .ok (.getfield 15, 3) := by decide +kernel
theorem dX1_copyFrom_25 : decode cX1_copyFrom 25 = .ok (.iconst 0, 1) := by decide +kernel
theorem dX1_copyFrom_26 : decode cX1_copyFrom 26 = .ok (.bipush 16, 2) := by decide +kernel
theorem dX1_copyFrom_28 : decode cX1_copyFrom 28 = .ok (.invokestatic 37, 3) := by decide +kernel
theorem dX1_copyFrom_31 : decode cX1_copyFrom 31 = .ok (.aload_n 1, 1) := by decide +kernel
theorem dX1_copyFrom_32 : decode cX1_copyFrom 32 = .ok (.getfield 18, 3) := by decide +kernel
theorem dX1_copyFrom_35 : decode cX1_copyFrom 35 = .ok (.iconst 0, 1) := by decide +kernel
theorem dX1_copyFrom_36 : decode cX1_copyFrom 36 = .ok (.aload_n 0, 1) := by decide +kernel
theorem dX1_copyFrom_37 : decode cX1_copyFrom 37 = .ok (.getfield 18, 3) := by decide +kernel
theorem dX1_copyFrom_40 : decode cX1_copyFrom 40 = .ok (.iconst 0, 1) := by decide +kernel
theorem dX1_copyFrom_41 : decode cX1_copyFrom 41 = .ok (.bipush 16, 2) := by decide +kernel
theorem dX1_copyFrom_43 : decode cX1_copyFrom 43 = .ok (.invokestatic 37, 3) := by decide +kernel
theorem dX1_copyFrom_46 : decode cX1_copyFrom 46 = .ok (.aload_n 1, 1) := by decide +kernel
theorem dX1_copyFrom_47 : decode cX1_copyFrom 47 = .ok (.getfield 21, 3) := by decide +kernel
theorem dX1_copyFrom_50 : decode cX1_copyFrom 50 = .ok (.iconst 0, 1) := by decide +kernel
theorem dX1_copyFrom_51 : decode cX1_copyFrom 51 = .ok (.aload_n 0, 1) := by decide +kernel
theorem dX1_copyFrom_52 : decode cX1_copyFrom 52 = .ok (.getfield 21, 3) := by decide +kernel
theorem dX1_copyFrom_55 : decode cX1_copyFrom 55 = .ok (.iconst 0, 1) := by decide +kernel
theorem dX1_copyFrom_56 : decode cX1_copyFrom 56 = .ok (.bipush 16, 2) := by decide +kernel
theorem dX1_copyFrom_58 : decode cX1_copyFrom 58 = .ok (.invokestatic 37, 3) := by decide +kernel
theorem dX1_copyFrom_61 : decode cX1_copyFrom 61 = .ok (.aload_n 1, 1) := by decide +kernel
theorem dX1_copyFrom_62 : decode cX1_copyFrom 62 = .ok (.getfield 24, 3) := by decide +kernel
theorem dX1_copyFrom_65 : decode cX1_copyFrom 65 = .ok (.iconst 0, 1) := by decide +kernel
theorem dX1_copyFrom_66 : decode cX1_copyFrom 66 = .ok (.aload_n 0, 1) := by decide +kernel
theorem dX1_copyFrom_67 : decode cX1_copyFrom 67 = .ok (.getfield 24, 3) := by decide +kernel
theorem dX1_copyFrom_70 : decode cX1_copyFrom 70 = .ok (.iconst 0, 1) := by decide +kernel
theorem dX1_copyFrom_71 : decode cX1_copyFrom 71 = .ok (.bipush 16, 2) := by decide +kernel
theorem dX1_copyFrom_73 : decode cX1_copyFrom 73 = .ok (.invokestatic 37, 3) := by decide +kernel
theorem dX1_copyFrom_76 : decode cX1_copyFrom 76 = .ok (.aload_n 0, 1) := by decide +kernel
theorem dX1_copyFrom_77 : decode cX1_copyFrom 77 = .ok (.aload_n 1, 1) := by decide +kernel
theorem dX1_copyFrom_78 : decode cX1_copyFrom 78 = .ok (.getfield 30, 3) := by decide +kernel
theorem dX1_copyFrom_81 : decode cX1_copyFrom 81 = .ok (.putfield 30, 3) := by decide +kernel
theorem dX1_copyFrom_84 : decode cX1_copyFrom 84 = .ok (.aload_n 0, 1) := by decide +kernel
theorem dX1_copyFrom_85 : decode cX1_copyFrom 85 = .ok (.aload_n 1, 1) := by decide +kernel
theorem dX1_copyFrom_86 : decode cX1_copyFrom 86 = .ok (.getfield 34, 3) := by decide +kernel
theorem dX1_copyFrom_89 : decode cX1_copyFrom 89 = .ok (.putfield 34, 3) := by decide +kernel
theorem dX1_copyFrom_92 : decode cX1_copyFrom 92 = .ok (.return_, 1) := by decide +kernel
theorem dX1_reckon_0 : decode cX1_reckon 0 = .ok (.iconst 0, 1) := by decide +kernel
theorem dX1_reckon_1 : decode cX1_reckon 1 = .ok (.istore 4, 2) := by decide +kernel
theorem dX1_reckon_3 : decode cX1_reckon 3 = .ok (.iload 4, 2) := by decide +kernel
theorem dX1_reckon_5 : decode cX1_reckon 5 = .ok (.aload_n 0, 1) := by decide +kernel
theorem dX1_reckon_6 : decode cX1_reckon 6 = .ok (.getfield 30, 3) := by decide +kernel
theorem dX1_reckon_9 : decode cX1_reckon 9 = .ok (.if_icmp .ge 86, 3) := by decide +kernel
theorem dX1_reckon_12 : decode cX1_reckon 12 = .ok (.iload 4, 2) := by decide +kernel
theorem dX1_reckon_14 : decode cX1_reckon 14 = .ok (.bipush 16, 2) := by decide +kernel
theorem dX1_reckon_16 : decode cX1_reckon 16 = .ok (.if_icmp .ge 79, 3) := by decide +kernel
theorem dX1_reckon_19 : decode cX1_reckon 19 = .ok (.aload_n 0, 1) := by decide +kernel
theorem dX1_reckon_20 : decode cX1_reckon 20 = .ok (.getfield 15, 3) := by decide +kernel
theorem dX1_reckon_23 : decode cX1_reckon 23 = .ok (.iload 4, 2) := by decide +kernel
theorem dX1_reckon_25 : decode cX1_reckon 25 = .ok (.iaload, 1) := by decide +kernel
theorem dX1_reckon_26 : decode cX1_reckon 26 = .ok (.iload_n 1, 1) := by decide +kernel
theorem dX1_reckon_27 : decode cX1_reckon 27 = .ok (.if_icmp .ne 62, 3) := by decide +kernel
theorem dX1_reckon_30 : decode cX1_reckon 30 = .ok (.aload_n 0, 1) := by decide +kernel
theorem dX1_reckon_31 : decode cX1_reckon 31 = .ok (.getfield 21, 3) := by decide +kernel
theorem dX1_reckon_34 : decode cX1_reckon 34 = .ok (.iload 4, 2) := by decide +kernel
theorem dX1_reckon_36 : decode cX1_reckon 36 = .ok (.iaload, 1) := by decide +kernel
theorem dX1_reckon_37 : decode cX1_reckon 37 = .ok (.aload_n 0, 1) := by decide +kernel
theorem dX1_reckon_38 : decode cX1_reckon 38 = .ok (.getfield 24, 3) := by decide +kernel
theorem dX1_reckon_41 : decode cX1_reckon 41 = .ok (.iload 4, 2) := by decide +kernel
theorem dX1_reckon_43 : decode cX1_reckon 43 = .ok (.iaload, 1) := by decide +kernel
theorem dX1_reckon_44 : decode cX1_reckon 44 = .ok (.if_icmp .eq 25, 3) := by decide +kernel
theorem dX1_reckon_47 : decode cX1_reckon 47 = .ok (.aload_n 0, 1) := by decide +kernel
theorem dX1_reckon_48 : decode cX1_reckon 48 = .ok (.aload_n 0, 1) := by decide +kernel
theorem dX1_reckon_49 : decode cX1_reckon 49 = .ok (.getfield 21, 3) := by decide +kernel
theorem dX1_reckon_52 : decode cX1_reckon 52 = .ok (.iload 4, 2) := by decide +kernel
theorem dX1_reckon_54 : decode cX1_reckon 54 = .ok (.iaload, 1) := by decide +kernel
theorem dX1_reckon_55 : decode cX1_reckon 55 = .ok (.aload_n 0, 1) := by decide +kernel
theorem dX1_reckon_56 : decode cX1_reckon 56 = .ok (.getfield 24, 3) := by decide +kernel
theorem dX1_reckon_59 : decode cX1_reckon 59 = .ok (.iload 4, 2) := by decide +kernel
theorem dX1_reckon_61 : decode cX1_reckon 61 = .ok (.iaload, 1) := by decide +kernel
theorem dX1_reckon_62 : decode cX1_reckon 62 = .ok (.aload_n 2, 1) := by decide +kernel
theorem dX1_reckon_63 : decode cX1_reckon 63 = .ok (.invokevirtual 43, 3) := by decide +kernel
theorem dX1_reckon_66 : decode cX1_reckon 66 = .ok (.ifCond .eq 23, 3) := by decide +kernel
theorem dX1_reckon_69 : decode cX1_reckon 69 = .ok (.aload_n 0, 1) := by decide +kernel
theorem dX1_reckon_70 : decode cX1_reckon 70 = .ok (.aload_n 0, 1) := by decide +kernel
theorem dX1_reckon_71 : decode cX1_reckon 71 = .ok (.getfield 18, 3) := by decide +kernel
theorem dX1_reckon_74 : decode cX1_reckon 74 = .ok (.iload 4, 2) := by decide +kernel
theorem dX1_reckon_76 : decode cX1_reckon 76 = .ok (.iaload, 1) := by decide +kernel
theorem dX1_reckon_77 : decode cX1_reckon 77 = .ok (.aload_n 0, 1) := by decide +kernel
theorem dX1_reckon_78 : decode cX1_reckon 78 = .ok (.getfield 21, 3) := by decide +kernel
theorem dX1_reckon_81 : decode cX1_reckon 81 = .ok (.iload 4, 2) := by decide +kernel
theorem dX1_reckon_83 : decode cX1_reckon 83 = .ok (.iaload, 1) := by decide +kernel
theorem dX1_reckon_84 : decode cX1_reckon 84 = .ok (.aload_n 2, 1) := by decide +kernel
theorem dX1_reckon_85 : decode cX1_reckon 85 = .ok (.invokevirtual 43, 3) := by decide +kernel
theorem dX1_reckon_88 : decode cX1_reckon 88 = .ok (.ireturn, 1) := by decide +kernel
theorem dX1_reckon_89 : decode cX1_reckon 89 = .ok (.iinc 4 1, 3) := by decide +kernel
theorem dX1_reckon_92 : decode cX1_reckon 92 = .ok (.goto (-89), 3) := by decide +kernel
theorem dX1_reckon_95 : decode cX1_reckon 95 = .ok (.iload_n 3, 1) := by decide +kernel
theorem dX1_reckon_96 : decode cX1_reckon 96 = .ok (.ireturn, 1) := by decide +kernel
theorem dX1_run_0 : decode cX1_run 0 = .ok (.iconst 0, 1) := by decide +kernel
theorem dX1_run_1 : decode cX1_run 1 = .ok (.istore 4, 2) := by decide +kernel
theorem dX1_run_3 : decode cX1_run 3 = .ok (.iconst 0, 1) := by decide +kernel
theorem dX1_run_4 : decode cX1_run 4 = .ok (.iload_n 1, 1) := by decide +kernel
theorem dX1_run_5 : decode cX1_run 5 = .ok (.invokestatic 47, 3) := by decide +kernel
theorem dX1_run_8 : decode cX1_run 8 = .ok (.istore 5, 2) := by decide +kernel
theorem dX1_run_10 : decode cX1_run 10 = .ok (.iload 5, 2) := by decide +kernel
theorem dX1_run_12 : decode cX1_run 12 = .ok (.iload_n 2, 1) := by decide +kernel
theorem dX1_run_13 : decode cX1_run 13 = .ok (.if_icmp .ge 180, 3) := by decide +kernel
theorem dX1_run_16 : decode cX1_run 16 = .ok (.iload 5, 2) := by decide +kernel
theorem dX1_run_18 : decode cX1_run 18 = .ok (.sipush 400, 3) := by decide +kernel
theorem dX1_run_21 : decode cX1_run 21 = .ok (.if_icmp .ge 172, 3) := by decide +kernel
theorem dX1_run_24 : decode cX1_run 24 = .ok (.aload_n 0, 1) := by decide +kernel
theorem dX1_run_25 : decode cX1_run 25 = .ok (.getfield 9, 3) := by decide +kernel
theorem dX1_run_28 : decode cX1_run 28 = .ok (.iload 5, 2) := by decide +kernel
theorem dX1_run_30 : decode cX1_run 30 = .ok (.iaload, 1) := by decide +kernel
theorem dX1_run_31 : decode cX1_run 31 = .ok (.istore 6, 2) := by decide +kernel
theorem dX1_run_33 : decode cX1_run 33 = .ok (.iload 6, 2) := by decide +kernel
theorem dX1_run_35 : decode cX1_run 35 = .ok (.invokestatic 53, 3) := by decide +kernel
theorem dX1_run_38 : decode cX1_run 38 = .ok (.ifCond .ne 11, 3) := by decide +kernel
theorem dX1_run_41 : decode cX1_run 41 = .ok (.iload 6, 2) := by decide +kernel
theorem dX1_run_43 : decode cX1_run 43 = .ok (.invokestatic 59, 3) := by decide +kernel
theorem dX1_run_46 : decode cX1_run 46 = .ok (.ifCond .eq 52, 3) := by decide +kernel
theorem dX1_run_49 : decode cX1_run 49 = .ok (.iload 4, 2) := by decide +kernel
theorem dX1_run_51 : decode cX1_run 51 = .ok (.bipush 40, 2) := by decide +kernel
theorem dX1_run_53 : decode cX1_run 53 = .ok (.if_icmp .ge 134, 3) := by decide +kernel
theorem dX1_run_56 : decode cX1_run 56 = .ok (.iload 6, 2) := by decide +kernel
theorem dX1_run_58 : decode cX1_run 58 = .ok (.sipush 10007, 3) := by decide +kernel
theorem dX1_run_61 : decode cX1_run 61 = .ok (.isub, 1) := by decide +kernel
theorem dX1_run_62 : decode cX1_run 62 = .ok (.istore 7, 2) := by decide +kernel
theorem dX1_run_64 : decode cX1_run 64 = .ok (.aload_n 0, 1) := by decide +kernel
theorem dX1_run_65 : decode cX1_run 65 = .ok (.getfield 27, 3) := by decide +kernel
theorem dX1_run_68 : decode cX1_run 68 = .ok (.iload 4, 2) := by decide +kernel
theorem dX1_run_70 : decode cX1_run 70 = .ok (.iload 7, 2) := by decide +kernel
theorem dX1_run_72 : decode cX1_run 72 = .ok (.ifCond .lt 17, 3) := by decide +kernel
theorem dX1_run_75 : decode cX1_run 75 = .ok (.iload 7, 2) := by decide +kernel
theorem dX1_run_77 : decode cX1_run 77 = .ok (.aload_n 3, 1) := by decide +kernel
theorem dX1_run_78 : decode cX1_run 78 = .ok (.arraylength, 1) := by decide +kernel
theorem dX1_run_79 : decode cX1_run 79 = .ok (.if_icmp .ge 10, 3) := by decide +kernel
theorem dX1_run_82 : decode cX1_run 82 = .ok (.aload_n 3, 1) := by decide +kernel
theorem dX1_run_83 : decode cX1_run 83 = .ok (.iload 7, 2) := by decide +kernel
theorem dX1_run_85 : decode cX1_run 85 = .ok (.iaload, 1) := by decide +kernel
theorem dX1_run_86 : decode cX1_run 86 = .ok (.goto 5, 3) := by decide +kernel
theorem dX1_run_89 : decode cX1_run 89 = .ok (.iload 6, 2) := by decide +kernel
theorem dX1_run_91 : decode cX1_run 91 = .ok (.iastore, 1) := by decide +kernel
theorem dX1_run_92 : decode cX1_run 92 = .ok (.iinc 4 1, 3) := by decide +kernel
theorem dX1_run_95 : decode cX1_run 95 = .ok (.goto 92, 3) := by decide +kernel
theorem dX1_run_98 : decode cX1_run 98 = .ok (.iload 6, 2) := by decide +kernel
theorem dX1_run_100 : decode cX1_run 100 = .ok (.sipush 10006, 3) := by decide +kernel
theorem dX1_run_103 : decode cX1_run 103 = .ok (.if_icmp .ne 38, 3) := by decide +kernel
theorem dX1_run_106 : decode cX1_run 106 = .ok (.iload 4, 2) := by decide +kernel
theorem dX1_run_108 : decode cX1_run 108 = .ok (.ifCond .le 79, 3) := by decide +kernel
theorem dX1_run_111 : decode cX1_run 111 = .ok (.iload 4, 2) := by decide +kernel
theorem dX1_run_113 : decode cX1_run 113 = .ok (.bipush 40, 2) := by decide +kernel
theorem dX1_run_115 : decode cX1_run 115 = .ok (.if_icmp .gt 72, 3) := by decide +kernel
theorem dX1_run_118 : decode cX1_run 118 = .ok (.aload_n 0, 1) := by decide +kernel
theorem dX1_run_119 : decode cX1_run 119 = .ok (.getfield 27, 3) := by decide +kernel
theorem dX1_run_122 : decode cX1_run 122 = .ok (.iload 4, 2) := by decide +kernel
theorem dX1_run_124 : decode cX1_run 124 = .ok (.iconst 1, 1) := by decide +kernel
theorem dX1_run_125 : decode cX1_run 125 = .ok (.isub, 1) := by decide +kernel
theorem dX1_run_126 : decode cX1_run 126 = .ok (.iconst 1, 1) := by decide +kernel
theorem dX1_run_127 : decode cX1_run 127 = .ok (.aload_n 0, 1) := by decide +kernel
theorem dX1_run_128 : decode cX1_run 128 = .ok (.getfield 27, 3) := by decide +kernel
theorem dX1_run_131 : decode cX1_run 131 = .ok (.iload 4, 2) := by decide +kernel
theorem dX1_run_133 : decode cX1_run 133 = .ok (.iconst 1, 1) := by decide +kernel
theorem dX1_run_134 : decode cX1_run 134 = .ok (.isub, 1) := by decide +kernel
theorem dX1_run_135 : decode cX1_run 135 = .ok (.iaload, 1) := by decide +kernel
theorem dX1_run_136 : decode cX1_run 136 = .ok (.isub, 1) := by decide +kernel
theorem dX1_run_137 : decode cX1_run 137 = .ok (.iastore, 1) := by decide +kernel
theorem dX1_run_138 : decode cX1_run 138 = .ok (.goto 49, 3) := by decide +kernel
theorem dX1_run_141 : decode cX1_run 141 = .ok (.iload 4, 2) := by decide +kernel
theorem dX1_run_143 : decode cX1_run 143 = .ok (.iconst 1, 1) := by decide +kernel
theorem dX1_run_144 : decode cX1_run 144 = .ok (.if_icmp .le 43, 3) := by decide +kernel
theorem dX1_run_147 : decode cX1_run 147 = .ok (.iload 4, 2) := by decide +kernel
theorem dX1_run_149 : decode cX1_run 149 = .ok (.bipush 40, 2) := by decide +kernel
theorem dX1_run_151 : decode cX1_run 151 = .ok (.if_icmp .gt 36, 3) := by decide +kernel
theorem dX1_run_154 : decode cX1_run 154 = .ok (.iinc 4 (-1), 3) := by decide +kernel
theorem dX1_run_157 : decode cX1_run 157 = .ok (.aload_n 0, 1) := by decide +kernel
theorem dX1_run_158 : decode cX1_run 158 = .ok (.getfield 27, 3) := by decide +kernel
theorem dX1_run_161 : decode cX1_run 161 = .ok (.iload 4, 2) := by decide +kernel
theorem dX1_run_163 : decode cX1_run 163 = .ok (.iconst 1, 1) := by decide +kernel
theorem dX1_run_164 : decode cX1_run 164 = .ok (.isub, 1) := by decide +kernel
theorem dX1_run_165 : decode cX1_run 165 = .ok (.iload 6, 2) := by decide +kernel
theorem dX1_run_167 : decode cX1_run 167 = .ok (.aload_n 0, 1) := by decide +kernel
theorem dX1_run_168 : decode cX1_run 168 = .ok (.getfield 27, 3) := by decide +kernel
theorem dX1_run_171 : decode cX1_run 171 = .ok (.iload 4, 2) := by decide +kernel
theorem dX1_run_173 : decode cX1_run 173 = .ok (.iconst 1, 1) := by decide +kernel
theorem dX1_run_174 : decode cX1_run 174 = .ok (.isub, 1) := by decide +kernel
theorem dX1_run_175 : decode cX1_run 175 = .ok (.iaload, 1) := by decide +kernel
theorem dX1_run_176 : decode cX1_run 176 = .ok (.aload_n 0, 1) := by decide +kernel
theorem dX1_run_177 : decode cX1_run 177 = .ok (.getfield 27, 3) := by decide +kernel
theorem dX1_run_180 : decode cX1_run 180 = .ok (.iload 4, 2) := by decide +kernel
theorem dX1_run_182 : decode cX1_run 182 = .ok (.iaload, 1) := by decide +kernel
theorem dX1_run_183 : decode cX1_run 183 = .ok (.invokestatic 62, 3) := by decide +kernel
theorem dX1_run_186 : decode cX1_run 186 = .ok (.iastore, 1) := by decide +kernel
theorem dX1_run_187 : decode cX1_run 187 = .ok (.iinc 5 1, 3) := by decide +kernel
theorem dX1_run_190 : decode cX1_run 190 = .ok (.goto (-180), 3) := by decide +kernel
theorem dX1_run_193 : decode cX1_run 193 = .ok (.iload 4, 2) := by decide +kernel
theorem dX1_run_195 : decode cX1_run 195 = .ok (.ifCond .le 12, 3) := by decide +kernel
theorem dX1_run_198 : decode cX1_run 198 = .ok (.aload_n 0, 1) := by decide +kernel
theorem dX1_run_199 : decode cX1_run 199 = .ok (.getfield 27, 3) := by decide +kernel
theorem dX1_run_202 : decode cX1_run 202 = .ok (.iconst 0, 1) := by decide +kernel
theorem dX1_run_203 : decode cX1_run 203 = .ok (.iaload, 1) := by decide +kernel
theorem dX1_run_204 : decode cX1_run 204 = .ok (.goto 4, 3) := by decide +kernel
theorem dX1_run_207 : decode cX1_run 207 = .ok (.iconst 0, 1) := by decide +kernel
theorem dX1_run_208 : decode cX1_run 208 = .ok (.ireturn, 1) := by decide +kernel
theorem dX1_joined_0 : decode cX1_joined 0 = .ok (.iload_n 0, 1) := by decide +kernel
theorem dX1_joined_1 : decode cX1_joined 1 = .ok (.lookupswitch 136 #[(10005, 132), (20042, 83), (20043, 75), (20045, 79), (20047, 87), (20060, 99), (20061, 110), (20062, 121)], 75) := by decide +kernel
theorem dX1_joined_76 : decode cX1_joined 76 = .ok (.iload_n 1, 1) := by decide +kernel
theorem dX1_joined_77 : decode cX1_joined 77 = .ok (.iload_n 2, 1) := by decide +kernel
theorem dX1_joined_78 : decode cX1_joined 78 = .ok (.iadd, 1) := by decide +kernel
theorem dX1_joined_79 : decode cX1_joined 79 = .ok (.ireturn, 1) := by decide +kernel
theorem dX1_joined_80 : decode cX1_joined 80 = .ok (.iload_n 1, 1) := by decide +kernel
theorem dX1_joined_81 : decode cX1_joined 81 = .ok (.iload_n 2, 1) := by decide +kernel
theorem dX1_joined_82 : decode cX1_joined 82 = .ok (.isub, 1) := by decide +kernel
theorem dX1_joined_83 : decode cX1_joined 83 = .ok (.ireturn, 1) := by decide +kernel
theorem dX1_joined_84 : decode cX1_joined 84 = .ok (.iload_n 1, 1) := by decide +kernel
theorem dX1_joined_85 : decode cX1_joined 85 = .ok (.iload_n 2, 1) := by decide +kernel
theorem dX1_joined_86 : decode cX1_joined 86 = .ok (.imul, 1) := by decide +kernel
theorem dX1_joined_87 : decode cX1_joined 87 = .ok (.ireturn, 1) := by decide +kernel
theorem dX1_joined_88 : decode cX1_joined 88 = .ok (.iload_n 2, 1) := by decide +kernel
theorem dX1_joined_89 : decode cX1_joined 89 = .ok (.ifCond .ne 7, 3) := by decide +kernel
theorem dX1_joined_92 : decode cX1_joined 92 = .ok (.iconst 0, 1) := by decide +kernel
theorem dX1_joined_93 : decode cX1_joined 93 = .ok (.goto 6, 3) := by decide +kernel
theorem dX1_joined_96 : decode cX1_joined 96 = .ok (.iload_n 1, 1) := by decide +kernel
theorem dX1_joined_97 : decode cX1_joined 97 = .ok (.iload_n 2, 1) := by decide +kernel
theorem dX1_joined_98 : decode cX1_joined 98 = .ok (.idiv, 1) := by decide +kernel
theorem dX1_joined_99 : decode cX1_joined 99 = .ok (.ireturn, 1) := by decide +kernel
theorem dX1_joined_100 : decode cX1_joined 100 = .ok (.iload_n 1, 1) := by decide +kernel
theorem dX1_joined_101 : decode cX1_joined 101 = .ok (.iload_n 2, 1) := by decide +kernel
theorem dX1_joined_102 : decode cX1_joined 102 = .ok (.if_icmp .ge 7, 3) := by decide +kernel
theorem dX1_joined_105 : decode cX1_joined 105 = .ok (.iconst 1, 1) := by decide +kernel
theorem dX1_joined_106 : decode cX1_joined 106 = .ok (.goto 4, 3) := by decide +kernel
theorem dX1_joined_109 : decode cX1_joined 109 = .ok (.iconst 0, 1) := by decide +kernel
theorem dX1_joined_110 : decode cX1_joined 110 = .ok (.ireturn, 1) := by decide +kernel
theorem dX1_joined_111 : decode cX1_joined 111 = .ok (.iload_n 1, 1) := by decide +kernel
theorem dX1_joined_112 : decode cX1_joined 112 = .ok (.iload_n 2, 1) := by decide +kernel
theorem dX1_joined_113 : decode cX1_joined 113 = .ok (.if_icmp .ne 7, 3) := by decide +kernel
theorem dX1_joined_116 : decode cX1_joined 116 = .ok (.iconst 1, 1) := by decide +kernel
theorem dX1_joined_117 : decode cX1_joined 117 = .ok (.goto 4, 3) := by decide +kernel
theorem dX1_joined_120 : decode cX1_joined 120 = .ok (.iconst 0, 1) := by decide +kernel
theorem dX1_joined_121 : decode cX1_joined 121 = .ok (.ireturn, 1) := by decide +kernel
theorem dX1_joined_122 : decode cX1_joined 122 = .ok (.iload_n 1, 1) := by decide +kernel
theorem dX1_joined_123 : decode cX1_joined 123 = .ok (.iload_n 2, 1) := by decide +kernel
theorem dX1_joined_124 : decode cX1_joined 124 = .ok (.if_icmp .le 7, 3) := by decide +kernel
theorem dX1_joined_127 : decode cX1_joined 127 = .ok (.iconst 1, 1) := by decide +kernel
theorem dX1_joined_128 : decode cX1_joined 128 = .ok (.goto 4, 3) := by decide +kernel
theorem dX1_joined_131 : decode cX1_joined 131 = .ok (.iconst 0, 1) := by decide +kernel
theorem dX1_joined_132 : decode cX1_joined 132 = .ok (.ireturn, 1) := by decide +kernel
theorem dX1_joined_133 : decode cX1_joined 133 = .ok (.iload_n 1, 1) := by decide +kernel
theorem dX1_joined_134 : decode cX1_joined 134 = .ok (.iload_n 2, 1) := by decide +kernel
theorem dX1_joined_135 : decode cX1_joined 135 = .ok (.iand, 1) := by decide +kernel
theorem dX1_joined_136 : decode cX1_joined 136 = .ok (.ireturn, 1) := by decide +kernel
theorem dX1_joined_137 : decode cX1_joined 137 = .ok (.iload_n 1, 1) := by decide +kernel
theorem dX1_joined_138 : decode cX1_joined 138 = .ok (.iload_n 2, 1) := by decide +kernel
theorem dX1_joined_139 : decode cX1_joined 139 = .ok (.ior, 1) := by decide +kernel
theorem dX1_joined_140 : decode cX1_joined 140 = .ok (.ireturn, 1) := by decide +kernel
theorem dX2_init_0 : decode cX2_init 0 = .ok (.aload_n 0, 1) := by decide +kernel
theorem dX2_init_1 : decode cX2_init 1 = .ok (.invokespecial 3, 3) := by decide +kernel
theorem dX2_init_4 : decode cX2_init 4 = .ok (.aload_n 0, 1) := by decide +kernel
theorem dX2_init_5 : decode cX2_init 5 = .ok (.iconst 0, 1) := by decide +kernel
theorem dX2_init_6 : decode cX2_init 6 = .ok (.iload_n 1, 1) := by decide +kernel
theorem dX2_init_7 : decode cX2_init 7 = .ok (.invokestatic 9, 3) := by decide +kernel
theorem dX2_init_10 : decode cX2_init 10 = .ok (.putfield 15, 3) := by decide +kernel
theorem dX2_init_13 : decode cX2_init 13 = .ok (.aload_n 0, 1) := by decide +kernel
theorem dX2_init_14 : decode cX2_init 14 = .ok (.iconst 0, 1) := by decide +kernel
theorem dX2_init_15 : decode cX2_init 15 = .ok (.iload_n 2, 1) := by decide +kernel
theorem dX2_init_16 : decode cX2_init 16 = .ok (.invokestatic 9, 3) := by decide +kernel
theorem dX2_init_19 : decode cX2_init 19 = .ok (.putfield 21, 3) := by decide +kernel
theorem dX2_init_22 : decode cX2_init 22 = .ok (.aload_n 0, 1) := by decide +kernel
theorem dX2_init_23 : decode cX2_init 23 = .ok (.aload_n 0, 1) := by decide +kernel
theorem dX2_init_24 : decode cX2_init 24 = .ok (.getfield 15, 3) := by decide +kernel
theorem dX2_init_27 : decode cX2_init 27 = .ok (.aload_n 0, 1) := by decide +kernel
theorem dX2_init_28 : decode cX2_init 28 = .ok (.getfield 21, 3) := by decide +kernel
theorem dX2_init_31 : decode cX2_init 31 = .ok (.imul, 1) := by decide +kernel
theorem dX2_init_32 : decode cX2_init 32 = .ok (.newarray .int, 2) := by decide +kernel
theorem dX2_init_34 : decode cX2_init 34 = .ok (.putfield 24, 3) := by decide +kernel
theorem dX2_init_37 : decode cX2_init 37 = .ok (.aload_n 0, 1) := by decide +kernel
theorem dX2_init_38 : decode cX2_init 38 = .ok (.iconst 0, 1) := by decide +kernel
theorem dX2_init_39 : decode cX2_init 39 = .ok (.putfield 28, 3) := by decide +kernel
theorem dX2_init_42 : decode cX2_init 42 = .ok (.return_, 1) := by decide +kernel
theorem dX2_at_0 : decode cX2_at 0 = .ok (.iload_n 1, 1) := by decide +kernel
theorem dX2_at_1 : decode cX2_at 1 = .ok (.aload_n 0, 1) := by decide +kernel
theorem dX2_at_2 : decode cX2_at 2 = .ok (.getfield 28, 3) := by decide +kernel
theorem dX2_at_5 : decode cX2_at 5 = .ok (.invokestatic 31, 3) := by decide +kernel
theorem dX2_at_8 : decode cX2_at 8 = .ok (.ifCond .eq 14, 3) := by decide +kernel
theorem dX2_at_11 : decode cX2_at 11 = .ok (.iload_n 2, 1) := by decide +kernel
theorem dX2_at_12 : decode cX2_at 12 = .ok (.aload_n 0, 1) := by decide +kernel
theorem dX2_at_13 : decode cX2_at 13 = .ok (.getfield 21, 3) := by decide +kernel
theorem dX2_at_16 : decode cX2_at 16 = .ok (.invokestatic 31, 3) := by decide +kernel
theorem dX2_at_19 : decode cX2_at 19 = .ok (.ifCond .ne 5, 3) := by decide +kernel
theorem dX2_at_22 : decode cX2_at 22 = .ok (.iconst 0, 1) := by decide +kernel
theorem dX2_at_23 : decode cX2_at 23 = .ok (.ireturn, 1) := by decide +kernel
theorem dX2_at_24 : decode cX2_at 24 = .ok (.aload_n 0, 1) := by decide +kernel
theorem dX2_at_25 : decode cX2_at 25 = .ok (.getfield 24, 3) := by decide +kernel
theorem dX2_at_28 : decode cX2_at 28 = .ok (.iload_n 1, 1) := by decide +kernel
theorem dX2_at_29 : decode cX2_at 29 = .ok (.aload_n 0, 1) := by decide +kernel
theorem dX2_at_30 : decode cX2_at 30 = .ok (.getfield 21, 3) := by decide +kernel
theorem dX2_at_33 : decode cX2_at 33 = .ok (.imul, 1) := by decide +kernel
theorem dX2_at_34 : decode cX2_at 34 = .ok (.iload_n 2, 1) := by decide +kernel
theorem dX2_at_35 : decode cX2_at 35 = .ok (.iadd, 1) := by decide +kernel
theorem dX2_at_36 : decode cX2_at 36 = .ok (.iaload, 1) := by decide +kernel
theorem dX2_at_37 : decode cX2_at 37 = .ok (.ireturn, 1) := by decide +kernel
theorem dX2_clear_0 : decode cX2_clear 0 = .ok (.aload_n 0, 1) := by decide +kernel
theorem dX2_clear_1 : decode cX2_clear 1 = .ok (.iconst 0, 1) := by decide +kernel
theorem dX2_clear_2 : decode cX2_clear 2 = .ok (.putfield 28, 3) := by decide +kernel
theorem dX2_clear_5 : decode cX2_clear 5 = .ok (.iconst 0, 1) := by decide +kernel
theorem dX2_clear_6 : decode cX2_clear 6 = .ok (.ireturn, 1) := by decide +kernel
theorem dX2_begin_0 : decode cX2_begin 0 = .ok (.aload_n 0, 1) := by decide +kernel
theorem dX2_begin_1 : decode cX2_begin 1 = .ok (.getfield 28, 3) := by decide +kernel
theorem dX2_begin_4 : decode cX2_begin 4 = .ok (.ifCond .lt 14, 3) := by decide +kernel
theorem dX2_begin_7 : decode cX2_begin 7 = .ok (.aload_n 0, 1) := by decide +kernel
theorem dX2_begin_8 : decode cX2_begin 8 = .ok (.getfield 28, 3) := by decide +kernel
theorem dX2_begin_11 : decode cX2_begin 11 = .ok (.aload_n 0, 1) := by decide +kernel
theorem dX2_begin_12 : decode cX2_begin 12 = .ok (.getfield 15, 3) := by decide +kernel
theorem dX2_begin_15 : decode cX2_begin 15 = .ok (.if_icmp .lt 5, 3) := by decide +kernel
theorem dX2_begin_18 : decode cX2_begin 18 = .ok (.iconst 0, 1) := by decide +kernel
theorem dX2_begin_19 : decode cX2_begin 19 = .ok (.ireturn, 1) := by decide +kernel
theorem dX2_begin_20 : decode cX2_begin 20 = .ok (.iconst 0, 1) := by decide +kernel
theorem dX2_begin_21 : decode cX2_begin 21 = .ok (.istore_n 1, 1) := by decide +kernel
theorem dX2_begin_22 : decode cX2_begin 22 = .ok (.iload_n 1, 1) := by decide +kernel
theorem dX2_begin_23 : decode cX2_begin 23 = .ok (.aload_n 0, 1) := by decide +kernel
theorem dX2_begin_24 : decode cX2_begin 24 = .ok (.getfield 21, 3) := by decide +kernel
theorem dX2_begin_27 : decode cX2_begin 27 = .ok (.if_icmp .ge 26, 3) := by decide +kernel
theorem dX2_begin_30 : decode cX2_begin 30 = .ok (.aload_n 0, 1) := by decide +kernel
theorem dX2_begin_31 : decode cX2_begin 31 = .ok (.getfield 24, 3) := by decide +kernel
theorem dX2_begin_34 : decode cX2_begin 34 = .ok (.aload_n 0, 1) := by decide +kernel
theorem dX2_begin_35 : decode cX2_begin 35 = .ok (.getfield 28, 3) := by decide +kernel
theorem dX2_begin_38 : decode cX2_begin 38 = .ok (.aload_n 0, 1) := by decide +kernel
theorem dX2_begin_39 : decode cX2_begin 39 = .ok (.getfield 21, 3) := by decide +kernel
theorem dX2_begin_42 : decode cX2_begin 42 = .ok (.imul, 1) := by decide +kernel
theorem dX2_begin_43 : decode cX2_begin 43 = .ok (.iload_n 1, 1) := by decide +kernel
theorem dX2_begin_44 : decode cX2_begin 44 = .ok (.iadd, 1) := by decide +kernel
theorem dX2_begin_45 : decode cX2_begin 45 = .ok (.iconst 0, 1) := by decide +kernel
theorem dX2_begin_46 : decode cX2_begin 46 = .ok (.iastore, 1) := by decide +kernel
theorem dX2_begin_47 : decode cX2_begin 47 = .ok (.iinc 1 1, 3) := by decide +kernel
theorem dX2_begin_50 : decode cX2_begin 50 = .ok (.goto (-28), 3) := by decide +kernel
theorem dX2_begin_53 : decode cX2_begin 53 = .ok (.aload_n 0, 1) := by decide +kernel
theorem dX2_begin_54 : decode cX2_begin 54 = .ok (.dup, 1) := by decide +kernel
theorem dX2_begin_55 : decode cX2_begin 55 = .ok (.getfield 28, 3) := by decide +kernel
theorem dX2_begin_58 : decode cX2_begin 58 = .ok (.iconst 1, 1) := by decide +kernel
theorem dX2_begin_59 : decode cX2_begin 59 = .ok (.iadd, 1) := by decide +kernel
theorem dX2_begin_60 : decode cX2_begin 60 = .ok (.putfield 28, 3) := by decide +kernel
theorem dX2_begin_63 : decode cX2_begin 63 = .ok (.iconst 1, 1) := by decide +kernel
theorem dX2_begin_64 : decode cX2_begin 64 = .ok (.ireturn, 1) := by decide +kernel
theorem dX2_put_0 : decode cX2_put 0 = .ok (.aload_n 0, 1) := by decide +kernel
theorem dX2_put_1 : decode cX2_put 1 = .ok (.getfield 28, 3) := by decide +kernel
theorem dX2_put_4 : decode cX2_put 4 = .ok (.ifCond .le 33, 3) := by decide +kernel
theorem dX2_put_7 : decode cX2_put 7 = .ok (.iload_n 1, 1) := by decide +kernel
theorem dX2_put_8 : decode cX2_put 8 = .ok (.aload_n 0, 1) := by decide +kernel
theorem dX2_put_9 : decode cX2_put 9 = .ok (.getfield 21, 3) := by decide +kernel
theorem dX2_put_12 : decode cX2_put 12 = .ok (.invokestatic 31, 3) := by decide +kernel
theorem dX2_put_15 : decode cX2_put 15 = .ok (.ifCond .eq 22, 3) := by decide +kernel
theorem dX2_put_18 : decode cX2_put 18 = .ok (.aload_n 0, 1) := by decide +kernel
theorem dX2_put_19 : decode cX2_put 19 = .ok (.getfield 24, 3) := by decide +kernel
theorem dX2_put_22 : decode cX2_put 22 = .ok (.aload_n 0, 1) := by decide +kernel
theorem dX2_put_23 : decode cX2_put 23 = .ok (.getfield 28, 3) := by decide +kernel
theorem dX2_put_26 : decode cX2_put 26 = .ok (.iconst 1, 1) := by decide +kernel
theorem dX2_put_27 : decode cX2_put 27 = .ok (.isub, 1) := by decide +kernel
theorem dX2_put_28 : decode cX2_put 28 = .ok (.aload_n 0, 1) := by decide +kernel
theorem dX2_put_29 : decode cX2_put 29 = .ok (.getfield 21, 3) := by decide +kernel
theorem dX2_put_32 : decode cX2_put 32 = .ok (.imul, 1) := by decide +kernel
theorem dX2_put_33 : decode cX2_put 33 = .ok (.iload_n 1, 1) := by decide +kernel
theorem dX2_put_34 : decode cX2_put 34 = .ok (.iadd, 1) := by decide +kernel
theorem dX2_put_35 : decode cX2_put 35 = .ok (.iload_n 2, 1) := by decide +kernel
theorem dX2_put_36 : decode cX2_put 36 = .ok (.iastore, 1) := by decide +kernel
theorem dX2_put_37 : decode cX2_put 37 = .ok (.return_, 1) := by decide +kernel
theorem dX2_add_0 : decode cX2_add 0 = .ok (.aload_n 0, 1) := by decide +kernel
theorem dX2_add_1 : decode cX2_add 1 = .ok (.invokevirtual 35, 3) := by decide +kernel
theorem dX2_add_4 : decode cX2_add 4 = .ok (.ifCond .ne 5, 3) := by decide +kernel
theorem dX2_add_7 : decode cX2_add 7 = .ok (.iconst (-1), 1) := by decide +kernel
theorem dX2_add_8 : decode cX2_add 8 = .ok (.ireturn, 1) := by decide +kernel
theorem dX2_add_9 : decode cX2_add 9 = .ok (.aload_n 0, 1) := by decide +kernel
theorem dX2_add_10 : decode cX2_add 10 = .ok (.iconst 0, 1) := by decide +kernel
theorem dX2_add_11 : decode cX2_add 11 = .ok (.iload_n 1, 1) := by decide +kernel
theorem dX2_add_12 : decode cX2_add 12 = .ok (.invokevirtual 39, 3) := by decide +kernel
theorem dX2_add_15 : decode cX2_add 15 = .ok (.aload_n 0, 1) := by decide +kernel
theorem dX2_add_16 : decode cX2_add 16 = .ok (.iconst 1, 1) := by decide +kernel
theorem dX2_add_17 : decode cX2_add 17 = .ok (.iload_n 2, 1) := by decide +kernel
theorem dX2_add_18 : decode cX2_add 18 = .ok (.invokevirtual 39, 3) := by decide +kernel
theorem dX2_add_21 : decode cX2_add 21 = .ok (.aload_n 0, 1) := by decide +kernel
theorem dX2_add_22 : decode cX2_add 22 = .ok (.iconst 2, 1) := by decide +kernel
theorem dX2_add_23 : decode cX2_add 23 = .ok (.iload_n 3, 1) := by decide +kernel
theorem dX2_add_24 : decode cX2_add 24 = .ok (.invokevirtual 39, 3) := by decide +kernel
theorem dX2_add_27 : decode cX2_add 27 = .ok (.aload_n 0, 1) := by decide +kernel
theorem dX2_add_28 : decode cX2_add 28 = .ok (.iconst 3, 1) := by decide +kernel
theorem dX2_add_29 : decode cX2_add 29 = .ok (.iload 4, 2) := by decide +kernel
theorem dX2_add_31 : decode cX2_add 31 = .ok (.invokevirtual 39, 3) := by decide +kernel
theorem dX2_add_34 : decode cX2_add 34 = .ok (.aload_n 0, 1) := by decide +kernel
theorem dX2_add_35 : decode cX2_add 35 = .ok (.getfield 28, 3) := by decide +kernel
theorem dX2_add_38 : decode cX2_add 38 = .ok (.ireturn, 1) := by decide +kernel
theorem dX2_cutTo_0 : decode cX2_cutTo 0 = .ok (.aload_n 0, 1) := by decide +kernel
theorem dX2_cutTo_1 : decode cX2_cutTo 1 = .ok (.iload_n 1, 1) := by decide +kernel
theorem dX2_cutTo_2 : decode cX2_cutTo 2 = .ok (.iconst 0, 1) := by decide +kernel
theorem dX2_cutTo_3 : decode cX2_cutTo 3 = .ok (.aload_n 0, 1) := by decide +kernel
theorem dX2_cutTo_4 : decode cX2_cutTo 4 = .ok (.getfield 28, 3) := by decide +kernel
theorem dX2_cutTo_7 : decode cX2_cutTo 7 = .ok (.invokestatic 43, 3) := by decide +kernel
theorem dX2_cutTo_10 : decode cX2_cutTo 10 = .ok (.putfield 28, 3) := by decide +kernel
theorem dX2_cutTo_13 : decode cX2_cutTo 13 = .ok (.return_, 1) := by decide +kernel
theorem dX2_copyFrom_0 : decode cX2_copyFrom 0 = .ok (.aload_n 0, 1) := by decide +kernel
theorem dX2_copyFrom_1 : decode cX2_copyFrom 1 = .ok (.invokevirtual 47, 3) := by decide +kernel
theorem dX2_copyFrom_4 : decode cX2_copyFrom 4 = .ok (.pop, 1) := by decide +kernel
theorem dX2_copyFrom_5 : decode cX2_copyFrom 5 = .ok (.iconst 0, 1) := by decide +kernel
theorem dX2_copyFrom_6 : decode cX2_copyFrom 6 = .ok (.istore_n 2, 1) := by decide +kernel
theorem dX2_copyFrom_7 : decode cX2_copyFrom 7 = .ok (.iload_n 2, 1) := by decide +kernel
theorem dX2_copyFrom_8 : decode cX2_copyFrom 8 = .ok (.aload_n 1, 1) := by decide +kernel
theorem dX2_copyFrom_9 : decode cX2_copyFrom 9 = .ok (.getfield 28, 3) := by decide +kernel
theorem dX2_copyFrom_12 : decode cX2_copyFrom 12 = .ok (.if_icmp .ge 43, 3) := by decide +kernel
theorem dX2_copyFrom_15 : decode cX2_copyFrom 15 = .ok (.aload_n 0, 1) := by decide +kernel
theorem dX2_copyFrom_16 : decode cX2_copyFrom 16 = .ok (.invokevirtual 35, 3) := by decide +kernel
theorem dX2_copyFrom_19 : decode cX2_copyFrom 19 = .ok (.ifCond .eq 36, 3) := by decide +kernel
theorem dX2_copyFrom_22 : decode cX2_copyFrom 22 = .ok (.iconst 0, 1) := by decide +kernel
theorem dX2_copyFrom_23 : decode cX2_copyFrom 23 = .ok (.istore_n 3, 1) := by decide +kernel
theorem dX2_copyFrom_24 : decode cX2_copyFrom 24 = .ok (.iload_n 3, 1) := by decide +kernel
theorem dX2_copyFrom_25 : decode cX2_copyFrom 25 = .ok (.aload_n 0, 1) := by decide +kernel
theorem dX2_copyFrom_26 : decode cX2_copyFrom 26 = .ok (.getfield 21, 3) := by decide +kernel
theorem dX2_copyFrom_29 : decode cX2_copyFrom 29 = .ok (.if_icmp .ge 20, 3) := by decide +kernel
theorem dX2_copyFrom_32 : decode cX2_copyFrom 32 = .ok (.aload_n 0, 1) := by decide +kernel
theorem dX2_copyFrom_33 : decode cX2_copyFrom 33 = .ok (.iload_n 3, 1) := by decide +kernel
theorem dX2_copyFrom_34 : decode cX2_copyFrom 34 = .ok (.aload_n 1, 1) := by decide +kernel
theorem dX2_copyFrom_35 : decode cX2_copyFrom 35 = .ok (.iload_n 2, 1) := by decide +kernel
theorem dX2_copyFrom_36 : decode cX2_copyFrom 36 = .ok (.iload_n 3, 1) := by decide +kernel
theorem dX2_copyFrom_37 : decode cX2_copyFrom 37 = .ok (.invokevirtual 51, 3) := by decide +kernel
theorem dX2_copyFrom_40 : decode cX2_copyFrom 40 = .ok (.invokevirtual 39, 3) := by decide +kernel
theorem dX2_copyFrom_43 : decode cX2_copyFrom 43 = .ok (.iinc 3 1, 3) := by decide +kernel
theorem dX2_copyFrom_46 : decode cX2_copyFrom 46 = .ok (.goto (-22), 3) := by decide +kernel
theorem dX2_copyFrom_49 : decode cX2_copyFrom 49 = .ok (.iinc 2 1, 3) := by decide +kernel
theorem dX2_copyFrom_52 : decode cX2_copyFrom 52 = .ok (.goto (-45), 3) := by decide +kernel
theorem dX2_copyFrom_55 : decode cX2_copyFrom 55 = .ok (.return_, 1) := by decide +kernel
theorem dX3_init_0 : decode cX3_init 0 = .ok (.aload_n 0, 1) := by decide +kernel
theorem dX3_init_1 : decode cX3_init 1 = .ok (.invokespecial 3, 3) := by decide +kernel
theorem dX3_init_4 : decode cX3_init 4 = .ok (.aload_n 0, 1) := by decide +kernel
theorem dX3_init_5 : decode cX3_init 5 = .ok (.bipush 6, 2) := by decide +kernel
theorem dX3_init_7 : decode cX3_init 7 = .ok (.anewarray 9, 3) := by decide +kernel
theorem dX3_init_10 : decode cX3_init 10 = .ok (.putfield 11, 3) := by decide +kernel
theorem dX3_init_13 : decode cX3_init 13 = .ok (.aload_n 0, 1) := by decide +kernel
theorem dX3_init_14 : decode cX3_init 14 = .ok (.bipush 6, 2) := by decide +kernel
theorem dX3_init_16 : decode cX3_init 16 = .ok (.newarray .int, 2) := by decide +kernel
theorem dX3_init_18 : decode cX3_init 18 = .ok (.putfield 17, 3) := by decide +kernel
theorem dX3_init_21 : decode cX3_init 21 = .ok (.iconst 0, 1) := by decide +kernel
theorem dX3_init_22 : decode cX3_init 22 = .ok (.istore_n 1, 1) := by decide +kernel
theorem dX3_init_23 : decode cX3_init 23 = .ok (.iload_n 1, 1) := by decide +kernel
theorem dX3_init_24 : decode cX3_init 24 = .ok (.bipush 6, 2) := by decide +kernel
theorem dX3_init_26 : decode cX3_init 26 = .ok (.if_icmp .ge 22, 3) := by decide +kernel
theorem dX3_init_29 : decode cX3_init 29 = .ok (.aload_n 0, 1) := by decide +kernel
theorem dX3_init_30 : decode cX3_init 30 = .ok (.getfield 11, 3) := by decide +kernel
theorem dX3_init_33 : decode cX3_init 33 = .ok (.iload_n 1, 1) := by decide +kernel
theorem dX3_init_34 : decode cX3_init 34 = .ok (.new 9, 3) := by decide +kernel
theorem dX3_init_37 : decode cX3_init 37 = .ok (.dup, 1) := by decide +kernel
theorem dX3_init_38 : decode cX3_init 38 = .ok (.invokespecial 21, 3) := by decide +kernel
theorem dX3_init_41 : decode cX3_init 41 = .ok (.aastore, 1) := by decide +kernel
theorem dX3_init_42 : decode cX3_init 42 = .ok (.iinc 1 1, 3) := by decide +kernel
theorem dX3_init_45 : decode cX3_init 45 = .ok (.goto (-22), 3) := by decide +kernel
theorem dX3_init_48 : decode cX3_init 48 = .ok (.return_, 1) := by decide +kernel
theorem dX3_forget_0 : decode cX3_forget 0 = .ok (.aload_n 0, 1) := by decide +kernel
theorem dX3_forget_1 : decode cX3_forget 1 = .ok (.iconst 0, 1) := by decide +kernel
theorem dX3_forget_2 : decode cX3_forget 2 = .ok (.putfield 22, 3) := by decide +kernel
theorem dX3_forget_5 : decode cX3_forget 5 = .ok (.return_, 1) := by decide +kernel
theorem dX3_keep_0 : decode cX3_keep 0 = .ok (.aload_n 0, 1) := by decide +kernel
theorem dX3_keep_1 : decode cX3_keep 1 = .ok (.getfield 26, 3) := by decide +kernel
theorem dX3_keep_4 : decode cX3_keep 4 = .ok (.bipush 6, 2) := by decide +kernel
theorem dX3_keep_6 : decode cX3_keep 6 = .ok (.invokestatic 29, 3) := by decide +kernel
theorem dX3_keep_9 : decode cX3_keep 9 = .ok (.ifCond .eq 15, 3) := by decide +kernel
theorem dX3_keep_12 : decode cX3_keep 12 = .ok (.aload_n 0, 1) := by decide +kernel
theorem dX3_keep_13 : decode cX3_keep 13 = .ok (.getfield 11, 3) := by decide +kernel
theorem dX3_keep_16 : decode cX3_keep 16 = .ok (.aload_n 0, 1) := by decide +kernel
theorem dX3_keep_17 : decode cX3_keep 17 = .ok (.getfield 26, 3) := by decide +kernel
theorem dX3_keep_20 : decode cX3_keep 20 = .ok (.aaload, 1) := by decide +kernel
theorem dX3_keep_21 : decode cX3_keep 21 = .ok (.goto 4, 3) := by decide +kernel
theorem dX3_keep_24 : decode cX3_keep 24 = .ok (.aconst_null, 1) := by decide +kernel
theorem dX3_keep_25 : decode cX3_keep 25 = .ok (.astore_n 2, 1) := by decide +kernel
theorem dX3_keep_26 : decode cX3_keep 26 = .ok (.aload_n 2, 1) := by decide +kernel
theorem dX3_keep_27 : decode cX3_keep 27 = .ok (.ifnonnull 4, 3) := by decide +kernel
theorem dX3_keep_30 : decode cX3_keep 30 = .ok (.return_, 1) := by decide +kernel
theorem dX3_keep_31 : decode cX3_keep 31 = .ok (.aload_n 2, 1) := by decide +kernel
theorem dX3_keep_32 : decode cX3_keep 32 = .ok (.aload_n 1, 1) := by decide +kernel
theorem dX3_keep_33 : decode cX3_keep 33 = .ok (.getfield 33, 3) := by decide +kernel
theorem dX3_keep_36 : decode cX3_keep 36 = .ok (.invokevirtual 39, 3) := by decide +kernel
theorem dX3_keep_39 : decode cX3_keep 39 = .ok (.aload_n 0, 1) := by decide +kernel
theorem dX3_keep_40 : decode cX3_keep 40 = .ok (.getfield 17, 3) := by decide +kernel
theorem dX3_keep_43 : decode cX3_keep 43 = .ok (.aload_n 0, 1) := by decide +kernel
theorem dX3_keep_44 : decode cX3_keep 44 = .ok (.getfield 26, 3) := by decide +kernel
theorem dX3_keep_47 : decode cX3_keep 47 = .ok (.aload_n 1, 1) := by decide +kernel
theorem dX3_keep_48 : decode cX3_keep 48 = .ok (.getfield 43, 3) := by decide +kernel
theorem dX3_keep_51 : decode cX3_keep 51 = .ok (.getfield 47, 3) := by decide +kernel
theorem dX3_keep_54 : decode cX3_keep 54 = .ok (.iastore, 1) := by decide +kernel
theorem dX3_keep_55 : decode cX3_keep 55 = .ok (.aload_n 0, 1) := by decide +kernel
theorem dX3_keep_56 : decode cX3_keep 56 = .ok (.aload_n 0, 1) := by decide +kernel
theorem dX3_keep_57 : decode cX3_keep 57 = .ok (.getfield 26, 3) := by decide +kernel
theorem dX3_keep_60 : decode cX3_keep 60 = .ok (.iconst 1, 1) := by decide +kernel
theorem dX3_keep_61 : decode cX3_keep 61 = .ok (.iadd, 1) := by decide +kernel
theorem dX3_keep_62 : decode cX3_keep 62 = .ok (.bipush 6, 2) := by decide +kernel
theorem dX3_keep_64 : decode cX3_keep 64 = .ok (.irem, 1) := by decide +kernel
theorem dX3_keep_65 : decode cX3_keep 65 = .ok (.putfield 26, 3) := by decide +kernel
theorem dX3_keep_68 : decode cX3_keep 68 = .ok (.aload_n 0, 1) := by decide +kernel
theorem dX3_keep_69 : decode cX3_keep 69 = .ok (.aload_n 0, 1) := by decide +kernel
theorem dX3_keep_70 : decode cX3_keep 70 = .ok (.getfield 22, 3) := by decide +kernel
theorem dX3_keep_73 : decode cX3_keep 73 = .ok (.iconst 1, 1) := by decide +kernel
theorem dX3_keep_74 : decode cX3_keep 74 = .ok (.iadd, 1) := by decide +kernel
theorem dX3_keep_75 : decode cX3_keep 75 = .ok (.bipush 6, 2) := by decide +kernel
theorem dX3_keep_77 : decode cX3_keep 77 = .ok (.invokestatic 50, 3) := by decide +kernel
theorem dX3_keep_80 : decode cX3_keep 80 = .ok (.putfield 22, 3) := by decide +kernel
theorem dX3_keep_83 : decode cX3_keep 83 = .ok (.return_, 1) := by decide +kernel
theorem dX3_goBack_0 : decode cX3_goBack 0 = .ok (.aload_n 0, 1) := by decide +kernel
theorem dX3_goBack_1 : decode cX3_goBack 1 = .ok (.getfield 22, 3) := by decide +kernel
theorem dX3_goBack_4 : decode cX3_goBack 4 = .ok (.ifCond .ne 5, 3) := by decide +kernel
theorem dX3_goBack_7 : decode cX3_goBack 7 = .ok (.iconst 0, 1) := by decide +kernel
theorem dX3_goBack_8 : decode cX3_goBack 8 = .ok (.ireturn, 1) := by decide +kernel
theorem dX3_goBack_9 : decode cX3_goBack 9 = .ok (.aload_n 0, 1) := by decide +kernel
theorem dX3_goBack_10 : decode cX3_goBack 10 = .ok (.aload_n 0, 1) := by decide +kernel
theorem dX3_goBack_11 : decode cX3_goBack 11 = .ok (.getfield 26, 3) := by decide +kernel
theorem dX3_goBack_14 : decode cX3_goBack 14 = .ok (.bipush 6, 2) := by decide +kernel
theorem dX3_goBack_16 : decode cX3_goBack 16 = .ok (.iadd, 1) := by decide +kernel
theorem dX3_goBack_17 : decode cX3_goBack 17 = .ok (.iconst 1, 1) := by decide +kernel
theorem dX3_goBack_18 : decode cX3_goBack 18 = .ok (.isub, 1) := by decide +kernel
theorem dX3_goBack_19 : decode cX3_goBack 19 = .ok (.bipush 6, 2) := by decide +kernel
theorem dX3_goBack_21 : decode cX3_goBack 21 = .ok (.irem, 1) := by decide +kernel
theorem dX3_goBack_22 : decode cX3_goBack 22 = .ok (.putfield 26, 3) := by decide +kernel
theorem dX3_goBack_25 : decode cX3_goBack 25 = .ok (.aload_n 0, 1) := by decide +kernel
theorem dX3_goBack_26 : decode cX3_goBack 26 = .ok (.getfield 26, 3) := by decide +kernel
theorem dX3_goBack_29 : decode cX3_goBack 29 = .ok (.bipush 6, 2) := by decide +kernel
theorem dX3_goBack_31 : decode cX3_goBack 31 = .ok (.invokestatic 29, 3) := by decide +kernel
theorem dX3_goBack_34 : decode cX3_goBack 34 = .ok (.ifCond .eq 15, 3) := by decide +kernel
theorem dX3_goBack_37 : decode cX3_goBack 37 = .ok (.aload_n 0, 1) := by decide +kernel
theorem dX3_goBack_38 : decode cX3_goBack 38 = .ok (.getfield 11, 3) := by decide +kernel
theorem dX3_goBack_41 : decode cX3_goBack 41 = .ok (.aload_n 0, 1) := by decide +kernel
theorem dX3_goBack_42 : decode cX3_goBack 42 = .ok (.getfield 26, 3) := by decide +kernel
theorem dX3_goBack_45 : decode cX3_goBack 45 = .ok (.aaload, 1) := by decide +kernel
theorem dX3_goBack_46 : decode cX3_goBack 46 = .ok (.goto 4, 3) := by decide +kernel
theorem dX3_goBack_49 : decode cX3_goBack 49 = .ok (.aconst_null, 1) := by decide +kernel
theorem dX3_goBack_50 : decode cX3_goBack 50 = .ok (.astore_n 2, 1) := by decide +kernel
theorem dX3_goBack_51 : decode cX3_goBack 51 = .ok (.aload_n 2, 1) := by decide +kernel
theorem dX3_goBack_52 : decode cX3_goBack 52 = .ok (.ifnonnull 5, 3) := by decide +kernel
theorem dX3_goBack_55 : decode cX3_goBack 55 = .ok (.iconst 0, 1) := by decide +kernel
theorem dX3_goBack_56 : decode cX3_goBack 56 = .ok (.ireturn, 1) := by decide +kernel
theorem dX3_goBack_57 : decode cX3_goBack 57 = .ok (.aload_n 0, 1) := by decide +kernel
theorem dX3_goBack_58 : decode cX3_goBack 58 = .ok (.dup, 1) := by decide +kernel
theorem dX3_goBack_59 : decode cX3_goBack 59 = .ok (.getfield 22, 3) := by decide +kernel
theorem dX3_goBack_62 : decode cX3_goBack 62 = .ok (.iconst 1, 1) := by decide +kernel
theorem dX3_goBack_63 : decode cX3_goBack 63 = .ok (.isub, 1) := by decide +kernel
theorem dX3_goBack_64 : decode cX3_goBack 64 = .ok (.putfield 22, 3) := by decide +kernel
theorem dX3_goBack_67 : decode cX3_goBack 67 = .ok (.aload_n 1, 1) := by decide +kernel
theorem dX3_goBack_68 : decode cX3_goBack 68 = .ok (.getfield 33, 3) := by decide +kernel
theorem dX3_goBack_71 : decode cX3_goBack 71 = .ok (.aload_n 2, 1) := by decide +kernel
theorem dX3_goBack_72 : decode cX3_goBack 72 = .ok (.invokevirtual 39, 3) := by decide +kernel
theorem dX3_goBack_75 : decode cX3_goBack 75 = .ok (.aload_n 1, 1) := by decide +kernel
theorem dX3_goBack_76 : decode cX3_goBack 76 = .ok (.getfield 43, 3) := by decide +kernel
theorem dX3_goBack_79 : decode cX3_goBack 79 = .ok (.aload_n 0, 1) := by decide +kernel
theorem dX3_goBack_80 : decode cX3_goBack 80 = .ok (.getfield 17, 3) := by decide +kernel
theorem dX3_goBack_83 : decode cX3_goBack 83 = .ok (.aload_n 0, 1) := by decide +kernel
theorem dX3_goBack_84 : decode cX3_goBack 84 = .ok (.getfield 26, 3) := by decide +kernel
theorem dX3_goBack_87 : decode cX3_goBack 87 = .ok (.iaload, 1) := by decide +kernel
theorem dX3_goBack_88 : decode cX3_goBack 88 = .ok (.invokevirtual 56, 3) := by decide +kernel
theorem dX3_goBack_91 : decode cX3_goBack 91 = .ok (.iconst 1, 1) := by decide +kernel
theorem dX3_goBack_92 : decode cX3_goBack 92 = .ok (.ireturn, 1) := by decide +kernel
theorem dX4_init_0 : decode cX4_init 0 = .ok (.aload_n 0, 1) := by decide +kernel
theorem dX4_init_1 : decode cX4_init 1 = .ok (.invokespecial 3, 3) := by decide +kernel
theorem dX4_init_4 : decode cX4_init 4 = .ok (.aload_n 0, 1) := by decide +kernel
theorem dX4_init_5 : decode cX4_init 5 = .ok (.sipush 216, 3) := by decide +kernel
theorem dX4_init_8 : decode cX4_init 8 = .ok (.newarray .int, 2) := by decide +kernel
theorem dX4_init_10 : decode cX4_init 10 = .ok (.putfield 11, 3) := by decide +kernel
theorem dX4_init_13 : decode cX4_init 13 = .ok (.aload_n 0, 1) := by decide +kernel
theorem dX4_init_14 : decode cX4_init 14 = .ok (.sipush 216, 3) := by decide +kernel
theorem dX4_init_17 : decode cX4_init 17 = .ok (.newarray .int, 2) := by decide +kernel
theorem dX4_init_19 : decode cX4_init 19 = .ok (.putfield 15, 3) := by decide +kernel
theorem dX4_init_22 : decode cX4_init 22 = .ok (.aload_n 0, 1) := by decide +kernel
theorem dX4_init_23 : decode cX4_init 23 = .ok (.sipush 216, 3) := by decide +kernel
theorem dX4_init_26 : decode cX4_init 26 = .ok (.newarray .int, 2) := by decide +kernel
theorem dX4_init_28 : decode cX4_init 28 = .ok (.putfield 18, 3) := by decide +kernel
theorem dX4_init_31 : decode cX4_init 31 = .ok (.aload_n 0, 1) := by decide +kernel
theorem dX4_init_32 : decode cX4_init 32 = .ok (.bipush 16, 2) := by decide +kernel
theorem dX4_init_34 : decode cX4_init 34 = .ok (.newarray .int, 2) := by decide +kernel
theorem dX4_init_36 : decode cX4_init 36 = .ok (.putfield 21, 3) := by decide +kernel
theorem dX4_init_39 : decode cX4_init 39 = .ok (.iconst 0, 1) := by decide +kernel
theorem dX4_init_40 : decode cX4_init 40 = .ok (.istore_n 1, 1) := by decide +kernel
theorem dX4_init_41 : decode cX4_init 41 = .ok (.iload_n 1, 1) := by decide +kernel
theorem dX4_init_42 : decode cX4_init 42 = .ok (.sipush 216, 3) := by decide +kernel
theorem dX4_init_45 : decode cX4_init 45 = .ok (.if_icmp .ge 72, 3) := by decide +kernel
theorem dX4_init_48 : decode cX4_init 48 = .ok (.iload_n 1, 1) := by decide +kernel
theorem dX4_init_49 : decode cX4_init 49 = .ok (.bipush 36, 2) := by decide +kernel
theorem dX4_init_51 : decode cX4_init 51 = .ok (.idiv, 1) := by decide +kernel
theorem dX4_init_52 : decode cX4_init 52 = .ok (.istore_n 2, 1) := by decide +kernel
theorem dX4_init_53 : decode cX4_init 53 = .ok (.iload_n 1, 1) := by decide +kernel
theorem dX4_init_54 : decode cX4_init 54 = .ok (.bipush 6, 2) := by decide +kernel
theorem dX4_init_56 : decode cX4_init 56 = .ok (.idiv, 1) := by decide +kernel
theorem dX4_init_57 : decode cX4_init 57 = .ok (.bipush 6, 2) := by decide +kernel
theorem dX4_init_59 : decode cX4_init 59 = .ok (.irem, 1) := by decide +kernel
theorem dX4_init_60 : decode cX4_init 60 = .ok (.istore_n 3, 1) := by decide +kernel
theorem dX4_init_61 : decode cX4_init 61 = .ok (.iload_n 1, 1) := by decide +kernel
theorem dX4_init_62 : decode cX4_init 62 = .ok (.bipush 6, 2) := by decide +kernel
theorem dX4_init_64 : decode cX4_init 64 = .ok (.irem, 1) := by decide +kernel
theorem dX4_init_65 : decode cX4_init 65 = .ok (.istore 4, 2) := by decide +kernel
theorem dX4_init_67 : decode cX4_init 67 = .ok (.aload_n 0, 1) := by decide +kernel
theorem dX4_init_68 : decode cX4_init 68 = .ok (.getfield 11, 3) := by decide +kernel
theorem dX4_init_71 : decode cX4_init 71 = .ok (.iload_n 1, 1) := by decide +kernel
theorem dX4_init_72 : decode cX4_init 72 = .ok (.iconst 1, 1) := by decide +kernel
theorem dX4_init_73 : decode cX4_init 73 = .ok (.iload_n 2, 1) := by decide +kernel
theorem dX4_init_74 : decode cX4_init 74 = .ok (.ishl, 1) := by decide +kernel
theorem dX4_init_75 : decode cX4_init 75 = .ok (.iconst 1, 1) := by decide +kernel
theorem dX4_init_76 : decode cX4_init 76 = .ok (.bipush 6, 2) := by decide +kernel
theorem dX4_init_78 : decode cX4_init 78 = .ok (.iload_n 3, 1) := by decide +kernel
theorem dX4_init_79 : decode cX4_init 79 = .ok (.iadd, 1) := by decide +kernel
theorem dX4_init_80 : decode cX4_init 80 = .ok (.ishl, 1) := by decide +kernel
theorem dX4_init_81 : decode cX4_init 81 = .ok (.ior, 1) := by decide +kernel
theorem dX4_init_82 : decode cX4_init 82 = .ok (.iconst 1, 1) := by decide +kernel
theorem dX4_init_83 : decode cX4_init 83 = .ok (.bipush 12, 2) := by decide +kernel
theorem dX4_init_85 : decode cX4_init 85 = .ok (.iload 4, 2) := by decide +kernel
theorem dX4_init_87 : decode cX4_init 87 = .ok (.iadd, 1) := by decide +kernel
theorem dX4_init_88 : decode cX4_init 88 = .ok (.ishl, 1) := by decide +kernel
theorem dX4_init_89 : decode cX4_init 89 = .ok (.ior, 1) := by decide +kernel
theorem dX4_init_90 : decode cX4_init 90 = .ok (.iastore, 1) := by decide +kernel
theorem dX4_init_91 : decode cX4_init 91 = .ok (.aload_n 0, 1) := by decide +kernel
theorem dX4_init_92 : decode cX4_init 92 = .ok (.getfield 15, 3) := by decide +kernel
theorem dX4_init_95 : decode cX4_init 95 = .ok (.iload_n 1, 1) := by decide +kernel
theorem dX4_init_96 : decode cX4_init 96 = .ok (.iconst 0, 1) := by decide +kernel
theorem dX4_init_97 : decode cX4_init 97 = .ok (.iload_n 2, 1) := by decide +kernel
theorem dX4_init_98 : decode cX4_init 98 = .ok (.invokestatic 24, 3) := by decide +kernel
theorem dX4_init_101 : decode cX4_init 101 = .ok (.iload_n 3, 1) := by decide +kernel
theorem dX4_init_102 : decode cX4_init 102 = .ok (.invokestatic 24, 3) := by decide +kernel
theorem dX4_init_105 : decode cX4_init 105 = .ok (.iload 4, 2) := by decide +kernel
theorem dX4_init_107 : decode cX4_init 107 = .ok (.invokestatic 24, 3) := by decide +kernel
theorem dX4_init_110 : decode cX4_init 110 = .ok (.iastore, 1) := by decide +kernel
theorem dX4_init_111 : decode cX4_init 111 = .ok (.iinc 1 1, 3) := by decide +kernel
theorem dX4_init_114 : decode cX4_init 114 = .ok (.goto (-73), 3) := by decide +kernel
theorem dX4_init_117 : decode cX4_init 117 = .ok (.aload_n 0, 1) := by decide +kernel
theorem dX4_init_118 : decode cX4_init 118 = .ok (.bipush (-2), 2) := by decide +kernel
theorem dX4_init_120 : decode cX4_init 120 = .ok (.putfield 28, 3) := by decide +kernel
theorem dX4_init_123 : decode cX4_init 123 = .ok (.aload_n 0, 1) := by decide +kernel
theorem dX4_init_124 : decode cX4_init 124 = .ok (.bipush (-2), 2) := by decide +kernel
theorem dX4_init_126 : decode cX4_init 126 = .ok (.putfield 32, 3) := by decide +kernel
theorem dX4_init_129 : decode cX4_init 129 = .ok (.return_, 1) := by decide +kernel
theorem dX4_oneMore_0 : decode cX4_oneMore 0 = .ok (.iload_n 0, 1) := by decide +kernel
theorem dX4_oneMore_1 : decode cX4_oneMore 1 = .ok (.iconst 3, 1) := by decide +kernel
theorem dX4_oneMore_2 : decode cX4_oneMore 2 = .ok (.iload_n 1, 1) := by decide +kernel
theorem dX4_oneMore_3 : decode cX4_oneMore 3 = .ok (.imul, 1) := by decide +kernel
theorem dX4_oneMore_4 : decode cX4_oneMore 4 = .ok (.ishr, 1) := by decide +kernel
theorem dX4_oneMore_5 : decode cX4_oneMore 5 = .ok (.bipush 7, 2) := by decide +kernel
theorem dX4_oneMore_7 : decode cX4_oneMore 7 = .ok (.iand, 1) := by decide +kernel
theorem dX4_oneMore_8 : decode cX4_oneMore 8 = .ok (.istore_n 2, 1) := by decide +kernel
theorem dX4_oneMore_9 : decode cX4_oneMore 9 = .ok (.iload_n 0, 1) := by decide +kernel
theorem dX4_oneMore_10 : decode cX4_oneMore 10 = .ok (.iload_n 2, 1) := by decide +kernel
theorem dX4_oneMore_11 : decode cX4_oneMore 11 = .ok (.iconst 1, 1) := by decide +kernel
theorem dX4_oneMore_12 : decode cX4_oneMore 12 = .ok (.iadd, 1) := by decide +kernel
theorem dX4_oneMore_13 : decode cX4_oneMore 13 = .ok (.iconst 3, 1) := by decide +kernel
theorem dX4_oneMore_14 : decode cX4_oneMore 14 = .ok (.iload_n 1, 1) := by decide +kernel
theorem dX4_oneMore_15 : decode cX4_oneMore 15 = .ok (.imul, 1) := by decide +kernel
theorem dX4_oneMore_16 : decode cX4_oneMore 16 = .ok (.ishl, 1) := by decide +kernel
theorem dX4_oneMore_17 : decode cX4_oneMore 17 = .ok (.ior, 1) := by decide +kernel
theorem dX4_oneMore_18 : decode cX4_oneMore 18 = .ok (.ireturn, 1) := by decide +kernel
theorem dX4_numberOf_0 : decode cX4_numberOf 0 = .ok (.iload_n 0, 1) := by decide +kernel
theorem dX4_numberOf_1 : decode cX4_numberOf 1 = .ok (.ifCond .lt 29, 3) := by decide +kernel
theorem dX4_numberOf_4 : decode cX4_numberOf 4 = .ok (.iload_n 0, 1) := by decide +kernel
theorem dX4_numberOf_5 : decode cX4_numberOf 5 = .ok (.sipush 555, 3) := by decide +kernel
theorem dX4_numberOf_8 : decode cX4_numberOf 8 = .ok (.if_icmp .gt 22, 3) := by decide +kernel
theorem dX4_numberOf_11 : decode cX4_numberOf 11 = .ok (.iload_n 0, 1) := by decide +kernel
theorem dX4_numberOf_12 : decode cX4_numberOf 12 = .ok (.bipush 10, 2) := by decide +kernel
theorem dX4_numberOf_14 : decode cX4_numberOf 14 = .ok (.idiv, 1) := by decide +kernel
theorem dX4_numberOf_15 : decode cX4_numberOf 15 = .ok (.bipush 10, 2) := by decide +kernel
theorem dX4_numberOf_17 : decode cX4_numberOf 17 = .ok (.irem, 1) := by decide +kernel
theorem dX4_numberOf_18 : decode cX4_numberOf 18 = .ok (.iconst 5, 1) := by decide +kernel
theorem dX4_numberOf_19 : decode cX4_numberOf 19 = .ok (.if_icmp .gt 11, 3) := by decide +kernel
theorem dX4_numberOf_22 : decode cX4_numberOf 22 = .ok (.iload_n 0, 1) := by decide +kernel
theorem dX4_numberOf_23 : decode cX4_numberOf 23 = .ok (.bipush 10, 2) := by decide +kernel
theorem dX4_numberOf_25 : decode cX4_numberOf 25 = .ok (.irem, 1) := by decide +kernel
theorem dX4_numberOf_26 : decode cX4_numberOf 26 = .ok (.iconst 5, 1) := by decide +kernel
theorem dX4_numberOf_27 : decode cX4_numberOf 27 = .ok (.if_icmp .le 5, 3) := by decide +kernel
theorem dX4_numberOf_30 : decode cX4_numberOf 30 = .ok (.iconst (-1), 1) := by decide +kernel
theorem dX4_numberOf_31 : decode cX4_numberOf 31 = .ok (.ireturn, 1) := by decide +kernel
theorem dX4_numberOf_32 : decode cX4_numberOf 32 = .ok (.iload_n 0, 1) := by decide +kernel
theorem dX4_numberOf_33 : decode cX4_numberOf 33 = .ok (.bipush 100, 2) := by decide +kernel
theorem dX4_numberOf_35 : decode cX4_numberOf 35 = .ok (.idiv, 1) := by decide +kernel
theorem dX4_numberOf_36 : decode cX4_numberOf 36 = .ok (.bipush 36, 2) := by decide +kernel
theorem dX4_numberOf_38 : decode cX4_numberOf 38 = .ok (.imul, 1) := by decide +kernel
theorem dX4_numberOf_39 : decode cX4_numberOf 39 = .ok (.iload_n 0, 1) := by decide +kernel
theorem dX4_numberOf_40 : decode cX4_numberOf 40 = .ok (.bipush 10, 2) := by decide +kernel
theorem dX4_numberOf_42 : decode cX4_numberOf 42 = .ok (.idiv, 1) := by decide +kernel
theorem dX4_numberOf_43 : decode cX4_numberOf 43 = .ok (.bipush 10, 2) := by decide +kernel
theorem dX4_numberOf_45 : decode cX4_numberOf 45 = .ok (.irem, 1) := by decide +kernel
theorem dX4_numberOf_46 : decode cX4_numberOf 46 = .ok (.bipush 6, 2) := by decide +kernel
theorem dX4_numberOf_48 : decode cX4_numberOf 48 = .ok (.imul, 1) := by decide +kernel
theorem dX4_numberOf_49 : decode cX4_numberOf 49 = .ok (.iadd, 1) := by decide +kernel
theorem dX4_numberOf_50 : decode cX4_numberOf 50 = .ok (.iload_n 0, 1) := by decide +kernel
theorem dX4_numberOf_51 : decode cX4_numberOf 51 = .ok (.bipush 10, 2) := by decide +kernel
theorem dX4_numberOf_53 : decode cX4_numberOf 53 = .ok (.irem, 1) := by decide +kernel
theorem dX4_numberOf_54 : decode cX4_numberOf 54 = .ok (.iadd, 1) := by decide +kernel
theorem dX4_numberOf_55 : decode cX4_numberOf 55 = .ok (.ireturn, 1) := by decide +kernel
theorem dX4_digitsOf_0 : decode cX4_digitsOf 0 = .ok (.iload_n 0, 1) := by decide +kernel
theorem dX4_digitsOf_1 : decode cX4_digitsOf 1 = .ok (.bipush 36, 2) := by decide +kernel
theorem dX4_digitsOf_3 : decode cX4_digitsOf 3 = .ok (.idiv, 1) := by decide +kernel
theorem dX4_digitsOf_4 : decode cX4_digitsOf 4 = .ok (.bipush 100, 2) := by decide +kernel
theorem dX4_digitsOf_6 : decode cX4_digitsOf 6 = .ok (.imul, 1) := by decide +kernel
theorem dX4_digitsOf_7 : decode cX4_digitsOf 7 = .ok (.iload_n 0, 1) := by decide +kernel
theorem dX4_digitsOf_8 : decode cX4_digitsOf 8 = .ok (.bipush 6, 2) := by decide +kernel
theorem dX4_digitsOf_10 : decode cX4_digitsOf 10 = .ok (.idiv, 1) := by decide +kernel
theorem dX4_digitsOf_11 : decode cX4_digitsOf 11 = .ok (.bipush 6, 2) := by decide +kernel
theorem dX4_digitsOf_13 : decode cX4_digitsOf 13 = .ok (.irem, 1) := by decide +kernel
theorem dX4_digitsOf_14 : decode cX4_digitsOf 14 = .ok (.bipush 10, 2) := by decide +kernel
theorem dX4_digitsOf_16 : decode cX4_digitsOf 16 = .ok (.imul, 1) := by decide +kernel
theorem dX4_digitsOf_17 : decode cX4_digitsOf 17 = .ok (.iadd, 1) := by decide +kernel
theorem dX4_digitsOf_18 : decode cX4_digitsOf 18 = .ok (.iload_n 0, 1) := by decide +kernel
theorem dX4_digitsOf_19 : decode cX4_digitsOf 19 = .ok (.bipush 6, 2) := by decide +kernel
theorem dX4_digitsOf_21 : decode cX4_digitsOf 21 = .ok (.irem, 1) := by decide +kernel
theorem dX4_digitsOf_22 : decode cX4_digitsOf 22 = .ok (.iadd, 1) := by decide +kernel
theorem dX4_digitsOf_23 : decode cX4_digitsOf 23 = .ok (.ireturn, 1) := by decide +kernel
theorem dX4_forget_0 : decode cX4_forget 0 = .ok (.aload_n 0, 1) := by decide +kernel
theorem dX4_forget_1 : decode cX4_forget 1 = .ok (.bipush (-2), 2) := by decide +kernel
theorem dX4_forget_3 : decode cX4_forget 3 = .ok (.putfield 28, 3) := by decide +kernel
theorem dX4_forget_6 : decode cX4_forget 6 = .ok (.aload_n 0, 1) := by decide +kernel
theorem dX4_forget_7 : decode cX4_forget 7 = .ok (.bipush (-2), 2) := by decide +kernel
theorem dX4_forget_9 : decode cX4_forget 9 = .ok (.putfield 32, 3) := by decide +kernel
theorem dX4_forget_12 : decode cX4_forget 12 = .ok (.return_, 1) := by decide +kernel
theorem dX4_told_0 : decode cX4_told 0 = .ok (.iconst 4, 1) := by decide +kernel
theorem dX4_told_1 : decode cX4_told 1 = .ok (.aload_n 0, 1) := by decide +kernel
theorem dX4_told_2 : decode cX4_told 2 = .ok (.getfield 11, 3) := by decide +kernel
theorem dX4_told_5 : decode cX4_told 5 = .ok (.iload_n 1, 1) := by decide +kernel
theorem dX4_told_6 : decode cX4_told 6 = .ok (.iaload, 1) := by decide +kernel
theorem dX4_told_7 : decode cX4_told 7 = .ok (.aload_n 0, 1) := by decide +kernel
theorem dX4_told_8 : decode cX4_told 8 = .ok (.getfield 11, 3) := by decide +kernel
theorem dX4_told_11 : decode cX4_told 11 = .ok (.iload_n 2, 1) := by decide +kernel
theorem dX4_told_12 : decode cX4_told 12 = .ok (.iaload, 1) := by decide +kernel
theorem dX4_told_13 : decode cX4_told 13 = .ok (.iand, 1) := by decide +kernel
theorem dX4_told_14 : decode cX4_told 14 = .ok (.invokestatic 35, 3) := by decide +kernel
theorem dX4_told_17 : decode cX4_told 17 = .ok (.imul, 1) := by decide +kernel
theorem dX4_told_18 : decode cX4_told 18 = .ok (.aload_n 0, 1) := by decide +kernel
theorem dX4_told_19 : decode cX4_told 19 = .ok (.getfield 15, 3) := by decide +kernel
theorem dX4_told_22 : decode cX4_told 22 = .ok (.iload_n 1, 1) := by decide +kernel
theorem dX4_told_23 : decode cX4_told 23 = .ok (.iaload, 1) := by decide +kernel
theorem dX4_told_24 : decode cX4_told 24 = .ok (.aload_n 0, 1) := by decide +kernel
theorem dX4_told_25 : decode cX4_told 25 = .ok (.getfield 15, 3) := by decide +kernel
theorem dX4_told_28 : decode cX4_told 28 = .ok (.iload_n 2, 1) := by decide +kernel
theorem dX4_told_29 : decode cX4_told 29 = .ok (.iaload, 1) := by decide +kernel
theorem dX4_told_30 : decode cX4_told 30 = .ok (.iand, 1) := by decide +kernel
theorem dX4_told_31 : decode cX4_told 31 = .ok (.invokestatic 35, 3) := by decide +kernel
theorem dX4_told_34 : decode cX4_told 34 = .ok (.iadd, 1) := by decide +kernel
theorem dX4_told_35 : decode cX4_told 35 = .ok (.ireturn, 1) := by decide +kernel
theorem dX4_study_0 : decode cX4_study 0 = .ok (.aload_n 0, 1) := by decide +kernel
theorem dX4_study_1 : decode cX4_study 1 = .ok (.getfield 28, 3) := by decide +kernel
theorem dX4_study_4 : decode cX4_study 4 = .ok (.bipush (-2), 2) := by decide +kernel
theorem dX4_study_6 : decode cX4_study 6 = .ok (.if_icmp .eq 4, 3) := by decide +kernel
theorem dX4_study_9 : decode cX4_study 9 = .ok (.return_, 1) := by decide +kernel
theorem dX4_study_10 : decode cX4_study 10 = .ok (.aload_n 0, 1) := by decide +kernel
theorem dX4_study_11 : decode cX4_study 11 = .ok (.iconst 0, 1) := by decide +kernel
theorem dX4_study_12 : decode cX4_study 12 = .ok (.putfield 28, 3) := by decide +kernel
theorem dX4_study_15 : decode cX4_study 15 = .ok (.iconst 0, 1) := by decide +kernel
theorem dX4_study_16 : decode cX4_study 16 = .ok (.istore_n 2, 1) := by decide +kernel
theorem dX4_study_17 : decode cX4_study 17 = .ok (.iload_n 2, 1) := by decide +kernel
theorem dX4_study_18 : decode cX4_study 18 = .ok (.sipush 216, 3) := by decide +kernel
theorem dX4_study_21 : decode cX4_study 21 = .ok (.if_icmp .ge 38, 3) := by decide +kernel
theorem dX4_study_24 : decode cX4_study 24 = .ok (.aload_n 0, 1) := by decide +kernel
theorem dX4_study_25 : decode cX4_study 25 = .ok (.iload_n 2, 1) := by decide +kernel
theorem dX4_study_26 : decode cX4_study 26 = .ok (.aload_n 1, 1) := by decide +kernel
theorem dX4_study_27 : decode cX4_study 27 = .ok (.invokevirtual 41, 3) := by decide +kernel
theorem dX4_study_30 : decode cX4_study 30 = .ok (.ifCond .eq 23, 3) := by decide +kernel
theorem dX4_study_33 : decode cX4_study 33 = .ok (.aload_n 0, 1) := by decide +kernel
theorem dX4_study_34 : decode cX4_study 34 = .ok (.getfield 18, 3) := by decide +kernel
theorem dX4_study_37 : decode cX4_study 37 = .ok (.aload_n 0, 1) := by decide +kernel
theorem dX4_study_38 : decode cX4_study 38 = .ok (.getfield 28, 3) := by decide +kernel
theorem dX4_study_41 : decode cX4_study 41 = .ok (.iload_n 2, 1) := by decide +kernel
theorem dX4_study_42 : decode cX4_study 42 = .ok (.iastore, 1) := by decide +kernel
theorem dX4_study_43 : decode cX4_study 43 = .ok (.aload_n 0, 1) := by decide +kernel
theorem dX4_study_44 : decode cX4_study 44 = .ok (.dup, 1) := by decide +kernel
theorem dX4_study_45 : decode cX4_study 45 = .ok (.getfield 28, 3) := by decide +kernel
theorem dX4_study_48 : decode cX4_study 48 = .ok (.iconst 1, 1) := by decide +kernel
theorem dX4_study_49 : decode cX4_study 49 = .ok (.iadd, 1) := by decide +kernel
theorem dX4_study_50 : decode cX4_study 50 = .ok (.putfield 28, 3) := by decide +kernel
theorem dX4_study_53 : decode cX4_study 53 = .ok (.iinc 2 1, 3) := by decide +kernel
theorem dX4_study_56 : decode cX4_study 56 = .ok (.goto (-39), 3) := by decide +kernel
theorem dX4_study_59 : decode cX4_study 59 = .ok (.return_, 1) := by decide +kernel
theorem dX4_canBe_0 : decode cX4_canBe 0 = .ok (.iconst 0, 1) := by decide +kernel
theorem dX4_canBe_1 : decode cX4_canBe 1 = .ok (.istore_n 3, 1) := by decide +kernel
theorem dX4_canBe_2 : decode cX4_canBe 2 = .ok (.iload_n 3, 1) := by decide +kernel
theorem dX4_canBe_3 : decode cX4_canBe 3 = .ok (.aload_n 2, 1) := by decide +kernel
theorem dX4_canBe_4 : decode cX4_canBe 4 = .ok (.getfield 45, 3) := by decide +kernel
theorem dX4_canBe_7 : decode cX4_canBe 7 = .ok (.if_icmp .ge 59, 3) := by decide +kernel
theorem dX4_canBe_10 : decode cX4_canBe 10 = .ok (.aload_n 2, 1) := by decide +kernel
theorem dX4_canBe_11 : decode cX4_canBe 11 = .ok (.iload_n 3, 1) := by decide +kernel
theorem dX4_canBe_12 : decode cX4_canBe 12 = .ok (.iconst 0, 1) := by decide +kernel
theorem dX4_canBe_13 : decode cX4_canBe 13 = .ok (.invokevirtual 50, 3) := by decide +kernel
theorem dX4_canBe_16 : decode cX4_canBe 16 = .ok (.istore 4, 2) := by decide +kernel
theorem dX4_canBe_18 : decode cX4_canBe 18 = .ok (.aload_n 2, 1) := by decide +kernel
theorem dX4_canBe_19 : decode cX4_canBe 19 = .ok (.iload_n 3, 1) := by decide +kernel
theorem dX4_canBe_20 : decode cX4_canBe 20 = .ok (.iconst 1, 1) := by decide +kernel
theorem dX4_canBe_21 : decode cX4_canBe 21 = .ok (.invokevirtual 50, 3) := by decide +kernel
theorem dX4_canBe_24 : decode cX4_canBe 24 = .ok (.istore 5, 2) := by decide +kernel
theorem dX4_canBe_26 : decode cX4_canBe 26 = .ok (.iload 4, 2) := by decide +kernel
theorem dX4_canBe_28 : decode cX4_canBe 28 = .ok (.sipush 216, 3) := by decide +kernel
theorem dX4_canBe_31 : decode cX4_canBe 31 = .ok (.invokestatic 53, 3) := by decide +kernel
theorem dX4_canBe_34 : decode cX4_canBe 34 = .ok (.ifCond .eq 26, 3) := by decide +kernel
theorem dX4_canBe_37 : decode cX4_canBe 37 = .ok (.aload_n 0, 1) := by decide +kernel
theorem dX4_canBe_38 : decode cX4_canBe 38 = .ok (.iload 4, 2) := by decide +kernel
theorem dX4_canBe_40 : decode cX4_canBe 40 = .ok (.iload_n 1, 1) := by decide +kernel
theorem dX4_canBe_41 : decode cX4_canBe 41 = .ok (.invokevirtual 57, 3) := by decide +kernel
theorem dX4_canBe_44 : decode cX4_canBe 44 = .ok (.iconst 5, 1) := by decide +kernel
theorem dX4_canBe_45 : decode cX4_canBe 45 = .ok (.iload 5, 2) := by decide +kernel
theorem dX4_canBe_47 : decode cX4_canBe 47 = .ok (.imul, 1) := by decide +kernel
theorem dX4_canBe_48 : decode cX4_canBe 48 = .ok (.aload_n 2, 1) := by decide +kernel
theorem dX4_canBe_49 : decode cX4_canBe 49 = .ok (.iload_n 3, 1) := by decide +kernel
theorem dX4_canBe_50 : decode cX4_canBe 50 = .ok (.iconst 2, 1) := by decide +kernel
theorem dX4_canBe_51 : decode cX4_canBe 51 = .ok (.invokevirtual 50, 3) := by decide +kernel
theorem dX4_canBe_54 : decode cX4_canBe 54 = .ok (.iadd, 1) := by decide +kernel
theorem dX4_canBe_55 : decode cX4_canBe 55 = .ok (.if_icmp .eq 5, 3) := by decide +kernel
theorem dX4_canBe_58 : decode cX4_canBe 58 = .ok (.iconst 0, 1) := by decide +kernel
theorem dX4_canBe_59 : decode cX4_canBe 59 = .ok (.ireturn, 1) := by decide +kernel
theorem dX4_canBe_60 : decode cX4_canBe 60 = .ok (.iinc 3 1, 3) := by decide +kernel
theorem dX4_canBe_63 : decode cX4_canBe 63 = .ok (.goto (-61), 3) := by decide +kernel
theorem dX4_canBe_66 : decode cX4_canBe 66 = .ok (.iconst 1, 1) := by decide +kernel
theorem dX4_canBe_67 : decode cX4_canBe 67 = .ok (.ireturn, 1) := by decide +kernel
theorem dX4_least_0 : decode cX4_least 0 = .ok (.aload_n 0, 1) := by decide +kernel
theorem dX4_least_1 : decode cX4_least 1 = .ok (.getfield 28, 3) := by decide +kernel
theorem dX4_least_4 : decode cX4_least 4 = .ok (.ifCond .le 15, 3) := by decide +kernel
theorem dX4_least_7 : decode cX4_least 7 = .ok (.aload_n 0, 1) := by decide +kernel
theorem dX4_least_8 : decode cX4_least 8 = .ok (.getfield 18, 3) := by decide +kernel
theorem dX4_least_11 : decode cX4_least 11 = .ok (.iconst 0, 1) := by decide +kernel
theorem dX4_least_12 : decode cX4_least 12 = .ok (.iaload, 1) := by decide +kernel
theorem dX4_least_13 : decode cX4_least 13 = .ok (.invokestatic 60, 3) := by decide +kernel
theorem dX4_least_16 : decode cX4_least 16 = .ok (.goto 4, 3) := by decide +kernel
theorem dX4_least_19 : decode cX4_least 19 = .ok (.iconst (-1), 1) := by decide +kernel
theorem dX4_least_20 : decode cX4_least 20 = .ok (.ireturn, 1) := by decide +kernel
theorem dX4_best_0 : decode cX4_best 0 = .ok (.aload_n 0, 1) := by decide +kernel
theorem dX4_best_1 : decode cX4_best 1 = .ok (.getfield 28, 3) := by decide +kernel
theorem dX4_best_4 : decode cX4_best 4 = .ok (.ifCond .gt 5, 3) := by decide +kernel
theorem dX4_best_7 : decode cX4_best 7 = .ok (.iconst (-1), 1) := by decide +kernel
theorem dX4_best_8 : decode cX4_best 8 = .ok (.ireturn, 1) := by decide +kernel
theorem dX4_best_9 : decode cX4_best 9 = .ok (.aload_n 0, 1) := by decide +kernel
theorem dX4_best_10 : decode cX4_best 10 = .ok (.getfield 32, 3) := by decide +kernel
theorem dX4_best_13 : decode cX4_best 13 = .ok (.bipush (-2), 2) := by decide +kernel
theorem dX4_best_15 : decode cX4_best 15 = .ok (.if_icmp .ne 41, 3) := by decide +kernel
theorem dX4_best_18 : decode cX4_best 18 = .ok (.sipush 217, 3) := by decide +kernel
theorem dX4_best_21 : decode cX4_best 21 = .ok (.istore_n 1, 1) := by decide +kernel
theorem dX4_best_22 : decode cX4_best 22 = .ok (.iconst 0, 1) := by decide +kernel
theorem dX4_best_23 : decode cX4_best 23 = .ok (.istore_n 2, 1) := by decide +kernel
theorem dX4_best_24 : decode cX4_best 24 = .ok (.iload_n 2, 1) := by decide +kernel
theorem dX4_best_25 : decode cX4_best 25 = .ok (.sipush 216, 3) := by decide +kernel
theorem dX4_best_28 : decode cX4_best 28 = .ok (.if_icmp .ge 28, 3) := by decide +kernel
theorem dX4_best_31 : decode cX4_best 31 = .ok (.aload_n 0, 1) := by decide +kernel
theorem dX4_best_32 : decode cX4_best 32 = .ok (.iload_n 2, 1) := by decide +kernel
theorem dX4_best_33 : decode cX4_best 33 = .ok (.iload_n 1, 1) := by decide +kernel
theorem dX4_best_34 : decode cX4_best 34 = .ok (.invokevirtual 63, 3) := by decide +kernel
theorem dX4_best_37 : decode cX4_best 37 = .ok (.istore_n 3, 1) := by decide +kernel
theorem dX4_best_38 : decode cX4_best 38 = .ok (.iload_n 3, 1) := by decide +kernel
theorem dX4_best_39 : decode cX4_best 39 = .ok (.iload_n 1, 1) := by decide +kernel
theorem dX4_best_40 : decode cX4_best 40 = .ok (.if_icmp .ge 10, 3) := by decide +kernel
theorem dX4_best_43 : decode cX4_best 43 = .ok (.iload_n 3, 1) := by decide +kernel
theorem dX4_best_44 : decode cX4_best 44 = .ok (.istore_n 1, 1) := by decide +kernel
theorem dX4_best_45 : decode cX4_best 45 = .ok (.aload_n 0, 1) := by decide +kernel
theorem dX4_best_46 : decode cX4_best 46 = .ok (.iload_n 2, 1) := by decide +kernel
theorem dX4_best_47 : decode cX4_best 47 = .ok (.putfield 32, 3) := by decide +kernel
theorem dX4_best_50 : decode cX4_best 50 = .ok (.iinc 2 1, 3) := by decide +kernel
theorem dX4_best_53 : decode cX4_best 53 = .ok (.goto (-29), 3) := by decide +kernel
theorem dX4_best_56 : decode cX4_best 56 = .ok (.aload_n 0, 1) := by decide +kernel
theorem dX4_best_57 : decode cX4_best 57 = .ok (.getfield 32, 3) := by decide +kernel
theorem dX4_best_60 : decode cX4_best 60 = .ok (.invokestatic 60, 3) := by decide +kernel
theorem dX4_best_63 : decode cX4_best 63 = .ok (.ireturn, 1) := by decide +kernel
theorem dX4_greatestClass_0 : decode cX4_greatestClass 0 = .ok (.aload_n 0, 1) := by decide +kernel
theorem dX4_greatestClass_1 : decode cX4_greatestClass 1 = .ok (.getfield 21, 3) := by decide +kernel
theorem dX4_greatestClass_4 : decode cX4_greatestClass 4 = .ok (.iconst 0, 1) := by decide +kernel
theorem dX4_greatestClass_5 : decode cX4_greatestClass 5 = .ok (.invokestatic 66, 3) := by decide +kernel
theorem dX4_greatestClass_8 : decode cX4_greatestClass 8 = .ok (.iconst 0, 1) := by decide +kernel
theorem dX4_greatestClass_9 : decode cX4_greatestClass 9 = .ok (.istore_n 3, 1) := by decide +kernel
theorem dX4_greatestClass_10 : decode cX4_greatestClass 10 = .ok (.iconst 0, 1) := by decide +kernel
theorem dX4_greatestClass_11 : decode cX4_greatestClass 11 = .ok (.istore 4, 2) := by decide +kernel
theorem dX4_greatestClass_13 : decode cX4_greatestClass 13 = .ok (.iload 4, 2) := by decide +kernel
theorem dX4_greatestClass_15 : decode cX4_greatestClass 15 = .ok (.aload_n 0, 1) := by decide +kernel
theorem dX4_greatestClass_16 : decode cX4_greatestClass 16 = .ok (.getfield 28, 3) := by decide +kernel
theorem dX4_greatestClass_19 : decode cX4_greatestClass 19 = .ok (.if_icmp .ge 59, 3) := by decide +kernel
theorem dX4_greatestClass_22 : decode cX4_greatestClass 22 = .ok (.iload 4, 2) := by decide +kernel
theorem dX4_greatestClass_24 : decode cX4_greatestClass 24 = .ok (.sipush 216, 3) := by decide +kernel
theorem dX4_greatestClass_27 : decode cX4_greatestClass 27 = .ok (.if_icmp .ge 51, 3) := by decide +kernel
theorem dX4_greatestClass_30 : decode cX4_greatestClass 30 = .ok (.iload_n 3, 1) := by decide +kernel
theorem dX4_greatestClass_31 : decode cX4_greatestClass 31 = .ok (.iload_n 2, 1) := by decide +kernel
theorem dX4_greatestClass_32 : decode cX4_greatestClass 32 = .ok (.if_icmp .ge 46, 3) := by decide +kernel
theorem dX4_greatestClass_35 : decode cX4_greatestClass 35 = .ok (.aload_n 0, 1) := by decide +kernel
theorem dX4_greatestClass_36 : decode cX4_greatestClass 36 = .ok (.iload_n 1, 1) := by decide +kernel
theorem dX4_greatestClass_37 : decode cX4_greatestClass 37 = .ok (.aload_n 0, 1) := by decide +kernel
theorem dX4_greatestClass_38 : decode cX4_greatestClass 38 = .ok (.getfield 18, 3) := by decide +kernel
theorem dX4_greatestClass_41 : decode cX4_greatestClass 41 = .ok (.iload 4, 2) := by decide +kernel
theorem dX4_greatestClass_43 : decode cX4_greatestClass 43 = .ok (.iaload, 1) := by decide +kernel
theorem dX4_greatestClass_44 : decode cX4_greatestClass 44 = .ok (.invokevirtual 57, 3) := by decide +kernel
theorem dX4_greatestClass_47 : decode cX4_greatestClass 47 = .ok (.istore 5, 2) := by decide +kernel
theorem dX4_greatestClass_49 : decode cX4_greatestClass 49 = .ok (.aload_n 0, 1) := by decide +kernel
theorem dX4_greatestClass_50 : decode cX4_greatestClass 50 = .ok (.getfield 21, 3) := by decide +kernel
theorem dX4_greatestClass_53 : decode cX4_greatestClass 53 = .ok (.iload 5, 2) := by decide +kernel
theorem dX4_greatestClass_55 : decode cX4_greatestClass 55 = .ok (.dup2, 1) := by decide +kernel
theorem dX4_greatestClass_56 : decode cX4_greatestClass 56 = .ok (.iaload, 1) := by decide +kernel
theorem dX4_greatestClass_57 : decode cX4_greatestClass 57 = .ok (.iconst 1, 1) := by decide +kernel
theorem dX4_greatestClass_58 : decode cX4_greatestClass 58 = .ok (.iadd, 1) := by decide +kernel
theorem dX4_greatestClass_59 : decode cX4_greatestClass 59 = .ok (.iastore, 1) := by decide +kernel
theorem dX4_greatestClass_60 : decode cX4_greatestClass 60 = .ok (.iload_n 3, 1) := by decide +kernel
theorem dX4_greatestClass_61 : decode cX4_greatestClass 61 = .ok (.aload_n 0, 1) := by decide +kernel
theorem dX4_greatestClass_62 : decode cX4_greatestClass 62 = .ok (.getfield 21, 3) := by decide +kernel
theorem dX4_greatestClass_65 : decode cX4_greatestClass 65 = .ok (.iload 5, 2) := by decide +kernel
theorem dX4_greatestClass_67 : decode cX4_greatestClass 67 = .ok (.iaload, 1) := by decide +kernel
theorem dX4_greatestClass_68 : decode cX4_greatestClass 68 = .ok (.invokestatic 72, 3) := by decide +kernel
theorem dX4_greatestClass_71 : decode cX4_greatestClass 71 = .ok (.istore_n 3, 1) := by decide +kernel
theorem dX4_greatestClass_72 : decode cX4_greatestClass 72 = .ok (.iinc 4 1, 3) := by decide +kernel
theorem dX4_greatestClass_75 : decode cX4_greatestClass 75 = .ok (.goto (-62), 3) := by decide +kernel
theorem dX4_greatestClass_78 : decode cX4_greatestClass 78 = .ok (.iload_n 3, 1) := by decide +kernel
theorem dX4_greatestClass_79 : decode cX4_greatestClass 79 = .ok (.ireturn, 1) := by decide +kernel
theorem dX5_init_0 : decode cX5_init 0 = .ok (.aload_n 0, 1) := by decide +kernel
theorem dX5_init_1 : decode cX5_init 1 = .ok (.invokespecial 3, 3) := by decide +kernel
theorem dX5_init_4 : decode cX5_init 4 = .ok (.aload_n 0, 1) := by decide +kernel
theorem dX5_init_5 : decode cX5_init 5 = .ok (.sipush 400, 3) := by decide +kernel
theorem dX5_init_8 : decode cX5_init 8 = .ok (.newarray .int, 2) := by decide +kernel
theorem dX5_init_10 : decode cX5_init 10 = .ok (.putfield 9, 3) := by decide +kernel
theorem dX5_init_13 : decode cX5_init 13 = .ok (.aload_n 0, 1) := by decide +kernel
theorem dX5_init_14 : decode cX5_init 14 = .ok (.sipush 401, 3) := by decide +kernel
theorem dX5_init_17 : decode cX5_init 17 = .ok (.newarray .int, 2) := by decide +kernel
theorem dX5_init_19 : decode cX5_init 19 = .ok (.putfield 15, 3) := by decide +kernel
theorem dX5_init_22 : decode cX5_init 22 = .ok (.aload_n 0, 1) := by decide +kernel
theorem dX5_init_23 : decode cX5_init 23 = .ok (.sipush 401, 3) := by decide +kernel
theorem dX5_init_26 : decode cX5_init 26 = .ok (.newarray .int, 2) := by decide +kernel
theorem dX5_init_28 : decode cX5_init 28 = .ok (.putfield 18, 3) := by decide +kernel
theorem dX5_init_31 : decode cX5_init 31 = .ok (.aload_n 0, 1) := by decide +kernel
theorem dX5_init_32 : decode cX5_init 32 = .ok (.new 21, 3) := by decide +kernel
theorem dX5_init_35 : decode cX5_init 35 = .ok (.dup, 1) := by decide +kernel
theorem dX5_init_36 : decode cX5_init 36 = .ok (.invokespecial 23, 3) := by decide +kernel
theorem dX5_init_39 : decode cX5_init 39 = .ok (.putfield 24, 3) := by decide +kernel
theorem dX5_init_42 : decode cX5_init 42 = .ok (.aload_n 0, 1) := by decide +kernel
theorem dX5_init_43 : decode cX5_init 43 = .ok (.new 28, 3) := by decide +kernel
theorem dX5_init_46 : decode cX5_init 46 = .ok (.dup, 1) := by decide +kernel
theorem dX5_init_47 : decode cX5_init 47 = .ok (.bipush 16, 2) := by decide +kernel
theorem dX5_init_49 : decode cX5_init 49 = .ok (.bipush 6, 2) := by decide +kernel
theorem dX5_init_51 : decode cX5_init 51 = .ok (.invokespecial 30, 3) := by decide +kernel
theorem dX5_init_54 : decode cX5_init 54 = .ok (.putfield 33, 3) := by decide +kernel
theorem dX5_init_57 : decode cX5_init 57 = .ok (.aload_n 0, 1) := by decide +kernel
theorem dX5_init_58 : decode cX5_init 58 = .ok (.iconst (-1), 1) := by decide +kernel
theorem dX5_init_59 : decode cX5_init 59 = .ok (.putfield 37, 3) := by decide +kernel
theorem dX5_init_62 : decode cX5_init 62 = .ok (.return_, 1) := by decide +kernel
theorem dX5_hasRoom_0 : decode cX5_hasRoom 0 = .ok (.aload_n 0, 1) := by decide +kernel
theorem dX5_hasRoom_1 : decode cX5_hasRoom 1 = .ok (.getfield 41, 3) := by decide +kernel
theorem dX5_hasRoom_4 : decode cX5_hasRoom 4 = .ok (.iload_n 1, 1) := by decide +kernel
theorem dX5_hasRoom_5 : decode cX5_hasRoom 5 = .ok (.iadd, 1) := by decide +kernel
theorem dX5_hasRoom_6 : decode cX5_hasRoom 6 = .ok (.sipush 400, 3) := by decide +kernel
theorem dX5_hasRoom_9 : decode cX5_hasRoom 9 = .ok (.if_icmp .gt 7, 3) := by decide +kernel
theorem dX5_hasRoom_12 : decode cX5_hasRoom 12 = .ok (.iconst 1, 1) := by decide +kernel
theorem dX5_hasRoom_13 : decode cX5_hasRoom 13 = .ok (.goto 4, 3) := by decide +kernel
theorem dX5_hasRoom_16 : decode cX5_hasRoom 16 = .ok (.iconst 0, 1) := by decide +kernel
theorem dX5_hasRoom_17 : decode cX5_hasRoom 17 = .ok (.ireturn, 1) := by decide +kernel
theorem dX5_take_0 : decode cX5_take 0 = .ok (.bipush 24, 2) := by decide +kernel
theorem dX5_take_2 : decode cX5_take 2 = .ok (.istore_n 2, 1) := by decide +kernel
theorem dX5_take_3 : decode cX5_take 3 = .ok (.iload_n 2, 1) := by decide +kernel
theorem dX5_take_4 : decode cX5_take 4 = .ok (.ifCond .lt 45, 3) := by decide +kernel
theorem dX5_take_7 : decode cX5_take 7 = .ok (.aload_n 0, 1) := by decide +kernel
theorem dX5_take_8 : decode cX5_take 8 = .ok (.getfield 41, 3) := by decide +kernel
theorem dX5_take_11 : decode cX5_take 11 = .ok (.sipush 400, 3) := by decide +kernel
theorem dX5_take_14 : decode cX5_take 14 = .ok (.if_icmp .ge 35, 3) := by decide +kernel
theorem dX5_take_17 : decode cX5_take 17 = .ok (.aload_n 0, 1) := by decide +kernel
theorem dX5_take_18 : decode cX5_take 18 = .ok (.getfield 9, 3) := by decide +kernel
theorem dX5_take_21 : decode cX5_take 21 = .ok (.aload_n 0, 1) := by decide +kernel
theorem dX5_take_22 : decode cX5_take 22 = .ok (.getfield 41, 3) := by decide +kernel
theorem dX5_take_25 : decode cX5_take 25 = .ok (.iload_n 1, 1) := by decide +kernel
theorem dX5_take_26 : decode cX5_take 26 = .ok (.iload_n 2, 1) := by decide +kernel
theorem dX5_take_27 : decode cX5_take 27 = .ok (.ishr, 1) := by decide +kernel
theorem dX5_take_28 : decode cX5_take 28 = .ok (.sipush 255, 3) := by decide +kernel
theorem dX5_take_31 : decode cX5_take 31 = .ok (.iand, 1) := by decide +kernel
theorem dX5_take_32 : decode cX5_take 32 = .ok (.iastore, 1) := by decide +kernel
theorem dX5_take_33 : decode cX5_take 33 = .ok (.aload_n 0, 1) := by decide +kernel
theorem dX5_take_34 : decode cX5_take 34 = .ok (.dup, 1) := by decide +kernel
theorem dX5_take_35 : decode cX5_take 35 = .ok (.getfield 41, 3) := by decide +kernel
theorem dX5_take_38 : decode cX5_take 38 = .ok (.iconst 1, 1) := by decide +kernel
theorem dX5_take_39 : decode cX5_take 39 = .ok (.iadd, 1) := by decide +kernel
theorem dX5_take_40 : decode cX5_take 40 = .ok (.putfield 41, 3) := by decide +kernel
theorem dX5_take_43 : decode cX5_take 43 = .ok (.iinc 2 (-8), 3) := by decide +kernel
theorem dX5_take_46 : decode cX5_take 46 = .ok (.goto (-43), 3) := by decide +kernel
theorem dX5_take_49 : decode cX5_take 49 = .ok (.return_, 1) := by decide +kernel
theorem dX5_read_0 : decode cX5_read 0 = .ok (.aload_n 0, 1) := by decide +kernel
theorem dX5_read_1 : decode cX5_read 1 = .ok (.iconst 0, 1) := by decide +kernel
theorem dX5_read_2 : decode cX5_read 2 = .ok (.putfield 44, 3) := by decide +kernel
theorem dX5_read_5 : decode cX5_read 5 = .ok (.aload_n 0, 1) := by decide +kernel
theorem dX5_read_6 : decode cX5_read 6 = .ok (.iconst (-1), 1) := by decide +kernel
theorem dX5_read_7 : decode cX5_read 7 = .ok (.putfield 37, 3) := by decide +kernel
theorem dX5_read_10 : decode cX5_read 10 = .ok (.aload_n 0, 1) := by decide +kernel
theorem dX5_read_11 : decode cX5_read 11 = .ok (.iload_n 2, 1) := by decide +kernel
theorem dX5_read_12 : decode cX5_read 12 = .ok (.putfield 47, 3) := by decide +kernel
theorem dX5_read_15 : decode cX5_read 15 = .ok (.aload_n 0, 1) := by decide +kernel
theorem dX5_read_16 : decode cX5_read 16 = .ok (.iload_n 3, 1) := by decide +kernel
theorem dX5_read_17 : decode cX5_read 17 = .ok (.putfield 50, 3) := by decide +kernel
theorem dX5_read_20 : decode cX5_read 20 = .ok (.aload_n 0, 1) := by decide +kernel
theorem dX5_read_21 : decode cX5_read 21 = .ok (.invokevirtual 53, 3) := by decide +kernel
theorem dX5_read_24 : decode cX5_read 24 = .ok (.aload_n 0, 1) := by decide +kernel
theorem dX5_read_25 : decode cX5_read 25 = .ok (.getfield 24, 3) := by decide +kernel
theorem dX5_read_28 : decode cX5_read 28 = .ok (.invokevirtual 56, 3) := by decide +kernel
theorem dX5_read_31 : decode cX5_read 31 = .ok (.aload_n 0, 1) := by decide +kernel
theorem dX5_read_32 : decode cX5_read 32 = .ok (.getfield 33, 3) := by decide +kernel
theorem dX5_read_35 : decode cX5_read 35 = .ok (.invokevirtual 59, 3) := by decide +kernel
theorem dX5_read_38 : decode cX5_read 38 = .ok (.pop, 1) := by decide +kernel
theorem dX5_read_39 : decode cX5_read 39 = .ok (.iload_n 1, 1) := by decide +kernel
theorem dX5_read_40 : decode cX5_read 40 = .ok (.ifCond .lt 8, 3) := by decide +kernel
theorem dX5_read_43 : decode cX5_read 43 = .ok (.iload_n 1, 1) := by decide +kernel
theorem dX5_read_44 : decode cX5_read 44 = .ok (.iconst 3, 1) := by decide +kernel
theorem dX5_read_45 : decode cX5_read 45 = .ok (.if_icmp .le 5, 3) := by decide +kernel
theorem dX5_read_48 : decode cX5_read 48 = .ok (.iconst (-1), 1) := by decide +kernel
theorem dX5_read_49 : decode cX5_read 49 = .ok (.ireturn, 1) := by decide +kernel
theorem dX5_read_50 : decode cX5_read 50 = .ok (.aload_n 0, 1) := by decide +kernel
theorem dX5_read_51 : decode cX5_read 51 = .ok (.iconst 0, 1) := by decide +kernel
theorem dX5_read_52 : decode cX5_read 52 = .ok (.putfield 62, 3) := by decide +kernel
theorem dX5_read_55 : decode cX5_read 55 = .ok (.aload_n 0, 1) := by decide +kernel
theorem dX5_read_56 : decode cX5_read 56 = .ok (.aload_n 0, 1) := by decide +kernel
theorem dX5_read_57 : decode cX5_read 57 = .ok (.getfield 15, 3) := by decide +kernel
theorem dX5_read_60 : decode cX5_read 60 = .ok (.iconst 0, 1) := by decide +kernel
theorem dX5_read_61 : decode cX5_read 61 = .ok (.iaload, 1) := by decide +kernel
theorem dX5_read_62 : decode cX5_read 62 = .ok (.putfield 65, 3) := by decide +kernel
theorem dX5_read_65 : decode cX5_read 65 = .ok (.iconst 0, 1) := by decide +kernel
theorem dX5_read_66 : decode cX5_read 66 = .ok (.istore 4, 2) := by decide +kernel
theorem dX5_read_68 : decode cX5_read 68 = .ok (.iload 4, 2) := by decide +kernel
theorem dX5_read_70 : decode cX5_read 70 = .ok (.sipush 400, 3) := by decide +kernel
theorem dX5_read_73 : decode cX5_read 73 = .ok (.if_icmp .gt 78, 3) := by decide +kernel
theorem dX5_read_76 : decode cX5_read 76 = .ok (.aload_n 0, 1) := by decide +kernel
theorem dX5_read_77 : decode cX5_read 77 = .ok (.getfield 44, 3) := by decide +kernel
theorem dX5_read_80 : decode cX5_read 80 = .ok (.ifCond .ne 71, 3) := by decide +kernel
theorem dX5_read_83 : decode cX5_read 83 = .ok (.aload_n 0, 1) := by decide +kernel
theorem dX5_read_84 : decode cX5_read 84 = .ok (.getfield 65, 3) := by decide +kernel
theorem dX5_read_87 : decode cX5_read 87 = .ok (.sipush 30000, 3) := by decide +kernel
theorem dX5_read_90 : decode cX5_read 90 = .ok (.if_icmp .eq 61, 3) := by decide +kernel
theorem dX5_read_93 : decode cX5_read 93 = .ok (.iload_n 1, 1) := by decide +kernel
theorem dX5_read_94 : decode cX5_read 94 = .ok (.tableswitch 47 0 2 #[26, 33, 40], 26) := by decide +kernel
theorem dX5_read_120 : decode cX5_read 120 = .ok (.aload_n 0, 1) := by decide +kernel
theorem dX5_read_121 : decode cX5_read 121 = .ok (.invokevirtual 70, 3) := by decide +kernel
theorem dX5_read_124 : decode cX5_read 124 = .ok (.goto 21, 3) := by decide +kernel
theorem dX5_read_127 : decode cX5_read 127 = .ok (.aload_n 0, 1) := by decide +kernel
theorem dX5_read_128 : decode cX5_read 128 = .ok (.invokevirtual 73, 3) := by decide +kernel
theorem dX5_read_131 : decode cX5_read 131 = .ok (.goto 14, 3) := by decide +kernel
theorem dX5_read_134 : decode cX5_read 134 = .ok (.aload_n 0, 1) := by decide +kernel
theorem dX5_read_135 : decode cX5_read 135 = .ok (.invokevirtual 76, 3) := by decide +kernel
theorem dX5_read_138 : decode cX5_read 138 = .ok (.goto 7, 3) := by decide +kernel
theorem dX5_read_141 : decode cX5_read 141 = .ok (.aload_n 0, 1) := by decide +kernel
theorem dX5_read_142 : decode cX5_read 142 = .ok (.invokevirtual 79, 3) := by decide +kernel
theorem dX5_read_145 : decode cX5_read 145 = .ok (.iinc 4 1, 3) := by decide +kernel
theorem dX5_read_148 : decode cX5_read 148 = .ok (.goto (-80), 3) := by decide +kernel
theorem dX5_read_151 : decode cX5_read 151 = .ok (.aload_n 0, 1) := by decide +kernel
theorem dX5_read_152 : decode cX5_read 152 = .ok (.getfield 44, 3) := by decide +kernel
theorem dX5_read_155 : decode cX5_read 155 = .ok (.ifCond .eq 5, 3) := by decide +kernel
theorem dX5_read_158 : decode cX5_read 158 = .ok (.iconst (-1), 1) := by decide +kernel
theorem dX5_read_159 : decode cX5_read 159 = .ok (.ireturn, 1) := by decide +kernel
theorem dX5_read_160 : decode cX5_read 160 = .ok (.iload_n 1, 1) := by decide +kernel
theorem dX5_read_161 : decode cX5_read 161 = .ok (.ifCond .ne 13, 3) := by decide +kernel
theorem dX5_read_164 : decode cX5_read 164 = .ok (.aload_n 0, 1) := by decide +kernel
theorem dX5_read_165 : decode cX5_read 165 = .ok (.getfield 24, 3) := by decide +kernel
theorem dX5_read_168 : decode cX5_read 168 = .ok (.getfield 82, 3) := by decide +kernel
theorem dX5_read_171 : decode cX5_read 171 = .ok (.goto 10, 3) := by decide +kernel
theorem dX5_read_174 : decode cX5_read 174 = .ok (.aload_n 0, 1) := by decide +kernel
theorem dX5_read_175 : decode cX5_read 175 = .ok (.getfield 33, 3) := by decide +kernel
theorem dX5_read_178 : decode cX5_read 178 = .ok (.getfield 85, 3) := by decide +kernel
theorem dX5_read_181 : decode cX5_read 181 = .ok (.ireturn, 1) := by decide +kernel
theorem dX5_splitTape_0 : decode cX5_splitTape 0 = .ok (.aload_n 0, 1) := by decide +kernel
theorem dX5_splitTape_1 : decode cX5_splitTape 1 = .ok (.iconst 0, 1) := by decide +kernel
theorem dX5_splitTape_2 : decode cX5_splitTape 2 = .ok (.putfield 88, 3) := by decide +kernel
theorem dX5_splitTape_5 : decode cX5_splitTape 5 = .ok (.iconst 0, 1) := by decide +kernel
theorem dX5_splitTape_6 : decode cX5_splitTape 6 = .ok (.istore_n 1, 1) := by decide +kernel
theorem dX5_splitTape_7 : decode cX5_splitTape 7 = .ok (.iconst 0, 1) := by decide +kernel
theorem dX5_splitTape_8 : decode cX5_splitTape 8 = .ok (.istore_n 2, 1) := by decide +kernel
theorem dX5_splitTape_9 : decode cX5_splitTape 9 = .ok (.iload_n 2, 1) := by decide +kernel
theorem dX5_splitTape_10 : decode cX5_splitTape 10 = .ok (.sipush 400, 3) := by decide +kernel
theorem dX5_splitTape_13 : decode cX5_splitTape 13 = .ok (.if_icmp .ge 106, 3) := by decide +kernel
theorem dX5_splitTape_16 : decode cX5_splitTape 16 = .ok (.iload_n 1, 1) := by decide +kernel
theorem dX5_splitTape_17 : decode cX5_splitTape 17 = .ok (.aload_n 0, 1) := by decide +kernel
theorem dX5_splitTape_18 : decode cX5_splitTape 18 = .ok (.getfield 41, 3) := by decide +kernel
theorem dX5_splitTape_21 : decode cX5_splitTape 21 = .ok (.if_icmp .ge 98, 3) := by decide +kernel
theorem dX5_splitTape_24 : decode cX5_splitTape 24 = .ok (.aload_n 0, 1) := by decide +kernel
theorem dX5_splitTape_25 : decode cX5_splitTape 25 = .ok (.getfield 9, 3) := by decide +kernel
theorem dX5_splitTape_28 : decode cX5_splitTape 28 = .ok (.iload_n 1, 1) := by decide +kernel
theorem dX5_splitTape_29 : decode cX5_splitTape 29 = .ok (.iaload, 1) := by decide +kernel
theorem dX5_splitTape_30 : decode cX5_splitTape 30 = .ok (.istore_n 3, 1) := by decide +kernel
theorem dX5_splitTape_31 : decode cX5_splitTape 31 = .ok (.iload_n 1, 1) := by decide +kernel
theorem dX5_splitTape_32 : decode cX5_splitTape 32 = .ok (.iconst 1, 1) := by decide +kernel
theorem dX5_splitTape_33 : decode cX5_splitTape 33 = .ok (.iadd, 1) := by decide +kernel
theorem dX5_splitTape_34 : decode cX5_splitTape 34 = .ok (.istore 4, 2) := by decide +kernel
theorem dX5_splitTape_36 : decode cX5_splitTape 36 = .ok (.iload_n 3, 1) := by decide +kernel
theorem dX5_splitTape_37 : decode cX5_splitTape 37 = .ok (.invokestatic 91, 3) := by decide +kernel
theorem dX5_splitTape_40 : decode cX5_splitTape 40 = .ok (.ifCond .ne 10, 3) := by decide +kernel
theorem dX5_splitTape_43 : decode cX5_splitTape 43 = .ok (.iload_n 3, 1) := by decide +kernel
theorem dX5_splitTape_44 : decode cX5_splitTape 44 = .ok (.invokestatic 95, 3) := by decide +kernel
theorem dX5_splitTape_47 : decode cX5_splitTape 47 = .ok (.ifCond .eq 42, 3) := by decide +kernel
theorem dX5_splitTape_50 : decode cX5_splitTape 50 = .ok (.aload_n 0, 1) := by decide +kernel
theorem dX5_splitTape_51 : decode cX5_splitTape 51 = .ok (.iload_n 1, 1) := by decide +kernel
theorem dX5_splitTape_52 : decode cX5_splitTape 52 = .ok (.invokevirtual 98, 3) := by decide +kernel
theorem dX5_splitTape_55 : decode cX5_splitTape 55 = .ok (.istore 4, 2) := by decide +kernel
theorem dX5_splitTape_57 : decode cX5_splitTape 57 = .ok (.aload_n 0, 1) := by decide +kernel
theorem dX5_splitTape_58 : decode cX5_splitTape 58 = .ok (.iload_n 3, 1) := by decide +kernel
theorem dX5_splitTape_59 : decode cX5_splitTape 59 = .ok (.invokestatic 91, 3) := by decide +kernel
theorem dX5_splitTape_62 : decode cX5_splitTape 62 = .ok (.ifCond .eq 13, 3) := by decide +kernel
theorem dX5_splitTape_65 : decode cX5_splitTape 65 = .ok (.aload_n 0, 1) := by decide +kernel
theorem dX5_splitTape_66 : decode cX5_splitTape 66 = .ok (.iload_n 1, 1) := by decide +kernel
theorem dX5_splitTape_67 : decode cX5_splitTape 67 = .ok (.iload 4, 2) := by decide +kernel
theorem dX5_splitTape_69 : decode cX5_splitTape 69 = .ok (.invokevirtual 102, 3) := by decide +kernel
theorem dX5_splitTape_72 : decode cX5_splitTape 72 = .ok (.goto 10, 3) := by decide +kernel
theorem dX5_splitTape_75 : decode cX5_splitTape 75 = .ok (.aload_n 0, 1) := by decide +kernel
theorem dX5_splitTape_76 : decode cX5_splitTape 76 = .ok (.iload_n 1, 1) := by decide +kernel
theorem dX5_splitTape_77 : decode cX5_splitTape 77 = .ok (.iload 4, 2) := by decide +kernel
theorem dX5_splitTape_79 : decode cX5_splitTape 79 = .ok (.invokevirtual 106, 3) := by decide +kernel
theorem dX5_splitTape_82 : decode cX5_splitTape 82 = .ok (.iload_n 1, 1) := by decide +kernel
theorem dX5_splitTape_83 : decode cX5_splitTape 83 = .ok (.invokevirtual 109, 3) := by decide +kernel
theorem dX5_splitTape_86 : decode cX5_splitTape 86 = .ok (.goto 24, 3) := by decide +kernel
theorem dX5_splitTape_89 : decode cX5_splitTape 89 = .ok (.iload_n 3, 1) := by decide +kernel
theorem dX5_splitTape_90 : decode cX5_splitTape 90 = .ok (.bipush 32, 2) := by decide +kernel
theorem dX5_splitTape_92 : decode cX5_splitTape 92 = .ok (.if_icmp .eq 18, 3) := by decide +kernel
theorem dX5_splitTape_95 : decode cX5_splitTape 95 = .ok (.iload_n 3, 1) := by decide +kernel
theorem dX5_splitTape_96 : decode cX5_splitTape 96 = .ok (.bipush 10, 2) := by decide +kernel
theorem dX5_splitTape_98 : decode cX5_splitTape 98 = .ok (.if_icmp .eq 12, 3) := by decide +kernel
theorem dX5_splitTape_101 : decode cX5_splitTape 101 = .ok (.aload_n 0, 1) := by decide +kernel
theorem dX5_splitTape_102 : decode cX5_splitTape 102 = .ok (.iload_n 3, 1) := by decide +kernel
theorem dX5_splitTape_103 : decode cX5_splitTape 103 = .ok (.invokestatic 112, 3) := by decide +kernel
theorem dX5_splitTape_106 : decode cX5_splitTape 106 = .ok (.iload_n 1, 1) := by decide +kernel
theorem dX5_splitTape_107 : decode cX5_splitTape 107 = .ok (.invokevirtual 109, 3) := by decide +kernel
theorem dX5_splitTape_110 : decode cX5_splitTape 110 = .ok (.iload 4, 2) := by decide +kernel
theorem dX5_splitTape_112 : decode cX5_splitTape 112 = .ok (.istore_n 1, 1) := by decide +kernel
theorem dX5_splitTape_113 : decode cX5_splitTape 113 = .ok (.iinc 2 1, 3) := by decide +kernel
theorem dX5_splitTape_116 : decode cX5_splitTape 116 = .ok (.goto (-107), 3) := by decide +kernel
theorem dX5_splitTape_119 : decode cX5_splitTape 119 = .ok (.aload_n 0, 1) := by decide +kernel
theorem dX5_splitTape_120 : decode cX5_splitTape 120 = .ok (.sipush 30000, 3) := by decide +kernel
theorem dX5_splitTape_123 : decode cX5_splitTape 123 = .ok (.aload_n 0, 1) := by decide +kernel
theorem dX5_splitTape_124 : decode cX5_splitTape 124 = .ok (.getfield 41, 3) := by decide +kernel
theorem dX5_splitTape_127 : decode cX5_splitTape 127 = .ok (.invokevirtual 109, 3) := by decide +kernel
theorem dX5_splitTape_130 : decode cX5_splitTape 130 = .ok (.aload_n 0, 1) := by decide +kernel
theorem dX5_splitTape_131 : decode cX5_splitTape 131 = .ok (.iconst 0, 1) := by decide +kernel
theorem dX5_splitTape_132 : decode cX5_splitTape 132 = .ok (.putfield 41, 3) := by decide +kernel
theorem dX5_splitTape_135 : decode cX5_splitTape 135 = .ok (.return_, 1) := by decide +kernel
theorem dX5_addToken_0 : decode cX5_addToken 0 = .ok (.aload_n 0, 1) := by decide +kernel
theorem dX5_addToken_1 : decode cX5_addToken 1 = .ok (.getfield 88, 3) := by decide +kernel
theorem dX5_addToken_4 : decode cX5_addToken 4 = .ok (.sipush 400, 3) := by decide +kernel
theorem dX5_addToken_7 : decode cX5_addToken 7 = .ok (.if_icmp .gt 33, 3) := by decide +kernel
theorem dX5_addToken_10 : decode cX5_addToken 10 = .ok (.aload_n 0, 1) := by decide +kernel
theorem dX5_addToken_11 : decode cX5_addToken 11 = .ok (.getfield 15, 3) := by decide +kernel
theorem dX5_addToken_14 : decode cX5_addToken 14 = .ok (.aload_n 0, 1) := by decide +kernel
theorem dX5_addToken_15 : decode cX5_addToken 15 = .ok (.getfield 88, 3) := by decide +kernel
theorem dX5_addToken_18 : decode cX5_addToken 18 = .ok (.iload_n 1, 1) := by decide +kernel
theorem dX5_addToken_19 : decode cX5_addToken 19 = .ok (.iastore, 1) := by decide +kernel
theorem dX5_addToken_20 : decode cX5_addToken 20 = .ok (.aload_n 0, 1) := by decide +kernel
theorem dX5_addToken_21 : decode cX5_addToken 21 = .ok (.getfield 18, 3) := by decide +kernel
theorem dX5_addToken_24 : decode cX5_addToken 24 = .ok (.aload_n 0, 1) := by decide +kernel
theorem dX5_addToken_25 : decode cX5_addToken 25 = .ok (.getfield 88, 3) := by decide +kernel
theorem dX5_addToken_28 : decode cX5_addToken 28 = .ok (.iload_n 2, 1) := by decide +kernel
theorem dX5_addToken_29 : decode cX5_addToken 29 = .ok (.iastore, 1) := by decide +kernel
theorem dX5_addToken_30 : decode cX5_addToken 30 = .ok (.aload_n 0, 1) := by decide +kernel
theorem dX5_addToken_31 : decode cX5_addToken 31 = .ok (.dup, 1) := by decide +kernel
theorem dX5_addToken_32 : decode cX5_addToken 32 = .ok (.getfield 88, 3) := by decide +kernel
theorem dX5_addToken_35 : decode cX5_addToken 35 = .ok (.iconst 1, 1) := by decide +kernel
theorem dX5_addToken_36 : decode cX5_addToken 36 = .ok (.iadd, 1) := by decide +kernel
theorem dX5_addToken_37 : decode cX5_addToken 37 = .ok (.putfield 88, 3) := by decide +kernel
theorem dX5_addToken_40 : decode cX5_addToken 40 = .ok (.return_, 1) := by decide +kernel
theorem dX5_isLetter_0 : decode cX5_isLetter 0 = .ok (.iload_n 0, 1) := by decide +kernel
theorem dX5_isLetter_1 : decode cX5_isLetter 1 = .ok (.bipush 97, 2) := by decide +kernel
theorem dX5_isLetter_3 : decode cX5_isLetter 3 = .ok (.if_icmp .lt 9, 3) := by decide +kernel
theorem dX5_isLetter_6 : decode cX5_isLetter 6 = .ok (.iload_n 0, 1) := by decide +kernel
theorem dX5_isLetter_7 : decode cX5_isLetter 7 = .ok (.bipush 122, 2) := by decide +kernel
theorem dX5_isLetter_9 : decode cX5_isLetter 9 = .ok (.if_icmp .le 15, 3) := by decide +kernel
theorem dX5_isLetter_12 : decode cX5_isLetter 12 = .ok (.iload_n 0, 1) := by decide +kernel
theorem dX5_isLetter_13 : decode cX5_isLetter 13 = .ok (.bipush 65, 2) := by decide +kernel
theorem dX5_isLetter_15 : decode cX5_isLetter 15 = .ok (.if_icmp .lt 13, 3) := by decide +kernel
theorem dX5_isLetter_18 : decode cX5_isLetter 18 = .ok (.iload_n 0, 1) := by decide +kernel
theorem dX5_isLetter_19 : decode cX5_isLetter 19 = .ok (.bipush 90, 2) := by decide +kernel
theorem dX5_isLetter_21 : decode cX5_isLetter 21 = .ok (.if_icmp .gt 7, 3) := by decide +kernel
theorem dX5_isLetter_24 : decode cX5_isLetter 24 = .ok (.iconst 1, 1) := by decide +kernel
theorem dX5_isLetter_25 : decode cX5_isLetter 25 = .ok (.goto 4, 3) := by decide +kernel
theorem dX5_isLetter_28 : decode cX5_isLetter 28 = .ok (.iconst 0, 1) := by decide +kernel
theorem dX5_isLetter_29 : decode cX5_isLetter 29 = .ok (.ireturn, 1) := by decide +kernel
theorem dX5_isNumeral_0 : decode cX5_isNumeral 0 = .ok (.iload_n 0, 1) := by decide +kernel
theorem dX5_isNumeral_1 : decode cX5_isNumeral 1 = .ok (.bipush 48, 2) := by decide +kernel
theorem dX5_isNumeral_3 : decode cX5_isNumeral 3 = .ok (.if_icmp .lt 13, 3) := by decide +kernel
theorem dX5_isNumeral_6 : decode cX5_isNumeral 6 = .ok (.iload_n 0, 1) := by decide +kernel
theorem dX5_isNumeral_7 : decode cX5_isNumeral 7 = .ok (.bipush 57, 2) := by decide +kernel
theorem dX5_isNumeral_9 : decode cX5_isNumeral 9 = .ok (.if_icmp .gt 7, 3) := by decide +kernel
theorem dX5_isNumeral_12 : decode cX5_isNumeral 12 = .ok (.iconst 1, 1) := by decide +kernel
theorem dX5_isNumeral_13 : decode cX5_isNumeral 13 = .ok (.goto 4, 3) := by decide +kernel
theorem dX5_isNumeral_16 : decode cX5_isNumeral 16 = .ok (.iconst 0, 1) := by decide +kernel
theorem dX5_isNumeral_17 : decode cX5_isNumeral 17 = .ok (.ireturn, 1) := by decide +kernel
theorem dX5_runEnd_0 : decode cX5_runEnd 0 = .ok (.aload_n 0, 1) := by decide +kernel
theorem dX5_runEnd_1 : decode cX5_runEnd 1 = .ok (.getfield 9, 3) := by decide +kernel
theorem dX5_runEnd_4 : decode cX5_runEnd 4 = .ok (.iload_n 1, 1) := by decide +kernel
theorem dX5_runEnd_5 : decode cX5_runEnd 5 = .ok (.iaload, 1) := by decide +kernel
theorem dX5_runEnd_6 : decode cX5_runEnd 6 = .ok (.invokestatic 91, 3) := by decide +kernel
theorem dX5_runEnd_9 : decode cX5_runEnd 9 = .ok (.istore_n 2, 1) := by decide +kernel
theorem dX5_runEnd_10 : decode cX5_runEnd 10 = .ok (.iload_n 1, 1) := by decide +kernel
theorem dX5_runEnd_11 : decode cX5_runEnd 11 = .ok (.iconst 1, 1) := by decide +kernel
theorem dX5_runEnd_12 : decode cX5_runEnd 12 = .ok (.iadd, 1) := by decide +kernel
theorem dX5_runEnd_13 : decode cX5_runEnd 13 = .ok (.istore_n 3, 1) := by decide +kernel
theorem dX5_runEnd_14 : decode cX5_runEnd 14 = .ok (.iload_n 3, 1) := by decide +kernel
theorem dX5_runEnd_15 : decode cX5_runEnd 15 = .ok (.aload_n 0, 1) := by decide +kernel
theorem dX5_runEnd_16 : decode cX5_runEnd 16 = .ok (.getfield 41, 3) := by decide +kernel
theorem dX5_runEnd_19 : decode cX5_runEnd 19 = .ok (.if_icmp .ge 47, 3) := by decide +kernel
theorem dX5_runEnd_22 : decode cX5_runEnd 22 = .ok (.iload_n 3, 1) := by decide +kernel
theorem dX5_runEnd_23 : decode cX5_runEnd 23 = .ok (.sipush 400, 3) := by decide +kernel
theorem dX5_runEnd_26 : decode cX5_runEnd 26 = .ok (.if_icmp .ge 40, 3) := by decide +kernel
theorem dX5_runEnd_29 : decode cX5_runEnd 29 = .ok (.iload_n 2, 1) := by decide +kernel
theorem dX5_runEnd_30 : decode cX5_runEnd 30 = .ok (.ifCond .eq 18, 3) := by decide +kernel
theorem dX5_runEnd_33 : decode cX5_runEnd 33 = .ok (.aload_n 0, 1) := by decide +kernel
theorem dX5_runEnd_34 : decode cX5_runEnd 34 = .ok (.getfield 9, 3) := by decide +kernel
theorem dX5_runEnd_37 : decode cX5_runEnd 37 = .ok (.iload_n 3, 1) := by decide +kernel
theorem dX5_runEnd_38 : decode cX5_runEnd 38 = .ok (.iaload, 1) := by decide +kernel
theorem dX5_runEnd_39 : decode cX5_runEnd 39 = .ok (.invokestatic 91, 3) := by decide +kernel
theorem dX5_runEnd_42 : decode cX5_runEnd 42 = .ok (.ifCond .eq 24, 3) := by decide +kernel
theorem dX5_runEnd_45 : decode cX5_runEnd 45 = .ok (.goto 15, 3) := by decide +kernel
theorem dX5_runEnd_48 : decode cX5_runEnd 48 = .ok (.aload_n 0, 1) := by decide +kernel
theorem dX5_runEnd_49 : decode cX5_runEnd 49 = .ok (.getfield 9, 3) := by decide +kernel
theorem dX5_runEnd_52 : decode cX5_runEnd 52 = .ok (.iload_n 3, 1) := by decide +kernel
theorem dX5_runEnd_53 : decode cX5_runEnd 53 = .ok (.iaload, 1) := by decide +kernel
theorem dX5_runEnd_54 : decode cX5_runEnd 54 = .ok (.invokestatic 95, 3) := by decide +kernel
theorem dX5_runEnd_57 : decode cX5_runEnd 57 = .ok (.ifCond .eq 9, 3) := by decide +kernel
theorem dX5_runEnd_60 : decode cX5_runEnd 60 = .ok (.iinc 3 1, 3) := by decide +kernel
theorem dX5_runEnd_63 : decode cX5_runEnd 63 = .ok (.goto (-49), 3) := by decide +kernel
theorem dX5_runEnd_66 : decode cX5_runEnd 66 = .ok (.iload_n 3, 1) := by decide +kernel
theorem dX5_runEnd_67 : decode cX5_runEnd 67 = .ok (.ireturn, 1) := by decide +kernel
theorem dX5_number_0 : decode cX5_number 0 = .ok (.iload_n 2, 1) := by decide +kernel
theorem dX5_number_1 : decode cX5_number 1 = .ok (.iload_n 1, 1) := by decide +kernel
theorem dX5_number_2 : decode cX5_number 2 = .ok (.isub, 1) := by decide +kernel
theorem dX5_number_3 : decode cX5_number 3 = .ok (.iconst 4, 1) := by decide +kernel
theorem dX5_number_4 : decode cX5_number 4 = .ok (.if_icmp .le 7, 3) := by decide +kernel
theorem dX5_number_7 : decode cX5_number 7 = .ok (.sipush 30001, 3) := by decide +kernel
theorem dX5_number_10 : decode cX5_number 10 = .ok (.ireturn, 1) := by decide +kernel
theorem dX5_number_11 : decode cX5_number 11 = .ok (.iconst 0, 1) := by decide +kernel
theorem dX5_number_12 : decode cX5_number 12 = .ok (.istore_n 3, 1) := by decide +kernel
theorem dX5_number_13 : decode cX5_number 13 = .ok (.iload_n 1, 1) := by decide +kernel
theorem dX5_number_14 : decode cX5_number 14 = .ok (.istore 4, 2) := by decide +kernel
theorem dX5_number_16 : decode cX5_number 16 = .ok (.iload 4, 2) := by decide +kernel
theorem dX5_number_18 : decode cX5_number 18 = .ok (.iload_n 2, 1) := by decide +kernel
theorem dX5_number_19 : decode cX5_number 19 = .ok (.if_icmp .ge 33, 3) := by decide +kernel
theorem dX5_number_22 : decode cX5_number 22 = .ok (.iload 4, 2) := by decide +kernel
theorem dX5_number_24 : decode cX5_number 24 = .ok (.sipush 400, 3) := by decide +kernel
theorem dX5_number_27 : decode cX5_number 27 = .ok (.if_icmp .ge 25, 3) := by decide +kernel
theorem dX5_number_30 : decode cX5_number 30 = .ok (.iload_n 3, 1) := by decide +kernel
theorem dX5_number_31 : decode cX5_number 31 = .ok (.bipush 10, 2) := by decide +kernel
theorem dX5_number_33 : decode cX5_number 33 = .ok (.imul, 1) := by decide +kernel
theorem dX5_number_34 : decode cX5_number 34 = .ok (.aload_n 0, 1) := by decide +kernel
theorem dX5_number_35 : decode cX5_number 35 = .ok (.getfield 9, 3) := by decide +kernel
theorem dX5_number_38 : decode cX5_number 38 = .ok (.iload 4, 2) := by decide +kernel
theorem dX5_number_40 : decode cX5_number 40 = .ok (.iaload, 1) := by decide +kernel
theorem dX5_number_41 : decode cX5_number 41 = .ok (.iadd, 1) := by decide +kernel
theorem dX5_number_42 : decode cX5_number 42 = .ok (.bipush 48, 2) := by decide +kernel
theorem dX5_number_44 : decode cX5_number 44 = .ok (.isub, 1) := by decide +kernel
theorem dX5_number_45 : decode cX5_number 45 = .ok (.istore_n 3, 1) := by decide +kernel
theorem dX5_number_46 : decode cX5_number 46 = .ok (.iinc 4 1, 3) := by decide +kernel
theorem dX5_number_49 : decode cX5_number 49 = .ok (.goto (-33), 3) := by decide +kernel
theorem dX5_number_52 : decode cX5_number 52 = .ok (.iload_n 3, 1) := by decide +kernel
theorem dX5_number_53 : decode cX5_number 53 = .ok (.ireturn, 1) := by decide +kernel
theorem dX5_keyword_0 : decode cX5_keyword 0 = .ok (.iconst 0, 1) := by decide +kernel
theorem dX5_keyword_1 : decode cX5_keyword 1 = .ok (.istore_n 3, 1) := by decide +kernel
theorem dX5_keyword_2 : decode cX5_keyword 2 = .ok (.iconst 0, 1) := by decide +kernel
theorem dX5_keyword_3 : decode cX5_keyword 3 = .ok (.istore 4, 2) := by decide +kernel
theorem dX5_keyword_5 : decode cX5_keyword 5 = .ok (.iconst 0, 1) := by decide +kernel
theorem dX5_keyword_6 : decode cX5_keyword 6 = .ok (.istore 5, 2) := by decide +kernel
theorem dX5_keyword_8 : decode cX5_keyword 8 = .ok (.iload 5, 2) := by decide +kernel
theorem dX5_keyword_10 : decode cX5_keyword 10 = .ok (.ldc 115, 2) := by decide +kernel
theorem dX5_keyword_12 : decode cX5_keyword 12 = .ok (.invokevirtual 117, 3) := by decide +kernel
theorem dX5_keyword_15 : decode cX5_keyword 15 = .ok (.if_icmp .ge 58, 3) := by decide +kernel
theorem dX5_keyword_18 : decode cX5_keyword 18 = .ok (.ldc 115, 2) := by decide +kernel
theorem dX5_keyword_20 : decode cX5_keyword 20 = .ok (.iload 5, 2) := by decide +kernel
theorem dX5_keyword_22 : decode cX5_keyword 22 = .ok (.invokevirtual 121, 3) := by decide +kernel
theorem dX5_keyword_25 : decode cX5_keyword 25 = .ok (.bipush 32, 2) := by decide +kernel
theorem dX5_keyword_27 : decode cX5_keyword 27 = .ok (.if_icmp .ne 40, 3) := by decide +kernel
theorem dX5_keyword_30 : decode cX5_keyword 30 = .ok (.iload 5, 2) := by decide +kernel
theorem dX5_keyword_32 : decode cX5_keyword 32 = .ok (.iload 4, 2) := by decide +kernel
theorem dX5_keyword_34 : decode cX5_keyword 34 = .ok (.isub, 1) := by decide +kernel
theorem dX5_keyword_35 : decode cX5_keyword 35 = .ok (.iload_n 2, 1) := by decide +kernel
theorem dX5_keyword_36 : decode cX5_keyword 36 = .ok (.iload_n 1, 1) := by decide +kernel
theorem dX5_keyword_37 : decode cX5_keyword 37 = .ok (.isub, 1) := by decide +kernel
theorem dX5_keyword_38 : decode cX5_keyword 38 = .ok (.if_icmp .ne 20, 3) := by decide +kernel
theorem dX5_keyword_41 : decode cX5_keyword 41 = .ok (.aload_n 0, 1) := by decide +kernel
theorem dX5_keyword_42 : decode cX5_keyword 42 = .ok (.iload 4, 2) := by decide +kernel
theorem dX5_keyword_44 : decode cX5_keyword 44 = .ok (.iload_n 1, 1) := by decide +kernel
theorem dX5_keyword_45 : decode cX5_keyword 45 = .ok (.iload_n 2, 1) := by decide +kernel
theorem dX5_keyword_46 : decode cX5_keyword 46 = .ok (.invokevirtual 125, 3) := by decide +kernel
theorem dX5_keyword_49 : decode cX5_keyword 49 = .ok (.ifCond .eq 9, 3) := by decide +kernel
theorem dX5_keyword_52 : decode cX5_keyword 52 = .ok (.sipush 10000, 3) := by decide +kernel
theorem dX5_keyword_55 : decode cX5_keyword 55 = .ok (.iload_n 3, 1) := by decide +kernel
theorem dX5_keyword_56 : decode cX5_keyword 56 = .ok (.iadd, 1) := by decide +kernel
theorem dX5_keyword_57 : decode cX5_keyword 57 = .ok (.ireturn, 1) := by decide +kernel
theorem dX5_keyword_58 : decode cX5_keyword 58 = .ok (.iinc 3 1, 3) := by decide +kernel
theorem dX5_keyword_61 : decode cX5_keyword 61 = .ok (.iload 5, 2) := by decide +kernel
theorem dX5_keyword_63 : decode cX5_keyword 63 = .ok (.iconst 1, 1) := by decide +kernel
theorem dX5_keyword_64 : decode cX5_keyword 64 = .ok (.iadd, 1) := by decide +kernel
theorem dX5_keyword_65 : decode cX5_keyword 65 = .ok (.istore 4, 2) := by decide +kernel
theorem dX5_keyword_67 : decode cX5_keyword 67 = .ok (.iinc 5 1, 3) := by decide +kernel
theorem dX5_keyword_70 : decode cX5_keyword 70 = .ok (.goto (-62), 3) := by decide +kernel
theorem dX5_keyword_73 : decode cX5_keyword 73 = .ok (.sipush 30001, 3) := by decide +kernel
theorem dX5_keyword_76 : decode cX5_keyword 76 = .ok (.ireturn, 1) := by decide +kernel
theorem dX5_isSpelled_0 : decode cX5_isSpelled 0 = .ok (.iload_n 2, 1) := by decide +kernel
theorem dX5_isSpelled_1 : decode cX5_isSpelled 1 = .ok (.istore 4, 2) := by decide +kernel
theorem dX5_isSpelled_3 : decode cX5_isSpelled 3 = .ok (.iload 4, 2) := by decide +kernel
theorem dX5_isSpelled_5 : decode cX5_isSpelled 5 = .ok (.iload_n 3, 1) := by decide +kernel
theorem dX5_isSpelled_6 : decode cX5_isSpelled 6 = .ok (.if_icmp .ge 57, 3) := by decide +kernel
theorem dX5_isSpelled_9 : decode cX5_isSpelled 9 = .ok (.iload 4, 2) := by decide +kernel
theorem dX5_isSpelled_11 : decode cX5_isSpelled 11 = .ok (.sipush 400, 3) := by decide +kernel
theorem dX5_isSpelled_14 : decode cX5_isSpelled 14 = .ok (.if_icmp .ge 49, 3) := by decide +kernel
theorem dX5_isSpelled_17 : decode cX5_isSpelled 17 = .ok (.iload_n 1, 1) := by decide +kernel
theorem dX5_isSpelled_18 : decode cX5_isSpelled 18 = .ok (.iload 4, 2) := by decide +kernel
theorem dX5_isSpelled_20 : decode cX5_isSpelled 20 = .ok (.iadd, 1) := by decide +kernel
theorem dX5_isSpelled_21 : decode cX5_isSpelled 21 = .ok (.iload_n 2, 1) := by decide +kernel
theorem dX5_isSpelled_22 : decode cX5_isSpelled 22 = .ok (.isub, 1) := by decide +kernel
theorem dX5_isSpelled_23 : decode cX5_isSpelled 23 = .ok (.istore 5, 2) := by decide +kernel
theorem dX5_isSpelled_25 : decode cX5_isSpelled 25 = .ok (.iload 5, 2) := by decide +kernel
theorem dX5_isSpelled_27 : decode cX5_isSpelled 27 = .ok (.ldc 115, 2) := by decide +kernel
theorem dX5_isSpelled_29 : decode cX5_isSpelled 29 = .ok (.invokevirtual 117, 3) := by decide +kernel
theorem dX5_isSpelled_32 : decode cX5_isSpelled 32 = .ok (.invokestatic 129, 3) := by decide +kernel
theorem dX5_isSpelled_35 : decode cX5_isSpelled 35 = .ok (.ifCond .eq 20, 3) := by decide +kernel
theorem dX5_isSpelled_38 : decode cX5_isSpelled 38 = .ok (.ldc 115, 2) := by decide +kernel
theorem dX5_isSpelled_40 : decode cX5_isSpelled 40 = .ok (.iload 5, 2) := by decide +kernel
theorem dX5_isSpelled_42 : decode cX5_isSpelled 42 = .ok (.invokevirtual 121, 3) := by decide +kernel
theorem dX5_isSpelled_45 : decode cX5_isSpelled 45 = .ok (.aload_n 0, 1) := by decide +kernel
theorem dX5_isSpelled_46 : decode cX5_isSpelled 46 = .ok (.getfield 9, 3) := by decide +kernel
theorem dX5_isSpelled_49 : decode cX5_isSpelled 49 = .ok (.iload 4, 2) := by decide +kernel
theorem dX5_isSpelled_51 : decode cX5_isSpelled 51 = .ok (.iaload, 1) := by decide +kernel
theorem dX5_isSpelled_52 : decode cX5_isSpelled 52 = .ok (.if_icmp .eq 5, 3) := by decide +kernel
theorem dX5_isSpelled_55 : decode cX5_isSpelled 55 = .ok (.iconst 0, 1) := by decide +kernel
theorem dX5_isSpelled_56 : decode cX5_isSpelled 56 = .ok (.ireturn, 1) := by decide +kernel
theorem dX5_isSpelled_57 : decode cX5_isSpelled 57 = .ok (.iinc 4 1, 3) := by decide +kernel
theorem dX5_isSpelled_60 : decode cX5_isSpelled 60 = .ok (.goto (-57), 3) := by decide +kernel
theorem dX5_isSpelled_63 : decode cX5_isSpelled 63 = .ok (.iconst 1, 1) := by decide +kernel
theorem dX5_isSpelled_64 : decode cX5_isSpelled 64 = .ok (.ireturn, 1) := by decide +kernel
theorem dX5_advance_0 : decode cX5_advance 0 = .ok (.aload_n 0, 1) := by decide +kernel
theorem dX5_advance_1 : decode cX5_advance 1 = .ok (.getfield 62, 3) := by decide +kernel
theorem dX5_advance_4 : decode cX5_advance 4 = .ok (.iconst 1, 1) := by decide +kernel
theorem dX5_advance_5 : decode cX5_advance 5 = .ok (.iadd, 1) := by decide +kernel
theorem dX5_advance_6 : decode cX5_advance 6 = .ok (.aload_n 0, 1) := by decide +kernel
theorem dX5_advance_7 : decode cX5_advance 7 = .ok (.getfield 88, 3) := by decide +kernel
theorem dX5_advance_10 : decode cX5_advance 10 = .ok (.if_icmp .ge 36, 3) := by decide +kernel
theorem dX5_advance_13 : decode cX5_advance 13 = .ok (.aload_n 0, 1) := by decide +kernel
theorem dX5_advance_14 : decode cX5_advance 14 = .ok (.getfield 62, 3) := by decide +kernel
theorem dX5_advance_17 : decode cX5_advance 17 = .ok (.sipush 400, 3) := by decide +kernel
theorem dX5_advance_20 : decode cX5_advance 20 = .ok (.if_icmp .ge 26, 3) := by decide +kernel
theorem dX5_advance_23 : decode cX5_advance 23 = .ok (.aload_n 0, 1) := by decide +kernel
theorem dX5_advance_24 : decode cX5_advance 24 = .ok (.dup, 1) := by decide +kernel
theorem dX5_advance_25 : decode cX5_advance 25 = .ok (.getfield 62, 3) := by decide +kernel
theorem dX5_advance_28 : decode cX5_advance 28 = .ok (.iconst 1, 1) := by decide +kernel
theorem dX5_advance_29 : decode cX5_advance 29 = .ok (.iadd, 1) := by decide +kernel
theorem dX5_advance_30 : decode cX5_advance 30 = .ok (.putfield 62, 3) := by decide +kernel
theorem dX5_advance_33 : decode cX5_advance 33 = .ok (.aload_n 0, 1) := by decide +kernel
theorem dX5_advance_34 : decode cX5_advance 34 = .ok (.aload_n 0, 1) := by decide +kernel
theorem dX5_advance_35 : decode cX5_advance 35 = .ok (.getfield 15, 3) := by decide +kernel
theorem dX5_advance_38 : decode cX5_advance 38 = .ok (.aload_n 0, 1) := by decide +kernel
theorem dX5_advance_39 : decode cX5_advance 39 = .ok (.getfield 62, 3) := by decide +kernel
theorem dX5_advance_42 : decode cX5_advance 42 = .ok (.iaload, 1) := by decide +kernel
theorem dX5_advance_43 : decode cX5_advance 43 = .ok (.putfield 65, 3) := by decide +kernel
theorem dX5_advance_46 : decode cX5_advance 46 = .ok (.return_, 1) := by decide +kernel
theorem dX5_fail_0 : decode cX5_fail 0 = .ok (.aload_n 0, 1) := by decide +kernel
theorem dX5_fail_1 : decode cX5_fail 1 = .ok (.getfield 44, 3) := by decide +kernel
theorem dX5_fail_4 : decode cX5_fail 4 = .ok (.ifCond .ne 42, 3) := by decide +kernel
theorem dX5_fail_7 : decode cX5_fail 7 = .ok (.aload_n 0, 1) := by decide +kernel
theorem dX5_fail_8 : decode cX5_fail 8 = .ok (.iload_n 1, 1) := by decide +kernel
theorem dX5_fail_9 : decode cX5_fail 9 = .ok (.putfield 44, 3) := by decide +kernel
theorem dX5_fail_12 : decode cX5_fail 12 = .ok (.aload_n 0, 1) := by decide +kernel
theorem dX5_fail_13 : decode cX5_fail 13 = .ok (.aload_n 0, 1) := by decide +kernel
theorem dX5_fail_14 : decode cX5_fail 14 = .ok (.getfield 62, 3) := by decide +kernel
theorem dX5_fail_17 : decode cX5_fail 17 = .ok (.ifCond .lt 25, 3) := by decide +kernel
theorem dX5_fail_20 : decode cX5_fail 20 = .ok (.aload_n 0, 1) := by decide +kernel
theorem dX5_fail_21 : decode cX5_fail 21 = .ok (.getfield 62, 3) := by decide +kernel
theorem dX5_fail_24 : decode cX5_fail 24 = .ok (.sipush 400, 3) := by decide +kernel
theorem dX5_fail_27 : decode cX5_fail 27 = .ok (.if_icmp .gt 15, 3) := by decide +kernel
theorem dX5_fail_30 : decode cX5_fail 30 = .ok (.aload_n 0, 1) := by decide +kernel
theorem dX5_fail_31 : decode cX5_fail 31 = .ok (.getfield 18, 3) := by decide +kernel
theorem dX5_fail_34 : decode cX5_fail 34 = .ok (.aload_n 0, 1) := by decide +kernel
theorem dX5_fail_35 : decode cX5_fail 35 = .ok (.getfield 62, 3) := by decide +kernel
theorem dX5_fail_38 : decode cX5_fail 38 = .ok (.iaload, 1) := by decide +kernel
theorem dX5_fail_39 : decode cX5_fail 39 = .ok (.goto 4, 3) := by decide +kernel
theorem dX5_fail_42 : decode cX5_fail 42 = .ok (.iconst (-1), 1) := by decide +kernel
theorem dX5_fail_43 : decode cX5_fail 43 = .ok (.putfield 37, 3) := by decide +kernel
theorem dX5_fail_46 : decode cX5_fail 46 = .ok (.return_, 1) := by decide +kernel
theorem dX5_expect_0 : decode cX5_expect 0 = .ok (.aload_n 0, 1) := by decide +kernel
theorem dX5_expect_1 : decode cX5_expect 1 = .ok (.getfield 44, 3) := by decide +kernel
theorem dX5_expect_4 : decode cX5_expect 4 = .ok (.ifCond .ne 16, 3) := by decide +kernel
theorem dX5_expect_7 : decode cX5_expect 7 = .ok (.aload_n 0, 1) := by decide +kernel
theorem dX5_expect_8 : decode cX5_expect 8 = .ok (.getfield 65, 3) := by decide +kernel
theorem dX5_expect_11 : decode cX5_expect 11 = .ok (.iload_n 1, 1) := by decide +kernel
theorem dX5_expect_12 : decode cX5_expect 12 = .ok (.if_icmp .eq 8, 3) := by decide +kernel
theorem dX5_expect_15 : decode cX5_expect 15 = .ok (.aload_n 0, 1) := by decide +kernel
theorem dX5_expect_16 : decode cX5_expect 16 = .ok (.iconst 1, 1) := by decide +kernel
theorem dX5_expect_17 : decode cX5_expect 17 = .ok (.invokevirtual 133, 3) := by decide +kernel
theorem dX5_expect_20 : decode cX5_expect 20 = .ok (.aload_n 0, 1) := by decide +kernel
theorem dX5_expect_21 : decode cX5_expect 21 = .ok (.getfield 44, 3) := by decide +kernel
theorem dX5_expect_24 : decode cX5_expect 24 = .ok (.ifCond .eq 5, 3) := by decide +kernel
theorem dX5_expect_27 : decode cX5_expect 27 = .ok (.iconst 0, 1) := by decide +kernel
theorem dX5_expect_28 : decode cX5_expect 28 = .ok (.ireturn, 1) := by decide +kernel
theorem dX5_expect_29 : decode cX5_expect 29 = .ok (.aload_n 0, 1) := by decide +kernel
theorem dX5_expect_30 : decode cX5_expect 30 = .ok (.invokevirtual 137, 3) := by decide +kernel
theorem dX5_expect_33 : decode cX5_expect 33 = .ok (.iconst 1, 1) := by decide +kernel
theorem dX5_expect_34 : decode cX5_expect 34 = .ok (.ireturn, 1) := by decide +kernel
theorem dX5_beginLine_0 : decode cX5_beginLine 0 = .ok (.aload_n 0, 1) := by decide +kernel
theorem dX5_beginLine_1 : decode cX5_beginLine 1 = .ok (.getfield 65, 3) := by decide +kernel
theorem dX5_beginLine_4 : decode cX5_beginLine 4 = .ok (.iload_n 1, 1) := by decide +kernel
theorem dX5_beginLine_5 : decode cX5_beginLine 5 = .ok (.if_icmp .ne 14, 3) := by decide +kernel
theorem dX5_beginLine_8 : decode cX5_beginLine 8 = .ok (.iload_n 2, 1) := by decide +kernel
theorem dX5_beginLine_9 : decode cX5_beginLine 9 = .ok (.bipush 16, 2) := by decide +kernel
theorem dX5_beginLine_11 : decode cX5_beginLine 11 = .ok (.if_icmp .lt 8, 3) := by decide +kernel
theorem dX5_beginLine_14 : decode cX5_beginLine 14 = .ok (.aload_n 0, 1) := by decide +kernel
theorem dX5_beginLine_15 : decode cX5_beginLine 15 = .ok (.iconst 3, 1) := by decide +kernel
theorem dX5_beginLine_16 : decode cX5_beginLine 16 = .ok (.invokevirtual 133, 3) := by decide +kernel
theorem dX5_beginLine_19 : decode cX5_beginLine 19 = .ok (.aload_n 0, 1) := by decide +kernel
theorem dX5_beginLine_20 : decode cX5_beginLine 20 = .ok (.iload_n 1, 1) := by decide +kernel
theorem dX5_beginLine_21 : decode cX5_beginLine 21 = .ok (.invokevirtual 140, 3) := by decide +kernel
theorem dX5_beginLine_24 : decode cX5_beginLine 24 = .ok (.ireturn, 1) := by decide +kernel
theorem dX5_numberBelow_0 : decode cX5_numberBelow 0 = .ok (.aload_n 0, 1) := by decide +kernel
theorem dX5_numberBelow_1 : decode cX5_numberBelow 1 = .ok (.iload_n 1, 1) := by decide +kernel
theorem dX5_numberBelow_2 : decode cX5_numberBelow 2 = .ok (.iconst (-1), 1) := by decide +kernel
theorem dX5_numberBelow_3 : decode cX5_numberBelow 3 = .ok (.iconst (-1), 1) := by decide +kernel
theorem dX5_numberBelow_4 : decode cX5_numberBelow 4 = .ok (.invokevirtual 143, 3) := by decide +kernel
theorem dX5_numberBelow_7 : decode cX5_numberBelow 7 = .ok (.ireturn, 1) := by decide +kernel
theorem dX5_numberUnlike_0 : decode cX5_numberUnlike 0 = .ok (.aload_n 0, 1) := by decide +kernel
theorem dX5_numberUnlike_1 : decode cX5_numberUnlike 1 = .ok (.getfield 65, 3) := by decide +kernel
theorem dX5_numberUnlike_4 : decode cX5_numberUnlike 4 = .ok (.istore 4, 2) := by decide +kernel
theorem dX5_numberUnlike_6 : decode cX5_numberUnlike 6 = .ok (.aload_n 0, 1) := by decide +kernel
theorem dX5_numberUnlike_7 : decode cX5_numberUnlike 7 = .ok (.getfield 44, 3) := by decide +kernel
theorem dX5_numberUnlike_10 : decode cX5_numberUnlike 10 = .ok (.ifCond .ne 16, 3) := by decide +kernel
theorem dX5_numberUnlike_13 : decode cX5_numberUnlike 13 = .ok (.iload 4, 2) := by decide +kernel
theorem dX5_numberUnlike_15 : decode cX5_numberUnlike 15 = .ok (.invokestatic 147, 3) := by decide +kernel
theorem dX5_numberUnlike_18 : decode cX5_numberUnlike 18 = .ok (.ifCond .ne 8, 3) := by decide +kernel
theorem dX5_numberUnlike_21 : decode cX5_numberUnlike 21 = .ok (.aload_n 0, 1) := by decide +kernel
theorem dX5_numberUnlike_22 : decode cX5_numberUnlike 22 = .ok (.iconst 1, 1) := by decide +kernel
theorem dX5_numberUnlike_23 : decode cX5_numberUnlike 23 = .ok (.invokevirtual 133, 3) := by decide +kernel
theorem dX5_numberUnlike_26 : decode cX5_numberUnlike 26 = .ok (.aload_n 0, 1) := by decide +kernel
theorem dX5_numberUnlike_27 : decode cX5_numberUnlike 27 = .ok (.getfield 44, 3) := by decide +kernel
theorem dX5_numberUnlike_30 : decode cX5_numberUnlike 30 = .ok (.ifCond .ne 26, 3) := by decide +kernel
theorem dX5_numberUnlike_33 : decode cX5_numberUnlike 33 = .ok (.iload 4, 2) := by decide +kernel
theorem dX5_numberUnlike_35 : decode cX5_numberUnlike 35 = .ok (.iload_n 1, 1) := by decide +kernel
theorem dX5_numberUnlike_36 : decode cX5_numberUnlike 36 = .ok (.if_icmp .ge 15, 3) := by decide +kernel
theorem dX5_numberUnlike_39 : decode cX5_numberUnlike 39 = .ok (.iload 4, 2) := by decide +kernel
theorem dX5_numberUnlike_41 : decode cX5_numberUnlike 41 = .ok (.iload_n 2, 1) := by decide +kernel
theorem dX5_numberUnlike_42 : decode cX5_numberUnlike 42 = .ok (.if_icmp .eq 9, 3) := by decide +kernel
theorem dX5_numberUnlike_45 : decode cX5_numberUnlike 45 = .ok (.iload 4, 2) := by decide +kernel
theorem dX5_numberUnlike_47 : decode cX5_numberUnlike 47 = .ok (.iload_n 3, 1) := by decide +kernel
theorem dX5_numberUnlike_48 : decode cX5_numberUnlike 48 = .ok (.if_icmp .ne 8, 3) := by decide +kernel
theorem dX5_numberUnlike_51 : decode cX5_numberUnlike 51 = .ok (.aload_n 0, 1) := by decide +kernel
theorem dX5_numberUnlike_52 : decode cX5_numberUnlike 52 = .ok (.iconst 2, 1) := by decide +kernel
theorem dX5_numberUnlike_53 : decode cX5_numberUnlike 53 = .ok (.invokevirtual 133, 3) := by decide +kernel
theorem dX5_numberUnlike_56 : decode cX5_numberUnlike 56 = .ok (.aload_n 0, 1) := by decide +kernel
theorem dX5_numberUnlike_57 : decode cX5_numberUnlike 57 = .ok (.getfield 44, 3) := by decide +kernel
theorem dX5_numberUnlike_60 : decode cX5_numberUnlike 60 = .ok (.ifCond .eq 5, 3) := by decide +kernel
theorem dX5_numberUnlike_63 : decode cX5_numberUnlike 63 = .ok (.iconst 0, 1) := by decide +kernel
theorem dX5_numberUnlike_64 : decode cX5_numberUnlike 64 = .ok (.ireturn, 1) := by decide +kernel
theorem dX5_numberUnlike_65 : decode cX5_numberUnlike 65 = .ok (.aload_n 0, 1) := by decide +kernel
theorem dX5_numberUnlike_66 : decode cX5_numberUnlike 66 = .ok (.invokevirtual 137, 3) := by decide +kernel
theorem dX5_numberUnlike_69 : decode cX5_numberUnlike 69 = .ok (.iload 4, 2) := by decide +kernel
theorem dX5_numberUnlike_71 : decode cX5_numberUnlike 71 = .ok (.ireturn, 1) := by decide +kernel
theorem dX5_questionLine_0 : decode cX5_questionLine 0 = .ok (.aload_n 0, 1) := by decide +kernel
theorem dX5_questionLine_1 : decode cX5_questionLine 1 = .ok (.sipush 10018, 3) := by decide +kernel
theorem dX5_questionLine_4 : decode cX5_questionLine 4 = .ok (.aload_n 0, 1) := by decide +kernel
theorem dX5_questionLine_5 : decode cX5_questionLine 5 = .ok (.getfield 33, 3) := by decide +kernel
theorem dX5_questionLine_8 : decode cX5_questionLine 8 = .ok (.getfield 85, 3) := by decide +kernel
theorem dX5_questionLine_11 : decode cX5_questionLine 11 = .ok (.invokevirtual 150, 3) := by decide +kernel
theorem dX5_questionLine_14 : decode cX5_questionLine 14 = .ok (.ifCond .eq 28, 3) := by decide +kernel
theorem dX5_questionLine_17 : decode cX5_questionLine 17 = .ok (.aload_n 0, 1) := by decide +kernel
theorem dX5_questionLine_18 : decode cX5_questionLine 18 = .ok (.getfield 33, 3) := by decide +kernel
theorem dX5_questionLine_21 : decode cX5_questionLine 21 = .ok (.aload_n 0, 1) := by decide +kernel
theorem dX5_questionLine_22 : decode cX5_questionLine 22 = .ok (.bipush 100, 2) := by decide +kernel
theorem dX5_questionLine_24 : decode cX5_questionLine 24 = .ok (.invokevirtual 153, 3) := by decide +kernel
theorem dX5_questionLine_27 : decode cX5_questionLine 27 = .ok (.iconst 0, 1) := by decide +kernel
theorem dX5_questionLine_28 : decode cX5_questionLine 28 = .ok (.iconst 0, 1) := by decide +kernel
theorem dX5_questionLine_29 : decode cX5_questionLine 29 = .ok (.iconst 0, 1) := by decide +kernel
theorem dX5_questionLine_30 : decode cX5_questionLine 30 = .ok (.invokevirtual 156, 3) := by decide +kernel
theorem dX5_questionLine_33 : decode cX5_questionLine 33 = .ok (.pop, 1) := by decide +kernel
theorem dX5_questionLine_34 : decode cX5_questionLine 34 = .ok (.aload_n 0, 1) := by decide +kernel
theorem dX5_questionLine_35 : decode cX5_questionLine 35 = .ok (.sipush 20059, 3) := by decide +kernel
theorem dX5_questionLine_38 : decode cX5_questionLine 38 = .ok (.invokevirtual 140, 3) := by decide +kernel
theorem dX5_questionLine_41 : decode cX5_questionLine 41 = .ok (.pop, 1) := by decide +kernel
theorem dX5_questionLine_42 : decode cX5_questionLine 42 = .ok (.return_, 1) := by decide +kernel
theorem dX5_sisterLine_0 : decode cX5_sisterLine 0 = .ok (.aload_n 0, 1) := by decide +kernel
theorem dX5_sisterLine_1 : decode cX5_sisterLine 1 = .ok (.sipush 10023, 3) := by decide +kernel
theorem dX5_sisterLine_4 : decode cX5_sisterLine 4 = .ok (.aload_n 0, 1) := by decide +kernel
theorem dX5_sisterLine_5 : decode cX5_sisterLine 5 = .ok (.getfield 33, 3) := by decide +kernel
theorem dX5_sisterLine_8 : decode cX5_sisterLine 8 = .ok (.getfield 85, 3) := by decide +kernel
theorem dX5_sisterLine_11 : decode cX5_sisterLine 11 = .ok (.invokevirtual 150, 3) := by decide +kernel
theorem dX5_sisterLine_14 : decode cX5_sisterLine 14 = .ok (.ifCond .eq 51, 3) := by decide +kernel
theorem dX5_sisterLine_17 : decode cX5_sisterLine 17 = .ok (.aload_n 0, 1) := by decide +kernel
theorem dX5_sisterLine_18 : decode cX5_sisterLine 18 = .ok (.aload_n 0, 1) := by decide +kernel
theorem dX5_sisterLine_19 : decode cX5_sisterLine 19 = .ok (.getfield 47, 3) := by decide +kernel
theorem dX5_sisterLine_22 : decode cX5_sisterLine 22 = .ok (.invokevirtual 153, 3) := by decide +kernel
theorem dX5_sisterLine_25 : decode cX5_sisterLine 25 = .ok (.istore_n 1, 1) := by decide +kernel
theorem dX5_sisterLine_26 : decode cX5_sisterLine 26 = .ok (.aload_n 0, 1) := by decide +kernel
theorem dX5_sisterLine_27 : decode cX5_sisterLine 27 = .ok (.sipush 10024, 3) := by decide +kernel
theorem dX5_sisterLine_30 : decode cX5_sisterLine 30 = .ok (.invokevirtual 140, 3) := by decide +kernel
theorem dX5_sisterLine_33 : decode cX5_sisterLine 33 = .ok (.pop, 1) := by decide +kernel
theorem dX5_sisterLine_34 : decode cX5_sisterLine 34 = .ok (.aload_n 0, 1) := by decide +kernel
theorem dX5_sisterLine_35 : decode cX5_sisterLine 35 = .ok (.aload_n 0, 1) := by decide +kernel
theorem dX5_sisterLine_36 : decode cX5_sisterLine 36 = .ok (.getfield 47, 3) := by decide +kernel
theorem dX5_sisterLine_39 : decode cX5_sisterLine 39 = .ok (.iload_n 1, 1) := by decide +kernel
theorem dX5_sisterLine_40 : decode cX5_sisterLine 40 = .ok (.iconst (-1), 1) := by decide +kernel
theorem dX5_sisterLine_41 : decode cX5_sisterLine 41 = .ok (.invokevirtual 143, 3) := by decide +kernel
theorem dX5_sisterLine_44 : decode cX5_sisterLine 44 = .ok (.istore_n 2, 1) := by decide +kernel
theorem dX5_sisterLine_45 : decode cX5_sisterLine 45 = .ok (.aload_n 0, 1) := by decide +kernel
theorem dX5_sisterLine_46 : decode cX5_sisterLine 46 = .ok (.getfield 33, 3) := by decide +kernel
theorem dX5_sisterLine_49 : decode cX5_sisterLine 49 = .ok (.iload_n 1, 1) := by decide +kernel
theorem dX5_sisterLine_50 : decode cX5_sisterLine 50 = .ok (.iload_n 2, 1) := by decide +kernel
theorem dX5_sisterLine_51 : decode cX5_sisterLine 51 = .ok (.iconst 0, 1) := by decide +kernel
theorem dX5_sisterLine_52 : decode cX5_sisterLine 52 = .ok (.iconst 0, 1) := by decide +kernel
theorem dX5_sisterLine_53 : decode cX5_sisterLine 53 = .ok (.invokevirtual 156, 3) := by decide +kernel
theorem dX5_sisterLine_56 : decode cX5_sisterLine 56 = .ok (.pop, 1) := by decide +kernel
theorem dX5_sisterLine_57 : decode cX5_sisterLine 57 = .ok (.aload_n 0, 1) := by decide +kernel
theorem dX5_sisterLine_58 : decode cX5_sisterLine 58 = .ok (.sipush 20059, 3) := by decide +kernel
theorem dX5_sisterLine_61 : decode cX5_sisterLine 61 = .ok (.invokevirtual 140, 3) := by decide +kernel
theorem dX5_sisterLine_64 : decode cX5_sisterLine 64 = .ok (.pop, 1) := by decide +kernel
theorem dX5_sisterLine_65 : decode cX5_sisterLine 65 = .ok (.return_, 1) := by decide +kernel
theorem dX5_yearLine_0 : decode cX5_yearLine 0 = .ok (.aload_n 0, 1) := by decide +kernel
theorem dX5_yearLine_1 : decode cX5_yearLine 1 = .ok (.sipush 10019, 3) := by decide +kernel
theorem dX5_yearLine_4 : decode cX5_yearLine 4 = .ok (.aload_n 0, 1) := by decide +kernel
theorem dX5_yearLine_5 : decode cX5_yearLine 5 = .ok (.getfield 33, 3) := by decide +kernel
theorem dX5_yearLine_8 : decode cX5_yearLine 8 = .ok (.getfield 85, 3) := by decide +kernel
theorem dX5_yearLine_11 : decode cX5_yearLine 11 = .ok (.invokevirtual 150, 3) := by decide +kernel
theorem dX5_yearLine_14 : decode cX5_yearLine 14 = .ok (.ifCond .ne 4, 3) := by decide +kernel
theorem dX5_yearLine_17 : decode cX5_yearLine 17 = .ok (.return_, 1) := by decide +kernel
theorem dX5_yearLine_18 : decode cX5_yearLine 18 = .ok (.aload_n 0, 1) := by decide +kernel
theorem dX5_yearLine_19 : decode cX5_yearLine 19 = .ok (.sipush 1000, 3) := by decide +kernel
theorem dX5_yearLine_22 : decode cX5_yearLine 22 = .ok (.invokevirtual 153, 3) := by decide +kernel
theorem dX5_yearLine_25 : decode cX5_yearLine 25 = .ok (.istore_n 1, 1) := by decide +kernel
theorem dX5_yearLine_26 : decode cX5_yearLine 26 = .ok (.aload_n 0, 1) := by decide +kernel
theorem dX5_yearLine_27 : decode cX5_yearLine 27 = .ok (.getfield 65, 3) := by decide +kernel
theorem dX5_yearLine_30 : decode cX5_yearLine 30 = .ok (.istore_n 2, 1) := by decide +kernel
theorem dX5_yearLine_31 : decode cX5_yearLine 31 = .ok (.aload_n 0, 1) := by decide +kernel
theorem dX5_yearLine_32 : decode cX5_yearLine 32 = .ok (.getfield 44, 3) := by decide +kernel
theorem dX5_yearLine_35 : decode cX5_yearLine 35 = .ok (.ifCond .ne 29, 3) := by decide +kernel
theorem dX5_yearLine_38 : decode cX5_yearLine 38 = .ok (.iload_n 2, 1) := by decide +kernel
theorem dX5_yearLine_39 : decode cX5_yearLine 39 = .ok (.sipush 10020, 3) := by decide +kernel
theorem dX5_yearLine_42 : decode cX5_yearLine 42 = .ok (.if_icmp .eq 22, 3) := by decide +kernel
theorem dX5_yearLine_45 : decode cX5_yearLine 45 = .ok (.iload_n 2, 1) := by decide +kernel
theorem dX5_yearLine_46 : decode cX5_yearLine 46 = .ok (.sipush 10021, 3) := by decide +kernel
theorem dX5_yearLine_49 : decode cX5_yearLine 49 = .ok (.if_icmp .eq 15, 3) := by decide +kernel
theorem dX5_yearLine_52 : decode cX5_yearLine 52 = .ok (.iload_n 2, 1) := by decide +kernel
theorem dX5_yearLine_53 : decode cX5_yearLine 53 = .ok (.sipush 10022, 3) := by decide +kernel
theorem dX5_yearLine_56 : decode cX5_yearLine 56 = .ok (.if_icmp .eq 8, 3) := by decide +kernel
theorem dX5_yearLine_59 : decode cX5_yearLine 59 = .ok (.aload_n 0, 1) := by decide +kernel
theorem dX5_yearLine_60 : decode cX5_yearLine 60 = .ok (.iconst 1, 1) := by decide +kernel
theorem dX5_yearLine_61 : decode cX5_yearLine 61 = .ok (.invokevirtual 133, 3) := by decide +kernel
theorem dX5_yearLine_64 : decode cX5_yearLine 64 = .ok (.aload_n 0, 1) := by decide +kernel
theorem dX5_yearLine_65 : decode cX5_yearLine 65 = .ok (.iload_n 2, 1) := by decide +kernel
theorem dX5_yearLine_66 : decode cX5_yearLine 66 = .ok (.invokevirtual 140, 3) := by decide +kernel
theorem dX5_yearLine_69 : decode cX5_yearLine 69 = .ok (.pop, 1) := by decide +kernel
theorem dX5_yearLine_70 : decode cX5_yearLine 70 = .ok (.aload_n 0, 1) := by decide +kernel
theorem dX5_yearLine_71 : decode cX5_yearLine 71 = .ok (.iload_n 2, 1) := by decide +kernel
theorem dX5_yearLine_72 : decode cX5_yearLine 72 = .ok (.sipush 10021, 3) := by decide +kernel
theorem dX5_yearLine_75 : decode cX5_yearLine 75 = .ok (.if_icmp .ne 10, 3) := by decide +kernel
theorem dX5_yearLine_78 : decode cX5_yearLine 78 = .ok (.aload_n 0, 1) := by decide +kernel
theorem dX5_yearLine_79 : decode cX5_yearLine 79 = .ok (.getfield 47, 3) := by decide +kernel
theorem dX5_yearLine_82 : decode cX5_yearLine 82 = .ok (.goto 7, 3) := by decide +kernel
theorem dX5_yearLine_85 : decode cX5_yearLine 85 = .ok (.aload_n 0, 1) := by decide +kernel
theorem dX5_yearLine_86 : decode cX5_yearLine 86 = .ok (.getfield 50, 3) := by decide +kernel
theorem dX5_yearLine_89 : decode cX5_yearLine 89 = .ok (.invokevirtual 153, 3) := by decide +kernel
theorem dX5_yearLine_92 : decode cX5_yearLine 92 = .ok (.istore_n 3, 1) := by decide +kernel
theorem dX5_yearLine_93 : decode cX5_yearLine 93 = .ok (.aload_n 0, 1) := by decide +kernel
theorem dX5_yearLine_94 : decode cX5_yearLine 94 = .ok (.getfield 33, 3) := by decide +kernel
theorem dX5_yearLine_97 : decode cX5_yearLine 97 = .ok (.iload_n 1, 1) := by decide +kernel
theorem dX5_yearLine_98 : decode cX5_yearLine 98 = .ok (.iload_n 2, 1) := by decide +kernel
theorem dX5_yearLine_99 : decode cX5_yearLine 99 = .ok (.iload_n 3, 1) := by decide +kernel
theorem dX5_yearLine_100 : decode cX5_yearLine 100 = .ok (.iconst 0, 1) := by decide +kernel
theorem dX5_yearLine_101 : decode cX5_yearLine 101 = .ok (.invokevirtual 156, 3) := by decide +kernel
theorem dX5_yearLine_104 : decode cX5_yearLine 104 = .ok (.pop, 1) := by decide +kernel
theorem dX5_yearLine_105 : decode cX5_yearLine 105 = .ok (.iload_n 2, 1) := by decide +kernel
theorem dX5_yearLine_106 : decode cX5_yearLine 106 = .ok (.sipush 10020, 3) := by decide +kernel
theorem dX5_yearLine_109 : decode cX5_yearLine 109 = .ok (.if_icmp .ne 66, 3) := by decide +kernel
theorem dX5_yearLine_112 : decode cX5_yearLine 112 = .ok (.aload_n 0, 1) := by decide +kernel
theorem dX5_yearLine_113 : decode cX5_yearLine 113 = .ok (.aload_n 0, 1) := by decide +kernel
theorem dX5_yearLine_114 : decode cX5_yearLine 114 = .ok (.getfield 47, 3) := by decide +kernel
theorem dX5_yearLine_117 : decode cX5_yearLine 117 = .ok (.invokevirtual 153, 3) := by decide +kernel
theorem dX5_yearLine_120 : decode cX5_yearLine 120 = .ok (.istore 4, 2) := by decide +kernel
theorem dX5_yearLine_122 : decode cX5_yearLine 122 = .ok (.aload_n 0, 1) := by decide +kernel
theorem dX5_yearLine_123 : decode cX5_yearLine 123 = .ok (.aload_n 0, 1) := by decide +kernel
theorem dX5_yearLine_124 : decode cX5_yearLine 124 = .ok (.getfield 47, 3) := by decide +kernel
theorem dX5_yearLine_127 : decode cX5_yearLine 127 = .ok (.iload 4, 2) := by decide +kernel
theorem dX5_yearLine_129 : decode cX5_yearLine 129 = .ok (.iconst (-1), 1) := by decide +kernel
theorem dX5_yearLine_130 : decode cX5_yearLine 130 = .ok (.invokevirtual 143, 3) := by decide +kernel
theorem dX5_yearLine_133 : decode cX5_yearLine 133 = .ok (.istore 5, 2) := by decide +kernel
theorem dX5_yearLine_135 : decode cX5_yearLine 135 = .ok (.aload_n 0, 1) := by decide +kernel
theorem dX5_yearLine_136 : decode cX5_yearLine 136 = .ok (.getfield 33, 3) := by decide +kernel
theorem dX5_yearLine_139 : decode cX5_yearLine 139 = .ok (.iconst 3, 1) := by decide +kernel
theorem dX5_yearLine_140 : decode cX5_yearLine 140 = .ok (.iload 4, 2) := by decide +kernel
theorem dX5_yearLine_142 : decode cX5_yearLine 142 = .ok (.invokevirtual 160, 3) := by decide +kernel
theorem dX5_yearLine_145 : decode cX5_yearLine 145 = .ok (.aload_n 0, 1) := by decide +kernel
theorem dX5_yearLine_146 : decode cX5_yearLine 146 = .ok (.getfield 33, 3) := by decide +kernel
theorem dX5_yearLine_149 : decode cX5_yearLine 149 = .ok (.iconst 4, 1) := by decide +kernel
theorem dX5_yearLine_150 : decode cX5_yearLine 150 = .ok (.iload 5, 2) := by decide +kernel
theorem dX5_yearLine_152 : decode cX5_yearLine 152 = .ok (.invokevirtual 160, 3) := by decide +kernel
theorem dX5_yearLine_155 : decode cX5_yearLine 155 = .ok (.aload_n 0, 1) := by decide +kernel
theorem dX5_yearLine_156 : decode cX5_yearLine 156 = .ok (.getfield 33, 3) := by decide +kernel
theorem dX5_yearLine_159 : decode cX5_yearLine 159 = .ok (.iconst 5, 1) := by decide +kernel
theorem dX5_yearLine_160 : decode cX5_yearLine 160 = .ok (.aload_n 0, 1) := by decide +kernel
theorem dX5_yearLine_161 : decode cX5_yearLine 161 = .ok (.aload_n 0, 1) := by decide +kernel
theorem dX5_yearLine_162 : decode cX5_yearLine 162 = .ok (.getfield 47, 3) := by decide +kernel
theorem dX5_yearLine_165 : decode cX5_yearLine 165 = .ok (.iload 4, 2) := by decide +kernel
theorem dX5_yearLine_167 : decode cX5_yearLine 167 = .ok (.iload 5, 2) := by decide +kernel
theorem dX5_yearLine_169 : decode cX5_yearLine 169 = .ok (.invokevirtual 143, 3) := by decide +kernel
theorem dX5_yearLine_172 : decode cX5_yearLine 172 = .ok (.invokevirtual 160, 3) := by decide +kernel
theorem dX5_yearLine_175 : decode cX5_yearLine 175 = .ok (.aload_n 0, 1) := by decide +kernel
theorem dX5_yearLine_176 : decode cX5_yearLine 176 = .ok (.sipush 20059, 3) := by decide +kernel
theorem dX5_yearLine_179 : decode cX5_yearLine 179 = .ok (.invokevirtual 140, 3) := by decide +kernel
theorem dX5_yearLine_182 : decode cX5_yearLine 182 = .ok (.pop, 1) := by decide +kernel
theorem dX5_yearLine_183 : decode cX5_yearLine 183 = .ok (.return_, 1) := by decide +kernel
theorem dX5_lawLine_0 : decode cX5_lawLine 0 = .ok (.aload_n 0, 1) := by decide +kernel
theorem dX5_lawLine_1 : decode cX5_lawLine 1 = .ok (.getfield 65, 3) := by decide +kernel
theorem dX5_lawLine_4 : decode cX5_lawLine 4 = .ok (.istore_n 1, 1) := by decide +kernel
theorem dX5_lawLine_5 : decode cX5_lawLine 5 = .ok (.iload_n 1, 1) := by decide +kernel
theorem dX5_lawLine_6 : decode cX5_lawLine 6 = .ok (.sipush 10000, 3) := by decide +kernel
theorem dX5_lawLine_9 : decode cX5_lawLine 9 = .ok (.if_icmp .eq 22, 3) := by decide +kernel
theorem dX5_lawLine_12 : decode cX5_lawLine 12 = .ok (.iload_n 1, 1) := by decide +kernel
theorem dX5_lawLine_13 : decode cX5_lawLine 13 = .ok (.sipush 10001, 3) := by decide +kernel
theorem dX5_lawLine_16 : decode cX5_lawLine 16 = .ok (.if_icmp .eq 15, 3) := by decide +kernel
theorem dX5_lawLine_19 : decode cX5_lawLine 19 = .ok (.iload_n 1, 1) := by decide +kernel
theorem dX5_lawLine_20 : decode cX5_lawLine 20 = .ok (.sipush 10002, 3) := by decide +kernel
theorem dX5_lawLine_23 : decode cX5_lawLine 23 = .ok (.if_icmp .eq 8, 3) := by decide +kernel
theorem dX5_lawLine_26 : decode cX5_lawLine 26 = .ok (.aload_n 0, 1) := by decide +kernel
theorem dX5_lawLine_27 : decode cX5_lawLine 27 = .ok (.iconst 1, 1) := by decide +kernel
theorem dX5_lawLine_28 : decode cX5_lawLine 28 = .ok (.invokevirtual 133, 3) := by decide +kernel
theorem dX5_lawLine_31 : decode cX5_lawLine 31 = .ok (.aload_n 0, 1) := by decide +kernel
theorem dX5_lawLine_32 : decode cX5_lawLine 32 = .ok (.iload_n 1, 1) := by decide +kernel
theorem dX5_lawLine_33 : decode cX5_lawLine 33 = .ok (.aload_n 0, 1) := by decide +kernel
theorem dX5_lawLine_34 : decode cX5_lawLine 34 = .ok (.getfield 24, 3) := by decide +kernel
theorem dX5_lawLine_37 : decode cX5_lawLine 37 = .ok (.getfield 82, 3) := by decide +kernel
end
