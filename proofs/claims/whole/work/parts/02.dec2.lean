theorem dX11_builds_148 : decode cX11_builds 148 = .ok (.imul, 1) := by decide +kernel
theorem dX11_builds_149 : decode cX11_builds 149 = .ok (.iadd, 1) := by decide +kernel
theorem dX11_builds_150 : decode cX11_builds 150 = .ok (.dup2, 1) := by decide +kernel
theorem dX11_builds_151 : decode cX11_builds 151 = .ok (.iaload, 1) := by decide +kernel
theorem dX11_builds_152 : decode cX11_builds 152 = .ok (.iload_n 2, 1) := by decide +kernel
theorem dX11_builds_153 : decode cX11_builds 153 = .ok (.isub, 1) := by decide +kernel
theorem dX11_builds_154 : decode cX11_builds 154 = .ok (.iastore, 1) := by decide +kernel
theorem dX11_builds_155 : decode cX11_builds 155 = .ok (.aload_n 0, 1) := by decide +kernel
theorem dX11_builds_156 : decode cX11_builds 156 = .ok (.getfield 9, 3) := by decide +kernel
theorem dX11_builds_159 : decode cX11_builds 159 = .ok (.bipush 6, 2) := by decide +kernel
theorem dX11_builds_161 : decode cX11_builds 161 = .ok (.dup2, 1) := by decide +kernel
theorem dX11_builds_162 : decode cX11_builds 162 = .ok (.iaload, 1) := by decide +kernel
theorem dX11_builds_163 : decode cX11_builds 163 = .ok (.iconst 2, 1) := by decide +kernel
theorem dX11_builds_164 : decode cX11_builds 164 = .ok (.iload_n 2, 1) := by decide +kernel
theorem dX11_builds_165 : decode cX11_builds 165 = .ok (.imul, 1) := by decide +kernel
theorem dX11_builds_166 : decode cX11_builds 166 = .ok (.isub, 1) := by decide +kernel
theorem dX11_builds_167 : decode cX11_builds 167 = .ok (.iastore, 1) := by decide +kernel
theorem dX11_builds_168 : decode cX11_builds 168 = .ok (.aload_n 0, 1) := by decide +kernel
theorem dX11_builds_169 : decode cX11_builds 169 = .ok (.getfield 9, 3) := by decide +kernel
theorem dX11_builds_172 : decode cX11_builds 172 = .ok (.bipush 12, 2) := by decide +kernel
theorem dX11_builds_174 : decode cX11_builds 174 = .ok (.dup2, 1) := by decide +kernel
theorem dX11_builds_175 : decode cX11_builds 175 = .ok (.iaload, 1) := by decide +kernel
theorem dX11_builds_176 : decode cX11_builds 176 = .ok (.iload_n 3, 1) := by decide +kernel
theorem dX11_builds_177 : decode cX11_builds 177 = .ok (.iadd, 1) := by decide +kernel
theorem dX11_builds_178 : decode cX11_builds 178 = .ok (.iastore, 1) := by decide +kernel
theorem dX11_builds_179 : decode cX11_builds 179 = .ok (.aload_n 0, 1) := by decide +kernel
theorem dX11_builds_180 : decode cX11_builds 180 = .ok (.getfield 9, 3) := by decide +kernel
theorem dX11_builds_183 : decode cX11_builds 183 = .ok (.iconst 3, 1) := by decide +kernel
theorem dX11_builds_184 : decode cX11_builds 184 = .ok (.dup2, 1) := by decide +kernel
theorem dX11_builds_185 : decode cX11_builds 185 = .ok (.iaload, 1) := by decide +kernel
theorem dX11_builds_186 : decode cX11_builds 186 = .ok (.iconst 1, 1) := by decide +kernel
theorem dX11_builds_187 : decode cX11_builds 187 = .ok (.iadd, 1) := by decide +kernel
theorem dX11_builds_188 : decode cX11_builds 188 = .ok (.iastore, 1) := by decide +kernel
theorem dX11_builds_189 : decode cX11_builds 189 = .ok (.iconst 0, 1) := by decide +kernel
theorem dX11_builds_190 : decode cX11_builds 190 = .ok (.istore 5, 2) := by decide +kernel
theorem dX11_builds_192 : decode cX11_builds 192 = .ok (.iload 5, 2) := by decide +kernel
theorem dX11_builds_194 : decode cX11_builds 194 = .ok (.bipush 6, 2) := by decide +kernel
theorem dX11_builds_196 : decode cX11_builds 196 = .ok (.if_icmp .ge 18, 3) := by decide +kernel
theorem dX11_builds_199 : decode cX11_builds 199 = .ok (.aload_n 0, 1) := by decide +kernel
theorem dX11_builds_200 : decode cX11_builds 200 = .ok (.iload 4, 2) := by decide +kernel
theorem dX11_builds_202 : decode cX11_builds 202 = .ok (.iload 5, 2) := by decide +kernel
theorem dX11_builds_204 : decode cX11_builds 204 = .ok (.iconst 0, 1) := by decide +kernel
theorem dX11_builds_205 : decode cX11_builds 205 = .ok (.invokevirtual 81, 3) := by decide +kernel
theorem dX11_builds_208 : decode cX11_builds 208 = .ok (.iinc 5 1, 3) := by decide +kernel
theorem dX11_builds_211 : decode cX11_builds 211 = .ok (.goto (-19), 3) := by decide +kernel
theorem dX11_builds_214 : decode cX11_builds 214 = .ok (.aload_n 0, 1) := by decide +kernel
theorem dX11_builds_215 : decode cX11_builds 215 = .ok (.iload 4, 2) := by decide +kernel
theorem dX11_builds_217 : decode cX11_builds 217 = .ok (.iconst 0, 1) := by decide +kernel
theorem dX11_builds_218 : decode cX11_builds 218 = .ok (.iload_n 2, 1) := by decide +kernel
theorem dX11_builds_219 : decode cX11_builds 219 = .ok (.invokevirtual 81, 3) := by decide +kernel
theorem dX11_builds_222 : decode cX11_builds 222 = .ok (.aload_n 0, 1) := by decide +kernel
theorem dX11_builds_223 : decode cX11_builds 223 = .ok (.iload 4, 2) := by decide +kernel
theorem dX11_builds_225 : decode cX11_builds 225 = .ok (.iconst 1, 1) := by decide +kernel
theorem dX11_builds_226 : decode cX11_builds 226 = .ok (.aload_n 0, 1) := by decide +kernel
theorem dX11_builds_227 : decode cX11_builds 227 = .ok (.getfield 9, 3) := by decide +kernel
theorem dX11_builds_230 : decode cX11_builds 230 = .ok (.bipush 14, 2) := by decide +kernel
theorem dX11_builds_232 : decode cX11_builds 232 = .ok (.iconst 2, 1) := by decide +kernel
theorem dX11_builds_233 : decode cX11_builds 233 = .ok (.iload_n 1, 1) := by decide +kernel
theorem dX11_builds_234 : decode cX11_builds 234 = .ok (.imul, 1) := by decide +kernel
theorem dX11_builds_235 : decode cX11_builds 235 = .ok (.iadd, 1) := by decide +kernel
theorem dX11_builds_236 : decode cX11_builds 236 = .ok (.iconst 1, 1) := by decide +kernel
theorem dX11_builds_237 : decode cX11_builds 237 = .ok (.iadd, 1) := by decide +kernel
theorem dX11_builds_238 : decode cX11_builds 238 = .ok (.iaload, 1) := by decide +kernel
theorem dX11_builds_239 : decode cX11_builds 239 = .ok (.invokevirtual 81, 3) := by decide +kernel
theorem dX11_builds_242 : decode cX11_builds 242 = .ok (.aload_n 0, 1) := by decide +kernel
theorem dX11_builds_243 : decode cX11_builds 243 = .ok (.iload 4, 2) := by decide +kernel
theorem dX11_builds_245 : decode cX11_builds 245 = .ok (.iconst 3, 1) := by decide +kernel
theorem dX11_builds_246 : decode cX11_builds 246 = .ok (.iload_n 3, 1) := by decide +kernel
theorem dX11_builds_247 : decode cX11_builds 247 = .ok (.invokevirtual 81, 3) := by decide +kernel
theorem dX11_builds_250 : decode cX11_builds 250 = .ok (.aload_n 0, 1) := by decide +kernel
theorem dX11_builds_251 : decode cX11_builds 251 = .ok (.iload 4, 2) := by decide +kernel
theorem dX11_builds_253 : decode cX11_builds 253 = .ok (.invokevirtual 85, 3) := by decide +kernel
theorem dX11_builds_256 : decode cX11_builds 256 = .ok (.ireturn, 1) := by decide +kernel
theorem dX11_build_0 : decode cX11_build 0 = .ok (.aload_n 0, 1) := by decide +kernel
theorem dX11_build_1 : decode cX11_build 1 = .ok (.invokevirtual 65, 3) := by decide +kernel
theorem dX11_build_4 : decode cX11_build 4 = .ok (.aload_n 0, 1) := by decide +kernel
theorem dX11_build_5 : decode cX11_build 5 = .ok (.aload_n 0, 1) := by decide +kernel
theorem dX11_build_6 : decode cX11_build 6 = .ok (.iload_n 1, 1) := by decide +kernel
theorem dX11_build_7 : decode cX11_build 7 = .ok (.iload_n 2, 1) := by decide +kernel
theorem dX11_build_8 : decode cX11_build 8 = .ok (.iload_n 3, 1) := by decide +kernel
theorem dX11_build_9 : decode cX11_build 9 = .ok (.invokevirtual 88, 3) := by decide +kernel
theorem dX11_build_12 : decode cX11_build 12 = .ok (.invokevirtual 92, 3) := by decide +kernel
theorem dX11_build_15 : decode cX11_build 15 = .ok (.ireturn, 1) := by decide +kernel
theorem dX11_ties_0 : decode cX11_ties 0 = .ok (.aload_n 0, 1) := by decide +kernel
theorem dX11_ties_1 : decode cX11_ties 1 = .ok (.iload_n 1, 1) := by decide +kernel
theorem dX11_ties_2 : decode cX11_ties 2 = .ok (.invokevirtual 95, 3) := by decide +kernel
theorem dX11_ties_5 : decode cX11_ties 5 = .ok (.ifCond .ne 5, 3) := by decide +kernel
theorem dX11_ties_8 : decode cX11_ties 8 = .ok (.iconst (-1), 1) := by decide +kernel
theorem dX11_ties_9 : decode cX11_ties 9 = .ok (.ireturn, 1) := by decide +kernel
theorem dX11_ties_10 : decode cX11_ties 10 = .ok (.aload_n 0, 1) := by decide +kernel
theorem dX11_ties_11 : decode cX11_ties 11 = .ok (.getfield 9, 3) := by decide +kernel
theorem dX11_ties_14 : decode cX11_ties 14 = .ok (.iconst 1, 1) := by decide +kernel
theorem dX11_ties_15 : decode cX11_ties 15 = .ok (.iaload, 1) := by decide +kernel
theorem dX11_ties_16 : decode cX11_ties 16 = .ok (.iconst 3, 1) := by decide +kernel
theorem dX11_ties_17 : decode cX11_ties 17 = .ok (.if_icmp .lt 15, 3) := by decide +kernel
theorem dX11_ties_20 : decode cX11_ties 20 = .ok (.aload_n 0, 1) := by decide +kernel
theorem dX11_ties_21 : decode cX11_ties 21 = .ok (.iconst 4, 1) := by decide +kernel
theorem dX11_ties_22 : decode cX11_ties 22 = .ok (.aload_n 0, 1) := by decide +kernel
theorem dX11_ties_23 : decode cX11_ties 23 = .ok (.getfield 9, 3) := by decide +kernel
theorem dX11_ties_26 : decode cX11_ties 26 = .ok (.iconst 1, 1) := by decide +kernel
theorem dX11_ties_27 : decode cX11_ties 27 = .ok (.iaload, 1) := by decide +kernel
theorem dX11_ties_28 : decode cX11_ties 28 = .ok (.invokevirtual 68, 3) := by decide +kernel
theorem dX11_ties_31 : decode cX11_ties 31 = .ok (.ireturn, 1) := by decide +kernel
theorem dX11_ties_32 : decode cX11_ties 32 = .ok (.aload_n 0, 1) := by decide +kernel
theorem dX11_ties_33 : decode cX11_ties 33 = .ok (.iload_n 1, 1) := by decide +kernel
theorem dX11_ties_34 : decode cX11_ties 34 = .ok (.iconst 2, 1) := by decide +kernel
theorem dX11_ties_35 : decode cX11_ties 35 = .ok (.invokevirtual 98, 3) := by decide +kernel
theorem dX11_ties_38 : decode cX11_ties 38 = .ok (.istore_n 2, 1) := by decide +kernel
theorem dX11_ties_39 : decode cX11_ties 39 = .ok (.iload_n 2, 1) := by decide +kernel
theorem dX11_ties_40 : decode cX11_ties 40 = .ok (.ifCond .ne 11, 3) := by decide +kernel
theorem dX11_ties_43 : decode cX11_ties 43 = .ok (.aload_n 0, 1) := by decide +kernel
theorem dX11_ties_44 : decode cX11_ties 44 = .ok (.bipush 10, 2) := by decide +kernel
theorem dX11_ties_46 : decode cX11_ties 46 = .ok (.iload_n 1, 1) := by decide +kernel
theorem dX11_ties_47 : decode cX11_ties 47 = .ok (.invokevirtual 68, 3) := by decide +kernel
theorem dX11_ties_50 : decode cX11_ties 50 = .ok (.ireturn, 1) := by decide +kernel
theorem dX11_ties_51 : decode cX11_ties 51 = .ok (.iconst 2, 1) := by decide +kernel
theorem dX11_ties_52 : decode cX11_ties 52 = .ok (.aload_n 0, 1) := by decide +kernel
theorem dX11_ties_53 : decode cX11_ties 53 = .ok (.iload_n 1, 1) := by decide +kernel
theorem dX11_ties_54 : decode cX11_ties 54 = .ok (.iconst 0, 1) := by decide +kernel
theorem dX11_ties_55 : decode cX11_ties 55 = .ok (.invokevirtual 98, 3) := by decide +kernel
theorem dX11_ties_58 : decode cX11_ties 58 = .ok (.imul, 1) := by decide +kernel
theorem dX11_ties_59 : decode cX11_ties 59 = .ok (.istore_n 3, 1) := by decide +kernel
theorem dX11_ties_60 : decode cX11_ties 60 = .ok (.aload_n 0, 1) := by decide +kernel
theorem dX11_ties_61 : decode cX11_ties 61 = .ok (.getfield 9, 3) := by decide +kernel
theorem dX11_ties_64 : decode cX11_ties 64 = .ok (.bipush 6, 2) := by decide +kernel
theorem dX11_ties_66 : decode cX11_ties 66 = .ok (.iaload, 1) := by decide +kernel
theorem dX11_ties_67 : decode cX11_ties 67 = .ok (.iload_n 3, 1) := by decide +kernel
theorem dX11_ties_68 : decode cX11_ties 68 = .ok (.if_icmp .ge 18, 3) := by decide +kernel
theorem dX11_ties_71 : decode cX11_ties 71 = .ok (.aload_n 0, 1) := by decide +kernel
theorem dX11_ties_72 : decode cX11_ties 72 = .ok (.iconst 3, 1) := by decide +kernel
theorem dX11_ties_73 : decode cX11_ties 73 = .ok (.iload_n 3, 1) := by decide +kernel
theorem dX11_ties_74 : decode cX11_ties 74 = .ok (.aload_n 0, 1) := by decide +kernel
theorem dX11_ties_75 : decode cX11_ties 75 = .ok (.getfield 9, 3) := by decide +kernel
theorem dX11_ties_78 : decode cX11_ties 78 = .ok (.bipush 6, 2) := by decide +kernel
theorem dX11_ties_80 : decode cX11_ties 80 = .ok (.iaload, 1) := by decide +kernel
theorem dX11_ties_81 : decode cX11_ties 81 = .ok (.isub, 1) := by decide +kernel
theorem dX11_ties_82 : decode cX11_ties 82 = .ok (.invokevirtual 68, 3) := by decide +kernel
theorem dX11_ties_85 : decode cX11_ties 85 = .ok (.ireturn, 1) := by decide +kernel
theorem dX11_ties_86 : decode cX11_ties 86 = .ok (.aload_n 0, 1) := by decide +kernel
theorem dX11_ties_87 : decode cX11_ties 87 = .ok (.getfield 9, 3) := by decide +kernel
theorem dX11_ties_90 : decode cX11_ties 90 = .ok (.bipush 6, 2) := by decide +kernel
theorem dX11_ties_92 : decode cX11_ties 92 = .ok (.dup2, 1) := by decide +kernel
theorem dX11_ties_93 : decode cX11_ties 93 = .ok (.iaload, 1) := by decide +kernel
theorem dX11_ties_94 : decode cX11_ties 94 = .ok (.iload_n 3, 1) := by decide +kernel
theorem dX11_ties_95 : decode cX11_ties 95 = .ok (.isub, 1) := by decide +kernel
theorem dX11_ties_96 : decode cX11_ties 96 = .ok (.iastore, 1) := by decide +kernel
theorem dX11_ties_97 : decode cX11_ties 97 = .ok (.aload_n 0, 1) := by decide +kernel
theorem dX11_ties_98 : decode cX11_ties 98 = .ok (.iload_n 1, 1) := by decide +kernel
theorem dX11_ties_99 : decode cX11_ties 99 = .ok (.iconst 2, 1) := by decide +kernel
theorem dX11_ties_100 : decode cX11_ties 100 = .ok (.iconst 0, 1) := by decide +kernel
theorem dX11_ties_101 : decode cX11_ties 101 = .ok (.invokevirtual 81, 3) := by decide +kernel
theorem dX11_ties_104 : decode cX11_ties 104 = .ok (.aload_n 0, 1) := by decide +kernel
theorem dX11_ties_105 : decode cX11_ties 105 = .ok (.iload_n 1, 1) := by decide +kernel
theorem dX11_ties_106 : decode cX11_ties 106 = .ok (.iconst 5, 1) := by decide +kernel
theorem dX11_ties_107 : decode cX11_ties 107 = .ok (.iconst 0, 1) := by decide +kernel
theorem dX11_ties_108 : decode cX11_ties 108 = .ok (.invokevirtual 81, 3) := by decide +kernel
theorem dX11_ties_111 : decode cX11_ties 111 = .ok (.aload_n 0, 1) := by decide +kernel
theorem dX11_ties_112 : decode cX11_ties 112 = .ok (.iload_n 2, 1) := by decide +kernel
theorem dX11_ties_113 : decode cX11_ties 113 = .ok (.invokevirtual 85, 3) := by decide +kernel
theorem dX11_ties_116 : decode cX11_ties 116 = .ok (.ireturn, 1) := by decide +kernel
theorem dX11_tie_0 : decode cX11_tie 0 = .ok (.aload_n 0, 1) := by decide +kernel
theorem dX11_tie_1 : decode cX11_tie 1 = .ok (.invokevirtual 65, 3) := by decide +kernel
theorem dX11_tie_4 : decode cX11_tie 4 = .ok (.aload_n 0, 1) := by decide +kernel
theorem dX11_tie_5 : decode cX11_tie 5 = .ok (.aload_n 0, 1) := by decide +kernel
theorem dX11_tie_6 : decode cX11_tie 6 = .ok (.iload_n 1, 1) := by decide +kernel
theorem dX11_tie_7 : decode cX11_tie 7 = .ok (.invokevirtual 101, 3) := by decide +kernel
theorem dX11_tie_10 : decode cX11_tie 10 = .ok (.invokevirtual 92, 3) := by decide +kernel
theorem dX11_tie_13 : decode cX11_tie 13 = .ok (.ireturn, 1) := by decide +kernel
theorem dX11_crew_0 : decode cX11_crew 0 = .ok (.aload_n 0, 1) := by decide +kernel
theorem dX11_crew_1 : decode cX11_crew 1 = .ok (.invokevirtual 65, 3) := by decide +kernel
theorem dX11_crew_4 : decode cX11_crew 4 = .ok (.iload_n 1, 1) := by decide +kernel
theorem dX11_crew_5 : decode cX11_crew 5 = .ok (.iconst 1, 1) := by decide +kernel
theorem dX11_crew_6 : decode cX11_crew 6 = .ok (.iconst 4, 1) := by decide +kernel
theorem dX11_crew_7 : decode cX11_crew 7 = .ok (.invokestatic 58, 3) := by decide +kernel
theorem dX11_crew_10 : decode cX11_crew 10 = .ok (.ifCond .ne 6, 3) := by decide +kernel
theorem dX11_crew_13 : decode cX11_crew 13 = .ok (.bipush (-2), 2) := by decide +kernel
theorem dX11_crew_15 : decode cX11_crew 15 = .ok (.ireturn, 1) := by decide +kernel
theorem dX11_crew_16 : decode cX11_crew 16 = .ok (.aload_n 0, 1) := by decide +kernel
theorem dX11_crew_17 : decode cX11_crew 17 = .ok (.getfield 9, 3) := by decide +kernel
theorem dX11_crew_20 : decode cX11_crew 20 = .ok (.iconst 4, 1) := by decide +kernel
theorem dX11_crew_21 : decode cX11_crew 21 = .ok (.iaload, 1) := by decide +kernel
theorem dX11_crew_22 : decode cX11_crew 22 = .ok (.istore_n 2, 1) := by decide +kernel
theorem dX11_crew_23 : decode cX11_crew 23 = .ok (.iload_n 2, 1) := by decide +kernel
theorem dX11_crew_24 : decode cX11_crew 24 = .ok (.iconst 5, 1) := by decide +kernel
theorem dX11_crew_25 : decode cX11_crew 25 = .ok (.if_icmp .ne 10, 3) := by decide +kernel
theorem dX11_crew_28 : decode cX11_crew 28 = .ok (.aload_n 0, 1) := by decide +kernel
theorem dX11_crew_29 : decode cX11_crew 29 = .ok (.iconst 1, 1) := by decide +kernel
theorem dX11_crew_30 : decode cX11_crew 30 = .ok (.iconst 5, 1) := by decide +kernel
theorem dX11_crew_31 : decode cX11_crew 31 = .ok (.invokevirtual 68, 3) := by decide +kernel
theorem dX11_crew_34 : decode cX11_crew 34 = .ok (.ireturn, 1) := by decide +kernel
theorem dX11_crew_35 : decode cX11_crew 35 = .ok (.aload_n 0, 1) := by decide +kernel
theorem dX11_crew_36 : decode cX11_crew 36 = .ok (.getfield 9, 3) := by decide +kernel
theorem dX11_crew_39 : decode cX11_crew 39 = .ok (.iconst 4, 1) := by decide +kernel
theorem dX11_crew_40 : decode cX11_crew 40 = .ok (.dup2, 1) := by decide +kernel
theorem dX11_crew_41 : decode cX11_crew 41 = .ok (.iaload, 1) := by decide +kernel
theorem dX11_crew_42 : decode cX11_crew 42 = .ok (.iconst 1, 1) := by decide +kernel
theorem dX11_crew_43 : decode cX11_crew 43 = .ok (.iadd, 1) := by decide +kernel
theorem dX11_crew_44 : decode cX11_crew 44 = .ok (.iastore, 1) := by decide +kernel
theorem dX11_crew_45 : decode cX11_crew 45 = .ok (.aload_n 0, 1) := by decide +kernel
theorem dX11_crew_46 : decode cX11_crew 46 = .ok (.getfield 9, 3) := by decide +kernel
theorem dX11_crew_49 : decode cX11_crew 49 = .ok (.bipush 90, 2) := by decide +kernel
theorem dX11_crew_51 : decode cX11_crew 51 = .ok (.iconst 3, 1) := by decide +kernel
theorem dX11_crew_52 : decode cX11_crew 52 = .ok (.iload_n 2, 1) := by decide +kernel
theorem dX11_crew_53 : decode cX11_crew 53 = .ok (.imul, 1) := by decide +kernel
theorem dX11_crew_54 : decode cX11_crew 54 = .ok (.iadd, 1) := by decide +kernel
theorem dX11_crew_55 : decode cX11_crew 55 = .ok (.iload_n 1, 1) := by decide +kernel
theorem dX11_crew_56 : decode cX11_crew 56 = .ok (.iastore, 1) := by decide +kernel
theorem dX11_crew_57 : decode cX11_crew 57 = .ok (.aload_n 0, 1) := by decide +kernel
theorem dX11_crew_58 : decode cX11_crew 58 = .ok (.getfield 9, 3) := by decide +kernel
theorem dX11_crew_61 : decode cX11_crew 61 = .ok (.bipush 90, 2) := by decide +kernel
theorem dX11_crew_63 : decode cX11_crew 63 = .ok (.iconst 3, 1) := by decide +kernel
theorem dX11_crew_64 : decode cX11_crew 64 = .ok (.iload_n 2, 1) := by decide +kernel
theorem dX11_crew_65 : decode cX11_crew 65 = .ok (.imul, 1) := by decide +kernel
theorem dX11_crew_66 : decode cX11_crew 66 = .ok (.iadd, 1) := by decide +kernel
theorem dX11_crew_67 : decode cX11_crew 67 = .ok (.iconst 1, 1) := by decide +kernel
theorem dX11_crew_68 : decode cX11_crew 68 = .ok (.iadd, 1) := by decide +kernel
theorem dX11_crew_69 : decode cX11_crew 69 = .ok (.iconst 0, 1) := by decide +kernel
theorem dX11_crew_70 : decode cX11_crew 70 = .ok (.iastore, 1) := by decide +kernel
theorem dX11_crew_71 : decode cX11_crew 71 = .ok (.aload_n 0, 1) := by decide +kernel
theorem dX11_crew_72 : decode cX11_crew 72 = .ok (.getfield 9, 3) := by decide +kernel
theorem dX11_crew_75 : decode cX11_crew 75 = .ok (.bipush 90, 2) := by decide +kernel
theorem dX11_crew_77 : decode cX11_crew 77 = .ok (.iconst 3, 1) := by decide +kernel
theorem dX11_crew_78 : decode cX11_crew 78 = .ok (.iload_n 2, 1) := by decide +kernel
theorem dX11_crew_79 : decode cX11_crew 79 = .ok (.imul, 1) := by decide +kernel
theorem dX11_crew_80 : decode cX11_crew 80 = .ok (.iadd, 1) := by decide +kernel
theorem dX11_crew_81 : decode cX11_crew 81 = .ok (.iconst 2, 1) := by decide +kernel
theorem dX11_crew_82 : decode cX11_crew 82 = .ok (.iadd, 1) := by decide +kernel
theorem dX11_crew_83 : decode cX11_crew 83 = .ok (.iconst 0, 1) := by decide +kernel
theorem dX11_crew_84 : decode cX11_crew 84 = .ok (.iastore, 1) := by decide +kernel
theorem dX11_crew_85 : decode cX11_crew 85 = .ok (.aload_n 0, 1) := by decide +kernel
theorem dX11_crew_86 : decode cX11_crew 86 = .ok (.iload_n 2, 1) := by decide +kernel
theorem dX11_crew_87 : decode cX11_crew 87 = .ok (.invokevirtual 54, 3) := by decide +kernel
theorem dX11_crew_90 : decode cX11_crew 90 = .ok (.ireturn, 1) := by decide +kernel
theorem dX11_oldUpTo_0 : decode cX11_oldUpTo 0 = .ok (.iconst 0, 1) := by decide +kernel
theorem dX11_oldUpTo_1 : decode cX11_oldUpTo 1 = .ok (.istore_n 2, 1) := by decide +kernel
theorem dX11_oldUpTo_2 : decode cX11_oldUpTo 2 = .ok (.iload_n 2, 1) := by decide +kernel
theorem dX11_oldUpTo_3 : decode cX11_oldUpTo 3 = .ok (.iload_n 1, 1) := by decide +kernel
theorem dX11_oldUpTo_4 : decode cX11_oldUpTo 4 = .ok (.if_icmp .gt 22, 3) := by decide +kernel
theorem dX11_oldUpTo_7 : decode cX11_oldUpTo 7 = .ok (.aload_n 0, 1) := by decide +kernel
theorem dX11_oldUpTo_8 : decode cX11_oldUpTo 8 = .ok (.iload_n 2, 1) := by decide +kernel
theorem dX11_oldUpTo_9 : decode cX11_oldUpTo 9 = .ok (.iconst 2, 1) := by decide +kernel
theorem dX11_oldUpTo_10 : decode cX11_oldUpTo 10 = .ok (.invokevirtual 98, 3) := by decide +kernel
theorem dX11_oldUpTo_13 : decode cX11_oldUpTo 13 = .ok (.bipush 20, 2) := by decide +kernel
theorem dX11_oldUpTo_15 : decode cX11_oldUpTo 15 = .ok (.if_icmp .le 5, 3) := by decide +kernel
theorem dX11_oldUpTo_18 : decode cX11_oldUpTo 18 = .ok (.iload_n 2, 1) := by decide +kernel
theorem dX11_oldUpTo_19 : decode cX11_oldUpTo 19 = .ok (.ireturn, 1) := by decide +kernel
theorem dX11_oldUpTo_20 : decode cX11_oldUpTo 20 = .ok (.iinc 2 1, 3) := by decide +kernel
theorem dX11_oldUpTo_23 : decode cX11_oldUpTo 23 = .ok (.goto (-21), 3) := by decide +kernel
theorem dX11_oldUpTo_26 : decode cX11_oldUpTo 26 = .ok (.iconst (-1), 1) := by decide +kernel
theorem dX11_oldUpTo_27 : decode cX11_oldUpTo 27 = .ok (.ireturn, 1) := by decide +kernel
theorem dX11_crewsOn_0 : decode cX11_crewsOn 0 = .ok (.iconst 0, 1) := by decide +kernel
theorem dX11_crewsOn_1 : decode cX11_crewsOn 1 = .ok (.istore_n 2, 1) := by decide +kernel
theorem dX11_crewsOn_2 : decode cX11_crewsOn 2 = .ok (.iconst 0, 1) := by decide +kernel
theorem dX11_crewsOn_3 : decode cX11_crewsOn 3 = .ok (.istore_n 3, 1) := by decide +kernel
theorem dX11_crewsOn_4 : decode cX11_crewsOn 4 = .ok (.iload_n 3, 1) := by decide +kernel
theorem dX11_crewsOn_5 : decode cX11_crewsOn 5 = .ok (.aload_n 0, 1) := by decide +kernel
theorem dX11_crewsOn_6 : decode cX11_crewsOn 6 = .ok (.getfield 9, 3) := by decide +kernel
theorem dX11_crewsOn_9 : decode cX11_crewsOn 9 = .ok (.iconst 4, 1) := by decide +kernel
theorem dX11_crewsOn_10 : decode cX11_crewsOn 10 = .ok (.iaload, 1) := by decide +kernel
theorem dX11_crewsOn_11 : decode cX11_crewsOn 11 = .ok (.if_icmp .ge 24, 3) := by decide +kernel
theorem dX11_crewsOn_14 : decode cX11_crewsOn 14 = .ok (.aload_n 0, 1) := by decide +kernel
theorem dX11_crewsOn_15 : decode cX11_crewsOn 15 = .ok (.iload_n 3, 1) := by decide +kernel
theorem dX11_crewsOn_16 : decode cX11_crewsOn 16 = .ok (.invokevirtual 104, 3) := by decide +kernel
theorem dX11_crewsOn_19 : decode cX11_crewsOn 19 = .ok (.iload_n 1, 1) := by decide +kernel
theorem dX11_crewsOn_20 : decode cX11_crewsOn 20 = .ok (.if_icmp .ne 9, 3) := by decide +kernel
theorem dX11_crewsOn_23 : decode cX11_crewsOn 23 = .ok (.iload_n 2, 1) := by decide +kernel
theorem dX11_crewsOn_24 : decode cX11_crewsOn 24 = .ok (.iconst 1, 1) := by decide +kernel
theorem dX11_crewsOn_25 : decode cX11_crewsOn 25 = .ok (.iload_n 3, 1) := by decide +kernel
theorem dX11_crewsOn_26 : decode cX11_crewsOn 26 = .ok (.ishl, 1) := by decide +kernel
theorem dX11_crewsOn_27 : decode cX11_crewsOn 27 = .ok (.ior, 1) := by decide +kernel
theorem dX11_crewsOn_28 : decode cX11_crewsOn 28 = .ok (.istore_n 2, 1) := by decide +kernel
theorem dX11_crewsOn_29 : decode cX11_crewsOn 29 = .ok (.iinc 3 1, 3) := by decide +kernel
theorem dX11_crewsOn_32 : decode cX11_crewsOn 32 = .ok (.goto (-28), 3) := by decide +kernel
theorem dX11_crewsOn_35 : decode cX11_crewsOn 35 = .ok (.iload_n 2, 1) := by decide +kernel
theorem dX11_crewsOn_36 : decode cX11_crewsOn 36 = .ok (.ireturn, 1) := by decide +kernel
theorem dX11_goesUp_0 : decode cX11_goesUp 0 = .ok (.aload_n 0, 1) := by decide +kernel
theorem dX11_goesUp_1 : decode cX11_goesUp 1 = .ok (.iload_n 1, 1) := by decide +kernel
theorem dX11_goesUp_2 : decode cX11_goesUp 2 = .ok (.invokevirtual 107, 3) := by decide +kernel
theorem dX11_goesUp_5 : decode cX11_goesUp 5 = .ok (.ifCond .eq 11, 3) := by decide +kernel
theorem dX11_goesUp_8 : decode cX11_goesUp 8 = .ok (.aload_n 0, 1) := by decide +kernel
theorem dX11_goesUp_9 : decode cX11_goesUp 9 = .ok (.iload_n 2, 1) := by decide +kernel
theorem dX11_goesUp_10 : decode cX11_goesUp 10 = .ok (.invokevirtual 95, 3) := by decide +kernel
theorem dX11_goesUp_13 : decode cX11_goesUp 13 = .ok (.ifCond .ne 5, 3) := by decide +kernel
theorem dX11_goesUp_16 : decode cX11_goesUp 16 = .ok (.iconst (-1), 1) := by decide +kernel
theorem dX11_goesUp_17 : decode cX11_goesUp 17 = .ok (.ireturn, 1) := by decide +kernel
theorem dX11_goesUp_18 : decode cX11_goesUp 18 = .ok (.aload_n 0, 1) := by decide +kernel
theorem dX11_goesUp_19 : decode cX11_goesUp 19 = .ok (.iload_n 1, 1) := by decide +kernel
theorem dX11_goesUp_20 : decode cX11_goesUp 20 = .ok (.invokevirtual 104, 3) := by decide +kernel
theorem dX11_goesUp_23 : decode cX11_goesUp 23 = .ok (.iload_n 2, 1) := by decide +kernel
theorem dX11_goesUp_24 : decode cX11_goesUp 24 = .ok (.if_icmp .ne 11, 3) := by decide +kernel
theorem dX11_goesUp_27 : decode cX11_goesUp 27 = .ok (.aload_n 0, 1) := by decide +kernel
theorem dX11_goesUp_28 : decode cX11_goesUp 28 = .ok (.bipush 7, 2) := by decide +kernel
theorem dX11_goesUp_30 : decode cX11_goesUp 30 = .ok (.iload_n 2, 1) := by decide +kernel
theorem dX11_goesUp_31 : decode cX11_goesUp 31 = .ok (.invokevirtual 68, 3) := by decide +kernel
theorem dX11_goesUp_34 : decode cX11_goesUp 34 = .ok (.ireturn, 1) := by decide +kernel
theorem dX11_goesUp_35 : decode cX11_goesUp 35 = .ok (.aload_n 0, 1) := by decide +kernel
theorem dX11_goesUp_36 : decode cX11_goesUp 36 = .ok (.getfield 9, 3) := by decide +kernel
theorem dX11_goesUp_39 : decode cX11_goesUp 39 = .ok (.iconst 1, 1) := by decide +kernel
theorem dX11_goesUp_40 : decode cX11_goesUp 40 = .ok (.iaload, 1) := by decide +kernel
theorem dX11_goesUp_41 : decode cX11_goesUp 41 = .ok (.iconst 3, 1) := by decide +kernel
theorem dX11_goesUp_42 : decode cX11_goesUp 42 = .ok (.if_icmp .lt 15, 3) := by decide +kernel
theorem dX11_goesUp_45 : decode cX11_goesUp 45 = .ok (.aload_n 0, 1) := by decide +kernel
theorem dX11_goesUp_46 : decode cX11_goesUp 46 = .ok (.iconst 4, 1) := by decide +kernel
theorem dX11_goesUp_47 : decode cX11_goesUp 47 = .ok (.aload_n 0, 1) := by decide +kernel
theorem dX11_goesUp_48 : decode cX11_goesUp 48 = .ok (.getfield 9, 3) := by decide +kernel
theorem dX11_goesUp_51 : decode cX11_goesUp 51 = .ok (.iconst 1, 1) := by decide +kernel
theorem dX11_goesUp_52 : decode cX11_goesUp 52 = .ok (.iaload, 1) := by decide +kernel
theorem dX11_goesUp_53 : decode cX11_goesUp 53 = .ok (.invokevirtual 68, 3) := by decide +kernel
theorem dX11_goesUp_56 : decode cX11_goesUp 56 = .ok (.ireturn, 1) := by decide +kernel
theorem dX11_goesUp_57 : decode cX11_goesUp 57 = .ok (.aload_n 0, 1) := by decide +kernel
theorem dX11_goesUp_58 : decode cX11_goesUp 58 = .ok (.iload_n 2, 1) := by decide +kernel
theorem dX11_goesUp_59 : decode cX11_goesUp 59 = .ok (.invokevirtual 110, 3) := by decide +kernel
theorem dX11_goesUp_62 : decode cX11_goesUp 62 = .ok (.istore_n 3, 1) := by decide +kernel
theorem dX11_goesUp_63 : decode cX11_goesUp 63 = .ok (.iload_n 3, 1) := by decide +kernel
theorem dX11_goesUp_64 : decode cX11_goesUp 64 = .ok (.ifCond .lt 10, 3) := by decide +kernel
theorem dX11_goesUp_67 : decode cX11_goesUp 67 = .ok (.aload_n 0, 1) := by decide +kernel
theorem dX11_goesUp_68 : decode cX11_goesUp 68 = .ok (.iconst 5, 1) := by decide +kernel
theorem dX11_goesUp_69 : decode cX11_goesUp 69 = .ok (.iload_n 3, 1) := by decide +kernel
theorem dX11_goesUp_70 : decode cX11_goesUp 70 = .ok (.invokevirtual 68, 3) := by decide +kernel
theorem dX11_goesUp_73 : decode cX11_goesUp 73 = .ok (.ireturn, 1) := by decide +kernel
theorem dX11_goesUp_74 : decode cX11_goesUp 74 = .ok (.aload_n 0, 1) := by decide +kernel
theorem dX11_goesUp_75 : decode cX11_goesUp 75 = .ok (.iload_n 2, 1) := by decide +kernel
theorem dX11_goesUp_76 : decode cX11_goesUp 76 = .ok (.iconst 5, 1) := by decide +kernel
theorem dX11_goesUp_77 : decode cX11_goesUp 77 = .ok (.invokevirtual 98, 3) := by decide +kernel
theorem dX11_goesUp_80 : decode cX11_goesUp 80 = .ok (.ifCond .le 27, 3) := by decide +kernel
theorem dX11_goesUp_83 : decode cX11_goesUp 83 = .ok (.aload_n 0, 1) := by decide +kernel
theorem dX11_goesUp_84 : decode cX11_goesUp 84 = .ok (.bipush 13, 2) := by decide +kernel
theorem dX11_goesUp_86 : decode cX11_goesUp 86 = .ok (.aload_n 0, 1) := by decide +kernel
theorem dX11_goesUp_87 : decode cX11_goesUp 87 = .ok (.iload_n 2, 1) := by decide +kernel
theorem dX11_goesUp_88 : decode cX11_goesUp 88 = .ok (.iconst 5, 1) := by decide +kernel
theorem dX11_goesUp_89 : decode cX11_goesUp 89 = .ok (.invokevirtual 98, 3) := by decide +kernel
theorem dX11_goesUp_92 : decode cX11_goesUp 92 = .ok (.iconst 1, 1) := by decide +kernel
theorem dX11_goesUp_93 : decode cX11_goesUp 93 = .ok (.isub, 1) := by decide +kernel
theorem dX11_goesUp_94 : decode cX11_goesUp 94 = .ok (.invokevirtual 68, 3) := by decide +kernel
theorem dX11_goesUp_97 : decode cX11_goesUp 97 = .ok (.istore 4, 2) := by decide +kernel
theorem dX11_goesUp_99 : decode cX11_goesUp 99 = .ok (.aload_n 0, 1) := by decide +kernel
theorem dX11_goesUp_100 : decode cX11_goesUp 100 = .ok (.bipush 6, 2) := by decide +kernel
theorem dX11_goesUp_102 : decode cX11_goesUp 102 = .ok (.iload_n 2, 1) := by decide +kernel
theorem dX11_goesUp_103 : decode cX11_goesUp 103 = .ok (.invokevirtual 113, 3) := by decide +kernel
theorem dX11_goesUp_106 : decode cX11_goesUp 106 = .ok (.ireturn, 1) := by decide +kernel
theorem dX11_goesUp_107 : decode cX11_goesUp 107 = .ok (.aload_n 0, 1) := by decide +kernel
theorem dX11_goesUp_108 : decode cX11_goesUp 108 = .ok (.getfield 9, 3) := by decide +kernel
theorem dX11_goesUp_111 : decode cX11_goesUp 111 = .ok (.bipush 90, 2) := by decide +kernel
theorem dX11_goesUp_113 : decode cX11_goesUp 113 = .ok (.iconst 3, 1) := by decide +kernel
theorem dX11_goesUp_114 : decode cX11_goesUp 114 = .ok (.iload_n 1, 1) := by decide +kernel
theorem dX11_goesUp_115 : decode cX11_goesUp 115 = .ok (.imul, 1) := by decide +kernel
theorem dX11_goesUp_116 : decode cX11_goesUp 116 = .ok (.iadd, 1) := by decide +kernel
theorem dX11_goesUp_117 : decode cX11_goesUp 117 = .ok (.iconst 1, 1) := by decide +kernel
theorem dX11_goesUp_118 : decode cX11_goesUp 118 = .ok (.iadd, 1) := by decide +kernel
theorem dX11_goesUp_119 : decode cX11_goesUp 119 = .ok (.iload_n 2, 1) := by decide +kernel
theorem dX11_goesUp_120 : decode cX11_goesUp 120 = .ok (.iconst 1, 1) := by decide +kernel
theorem dX11_goesUp_121 : decode cX11_goesUp 121 = .ok (.iadd, 1) := by decide +kernel
theorem dX11_goesUp_122 : decode cX11_goesUp 122 = .ok (.iastore, 1) := by decide +kernel
theorem dX11_goesUp_123 : decode cX11_goesUp 123 = .ok (.aload_n 0, 1) := by decide +kernel
theorem dX11_goesUp_124 : decode cX11_goesUp 124 = .ok (.aload_n 0, 1) := by decide +kernel
theorem dX11_goesUp_125 : decode cX11_goesUp 125 = .ok (.iload_n 2, 1) := by decide +kernel
theorem dX11_goesUp_126 : decode cX11_goesUp 126 = .ok (.invokevirtual 116, 3) := by decide +kernel
theorem dX11_goesUp_129 : decode cX11_goesUp 129 = .ok (.invokestatic 119, 3) := by decide +kernel
theorem dX11_goesUp_132 : decode cX11_goesUp 132 = .ok (.invokevirtual 85, 3) := by decide +kernel
theorem dX11_goesUp_135 : decode cX11_goesUp 135 = .ok (.ireturn, 1) := by decide +kernel
theorem dX11_up_0 : decode cX11_up 0 = .ok (.aload_n 0, 1) := by decide +kernel
theorem dX11_up_1 : decode cX11_up 1 = .ok (.invokevirtual 65, 3) := by decide +kernel
theorem dX11_up_4 : decode cX11_up 4 = .ok (.aload_n 0, 1) := by decide +kernel
theorem dX11_up_5 : decode cX11_up 5 = .ok (.aload_n 0, 1) := by decide +kernel
theorem dX11_up_6 : decode cX11_up 6 = .ok (.iload_n 1, 1) := by decide +kernel
theorem dX11_up_7 : decode cX11_up 7 = .ok (.iload_n 2, 1) := by decide +kernel
theorem dX11_up_8 : decode cX11_up 8 = .ok (.invokevirtual 124, 3) := by decide +kernel
theorem dX11_up_11 : decode cX11_up 11 = .ok (.invokevirtual 92, 3) := by decide +kernel
theorem dX11_up_14 : decode cX11_up 14 = .ok (.ireturn, 1) := by decide +kernel
theorem dX11_comesDown_0 : decode cX11_comesDown 0 = .ok (.aload_n 0, 1) := by decide +kernel
theorem dX11_comesDown_1 : decode cX11_comesDown 1 = .ok (.iload_n 1, 1) := by decide +kernel
theorem dX11_comesDown_2 : decode cX11_comesDown 2 = .ok (.invokevirtual 107, 3) := by decide +kernel
theorem dX11_comesDown_5 : decode cX11_comesDown 5 = .ok (.ifCond .ne 5, 3) := by decide +kernel
theorem dX11_comesDown_8 : decode cX11_comesDown 8 = .ok (.iconst (-1), 1) := by decide +kernel
theorem dX11_comesDown_9 : decode cX11_comesDown 9 = .ok (.ireturn, 1) := by decide +kernel
theorem dX11_comesDown_10 : decode cX11_comesDown 10 = .ok (.aload_n 0, 1) := by decide +kernel
theorem dX11_comesDown_11 : decode cX11_comesDown 11 = .ok (.iload_n 1, 1) := by decide +kernel
theorem dX11_comesDown_12 : decode cX11_comesDown 12 = .ok (.invokevirtual 104, 3) := by decide +kernel
theorem dX11_comesDown_15 : decode cX11_comesDown 15 = .ok (.istore_n 2, 1) := by decide +kernel
theorem dX11_comesDown_16 : decode cX11_comesDown 16 = .ok (.iload_n 2, 1) := by decide +kernel
theorem dX11_comesDown_17 : decode cX11_comesDown 17 = .ok (.ifCond .ge 11, 3) := by decide +kernel
theorem dX11_comesDown_20 : decode cX11_comesDown 20 = .ok (.aload_n 0, 1) := by decide +kernel
theorem dX11_comesDown_21 : decode cX11_comesDown 21 = .ok (.bipush 11, 2) := by decide +kernel
theorem dX11_comesDown_23 : decode cX11_comesDown 23 = .ok (.iload_n 1, 1) := by decide +kernel
theorem dX11_comesDown_24 : decode cX11_comesDown 24 = .ok (.invokevirtual 68, 3) := by decide +kernel
theorem dX11_comesDown_27 : decode cX11_comesDown 27 = .ok (.ireturn, 1) := by decide +kernel
theorem dX11_comesDown_28 : decode cX11_comesDown 28 = .ok (.aload_n 0, 1) := by decide +kernel
theorem dX11_comesDown_29 : decode cX11_comesDown 29 = .ok (.getfield 9, 3) := by decide +kernel
theorem dX11_comesDown_32 : decode cX11_comesDown 32 = .ok (.bipush 90, 2) := by decide +kernel
theorem dX11_comesDown_34 : decode cX11_comesDown 34 = .ok (.iconst 3, 1) := by decide +kernel
theorem dX11_comesDown_35 : decode cX11_comesDown 35 = .ok (.iload_n 1, 1) := by decide +kernel
theorem dX11_comesDown_36 : decode cX11_comesDown 36 = .ok (.imul, 1) := by decide +kernel
theorem dX11_comesDown_37 : decode cX11_comesDown 37 = .ok (.iadd, 1) := by decide +kernel
theorem dX11_comesDown_38 : decode cX11_comesDown 38 = .ok (.iconst 1, 1) := by decide +kernel
theorem dX11_comesDown_39 : decode cX11_comesDown 39 = .ok (.iadd, 1) := by decide +kernel
theorem dX11_comesDown_40 : decode cX11_comesDown 40 = .ok (.iconst 0, 1) := by decide +kernel
theorem dX11_comesDown_41 : decode cX11_comesDown 41 = .ok (.iastore, 1) := by decide +kernel
theorem dX11_comesDown_42 : decode cX11_comesDown 42 = .ok (.aload_n 0, 1) := by decide +kernel
theorem dX11_comesDown_43 : decode cX11_comesDown 43 = .ok (.iload_n 2, 1) := by decide +kernel
theorem dX11_comesDown_44 : decode cX11_comesDown 44 = .ok (.invokevirtual 85, 3) := by decide +kernel
theorem dX11_comesDown_47 : decode cX11_comesDown 47 = .ok (.ireturn, 1) := by decide +kernel
theorem dX11_down_0 : decode cX11_down 0 = .ok (.aload_n 0, 1) := by decide +kernel
theorem dX11_down_1 : decode cX11_down 1 = .ok (.invokevirtual 65, 3) := by decide +kernel
theorem dX11_down_4 : decode cX11_down 4 = .ok (.aload_n 0, 1) := by decide +kernel
theorem dX11_down_5 : decode cX11_down 5 = .ok (.aload_n 0, 1) := by decide +kernel
theorem dX11_down_6 : decode cX11_down 6 = .ok (.iload_n 1, 1) := by decide +kernel
theorem dX11_down_7 : decode cX11_down 7 = .ok (.invokevirtual 127, 3) := by decide +kernel
theorem dX11_down_10 : decode cX11_down 10 = .ok (.invokevirtual 92, 3) := by decide +kernel
theorem dX11_down_13 : decode cX11_down 13 = .ok (.ireturn, 1) := by decide +kernel
theorem dX11_lifts_0 : decode cX11_lifts 0 = .ok (.aload_n 0, 1) := by decide +kernel
theorem dX11_lifts_1 : decode cX11_lifts 1 = .ok (.iload_n 1, 1) := by decide +kernel
theorem dX11_lifts_2 : decode cX11_lifts 2 = .ok (.invokevirtual 95, 3) := by decide +kernel
theorem dX11_lifts_5 : decode cX11_lifts 5 = .ok (.ifCond .ne 5, 3) := by decide +kernel
theorem dX11_lifts_8 : decode cX11_lifts 8 = .ok (.iconst (-1), 1) := by decide +kernel
theorem dX11_lifts_9 : decode cX11_lifts 9 = .ok (.ireturn, 1) := by decide +kernel
theorem dX11_lifts_10 : decode cX11_lifts 10 = .ok (.iload_n 2, 1) := by decide +kernel
theorem dX11_lifts_11 : decode cX11_lifts 11 = .ok (.iconst 1, 1) := by decide +kernel
theorem dX11_lifts_12 : decode cX11_lifts 12 = .ok (.bipush 9, 2) := by decide +kernel
theorem dX11_lifts_14 : decode cX11_lifts 14 = .ok (.invokestatic 58, 3) := by decide +kernel
theorem dX11_lifts_17 : decode cX11_lifts 17 = .ok (.ifCond .ne 6, 3) := by decide +kernel
theorem dX11_lifts_20 : decode cX11_lifts 20 = .ok (.bipush (-2), 2) := by decide +kernel
theorem dX11_lifts_22 : decode cX11_lifts 22 = .ok (.ireturn, 1) := by decide +kernel
theorem dX11_lifts_23 : decode cX11_lifts 23 = .ok (.aload_n 0, 1) := by decide +kernel
theorem dX11_lifts_24 : decode cX11_lifts 24 = .ok (.getfield 9, 3) := by decide +kernel
theorem dX11_lifts_27 : decode cX11_lifts 27 = .ok (.iconst 1, 1) := by decide +kernel
theorem dX11_lifts_28 : decode cX11_lifts 28 = .ok (.iaload, 1) := by decide +kernel
theorem dX11_lifts_29 : decode cX11_lifts 29 = .ok (.iconst 3, 1) := by decide +kernel
theorem dX11_lifts_30 : decode cX11_lifts 30 = .ok (.if_icmp .lt 15, 3) := by decide +kernel
theorem dX11_lifts_33 : decode cX11_lifts 33 = .ok (.aload_n 0, 1) := by decide +kernel
theorem dX11_lifts_34 : decode cX11_lifts 34 = .ok (.iconst 4, 1) := by decide +kernel
theorem dX11_lifts_35 : decode cX11_lifts 35 = .ok (.aload_n 0, 1) := by decide +kernel
theorem dX11_lifts_36 : decode cX11_lifts 36 = .ok (.getfield 9, 3) := by decide +kernel
theorem dX11_lifts_39 : decode cX11_lifts 39 = .ok (.iconst 1, 1) := by decide +kernel
theorem dX11_lifts_40 : decode cX11_lifts 40 = .ok (.iaload, 1) := by decide +kernel
theorem dX11_lifts_41 : decode cX11_lifts 41 = .ok (.invokevirtual 68, 3) := by decide +kernel
theorem dX11_lifts_44 : decode cX11_lifts 44 = .ok (.ireturn, 1) := by decide +kernel
theorem dX11_lifts_45 : decode cX11_lifts 45 = .ok (.aload_n 0, 1) := by decide +kernel
theorem dX11_lifts_46 : decode cX11_lifts 46 = .ok (.iload_n 1, 1) := by decide +kernel
theorem dX11_lifts_47 : decode cX11_lifts 47 = .ok (.iconst 4, 1) := by decide +kernel
theorem dX11_lifts_48 : decode cX11_lifts 48 = .ok (.invokevirtual 98, 3) := by decide +kernel
theorem dX11_lifts_51 : decode cX11_lifts 51 = .ok (.iload_n 2, 1) := by decide +kernel
theorem dX11_lifts_52 : decode cX11_lifts 52 = .ok (.iadd, 1) := by decide +kernel
theorem dX11_lifts_53 : decode cX11_lifts 53 = .ok (.bipush 9, 2) := by decide +kernel
theorem dX11_lifts_55 : decode cX11_lifts 55 = .ok (.if_icmp .le 16, 3) := by decide +kernel
theorem dX11_lifts_58 : decode cX11_lifts 58 = .ok (.aload_n 0, 1) := by decide +kernel
theorem dX11_lifts_59 : decode cX11_lifts 59 = .ok (.bipush 9, 2) := by decide +kernel
theorem dX11_lifts_61 : decode cX11_lifts 61 = .ok (.aload_n 0, 1) := by decide +kernel
theorem dX11_lifts_62 : decode cX11_lifts 62 = .ok (.iload_n 1, 1) := by decide +kernel
theorem dX11_lifts_63 : decode cX11_lifts 63 = .ok (.iconst 4, 1) := by decide +kernel
theorem dX11_lifts_64 : decode cX11_lifts 64 = .ok (.invokevirtual 98, 3) := by decide +kernel
theorem dX11_lifts_67 : decode cX11_lifts 67 = .ok (.invokevirtual 68, 3) := by decide +kernel
theorem dX11_lifts_70 : decode cX11_lifts 70 = .ok (.ireturn, 1) := by decide +kernel
theorem dX11_lifts_71 : decode cX11_lifts 71 = .ok (.iload_n 2, 1) := by decide +kernel
theorem dX11_lifts_72 : decode cX11_lifts 72 = .ok (.iload_n 1, 1) := by decide +kernel
theorem dX11_lifts_73 : decode cX11_lifts 73 = .ok (.iconst 1, 1) := by decide +kernel
theorem dX11_lifts_74 : decode cX11_lifts 74 = .ok (.iadd, 1) := by decide +kernel
theorem dX11_lifts_75 : decode cX11_lifts 75 = .ok (.imul, 1) := by decide +kernel
theorem dX11_lifts_76 : decode cX11_lifts 76 = .ok (.istore_n 3, 1) := by decide +kernel
theorem dX11_lifts_77 : decode cX11_lifts 77 = .ok (.aload_n 0, 1) := by decide +kernel
theorem dX11_lifts_78 : decode cX11_lifts 78 = .ok (.getfield 9, 3) := by decide +kernel
theorem dX11_lifts_81 : decode cX11_lifts 81 = .ok (.bipush 7, 2) := by decide +kernel
theorem dX11_lifts_83 : decode cX11_lifts 83 = .ok (.iaload, 1) := by decide +kernel
theorem dX11_lifts_84 : decode cX11_lifts 84 = .ok (.iload_n 3, 1) := by decide +kernel
theorem dX11_lifts_85 : decode cX11_lifts 85 = .ok (.if_icmp .ge 17, 3) := by decide +kernel
theorem dX11_lifts_88 : decode cX11_lifts 88 = .ok (.aload_n 0, 1) := by decide +kernel
theorem dX11_lifts_89 : decode cX11_lifts 89 = .ok (.bipush 8, 2) := by decide +kernel
theorem dX11_lifts_91 : decode cX11_lifts 91 = .ok (.aload_n 0, 1) := by decide +kernel
theorem dX11_lifts_92 : decode cX11_lifts 92 = .ok (.getfield 9, 3) := by decide +kernel
theorem dX11_lifts_95 : decode cX11_lifts 95 = .ok (.bipush 7, 2) := by decide +kernel
theorem dX11_lifts_97 : decode cX11_lifts 97 = .ok (.iaload, 1) := by decide +kernel
theorem dX11_lifts_98 : decode cX11_lifts 98 = .ok (.invokevirtual 68, 3) := by decide +kernel
theorem dX11_lifts_101 : decode cX11_lifts 101 = .ok (.ireturn, 1) := by decide +kernel
theorem dX11_lifts_102 : decode cX11_lifts 102 = .ok (.aload_n 0, 1) := by decide +kernel
theorem dX11_lifts_103 : decode cX11_lifts 103 = .ok (.getfield 9, 3) := by decide +kernel
theorem dX11_lifts_106 : decode cX11_lifts 106 = .ok (.bipush 7, 2) := by decide +kernel
theorem dX11_lifts_108 : decode cX11_lifts 108 = .ok (.dup2, 1) := by decide +kernel
theorem dX11_lifts_109 : decode cX11_lifts 109 = .ok (.iaload, 1) := by decide +kernel
theorem dX11_lifts_110 : decode cX11_lifts 110 = .ok (.iload_n 3, 1) := by decide +kernel
theorem dX11_lifts_111 : decode cX11_lifts 111 = .ok (.isub, 1) := by decide +kernel
theorem dX11_lifts_112 : decode cX11_lifts 112 = .ok (.iastore, 1) := by decide +kernel
theorem dX11_lifts_113 : decode cX11_lifts 113 = .ok (.aload_n 0, 1) := by decide +kernel
theorem dX11_lifts_114 : decode cX11_lifts 114 = .ok (.iload_n 1, 1) := by decide +kernel
theorem dX11_lifts_115 : decode cX11_lifts 115 = .ok (.iconst 4, 1) := by decide +kernel
theorem dX11_lifts_116 : decode cX11_lifts 116 = .ok (.aload_n 0, 1) := by decide +kernel
theorem dX11_lifts_117 : decode cX11_lifts 117 = .ok (.iload_n 1, 1) := by decide +kernel
theorem dX11_lifts_118 : decode cX11_lifts 118 = .ok (.iconst 4, 1) := by decide +kernel
theorem dX11_lifts_119 : decode cX11_lifts 119 = .ok (.invokevirtual 98, 3) := by decide +kernel
theorem dX11_lifts_122 : decode cX11_lifts 122 = .ok (.iload_n 2, 1) := by decide +kernel
theorem dX11_lifts_123 : decode cX11_lifts 123 = .ok (.iadd, 1) := by decide +kernel
theorem dX11_lifts_124 : decode cX11_lifts 124 = .ok (.invokevirtual 81, 3) := by decide +kernel
theorem dX11_lifts_127 : decode cX11_lifts 127 = .ok (.aload_n 0, 1) := by decide +kernel
theorem dX11_lifts_128 : decode cX11_lifts 128 = .ok (.aload_n 0, 1) := by decide +kernel
theorem dX11_lifts_129 : decode cX11_lifts 129 = .ok (.getfield 9, 3) := by decide +kernel
theorem dX11_lifts_132 : decode cX11_lifts 132 = .ok (.bipush 7, 2) := by decide +kernel
theorem dX11_lifts_134 : decode cX11_lifts 134 = .ok (.iaload, 1) := by decide +kernel
theorem dX11_lifts_135 : decode cX11_lifts 135 = .ok (.invokevirtual 85, 3) := by decide +kernel
theorem dX11_lifts_138 : decode cX11_lifts 138 = .ok (.ireturn, 1) := by decide +kernel
theorem dX11_lift_0 : decode cX11_lift 0 = .ok (.aload_n 0, 1) := by decide +kernel
theorem dX11_lift_1 : decode cX11_lift 1 = .ok (.invokevirtual 65, 3) := by decide +kernel
theorem dX11_lift_4 : decode cX11_lift 4 = .ok (.aload_n 0, 1) := by decide +kernel
theorem dX11_lift_5 : decode cX11_lift 5 = .ok (.aload_n 0, 1) := by decide +kernel
theorem dX11_lift_6 : decode cX11_lift 6 = .ok (.iload_n 1, 1) := by decide +kernel
theorem dX11_lift_7 : decode cX11_lift 7 = .ok (.iload_n 2, 1) := by decide +kernel
theorem dX11_lift_8 : decode cX11_lift 8 = .ok (.invokevirtual 130, 3) := by decide +kernel
theorem dX11_lift_11 : decode cX11_lift 11 = .ok (.invokevirtual 92, 3) := by decide +kernel
theorem dX11_lift_14 : decode cX11_lift 14 = .ok (.ireturn, 1) := by decide +kernel
theorem dX11_signals_0 : decode cX11_signals 0 = .ok (.iload_n 1, 1) := by decide +kernel
theorem dX11_signals_1 : decode cX11_signals 1 = .ok (.iconst 0, 1) := by decide +kernel
theorem dX11_signals_2 : decode cX11_signals 2 = .ok (.bipush 10, 2) := by decide +kernel
theorem dX11_signals_4 : decode cX11_signals 4 = .ok (.invokestatic 58, 3) := by decide +kernel
theorem dX11_signals_7 : decode cX11_signals 7 = .ok (.ifCond .ne 6, 3) := by decide +kernel
theorem dX11_signals_10 : decode cX11_signals 10 = .ok (.bipush (-2), 2) := by decide +kernel
theorem dX11_signals_12 : decode cX11_signals 12 = .ok (.ireturn, 1) := by decide +kernel
theorem dX11_signals_13 : decode cX11_signals 13 = .ok (.aload_n 0, 1) := by decide +kernel
theorem dX11_signals_14 : decode cX11_signals 14 = .ok (.getfield 9, 3) := by decide +kernel
theorem dX11_signals_17 : decode cX11_signals 17 = .ok (.iconst 1, 1) := by decide +kernel
theorem dX11_signals_18 : decode cX11_signals 18 = .ok (.iaload, 1) := by decide +kernel
theorem dX11_signals_19 : decode cX11_signals 19 = .ok (.istore_n 2, 1) := by decide +kernel
theorem dX11_signals_20 : decode cX11_signals 20 = .ok (.aload_n 0, 1) := by decide +kernel
theorem dX11_signals_21 : decode cX11_signals 21 = .ok (.getfield 9, 3) := by decide +kernel
theorem dX11_signals_24 : decode cX11_signals 24 = .ok (.iconst 1, 1) := by decide +kernel
theorem dX11_signals_25 : decode cX11_signals 25 = .ok (.iload_n 1, 1) := by decide +kernel
theorem dX11_signals_26 : decode cX11_signals 26 = .ok (.iastore, 1) := by decide +kernel
theorem dX11_signals_27 : decode cX11_signals 27 = .ok (.iconst 0, 1) := by decide +kernel
theorem dX11_signals_28 : decode cX11_signals 28 = .ok (.istore_n 3, 1) := by decide +kernel
theorem dX11_signals_29 : decode cX11_signals 29 = .ok (.iload_n 3, 1) := by decide +kernel
theorem dX11_signals_30 : decode cX11_signals 30 = .ok (.aload_n 0, 1) := by decide +kernel
theorem dX11_signals_31 : decode cX11_signals 31 = .ok (.getfield 9, 3) := by decide +kernel
theorem dX11_signals_34 : decode cX11_signals 34 = .ok (.iconst 4, 1) := by decide +kernel
theorem dX11_signals_35 : decode cX11_signals 35 = .ok (.iaload, 1) := by decide +kernel
theorem dX11_signals_36 : decode cX11_signals 36 = .ok (.if_icmp .ge 28, 3) := by decide +kernel
theorem dX11_signals_39 : decode cX11_signals 39 = .ok (.iload_n 1, 1) := by decide +kernel
theorem dX11_signals_40 : decode cX11_signals 40 = .ok (.iconst 3, 1) := by decide +kernel
theorem dX11_signals_41 : decode cX11_signals 41 = .ok (.if_icmp .lt 23, 3) := by decide +kernel
theorem dX11_signals_44 : decode cX11_signals 44 = .ok (.aload_n 0, 1) := by decide +kernel
theorem dX11_signals_45 : decode cX11_signals 45 = .ok (.getfield 9, 3) := by decide +kernel
theorem dX11_signals_48 : decode cX11_signals 48 = .ok (.bipush 90, 2) := by decide +kernel
theorem dX11_signals_50 : decode cX11_signals 50 = .ok (.iconst 3, 1) := by decide +kernel
theorem dX11_signals_51 : decode cX11_signals 51 = .ok (.iload_n 3, 1) := by decide +kernel
theorem dX11_signals_52 : decode cX11_signals 52 = .ok (.imul, 1) := by decide +kernel
theorem dX11_signals_53 : decode cX11_signals 53 = .ok (.iadd, 1) := by decide +kernel
theorem dX11_signals_54 : decode cX11_signals 54 = .ok (.iconst 1, 1) := by decide +kernel
theorem dX11_signals_55 : decode cX11_signals 55 = .ok (.iadd, 1) := by decide +kernel
theorem dX11_signals_56 : decode cX11_signals 56 = .ok (.iconst 0, 1) := by decide +kernel
theorem dX11_signals_57 : decode cX11_signals 57 = .ok (.iastore, 1) := by decide +kernel
theorem dX11_signals_58 : decode cX11_signals 58 = .ok (.iinc 3 1, 3) := by decide +kernel
theorem dX11_signals_61 : decode cX11_signals 61 = .ok (.goto (-32), 3) := by decide +kernel
theorem dX11_signals_64 : decode cX11_signals 64 = .ok (.aload_n 0, 1) := by decide +kernel
theorem dX11_signals_65 : decode cX11_signals 65 = .ok (.iload_n 2, 1) := by decide +kernel
theorem dX11_signals_66 : decode cX11_signals 66 = .ok (.invokevirtual 85, 3) := by decide +kernel
theorem dX11_signals_69 : decode cX11_signals 69 = .ok (.ireturn, 1) := by decide +kernel
theorem dX11_signal_0 : decode cX11_signal 0 = .ok (.aload_n 0, 1) := by decide +kernel
theorem dX11_signal_1 : decode cX11_signal 1 = .ok (.invokevirtual 65, 3) := by decide +kernel
theorem dX11_signal_4 : decode cX11_signal 4 = .ok (.aload_n 0, 1) := by decide +kernel
theorem dX11_signal_5 : decode cX11_signal 5 = .ok (.aload_n 0, 1) := by decide +kernel
theorem dX11_signal_6 : decode cX11_signal 6 = .ok (.iload_n 1, 1) := by decide +kernel
theorem dX11_signal_7 : decode cX11_signal 7 = .ok (.invokevirtual 133, 3) := by decide +kernel
theorem dX11_signal_10 : decode cX11_signal 10 = .ok (.invokevirtual 92, 3) := by decide +kernel
theorem dX11_signal_13 : decode cX11_signal 13 = .ok (.ireturn, 1) := by decide +kernel
theorem dX11_inspector_0 : decode cX11_inspector 0 = .ok (.aload_n 0, 1) := by decide +kernel
theorem dX11_inspector_1 : decode cX11_inspector 1 = .ok (.invokevirtual 65, 3) := by decide +kernel
theorem dX11_inspector_4 : decode cX11_inspector 4 = .ok (.iload_n 1, 1) := by decide +kernel
theorem dX11_inspector_5 : decode cX11_inspector 5 = .ok (.iconst 1, 1) := by decide +kernel
theorem dX11_inspector_6 : decode cX11_inspector 6 = .ok (.bipush 9, 2) := by decide +kernel
theorem dX11_inspector_8 : decode cX11_inspector 8 = .ok (.invokestatic 58, 3) := by decide +kernel
theorem dX11_inspector_11 : decode cX11_inspector 11 = .ok (.ifCond .ne 6, 3) := by decide +kernel
theorem dX11_inspector_14 : decode cX11_inspector 14 = .ok (.bipush (-2), 2) := by decide +kernel
theorem dX11_inspector_16 : decode cX11_inspector 16 = .ok (.ireturn, 1) := by decide +kernel
theorem dX11_inspector_17 : decode cX11_inspector 17 = .ok (.aload_n 0, 1) := by decide +kernel
theorem dX11_inspector_18 : decode cX11_inspector 18 = .ok (.getfield 9, 3) := by decide +kernel
theorem dX11_inspector_21 : decode cX11_inspector 21 = .ok (.iconst 5, 1) := by decide +kernel
theorem dX11_inspector_22 : decode cX11_inspector 22 = .ok (.iaload, 1) := by decide +kernel
theorem dX11_inspector_23 : decode cX11_inspector 23 = .ok (.istore_n 2, 1) := by decide +kernel
theorem dX11_inspector_24 : decode cX11_inspector 24 = .ok (.iload_n 2, 1) := by decide +kernel
theorem dX11_inspector_25 : decode cX11_inspector 25 = .ok (.iconst 3, 1) := by decide +kernel
theorem dX11_inspector_26 : decode cX11_inspector 26 = .ok (.if_icmp .ne 10, 3) := by decide +kernel
theorem dX11_inspector_29 : decode cX11_inspector 29 = .ok (.aload_n 0, 1) := by decide +kernel
theorem dX11_inspector_30 : decode cX11_inspector 30 = .ok (.iconst 1, 1) := by decide +kernel
theorem dX11_inspector_31 : decode cX11_inspector 31 = .ok (.iconst 3, 1) := by decide +kernel
theorem dX11_inspector_32 : decode cX11_inspector 32 = .ok (.invokevirtual 68, 3) := by decide +kernel
theorem dX11_inspector_35 : decode cX11_inspector 35 = .ok (.ireturn, 1) := by decide +kernel
theorem dX11_inspector_36 : decode cX11_inspector 36 = .ok (.aload_n 0, 1) := by decide +kernel
theorem dX11_inspector_37 : decode cX11_inspector 37 = .ok (.getfield 9, 3) := by decide +kernel
theorem dX11_inspector_40 : decode cX11_inspector 40 = .ok (.iconst 5, 1) := by decide +kernel
theorem dX11_inspector_41 : decode cX11_inspector 41 = .ok (.dup2, 1) := by decide +kernel
theorem dX11_inspector_42 : decode cX11_inspector 42 = .ok (.iaload, 1) := by decide +kernel
theorem dX11_inspector_43 : decode cX11_inspector 43 = .ok (.iconst 1, 1) := by decide +kernel
theorem dX11_inspector_44 : decode cX11_inspector 44 = .ok (.iadd, 1) := by decide +kernel
theorem dX11_inspector_45 : decode cX11_inspector 45 = .ok (.iastore, 1) := by decide +kernel
theorem dX11_inspector_46 : decode cX11_inspector 46 = .ok (.aload_n 0, 1) := by decide +kernel
theorem dX11_inspector_47 : decode cX11_inspector 47 = .ok (.getfield 9, 3) := by decide +kernel
theorem dX11_inspector_50 : decode cX11_inspector 50 = .ok (.bipush 105, 2) := by decide +kernel
theorem dX11_inspector_52 : decode cX11_inspector 52 = .ok (.iconst 2, 1) := by decide +kernel
theorem dX11_inspector_53 : decode cX11_inspector 53 = .ok (.iload_n 2, 1) := by decide +kernel
theorem dX11_inspector_54 : decode cX11_inspector 54 = .ok (.imul, 1) := by decide +kernel
theorem dX11_inspector_55 : decode cX11_inspector 55 = .ok (.iadd, 1) := by decide +kernel
theorem dX11_inspector_56 : decode cX11_inspector 56 = .ok (.iload_n 1, 1) := by decide +kernel
theorem dX11_inspector_57 : decode cX11_inspector 57 = .ok (.iastore, 1) := by decide +kernel
theorem dX11_inspector_58 : decode cX11_inspector 58 = .ok (.aload_n 0, 1) := by decide +kernel
theorem dX11_inspector_59 : decode cX11_inspector 59 = .ok (.getfield 9, 3) := by decide +kernel
theorem dX11_inspector_62 : decode cX11_inspector 62 = .ok (.bipush 105, 2) := by decide +kernel
theorem dX11_inspector_64 : decode cX11_inspector 64 = .ok (.iconst 2, 1) := by decide +kernel
theorem dX11_inspector_65 : decode cX11_inspector 65 = .ok (.iload_n 2, 1) := by decide +kernel
theorem dX11_inspector_66 : decode cX11_inspector 66 = .ok (.imul, 1) := by decide +kernel
theorem dX11_inspector_67 : decode cX11_inspector 67 = .ok (.iadd, 1) := by decide +kernel
theorem dX11_inspector_68 : decode cX11_inspector 68 = .ok (.iconst 1, 1) := by decide +kernel
theorem dX11_inspector_69 : decode cX11_inspector 69 = .ok (.iadd, 1) := by decide +kernel
theorem dX11_inspector_70 : decode cX11_inspector 70 = .ok (.iconst 0, 1) := by decide +kernel
theorem dX11_inspector_71 : decode cX11_inspector 71 = .ok (.iastore, 1) := by decide +kernel
theorem dX11_inspector_72 : decode cX11_inspector 72 = .ok (.aload_n 0, 1) := by decide +kernel
theorem dX11_inspector_73 : decode cX11_inspector 73 = .ok (.iload_n 2, 1) := by decide +kernel
theorem dX11_inspector_74 : decode cX11_inspector 74 = .ok (.invokevirtual 54, 3) := by decide +kernel
theorem dX11_inspector_77 : decode cX11_inspector 77 = .ok (.ireturn, 1) := by decide +kernel
theorem dX11_inspects_0 : decode cX11_inspects 0 = .ok (.aload_n 0, 1) := by decide +kernel
theorem dX11_inspects_1 : decode cX11_inspects 1 = .ok (.iload_n 1, 1) := by decide +kernel
theorem dX11_inspects_2 : decode cX11_inspects 2 = .ok (.invokevirtual 136, 3) := by decide +kernel
theorem dX11_inspects_5 : decode cX11_inspects 5 = .ok (.ifCond .eq 11, 3) := by decide +kernel
theorem dX11_inspects_8 : decode cX11_inspects 8 = .ok (.aload_n 0, 1) := by decide +kernel
theorem dX11_inspects_9 : decode cX11_inspects 9 = .ok (.iload_n 2, 1) := by decide +kernel
theorem dX11_inspects_10 : decode cX11_inspects 10 = .ok (.invokevirtual 95, 3) := by decide +kernel
theorem dX11_inspects_13 : decode cX11_inspects 13 = .ok (.ifCond .ne 5, 3) := by decide +kernel
theorem dX11_inspects_16 : decode cX11_inspects 16 = .ok (.iconst (-1), 1) := by decide +kernel
theorem dX11_inspects_17 : decode cX11_inspects 17 = .ok (.ireturn, 1) := by decide +kernel
theorem dX11_inspects_18 : decode cX11_inspects 18 = .ok (.aload_n 0, 1) := by decide +kernel
theorem dX11_inspects_19 : decode cX11_inspects 19 = .ok (.getfield 9, 3) := by decide +kernel
theorem dX11_inspects_22 : decode cX11_inspects 22 = .ok (.iconst 1, 1) := by decide +kernel
theorem dX11_inspects_23 : decode cX11_inspects 23 = .ok (.iaload, 1) := by decide +kernel
theorem dX11_inspects_24 : decode cX11_inspects 24 = .ok (.iconst 3, 1) := by decide +kernel
theorem dX11_inspects_25 : decode cX11_inspects 25 = .ok (.if_icmp .lt 15, 3) := by decide +kernel
theorem dX11_inspects_28 : decode cX11_inspects 28 = .ok (.aload_n 0, 1) := by decide +kernel
theorem dX11_inspects_29 : decode cX11_inspects 29 = .ok (.iconst 4, 1) := by decide +kernel
theorem dX11_inspects_30 : decode cX11_inspects 30 = .ok (.aload_n 0, 1) := by decide +kernel
theorem dX11_inspects_31 : decode cX11_inspects 31 = .ok (.getfield 9, 3) := by decide +kernel
theorem dX11_inspects_34 : decode cX11_inspects 34 = .ok (.iconst 1, 1) := by decide +kernel
theorem dX11_inspects_35 : decode cX11_inspects 35 = .ok (.iaload, 1) := by decide +kernel
theorem dX11_inspects_36 : decode cX11_inspects 36 = .ok (.invokevirtual 68, 3) := by decide +kernel
theorem dX11_inspects_39 : decode cX11_inspects 39 = .ok (.ireturn, 1) := by decide +kernel
theorem dX11_inspects_40 : decode cX11_inspects 40 = .ok (.aload_n 0, 1) := by decide +kernel
theorem dX11_inspects_41 : decode cX11_inspects 41 = .ok (.getfield 9, 3) := by decide +kernel
theorem dX11_inspects_44 : decode cX11_inspects 44 = .ok (.bipush 105, 2) := by decide +kernel
theorem dX11_inspects_46 : decode cX11_inspects 46 = .ok (.iconst 2, 1) := by decide +kernel
theorem dX11_inspects_47 : decode cX11_inspects 47 = .ok (.iload_n 1, 1) := by decide +kernel
theorem dX11_inspects_48 : decode cX11_inspects 48 = .ok (.imul, 1) := by decide +kernel
theorem dX11_inspects_49 : decode cX11_inspects 49 = .ok (.iadd, 1) := by decide +kernel
theorem dX11_inspects_50 : decode cX11_inspects 50 = .ok (.iaload, 1) := by decide +kernel
theorem dX11_inspects_51 : decode cX11_inspects 51 = .ok (.istore_n 3, 1) := by decide +kernel
theorem dX11_inspects_52 : decode cX11_inspects 52 = .ok (.aload_n 0, 1) := by decide +kernel
theorem dX11_inspects_53 : decode cX11_inspects 53 = .ok (.iload_n 2, 1) := by decide +kernel
theorem dX11_inspects_54 : decode cX11_inspects 54 = .ok (.iconst 2, 1) := by decide +kernel
theorem dX11_inspects_55 : decode cX11_inspects 55 = .ok (.invokevirtual 98, 3) := by decide +kernel
theorem dX11_inspects_58 : decode cX11_inspects 58 = .ok (.iload_n 3, 1) := by decide +kernel
theorem dX11_inspects_59 : decode cX11_inspects 59 = .ok (.iadd, 1) := by decide +kernel
theorem dX11_inspects_60 : decode cX11_inspects 60 = .ok (.bipush 20, 2) := by decide +kernel
theorem dX11_inspects_62 : decode cX11_inspects 62 = .ok (.if_icmp .gt 9, 3) := by decide +kernel
theorem dX11_inspects_65 : decode cX11_inspects 65 = .ok (.aload_n 0, 1) := by decide +kernel
theorem dX11_inspects_66 : decode cX11_inspects 66 = .ok (.iconst 0, 1) := by decide +kernel
theorem dX11_inspects_67 : decode cX11_inspects 67 = .ok (.invokevirtual 85, 3) := by decide +kernel
theorem dX11_inspects_70 : decode cX11_inspects 70 = .ok (.ireturn, 1) := by decide +kernel
theorem dX11_inspects_71 : decode cX11_inspects 71 = .ok (.aload_n 0, 1) := by decide +kernel
theorem dX11_inspects_72 : decode cX11_inspects 72 = .ok (.getfield 9, 3) := by decide +kernel
theorem dX11_inspects_75 : decode cX11_inspects 75 = .ok (.bipush 105, 2) := by decide +kernel
theorem dX11_inspects_77 : decode cX11_inspects 77 = .ok (.iconst 2, 1) := by decide +kernel
theorem dX11_inspects_78 : decode cX11_inspects 78 = .ok (.iload_n 1, 1) := by decide +kernel
theorem dX11_inspects_79 : decode cX11_inspects 79 = .ok (.imul, 1) := by decide +kernel
theorem dX11_inspects_80 : decode cX11_inspects 80 = .ok (.iadd, 1) := by decide +kernel
theorem dX11_inspects_81 : decode cX11_inspects 81 = .ok (.iconst 1, 1) := by decide +kernel
theorem dX11_inspects_82 : decode cX11_inspects 82 = .ok (.iadd, 1) := by decide +kernel
theorem dX11_inspects_83 : decode cX11_inspects 83 = .ok (.dup2, 1) := by decide +kernel
theorem dX11_inspects_84 : decode cX11_inspects 84 = .ok (.iaload, 1) := by decide +kernel
theorem dX11_inspects_85 : decode cX11_inspects 85 = .ok (.iconst 1, 1) := by decide +kernel
theorem dX11_inspects_86 : decode cX11_inspects 86 = .ok (.iadd, 1) := by decide +kernel
theorem dX11_inspects_87 : decode cX11_inspects 87 = .ok (.iastore, 1) := by decide +kernel
theorem dX11_inspects_88 : decode cX11_inspects 88 = .ok (.aload_n 0, 1) := by decide +kernel
theorem dX11_inspects_89 : decode cX11_inspects 89 = .ok (.getfield 9, 3) := by decide +kernel
theorem dX11_inspects_92 : decode cX11_inspects 92 = .ok (.bipush 8, 2) := by decide +kernel
theorem dX11_inspects_94 : decode cX11_inspects 94 = .ok (.dup2, 1) := by decide +kernel
theorem dX11_inspects_95 : decode cX11_inspects 95 = .ok (.iaload, 1) := by decide +kernel
theorem dX11_inspects_96 : decode cX11_inspects 96 = .ok (.iload_n 3, 1) := by decide +kernel
theorem dX11_inspects_97 : decode cX11_inspects 97 = .ok (.iadd, 1) := by decide +kernel
theorem dX11_inspects_98 : decode cX11_inspects 98 = .ok (.iastore, 1) := by decide +kernel
theorem dX11_inspects_99 : decode cX11_inspects 99 = .ok (.aload_n 0, 1) := by decide +kernel
theorem dX11_inspects_100 : decode cX11_inspects 100 = .ok (.iload_n 2, 1) := by decide +kernel
theorem dX11_inspects_101 : decode cX11_inspects 101 = .ok (.iconst 5, 1) := by decide +kernel
theorem dX11_inspects_102 : decode cX11_inspects 102 = .ok (.invokevirtual 98, 3) := by decide +kernel
theorem dX11_inspects_105 : decode cX11_inspects 105 = .ok (.ifCond .ne 57, 3) := by decide +kernel
theorem dX11_inspects_108 : decode cX11_inspects 108 = .ok (.aload_n 0, 1) := by decide +kernel
theorem dX11_inspects_109 : decode cX11_inspects 109 = .ok (.iload_n 2, 1) := by decide +kernel
theorem dX11_inspects_110 : decode cX11_inspects 110 = .ok (.iconst 5, 1) := by decide +kernel
theorem dX11_inspects_111 : decode cX11_inspects 111 = .ok (.iload_n 1, 1) := by decide +kernel
theorem dX11_inspects_112 : decode cX11_inspects 112 = .ok (.iconst 1, 1) := by decide +kernel
theorem dX11_inspects_113 : decode cX11_inspects 113 = .ok (.iadd, 1) := by decide +kernel
theorem dX11_inspects_114 : decode cX11_inspects 114 = .ok (.invokevirtual 81, 3) := by decide +kernel
theorem dX11_inspects_117 : decode cX11_inspects 117 = .ok (.iconst 0, 1) := by decide +kernel
theorem dX11_inspects_118 : decode cX11_inspects 118 = .ok (.istore 4, 2) := by decide +kernel
theorem dX11_inspects_120 : decode cX11_inspects 120 = .ok (.iload 4, 2) := by decide +kernel
theorem dX11_inspects_122 : decode cX11_inspects 122 = .ok (.aload_n 0, 1) := by decide +kernel
theorem dX11_inspects_123 : decode cX11_inspects 123 = .ok (.getfield 9, 3) := by decide +kernel
theorem dX11_inspects_126 : decode cX11_inspects 126 = .ok (.iconst 4, 1) := by decide +kernel
theorem dX11_inspects_127 : decode cX11_inspects 127 = .ok (.iaload, 1) := by decide +kernel
theorem dX11_inspects_128 : decode cX11_inspects 128 = .ok (.if_icmp .ge 34, 3) := by decide +kernel
theorem dX11_inspects_131 : decode cX11_inspects 131 = .ok (.aload_n 0, 1) := by decide +kernel
theorem dX11_inspects_132 : decode cX11_inspects 132 = .ok (.iload 4, 2) := by decide +kernel
theorem dX11_inspects_134 : decode cX11_inspects 134 = .ok (.invokevirtual 104, 3) := by decide +kernel
theorem dX11_inspects_137 : decode cX11_inspects 137 = .ok (.iload_n 2, 1) := by decide +kernel
theorem dX11_inspects_138 : decode cX11_inspects 138 = .ok (.if_icmp .ne 18, 3) := by decide +kernel
theorem dX11_inspects_141 : decode cX11_inspects 141 = .ok (.aload_n 0, 1) := by decide +kernel
theorem dX11_inspects_142 : decode cX11_inspects 142 = .ok (.getfield 9, 3) := by decide +kernel
theorem dX11_inspects_145 : decode cX11_inspects 145 = .ok (.bipush 90, 2) := by decide +kernel
theorem dX11_inspects_147 : decode cX11_inspects 147 = .ok (.iconst 3, 1) := by decide +kernel
theorem dX11_inspects_148 : decode cX11_inspects 148 = .ok (.iload 4, 2) := by decide +kernel
theorem dX11_inspects_150 : decode cX11_inspects 150 = .ok (.imul, 1) := by decide +kernel
theorem dX11_inspects_151 : decode cX11_inspects 151 = .ok (.iadd, 1) := by decide +kernel
theorem dX11_inspects_152 : decode cX11_inspects 152 = .ok (.iconst 1, 1) := by decide +kernel
theorem dX11_inspects_153 : decode cX11_inspects 153 = .ok (.iadd, 1) := by decide +kernel
theorem dX11_inspects_154 : decode cX11_inspects 154 = .ok (.iconst 0, 1) := by decide +kernel
theorem dX11_inspects_155 : decode cX11_inspects 155 = .ok (.iastore, 1) := by decide +kernel
theorem dX11_inspects_156 : decode cX11_inspects 156 = .ok (.iinc 4 1, 3) := by decide +kernel
theorem dX11_inspects_159 : decode cX11_inspects 159 = .ok (.goto (-39), 3) := by decide +kernel
theorem dX11_inspects_162 : decode cX11_inspects 162 = .ok (.aload_n 0, 1) := by decide +kernel
theorem dX11_inspects_163 : decode cX11_inspects 163 = .ok (.iconst 1, 1) := by decide +kernel
theorem dX11_inspects_164 : decode cX11_inspects 164 = .ok (.invokevirtual 85, 3) := by decide +kernel
theorem dX11_inspects_167 : decode cX11_inspects 167 = .ok (.ireturn, 1) := by decide +kernel
theorem dX11_inspect_0 : decode cX11_inspect 0 = .ok (.aload_n 0, 1) := by decide +kernel
theorem dX11_inspect_1 : decode cX11_inspect 1 = .ok (.invokevirtual 65, 3) := by decide +kernel
theorem dX11_inspect_4 : decode cX11_inspect 4 = .ok (.aload_n 0, 1) := by decide +kernel
theorem dX11_inspect_5 : decode cX11_inspect 5 = .ok (.aload_n 0, 1) := by decide +kernel
theorem dX11_inspect_6 : decode cX11_inspect 6 = .ok (.iload_n 1, 1) := by decide +kernel
theorem dX11_inspect_7 : decode cX11_inspect 7 = .ok (.iload_n 2, 1) := by decide +kernel
theorem dX11_inspect_8 : decode cX11_inspect 8 = .ok (.invokevirtual 139, 3) := by decide +kernel
theorem dX11_inspect_11 : decode cX11_inspect 11 = .ok (.invokevirtual 92, 3) := by decide +kernel
theorem dX11_inspect_14 : decode cX11_inspect 14 = .ok (.ireturn, 1) := by decide +kernel
theorem dX11_strong_0 : decode cX11_strong 0 = .ok (.iconst 0, 1) := by decide +kernel
theorem dX11_strong_1 : decode cX11_strong 1 = .ok (.bipush 12, 2) := by decide +kernel
theorem dX11_strong_3 : decode cX11_strong 3 = .ok (.aload_n 0, 1) := by decide +kernel
theorem dX11_strong_4 : decode cX11_strong 4 = .ok (.iload_n 1, 1) := by decide +kernel
theorem dX11_strong_5 : decode cX11_strong 5 = .ok (.iconst 1, 1) := by decide +kernel
theorem dX11_strong_6 : decode cX11_strong 6 = .ok (.invokevirtual 98, 3) := by decide +kernel
theorem dX11_strong_9 : decode cX11_strong 9 = .ok (.bipush 6, 2) := by decide +kernel
theorem dX11_strong_11 : decode cX11_strong 11 = .ok (.idiv, 1) := by decide +kernel
theorem dX11_strong_12 : decode cX11_strong 12 = .ok (.isub, 1) := by decide +kernel
theorem dX11_strong_13 : decode cX11_strong 13 = .ok (.aload_n 0, 1) := by decide +kernel
theorem dX11_strong_14 : decode cX11_strong 14 = .ok (.iload_n 1, 1) := by decide +kernel
theorem dX11_strong_15 : decode cX11_strong 15 = .ok (.iconst 0, 1) := by decide +kernel
theorem dX11_strong_16 : decode cX11_strong 16 = .ok (.invokevirtual 98, 3) := by decide +kernel
theorem dX11_strong_19 : decode cX11_strong 19 = .ok (.iadd, 1) := by decide +kernel
theorem dX11_strong_20 : decode cX11_strong 20 = .ok (.aload_n 0, 1) := by decide +kernel
theorem dX11_strong_21 : decode cX11_strong 21 = .ok (.iload_n 1, 1) := by decide +kernel
theorem dX11_strong_22 : decode cX11_strong 22 = .ok (.iconst 2, 1) := by decide +kernel
theorem dX11_strong_23 : decode cX11_strong 23 = .ok (.invokevirtual 98, 3) := by decide +kernel
theorem dX11_strong_26 : decode cX11_strong 26 = .ok (.iconst 5, 1) := by decide +kernel
theorem dX11_strong_27 : decode cX11_strong 27 = .ok (.idiv, 1) := by decide +kernel
theorem dX11_strong_28 : decode cX11_strong 28 = .ok (.isub, 1) := by decide +kernel
theorem dX11_strong_29 : decode cX11_strong 29 = .ok (.iload_n 1, 1) := by decide +kernel
theorem dX11_strong_30 : decode cX11_strong 30 = .ok (.iconst 2, 1) := by decide +kernel
theorem dX11_strong_31 : decode cX11_strong 31 = .ok (.idiv, 1) := by decide +kernel
theorem dX11_strong_32 : decode cX11_strong 32 = .ok (.isub, 1) := by decide +kernel
theorem dX11_strong_33 : decode cX11_strong 33 = .ok (.invokestatic 142, 3) := by decide +kernel
theorem dX11_strong_36 : decode cX11_strong 36 = .ok (.ireturn, 1) := by decide +kernel
theorem dX11_fallsBy_0 : decode cX11_fallsBy 0 = .ok (.iconst 0, 1) := by decide +kernel
theorem dX11_fallsBy_1 : decode cX11_fallsBy 1 = .ok (.istore_n 2, 1) := by decide +kernel
theorem dX11_fallsBy_2 : decode cX11_fallsBy 2 = .ok (.iload_n 2, 1) := by decide +kernel
theorem dX11_fallsBy_3 : decode cX11_fallsBy 3 = .ok (.aload_n 0, 1) := by decide +kernel
theorem dX11_fallsBy_4 : decode cX11_fallsBy 4 = .ok (.getfield 9, 3) := by decide +kernel
theorem dX11_fallsBy_7 : decode cX11_fallsBy 7 = .ok (.iconst 3, 1) := by decide +kernel
theorem dX11_fallsBy_8 : decode cX11_fallsBy 8 = .ok (.iaload, 1) := by decide +kernel
theorem dX11_fallsBy_9 : decode cX11_fallsBy 9 = .ok (.if_icmp .ge 20, 3) := by decide +kernel
theorem dX11_fallsBy_12 : decode cX11_fallsBy 12 = .ok (.aload_n 0, 1) := by decide +kernel
theorem dX11_fallsBy_13 : decode cX11_fallsBy 13 = .ok (.iload_n 2, 1) := by decide +kernel
theorem dX11_fallsBy_14 : decode cX11_fallsBy 14 = .ok (.invokevirtual 145, 3) := by decide +kernel
theorem dX11_fallsBy_17 : decode cX11_fallsBy 17 = .ok (.iload_n 1, 1) := by decide +kernel
theorem dX11_fallsBy_18 : decode cX11_fallsBy 18 = .ok (.if_icmp .ge 5, 3) := by decide +kernel
theorem dX11_fallsBy_21 : decode cX11_fallsBy 21 = .ok (.iload_n 2, 1) := by decide +kernel
theorem dX11_fallsBy_22 : decode cX11_fallsBy 22 = .ok (.ireturn, 1) := by decide +kernel
theorem dX11_fallsBy_23 : decode cX11_fallsBy 23 = .ok (.iinc 2 1, 3) := by decide +kernel
theorem dX11_fallsBy_26 : decode cX11_fallsBy 26 = .ok (.goto (-24), 3) := by decide +kernel
theorem dX11_fallsBy_29 : decode cX11_fallsBy 29 = .ok (.bipush (-4), 2) := by decide +kernel
theorem dX11_fallsBy_31 : decode cX11_fallsBy 31 = .ok (.ireturn, 1) := by decide +kernel
theorem dX11_works_0 : decode cX11_works 0 = .ok (.aload_n 0, 1) := by decide +kernel
theorem dX11_works_1 : decode cX11_works 1 = .ok (.iload_n 1, 1) := by decide +kernel
theorem dX11_works_2 : decode cX11_works 2 = .ok (.invokevirtual 104, 3) := by decide +kernel
theorem dX11_works_5 : decode cX11_works 5 = .ok (.istore_n 2, 1) := by decide +kernel
theorem dX11_works_6 : decode cX11_works 6 = .ok (.iload_n 2, 1) := by decide +kernel
theorem dX11_works_7 : decode cX11_works 7 = .ok (.ifCond .lt 33, 3) := by decide +kernel
theorem dX11_works_10 : decode cX11_works 10 = .ok (.aload_n 0, 1) := by decide +kernel
theorem dX11_works_11 : decode cX11_works 11 = .ok (.iload_n 2, 1) := by decide +kernel
theorem dX11_works_12 : decode cX11_works 12 = .ok (.invokevirtual 110, 3) := by decide +kernel
theorem dX11_works_15 : decode cX11_works 15 = .ok (.ifCond .ge 25, 3) := by decide +kernel
theorem dX11_works_18 : decode cX11_works 18 = .ok (.aload_n 0, 1) := by decide +kernel
theorem dX11_works_19 : decode cX11_works 19 = .ok (.iload_n 2, 1) := by decide +kernel
theorem dX11_works_20 : decode cX11_works 20 = .ok (.iconst 3, 1) := by decide +kernel
theorem dX11_works_21 : decode cX11_works 21 = .ok (.invokevirtual 98, 3) := by decide +kernel
theorem dX11_works_24 : decode cX11_works 24 = .ok (.ifCond .le 16, 3) := by decide +kernel
theorem dX11_works_27 : decode cX11_works 27 = .ok (.aload_n 0, 1) := by decide +kernel
theorem dX11_works_28 : decode cX11_works 28 = .ok (.iload_n 2, 1) := by decide +kernel
theorem dX11_works_29 : decode cX11_works 29 = .ok (.iconst 4, 1) := by decide +kernel
theorem dX11_works_30 : decode cX11_works 30 = .ok (.invokevirtual 98, 3) := by decide +kernel
theorem dX11_works_33 : decode cX11_works 33 = .ok (.ifCond .le 7, 3) := by decide +kernel
theorem dX11_works_36 : decode cX11_works 36 = .ok (.iconst 1, 1) := by decide +kernel
theorem dX11_works_37 : decode cX11_works 37 = .ok (.goto 4, 3) := by decide +kernel
theorem dX11_works_40 : decode cX11_works 40 = .ok (.iconst 0, 1) := by decide +kernel
theorem dX11_works_41 : decode cX11_works 41 = .ok (.ireturn, 1) := by decide +kernel
theorem dX11_passes_0 : decode cX11_passes 0 = .ok (.iconst 0, 1) := by decide +kernel
theorem dX11_passes_1 : decode cX11_passes 1 = .ok (.istore_n 1, 1) := by decide +kernel
theorem dX11_passes_2 : decode cX11_passes 2 = .ok (.iload_n 1, 1) := by decide +kernel
theorem dX11_passes_3 : decode cX11_passes 3 = .ok (.aload_n 0, 1) := by decide +kernel
theorem dX11_passes_4 : decode cX11_passes 4 = .ok (.getfield 9, 3) := by decide +kernel
theorem dX11_passes_7 : decode cX11_passes 7 = .ok (.iconst 4, 1) := by decide +kernel
theorem dX11_passes_8 : decode cX11_passes 8 = .ok (.iaload, 1) := by decide +kernel
theorem dX11_passes_9 : decode cX11_passes 9 = .ok (.if_icmp .ge 103, 3) := by decide +kernel
theorem dX11_passes_12 : decode cX11_passes 12 = .ok (.aload_n 0, 1) := by decide +kernel
theorem dX11_passes_13 : decode cX11_passes 13 = .ok (.iload_n 1, 1) := by decide +kernel
theorem dX11_passes_14 : decode cX11_passes 14 = .ok (.invokevirtual 148, 3) := by decide +kernel
theorem dX11_passes_17 : decode cX11_passes 17 = .ok (.ifCond .ne 6, 3) := by decide +kernel
theorem dX11_passes_20 : decode cX11_passes 20 = .ok (.goto 86, 3) := by decide +kernel
theorem dX11_passes_23 : decode cX11_passes 23 = .ok (.aload_n 0, 1) := by decide +kernel
theorem dX11_passes_24 : decode cX11_passes 24 = .ok (.iload_n 1, 1) := by decide +kernel
theorem dX11_passes_25 : decode cX11_passes 25 = .ok (.invokevirtual 104, 3) := by decide +kernel
theorem dX11_passes_28 : decode cX11_passes 28 = .ok (.istore_n 2, 1) := by decide +kernel
theorem dX11_passes_29 : decode cX11_passes 29 = .ok (.aload_n 0, 1) := by decide +kernel
theorem dX11_passes_30 : decode cX11_passes 30 = .ok (.iload_n 2, 1) := by decide +kernel
theorem dX11_passes_31 : decode cX11_passes 31 = .ok (.iconst 3, 1) := by decide +kernel
theorem dX11_passes_32 : decode cX11_passes 32 = .ok (.invokevirtual 98, 3) := by decide +kernel
theorem dX11_passes_35 : decode cX11_passes 35 = .ok (.aload_n 0, 1) := by decide +kernel
theorem dX11_passes_36 : decode cX11_passes 36 = .ok (.getfield 9, 3) := by decide +kernel
theorem dX11_passes_39 : decode cX11_passes 39 = .ok (.bipush 90, 2) := by decide +kernel
theorem dX11_passes_41 : decode cX11_passes 41 = .ok (.iconst 3, 1) := by decide +kernel
theorem dX11_passes_42 : decode cX11_passes 42 = .ok (.iload_n 1, 1) := by decide +kernel
theorem dX11_passes_43 : decode cX11_passes 43 = .ok (.imul, 1) := by decide +kernel
theorem dX11_passes_44 : decode cX11_passes 44 = .ok (.iadd, 1) := by decide +kernel
theorem dX11_passes_45 : decode cX11_passes 45 = .ok (.iaload, 1) := by decide +kernel
theorem dX11_passes_46 : decode cX11_passes 46 = .ok (.invokestatic 72, 3) := by decide +kernel
theorem dX11_passes_49 : decode cX11_passes 49 = .ok (.istore_n 3, 1) := by decide +kernel
theorem dX11_passes_50 : decode cX11_passes 50 = .ok (.aload_n 0, 1) := by decide +kernel
theorem dX11_passes_51 : decode cX11_passes 51 = .ok (.iload_n 2, 1) := by decide +kernel
theorem dX11_passes_52 : decode cX11_passes 52 = .ok (.iconst 3, 1) := by decide +kernel
theorem dX11_passes_53 : decode cX11_passes 53 = .ok (.aload_n 0, 1) := by decide +kernel
theorem dX11_passes_54 : decode cX11_passes 54 = .ok (.iload_n 2, 1) := by decide +kernel
theorem dX11_passes_55 : decode cX11_passes 55 = .ok (.iconst 3, 1) := by decide +kernel
theorem dX11_passes_56 : decode cX11_passes 56 = .ok (.invokevirtual 98, 3) := by decide +kernel
theorem dX11_passes_59 : decode cX11_passes 59 = .ok (.iload_n 3, 1) := by decide +kernel
theorem dX11_passes_60 : decode cX11_passes 60 = .ok (.isub, 1) := by decide +kernel
theorem dX11_passes_61 : decode cX11_passes 61 = .ok (.invokevirtual 81, 3) := by decide +kernel
theorem dX11_passes_64 : decode cX11_passes 64 = .ok (.aload_n 0, 1) := by decide +kernel
theorem dX11_passes_65 : decode cX11_passes 65 = .ok (.iload_n 2, 1) := by decide +kernel
theorem dX11_passes_66 : decode cX11_passes 66 = .ok (.iconst 4, 1) := by decide +kernel
theorem dX11_passes_67 : decode cX11_passes 67 = .ok (.aload_n 0, 1) := by decide +kernel
theorem dX11_passes_68 : decode cX11_passes 68 = .ok (.iload_n 2, 1) := by decide +kernel
theorem dX11_passes_69 : decode cX11_passes 69 = .ok (.iconst 4, 1) := by decide +kernel
theorem dX11_passes_70 : decode cX11_passes 70 = .ok (.invokevirtual 98, 3) := by decide +kernel
theorem dX11_passes_73 : decode cX11_passes 73 = .ok (.iconst 1, 1) := by decide +kernel
theorem dX11_passes_74 : decode cX11_passes 74 = .ok (.isub, 1) := by decide +kernel
theorem dX11_passes_75 : decode cX11_passes 75 = .ok (.invokevirtual 81, 3) := by decide +kernel
theorem dX11_passes_78 : decode cX11_passes 78 = .ok (.aload_n 0, 1) := by decide +kernel
theorem dX11_passes_79 : decode cX11_passes 79 = .ok (.getfield 9, 3) := by decide +kernel
theorem dX11_passes_82 : decode cX11_passes 82 = .ok (.bipush 90, 2) := by decide +kernel
theorem dX11_passes_84 : decode cX11_passes 84 = .ok (.iconst 3, 1) := by decide +kernel
theorem dX11_passes_85 : decode cX11_passes 85 = .ok (.iload_n 1, 1) := by decide +kernel
theorem dX11_passes_86 : decode cX11_passes 86 = .ok (.imul, 1) := by decide +kernel
theorem dX11_passes_87 : decode cX11_passes 87 = .ok (.iadd, 1) := by decide +kernel
theorem dX11_passes_88 : decode cX11_passes 88 = .ok (.iconst 2, 1) := by decide +kernel
theorem dX11_passes_89 : decode cX11_passes 89 = .ok (.iadd, 1) := by decide +kernel
theorem dX11_passes_90 : decode cX11_passes 90 = .ok (.dup2, 1) := by decide +kernel
theorem dX11_passes_91 : decode cX11_passes 91 = .ok (.iaload, 1) := by decide +kernel
theorem dX11_passes_92 : decode cX11_passes 92 = .ok (.iload_n 3, 1) := by decide +kernel
theorem dX11_passes_93 : decode cX11_passes 93 = .ok (.iadd, 1) := by decide +kernel
theorem dX11_passes_94 : decode cX11_passes 94 = .ok (.iastore, 1) := by decide +kernel
theorem dX11_passes_95 : decode cX11_passes 95 = .ok (.aload_n 0, 1) := by decide +kernel
theorem dX11_passes_96 : decode cX11_passes 96 = .ok (.getfield 9, 3) := by decide +kernel
theorem dX11_passes_99 : decode cX11_passes 99 = .ok (.bipush 9, 2) := by decide +kernel
theorem dX11_passes_101 : decode cX11_passes 101 = .ok (.dup2, 1) := by decide +kernel
theorem dX11_passes_102 : decode cX11_passes 102 = .ok (.iaload, 1) := by decide +kernel
theorem dX11_passes_103 : decode cX11_passes 103 = .ok (.iload_n 3, 1) := by decide +kernel
theorem dX11_passes_104 : decode cX11_passes 104 = .ok (.iadd, 1) := by decide +kernel
theorem dX11_passes_105 : decode cX11_passes 105 = .ok (.iastore, 1) := by decide +kernel
theorem dX11_passes_106 : decode cX11_passes 106 = .ok (.iinc 1 1, 3) := by decide +kernel
theorem dX11_passes_109 : decode cX11_passes 109 = .ok (.goto (-107), 3) := by decide +kernel
theorem dX11_passes_112 : decode cX11_passes 112 = .ok (.aload_n 0, 1) := by decide +kernel
theorem dX11_passes_113 : decode cX11_passes 113 = .ok (.getfield 9, 3) := by decide +kernel
theorem dX11_passes_116 : decode cX11_passes 116 = .ok (.iconst 1, 1) := by decide +kernel
theorem dX11_passes_117 : decode cX11_passes 117 = .ok (.iaload, 1) := by decide +kernel
theorem dX11_passes_118 : decode cX11_passes 118 = .ok (.bipush 8, 2) := by decide +kernel
theorem dX11_passes_120 : decode cX11_passes 120 = .ok (.if_icmp .lt 7, 3) := by decide +kernel
theorem dX11_passes_123 : decode cX11_passes 123 = .ok (.iconst 1, 1) := by decide +kernel
theorem dX11_passes_124 : decode cX11_passes 124 = .ok (.goto 4, 3) := by decide +kernel
theorem dX11_passes_127 : decode cX11_passes 127 = .ok (.iconst 0, 1) := by decide +kernel
theorem dX11_passes_128 : decode cX11_passes 128 = .ok (.istore_n 1, 1) := by decide +kernel
theorem dX11_passes_129 : decode cX11_passes 129 = .ok (.iconst 0, 1) := by decide +kernel
theorem dX11_passes_130 : decode cX11_passes 130 = .ok (.istore_n 2, 1) := by decide +kernel
theorem dX11_passes_131 : decode cX11_passes 131 = .ok (.iload_n 2, 1) := by decide +kernel
theorem dX11_passes_132 : decode cX11_passes 132 = .ok (.aload_n 0, 1) := by decide +kernel
theorem dX11_passes_133 : decode cX11_passes 133 = .ok (.getfield 9, 3) := by decide +kernel
theorem dX11_passes_136 : decode cX11_passes 136 = .ok (.iconst 3, 1) := by decide +kernel
theorem dX11_passes_137 : decode cX11_passes 137 = .ok (.iaload, 1) := by decide +kernel
theorem dX11_passes_138 : decode cX11_passes 138 = .ok (.if_icmp .ge 36, 3) := by decide +kernel
theorem dX11_passes_141 : decode cX11_passes 141 = .ok (.aload_n 0, 1) := by decide +kernel
theorem dX11_passes_142 : decode cX11_passes 142 = .ok (.iload_n 2, 1) := by decide +kernel
theorem dX11_passes_143 : decode cX11_passes 143 = .ok (.iconst 2, 1) := by decide +kernel
theorem dX11_passes_144 : decode cX11_passes 144 = .ok (.bipush 99, 2) := by decide +kernel
theorem dX11_passes_146 : decode cX11_passes 146 = .ok (.aload_n 0, 1) := by decide +kernel
theorem dX11_passes_147 : decode cX11_passes 147 = .ok (.iload_n 2, 1) := by decide +kernel
theorem dX11_passes_148 : decode cX11_passes 148 = .ok (.iconst 2, 1) := by decide +kernel
theorem dX11_passes_149 : decode cX11_passes 149 = .ok (.invokevirtual 98, 3) := by decide +kernel
theorem dX11_passes_152 : decode cX11_passes 152 = .ok (.iload_n 1, 1) := by decide +kernel
theorem dX11_passes_153 : decode cX11_passes 153 = .ok (.ifCond .eq 7, 3) := by decide +kernel
theorem dX11_passes_156 : decode cX11_passes 156 = .ok (.iconst 4, 1) := by decide +kernel
theorem dX11_passes_157 : decode cX11_passes 157 = .ok (.goto 4, 3) := by decide +kernel
theorem dX11_passes_160 : decode cX11_passes 160 = .ok (.iconst 1, 1) := by decide +kernel
theorem dX11_passes_161 : decode cX11_passes 161 = .ok (.iadd, 1) := by decide +kernel
theorem dX11_passes_162 : decode cX11_passes 162 = .ok (.invokestatic 72, 3) := by decide +kernel
theorem dX11_passes_165 : decode cX11_passes 165 = .ok (.invokevirtual 81, 3) := by decide +kernel
theorem dX11_passes_168 : decode cX11_passes 168 = .ok (.iinc 2 1, 3) := by decide +kernel
theorem dX11_passes_171 : decode cX11_passes 171 = .ok (.goto (-40), 3) := by decide +kernel
theorem dX11_passes_174 : decode cX11_passes 174 = .ok (.iload_n 1, 1) := by decide +kernel
theorem dX11_passes_175 : decode cX11_passes 175 = .ok (.ifCond .eq 16, 3) := by decide +kernel
theorem dX11_passes_178 : decode cX11_passes 178 = .ok (.aload_n 0, 1) := by decide +kernel
theorem dX11_passes_179 : decode cX11_passes 179 = .ok (.aload_n 0, 1) := by decide +kernel
theorem dX11_passes_180 : decode cX11_passes 180 = .ok (.getfield 9, 3) := by decide +kernel
theorem dX11_passes_183 : decode cX11_passes 183 = .ok (.iconst 1, 1) := by decide +kernel
theorem dX11_passes_184 : decode cX11_passes 184 = .ok (.iaload, 1) := by decide +kernel
theorem dX11_passes_185 : decode cX11_passes 185 = .ok (.invokevirtual 151, 3) := by decide +kernel
theorem dX11_passes_188 : decode cX11_passes 188 = .ok (.goto 5, 3) := by decide +kernel
theorem dX11_passes_191 : decode cX11_passes 191 = .ok (.bipush (-4), 2) := by decide +kernel
theorem dX11_passes_193 : decode cX11_passes 193 = .ok (.istore_n 2, 1) := by decide +kernel
theorem dX11_passes_194 : decode cX11_passes 194 = .ok (.iconst 0, 1) := by decide +kernel
theorem dX11_passes_195 : decode cX11_passes 195 = .ok (.istore_n 3, 1) := by decide +kernel
theorem dX11_passes_196 : decode cX11_passes 196 = .ok (.iload_n 2, 1) := by decide +kernel
theorem dX11_passes_197 : decode cX11_passes 197 = .ok (.ifCond .lt 78, 3) := by decide +kernel
theorem dX11_passes_200 : decode cX11_passes 200 = .ok (.iload_n 2, 1) := by decide +kernel
theorem dX11_passes_201 : decode cX11_passes 201 = .ok (.istore 4, 2) := by decide +kernel
theorem dX11_passes_203 : decode cX11_passes 203 = .ok (.iload 4, 2) := by decide +kernel
theorem dX11_passes_205 : decode cX11_passes 205 = .ok (.aload_n 0, 1) := by decide +kernel
theorem dX11_passes_206 : decode cX11_passes 206 = .ok (.getfield 9, 3) := by decide +kernel
theorem dX11_passes_209 : decode cX11_passes 209 = .ok (.iconst 3, 1) := by decide +kernel
theorem dX11_passes_210 : decode cX11_passes 210 = .ok (.iaload, 1) := by decide +kernel
theorem dX11_passes_211 : decode cX11_passes 211 = .ok (.if_icmp .ge 46, 3) := by decide +kernel
theorem dX11_passes_214 : decode cX11_passes 214 = .ok (.aload_n 0, 1) := by decide +kernel
theorem dX11_passes_215 : decode cX11_passes 215 = .ok (.getfield 9, 3) := by decide +kernel
theorem dX11_passes_218 : decode cX11_passes 218 = .ok (.bipush 11, 2) := by decide +kernel
theorem dX11_passes_220 : decode cX11_passes 220 = .ok (.dup2, 1) := by decide +kernel
theorem dX11_passes_221 : decode cX11_passes 221 = .ok (.iaload, 1) := by decide +kernel
theorem dX11_passes_222 : decode cX11_passes 222 = .ok (.aload_n 0, 1) := by decide +kernel
theorem dX11_passes_223 : decode cX11_passes 223 = .ok (.iload 4, 2) := by decide +kernel
theorem dX11_passes_225 : decode cX11_passes 225 = .ok (.iconst 0, 1) := by decide +kernel
theorem dX11_passes_226 : decode cX11_passes 226 = .ok (.invokevirtual 98, 3) := by decide +kernel
theorem dX11_passes_229 : decode cX11_passes 229 = .ok (.iadd, 1) := by decide +kernel
theorem dX11_passes_230 : decode cX11_passes 230 = .ok (.iastore, 1) := by decide +kernel
theorem dX11_passes_231 : decode cX11_passes 231 = .ok (.aload_n 0, 1) := by decide +kernel
theorem dX11_passes_232 : decode cX11_passes 232 = .ok (.getfield 9, 3) := by decide +kernel
theorem dX11_passes_235 : decode cX11_passes 235 = .ok (.bipush 13, 2) := by decide +kernel
theorem dX11_passes_237 : decode cX11_passes 237 = .ok (.dup2, 1) := by decide +kernel
theorem dX11_passes_238 : decode cX11_passes 238 = .ok (.iaload, 1) := by decide +kernel
theorem dX11_passes_239 : decode cX11_passes 239 = .ok (.aload_n 0, 1) := by decide +kernel
theorem dX11_passes_240 : decode cX11_passes 240 = .ok (.iload 4, 2) := by decide +kernel
theorem dX11_passes_242 : decode cX11_passes 242 = .ok (.iconst 3, 1) := by decide +kernel
theorem dX11_passes_243 : decode cX11_passes 243 = .ok (.invokevirtual 98, 3) := by decide +kernel
theorem dX11_passes_246 : decode cX11_passes 246 = .ok (.iadd, 1) := by decide +kernel
theorem dX11_passes_247 : decode cX11_passes 247 = .ok (.iastore, 1) := by decide +kernel
theorem dX11_passes_248 : decode cX11_passes 248 = .ok (.iinc 3 1, 3) := by decide +kernel
theorem dX11_passes_251 : decode cX11_passes 251 = .ok (.iinc 4 1, 3) := by decide +kernel
theorem dX11_passes_254 : decode cX11_passes 254 = .ok (.goto (-51), 3) := by decide +kernel
theorem dX11_passes_257 : decode cX11_passes 257 = .ok (.aload_n 0, 1) := by decide +kernel
theorem dX11_passes_258 : decode cX11_passes 258 = .ok (.getfield 9, 3) := by decide +kernel
theorem dX11_passes_261 : decode cX11_passes 261 = .ok (.iconst 3, 1) := by decide +kernel
theorem dX11_passes_262 : decode cX11_passes 262 = .ok (.iload_n 2, 1) := by decide +kernel
theorem dX11_passes_263 : decode cX11_passes 263 = .ok (.iastore, 1) := by decide +kernel
theorem dX11_passes_264 : decode cX11_passes 264 = .ok (.aload_n 0, 1) := by decide +kernel
theorem dX11_passes_265 : decode cX11_passes 265 = .ok (.getfield 9, 3) := by decide +kernel
theorem dX11_passes_268 : decode cX11_passes 268 = .ok (.bipush 10, 2) := by decide +kernel
theorem dX11_passes_270 : decode cX11_passes 270 = .ok (.dup2, 1) := by decide +kernel
theorem dX11_passes_271 : decode cX11_passes 271 = .ok (.iaload, 1) := by decide +kernel
theorem dX11_passes_272 : decode cX11_passes 272 = .ok (.iload_n 3, 1) := by decide +kernel
theorem dX11_passes_273 : decode cX11_passes 273 = .ok (.iadd, 1) := by decide +kernel
theorem dX11_passes_274 : decode cX11_passes 274 = .ok (.iastore, 1) := by decide +kernel
theorem dX11_passes_275 : decode cX11_passes 275 = .ok (.aload_n 0, 1) := by decide +kernel
theorem dX11_passes_276 : decode cX11_passes 276 = .ok (.getfield 9, 3) := by decide +kernel
theorem dX11_passes_279 : decode cX11_passes 279 = .ok (.iconst 0, 1) := by decide +kernel
theorem dX11_passes_280 : decode cX11_passes 280 = .ok (.dup2, 1) := by decide +kernel
theorem dX11_passes_281 : decode cX11_passes 281 = .ok (.iaload, 1) := by decide +kernel
theorem dX11_passes_282 : decode cX11_passes 282 = .ok (.iconst 1, 1) := by decide +kernel
theorem dX11_passes_283 : decode cX11_passes 283 = .ok (.iadd, 1) := by decide +kernel
theorem dX11_passes_284 : decode cX11_passes 284 = .ok (.iastore, 1) := by decide +kernel
theorem dX11_passes_285 : decode cX11_passes 285 = .ok (.aload_n 0, 1) := by decide +kernel
theorem dX11_passes_286 : decode cX11_passes 286 = .ok (.getfield 9, 3) := by decide +kernel
theorem dX11_passes_289 : decode cX11_passes 289 = .ok (.bipush 7, 2) := by decide +kernel
theorem dX11_passes_291 : decode cX11_passes 291 = .ok (.bipush 20, 2) := by decide +kernel
theorem dX11_passes_293 : decode cX11_passes 293 = .ok (.iastore, 1) := by decide +kernel
theorem dX11_passes_294 : decode cX11_passes 294 = .ok (.aload_n 0, 1) := by decide +kernel
theorem dX11_passes_295 : decode cX11_passes 295 = .ok (.getfield 9, 3) := by decide +kernel
theorem dX11_passes_298 : decode cX11_passes 298 = .ok (.iconst 0, 1) := by decide +kernel
theorem dX11_passes_299 : decode cX11_passes 299 = .ok (.iaload, 1) := by decide +kernel
theorem dX11_passes_300 : decode cX11_passes 300 = .ok (.bipush 7, 2) := by decide +kernel
theorem dX11_passes_302 : decode cX11_passes 302 = .ok (.irem, 1) := by decide +kernel
theorem dX11_passes_303 : decode cX11_passes 303 = .ok (.ifCond .ne 99, 3) := by decide +kernel
theorem dX11_passes_306 : decode cX11_passes 306 = .ok (.iconst 0, 1) := by decide +kernel
theorem dX11_passes_307 : decode cX11_passes 307 = .ok (.istore 4, 2) := by decide +kernel
theorem dX11_passes_309 : decode cX11_passes 309 = .ok (.iload 4, 2) := by decide +kernel
theorem dX11_passes_311 : decode cX11_passes 311 = .ok (.aload_n 0, 1) := by decide +kernel
theorem dX11_passes_312 : decode cX11_passes 312 = .ok (.getfield 9, 3) := by decide +kernel
theorem dX11_passes_315 : decode cX11_passes 315 = .ok (.iconst 2, 1) := by decide +kernel
theorem dX11_passes_316 : decode cX11_passes 316 = .ok (.iaload, 1) := by decide +kernel
theorem dX11_passes_317 : decode cX11_passes 317 = .ok (.if_icmp .ge 44, 3) := by decide +kernel
theorem dX11_passes_320 : decode cX11_passes 320 = .ok (.aload_n 0, 1) := by decide +kernel
theorem dX11_passes_321 : decode cX11_passes 321 = .ok (.getfield 9, 3) := by decide +kernel
theorem dX11_passes_324 : decode cX11_passes 324 = .ok (.bipush 14, 2) := by decide +kernel
theorem dX11_passes_326 : decode cX11_passes 326 = .ok (.iconst 2, 1) := by decide +kernel
theorem dX11_passes_327 : decode cX11_passes 327 = .ok (.iload 4, 2) := by decide +kernel
theorem dX11_passes_329 : decode cX11_passes 329 = .ok (.imul, 1) := by decide +kernel
theorem dX11_passes_330 : decode cX11_passes 330 = .ok (.iadd, 1) := by decide +kernel
theorem dX11_passes_331 : decode cX11_passes 331 = .ok (.iconst 1, 1) := by decide +kernel
theorem dX11_passes_332 : decode cX11_passes 332 = .ok (.iadd, 1) := by decide +kernel
theorem dX11_passes_333 : decode cX11_passes 333 = .ok (.bipush 60, 2) := by decide +kernel
theorem dX11_passes_335 : decode cX11_passes 335 = .ok (.aload_n 0, 1) := by decide +kernel
theorem dX11_passes_336 : decode cX11_passes 336 = .ok (.getfield 9, 3) := by decide +kernel
theorem dX11_passes_339 : decode cX11_passes 339 = .ok (.bipush 14, 2) := by decide +kernel
theorem dX11_passes_341 : decode cX11_passes 341 = .ok (.iconst 2, 1) := by decide +kernel
theorem dX11_passes_342 : decode cX11_passes 342 = .ok (.iload 4, 2) := by decide +kernel
theorem dX11_passes_344 : decode cX11_passes 344 = .ok (.imul, 1) := by decide +kernel
theorem dX11_passes_345 : decode cX11_passes 345 = .ok (.iadd, 1) := by decide +kernel
theorem dX11_passes_346 : decode cX11_passes 346 = .ok (.iconst 1, 1) := by decide +kernel
theorem dX11_passes_347 : decode cX11_passes 347 = .ok (.iadd, 1) := by decide +kernel
theorem dX11_passes_348 : decode cX11_passes 348 = .ok (.iaload, 1) := by decide +kernel
theorem dX11_passes_349 : decode cX11_passes 349 = .ok (.iconst 1, 1) := by decide +kernel
theorem dX11_passes_350 : decode cX11_passes 350 = .ok (.iadd, 1) := by decide +kernel
theorem dX11_passes_351 : decode cX11_passes 351 = .ok (.invokestatic 72, 3) := by decide +kernel
theorem dX11_passes_354 : decode cX11_passes 354 = .ok (.iastore, 1) := by decide +kernel
theorem dX11_passes_355 : decode cX11_passes 355 = .ok (.iinc 4 1, 3) := by decide +kernel
theorem dX11_passes_358 : decode cX11_passes 358 = .ok (.goto (-49), 3) := by decide +kernel
theorem dX11_passes_361 : decode cX11_passes 361 = .ok (.iconst 0, 1) := by decide +kernel
theorem dX11_passes_362 : decode cX11_passes 362 = .ok (.istore 4, 2) := by decide +kernel
theorem dX11_passes_364 : decode cX11_passes 364 = .ok (.iload 4, 2) := by decide +kernel
theorem dX11_passes_366 : decode cX11_passes 366 = .ok (.aload_n 0, 1) := by decide +kernel
theorem dX11_passes_367 : decode cX11_passes 367 = .ok (.getfield 9, 3) := by decide +kernel
theorem dX11_passes_370 : decode cX11_passes 370 = .ok (.iconst 3, 1) := by decide +kernel
theorem dX11_passes_371 : decode cX11_passes 371 = .ok (.iaload, 1) := by decide +kernel
theorem dX11_passes_372 : decode cX11_passes 372 = .ok (.if_icmp .ge 30, 3) := by decide +kernel
theorem dX11_passes_375 : decode cX11_passes 375 = .ok (.aload_n 0, 1) := by decide +kernel
theorem dX11_passes_376 : decode cX11_passes 376 = .ok (.iload 4, 2) := by decide +kernel
theorem dX11_passes_378 : decode cX11_passes 378 = .ok (.iconst 1, 1) := by decide +kernel
theorem dX11_passes_379 : decode cX11_passes 379 = .ok (.bipush 60, 2) := by decide +kernel
theorem dX11_passes_381 : decode cX11_passes 381 = .ok (.aload_n 0, 1) := by decide +kernel
theorem dX11_passes_382 : decode cX11_passes 382 = .ok (.iload 4, 2) := by decide +kernel
theorem dX11_passes_384 : decode cX11_passes 384 = .ok (.iconst 1, 1) := by decide +kernel
theorem dX11_passes_385 : decode cX11_passes 385 = .ok (.invokevirtual 98, 3) := by decide +kernel
theorem dX11_passes_388 : decode cX11_passes 388 = .ok (.iconst 1, 1) := by decide +kernel
theorem dX11_passes_389 : decode cX11_passes 389 = .ok (.iadd, 1) := by decide +kernel
theorem dX11_passes_390 : decode cX11_passes 390 = .ok (.invokestatic 72, 3) := by decide +kernel
theorem dX11_passes_393 : decode cX11_passes 393 = .ok (.invokevirtual 81, 3) := by decide +kernel
theorem dX11_passes_396 : decode cX11_passes 396 = .ok (.iinc 4 1, 3) := by decide +kernel
theorem dX11_passes_399 : decode cX11_passes 399 = .ok (.goto (-35), 3) := by decide +kernel
theorem dX11_passes_402 : decode cX11_passes 402 = .ok (.iload_n 3, 1) := by decide +kernel
theorem dX11_passes_403 : decode cX11_passes 403 = .ok (.ireturn, 1) := by decide +kernel
theorem dX11_days_0 : decode cX11_days 0 = .ok (.iload_n 1, 1) := by decide +kernel
theorem dX11_days_1 : decode cX11_days 1 = .ok (.iconst 1, 1) := by decide +kernel
theorem dX11_days_2 : decode cX11_days 2 = .ok (.bipush 30, 2) := by decide +kernel
theorem dX11_days_4 : decode cX11_days 4 = .ok (.invokestatic 58, 3) := by decide +kernel
theorem dX11_days_7 : decode cX11_days 7 = .ok (.ifCond .ne 6, 3) := by decide +kernel
theorem dX11_days_10 : decode cX11_days 10 = .ok (.bipush (-2), 2) := by decide +kernel
theorem dX11_days_12 : decode cX11_days 12 = .ok (.ireturn, 1) := by decide +kernel
theorem dX11_days_13 : decode cX11_days 13 = .ok (.iconst 0, 1) := by decide +kernel
theorem dX11_days_14 : decode cX11_days 14 = .ok (.istore_n 2, 1) := by decide +kernel
theorem dX11_days_15 : decode cX11_days 15 = .ok (.iconst 0, 1) := by decide +kernel
theorem dX11_days_16 : decode cX11_days 16 = .ok (.istore_n 3, 1) := by decide +kernel
theorem dX11_days_17 : decode cX11_days 17 = .ok (.iload_n 3, 1) := by decide +kernel
theorem dX11_days_18 : decode cX11_days 18 = .ok (.iload_n 1, 1) := by decide +kernel
theorem dX11_days_19 : decode cX11_days 19 = .ok (.if_icmp .ge 16, 3) := by decide +kernel
theorem dX11_days_22 : decode cX11_days 22 = .ok (.iload_n 2, 1) := by decide +kernel
theorem dX11_days_23 : decode cX11_days 23 = .ok (.aload_n 0, 1) := by decide +kernel
theorem dX11_days_24 : decode cX11_days 24 = .ok (.invokevirtual 154, 3) := by decide +kernel
theorem dX11_days_27 : decode cX11_days 27 = .ok (.iadd, 1) := by decide +kernel
theorem dX11_days_28 : decode cX11_days 28 = .ok (.istore_n 2, 1) := by decide +kernel
theorem dX11_days_29 : decode cX11_days 29 = .ok (.iinc 3 1, 3) := by decide +kernel
theorem dX11_days_32 : decode cX11_days 32 = .ok (.goto (-15), 3) := by decide +kernel
theorem dX11_days_35 : decode cX11_days 35 = .ok (.aload_n 0, 1) := by decide +kernel
theorem dX11_days_36 : decode cX11_days 36 = .ok (.iload_n 2, 1) := by decide +kernel
theorem dX11_days_37 : decode cX11_days 37 = .ok (.invokevirtual 85, 3) := by decide +kernel
theorem dX11_days_40 : decode cX11_days 40 = .ok (.ireturn, 1) := by decide +kernel
theorem dX11_day_0 : decode cX11_day 0 = .ok (.aload_n 0, 1) := by decide +kernel
theorem dX11_day_1 : decode cX11_day 1 = .ok (.invokevirtual 65, 3) := by decide +kernel
theorem dX11_day_4 : decode cX11_day 4 = .ok (.aload_n 0, 1) := by decide +kernel
theorem dX11_day_5 : decode cX11_day 5 = .ok (.aload_n 0, 1) := by decide +kernel
theorem dX11_day_6 : decode cX11_day 6 = .ok (.iload_n 1, 1) := by decide +kernel
theorem dX11_day_7 : decode cX11_day 7 = .ok (.invokevirtual 158, 3) := by decide +kernel
theorem dX11_day_10 : decode cX11_day 10 = .ok (.invokevirtual 92, 3) := by decide +kernel
theorem dX11_day_13 : decode cX11_day 13 = .ok (.ireturn, 1) := by decide +kernel
theorem dX11_isNext_0 : decode cX11_isNext 0 = .ok (.aload_n 0, 1) := by decide +kernel
theorem dX11_isNext_1 : decode cX11_isNext 1 = .ok (.getfield 161, 3) := by decide +kernel
theorem dX11_isNext_4 : decode cX11_isNext 4 = .ok (.aload_n 0, 1) := by decide +kernel
theorem dX11_isNext_5 : decode cX11_isNext 5 = .ok (.getfield 62, 3) := by decide +kernel
theorem dX11_isNext_8 : decode cX11_isNext 8 = .ok (.if_icmp .eq 16, 3) := by decide +kernel
theorem dX11_isNext_11 : decode cX11_isNext 11 = .ok (.aload_n 0, 1) := by decide +kernel
theorem dX11_isNext_12 : decode cX11_isNext 12 = .ok (.getfield 28, 3) := by decide +kernel
theorem dX11_isNext_15 : decode cX11_isNext 15 = .ok (.aload_n 0, 1) := by decide +kernel
theorem dX11_isNext_16 : decode cX11_isNext 16 = .ok (.getfield 161, 3) := by decide +kernel
theorem dX11_isNext_19 : decode cX11_isNext 19 = .ok (.caload, 1) := by decide +kernel
theorem dX11_isNext_20 : decode cX11_isNext 20 = .ok (.iload_n 1, 1) := by decide +kernel
theorem dX11_isNext_21 : decode cX11_isNext 21 = .ok (.if_icmp .eq 5, 3) := by decide +kernel
theorem dX11_isNext_24 : decode cX11_isNext 24 = .ok (.iconst 0, 1) := by decide +kernel
theorem dX11_isNext_25 : decode cX11_isNext 25 = .ok (.ireturn, 1) := by decide +kernel
theorem dX11_isNext_26 : decode cX11_isNext 26 = .ok (.aload_n 0, 1) := by decide +kernel
theorem dX11_isNext_27 : decode cX11_isNext 27 = .ok (.dup, 1) := by decide +kernel
theorem dX11_isNext_28 : decode cX11_isNext 28 = .ok (.getfield 161, 3) := by decide +kernel
theorem dX11_isNext_31 : decode cX11_isNext 31 = .ok (.iconst 1, 1) := by decide +kernel
theorem dX11_isNext_32 : decode cX11_isNext 32 = .ok (.iadd, 1) := by decide +kernel
theorem dX11_isNext_33 : decode cX11_isNext 33 = .ok (.putfield 161, 3) := by decide +kernel
theorem dX11_isNext_36 : decode cX11_isNext 36 = .ok (.iconst 1, 1) := by decide +kernel
theorem dX11_isNext_37 : decode cX11_isNext 37 = .ok (.ireturn, 1) := by decide +kernel
theorem dX11_digits_0 : decode cX11_digits 0 = .ok (.iconst 0, 1) := by decide +kernel
theorem dX11_digits_1 : decode cX11_digits 1 = .ok (.istore_n 3, 1) := by decide +kernel
theorem dX11_digits_2 : decode cX11_digits 2 = .ok (.aload_n 0, 1) := by decide +kernel
theorem dX11_digits_3 : decode cX11_digits 3 = .ok (.getfield 32, 3) := by decide +kernel
theorem dX11_digits_6 : decode cX11_digits 6 = .ok (.iload_n 1, 1) := by decide +kernel
theorem dX11_digits_7 : decode cX11_digits 7 = .ok (.iconst 0, 1) := by decide +kernel
theorem dX11_digits_8 : decode cX11_digits 8 = .ok (.iastore, 1) := by decide +kernel
theorem dX11_digits_9 : decode cX11_digits 9 = .ok (.iload_n 3, 1) := by decide +kernel
theorem dX11_digits_10 : decode cX11_digits 10 = .ok (.iload_n 2, 1) := by decide +kernel
theorem dX11_digits_11 : decode cX11_digits 11 = .ok (.if_icmp .ge 74, 3) := by decide +kernel
theorem dX11_digits_14 : decode cX11_digits 14 = .ok (.aload_n 0, 1) := by decide +kernel
theorem dX11_digits_15 : decode cX11_digits 15 = .ok (.getfield 161, 3) := by decide +kernel
theorem dX11_digits_18 : decode cX11_digits 18 = .ok (.aload_n 0, 1) := by decide +kernel
theorem dX11_digits_19 : decode cX11_digits 19 = .ok (.getfield 62, 3) := by decide +kernel
theorem dX11_digits_22 : decode cX11_digits 22 = .ok (.if_icmp .ge 63, 3) := by decide +kernel
theorem dX11_digits_25 : decode cX11_digits 25 = .ok (.aload_n 0, 1) := by decide +kernel
theorem dX11_digits_26 : decode cX11_digits 26 = .ok (.getfield 28, 3) := by decide +kernel
theorem dX11_digits_29 : decode cX11_digits 29 = .ok (.aload_n 0, 1) := by decide +kernel
theorem dX11_digits_30 : decode cX11_digits 30 = .ok (.getfield 161, 3) := by decide +kernel
theorem dX11_digits_33 : decode cX11_digits 33 = .ok (.caload, 1) := by decide +kernel
theorem dX11_digits_34 : decode cX11_digits 34 = .ok (.bipush 48, 2) := by decide +kernel
theorem dX11_digits_36 : decode cX11_digits 36 = .ok (.bipush 57, 2) := by decide +kernel
theorem dX11_digits_38 : decode cX11_digits 38 = .ok (.invokestatic 58, 3) := by decide +kernel
theorem dX11_digits_41 : decode cX11_digits 41 = .ok (.ifCond .eq 44, 3) := by decide +kernel
theorem dX11_digits_44 : decode cX11_digits 44 = .ok (.aload_n 0, 1) := by decide +kernel
theorem dX11_digits_45 : decode cX11_digits 45 = .ok (.getfield 32, 3) := by decide +kernel
theorem dX11_digits_48 : decode cX11_digits 48 = .ok (.iload_n 1, 1) := by decide +kernel
theorem dX11_digits_49 : decode cX11_digits 49 = .ok (.bipush 10, 2) := by decide +kernel
theorem dX11_digits_51 : decode cX11_digits 51 = .ok (.aload_n 0, 1) := by decide +kernel
theorem dX11_digits_52 : decode cX11_digits 52 = .ok (.getfield 32, 3) := by decide +kernel
theorem dX11_digits_55 : decode cX11_digits 55 = .ok (.iload_n 1, 1) := by decide +kernel
theorem dX11_digits_56 : decode cX11_digits 56 = .ok (.iaload, 1) := by decide +kernel
theorem dX11_digits_57 : decode cX11_digits 57 = .ok (.imul, 1) := by decide +kernel
theorem dX11_digits_58 : decode cX11_digits 58 = .ok (.aload_n 0, 1) := by decide +kernel
theorem dX11_digits_59 : decode cX11_digits 59 = .ok (.getfield 28, 3) := by decide +kernel
theorem dX11_digits_62 : decode cX11_digits 62 = .ok (.aload_n 0, 1) := by decide +kernel
theorem dX11_digits_63 : decode cX11_digits 63 = .ok (.dup, 1) := by decide +kernel
theorem dX11_digits_64 : decode cX11_digits 64 = .ok (.getfield 161, 3) := by decide +kernel
theorem dX11_digits_67 : decode cX11_digits 67 = .ok (.dup_x1, 1) := by decide +kernel
theorem dX11_digits_68 : decode cX11_digits 68 = .ok (.iconst 1, 1) := by decide +kernel
theorem dX11_digits_69 : decode cX11_digits 69 = .ok (.iadd, 1) := by decide +kernel
theorem dX11_digits_70 : decode cX11_digits 70 = .ok (.putfield 161, 3) := by decide +kernel
theorem dX11_digits_73 : decode cX11_digits 73 = .ok (.caload, 1) := by decide +kernel
theorem dX11_digits_74 : decode cX11_digits 74 = .ok (.iadd, 1) := by decide +kernel
theorem dX11_digits_75 : decode cX11_digits 75 = .ok (.bipush 48, 2) := by decide +kernel
theorem dX11_digits_77 : decode cX11_digits 77 = .ok (.isub, 1) := by decide +kernel
theorem dX11_digits_78 : decode cX11_digits 78 = .ok (.iastore, 1) := by decide +kernel
theorem dX11_digits_79 : decode cX11_digits 79 = .ok (.iinc 3 1, 3) := by decide +kernel
theorem dX11_digits_82 : decode cX11_digits 82 = .ok (.goto (-73), 3) := by decide +kernel
theorem dX11_digits_85 : decode cX11_digits 85 = .ok (.iload_n 3, 1) := by decide +kernel
theorem dX11_digits_86 : decode cX11_digits 86 = .ok (.ifCond .le 7, 3) := by decide +kernel
theorem dX11_digits_89 : decode cX11_digits 89 = .ok (.iconst 1, 1) := by decide +kernel
theorem dX11_digits_90 : decode cX11_digits 90 = .ok (.goto 4, 3) := by decide +kernel
theorem dX11_digits_93 : decode cX11_digits 93 = .ok (.iconst 0, 1) := by decide +kernel
theorem dX11_digits_94 : decode cX11_digits 94 = .ok (.ireturn, 1) := by decide +kernel
theorem dX11_isOrder_0 : decode cX11_isOrder 0 = .ok (.aload_n 0, 1) := by decide +kernel
theorem dX11_isOrder_1 : decode cX11_isOrder 1 = .ok (.getfield 161, 3) := by decide +kernel
theorem dX11_isOrder_4 : decode cX11_isOrder 4 = .ok (.aload_n 0, 1) := by decide +kernel
theorem dX11_isOrder_5 : decode cX11_isOrder 5 = .ok (.getfield 62, 3) := by decide +kernel
theorem dX11_isOrder_8 : decode cX11_isOrder 8 = .ok (.if_icmp .ne 5, 3) := by decide +kernel
theorem dX11_isOrder_11 : decode cX11_isOrder 11 = .ok (.iconst 0, 1) := by decide +kernel
theorem dX11_isOrder_12 : decode cX11_isOrder 12 = .ok (.ireturn, 1) := by decide +kernel
theorem dX11_isOrder_13 : decode cX11_isOrder 13 = .ok (.aload_n 0, 1) := by decide +kernel
theorem dX11_isOrder_14 : decode cX11_isOrder 14 = .ok (.aload_n 0, 1) := by decide +kernel
theorem dX11_isOrder_15 : decode cX11_isOrder 15 = .ok (.getfield 28, 3) := by decide +kernel
theorem dX11_isOrder_18 : decode cX11_isOrder 18 = .ok (.aload_n 0, 1) := by decide +kernel
theorem dX11_isOrder_19 : decode cX11_isOrder 19 = .ok (.getfield 161, 3) := by decide +kernel
theorem dX11_isOrder_22 : decode cX11_isOrder 22 = .ok (.caload, 1) := by decide +kernel
theorem dX11_isOrder_23 : decode cX11_isOrder 23 = .ok (.putfield 164, 3) := by decide +kernel
theorem dX11_isOrder_26 : decode cX11_isOrder 26 = .ok (.aload_n 0, 1) := by decide +kernel
theorem dX11_isOrder_27 : decode cX11_isOrder 27 = .ok (.getfield 164, 3) := by decide +kernel
theorem dX11_isOrder_30 : decode cX11_isOrder 30 = .ok (.tableswitch 275 98 117 #[94, 275, 155, 275, 275, 258, 275, 172, 275, 275, 215, 275, 258, 275, 275, 275, 275, 275, 155, 172], 94) := by decide +kernel
theorem dX11_isOrder_124 : decode cX11_isOrder 124 = .ok (.aload_n 0, 1) := by decide +kernel
theorem dX11_isOrder_125 : decode cX11_isOrder 125 = .ok (.dup, 1) := by decide +kernel
theorem dX11_isOrder_126 : decode cX11_isOrder 126 = .ok (.getfield 161, 3) := by decide +kernel
theorem dX11_isOrder_129 : decode cX11_isOrder 129 = .ok (.iconst 1, 1) := by decide +kernel
theorem dX11_isOrder_130 : decode cX11_isOrder 130 = .ok (.iadd, 1) := by decide +kernel
theorem dX11_isOrder_131 : decode cX11_isOrder 131 = .ok (.putfield 161, 3) := by decide +kernel
theorem dX11_isOrder_134 : decode cX11_isOrder 134 = .ok (.aload_n 0, 1) := by decide +kernel
theorem dX11_isOrder_135 : decode cX11_isOrder 135 = .ok (.iconst 0, 1) := by decide +kernel
theorem dX11_isOrder_136 : decode cX11_isOrder 136 = .ok (.iconst 1, 1) := by decide +kernel
theorem dX11_isOrder_137 : decode cX11_isOrder 137 = .ok (.invokevirtual 168, 3) := by decide +kernel
theorem dX11_isOrder_140 : decode cX11_isOrder 140 = .ok (.ifCond .eq 43, 3) := by decide +kernel
theorem dX11_isOrder_143 : decode cX11_isOrder 143 = .ok (.aload_n 0, 1) := by decide +kernel
theorem dX11_isOrder_144 : decode cX11_isOrder 144 = .ok (.bipush 42, 2) := by decide +kernel
theorem dX11_isOrder_146 : decode cX11_isOrder 146 = .ok (.invokevirtual 172, 3) := by decide +kernel
theorem dX11_isOrder_149 : decode cX11_isOrder 149 = .ok (.ifCond .eq 34, 3) := by decide +kernel
theorem dX11_isOrder_152 : decode cX11_isOrder 152 = .ok (.aload_n 0, 1) := by decide +kernel
theorem dX11_isOrder_153 : decode cX11_isOrder 153 = .ok (.iconst 1, 1) := by decide +kernel
theorem dX11_isOrder_154 : decode cX11_isOrder 154 = .ok (.iconst 1, 1) := by decide +kernel
theorem dX11_isOrder_155 : decode cX11_isOrder 155 = .ok (.invokevirtual 168, 3) := by decide +kernel
theorem dX11_isOrder_158 : decode cX11_isOrder 158 = .ok (.ifCond .eq 25, 3) := by decide +kernel
theorem dX11_isOrder_161 : decode cX11_isOrder 161 = .ok (.aload_n 0, 1) := by decide +kernel
theorem dX11_isOrder_162 : decode cX11_isOrder 162 = .ok (.bipush 58, 2) := by decide +kernel
theorem dX11_isOrder_164 : decode cX11_isOrder 164 = .ok (.invokevirtual 172, 3) := by decide +kernel
theorem dX11_isOrder_167 : decode cX11_isOrder 167 = .ok (.ifCond .eq 16, 3) := by decide +kernel
theorem dX11_isOrder_170 : decode cX11_isOrder 170 = .ok (.aload_n 0, 1) := by decide +kernel
theorem dX11_isOrder_171 : decode cX11_isOrder 171 = .ok (.iconst 2, 1) := by decide +kernel
theorem dX11_isOrder_172 : decode cX11_isOrder 172 = .ok (.iconst 2, 1) := by decide +kernel
theorem dX11_isOrder_173 : decode cX11_isOrder 173 = .ok (.invokevirtual 168, 3) := by decide +kernel
theorem dX11_isOrder_176 : decode cX11_isOrder 176 = .ok (.ifCond .eq 7, 3) := by decide +kernel
theorem dX11_isOrder_179 : decode cX11_isOrder 179 = .ok (.iconst 1, 1) := by decide +kernel
theorem dX11_isOrder_180 : decode cX11_isOrder 180 = .ok (.goto 4, 3) := by decide +kernel
theorem dX11_isOrder_183 : decode cX11_isOrder 183 = .ok (.iconst 0, 1) := by decide +kernel
theorem dX11_isOrder_184 : decode cX11_isOrder 184 = .ok (.ireturn, 1) := by decide +kernel
theorem dX11_isOrder_185 : decode cX11_isOrder 185 = .ok (.aload_n 0, 1) := by decide +kernel
theorem dX11_isOrder_186 : decode cX11_isOrder 186 = .ok (.dup, 1) := by decide +kernel
theorem dX11_isOrder_187 : decode cX11_isOrder 187 = .ok (.getfield 161, 3) := by decide +kernel
theorem dX11_isOrder_190 : decode cX11_isOrder 190 = .ok (.iconst 1, 1) := by decide +kernel
theorem dX11_isOrder_191 : decode cX11_isOrder 191 = .ok (.iadd, 1) := by decide +kernel
theorem dX11_isOrder_192 : decode cX11_isOrder 192 = .ok (.putfield 161, 3) := by decide +kernel
theorem dX11_isOrder_195 : decode cX11_isOrder 195 = .ok (.aload_n 0, 1) := by decide +kernel
theorem dX11_isOrder_196 : decode cX11_isOrder 196 = .ok (.iconst 0, 1) := by decide +kernel
theorem dX11_isOrder_197 : decode cX11_isOrder 197 = .ok (.iconst 1, 1) := by decide +kernel
theorem dX11_isOrder_198 : decode cX11_isOrder 198 = .ok (.invokevirtual 168, 3) := by decide +kernel
theorem dX11_isOrder_201 : decode cX11_isOrder 201 = .ok (.ireturn, 1) := by decide +kernel
theorem dX11_isOrder_202 : decode cX11_isOrder 202 = .ok (.aload_n 0, 1) := by decide +kernel
theorem dX11_isOrder_203 : decode cX11_isOrder 203 = .ok (.dup, 1) := by decide +kernel
theorem dX11_isOrder_204 : decode cX11_isOrder 204 = .ok (.getfield 161, 3) := by decide +kernel
theorem dX11_isOrder_207 : decode cX11_isOrder 207 = .ok (.iconst 1, 1) := by decide +kernel
theorem dX11_isOrder_208 : decode cX11_isOrder 208 = .ok (.iadd, 1) := by decide +kernel
theorem dX11_isOrder_209 : decode cX11_isOrder 209 = .ok (.putfield 161, 3) := by decide +kernel
theorem dX11_isOrder_212 : decode cX11_isOrder 212 = .ok (.aload_n 0, 1) := by decide +kernel
theorem dX11_isOrder_213 : decode cX11_isOrder 213 = .ok (.iconst 0, 1) := by decide +kernel
theorem dX11_isOrder_214 : decode cX11_isOrder 214 = .ok (.iconst 1, 1) := by decide +kernel
theorem dX11_isOrder_215 : decode cX11_isOrder 215 = .ok (.invokevirtual 168, 3) := by decide +kernel
theorem dX11_isOrder_218 : decode cX11_isOrder 218 = .ok (.ifCond .eq 25, 3) := by decide +kernel
theorem dX11_isOrder_221 : decode cX11_isOrder 221 = .ok (.aload_n 0, 1) := by decide +kernel
theorem dX11_isOrder_222 : decode cX11_isOrder 222 = .ok (.bipush 64, 2) := by decide +kernel
theorem dX11_isOrder_224 : decode cX11_isOrder 224 = .ok (.invokevirtual 172, 3) := by decide +kernel
theorem dX11_isOrder_227 : decode cX11_isOrder 227 = .ok (.ifCond .eq 16, 3) := by decide +kernel
theorem dX11_isOrder_230 : decode cX11_isOrder 230 = .ok (.aload_n 0, 1) := by decide +kernel
theorem dX11_isOrder_231 : decode cX11_isOrder 231 = .ok (.iconst 1, 1) := by decide +kernel
theorem dX11_isOrder_232 : decode cX11_isOrder 232 = .ok (.iconst 1, 1) := by decide +kernel
theorem dX11_isOrder_233 : decode cX11_isOrder 233 = .ok (.invokevirtual 168, 3) := by decide +kernel
theorem dX11_isOrder_236 : decode cX11_isOrder 236 = .ok (.ifCond .eq 7, 3) := by decide +kernel
theorem dX11_isOrder_239 : decode cX11_isOrder 239 = .ok (.iconst 1, 1) := by decide +kernel
theorem dX11_isOrder_240 : decode cX11_isOrder 240 = .ok (.goto 4, 3) := by decide +kernel
theorem dX11_isOrder_243 : decode cX11_isOrder 243 = .ok (.iconst 0, 1) := by decide +kernel
theorem dX11_isOrder_244 : decode cX11_isOrder 244 = .ok (.ireturn, 1) := by decide +kernel
theorem dX11_isOrder_245 : decode cX11_isOrder 245 = .ok (.aload_n 0, 1) := by decide +kernel
theorem dX11_isOrder_246 : decode cX11_isOrder 246 = .ok (.dup, 1) := by decide +kernel
theorem dX11_isOrder_247 : decode cX11_isOrder 247 = .ok (.getfield 161, 3) := by decide +kernel
theorem dX11_isOrder_250 : decode cX11_isOrder 250 = .ok (.iconst 1, 1) := by decide +kernel
theorem dX11_isOrder_251 : decode cX11_isOrder 251 = .ok (.iadd, 1) := by decide +kernel
theorem dX11_isOrder_252 : decode cX11_isOrder 252 = .ok (.putfield 161, 3) := by decide +kernel
theorem dX11_isOrder_255 : decode cX11_isOrder 255 = .ok (.aload_n 0, 1) := by decide +kernel
theorem dX11_isOrder_256 : decode cX11_isOrder 256 = .ok (.iconst 0, 1) := by decide +kernel
theorem dX11_isOrder_257 : decode cX11_isOrder 257 = .ok (.iconst 1, 1) := by decide +kernel
theorem dX11_isOrder_258 : decode cX11_isOrder 258 = .ok (.invokevirtual 168, 3) := by decide +kernel
theorem dX11_isOrder_261 : decode cX11_isOrder 261 = .ok (.ifCond .eq 25, 3) := by decide +kernel
theorem dX11_isOrder_264 : decode cX11_isOrder 264 = .ok (.aload_n 0, 1) := by decide +kernel
theorem dX11_isOrder_265 : decode cX11_isOrder 265 = .ok (.bipush 42, 2) := by decide +kernel
theorem dX11_isOrder_267 : decode cX11_isOrder 267 = .ok (.invokevirtual 172, 3) := by decide +kernel
theorem dX11_isOrder_270 : decode cX11_isOrder 270 = .ok (.ifCond .eq 16, 3) := by decide +kernel
theorem dX11_isOrder_273 : decode cX11_isOrder 273 = .ok (.aload_n 0, 1) := by decide +kernel
theorem dX11_isOrder_274 : decode cX11_isOrder 274 = .ok (.iconst 1, 1) := by decide +kernel
theorem dX11_isOrder_275 : decode cX11_isOrder 275 = .ok (.iconst 1, 1) := by decide +kernel
theorem dX11_isOrder_276 : decode cX11_isOrder 276 = .ok (.invokevirtual 168, 3) := by decide +kernel
theorem dX11_isOrder_279 : decode cX11_isOrder 279 = .ok (.ifCond .eq 7, 3) := by decide +kernel
theorem dX11_isOrder_282 : decode cX11_isOrder 282 = .ok (.iconst 1, 1) := by decide +kernel
theorem dX11_isOrder_283 : decode cX11_isOrder 283 = .ok (.goto 4, 3) := by decide +kernel
theorem dX11_isOrder_286 : decode cX11_isOrder 286 = .ok (.iconst 0, 1) := by decide +kernel
theorem dX11_isOrder_287 : decode cX11_isOrder 287 = .ok (.ireturn, 1) := by decide +kernel
theorem dX11_isOrder_288 : decode cX11_isOrder 288 = .ok (.aload_n 0, 1) := by decide +kernel
theorem dX11_isOrder_289 : decode cX11_isOrder 289 = .ok (.dup, 1) := by decide +kernel
theorem dX11_isOrder_290 : decode cX11_isOrder 290 = .ok (.getfield 161, 3) := by decide +kernel
theorem dX11_isOrder_293 : decode cX11_isOrder 293 = .ok (.iconst 1, 1) := by decide +kernel
theorem dX11_isOrder_294 : decode cX11_isOrder 294 = .ok (.iadd, 1) := by decide +kernel
theorem dX11_isOrder_295 : decode cX11_isOrder 295 = .ok (.putfield 161, 3) := by decide +kernel
theorem dX11_isOrder_298 : decode cX11_isOrder 298 = .ok (.aload_n 0, 1) := by decide +kernel
theorem dX11_isOrder_299 : decode cX11_isOrder 299 = .ok (.iconst 0, 1) := by decide +kernel
theorem dX11_isOrder_300 : decode cX11_isOrder 300 = .ok (.iconst 2, 1) := by decide +kernel
theorem dX11_isOrder_301 : decode cX11_isOrder 301 = .ok (.invokevirtual 168, 3) := by decide +kernel
theorem dX11_isOrder_304 : decode cX11_isOrder 304 = .ok (.ireturn, 1) := by decide +kernel
theorem dX11_isOrder_305 : decode cX11_isOrder 305 = .ok (.iconst 0, 1) := by decide +kernel
theorem dX11_isOrder_306 : decode cX11_isOrder 306 = .ok (.ireturn, 1) := by decide +kernel
theorem dX11_carries_0 : decode cX11_carries 0 = .ok (.aload_n 0, 1) := by decide +kernel
theorem dX11_carries_1 : decode cX11_carries 1 = .ok (.getfield 164, 3) := by decide +kernel
theorem dX11_carries_4 : decode cX11_carries 4 = .ok (.tableswitch 203 98 117 #[96, 203, 147, 203, 203, 175, 203, 186, 203, 203, 158, 203, 203, 203, 203, 203, 203, 203, 119, 130], 96) := by decide +kernel
theorem dX11_carries_100 : decode cX11_carries 100 = .ok (.aload_n 0, 1) := by decide +kernel
theorem dX11_carries_101 : decode cX11_carries 101 = .ok (.aload_n 0, 1) := by decide +kernel
theorem dX11_carries_102 : decode cX11_carries 102 = .ok (.getfield 32, 3) := by decide +kernel
theorem dX11_carries_105 : decode cX11_carries 105 = .ok (.iconst 0, 1) := by decide +kernel
theorem dX11_carries_106 : decode cX11_carries 106 = .ok (.iaload, 1) := by decide +kernel
theorem dX11_carries_107 : decode cX11_carries 107 = .ok (.aload_n 0, 1) := by decide +kernel
theorem dX11_carries_108 : decode cX11_carries 108 = .ok (.getfield 32, 3) := by decide +kernel
theorem dX11_carries_111 : decode cX11_carries 111 = .ok (.iconst 1, 1) := by decide +kernel
theorem dX11_carries_112 : decode cX11_carries 112 = .ok (.iaload, 1) := by decide +kernel
theorem dX11_carries_113 : decode cX11_carries 113 = .ok (.aload_n 0, 1) := by decide +kernel
theorem dX11_carries_114 : decode cX11_carries 114 = .ok (.getfield 32, 3) := by decide +kernel
theorem dX11_carries_117 : decode cX11_carries 117 = .ok (.iconst 2, 1) := by decide +kernel
theorem dX11_carries_118 : decode cX11_carries 118 = .ok (.iaload, 1) := by decide +kernel
theorem dX11_carries_119 : decode cX11_carries 119 = .ok (.invokevirtual 88, 3) := by decide +kernel
theorem dX11_carries_122 : decode cX11_carries 122 = .ok (.ireturn, 1) := by decide +kernel
theorem dX11_carries_123 : decode cX11_carries 123 = .ok (.aload_n 0, 1) := by decide +kernel
theorem dX11_carries_124 : decode cX11_carries 124 = .ok (.aload_n 0, 1) := by decide +kernel
theorem dX11_carries_125 : decode cX11_carries 125 = .ok (.getfield 32, 3) := by decide +kernel
theorem dX11_carries_128 : decode cX11_carries 128 = .ok (.iconst 0, 1) := by decide +kernel
theorem dX11_carries_129 : decode cX11_carries 129 = .ok (.iaload, 1) := by decide +kernel
theorem dX11_carries_130 : decode cX11_carries 130 = .ok (.invokevirtual 101, 3) := by decide +kernel
theorem dX11_carries_133 : decode cX11_carries 133 = .ok (.ireturn, 1) := by decide +kernel
theorem dX11_carries_134 : decode cX11_carries 134 = .ok (.aload_n 0, 1) := by decide +kernel
theorem dX11_carries_135 : decode cX11_carries 135 = .ok (.aload_n 0, 1) := by decide +kernel
theorem dX11_carries_136 : decode cX11_carries 136 = .ok (.getfield 32, 3) := by decide +kernel
theorem dX11_carries_139 : decode cX11_carries 139 = .ok (.iconst 0, 1) := by decide +kernel
theorem dX11_carries_140 : decode cX11_carries 140 = .ok (.iaload, 1) := by decide +kernel
theorem dX11_carries_141 : decode cX11_carries 141 = .ok (.aload_n 0, 1) := by decide +kernel
theorem dX11_carries_142 : decode cX11_carries 142 = .ok (.getfield 32, 3) := by decide +kernel
theorem dX11_carries_145 : decode cX11_carries 145 = .ok (.iconst 1, 1) := by decide +kernel
theorem dX11_carries_146 : decode cX11_carries 146 = .ok (.iaload, 1) := by decide +kernel
theorem dX11_carries_147 : decode cX11_carries 147 = .ok (.invokevirtual 124, 3) := by decide +kernel
theorem dX11_carries_150 : decode cX11_carries 150 = .ok (.ireturn, 1) := by decide +kernel
theorem dX11_carries_151 : decode cX11_carries 151 = .ok (.aload_n 0, 1) := by decide +kernel
theorem dX11_carries_152 : decode cX11_carries 152 = .ok (.aload_n 0, 1) := by decide +kernel
theorem dX11_carries_153 : decode cX11_carries 153 = .ok (.getfield 32, 3) := by decide +kernel
theorem dX11_carries_156 : decode cX11_carries 156 = .ok (.iconst 0, 1) := by decide +kernel
theorem dX11_carries_157 : decode cX11_carries 157 = .ok (.iaload, 1) := by decide +kernel
theorem dX11_carries_158 : decode cX11_carries 158 = .ok (.invokevirtual 127, 3) := by decide +kernel
theorem dX11_carries_161 : decode cX11_carries 161 = .ok (.ireturn, 1) := by decide +kernel
theorem dX11_carries_162 : decode cX11_carries 162 = .ok (.aload_n 0, 1) := by decide +kernel
theorem dX11_carries_163 : decode cX11_carries 163 = .ok (.aload_n 0, 1) := by decide +kernel
theorem dX11_carries_164 : decode cX11_carries 164 = .ok (.getfield 32, 3) := by decide +kernel
theorem dX11_carries_167 : decode cX11_carries 167 = .ok (.iconst 0, 1) := by decide +kernel
theorem dX11_carries_168 : decode cX11_carries 168 = .ok (.iaload, 1) := by decide +kernel
theorem dX11_carries_169 : decode cX11_carries 169 = .ok (.aload_n 0, 1) := by decide +kernel
theorem dX11_carries_170 : decode cX11_carries 170 = .ok (.getfield 32, 3) := by decide +kernel
theorem dX11_carries_173 : decode cX11_carries 173 = .ok (.iconst 1, 1) := by decide +kernel
theorem dX11_carries_174 : decode cX11_carries 174 = .ok (.iaload, 1) := by decide +kernel
theorem dX11_carries_175 : decode cX11_carries 175 = .ok (.invokevirtual 130, 3) := by decide +kernel
theorem dX11_carries_178 : decode cX11_carries 178 = .ok (.ireturn, 1) := by decide +kernel
theorem dX11_carries_179 : decode cX11_carries 179 = .ok (.aload_n 0, 1) := by decide +kernel
theorem dX11_carries_180 : decode cX11_carries 180 = .ok (.aload_n 0, 1) := by decide +kernel
theorem dX11_carries_181 : decode cX11_carries 181 = .ok (.getfield 32, 3) := by decide +kernel
theorem dX11_carries_184 : decode cX11_carries 184 = .ok (.iconst 0, 1) := by decide +kernel
theorem dX11_carries_185 : decode cX11_carries 185 = .ok (.iaload, 1) := by decide +kernel
theorem dX11_carries_186 : decode cX11_carries 186 = .ok (.invokevirtual 133, 3) := by decide +kernel
theorem dX11_carries_189 : decode cX11_carries 189 = .ok (.ireturn, 1) := by decide +kernel
theorem dX11_carries_190 : decode cX11_carries 190 = .ok (.aload_n 0, 1) := by decide +kernel
theorem dX11_carries_191 : decode cX11_carries 191 = .ok (.aload_n 0, 1) := by decide +kernel
theorem dX11_carries_192 : decode cX11_carries 192 = .ok (.getfield 32, 3) := by decide +kernel
theorem dX11_carries_195 : decode cX11_carries 195 = .ok (.iconst 0, 1) := by decide +kernel
theorem dX11_carries_196 : decode cX11_carries 196 = .ok (.iaload, 1) := by decide +kernel
theorem dX11_carries_197 : decode cX11_carries 197 = .ok (.aload_n 0, 1) := by decide +kernel
theorem dX11_carries_198 : decode cX11_carries 198 = .ok (.getfield 32, 3) := by decide +kernel
theorem dX11_carries_201 : decode cX11_carries 201 = .ok (.iconst 1, 1) := by decide +kernel
theorem dX11_carries_202 : decode cX11_carries 202 = .ok (.iaload, 1) := by decide +kernel
theorem dX11_carries_203 : decode cX11_carries 203 = .ok (.invokevirtual 139, 3) := by decide +kernel
theorem dX11_carries_206 : decode cX11_carries 206 = .ok (.ireturn, 1) := by decide +kernel
theorem dX11_carries_207 : decode cX11_carries 207 = .ok (.aload_n 0, 1) := by decide +kernel
theorem dX11_carries_208 : decode cX11_carries 208 = .ok (.aload_n 0, 1) := by decide +kernel
theorem dX11_carries_209 : decode cX11_carries 209 = .ok (.getfield 32, 3) := by decide +kernel
theorem dX11_carries_212 : decode cX11_carries 212 = .ok (.iconst 0, 1) := by decide +kernel
theorem dX11_carries_213 : decode cX11_carries 213 = .ok (.iaload, 1) := by decide +kernel
theorem dX11_carries_214 : decode cX11_carries 214 = .ok (.invokevirtual 158, 3) := by decide +kernel
theorem dX11_carries_217 : decode cX11_carries 217 = .ok (.ireturn, 1) := by decide +kernel
theorem dX11_script_0 : decode cX11_script 0 = .ok (.aload_n 0, 1) := by decide +kernel
theorem dX11_script_1 : decode cX11_script 1 = .ok (.invokevirtual 65, 3) := by decide +kernel
theorem dX11_script_4 : decode cX11_script 4 = .ok (.aload_n 0, 1) := by decide +kernel
theorem dX11_script_5 : decode cX11_script 5 = .ok (.iconst 0, 1) := by decide +kernel
theorem dX11_script_6 : decode cX11_script 6 = .ok (.putfield 161, 3) := by decide +kernel
theorem dX11_script_9 : decode cX11_script 9 = .ok (.aload_n 0, 1) := by decide +kernel
theorem dX11_script_10 : decode cX11_script 10 = .ok (.invokevirtual 176, 3) := by decide +kernel
theorem dX11_script_13 : decode cX11_script 13 = .ok (.istore_n 1, 1) := by decide +kernel
theorem dX11_script_14 : decode cX11_script 14 = .ok (.iload_n 1, 1) := by decide +kernel
theorem dX11_script_15 : decode cX11_script 15 = .ok (.ifCond .eq 39, 3) := by decide +kernel
theorem dX11_script_18 : decode cX11_script 18 = .ok (.aload_n 0, 1) := by decide +kernel
theorem dX11_script_19 : decode cX11_script 19 = .ok (.getfield 161, 3) := by decide +kernel
theorem dX11_script_22 : decode cX11_script 22 = .ok (.aload_n 0, 1) := by decide +kernel
theorem dX11_script_23 : decode cX11_script 23 = .ok (.getfield 62, 3) := by decide +kernel
theorem dX11_script_26 : decode cX11_script 26 = .ok (.if_icmp .ge 28, 3) := by decide +kernel
theorem dX11_script_29 : decode cX11_script 29 = .ok (.aload_n 0, 1) := by decide +kernel
theorem dX11_script_30 : decode cX11_script 30 = .ok (.bipush 59, 2) := by decide +kernel
theorem dX11_script_32 : decode cX11_script 32 = .ok (.invokevirtual 172, 3) := by decide +kernel
theorem dX11_script_35 : decode cX11_script 35 = .ok (.ifCond .eq 14, 3) := by decide +kernel
theorem dX11_script_38 : decode cX11_script 38 = .ok (.aload_n 0, 1) := by decide +kernel
theorem dX11_script_39 : decode cX11_script 39 = .ok (.invokevirtual 176, 3) := by decide +kernel
theorem dX11_script_42 : decode cX11_script 42 = .ok (.ifCond .eq 7, 3) := by decide +kernel
theorem dX11_script_45 : decode cX11_script 45 = .ok (.iconst 1, 1) := by decide +kernel
theorem dX11_script_46 : decode cX11_script 46 = .ok (.goto 4, 3) := by decide +kernel
theorem dX11_script_49 : decode cX11_script 49 = .ok (.iconst 0, 1) := by decide +kernel
theorem dX11_script_50 : decode cX11_script 50 = .ok (.istore_n 1, 1) := by decide +kernel
theorem dX11_script_51 : decode cX11_script 51 = .ok (.goto (-37), 3) := by decide +kernel
theorem dX11_script_54 : decode cX11_script 54 = .ok (.iload_n 1, 1) := by decide +kernel
theorem dX11_script_55 : decode cX11_script 55 = .ok (.ifCond .ne 19, 3) := by decide +kernel
theorem dX11_script_58 : decode cX11_script 58 = .ok (.aload_n 0, 1) := by decide +kernel
theorem dX11_script_59 : decode cX11_script 59 = .ok (.iconst 0, 1) := by decide +kernel
theorem dX11_script_60 : decode cX11_script 60 = .ok (.putfield 62, 3) := by decide +kernel
theorem dX11_script_63 : decode cX11_script 63 = .ok (.aload_n 0, 1) := by decide +kernel
theorem dX11_script_64 : decode cX11_script 64 = .ok (.aload_n 0, 1) := by decide +kernel
theorem dX11_script_65 : decode cX11_script 65 = .ok (.getfield 161, 3) := by decide +kernel
theorem dX11_script_68 : decode cX11_script 68 = .ok (.putfield 35, 3) := by decide +kernel
theorem dX11_script_71 : decode cX11_script 71 = .ok (.bipush (-2), 2) := by decide +kernel
theorem dX11_script_73 : decode cX11_script 73 = .ok (.ireturn, 1) := by decide +kernel
theorem dX11_script_74 : decode cX11_script 74 = .ok (.aload_n 0, 1) := by decide +kernel
theorem dX11_script_75 : decode cX11_script 75 = .ok (.iconst 0, 1) := by decide +kernel
theorem dX11_script_76 : decode cX11_script 76 = .ok (.putfield 161, 3) := by decide +kernel
theorem dX11_script_79 : decode cX11_script 79 = .ok (.iconst 0, 1) := by decide +kernel
theorem dX11_script_80 : decode cX11_script 80 = .ok (.istore_n 2, 1) := by decide +kernel
theorem dX11_script_81 : decode cX11_script 81 = .ok (.iconst 0, 1) := by decide +kernel
theorem dX11_script_82 : decode cX11_script 82 = .ok (.istore_n 3, 1) := by decide +kernel
theorem dX11_script_83 : decode cX11_script 83 = .ok (.iconst 1, 1) := by decide +kernel
theorem dX11_script_84 : decode cX11_script 84 = .ok (.istore 4, 2) := by decide +kernel
theorem dX11_script_86 : decode cX11_script 86 = .ok (.iload 4, 2) := by decide +kernel
theorem dX11_script_88 : decode cX11_script 88 = .ok (.ifCond .eq 43, 3) := by decide +kernel
theorem dX11_script_91 : decode cX11_script 91 = .ok (.aload_n 0, 1) := by decide +kernel
theorem dX11_script_92 : decode cX11_script 92 = .ok (.invokevirtual 176, 3) := by decide +kernel
theorem dX11_script_95 : decode cX11_script 95 = .ok (.istore_n 1, 1) := by decide +kernel
theorem dX11_script_96 : decode cX11_script 96 = .ok (.aload_n 0, 1) := by decide +kernel
theorem dX11_script_97 : decode cX11_script 97 = .ok (.invokevirtual 180, 3) := by decide +kernel
theorem dX11_script_100 : decode cX11_script 100 = .ok (.istore_n 3, 1) := by decide +kernel
theorem dX11_script_101 : decode cX11_script 101 = .ok (.iload_n 3, 1) := by decide +kernel
theorem dX11_script_102 : decode cX11_script 102 = .ok (.ifCond .ne 6, 3) := by decide +kernel
theorem dX11_script_105 : decode cX11_script 105 = .ok (.iinc 2 1, 3) := by decide +kernel
theorem dX11_script_108 : decode cX11_script 108 = .ok (.iload_n 3, 1) := by decide +kernel
theorem dX11_script_109 : decode cX11_script 109 = .ok (.ifCond .ne 16, 3) := by decide +kernel
theorem dX11_script_112 : decode cX11_script 112 = .ok (.aload_n 0, 1) := by decide +kernel
theorem dX11_script_113 : decode cX11_script 113 = .ok (.bipush 59, 2) := by decide +kernel
theorem dX11_script_115 : decode cX11_script 115 = .ok (.invokevirtual 172, 3) := by decide +kernel
theorem dX11_script_118 : decode cX11_script 118 = .ok (.ifCond .eq 7, 3) := by decide +kernel
theorem dX11_script_121 : decode cX11_script 121 = .ok (.iconst 1, 1) := by decide +kernel
theorem dX11_script_122 : decode cX11_script 122 = .ok (.goto 4, 3) := by decide +kernel
theorem dX11_script_125 : decode cX11_script 125 = .ok (.iconst 0, 1) := by decide +kernel
theorem dX11_script_126 : decode cX11_script 126 = .ok (.istore 4, 2) := by decide +kernel
theorem dX11_script_128 : decode cX11_script 128 = .ok (.goto (-42), 3) := by decide +kernel
theorem dX11_script_131 : decode cX11_script 131 = .ok (.aload_n 0, 1) := by decide +kernel
theorem dX11_script_132 : decode cX11_script 132 = .ok (.iconst 0, 1) := by decide +kernel
theorem dX11_script_133 : decode cX11_script 133 = .ok (.putfield 62, 3) := by decide +kernel
theorem dX11_script_136 : decode cX11_script 136 = .ok (.iload_n 3, 1) := by decide +kernel
theorem dX11_script_137 : decode cX11_script 137 = .ok (.ifCond .ne 9, 3) := by decide +kernel
theorem dX11_script_140 : decode cX11_script 140 = .ok (.aload_n 0, 1) := by decide +kernel
theorem dX11_script_141 : decode cX11_script 141 = .ok (.iload_n 2, 1) := by decide +kernel
theorem dX11_script_142 : decode cX11_script 142 = .ok (.invokevirtual 54, 3) := by decide +kernel
theorem dX11_script_145 : decode cX11_script 145 = .ok (.ireturn, 1) := by decide +kernel
theorem dX11_script_146 : decode cX11_script 146 = .ok (.aload_n 0, 1) := by decide +kernel
theorem dX11_script_147 : decode cX11_script 147 = .ok (.invokevirtual 183, 3) := by decide +kernel
theorem dX11_script_150 : decode cX11_script 150 = .ok (.iload_n 3, 1) := by decide +kernel
theorem dX11_script_151 : decode cX11_script 151 = .ok (.bipush (-3), 2) := by decide +kernel
theorem dX11_script_153 : decode cX11_script 153 = .ok (.if_icmp .ne 13, 3) := by decide +kernel
theorem dX11_script_156 : decode cX11_script 156 = .ok (.aload_n 0, 1) := by decide +kernel
theorem dX11_script_157 : decode cX11_script 157 = .ok (.bipush 12, 2) := by decide +kernel
theorem dX11_script_159 : decode cX11_script 159 = .ok (.iload_n 2, 1) := by decide +kernel
theorem dX11_script_160 : decode cX11_script 160 = .ok (.invokevirtual 113, 3) := by decide +kernel
theorem dX11_script_163 : decode cX11_script 163 = .ok (.goto 10, 3) := by decide +kernel
theorem dX11_script_166 : decode cX11_script 166 = .ok (.aload_n 0, 1) := by decide +kernel
theorem dX11_script_167 : decode cX11_script 167 = .ok (.bipush 12, 2) := by decide +kernel
theorem dX11_script_169 : decode cX11_script 169 = .ok (.iload_n 2, 1) := by decide +kernel
theorem dX11_script_170 : decode cX11_script 170 = .ok (.invokevirtual 68, 3) := by decide +kernel
theorem dX11_script_173 : decode cX11_script 173 = .ok (.ireturn, 1) := by decide +kernel
theorem dX11_fault_0 : decode cX11_fault 0 = .ok (.aload_n 0, 1) := by decide +kernel
theorem dX11_fault_1 : decode cX11_fault 1 = .ok (.getfield 35, 3) := by decide +kernel
theorem dX11_fault_4 : decode cX11_fault 4 = .ok (.ireturn, 1) := by decide +kernel
theorem dX11_reason_0 : decode cX11_reason 0 = .ok (.iload_n 1, 1) := by decide +kernel
theorem dX11_reason_1 : decode cX11_reason 1 = .ok (.ifCond .ge 6, 3) := by decide +kernel
theorem dX11_reason_4 : decode cX11_reason 4 = .ok (.bipush (-2), 2) := by decide +kernel
theorem dX11_reason_6 : decode cX11_reason 6 = .ok (.ireturn, 1) := by decide +kernel
theorem dX11_reason_7 : decode cX11_reason 7 = .ok (.iload_n 1, 1) := by decide +kernel
theorem dX11_reason_8 : decode cX11_reason 8 = .ok (.aload_n 0, 1) := by decide +kernel
theorem dX11_reason_9 : decode cX11_reason 9 = .ok (.getfield 48, 3) := by decide +kernel
theorem dX11_reason_12 : decode cX11_reason 12 = .ok (.if_icmp .ge 24, 3) := by decide +kernel
theorem dX11_reason_15 : decode cX11_reason 15 = .ok (.aload_n 0, 1) := by decide +kernel
theorem dX11_reason_16 : decode cX11_reason 16 = .ok (.getfield 39, 3) := by decide +kernel
theorem dX11_reason_19 : decode cX11_reason 19 = .ok (.iconst 2, 1) := by decide +kernel
theorem dX11_reason_20 : decode cX11_reason 20 = .ok (.iload_n 1, 1) := by decide +kernel
theorem dX11_reason_21 : decode cX11_reason 21 = .ok (.imul, 1) := by decide +kernel
theorem dX11_reason_22 : decode cX11_reason 22 = .ok (.iload_n 2, 1) := by decide +kernel
theorem dX11_reason_23 : decode cX11_reason 23 = .ok (.ifCond .eq 7, 3) := by decide +kernel
theorem dX11_reason_26 : decode cX11_reason 26 = .ok (.iconst 1, 1) := by decide +kernel
theorem dX11_reason_27 : decode cX11_reason 27 = .ok (.goto 4, 3) := by decide +kernel
theorem dX11_reason_30 : decode cX11_reason 30 = .ok (.iconst 0, 1) := by decide +kernel
theorem dX11_reason_31 : decode cX11_reason 31 = .ok (.iadd, 1) := by decide +kernel
theorem dX11_reason_32 : decode cX11_reason 32 = .ok (.iaload, 1) := by decide +kernel
theorem dX11_reason_33 : decode cX11_reason 33 = .ok (.goto 5, 3) := by decide +kernel
theorem dX11_reason_36 : decode cX11_reason 36 = .ok (.bipush (-4), 2) := by decide +kernel
theorem dX11_reason_38 : decode cX11_reason 38 = .ok (.ireturn, 1) := by decide +kernel
theorem dX11_bundleOf_0 : decode cX11_bundleOf 0 = .ok (.aload_n 0, 1) := by decide +kernel
theorem dX11_bundleOf_1 : decode cX11_bundleOf 1 = .ok (.iload_n 1, 1) := by decide +kernel
theorem dX11_bundleOf_2 : decode cX11_bundleOf 2 = .ok (.invokevirtual 77, 3) := by decide +kernel
theorem dX11_bundleOf_5 : decode cX11_bundleOf 5 = .ok (.ifCond .eq 27, 3) := by decide +kernel
theorem dX11_bundleOf_8 : decode cX11_bundleOf 8 = .ok (.aload_n 0, 1) := by decide +kernel
theorem dX11_bundleOf_9 : decode cX11_bundleOf 9 = .ok (.getfield 9, 3) := by decide +kernel
theorem dX11_bundleOf_12 : decode cX11_bundleOf 12 = .ok (.bipush 14, 2) := by decide +kernel
theorem dX11_bundleOf_14 : decode cX11_bundleOf 14 = .ok (.iconst 2, 1) := by decide +kernel
theorem dX11_bundleOf_15 : decode cX11_bundleOf 15 = .ok (.iload_n 1, 1) := by decide +kernel
theorem dX11_bundleOf_16 : decode cX11_bundleOf 16 = .ok (.imul, 1) := by decide +kernel
theorem dX11_bundleOf_17 : decode cX11_bundleOf 17 = .ok (.iadd, 1) := by decide +kernel
theorem dX11_bundleOf_18 : decode cX11_bundleOf 18 = .ok (.iload_n 2, 1) := by decide +kernel
theorem dX11_bundleOf_19 : decode cX11_bundleOf 19 = .ok (.ifCond .eq 7, 3) := by decide +kernel
theorem dX11_bundleOf_22 : decode cX11_bundleOf 22 = .ok (.iconst 1, 1) := by decide +kernel
theorem dX11_bundleOf_23 : decode cX11_bundleOf 23 = .ok (.goto 4, 3) := by decide +kernel
theorem dX11_bundleOf_26 : decode cX11_bundleOf 26 = .ok (.iconst 0, 1) := by decide +kernel
theorem dX11_bundleOf_27 : decode cX11_bundleOf 27 = .ok (.iadd, 1) := by decide +kernel
theorem dX11_bundleOf_28 : decode cX11_bundleOf 28 = .ok (.iaload, 1) := by decide +kernel
theorem dX11_bundleOf_29 : decode cX11_bundleOf 29 = .ok (.goto 4, 3) := by decide +kernel
theorem dX11_bundleOf_32 : decode cX11_bundleOf 32 = .ok (.iconst (-1), 1) := by decide +kernel
theorem dX11_bundleOf_33 : decode cX11_bundleOf 33 = .ok (.ireturn, 1) := by decide +kernel
theorem dX11_storeyOf_0 : decode cX11_storeyOf 0 = .ok (.aload_n 0, 1) := by decide +kernel
theorem dX11_storeyOf_1 : decode cX11_storeyOf 1 = .ok (.iload_n 1, 1) := by decide +kernel
theorem dX11_storeyOf_2 : decode cX11_storeyOf 2 = .ok (.invokevirtual 95, 3) := by decide +kernel
theorem dX11_storeyOf_5 : decode cX11_storeyOf 5 = .ok (.ifCond .ne 5, 3) := by decide +kernel
theorem dX11_storeyOf_8 : decode cX11_storeyOf 8 = .ok (.iconst (-1), 1) := by decide +kernel
theorem dX11_storeyOf_9 : decode cX11_storeyOf 9 = .ok (.ireturn, 1) := by decide +kernel
theorem dX11_storeyOf_10 : decode cX11_storeyOf 10 = .ok (.iload_n 2, 1) := by decide +kernel
theorem dX11_storeyOf_11 : decode cX11_storeyOf 11 = .ok (.tableswitch 69 0 6 #[41, 41, 41, 41, 41, 48, 63], 41) := by decide +kernel
theorem dX11_storeyOf_52 : decode cX11_storeyOf 52 = .ok (.aload_n 0, 1) := by decide +kernel
theorem dX11_storeyOf_53 : decode cX11_storeyOf 53 = .ok (.iload_n 1, 1) := by decide +kernel
theorem dX11_storeyOf_54 : decode cX11_storeyOf 54 = .ok (.iload_n 2, 1) := by decide +kernel
theorem dX11_storeyOf_55 : decode cX11_storeyOf 55 = .ok (.invokevirtual 98, 3) := by decide +kernel
theorem dX11_storeyOf_58 : decode cX11_storeyOf 58 = .ok (.ireturn, 1) := by decide +kernel
theorem dX11_storeyOf_59 : decode cX11_storeyOf 59 = .ok (.aload_n 0, 1) := by decide +kernel
theorem dX11_storeyOf_60 : decode cX11_storeyOf 60 = .ok (.iload_n 1, 1) := by decide +kernel
theorem dX11_storeyOf_61 : decode cX11_storeyOf 61 = .ok (.iconst 5, 1) := by decide +kernel
theorem dX11_storeyOf_62 : decode cX11_storeyOf 62 = .ok (.invokevirtual 98, 3) := by decide +kernel
theorem dX11_storeyOf_65 : decode cX11_storeyOf 65 = .ok (.ifCond .le 7, 3) := by decide +kernel
theorem dX11_storeyOf_68 : decode cX11_storeyOf 68 = .ok (.iconst 1, 1) := by decide +kernel
theorem dX11_storeyOf_69 : decode cX11_storeyOf 69 = .ok (.goto 4, 3) := by decide +kernel
theorem dX11_storeyOf_72 : decode cX11_storeyOf 72 = .ok (.iconst 0, 1) := by decide +kernel
theorem dX11_storeyOf_73 : decode cX11_storeyOf 73 = .ok (.ireturn, 1) := by decide +kernel
theorem dX11_storeyOf_74 : decode cX11_storeyOf 74 = .ok (.aload_n 0, 1) := by decide +kernel
theorem dX11_storeyOf_75 : decode cX11_storeyOf 75 = .ok (.iload_n 1, 1) := by decide +kernel
theorem dX11_storeyOf_76 : decode cX11_storeyOf 76 = .ok (.invokevirtual 116, 3) := by decide +kernel
theorem dX11_storeyOf_79 : decode cX11_storeyOf 79 = .ok (.ireturn, 1) := by decide +kernel
theorem dX11_storeyOf_80 : decode cX11_storeyOf 80 = .ok (.bipush (-2), 2) := by decide +kernel
theorem dX11_storeyOf_82 : decode cX11_storeyOf 82 = .ok (.ireturn, 1) := by decide +kernel
theorem dX11_strength_0 : decode cX11_strength 0 = .ok (.aload_n 0, 1) := by decide +kernel
theorem dX11_strength_1 : decode cX11_strength 1 = .ok (.iload_n 1, 1) := by decide +kernel
theorem dX11_strength_2 : decode cX11_strength 2 = .ok (.invokevirtual 95, 3) := by decide +kernel
theorem dX11_strength_5 : decode cX11_strength 5 = .ok (.ifCond .eq 11, 3) := by decide +kernel
theorem dX11_strength_8 : decode cX11_strength 8 = .ok (.aload_n 0, 1) := by decide +kernel
theorem dX11_strength_9 : decode cX11_strength 9 = .ok (.iload_n 1, 1) := by decide +kernel
theorem dX11_strength_10 : decode cX11_strength 10 = .ok (.invokevirtual 145, 3) := by decide +kernel
theorem dX11_strength_13 : decode cX11_strength 13 = .ok (.goto 4, 3) := by decide +kernel
theorem dX11_strength_16 : decode cX11_strength 16 = .ok (.iconst (-1), 1) := by decide +kernel
theorem dX11_strength_17 : decode cX11_strength 17 = .ok (.ireturn, 1) := by decide +kernel
theorem dX11_weakest_0 : decode cX11_weakest 0 = .ok (.bipush (-4), 2) := by decide +kernel
theorem dX11_weakest_2 : decode cX11_weakest 2 = .ok (.istore_n 1, 1) := by decide +kernel
theorem dX11_weakest_3 : decode cX11_weakest 3 = .ok (.iconst 0, 1) := by decide +kernel
theorem dX11_weakest_4 : decode cX11_weakest 4 = .ok (.istore_n 2, 1) := by decide +kernel
theorem dX11_weakest_5 : decode cX11_weakest 5 = .ok (.iload_n 2, 1) := by decide +kernel
theorem dX11_weakest_6 : decode cX11_weakest 6 = .ok (.aload_n 0, 1) := by decide +kernel
theorem dX11_weakest_7 : decode cX11_weakest 7 = .ok (.getfield 9, 3) := by decide +kernel
theorem dX11_weakest_10 : decode cX11_weakest 10 = .ok (.iconst 3, 1) := by decide +kernel
theorem dX11_weakest_11 : decode cX11_weakest 11 = .ok (.iaload, 1) := by decide +kernel
theorem dX11_weakest_12 : decode cX11_weakest 12 = .ok (.if_icmp .ge 28, 3) := by decide +kernel
theorem dX11_weakest_15 : decode cX11_weakest 15 = .ok (.iload_n 1, 1) := by decide +kernel
theorem dX11_weakest_16 : decode cX11_weakest 16 = .ok (.ifCond .lt 16, 3) := by decide +kernel
theorem dX11_weakest_19 : decode cX11_weakest 19 = .ok (.aload_n 0, 1) := by decide +kernel
theorem dX11_weakest_20 : decode cX11_weakest 20 = .ok (.iload_n 2, 1) := by decide +kernel
theorem dX11_weakest_21 : decode cX11_weakest 21 = .ok (.invokevirtual 145, 3) := by decide +kernel
theorem dX11_weakest_24 : decode cX11_weakest 24 = .ok (.aload_n 0, 1) := by decide +kernel
theorem dX11_weakest_25 : decode cX11_weakest 25 = .ok (.iload_n 1, 1) := by decide +kernel
theorem dX11_weakest_26 : decode cX11_weakest 26 = .ok (.invokevirtual 145, 3) := by decide +kernel
theorem dX11_weakest_29 : decode cX11_weakest 29 = .ok (.if_icmp .ge 5, 3) := by decide +kernel
theorem dX11_weakest_32 : decode cX11_weakest 32 = .ok (.iload_n 2, 1) := by decide +kernel
theorem dX11_weakest_33 : decode cX11_weakest 33 = .ok (.istore_n 1, 1) := by decide +kernel
theorem dX11_weakest_34 : decode cX11_weakest 34 = .ok (.iinc 2 1, 3) := by decide +kernel
theorem dX11_weakest_37 : decode cX11_weakest 37 = .ok (.goto (-32), 3) := by decide +kernel
theorem dX11_weakest_40 : decode cX11_weakest 40 = .ok (.iload_n 1, 1) := by decide +kernel
theorem dX11_weakest_41 : decode cX11_weakest 41 = .ok (.ireturn, 1) := by decide +kernel
theorem dX11_oldest_0 : decode cX11_oldest 0 = .ok (.iconst 0, 1) := by decide +kernel
theorem dX11_oldest_1 : decode cX11_oldest 1 = .ok (.istore_n 2, 1) := by decide +kernel
theorem dX11_oldest_2 : decode cX11_oldest 2 = .ok (.iload_n 2, 1) := by decide +kernel
theorem dX11_oldest_3 : decode cX11_oldest 3 = .ok (.aload_n 0, 1) := by decide +kernel
theorem dX11_oldest_4 : decode cX11_oldest 4 = .ok (.getfield 9, 3) := by decide +kernel
theorem dX11_oldest_7 : decode cX11_oldest 7 = .ok (.iconst 3, 1) := by decide +kernel
theorem dX11_oldest_8 : decode cX11_oldest 8 = .ok (.iaload, 1) := by decide +kernel
theorem dX11_oldest_9 : decode cX11_oldest 9 = .ok (.if_icmp .ge 79, 3) := by decide +kernel
theorem dX11_oldest_12 : decode cX11_oldest 12 = .ok (.iconst 0, 1) := by decide +kernel
theorem dX11_oldest_13 : decode cX11_oldest 13 = .ok (.istore_n 3, 1) := by decide +kernel
theorem dX11_oldest_14 : decode cX11_oldest 14 = .ok (.iconst 0, 1) := by decide +kernel
theorem dX11_oldest_15 : decode cX11_oldest 15 = .ok (.istore 4, 2) := by decide +kernel
theorem dX11_oldest_17 : decode cX11_oldest 17 = .ok (.iload 4, 2) := by decide +kernel
theorem dX11_oldest_19 : decode cX11_oldest 19 = .ok (.aload_n 0, 1) := by decide +kernel
theorem dX11_oldest_20 : decode cX11_oldest 20 = .ok (.getfield 9, 3) := by decide +kernel
theorem dX11_oldest_23 : decode cX11_oldest 23 = .ok (.iconst 3, 1) := by decide +kernel
theorem dX11_oldest_24 : decode cX11_oldest 24 = .ok (.iaload, 1) := by decide +kernel
theorem dX11_oldest_25 : decode cX11_oldest 25 = .ok (.if_icmp .ge 50, 3) := by decide +kernel
theorem dX11_oldest_28 : decode cX11_oldest 28 = .ok (.aload_n 0, 1) := by decide +kernel
theorem dX11_oldest_29 : decode cX11_oldest 29 = .ok (.iload 4, 2) := by decide +kernel
theorem dX11_oldest_31 : decode cX11_oldest 31 = .ok (.iconst 2, 1) := by decide +kernel
theorem dX11_oldest_32 : decode cX11_oldest 32 = .ok (.invokevirtual 98, 3) := by decide +kernel
theorem dX11_oldest_35 : decode cX11_oldest 35 = .ok (.aload_n 0, 1) := by decide +kernel
theorem dX11_oldest_36 : decode cX11_oldest 36 = .ok (.iload_n 2, 1) := by decide +kernel
theorem dX11_oldest_37 : decode cX11_oldest 37 = .ok (.iconst 2, 1) := by decide +kernel
theorem dX11_oldest_38 : decode cX11_oldest 38 = .ok (.invokevirtual 98, 3) := by decide +kernel
theorem dX11_oldest_41 : decode cX11_oldest 41 = .ok (.if_icmp .gt 25, 3) := by decide +kernel
theorem dX11_oldest_44 : decode cX11_oldest 44 = .ok (.iload 4, 2) := by decide +kernel
theorem dX11_oldest_46 : decode cX11_oldest 46 = .ok (.iload_n 2, 1) := by decide +kernel
theorem dX11_oldest_47 : decode cX11_oldest 47 = .ok (.if_icmp .le 22, 3) := by decide +kernel
theorem dX11_oldest_50 : decode cX11_oldest 50 = .ok (.aload_n 0, 1) := by decide +kernel
theorem dX11_oldest_51 : decode cX11_oldest 51 = .ok (.iload 4, 2) := by decide +kernel
theorem dX11_oldest_53 : decode cX11_oldest 53 = .ok (.iconst 2, 1) := by decide +kernel
theorem dX11_oldest_54 : decode cX11_oldest 54 = .ok (.invokevirtual 98, 3) := by decide +kernel
theorem dX11_oldest_57 : decode cX11_oldest 57 = .ok (.aload_n 0, 1) := by decide +kernel
theorem dX11_oldest_58 : decode cX11_oldest 58 = .ok (.iload_n 2, 1) := by decide +kernel
theorem dX11_oldest_59 : decode cX11_oldest 59 = .ok (.iconst 2, 1) := by decide +kernel
theorem dX11_oldest_60 : decode cX11_oldest 60 = .ok (.invokevirtual 98, 3) := by decide +kernel
theorem dX11_oldest_63 : decode cX11_oldest 63 = .ok (.if_icmp .ne 6, 3) := by decide +kernel
theorem dX11_oldest_66 : decode cX11_oldest 66 = .ok (.iinc 3 1, 3) := by decide +kernel
theorem dX11_oldest_69 : decode cX11_oldest 69 = .ok (.iinc 4 1, 3) := by decide +kernel
theorem dX11_oldest_72 : decode cX11_oldest 72 = .ok (.goto (-55), 3) := by decide +kernel
theorem dX11_oldest_75 : decode cX11_oldest 75 = .ok (.iload_n 3, 1) := by decide +kernel
theorem dX11_oldest_76 : decode cX11_oldest 76 = .ok (.iload_n 1, 1) := by decide +kernel
theorem dX11_oldest_77 : decode cX11_oldest 77 = .ok (.if_icmp .ne 5, 3) := by decide +kernel
theorem dX11_oldest_80 : decode cX11_oldest 80 = .ok (.iload_n 2, 1) := by decide +kernel
theorem dX11_oldest_81 : decode cX11_oldest 81 = .ok (.ireturn, 1) := by decide +kernel
theorem dX11_oldest_82 : decode cX11_oldest 82 = .ok (.iinc 2 1, 3) := by decide +kernel
theorem dX11_oldest_85 : decode cX11_oldest 85 = .ok (.goto (-83), 3) := by decide +kernel
theorem dX11_oldest_88 : decode cX11_oldest 88 = .ok (.iconst (-1), 1) := by decide +kernel
theorem dX11_oldest_89 : decode cX11_oldest 89 = .ok (.ireturn, 1) := by decide +kernel
theorem dX11_crewOf_0 : decode cX11_crewOf 0 = .ok (.aload_n 0, 1) := by decide +kernel
theorem dX11_crewOf_1 : decode cX11_crewOf 1 = .ok (.iload_n 1, 1) := by decide +kernel
theorem dX11_crewOf_2 : decode cX11_crewOf 2 = .ok (.invokevirtual 107, 3) := by decide +kernel
theorem dX11_crewOf_5 : decode cX11_crewOf 5 = .ok (.ifCond .ne 5, 3) := by decide +kernel
theorem dX11_crewOf_8 : decode cX11_crewOf 8 = .ok (.iconst (-1), 1) := by decide +kernel
theorem dX11_crewOf_9 : decode cX11_crewOf 9 = .ok (.ireturn, 1) := by decide +kernel
theorem dX11_crewOf_10 : decode cX11_crewOf 10 = .ok (.iload_n 2, 1) := by decide +kernel
theorem dX11_crewOf_11 : decode cX11_crewOf 11 = .ok (.tableswitch 88 0 3 #[29, 41, 60, 74], 29) := by decide +kernel
theorem dX11_crewOf_40 : decode cX11_crewOf 40 = .ok (.aload_n 0, 1) := by decide +kernel
theorem dX11_crewOf_41 : decode cX11_crewOf 41 = .ok (.getfield 9, 3) := by decide +kernel
theorem dX11_crewOf_44 : decode cX11_crewOf 44 = .ok (.bipush 90, 2) := by decide +kernel
theorem dX11_crewOf_46 : decode cX11_crewOf 46 = .ok (.iconst 3, 1) := by decide +kernel
theorem dX11_crewOf_47 : decode cX11_crewOf 47 = .ok (.iload_n 1, 1) := by decide +kernel
theorem dX11_crewOf_48 : decode cX11_crewOf 48 = .ok (.imul, 1) := by decide +kernel
theorem dX11_crewOf_49 : decode cX11_crewOf 49 = .ok (.iadd, 1) := by decide +kernel
theorem dX11_crewOf_50 : decode cX11_crewOf 50 = .ok (.iaload, 1) := by decide +kernel
theorem dX11_crewOf_51 : decode cX11_crewOf 51 = .ok (.ireturn, 1) := by decide +kernel
theorem dX11_crewOf_52 : decode cX11_crewOf 52 = .ok (.aload_n 0, 1) := by decide +kernel
theorem dX11_crewOf_53 : decode cX11_crewOf 53 = .ok (.iload_n 1, 1) := by decide +kernel
theorem dX11_crewOf_54 : decode cX11_crewOf 54 = .ok (.invokevirtual 104, 3) := by decide +kernel
theorem dX11_crewOf_57 : decode cX11_crewOf 57 = .ok (.ifCond .ge 8, 3) := by decide +kernel
theorem dX11_crewOf_60 : decode cX11_crewOf 60 = .ok (.bipush (-4), 2) := by decide +kernel
theorem dX11_crewOf_62 : decode cX11_crewOf 62 = .ok (.goto 8, 3) := by decide +kernel
theorem dX11_crewOf_65 : decode cX11_crewOf 65 = .ok (.aload_n 0, 1) := by decide +kernel
theorem dX11_crewOf_66 : decode cX11_crewOf 66 = .ok (.iload_n 1, 1) := by decide +kernel
theorem dX11_crewOf_67 : decode cX11_crewOf 67 = .ok (.invokevirtual 104, 3) := by decide +kernel
theorem dX11_crewOf_70 : decode cX11_crewOf 70 = .ok (.ireturn, 1) := by decide +kernel
theorem dX11_crewOf_71 : decode cX11_crewOf 71 = .ok (.aload_n 0, 1) := by decide +kernel
theorem dX11_crewOf_72 : decode cX11_crewOf 72 = .ok (.iload_n 1, 1) := by decide +kernel
theorem dX11_crewOf_73 : decode cX11_crewOf 73 = .ok (.invokevirtual 186, 3) := by decide +kernel
theorem dX11_crewOf_76 : decode cX11_crewOf 76 = .ok (.ifCond .eq 7, 3) := by decide +kernel
theorem dX11_crewOf_79 : decode cX11_crewOf 79 = .ok (.iconst 1, 1) := by decide +kernel
theorem dX11_crewOf_80 : decode cX11_crewOf 80 = .ok (.goto 4, 3) := by decide +kernel
theorem dX11_crewOf_83 : decode cX11_crewOf 83 = .ok (.iconst 0, 1) := by decide +kernel
theorem dX11_crewOf_84 : decode cX11_crewOf 84 = .ok (.ireturn, 1) := by decide +kernel
theorem dX11_crewOf_85 : decode cX11_crewOf 85 = .ok (.aload_n 0, 1) := by decide +kernel
theorem dX11_crewOf_86 : decode cX11_crewOf 86 = .ok (.getfield 9, 3) := by decide +kernel
theorem dX11_crewOf_89 : decode cX11_crewOf 89 = .ok (.bipush 90, 2) := by decide +kernel
theorem dX11_crewOf_91 : decode cX11_crewOf 91 = .ok (.iconst 3, 1) := by decide +kernel
theorem dX11_crewOf_92 : decode cX11_crewOf 92 = .ok (.iload_n 1, 1) := by decide +kernel
theorem dX11_crewOf_93 : decode cX11_crewOf 93 = .ok (.imul, 1) := by decide +kernel
theorem dX11_crewOf_94 : decode cX11_crewOf 94 = .ok (.iadd, 1) := by decide +kernel
theorem dX11_crewOf_95 : decode cX11_crewOf 95 = .ok (.iconst 2, 1) := by decide +kernel
theorem dX11_crewOf_96 : decode cX11_crewOf 96 = .ok (.iadd, 1) := by decide +kernel
theorem dX11_crewOf_97 : decode cX11_crewOf 97 = .ok (.iaload, 1) := by decide +kernel
theorem dX11_crewOf_98 : decode cX11_crewOf 98 = .ok (.ireturn, 1) := by decide +kernel
theorem dX11_crewOf_99 : decode cX11_crewOf 99 = .ok (.bipush (-2), 2) := by decide +kernel
theorem dX11_crewOf_101 : decode cX11_crewOf 101 = .ok (.ireturn, 1) := by decide +kernel
theorem dX11_wouldWork_0 : decode cX11_wouldWork 0 = .ok (.aload_n 0, 1) := by decide +kernel
theorem dX11_wouldWork_1 : decode cX11_wouldWork 1 = .ok (.iload_n 1, 1) := by decide +kernel
theorem dX11_wouldWork_2 : decode cX11_wouldWork 2 = .ok (.invokevirtual 148, 3) := by decide +kernel
theorem dX11_wouldWork_5 : decode cX11_wouldWork 5 = .ok (.ifCond .ne 5, 3) := by decide +kernel
theorem dX11_wouldWork_8 : decode cX11_wouldWork 8 = .ok (.iconst 0, 1) := by decide +kernel
theorem dX11_wouldWork_9 : decode cX11_wouldWork 9 = .ok (.ireturn, 1) := by decide +kernel
theorem dX11_wouldWork_10 : decode cX11_wouldWork 10 = .ok (.aload_n 0, 1) := by decide +kernel
theorem dX11_wouldWork_11 : decode cX11_wouldWork 11 = .ok (.iload_n 1, 1) := by decide +kernel
theorem dX11_wouldWork_12 : decode cX11_wouldWork 12 = .ok (.invokevirtual 104, 3) := by decide +kernel
theorem dX11_wouldWork_15 : decode cX11_wouldWork 15 = .ok (.istore_n 2, 1) := by decide +kernel
theorem dX11_wouldWork_16 : decode cX11_wouldWork 16 = .ok (.aload_n 0, 1) := by decide +kernel
theorem dX11_wouldWork_17 : decode cX11_wouldWork 17 = .ok (.iload_n 2, 1) := by decide +kernel
theorem dX11_wouldWork_18 : decode cX11_wouldWork 18 = .ok (.iconst 3, 1) := by decide +kernel
theorem dX11_wouldWork_19 : decode cX11_wouldWork 19 = .ok (.invokevirtual 98, 3) := by decide +kernel
theorem dX11_wouldWork_22 : decode cX11_wouldWork 22 = .ok (.istore_n 3, 1) := by decide +kernel
theorem dX11_wouldWork_23 : decode cX11_wouldWork 23 = .ok (.aload_n 0, 1) := by decide +kernel
theorem dX11_wouldWork_24 : decode cX11_wouldWork 24 = .ok (.iload_n 2, 1) := by decide +kernel
theorem dX11_wouldWork_25 : decode cX11_wouldWork 25 = .ok (.iconst 4, 1) := by decide +kernel
theorem dX11_wouldWork_26 : decode cX11_wouldWork 26 = .ok (.invokevirtual 98, 3) := by decide +kernel
theorem dX11_wouldWork_29 : decode cX11_wouldWork 29 = .ok (.istore 4, 2) := by decide +kernel
theorem dX11_wouldWork_31 : decode cX11_wouldWork 31 = .ok (.iconst 0, 1) := by decide +kernel
theorem dX11_wouldWork_32 : decode cX11_wouldWork 32 = .ok (.istore 5, 2) := by decide +kernel
theorem dX11_wouldWork_34 : decode cX11_wouldWork 34 = .ok (.iload 5, 2) := by decide +kernel
theorem dX11_wouldWork_36 : decode cX11_wouldWork 36 = .ok (.iload_n 1, 1) := by decide +kernel
theorem dX11_wouldWork_37 : decode cX11_wouldWork 37 = .ok (.if_icmp .ge 49, 3) := by decide +kernel
theorem dX11_wouldWork_40 : decode cX11_wouldWork 40 = .ok (.aload_n 0, 1) := by decide +kernel
theorem dX11_wouldWork_41 : decode cX11_wouldWork 41 = .ok (.iload 5, 2) := by decide +kernel
theorem dX11_wouldWork_43 : decode cX11_wouldWork 43 = .ok (.invokevirtual 104, 3) := by decide +kernel
theorem dX11_wouldWork_46 : decode cX11_wouldWork 46 = .ok (.iload_n 2, 1) := by decide +kernel
theorem dX11_wouldWork_47 : decode cX11_wouldWork 47 = .ok (.if_icmp .ne 33, 3) := by decide +kernel
theorem dX11_wouldWork_50 : decode cX11_wouldWork 50 = .ok (.iload_n 3, 1) := by decide +kernel
theorem dX11_wouldWork_51 : decode cX11_wouldWork 51 = .ok (.ifCond .le 29, 3) := by decide +kernel
theorem dX11_wouldWork_54 : decode cX11_wouldWork 54 = .ok (.iload 4, 2) := by decide +kernel
theorem dX11_wouldWork_56 : decode cX11_wouldWork 56 = .ok (.ifCond .ne 6, 3) := by decide +kernel
theorem dX11_wouldWork_59 : decode cX11_wouldWork 59 = .ok (.goto 21, 3) := by decide +kernel
theorem dX11_wouldWork_62 : decode cX11_wouldWork 62 = .ok (.iload_n 3, 1) := by decide +kernel
theorem dX11_wouldWork_63 : decode cX11_wouldWork 63 = .ok (.aload_n 0, 1) := by decide +kernel
theorem dX11_wouldWork_64 : decode cX11_wouldWork 64 = .ok (.getfield 9, 3) := by decide +kernel
theorem dX11_wouldWork_67 : decode cX11_wouldWork 67 = .ok (.bipush 90, 2) := by decide +kernel
theorem dX11_wouldWork_69 : decode cX11_wouldWork 69 = .ok (.iconst 3, 1) := by decide +kernel
theorem dX11_wouldWork_70 : decode cX11_wouldWork 70 = .ok (.iload 5, 2) := by decide +kernel
theorem dX11_wouldWork_72 : decode cX11_wouldWork 72 = .ok (.imul, 1) := by decide +kernel
theorem dX11_wouldWork_73 : decode cX11_wouldWork 73 = .ok (.iadd, 1) := by decide +kernel
theorem dX11_wouldWork_74 : decode cX11_wouldWork 74 = .ok (.iaload, 1) := by decide +kernel
theorem dX11_wouldWork_75 : decode cX11_wouldWork 75 = .ok (.isub, 1) := by decide +kernel
theorem dX11_wouldWork_76 : decode cX11_wouldWork 76 = .ok (.istore_n 3, 1) := by decide +kernel
theorem dX11_wouldWork_77 : decode cX11_wouldWork 77 = .ok (.iinc 4 (-1), 3) := by decide +kernel
theorem dX11_wouldWork_80 : decode cX11_wouldWork 80 = .ok (.iinc 5 1, 3) := by decide +kernel
theorem dX11_wouldWork_83 : decode cX11_wouldWork 83 = .ok (.goto (-49), 3) := by decide +kernel
theorem dX11_wouldWork_86 : decode cX11_wouldWork 86 = .ok (.iload_n 3, 1) := by decide +kernel
theorem dX11_wouldWork_87 : decode cX11_wouldWork 87 = .ok (.ifCond .le 12, 3) := by decide +kernel
theorem dX11_wouldWork_90 : decode cX11_wouldWork 90 = .ok (.iload 4, 2) := by decide +kernel
theorem dX11_wouldWork_92 : decode cX11_wouldWork 92 = .ok (.ifCond .le 7, 3) := by decide +kernel
theorem dX11_wouldWork_95 : decode cX11_wouldWork 95 = .ok (.iconst 1, 1) := by decide +kernel
theorem dX11_wouldWork_96 : decode cX11_wouldWork 96 = .ok (.goto 4, 3) := by decide +kernel
theorem dX11_wouldWork_99 : decode cX11_wouldWork 99 = .ok (.iconst 0, 1) := by decide +kernel
theorem dX11_wouldWork_100 : decode cX11_wouldWork 100 = .ok (.ireturn, 1) := by decide +kernel
theorem dX11_inspectorOf_0 : decode cX11_inspectorOf 0 = .ok (.aload_n 0, 1) := by decide +kernel
theorem dX11_inspectorOf_1 : decode cX11_inspectorOf 1 = .ok (.iload_n 1, 1) := by decide +kernel
theorem dX11_inspectorOf_2 : decode cX11_inspectorOf 2 = .ok (.invokevirtual 136, 3) := by decide +kernel
theorem dX11_inspectorOf_5 : decode cX11_inspectorOf 5 = .ok (.ifCond .ne 5, 3) := by decide +kernel
theorem dX11_inspectorOf_8 : decode cX11_inspectorOf 8 = .ok (.iconst (-1), 1) := by decide +kernel
theorem dX11_inspectorOf_9 : decode cX11_inspectorOf 9 = .ok (.ireturn, 1) := by decide +kernel
theorem dX11_inspectorOf_10 : decode cX11_inspectorOf 10 = .ok (.iconst 0, 1) := by decide +kernel
theorem dX11_inspectorOf_11 : decode cX11_inspectorOf 11 = .ok (.istore_n 3, 1) := by decide +kernel
theorem dX11_inspectorOf_12 : decode cX11_inspectorOf 12 = .ok (.iload_n 2, 1) := by decide +kernel
theorem dX11_inspectorOf_13 : decode cX11_inspectorOf 13 = .ok (.tableswitch 91 0 2 #[27, 39, 77], 27) := by decide +kernel
theorem dX11_inspectorOf_40 : decode cX11_inspectorOf 40 = .ok (.aload_n 0, 1) := by decide +kernel
theorem dX11_inspectorOf_41 : decode cX11_inspectorOf 41 = .ok (.getfield 9, 3) := by decide +kernel
theorem dX11_inspectorOf_44 : decode cX11_inspectorOf 44 = .ok (.bipush 105, 2) := by decide +kernel
theorem dX11_inspectorOf_46 : decode cX11_inspectorOf 46 = .ok (.iconst 2, 1) := by decide +kernel
theorem dX11_inspectorOf_47 : decode cX11_inspectorOf 47 = .ok (.iload_n 1, 1) := by decide +kernel
theorem dX11_inspectorOf_48 : decode cX11_inspectorOf 48 = .ok (.imul, 1) := by decide +kernel
theorem dX11_inspectorOf_49 : decode cX11_inspectorOf 49 = .ok (.iadd, 1) := by decide +kernel
theorem dX11_inspectorOf_50 : decode cX11_inspectorOf 50 = .ok (.iaload, 1) := by decide +kernel
theorem dX11_inspectorOf_51 : decode cX11_inspectorOf 51 = .ok (.ireturn, 1) := by decide +kernel
theorem dX11_inspectorOf_52 : decode cX11_inspectorOf 52 = .ok (.iconst 0, 1) := by decide +kernel
theorem dX11_inspectorOf_53 : decode cX11_inspectorOf 53 = .ok (.istore 4, 2) := by decide +kernel
theorem dX11_inspectorOf_55 : decode cX11_inspectorOf 55 = .ok (.iload 4, 2) := by decide +kernel
theorem dX11_inspectorOf_57 : decode cX11_inspectorOf 57 = .ok (.aload_n 0, 1) := by decide +kernel
theorem dX11_inspectorOf_58 : decode cX11_inspectorOf 58 = .ok (.getfield 9, 3) := by decide +kernel
theorem dX11_inspectorOf_61 : decode cX11_inspectorOf 61 = .ok (.iconst 3, 1) := by decide +kernel
theorem dX11_inspectorOf_62 : decode cX11_inspectorOf 62 = .ok (.iaload, 1) := by decide +kernel
theorem dX11_inspectorOf_63 : decode cX11_inspectorOf 63 = .ok (.if_icmp .ge 25, 3) := by decide +kernel
theorem dX11_inspectorOf_66 : decode cX11_inspectorOf 66 = .ok (.aload_n 0, 1) := by decide +kernel
theorem dX11_inspectorOf_67 : decode cX11_inspectorOf 67 = .ok (.iload 4, 2) := by decide +kernel
theorem dX11_inspectorOf_69 : decode cX11_inspectorOf 69 = .ok (.iconst 5, 1) := by decide +kernel
theorem dX11_inspectorOf_70 : decode cX11_inspectorOf 70 = .ok (.invokevirtual 98, 3) := by decide +kernel
theorem dX11_inspectorOf_73 : decode cX11_inspectorOf 73 = .ok (.iload_n 1, 1) := by decide +kernel
theorem dX11_inspectorOf_74 : decode cX11_inspectorOf 74 = .ok (.iconst 1, 1) := by decide +kernel
theorem dX11_inspectorOf_75 : decode cX11_inspectorOf 75 = .ok (.iadd, 1) := by decide +kernel
theorem dX11_inspectorOf_76 : decode cX11_inspectorOf 76 = .ok (.if_icmp .ne 6, 3) := by decide +kernel
theorem dX11_inspectorOf_79 : decode cX11_inspectorOf 79 = .ok (.iinc 3 1, 3) := by decide +kernel
theorem dX11_inspectorOf_82 : decode cX11_inspectorOf 82 = .ok (.iinc 4 1, 3) := by decide +kernel
theorem dX11_inspectorOf_85 : decode cX11_inspectorOf 85 = .ok (.goto (-30), 3) := by decide +kernel
theorem dX11_inspectorOf_88 : decode cX11_inspectorOf 88 = .ok (.iload_n 3, 1) := by decide +kernel
theorem dX11_inspectorOf_89 : decode cX11_inspectorOf 89 = .ok (.ireturn, 1) := by decide +kernel
theorem dX11_inspectorOf_90 : decode cX11_inspectorOf 90 = .ok (.aload_n 0, 1) := by decide +kernel
theorem dX11_inspectorOf_91 : decode cX11_inspectorOf 91 = .ok (.getfield 9, 3) := by decide +kernel
theorem dX11_inspectorOf_94 : decode cX11_inspectorOf 94 = .ok (.bipush 105, 2) := by decide +kernel
theorem dX11_inspectorOf_96 : decode cX11_inspectorOf 96 = .ok (.iconst 2, 1) := by decide +kernel
theorem dX11_inspectorOf_97 : decode cX11_inspectorOf 97 = .ok (.iload_n 1, 1) := by decide +kernel
theorem dX11_inspectorOf_98 : decode cX11_inspectorOf 98 = .ok (.imul, 1) := by decide +kernel
theorem dX11_inspectorOf_99 : decode cX11_inspectorOf 99 = .ok (.iadd, 1) := by decide +kernel
theorem dX11_inspectorOf_100 : decode cX11_inspectorOf 100 = .ok (.iconst 1, 1) := by decide +kernel
theorem dX11_inspectorOf_101 : decode cX11_inspectorOf 101 = .ok (.iadd, 1) := by decide +kernel
theorem dX11_inspectorOf_102 : decode cX11_inspectorOf 102 = .ok (.iaload, 1) := by decide +kernel
theorem dX11_inspectorOf_103 : decode cX11_inspectorOf 103 = .ok (.ireturn, 1) := by decide +kernel
theorem dX11_inspectorOf_104 : decode cX11_inspectorOf 104 = .ok (.bipush (-2), 2) := by decide +kernel
theorem dX11_inspectorOf_106 : decode cX11_inspectorOf 106 = .ok (.ireturn, 1) := by decide +kernel
theorem dX11_highest_0 : decode cX11_highest 0 = .ok (.bipush (-4), 2) := by decide +kernel
theorem dX11_highest_2 : decode cX11_highest 2 = .ok (.istore_n 1, 1) := by decide +kernel
theorem dX11_highest_3 : decode cX11_highest 3 = .ok (.iconst 0, 1) := by decide +kernel
theorem dX11_highest_4 : decode cX11_highest 4 = .ok (.istore_n 2, 1) := by decide +kernel
theorem dX11_highest_5 : decode cX11_highest 5 = .ok (.iload_n 2, 1) := by decide +kernel
theorem dX11_highest_6 : decode cX11_highest 6 = .ok (.aload_n 0, 1) := by decide +kernel
theorem dX11_highest_7 : decode cX11_highest 7 = .ok (.getfield 9, 3) := by decide +kernel
theorem dX11_highest_10 : decode cX11_highest 10 = .ok (.iconst 3, 1) := by decide +kernel
theorem dX11_highest_11 : decode cX11_highest 11 = .ok (.iaload, 1) := by decide +kernel
theorem dX11_highest_12 : decode cX11_highest 12 = .ok (.if_icmp .ge 38, 3) := by decide +kernel
theorem dX11_highest_15 : decode cX11_highest 15 = .ok (.aload_n 0, 1) := by decide +kernel
theorem dX11_highest_16 : decode cX11_highest 16 = .ok (.getfield 9, 3) := by decide +kernel
theorem dX11_highest_19 : decode cX11_highest 19 = .ok (.iconst 1, 1) := by decide +kernel
theorem dX11_highest_20 : decode cX11_highest 20 = .ok (.iaload, 1) := by decide +kernel
theorem dX11_highest_21 : decode cX11_highest 21 = .ok (.iconst 3, 1) := by decide +kernel
theorem dX11_highest_22 : decode cX11_highest 22 = .ok (.if_icmp .ge 28, 3) := by decide +kernel
theorem dX11_highest_25 : decode cX11_highest 25 = .ok (.aload_n 0, 1) := by decide +kernel
theorem dX11_highest_26 : decode cX11_highest 26 = .ok (.iload_n 2, 1) := by decide +kernel
theorem dX11_highest_27 : decode cX11_highest 27 = .ok (.invokevirtual 110, 3) := by decide +kernel
theorem dX11_highest_30 : decode cX11_highest 30 = .ok (.ifCond .ge 14, 3) := by decide +kernel
theorem dX11_highest_33 : decode cX11_highest 33 = .ok (.aload_n 0, 1) := by decide +kernel
theorem dX11_highest_34 : decode cX11_highest 34 = .ok (.iload_n 2, 1) := by decide +kernel
theorem dX11_highest_35 : decode cX11_highest 35 = .ok (.iconst 5, 1) := by decide +kernel
theorem dX11_highest_36 : decode cX11_highest 36 = .ok (.invokevirtual 98, 3) := by decide +kernel
theorem dX11_highest_39 : decode cX11_highest 39 = .ok (.ifCond .ne 5, 3) := by decide +kernel
theorem dX11_highest_42 : decode cX11_highest 42 = .ok (.iload_n 2, 1) := by decide +kernel
theorem dX11_highest_43 : decode cX11_highest 43 = .ok (.istore_n 1, 1) := by decide +kernel
theorem dX11_highest_44 : decode cX11_highest 44 = .ok (.iinc 2 1, 3) := by decide +kernel
theorem dX11_highest_47 : decode cX11_highest 47 = .ok (.goto (-42), 3) := by decide +kernel
theorem dX11_highest_50 : decode cX11_highest 50 = .ok (.iload_n 1, 1) := by decide +kernel
theorem dX11_highest_51 : decode cX11_highest 51 = .ok (.ireturn, 1) := by decide +kernel
theorem dX11_wouldFall_0 : decode cX11_wouldFall 0 = .ok (.iload_n 1, 1) := by decide +kernel
theorem dX11_wouldFall_1 : decode cX11_wouldFall 1 = .ok (.bipush 8, 2) := by decide +kernel
theorem dX11_wouldFall_3 : decode cX11_wouldFall 3 = .ok (.bipush 10, 2) := by decide +kernel
theorem dX11_wouldFall_5 : decode cX11_wouldFall 5 = .ok (.invokestatic 58, 3) := by decide +kernel
theorem dX11_wouldFall_8 : decode cX11_wouldFall 8 = .ok (.ifCond .eq 11, 3) := by decide +kernel
theorem dX11_wouldFall_11 : decode cX11_wouldFall 11 = .ok (.aload_n 0, 1) := by decide +kernel
theorem dX11_wouldFall_12 : decode cX11_wouldFall 12 = .ok (.iload_n 1, 1) := by decide +kernel
theorem dX11_wouldFall_13 : decode cX11_wouldFall 13 = .ok (.invokevirtual 151, 3) := by decide +kernel
theorem dX11_wouldFall_16 : decode cX11_wouldFall 16 = .ok (.goto 5, 3) := by decide +kernel
theorem dX11_wouldFall_19 : decode cX11_wouldFall 19 = .ok (.bipush (-2), 2) := by decide +kernel
theorem dX11_wouldFall_21 : decode cX11_wouldFall 21 = .ok (.ireturn, 1) := by decide +kernel
theorem dX11_oldIn_0 : decode cX11_oldIn 0 = .ok (.aload_n 0, 1) := by decide +kernel
theorem dX11_oldIn_1 : decode cX11_oldIn 1 = .ok (.iload_n 1, 1) := by decide +kernel
theorem dX11_oldIn_2 : decode cX11_oldIn 2 = .ok (.invokevirtual 95, 3) := by decide +kernel
theorem dX11_oldIn_5 : decode cX11_oldIn 5 = .ok (.ifCond .ne 5, 3) := by decide +kernel
theorem dX11_oldIn_8 : decode cX11_oldIn 8 = .ok (.iconst (-1), 1) := by decide +kernel
theorem dX11_oldIn_9 : decode cX11_oldIn 9 = .ok (.ireturn, 1) := by decide +kernel
theorem dX11_oldIn_10 : decode cX11_oldIn 10 = .ok (.aload_n 0, 1) := by decide +kernel
theorem dX11_oldIn_11 : decode cX11_oldIn 11 = .ok (.invokevirtual 189, 3) := by decide +kernel
theorem dX11_oldIn_14 : decode cX11_oldIn 14 = .ok (.iconst 0, 1) := by decide +kernel
theorem dX11_oldIn_15 : decode cX11_oldIn 15 = .ok (.istore_n 2, 1) := by decide +kernel
theorem dX11_oldIn_16 : decode cX11_oldIn 16 = .ok (.aload_n 0, 1) := by decide +kernel
theorem dX11_oldIn_17 : decode cX11_oldIn 17 = .ok (.iload_n 1, 1) := by decide +kernel
theorem dX11_oldIn_18 : decode cX11_oldIn 18 = .ok (.invokevirtual 95, 3) := by decide +kernel
theorem dX11_oldIn_21 : decode cX11_oldIn 21 = .ok (.ifCond .eq 25, 3) := by decide +kernel
theorem dX11_oldIn_24 : decode cX11_oldIn 24 = .ok (.aload_n 0, 1) := by decide +kernel
theorem dX11_oldIn_25 : decode cX11_oldIn 25 = .ok (.iload_n 1, 1) := by decide +kernel
theorem dX11_oldIn_26 : decode cX11_oldIn 26 = .ok (.iconst 2, 1) := by decide +kernel
theorem dX11_oldIn_27 : decode cX11_oldIn 27 = .ok (.invokevirtual 98, 3) := by decide +kernel
theorem dX11_oldIn_30 : decode cX11_oldIn 30 = .ok (.bipush 20, 2) := by decide +kernel
theorem dX11_oldIn_32 : decode cX11_oldIn 32 = .ok (.if_icmp .gt 14, 3) := by decide +kernel
theorem dX11_oldIn_35 : decode cX11_oldIn 35 = .ok (.aload_n 0, 1) := by decide +kernel
theorem dX11_oldIn_36 : decode cX11_oldIn 36 = .ok (.invokevirtual 154, 3) := by decide +kernel
theorem dX11_oldIn_39 : decode cX11_oldIn 39 = .ok (.istore_n 3, 1) := by decide +kernel
theorem dX11_oldIn_40 : decode cX11_oldIn 40 = .ok (.iinc 2 1, 3) := by decide +kernel
theorem dX11_oldIn_43 : decode cX11_oldIn 43 = .ok (.goto (-27), 3) := by decide +kernel
theorem dX11_oldIn_46 : decode cX11_oldIn 46 = .ok (.aload_n 0, 1) := by decide +kernel
theorem dX11_oldIn_47 : decode cX11_oldIn 47 = .ok (.iload_n 1, 1) := by decide +kernel
theorem dX11_oldIn_48 : decode cX11_oldIn 48 = .ok (.invokevirtual 95, 3) := by decide +kernel
theorem dX11_oldIn_51 : decode cX11_oldIn 51 = .ok (.istore_n 3, 1) := by decide +kernel
theorem dX11_oldIn_52 : decode cX11_oldIn 52 = .ok (.aload_n 0, 1) := by decide +kernel
theorem dX11_oldIn_53 : decode cX11_oldIn 53 = .ok (.invokevirtual 192, 3) := by decide +kernel
theorem dX11_oldIn_56 : decode cX11_oldIn 56 = .ok (.iload_n 3, 1) := by decide +kernel
theorem dX11_oldIn_57 : decode cX11_oldIn 57 = .ok (.ifCond .eq 7, 3) := by decide +kernel
theorem dX11_oldIn_60 : decode cX11_oldIn 60 = .ok (.iload_n 2, 1) := by decide +kernel
theorem dX11_oldIn_61 : decode cX11_oldIn 61 = .ok (.goto 5, 3) := by decide +kernel
theorem dX11_oldIn_64 : decode cX11_oldIn 64 = .ok (.bipush (-4), 2) := by decide +kernel
theorem dX11_oldIn_66 : decode cX11_oldIn 66 = .ok (.ireturn, 1) := by decide +kernel
theorem dX11_doneIn_0 : decode cX11_doneIn 0 = .ok (.aload_n 0, 1) := by decide +kernel
theorem dX11_doneIn_1 : decode cX11_doneIn 1 = .ok (.iload_n 1, 1) := by decide +kernel
theorem dX11_doneIn_2 : decode cX11_doneIn 2 = .ok (.invokevirtual 95, 3) := by decide +kernel
theorem dX11_doneIn_5 : decode cX11_doneIn 5 = .ok (.ifCond .ne 5, 3) := by decide +kernel
theorem dX11_doneIn_8 : decode cX11_doneIn 8 = .ok (.iconst (-1), 1) := by decide +kernel
theorem dX11_doneIn_9 : decode cX11_doneIn 9 = .ok (.ireturn, 1) := by decide +kernel
theorem dX11_doneIn_10 : decode cX11_doneIn 10 = .ok (.aload_n 0, 1) := by decide +kernel
theorem dX11_doneIn_11 : decode cX11_doneIn 11 = .ok (.invokevirtual 189, 3) := by decide +kernel
theorem dX11_doneIn_14 : decode cX11_doneIn 14 = .ok (.iconst 0, 1) := by decide +kernel
theorem dX11_doneIn_15 : decode cX11_doneIn 15 = .ok (.istore_n 2, 1) := by decide +kernel
theorem dX11_doneIn_16 : decode cX11_doneIn 16 = .ok (.iload_n 2, 1) := by decide +kernel
theorem dX11_doneIn_17 : decode cX11_doneIn 17 = .ok (.bipush 60, 2) := by decide +kernel
theorem dX11_doneIn_19 : decode cX11_doneIn 19 = .ok (.if_icmp .gt 31, 3) := by decide +kernel
theorem dX11_doneIn_22 : decode cX11_doneIn 22 = .ok (.aload_n 0, 1) := by decide +kernel
theorem dX11_doneIn_23 : decode cX11_doneIn 23 = .ok (.iload_n 1, 1) := by decide +kernel
theorem dX11_doneIn_24 : decode cX11_doneIn 24 = .ok (.invokevirtual 95, 3) := by decide +kernel
theorem dX11_doneIn_27 : decode cX11_doneIn 27 = .ok (.ifCond .eq 23, 3) := by decide +kernel
theorem dX11_doneIn_30 : decode cX11_doneIn 30 = .ok (.aload_n 0, 1) := by decide +kernel
theorem dX11_doneIn_31 : decode cX11_doneIn 31 = .ok (.iload_n 1, 1) := by decide +kernel
theorem dX11_doneIn_32 : decode cX11_doneIn 32 = .ok (.iconst 3, 1) := by decide +kernel
theorem dX11_doneIn_33 : decode cX11_doneIn 33 = .ok (.invokevirtual 98, 3) := by decide +kernel
theorem dX11_doneIn_36 : decode cX11_doneIn 36 = .ok (.ifCond .le 14, 3) := by decide +kernel
theorem dX11_doneIn_39 : decode cX11_doneIn 39 = .ok (.aload_n 0, 1) := by decide +kernel
theorem dX11_doneIn_40 : decode cX11_doneIn 40 = .ok (.invokevirtual 154, 3) := by decide +kernel
theorem dX11_doneIn_43 : decode cX11_doneIn 43 = .ok (.istore_n 3, 1) := by decide +kernel
theorem dX11_doneIn_44 : decode cX11_doneIn 44 = .ok (.iinc 2 1, 3) := by decide +kernel
theorem dX11_doneIn_47 : decode cX11_doneIn 47 = .ok (.goto (-31), 3) := by decide +kernel
theorem dX11_doneIn_50 : decode cX11_doneIn 50 = .ok (.iload_n 2, 1) := by decide +kernel
theorem dX11_doneIn_51 : decode cX11_doneIn 51 = .ok (.bipush 60, 2) := by decide +kernel
theorem dX11_doneIn_53 : decode cX11_doneIn 53 = .ok (.if_icmp .gt 15, 3) := by decide +kernel
theorem dX11_doneIn_56 : decode cX11_doneIn 56 = .ok (.aload_n 0, 1) := by decide +kernel
theorem dX11_doneIn_57 : decode cX11_doneIn 57 = .ok (.iload_n 1, 1) := by decide +kernel
theorem dX11_doneIn_58 : decode cX11_doneIn 58 = .ok (.invokevirtual 95, 3) := by decide +kernel
theorem dX11_doneIn_61 : decode cX11_doneIn 61 = .ok (.ifCond .eq 7, 3) := by decide +kernel
theorem dX11_doneIn_64 : decode cX11_doneIn 64 = .ok (.iconst 1, 1) := by decide +kernel
theorem dX11_doneIn_65 : decode cX11_doneIn 65 = .ok (.goto 4, 3) := by decide +kernel
theorem dX11_doneIn_68 : decode cX11_doneIn 68 = .ok (.iconst 0, 1) := by decide +kernel
theorem dX11_doneIn_69 : decode cX11_doneIn 69 = .ok (.istore_n 3, 1) := by decide +kernel
theorem dX11_doneIn_70 : decode cX11_doneIn 70 = .ok (.aload_n 0, 1) := by decide +kernel
theorem dX11_doneIn_71 : decode cX11_doneIn 71 = .ok (.invokevirtual 192, 3) := by decide +kernel
theorem dX11_doneIn_74 : decode cX11_doneIn 74 = .ok (.iload_n 3, 1) := by decide +kernel
theorem dX11_doneIn_75 : decode cX11_doneIn 75 = .ok (.ifCond .eq 7, 3) := by decide +kernel
theorem dX11_doneIn_78 : decode cX11_doneIn 78 = .ok (.iload_n 2, 1) := by decide +kernel
theorem dX11_doneIn_79 : decode cX11_doneIn 79 = .ok (.goto 5, 3) := by decide +kernel
theorem dX11_doneIn_82 : decode cX11_doneIn 82 = .ok (.bipush (-4), 2) := by decide +kernel
theorem dX11_doneIn_84 : decode cX11_doneIn 84 = .ok (.ireturn, 1) := by decide +kernel
theorem dX11_writes_0 : decode cX11_writes 0 = .ok (.aload_n 0, 1) := by decide +kernel
theorem dX11_writes_1 : decode cX11_writes 1 = .ok (.getfield 25, 3) := by decide +kernel
theorem dX11_writes_4 : decode cX11_writes 4 = .ok (.aload_n 0, 1) := by decide +kernel
theorem dX11_writes_5 : decode cX11_writes 5 = .ok (.dup, 1) := by decide +kernel
theorem dX11_writes_6 : decode cX11_writes 6 = .ok (.getfield 195, 3) := by decide +kernel
theorem dX11_writes_9 : decode cX11_writes 9 = .ok (.dup_x1, 1) := by decide +kernel
theorem dX11_writes_10 : decode cX11_writes 10 = .ok (.iconst 1, 1) := by decide +kernel
theorem dX11_writes_11 : decode cX11_writes 11 = .ok (.iadd, 1) := by decide +kernel
theorem dX11_writes_12 : decode cX11_writes 12 = .ok (.putfield 195, 3) := by decide +kernel
theorem dX11_writes_15 : decode cX11_writes 15 = .ok (.iload_n 1, 1) := by decide +kernel
theorem dX11_writes_16 : decode cX11_writes 16 = .ok (.iastore, 1) := by decide +kernel
theorem dX11_writes_17 : decode cX11_writes 17 = .ok (.return_, 1) := by decide +kernel
theorem dX11_writesNumber_0 : decode cX11_writesNumber 0 = .ok (.iload_n 1, 1) := by decide +kernel
theorem dX11_writesNumber_1 : decode cX11_writesNumber 1 = .ok (.bipush 9, 2) := by decide +kernel
theorem dX11_writesNumber_3 : decode cX11_writesNumber 3 = .ok (.if_icmp .le 11, 3) := by decide +kernel
theorem dX11_writesNumber_6 : decode cX11_writesNumber 6 = .ok (.aload_n 0, 1) := by decide +kernel
theorem dX11_writesNumber_7 : decode cX11_writesNumber 7 = .ok (.iload_n 1, 1) := by decide +kernel
theorem dX11_writesNumber_8 : decode cX11_writesNumber 8 = .ok (.bipush 10, 2) := by decide +kernel
theorem dX11_writesNumber_10 : decode cX11_writesNumber 10 = .ok (.idiv, 1) := by decide +kernel
theorem dX11_writesNumber_11 : decode cX11_writesNumber 11 = .ok (.invokevirtual 198, 3) := by decide +kernel
theorem dX11_writesNumber_14 : decode cX11_writesNumber 14 = .ok (.aload_n 0, 1) := by decide +kernel
theorem dX11_writesNumber_15 : decode cX11_writesNumber 15 = .ok (.getfield 25, 3) := by decide +kernel
theorem dX11_writesNumber_18 : decode cX11_writesNumber 18 = .ok (.aload_n 0, 1) := by decide +kernel
theorem dX11_writesNumber_19 : decode cX11_writesNumber 19 = .ok (.dup, 1) := by decide +kernel
theorem dX11_writesNumber_20 : decode cX11_writesNumber 20 = .ok (.getfield 195, 3) := by decide +kernel
theorem dX11_writesNumber_23 : decode cX11_writesNumber 23 = .ok (.dup_x1, 1) := by decide +kernel
theorem dX11_writesNumber_24 : decode cX11_writesNumber 24 = .ok (.iconst 1, 1) := by decide +kernel
theorem dX11_writesNumber_25 : decode cX11_writesNumber 25 = .ok (.iadd, 1) := by decide +kernel
theorem dX11_writesNumber_26 : decode cX11_writesNumber 26 = .ok (.putfield 195, 3) := by decide +kernel
theorem dX11_writesNumber_29 : decode cX11_writesNumber 29 = .ok (.bipush 48, 2) := by decide +kernel
theorem dX11_writesNumber_31 : decode cX11_writesNumber 31 = .ok (.iload_n 1, 1) := by decide +kernel
theorem dX11_writesNumber_32 : decode cX11_writesNumber 32 = .ok (.bipush 10, 2) := by decide +kernel
theorem dX11_writesNumber_34 : decode cX11_writesNumber 34 = .ok (.irem, 1) := by decide +kernel
theorem dX11_writesNumber_35 : decode cX11_writesNumber 35 = .ok (.iadd, 1) := by decide +kernel
theorem dX11_writesNumber_36 : decode cX11_writesNumber 36 = .ok (.iastore, 1) := by decide +kernel
theorem dX11_writesNumber_37 : decode cX11_writesNumber 37 = .ok (.return_, 1) := by decide +kernel
theorem dX11_describe_0 : decode cX11_describe 0 = .ok (.aload_n 0, 1) := by decide +kernel
theorem dX11_describe_1 : decode cX11_describe 1 = .ok (.iconst 0, 1) := by decide +kernel
theorem dX11_describe_2 : decode cX11_describe 2 = .ok (.putfield 195, 3) := by decide +kernel
theorem dX11_describe_5 : decode cX11_describe 5 = .ok (.aload_n 0, 1) := by decide +kernel
theorem dX11_describe_6 : decode cX11_describe 6 = .ok (.getfield 9, 3) := by decide +kernel
theorem dX11_describe_9 : decode cX11_describe 9 = .ok (.iconst 3, 1) := by decide +kernel
theorem dX11_describe_10 : decode cX11_describe 10 = .ok (.iaload, 1) := by decide +kernel
theorem dX11_describe_11 : decode cX11_describe 11 = .ok (.iconst 1, 1) := by decide +kernel
theorem dX11_describe_12 : decode cX11_describe 12 = .ok (.isub, 1) := by decide +kernel
theorem dX11_describe_13 : decode cX11_describe 13 = .ok (.istore_n 1, 1) := by decide +kernel
theorem dX11_describe_14 : decode cX11_describe 14 = .ok (.iload_n 1, 1) := by decide +kernel
theorem dX11_describe_15 : decode cX11_describe 15 = .ok (.ifCond .lt 121, 3) := by decide +kernel
theorem dX11_describe_18 : decode cX11_describe 18 = .ok (.aload_n 0, 1) := by decide +kernel
theorem dX11_describe_19 : decode cX11_describe 19 = .ok (.iload_n 1, 1) := by decide +kernel
theorem dX11_describe_20 : decode cX11_describe 20 = .ok (.invokevirtual 198, 3) := by decide +kernel
theorem dX11_describe_23 : decode cX11_describe 23 = .ok (.aload_n 0, 1) := by decide +kernel
theorem dX11_describe_24 : decode cX11_describe 24 = .ok (.bipush 58, 2) := by decide +kernel
theorem dX11_describe_26 : decode cX11_describe 26 = .ok (.invokevirtual 202, 3) := by decide +kernel
theorem dX11_describe_29 : decode cX11_describe 29 = .ok (.aload_n 0, 1) := by decide +kernel
theorem dX11_describe_30 : decode cX11_describe 30 = .ok (.aload_n 0, 1) := by decide +kernel
theorem dX11_describe_31 : decode cX11_describe 31 = .ok (.iload_n 1, 1) := by decide +kernel
theorem dX11_describe_32 : decode cX11_describe 32 = .ok (.iconst 0, 1) := by decide +kernel
theorem dX11_describe_33 : decode cX11_describe 33 = .ok (.invokevirtual 98, 3) := by decide +kernel
theorem dX11_describe_36 : decode cX11_describe 36 = .ok (.invokevirtual 198, 3) := by decide +kernel
theorem dX11_describe_39 : decode cX11_describe 39 = .ok (.aload_n 0, 1) := by decide +kernel
theorem dX11_describe_40 : decode cX11_describe 40 = .ok (.bipush 112, 2) := by decide +kernel
theorem dX11_describe_42 : decode cX11_describe 42 = .ok (.invokevirtual 202, 3) := by decide +kernel
theorem dX11_describe_45 : decode cX11_describe 45 = .ok (.aload_n 0, 1) := by decide +kernel
theorem dX11_describe_46 : decode cX11_describe 46 = .ok (.aload_n 0, 1) := by decide +kernel
theorem dX11_describe_47 : decode cX11_describe 47 = .ok (.iload_n 1, 1) := by decide +kernel
theorem dX11_describe_48 : decode cX11_describe 48 = .ok (.iconst 2, 1) := by decide +kernel
theorem dX11_describe_49 : decode cX11_describe 49 = .ok (.invokevirtual 98, 3) := by decide +kernel
theorem dX11_describe_52 : decode cX11_describe 52 = .ok (.invokevirtual 198, 3) := by decide +kernel
theorem dX11_describe_55 : decode cX11_describe 55 = .ok (.aload_n 0, 1) := by decide +kernel
theorem dX11_describe_56 : decode cX11_describe 56 = .ok (.iload_n 1, 1) := by decide +kernel
theorem dX11_describe_57 : decode cX11_describe 57 = .ok (.iconst 5, 1) := by decide +kernel
theorem dX11_describe_58 : decode cX11_describe 58 = .ok (.invokevirtual 98, 3) := by decide +kernel
theorem dX11_describe_61 : decode cX11_describe 61 = .ok (.ifCond .le 9, 3) := by decide +kernel
theorem dX11_describe_64 : decode cX11_describe 64 = .ok (.aload_n 0, 1) := by decide +kernel
theorem dX11_describe_65 : decode cX11_describe 65 = .ok (.bipush 35, 2) := by decide +kernel
theorem dX11_describe_67 : decode cX11_describe 67 = .ok (.invokevirtual 202, 3) := by decide +kernel
theorem dX11_describe_70 : decode cX11_describe 70 = .ok (.aload_n 0, 1) := by decide +kernel
theorem dX11_describe_71 : decode cX11_describe 71 = .ok (.iload_n 1, 1) := by decide +kernel
theorem dX11_describe_72 : decode cX11_describe 72 = .ok (.invokevirtual 116, 3) := by decide +kernel
theorem dX11_describe_75 : decode cX11_describe 75 = .ok (.invokestatic 119, 3) := by decide +kernel
theorem dX11_describe_78 : decode cX11_describe 78 = .ok (.istore_n 2, 1) := by decide +kernel
theorem dX11_describe_79 : decode cX11_describe 79 = .ok (.iload_n 2, 1) := by decide +kernel
theorem dX11_describe_80 : decode cX11_describe 80 = .ok (.ifCond .le 15, 3) := by decide +kernel
theorem dX11_describe_83 : decode cX11_describe 83 = .ok (.aload_n 0, 1) := by decide +kernel
theorem dX11_describe_84 : decode cX11_describe 84 = .ok (.bipush 42, 2) := by decide +kernel
theorem dX11_describe_86 : decode cX11_describe 86 = .ok (.invokevirtual 202, 3) := by decide +kernel
theorem dX11_describe_89 : decode cX11_describe 89 = .ok (.iinc 2 (-1), 3) := by decide +kernel
theorem dX11_describe_92 : decode cX11_describe 92 = .ok (.goto (-13), 3) := by decide +kernel
theorem dX11_describe_95 : decode cX11_describe 95 = .ok (.aload_n 0, 1) := by decide +kernel
theorem dX11_describe_96 : decode cX11_describe 96 = .ok (.iload_n 1, 1) := by decide +kernel
theorem dX11_describe_97 : decode cX11_describe 97 = .ok (.iconst 3, 1) := by decide +kernel
theorem dX11_describe_98 : decode cX11_describe 98 = .ok (.invokevirtual 98, 3) := by decide +kernel
theorem dX11_describe_101 : decode cX11_describe 101 = .ok (.ifCond .le 19, 3) := by decide +kernel
theorem dX11_describe_104 : decode cX11_describe 104 = .ok (.aload_n 0, 1) := by decide +kernel
theorem dX11_describe_105 : decode cX11_describe 105 = .ok (.bipush 119, 2) := by decide +kernel
theorem dX11_describe_107 : decode cX11_describe 107 = .ok (.invokevirtual 202, 3) := by decide +kernel
theorem dX11_describe_110 : decode cX11_describe 110 = .ok (.aload_n 0, 1) := by decide +kernel
theorem dX11_describe_111 : decode cX11_describe 111 = .ok (.aload_n 0, 1) := by decide +kernel
theorem dX11_describe_112 : decode cX11_describe 112 = .ok (.iload_n 1, 1) := by decide +kernel
theorem dX11_describe_113 : decode cX11_describe 113 = .ok (.iconst 3, 1) := by decide +kernel
theorem dX11_describe_114 : decode cX11_describe 114 = .ok (.invokevirtual 98, 3) := by decide +kernel
theorem dX11_describe_117 : decode cX11_describe 117 = .ok (.invokevirtual 198, 3) := by decide +kernel
theorem dX11_describe_120 : decode cX11_describe 120 = .ok (.iload_n 1, 1) := by decide +kernel
theorem dX11_describe_121 : decode cX11_describe 121 = .ok (.ifCond .le 9, 3) := by decide +kernel
theorem dX11_describe_124 : decode cX11_describe 124 = .ok (.aload_n 0, 1) := by decide +kernel
theorem dX11_describe_125 : decode cX11_describe 125 = .ok (.bipush 32, 2) := by decide +kernel
theorem dX11_describe_127 : decode cX11_describe 127 = .ok (.invokevirtual 202, 3) := by decide +kernel
theorem dX11_describe_130 : decode cX11_describe 130 = .ok (.iinc 1 (-1), 3) := by decide +kernel
theorem dX11_describe_133 : decode cX11_describe 133 = .ok (.goto (-119), 3) := by decide +kernel
theorem dX11_describe_136 : decode cX11_describe 136 = .ok (.iconst 0, 1) := by decide +kernel
theorem dX11_describe_137 : decode cX11_describe 137 = .ok (.istore_n 1, 1) := by decide +kernel
theorem dX11_describe_138 : decode cX11_describe 138 = .ok (.iload_n 1, 1) := by decide +kernel
theorem dX11_describe_139 : decode cX11_describe 139 = .ok (.iconst 4, 1) := by decide +kernel
theorem dX11_describe_140 : decode cX11_describe 140 = .ok (.if_icmp .ge 28, 3) := by decide +kernel
theorem dX11_describe_143 : decode cX11_describe 143 = .ok (.aload_n 0, 1) := by decide +kernel
theorem dX11_describe_144 : decode cX11_describe 144 = .ok (.getfield 9, 3) := by decide +kernel
theorem dX11_describe_147 : decode cX11_describe 147 = .ok (.iconst 3, 1) := by decide +kernel
theorem dX11_describe_148 : decode cX11_describe 148 = .ok (.iaload, 1) := by decide +kernel
theorem dX11_describe_149 : decode cX11_describe 149 = .ok (.ifCond .ne 19, 3) := by decide +kernel
theorem dX11_describe_152 : decode cX11_describe 152 = .ok (.aload_n 0, 1) := by decide +kernel
theorem dX11_describe_153 : decode cX11_describe 153 = .ok (.ldc 206, 2) := by decide +kernel
theorem dX11_describe_155 : decode cX11_describe 155 = .ok (.iload_n 1, 1) := by decide +kernel
theorem dX11_describe_156 : decode cX11_describe 156 = .ok (.invokevirtual 208, 3) := by decide +kernel
theorem dX11_describe_159 : decode cX11_describe 159 = .ok (.invokevirtual 202, 3) := by decide +kernel
theorem dX11_describe_162 : decode cX11_describe 162 = .ok (.iinc 1 1, 3) := by decide +kernel
theorem dX11_describe_165 : decode cX11_describe 165 = .ok (.goto (-27), 3) := by decide +kernel
theorem dX11_describe_168 : decode cX11_describe 168 = .ok (.aload_n 0, 1) := by decide +kernel
theorem dX11_describe_169 : decode cX11_describe 169 = .ok (.getfield 195, 3) := by decide +kernel
theorem dX11_describe_172 : decode cX11_describe 172 = .ok (.ireturn, 1) := by decide +kernel
theorem dX11_written_0 : decode cX11_written 0 = .ok (.iload_n 1, 1) := by decide +kernel
theorem dX11_written_1 : decode cX11_written 1 = .ok (.iconst 0, 1) := by decide +kernel
theorem dX11_written_2 : decode cX11_written 2 = .ok (.aload_n 0, 1) := by decide +kernel
theorem dX11_written_3 : decode cX11_written 3 = .ok (.getfield 195, 3) := by decide +kernel
theorem dX11_written_6 : decode cX11_written 6 = .ok (.iconst 1, 1) := by decide +kernel
theorem dX11_written_7 : decode cX11_written 7 = .ok (.isub, 1) := by decide +kernel
theorem dX11_written_8 : decode cX11_written 8 = .ok (.invokestatic 58, 3) := by decide +kernel
theorem dX11_written_11 : decode cX11_written 11 = .ok (.ifCond .eq 12, 3) := by decide +kernel
theorem dX11_written_14 : decode cX11_written 14 = .ok (.aload_n 0, 1) := by decide +kernel
theorem dX11_written_15 : decode cX11_written 15 = .ok (.getfield 25, 3) := by decide +kernel
theorem dX11_written_18 : decode cX11_written 18 = .ok (.iload_n 1, 1) := by decide +kernel
theorem dX11_written_19 : decode cX11_written 19 = .ok (.iaload, 1) := by decide +kernel
theorem dX11_written_20 : decode cX11_written 20 = .ok (.goto 4, 3) := by decide +kernel
theorem dX11_written_23 : decode cX11_written 23 = .ok (.iconst (-1), 1) := by decide +kernel
theorem dX11_written_24 : decode cX11_written 24 = .ok (.ireturn, 1) := by decide +kernel
theorem dX11_sum_0 : decode cX11_sum 0 = .ok (.iconst 0, 1) := by decide +kernel
theorem dX11_sum_1 : decode cX11_sum 1 = .ok (.istore_n 2, 1) := by decide +kernel
theorem dX11_sum_2 : decode cX11_sum 2 = .ok (.iconst 0, 1) := by decide +kernel
theorem dX11_sum_3 : decode cX11_sum 3 = .ok (.istore_n 3, 1) := by decide +kernel
theorem dX11_sum_4 : decode cX11_sum 4 = .ok (.iload_n 3, 1) := by decide +kernel
theorem dX11_sum_5 : decode cX11_sum 5 = .ok (.aload_n 0, 1) := by decide +kernel
theorem dX11_sum_6 : decode cX11_sum 6 = .ok (.getfield 9, 3) := by decide +kernel
theorem dX11_sum_9 : decode cX11_sum 9 = .ok (.iconst 3, 1) := by decide +kernel
theorem dX11_sum_10 : decode cX11_sum 10 = .ok (.iaload, 1) := by decide +kernel
theorem dX11_sum_11 : decode cX11_sum 11 = .ok (.if_icmp .ge 18, 3) := by decide +kernel
theorem dX11_sum_14 : decode cX11_sum 14 = .ok (.iload_n 2, 1) := by decide +kernel
theorem dX11_sum_15 : decode cX11_sum 15 = .ok (.aload_n 0, 1) := by decide +kernel
theorem dX11_sum_16 : decode cX11_sum 16 = .ok (.iload_n 3, 1) := by decide +kernel
theorem dX11_sum_17 : decode cX11_sum 17 = .ok (.iload_n 1, 1) := by decide +kernel
theorem dX11_sum_18 : decode cX11_sum 18 = .ok (.invokevirtual 98, 3) := by decide +kernel
theorem dX11_sum_21 : decode cX11_sum 21 = .ok (.iadd, 1) := by decide +kernel
theorem dX11_sum_22 : decode cX11_sum 22 = .ok (.istore_n 2, 1) := by decide +kernel
theorem dX11_sum_23 : decode cX11_sum 23 = .ok (.iinc 3 1, 3) := by decide +kernel
theorem dX11_sum_26 : decode cX11_sum 26 = .ok (.goto (-22), 3) := by decide +kernel
theorem dX11_sum_29 : decode cX11_sum 29 = .ok (.iload_n 2, 1) := by decide +kernel
theorem dX11_sum_30 : decode cX11_sum 30 = .ok (.ireturn, 1) := by decide +kernel
theorem dX11_work_0 : decode cX11_work 0 = .ok (.iload_n 1, 1) := by decide +kernel
theorem dX11_work_1 : decode cX11_work 1 = .ok (.ifCond .eq 29, 3) := by decide +kernel
theorem dX11_work_4 : decode cX11_work 4 = .ok (.aload_n 0, 1) := by decide +kernel
theorem dX11_work_5 : decode cX11_work 5 = .ok (.getfield 9, 3) := by decide +kernel
theorem dX11_work_8 : decode cX11_work 8 = .ok (.bipush 12, 2) := by decide +kernel
theorem dX11_work_10 : decode cX11_work 10 = .ok (.iaload, 1) := by decide +kernel
theorem dX11_work_11 : decode cX11_work 11 = .ok (.aload_n 0, 1) := by decide +kernel
theorem dX11_work_12 : decode cX11_work 12 = .ok (.getfield 9, 3) := by decide +kernel
theorem dX11_work_15 : decode cX11_work 15 = .ok (.bipush 9, 2) := by decide +kernel
theorem dX11_work_17 : decode cX11_work 17 = .ok (.iaload, 1) := by decide +kernel
theorem dX11_work_18 : decode cX11_work 18 = .ok (.isub, 1) := by decide +kernel
theorem dX11_work_19 : decode cX11_work 19 = .ok (.aload_n 0, 1) := by decide +kernel
theorem dX11_work_20 : decode cX11_work 20 = .ok (.getfield 9, 3) := by decide +kernel
theorem dX11_work_23 : decode cX11_work 23 = .ok (.bipush 13, 2) := by decide +kernel
theorem dX11_work_25 : decode cX11_work 25 = .ok (.iaload, 1) := by decide +kernel
theorem dX11_work_26 : decode cX11_work 26 = .ok (.isub, 1) := by decide +kernel
theorem dX11_work_27 : decode cX11_work 27 = .ok (.goto 8, 3) := by decide +kernel
theorem dX11_work_30 : decode cX11_work 30 = .ok (.aload_n 0, 1) := by decide +kernel
theorem dX11_work_31 : decode cX11_work 31 = .ok (.iconst 3, 1) := by decide +kernel
theorem dX11_work_32 : decode cX11_work 32 = .ok (.invokevirtual 214, 3) := by decide +kernel
theorem dX11_work_35 : decode cX11_work 35 = .ok (.ireturn, 1) := by decide +kernel
theorem dX11_meanStrength_0 : decode cX11_meanStrength 0 = .ok (.aload_n 0, 1) := by decide +kernel
theorem dX11_meanStrength_1 : decode cX11_meanStrength 1 = .ok (.getfield 9, 3) := by decide +kernel
theorem dX11_meanStrength_4 : decode cX11_meanStrength 4 = .ok (.iconst 3, 1) := by decide +kernel
theorem dX11_meanStrength_5 : decode cX11_meanStrength 5 = .ok (.iaload, 1) := by decide +kernel
theorem dX11_meanStrength_6 : decode cX11_meanStrength 6 = .ok (.istore_n 1, 1) := by decide +kernel
theorem dX11_meanStrength_7 : decode cX11_meanStrength 7 = .ok (.iload_n 1, 1) := by decide +kernel
theorem dX11_meanStrength_8 : decode cX11_meanStrength 8 = .ok (.ifCond .ne 5, 3) := by decide +kernel
theorem dX11_meanStrength_11 : decode cX11_meanStrength 11 = .ok (.fconst 0, 1) := by decide +kernel
theorem dX11_meanStrength_12 : decode cX11_meanStrength 12 = .ok (.freturn, 1) := by decide +kernel
theorem dX11_meanStrength_13 : decode cX11_meanStrength 13 = .ok (.iconst 0, 1) := by decide +kernel
theorem dX11_meanStrength_14 : decode cX11_meanStrength 14 = .ok (.istore_n 2, 1) := by decide +kernel
theorem dX11_meanStrength_15 : decode cX11_meanStrength 15 = .ok (.iconst 0, 1) := by decide +kernel
theorem dX11_meanStrength_16 : decode cX11_meanStrength 16 = .ok (.istore_n 3, 1) := by decide +kernel
theorem dX11_meanStrength_17 : decode cX11_meanStrength 17 = .ok (.iload_n 3, 1) := by decide +kernel
theorem dX11_meanStrength_18 : decode cX11_meanStrength 18 = .ok (.iload_n 1, 1) := by decide +kernel
theorem dX11_meanStrength_19 : decode cX11_meanStrength 19 = .ok (.if_icmp .ge 17, 3) := by decide +kernel
theorem dX11_meanStrength_22 : decode cX11_meanStrength 22 = .ok (.iload_n 2, 1) := by decide +kernel
theorem dX11_meanStrength_23 : decode cX11_meanStrength 23 = .ok (.aload_n 0, 1) := by decide +kernel
theorem dX11_meanStrength_24 : decode cX11_meanStrength 24 = .ok (.iload_n 3, 1) := by decide +kernel
theorem dX11_meanStrength_25 : decode cX11_meanStrength 25 = .ok (.invokevirtual 145, 3) := by decide +kernel
theorem dX11_meanStrength_28 : decode cX11_meanStrength 28 = .ok (.iadd, 1) := by decide +kernel
theorem dX11_meanStrength_29 : decode cX11_meanStrength 29 = .ok (.istore_n 2, 1) := by decide +kernel
theorem dX11_meanStrength_30 : decode cX11_meanStrength 30 = .ok (.iinc 3 1, 3) := by decide +kernel
theorem dX11_meanStrength_33 : decode cX11_meanStrength 33 = .ok (.goto (-16), 3) := by decide +kernel
theorem dX11_meanStrength_36 : decode cX11_meanStrength 36 = .ok (.iload_n 2, 1) := by decide +kernel
theorem dX11_meanStrength_37 : decode cX11_meanStrength 37 = .ok (.i2f, 1) := by decide +kernel
theorem dX11_meanStrength_38 : decode cX11_meanStrength 38 = .ok (.iload_n 1, 1) := by decide +kernel
theorem dX11_meanStrength_39 : decode cX11_meanStrength 39 = .ok (.i2f, 1) := by decide +kernel
theorem dX11_meanStrength_40 : decode cX11_meanStrength 40 = .ok (.fdiv, 1) := by decide +kernel
theorem dX11_meanStrength_41 : decode cX11_meanStrength 41 = .ok (.freturn, 1) := by decide +kernel
theorem dX11_doneShare_0 : decode cX11_doneShare 0 = .ok (.aload_n 0, 1) := by decide +kernel
theorem dX11_doneShare_1 : decode cX11_doneShare 1 = .ok (.getfield 9, 3) := by decide +kernel
theorem dX11_doneShare_4 : decode cX11_doneShare 4 = .ok (.bipush 12, 2) := by decide +kernel
theorem dX11_doneShare_6 : decode cX11_doneShare 6 = .ok (.iaload, 1) := by decide +kernel
theorem dX11_doneShare_7 : decode cX11_doneShare 7 = .ok (.ifCond .ne 7, 3) := by decide +kernel
theorem dX11_doneShare_10 : decode cX11_doneShare 10 = .ok (.dconst 0, 1) := by decide +kernel
theorem dX11_doneShare_11 : decode cX11_doneShare 11 = .ok (.goto 20, 3) := by decide +kernel
theorem dX11_doneShare_14 : decode cX11_doneShare 14 = .ok (.aload_n 0, 1) := by decide +kernel
theorem dX11_doneShare_15 : decode cX11_doneShare 15 = .ok (.getfield 9, 3) := by decide +kernel
theorem dX11_doneShare_18 : decode cX11_doneShare 18 = .ok (.bipush 9, 2) := by decide +kernel
theorem dX11_doneShare_20 : decode cX11_doneShare 20 = .ok (.iaload, 1) := by decide +kernel
theorem dX11_doneShare_21 : decode cX11_doneShare 21 = .ok (.i2d, 1) := by decide +kernel
theorem dX11_doneShare_22 : decode cX11_doneShare 22 = .ok (.aload_n 0, 1) := by decide +kernel
theorem dX11_doneShare_23 : decode cX11_doneShare 23 = .ok (.getfield 9, 3) := by decide +kernel
theorem dX11_doneShare_26 : decode cX11_doneShare 26 = .ok (.bipush 12, 2) := by decide +kernel
theorem dX11_doneShare_28 : decode cX11_doneShare 28 = .ok (.iaload, 1) := by decide +kernel
theorem dX11_doneShare_29 : decode cX11_doneShare 29 = .ok (.i2d, 1) := by decide +kernel
theorem dX11_doneShare_30 : decode cX11_doneShare 30 = .ok (.ddiv, 1) := by decide +kernel
theorem dX11_doneShare_31 : decode cX11_doneShare 31 = .ok (.dreturn, 1) := by decide +kernel
theorem dX11_account_0 : decode cX11_account 0 = .ok (.iconst 0, 1) := by decide +kernel
theorem dX11_account_1 : decode cX11_account 1 = .ok (.istore_n 2, 1) := by decide +kernel
theorem dX11_account_2 : decode cX11_account 2 = .ok (.iload_n 1, 1) := by decide +kernel
theorem dX11_account_3 : decode cX11_account 3 = .ok (.tableswitch 326 0 18 #[89, 96, 103, 110, 144, 151, 183, 217, 224, 255, 263, 271, 277, 284, 292, 300, 308, 316, 321], 89) := by decide +kernel
theorem dX11_account_92 : decode cX11_account 92 = .ok (.aload_n 0, 1) := by decide +kernel
theorem dX11_account_93 : decode cX11_account 93 = .ok (.getfield 9, 3) := by decide +kernel
theorem dX11_account_96 : decode cX11_account 96 = .ok (.iconst 0, 1) := by decide +kernel
theorem dX11_account_97 : decode cX11_account 97 = .ok (.iaload, 1) := by decide +kernel
theorem dX11_account_98 : decode cX11_account 98 = .ok (.ireturn, 1) := by decide +kernel
theorem dX11_account_99 : decode cX11_account 99 = .ok (.aload_n 0, 1) := by decide +kernel
theorem dX11_account_100 : decode cX11_account 100 = .ok (.getfield 9, 3) := by decide +kernel
theorem dX11_account_103 : decode cX11_account 103 = .ok (.iconst 1, 1) := by decide +kernel
theorem dX11_account_104 : decode cX11_account 104 = .ok (.iaload, 1) := by decide +kernel
theorem dX11_account_105 : decode cX11_account 105 = .ok (.ireturn, 1) := by decide +kernel
theorem dX11_account_106 : decode cX11_account 106 = .ok (.aload_n 0, 1) := by decide +kernel
theorem dX11_account_107 : decode cX11_account 107 = .ok (.getfield 9, 3) := by decide +kernel
theorem dX11_account_110 : decode cX11_account 110 = .ok (.iconst 2, 1) := by decide +kernel
theorem dX11_account_111 : decode cX11_account 111 = .ok (.iaload, 1) := by decide +kernel
theorem dX11_account_112 : decode cX11_account 112 = .ok (.ireturn, 1) := by decide +kernel
theorem dX11_account_113 : decode cX11_account 113 = .ok (.iconst 0, 1) := by decide +kernel
theorem dX11_account_114 : decode cX11_account 114 = .ok (.istore_n 3, 1) := by decide +kernel
theorem dX11_account_115 : decode cX11_account 115 = .ok (.iload_n 3, 1) := by decide +kernel
theorem dX11_account_116 : decode cX11_account 116 = .ok (.aload_n 0, 1) := by decide +kernel
theorem dX11_account_117 : decode cX11_account 117 = .ok (.getfield 9, 3) := by decide +kernel
theorem dX11_account_120 : decode cX11_account 120 = .ok (.iconst 2, 1) := by decide +kernel
theorem dX11_account_121 : decode cX11_account 121 = .ok (.iaload, 1) := by decide +kernel
theorem dX11_account_122 : decode cX11_account 122 = .ok (.if_icmp .ge 23, 3) := by decide +kernel
theorem dX11_account_125 : decode cX11_account 125 = .ok (.iload_n 2, 1) := by decide +kernel
theorem dX11_account_126 : decode cX11_account 126 = .ok (.aload_n 0, 1) := by decide +kernel
theorem dX11_account_127 : decode cX11_account 127 = .ok (.getfield 9, 3) := by decide +kernel
theorem dX11_account_130 : decode cX11_account 130 = .ok (.bipush 14, 2) := by decide +kernel
theorem dX11_account_132 : decode cX11_account 132 = .ok (.iconst 2, 1) := by decide +kernel
theorem dX11_account_133 : decode cX11_account 133 = .ok (.iload_n 3, 1) := by decide +kernel
theorem dX11_account_134 : decode cX11_account 134 = .ok (.imul, 1) := by decide +kernel
theorem dX11_account_135 : decode cX11_account 135 = .ok (.iadd, 1) := by decide +kernel
theorem dX11_account_136 : decode cX11_account 136 = .ok (.iaload, 1) := by decide +kernel
theorem dX11_account_137 : decode cX11_account 137 = .ok (.iadd, 1) := by decide +kernel
theorem dX11_account_138 : decode cX11_account 138 = .ok (.istore_n 2, 1) := by decide +kernel
theorem dX11_account_139 : decode cX11_account 139 = .ok (.iinc 3 1, 3) := by decide +kernel
theorem dX11_account_142 : decode cX11_account 142 = .ok (.goto (-27), 3) := by decide +kernel
theorem dX11_account_145 : decode cX11_account 145 = .ok (.iload_n 2, 1) := by decide +kernel
theorem dX11_account_146 : decode cX11_account 146 = .ok (.ireturn, 1) := by decide +kernel
theorem dX11_account_147 : decode cX11_account 147 = .ok (.aload_n 0, 1) := by decide +kernel
theorem dX11_account_148 : decode cX11_account 148 = .ok (.getfield 9, 3) := by decide +kernel
theorem dX11_account_151 : decode cX11_account 151 = .ok (.iconst 3, 1) := by decide +kernel
theorem dX11_account_152 : decode cX11_account 152 = .ok (.iaload, 1) := by decide +kernel
theorem dX11_account_153 : decode cX11_account 153 = .ok (.ireturn, 1) := by decide +kernel
theorem dX11_account_154 : decode cX11_account 154 = .ok (.iconst 0, 1) := by decide +kernel
theorem dX11_account_155 : decode cX11_account 155 = .ok (.istore_n 3, 1) := by decide +kernel
theorem dX11_account_156 : decode cX11_account 156 = .ok (.iload_n 3, 1) := by decide +kernel
theorem dX11_account_157 : decode cX11_account 157 = .ok (.aload_n 0, 1) := by decide +kernel
theorem dX11_account_158 : decode cX11_account 158 = .ok (.getfield 9, 3) := by decide +kernel
theorem dX11_account_161 : decode cX11_account 161 = .ok (.iconst 3, 1) := by decide +kernel
theorem dX11_account_162 : decode cX11_account 162 = .ok (.iaload, 1) := by decide +kernel
theorem dX11_account_163 : decode cX11_account 163 = .ok (.if_icmp .ge 21, 3) := by decide +kernel
theorem dX11_account_166 : decode cX11_account 166 = .ok (.aload_n 0, 1) := by decide +kernel
theorem dX11_account_167 : decode cX11_account 167 = .ok (.iload_n 3, 1) := by decide +kernel
theorem dX11_account_168 : decode cX11_account 168 = .ok (.iconst 5, 1) := by decide +kernel
theorem dX11_account_169 : decode cX11_account 169 = .ok (.invokevirtual 98, 3) := by decide +kernel
theorem dX11_account_172 : decode cX11_account 172 = .ok (.ifCond .le 6, 3) := by decide +kernel
theorem dX11_account_175 : decode cX11_account 175 = .ok (.iinc 2 1, 3) := by decide +kernel
theorem dX11_account_178 : decode cX11_account 178 = .ok (.iinc 3 1, 3) := by decide +kernel
theorem dX11_account_181 : decode cX11_account 181 = .ok (.goto (-25), 3) := by decide +kernel
theorem dX11_account_184 : decode cX11_account 184 = .ok (.iload_n 2, 1) := by decide +kernel
theorem dX11_account_185 : decode cX11_account 185 = .ok (.ireturn, 1) := by decide +kernel
theorem dX11_account_186 : decode cX11_account 186 = .ok (.iconst 0, 1) := by decide +kernel
theorem dX11_account_187 : decode cX11_account 187 = .ok (.istore_n 3, 1) := by decide +kernel
theorem dX11_account_188 : decode cX11_account 188 = .ok (.iload_n 3, 1) := by decide +kernel
theorem dX11_account_189 : decode cX11_account 189 = .ok (.aload_n 0, 1) := by decide +kernel
theorem dX11_account_190 : decode cX11_account 190 = .ok (.getfield 9, 3) := by decide +kernel
theorem dX11_account_193 : decode cX11_account 193 = .ok (.iconst 3, 1) := by decide +kernel
theorem dX11_account_194 : decode cX11_account 194 = .ok (.iaload, 1) := by decide +kernel
theorem dX11_account_195 : decode cX11_account 195 = .ok (.if_icmp .ge 23, 3) := by decide +kernel
theorem dX11_account_198 : decode cX11_account 198 = .ok (.aload_n 0, 1) := by decide +kernel
theorem dX11_account_199 : decode cX11_account 199 = .ok (.iload_n 3, 1) := by decide +kernel
theorem dX11_account_200 : decode cX11_account 200 = .ok (.iconst 2, 1) := by decide +kernel
theorem dX11_account_201 : decode cX11_account 201 = .ok (.invokevirtual 98, 3) := by decide +kernel
theorem dX11_account_204 : decode cX11_account 204 = .ok (.bipush 20, 2) := by decide +kernel
theorem dX11_account_206 : decode cX11_account 206 = .ok (.if_icmp .le 6, 3) := by decide +kernel
theorem dX11_account_209 : decode cX11_account 209 = .ok (.iinc 2 1, 3) := by decide +kernel
theorem dX11_account_212 : decode cX11_account 212 = .ok (.iinc 3 1, 3) := by decide +kernel
theorem dX11_account_215 : decode cX11_account 215 = .ok (.goto (-27), 3) := by decide +kernel
theorem dX11_account_218 : decode cX11_account 218 = .ok (.iload_n 2, 1) := by decide +kernel
theorem dX11_account_219 : decode cX11_account 219 = .ok (.ireturn, 1) := by decide +kernel
theorem dX11_account_220 : decode cX11_account 220 = .ok (.aload_n 0, 1) := by decide +kernel
theorem dX11_account_221 : decode cX11_account 221 = .ok (.getfield 9, 3) := by decide +kernel
theorem dX11_account_224 : decode cX11_account 224 = .ok (.iconst 4, 1) := by decide +kernel
theorem dX11_account_225 : decode cX11_account 225 = .ok (.iaload, 1) := by decide +kernel
theorem dX11_account_226 : decode cX11_account 226 = .ok (.ireturn, 1) := by decide +kernel
theorem dX11_account_227 : decode cX11_account 227 = .ok (.iconst 0, 1) := by decide +kernel
theorem dX11_account_228 : decode cX11_account 228 = .ok (.istore_n 3, 1) := by decide +kernel
theorem dX11_account_229 : decode cX11_account 229 = .ok (.iload_n 3, 1) := by decide +kernel
theorem dX11_account_230 : decode cX11_account 230 = .ok (.aload_n 0, 1) := by decide +kernel
theorem dX11_account_231 : decode cX11_account 231 = .ok (.getfield 9, 3) := by decide +kernel
theorem dX11_account_234 : decode cX11_account 234 = .ok (.iconst 4, 1) := by decide +kernel
theorem dX11_account_235 : decode cX11_account 235 = .ok (.iaload, 1) := by decide +kernel
theorem dX11_account_236 : decode cX11_account 236 = .ok (.if_icmp .ge 20, 3) := by decide +kernel
theorem dX11_account_239 : decode cX11_account 239 = .ok (.aload_n 0, 1) := by decide +kernel
theorem dX11_account_240 : decode cX11_account 240 = .ok (.iload_n 3, 1) := by decide +kernel
theorem dX11_account_241 : decode cX11_account 241 = .ok (.invokevirtual 104, 3) := by decide +kernel
theorem dX11_account_244 : decode cX11_account 244 = .ok (.ifCond .lt 6, 3) := by decide +kernel
theorem dX11_account_247 : decode cX11_account 247 = .ok (.iinc 2 1, 3) := by decide +kernel
theorem dX11_account_250 : decode cX11_account 250 = .ok (.iinc 3 1, 3) := by decide +kernel
theorem dX11_account_253 : decode cX11_account 253 = .ok (.goto (-24), 3) := by decide +kernel
theorem dX11_account_256 : decode cX11_account 256 = .ok (.iload_n 2, 1) := by decide +kernel
theorem dX11_account_257 : decode cX11_account 257 = .ok (.ireturn, 1) := by decide +kernel
theorem dX11_account_258 : decode cX11_account 258 = .ok (.aload_n 0, 1) := by decide +kernel
theorem dX11_account_259 : decode cX11_account 259 = .ok (.getfield 9, 3) := by decide +kernel
theorem dX11_account_262 : decode cX11_account 262 = .ok (.bipush 6, 2) := by decide +kernel
theorem dX11_account_264 : decode cX11_account 264 = .ok (.iaload, 1) := by decide +kernel
theorem dX11_account_265 : decode cX11_account 265 = .ok (.ireturn, 1) := by decide +kernel
theorem dX11_account_266 : decode cX11_account 266 = .ok (.aload_n 0, 1) := by decide +kernel
theorem dX11_account_267 : decode cX11_account 267 = .ok (.getfield 9, 3) := by decide +kernel
theorem dX11_account_270 : decode cX11_account 270 = .ok (.bipush 7, 2) := by decide +kernel
theorem dX11_account_272 : decode cX11_account 272 = .ok (.iaload, 1) := by decide +kernel
theorem dX11_account_273 : decode cX11_account 273 = .ok (.ireturn, 1) := by decide +kernel
theorem dX11_account_274 : decode cX11_account 274 = .ok (.aload_n 0, 1) := by decide +kernel
theorem dX11_account_275 : decode cX11_account 275 = .ok (.iconst 4, 1) := by decide +kernel
theorem dX11_account_276 : decode cX11_account 276 = .ok (.invokevirtual 214, 3) := by decide +kernel
theorem dX11_account_279 : decode cX11_account 279 = .ok (.ireturn, 1) := by decide +kernel
theorem dX11_account_280 : decode cX11_account 280 = .ok (.aload_n 0, 1) := by decide +kernel
theorem dX11_account_281 : decode cX11_account 281 = .ok (.getfield 9, 3) := by decide +kernel
theorem dX11_account_284 : decode cX11_account 284 = .ok (.iconst 5, 1) := by decide +kernel
theorem dX11_account_285 : decode cX11_account 285 = .ok (.iaload, 1) := by decide +kernel
theorem dX11_account_286 : decode cX11_account 286 = .ok (.ireturn, 1) := by decide +kernel
theorem dX11_account_287 : decode cX11_account 287 = .ok (.aload_n 0, 1) := by decide +kernel
theorem dX11_account_288 : decode cX11_account 288 = .ok (.getfield 9, 3) := by decide +kernel
theorem dX11_account_291 : decode cX11_account 291 = .ok (.bipush 8, 2) := by decide +kernel
theorem dX11_account_293 : decode cX11_account 293 = .ok (.iaload, 1) := by decide +kernel
theorem dX11_account_294 : decode cX11_account 294 = .ok (.ireturn, 1) := by decide +kernel
theorem dX11_account_295 : decode cX11_account 295 = .ok (.aload_n 0, 1) := by decide +kernel
theorem dX11_account_296 : decode cX11_account 296 = .ok (.getfield 9, 3) := by decide +kernel
theorem dX11_account_299 : decode cX11_account 299 = .ok (.bipush 9, 2) := by decide +kernel
theorem dX11_account_301 : decode cX11_account 301 = .ok (.iaload, 1) := by decide +kernel
theorem dX11_account_302 : decode cX11_account 302 = .ok (.ireturn, 1) := by decide +kernel
theorem dX11_account_303 : decode cX11_account 303 = .ok (.aload_n 0, 1) := by decide +kernel
theorem dX11_account_304 : decode cX11_account 304 = .ok (.getfield 9, 3) := by decide +kernel
theorem dX11_account_307 : decode cX11_account 307 = .ok (.bipush 10, 2) := by decide +kernel
theorem dX11_account_309 : decode cX11_account 309 = .ok (.iaload, 1) := by decide +kernel
theorem dX11_account_310 : decode cX11_account 310 = .ok (.ireturn, 1) := by decide +kernel
theorem dX11_account_311 : decode cX11_account 311 = .ok (.aload_n 0, 1) := by decide +kernel
theorem dX11_account_312 : decode cX11_account 312 = .ok (.getfield 9, 3) := by decide +kernel
theorem dX11_account_315 : decode cX11_account 315 = .ok (.bipush 11, 2) := by decide +kernel
theorem dX11_account_317 : decode cX11_account 317 = .ok (.iaload, 1) := by decide +kernel
theorem dX11_account_318 : decode cX11_account 318 = .ok (.ireturn, 1) := by decide +kernel
theorem dX11_account_319 : decode cX11_account 319 = .ok (.aload_n 0, 1) := by decide +kernel
theorem dX11_account_320 : decode cX11_account 320 = .ok (.getfield 62, 3) := by decide +kernel
theorem dX11_account_323 : decode cX11_account 323 = .ok (.ireturn, 1) := by decide +kernel
theorem dX11_account_324 : decode cX11_account 324 = .ok (.aload_n 0, 1) := by decide +kernel
theorem dX11_account_325 : decode cX11_account 325 = .ok (.getfield 45, 3) := by decide +kernel
theorem dX11_account_328 : decode cX11_account 328 = .ok (.ireturn, 1) := by decide +kernel
theorem dX11_account_329 : decode cX11_account 329 = .ok (.bipush (-2), 2) := by decide +kernel
theorem dX11_account_331 : decode cX11_account 331 = .ok (.ireturn, 1) := by decide +kernel
theorem dX11_undo_0 : decode cX11_undo 0 = .ok (.aload_n 0, 1) := by decide +kernel
theorem dX11_undo_1 : decode cX11_undo 1 = .ok (.getfield 45, 3) := by decide +kernel
theorem dX11_undo_4 : decode cX11_undo 4 = .ok (.ifCond .ne 6, 3) := by decide +kernel
theorem dX11_undo_7 : decode cX11_undo 7 = .ok (.bipush (-4), 2) := by decide +kernel
theorem dX11_undo_9 : decode cX11_undo 9 = .ok (.ireturn, 1) := by decide +kernel
theorem dX11_undo_10 : decode cX11_undo 10 = .ok (.aload_n 0, 1) := by decide +kernel
theorem dX11_undo_11 : decode cX11_undo 11 = .ok (.dup, 1) := by decide +kernel
theorem dX11_undo_12 : decode cX11_undo 12 = .ok (.getfield 45, 3) := by decide +kernel
theorem dX11_undo_15 : decode cX11_undo 15 = .ok (.iconst 1, 1) := by decide +kernel
theorem dX11_undo_16 : decode cX11_undo 16 = .ok (.isub, 1) := by decide +kernel
theorem dX11_undo_17 : decode cX11_undo 17 = .ok (.putfield 45, 3) := by decide +kernel
theorem dX11_undo_20 : decode cX11_undo 20 = .ok (.iconst 0, 1) := by decide +kernel
theorem dX11_undo_21 : decode cX11_undo 21 = .ok (.istore_n 1, 1) := by decide +kernel
theorem dX11_undo_22 : decode cX11_undo 22 = .ok (.iload_n 1, 1) := by decide +kernel
theorem dX11_undo_23 : decode cX11_undo 23 = .ok (.bipush 111, 2) := by decide +kernel
theorem dX11_undo_25 : decode cX11_undo 25 = .ok (.if_icmp .ge 29, 3) := by decide +kernel
theorem dX11_undo_28 : decode cX11_undo 28 = .ok (.aload_n 0, 1) := by decide +kernel
theorem dX11_undo_29 : decode cX11_undo 29 = .ok (.getfield 9, 3) := by decide +kernel
theorem dX11_undo_32 : decode cX11_undo 32 = .ok (.iload_n 1, 1) := by decide +kernel
theorem dX11_undo_33 : decode cX11_undo 33 = .ok (.aload_n 0, 1) := by decide +kernel
theorem dX11_undo_34 : decode cX11_undo 34 = .ok (.getfield 19, 3) := by decide +kernel
theorem dX11_undo_37 : decode cX11_undo 37 = .ok (.bipush 111, 2) := by decide +kernel
theorem dX11_undo_39 : decode cX11_undo 39 = .ok (.aload_n 0, 1) := by decide +kernel
theorem dX11_undo_40 : decode cX11_undo 40 = .ok (.getfield 45, 3) := by decide +kernel
theorem dX11_undo_43 : decode cX11_undo 43 = .ok (.imul, 1) := by decide +kernel
theorem dX11_undo_44 : decode cX11_undo 44 = .ok (.iload_n 1, 1) := by decide +kernel
theorem dX11_undo_45 : decode cX11_undo 45 = .ok (.iadd, 1) := by decide +kernel
theorem dX11_undo_46 : decode cX11_undo 46 = .ok (.iaload, 1) := by decide +kernel
theorem dX11_undo_47 : decode cX11_undo 47 = .ok (.iastore, 1) := by decide +kernel
theorem dX11_undo_48 : decode cX11_undo 48 = .ok (.iinc 1 1, 3) := by decide +kernel
theorem dX11_undo_51 : decode cX11_undo 51 = .ok (.goto (-29), 3) := by decide +kernel
theorem dX11_undo_54 : decode cX11_undo 54 = .ok (.aload_n 0, 1) := by decide +kernel
theorem dX11_undo_55 : decode cX11_undo 55 = .ok (.getfield 45, 3) := by decide +kernel
theorem dX11_undo_58 : decode cX11_undo 58 = .ok (.ireturn, 1) := by decide +kernel
theorem dX11_save_0 : decode cX11_save 0 = .ok (.aload_n 0, 1) := by decide +kernel
theorem dX11_save_1 : decode cX11_save 1 = .ok (.iconst 1, 1) := by decide +kernel
theorem dX11_save_2 : decode cX11_save 2 = .ok (.putfield 217, 3) := by decide +kernel
theorem dX11_save_5 : decode cX11_save 5 = .ok (.iconst 0, 1) := by decide +kernel
theorem dX11_save_6 : decode cX11_save 6 = .ok (.istore_n 1, 1) := by decide +kernel
theorem dX11_save_7 : decode cX11_save 7 = .ok (.iload_n 1, 1) := by decide +kernel
theorem dX11_save_8 : decode cX11_save 8 = .ok (.bipush 111, 2) := by decide +kernel
theorem dX11_save_10 : decode cX11_save 10 = .ok (.if_icmp .ge 21, 3) := by decide +kernel
theorem dX11_save_13 : decode cX11_save 13 = .ok (.aload_n 0, 1) := by decide +kernel
theorem dX11_save_14 : decode cX11_save 14 = .ok (.getfield 22, 3) := by decide +kernel
theorem dX11_save_17 : decode cX11_save 17 = .ok (.iload_n 1, 1) := by decide +kernel
theorem dX11_save_18 : decode cX11_save 18 = .ok (.aload_n 0, 1) := by decide +kernel
theorem dX11_save_19 : decode cX11_save 19 = .ok (.getfield 9, 3) := by decide +kernel
theorem dX11_save_22 : decode cX11_save 22 = .ok (.iload_n 1, 1) := by decide +kernel
theorem dX11_save_23 : decode cX11_save 23 = .ok (.iaload, 1) := by decide +kernel
theorem dX11_save_24 : decode cX11_save 24 = .ok (.iastore, 1) := by decide +kernel
theorem dX11_save_25 : decode cX11_save 25 = .ok (.iinc 1 1, 3) := by decide +kernel
theorem dX11_save_28 : decode cX11_save 28 = .ok (.goto (-21), 3) := by decide +kernel
theorem dX11_save_31 : decode cX11_save 31 = .ok (.aload_n 0, 1) := by decide +kernel
theorem dX11_save_32 : decode cX11_save 32 = .ok (.getfield 9, 3) := by decide +kernel
theorem dX11_save_35 : decode cX11_save 35 = .ok (.iconst 0, 1) := by decide +kernel
theorem dX11_save_36 : decode cX11_save 36 = .ok (.iaload, 1) := by decide +kernel
theorem dX11_save_37 : decode cX11_save 37 = .ok (.ireturn, 1) := by decide +kernel
theorem dX11_restore_0 : decode cX11_restore 0 = .ok (.aload_n 0, 1) := by decide +kernel
theorem dX11_restore_1 : decode cX11_restore 1 = .ok (.getfield 217, 3) := by decide +kernel
theorem dX11_restore_4 : decode cX11_restore 4 = .ok (.ifCond .ne 6, 3) := by decide +kernel
theorem dX11_restore_7 : decode cX11_restore 7 = .ok (.bipush (-4), 2) := by decide +kernel
theorem dX11_restore_9 : decode cX11_restore 9 = .ok (.ireturn, 1) := by decide +kernel
theorem dX11_restore_10 : decode cX11_restore 10 = .ok (.iconst 0, 1) := by decide +kernel
theorem dX11_restore_11 : decode cX11_restore 11 = .ok (.istore_n 1, 1) := by decide +kernel
theorem dX11_restore_12 : decode cX11_restore 12 = .ok (.iload_n 1, 1) := by decide +kernel
theorem dX11_restore_13 : decode cX11_restore 13 = .ok (.bipush 111, 2) := by decide +kernel
theorem dX11_restore_15 : decode cX11_restore 15 = .ok (.if_icmp .ge 21, 3) := by decide +kernel
theorem dX11_restore_18 : decode cX11_restore 18 = .ok (.aload_n 0, 1) := by decide +kernel
theorem dX11_restore_19 : decode cX11_restore 19 = .ok (.getfield 9, 3) := by decide +kernel
theorem dX11_restore_22 : decode cX11_restore 22 = .ok (.iload_n 1, 1) := by decide +kernel
theorem dX11_restore_23 : decode cX11_restore 23 = .ok (.aload_n 0, 1) := by decide +kernel
theorem dX11_restore_24 : decode cX11_restore 24 = .ok (.getfield 22, 3) := by decide +kernel
theorem dX11_restore_27 : decode cX11_restore 27 = .ok (.iload_n 1, 1) := by decide +kernel
theorem dX11_restore_28 : decode cX11_restore 28 = .ok (.iaload, 1) := by decide +kernel
theorem dX11_restore_29 : decode cX11_restore 29 = .ok (.iastore, 1) := by decide +kernel
theorem dX11_restore_30 : decode cX11_restore 30 = .ok (.iinc 1 1, 3) := by decide +kernel
theorem dX11_restore_33 : decode cX11_restore 33 = .ok (.goto (-21), 3) := by decide +kernel
theorem dX11_restore_36 : decode cX11_restore 36 = .ok (.aload_n 0, 1) := by decide +kernel
theorem dX11_restore_37 : decode cX11_restore 37 = .ok (.iconst 0, 1) := by decide +kernel
theorem dX11_restore_38 : decode cX11_restore 38 = .ok (.putfield 45, 3) := by decide +kernel
theorem dX11_restore_41 : decode cX11_restore 41 = .ok (.aload_n 0, 1) := by decide +kernel
theorem dX11_restore_42 : decode cX11_restore 42 = .ok (.getfield 9, 3) := by decide +kernel
theorem dX11_restore_45 : decode cX11_restore 45 = .ok (.iconst 0, 1) := by decide +kernel
theorem dX11_restore_46 : decode cX11_restore 46 = .ok (.iaload, 1) := by decide +kernel
theorem dX11_restore_47 : decode cX11_restore 47 = .ok (.ireturn, 1) := by decide +kernel
