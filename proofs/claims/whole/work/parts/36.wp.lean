/-! WALKS: M_beatNow, M_beats, M_beat, M_isBusy, M_program, M_clear, M_start, M_core -/
theorem dX12_beatNow_0 : decode cX12_beatNow 0 = .ok (.aload_n 0, 1) := by decide +kernel
theorem dX12_beatNow_1 : decode cX12_beatNow 1 = .ok (.iconst 0, 1) := by decide +kernel
theorem dX12_beatNow_2 : decode cX12_beatNow 2 = .ok (.putfield 211, 3) := by decide +kernel
theorem dX12_beatNow_5 : decode cX12_beatNow 5 = .ok (.iconst 0, 1) := by decide +kernel
theorem dX12_beatNow_6 : decode cX12_beatNow 6 = .ok (.istore_n 1, 1) := by decide +kernel
theorem dX12_beatNow_7 : decode cX12_beatNow 7 = .ok (.iload_n 1, 1) := by decide +kernel
theorem dX12_beatNow_8 : decode cX12_beatNow 8 = .ok (.aload_n 0, 1) := by decide +kernel
theorem dX12_beatNow_9 : decode cX12_beatNow 9 = .ok (.invokevirtual 144, 3) := by decide +kernel
theorem dX12_beatNow_12 : decode cX12_beatNow 12 = .ok (.if_icmp .ge 16, 3) := by decide +kernel
theorem dX12_beatNow_15 : decode cX12_beatNow 15 = .ok (.aload_n 0, 1) := by decide +kernel
theorem dX12_beatNow_16 : decode cX12_beatNow 16 = .ok (.getfield 98, 3) := by decide +kernel
theorem dX12_beatNow_19 : decode cX12_beatNow 19 = .ok (.iload_n 1, 1) := by decide +kernel
theorem dX12_beatNow_20 : decode cX12_beatNow 20 = .ok (.iconst 0, 1) := by decide +kernel
theorem dX12_beatNow_21 : decode cX12_beatNow 21 = .ok (.bastore, 1) := by decide +kernel
theorem dX12_beatNow_22 : decode cX12_beatNow 22 = .ok (.iinc 1 1, 3) := by decide +kernel
theorem dX12_beatNow_25 : decode cX12_beatNow 25 = .ok (.goto (-18), 3) := by decide +kernel
theorem dX12_beatNow_28 : decode cX12_beatNow 28 = .ok (.iconst 0, 1) := by decide +kernel
theorem dX12_beatNow_29 : decode cX12_beatNow 29 = .ok (.istore_n 1, 1) := by decide +kernel
theorem dX12_beatNow_30 : decode cX12_beatNow 30 = .ok (.iload_n 1, 1) := by decide +kernel
theorem dX12_beatNow_31 : decode cX12_beatNow 31 = .ok (.aload_n 0, 1) := by decide +kernel
theorem dX12_beatNow_32 : decode cX12_beatNow 32 = .ok (.invokevirtual 144, 3) := by decide +kernel
theorem dX12_beatNow_35 : decode cX12_beatNow 35 = .ok (.if_icmp .ge 36, 3) := by decide +kernel
theorem dX12_beatNow_38 : decode cX12_beatNow 38 = .ok (.aload_n 0, 1) := by decide +kernel
theorem dX12_beatNow_39 : decode cX12_beatNow 39 = .ok (.getfield 123, 3) := by decide +kernel
theorem dX12_beatNow_42 : decode cX12_beatNow 42 = .ok (.iload_n 1, 1) := by decide +kernel
theorem dX12_beatNow_43 : decode cX12_beatNow 43 = .ok (.caload, 1) := by decide +kernel
theorem dX12_beatNow_44 : decode cX12_beatNow 44 = .ok (.bipush 114, 2) := by decide +kernel
theorem dX12_beatNow_46 : decode cX12_beatNow 46 = .ok (.if_icmp .eq 14, 3) := by decide +kernel
theorem dX12_beatNow_49 : decode cX12_beatNow 49 = .ok (.aload_n 0, 1) := by decide +kernel
theorem dX12_beatNow_50 : decode cX12_beatNow 50 = .ok (.getfield 123, 3) := by decide +kernel
theorem dX12_beatNow_53 : decode cX12_beatNow 53 = .ok (.iload_n 1, 1) := by decide +kernel
theorem dX12_beatNow_54 : decode cX12_beatNow 54 = .ok (.caload, 1) := by decide +kernel
theorem dX12_beatNow_55 : decode cX12_beatNow 55 = .ok (.bipush 119, 2) := by decide +kernel
theorem dX12_beatNow_57 : decode cX12_beatNow 57 = .ok (.if_icmp .ne 8, 3) := by decide +kernel
theorem dX12_beatNow_60 : decode cX12_beatNow 60 = .ok (.aload_n 0, 1) := by decide +kernel
theorem dX12_beatNow_61 : decode cX12_beatNow 61 = .ok (.iload_n 1, 1) := by decide +kernel
theorem dX12_beatNow_62 : decode cX12_beatNow 62 = .ok (.invokevirtual 243, 3) := by decide +kernel
theorem dX12_beatNow_65 : decode cX12_beatNow 65 = .ok (.iinc 1 1, 3) := by decide +kernel
theorem dX12_beatNow_68 : decode cX12_beatNow 68 = .ok (.goto (-38), 3) := by decide +kernel
theorem dX12_beatNow_71 : decode cX12_beatNow 71 = .ok (.iconst 0, 1) := by decide +kernel
theorem dX12_beatNow_72 : decode cX12_beatNow 72 = .ok (.istore_n 1, 1) := by decide +kernel
theorem dX12_beatNow_73 : decode cX12_beatNow 73 = .ok (.iload_n 1, 1) := by decide +kernel
theorem dX12_beatNow_74 : decode cX12_beatNow 74 = .ok (.aload_n 0, 1) := by decide +kernel
theorem dX12_beatNow_75 : decode cX12_beatNow 75 = .ok (.invokevirtual 144, 3) := by decide +kernel
theorem dX12_beatNow_78 : decode cX12_beatNow 78 = .ok (.if_icmp .ge 37, 3) := by decide +kernel
theorem dX12_beatNow_81 : decode cX12_beatNow 81 = .ok (.iconst 0, 1) := by decide +kernel
theorem dX12_beatNow_82 : decode cX12_beatNow 82 = .ok (.istore_n 2, 1) := by decide +kernel
theorem dX12_beatNow_83 : decode cX12_beatNow 83 = .ok (.iload_n 2, 1) := by decide +kernel
theorem dX12_beatNow_84 : decode cX12_beatNow 84 = .ok (.iconst 5, 1) := by decide +kernel
theorem dX12_beatNow_85 : decode cX12_beatNow 85 = .ok (.if_icmp .ge 24, 3) := by decide +kernel
theorem dX12_beatNow_88 : decode cX12_beatNow 88 = .ok (.aload_n 0, 1) := by decide +kernel
theorem dX12_beatNow_89 : decode cX12_beatNow 89 = .ok (.getfield 95, 3) := by decide +kernel
theorem dX12_beatNow_92 : decode cX12_beatNow 92 = .ok (.iload_n 1, 1) := by decide +kernel
theorem dX12_beatNow_93 : decode cX12_beatNow 93 = .ok (.baload, 1) := by decide +kernel
theorem dX12_beatNow_94 : decode cX12_beatNow 94 = .ok (.ifCond .ne 15, 3) := by decide +kernel
theorem dX12_beatNow_97 : decode cX12_beatNow 97 = .ok (.aload_n 0, 1) := by decide +kernel
theorem dX12_beatNow_98 : decode cX12_beatNow 98 = .ok (.iload_n 1, 1) := by decide +kernel
theorem dX12_beatNow_99 : decode cX12_beatNow 99 = .ok (.iload_n 2, 1) := by decide +kernel
theorem dX12_beatNow_100 : decode cX12_beatNow 100 = .ok (.invokevirtual 246, 3) := by decide +kernel
theorem dX12_beatNow_103 : decode cX12_beatNow 103 = .ok (.iinc 2 1, 3) := by decide +kernel
theorem dX12_beatNow_106 : decode cX12_beatNow 106 = .ok (.goto (-23), 3) := by decide +kernel
theorem dX12_beatNow_109 : decode cX12_beatNow 109 = .ok (.iinc 1 1, 3) := by decide +kernel
theorem dX12_beatNow_112 : decode cX12_beatNow 112 = .ok (.goto (-39), 3) := by decide +kernel
theorem dX12_beatNow_115 : decode cX12_beatNow 115 = .ok (.iconst 0, 1) := by decide +kernel
theorem dX12_beatNow_116 : decode cX12_beatNow 116 = .ok (.istore_n 1, 1) := by decide +kernel
theorem dX12_beatNow_117 : decode cX12_beatNow 117 = .ok (.iload_n 1, 1) := by decide +kernel
theorem dX12_beatNow_118 : decode cX12_beatNow 118 = .ok (.aload_n 0, 1) := by decide +kernel
theorem dX12_beatNow_119 : decode cX12_beatNow 119 = .ok (.invokevirtual 144, 3) := by decide +kernel
theorem dX12_beatNow_122 : decode cX12_beatNow 122 = .ok (.if_icmp .ge 21, 3) := by decide +kernel
theorem dX12_beatNow_125 : decode cX12_beatNow 125 = .ok (.aload_n 0, 1) := by decide +kernel
theorem dX12_beatNow_126 : decode cX12_beatNow 126 = .ok (.iload_n 1, 1) := by decide +kernel
theorem dX12_beatNow_127 : decode cX12_beatNow 127 = .ok (.iconst 1, 1) := by decide +kernel
theorem dX12_beatNow_128 : decode cX12_beatNow 128 = .ok (.invokevirtual 250, 3) := by decide +kernel
theorem dX12_beatNow_131 : decode cX12_beatNow 131 = .ok (.aload_n 0, 1) := by decide +kernel
theorem dX12_beatNow_132 : decode cX12_beatNow 132 = .ok (.iload_n 1, 1) := by decide +kernel
theorem dX12_beatNow_133 : decode cX12_beatNow 133 = .ok (.iconst 0, 1) := by decide +kernel
theorem dX12_beatNow_134 : decode cX12_beatNow 134 = .ok (.invokevirtual 250, 3) := by decide +kernel
theorem dX12_beatNow_137 : decode cX12_beatNow 137 = .ok (.iinc 1 1, 3) := by decide +kernel
theorem dX12_beatNow_140 : decode cX12_beatNow 140 = .ok (.goto (-23), 3) := by decide +kernel
theorem dX12_beatNow_143 : decode cX12_beatNow 143 = .ok (.iconst 0, 1) := by decide +kernel
theorem dX12_beatNow_144 : decode cX12_beatNow 144 = .ok (.istore_n 1, 1) := by decide +kernel
theorem dX12_beatNow_145 : decode cX12_beatNow 145 = .ok (.iconst 0, 1) := by decide +kernel
theorem dX12_beatNow_146 : decode cX12_beatNow 146 = .ok (.istore_n 2, 1) := by decide +kernel
theorem dX12_beatNow_147 : decode cX12_beatNow 147 = .ok (.iconst 0, 1) := by decide +kernel
theorem dX12_beatNow_148 : decode cX12_beatNow 148 = .ok (.istore_n 3, 1) := by decide +kernel
theorem dX12_beatNow_149 : decode cX12_beatNow 149 = .ok (.iload_n 3, 1) := by decide +kernel
theorem dX12_beatNow_150 : decode cX12_beatNow 150 = .ok (.aload_n 0, 1) := by decide +kernel
theorem dX12_beatNow_151 : decode cX12_beatNow 151 = .ok (.invokevirtual 144, 3) := by decide +kernel
theorem dX12_beatNow_154 : decode cX12_beatNow 154 = .ok (.if_icmp .ge 81, 3) := by decide +kernel
theorem dX12_beatNow_157 : decode cX12_beatNow 157 = .ok (.aload_n 0, 1) := by decide +kernel
theorem dX12_beatNow_158 : decode cX12_beatNow 158 = .ok (.getfield 95, 3) := by decide +kernel
theorem dX12_beatNow_161 : decode cX12_beatNow 161 = .ok (.iload_n 3, 1) := by decide +kernel
theorem dX12_beatNow_162 : decode cX12_beatNow 162 = .ok (.dup2, 1) := by decide +kernel
theorem dX12_beatNow_163 : decode cX12_beatNow 163 = .ok (.baload, 1) := by decide +kernel
theorem dX12_beatNow_164 : decode cX12_beatNow 164 = .ok (.aload_n 0, 1) := by decide +kernel
theorem dX12_beatNow_165 : decode cX12_beatNow 165 = .ok (.getfield 98, 3) := by decide +kernel
theorem dX12_beatNow_168 : decode cX12_beatNow 168 = .ok (.iload_n 3, 1) := by decide +kernel
theorem dX12_beatNow_169 : decode cX12_beatNow 169 = .ok (.baload, 1) := by decide +kernel
theorem dX12_beatNow_170 : decode cX12_beatNow 170 = .ok (.ifCond .ne 7, 3) := by decide +kernel
theorem dX12_beatNow_173 : decode cX12_beatNow 173 = .ok (.iconst 1, 1) := by decide +kernel
theorem dX12_beatNow_174 : decode cX12_beatNow 174 = .ok (.goto 4, 3) := by decide +kernel
theorem dX12_beatNow_177 : decode cX12_beatNow 177 = .ok (.iconst 0, 1) := by decide +kernel
theorem dX12_beatNow_178 : decode cX12_beatNow 178 = .ok (.iand, 1) := by decide +kernel
theorem dX12_beatNow_179 : decode cX12_beatNow 179 = .ok (.bastore, 1) := by decide +kernel
theorem dX12_beatNow_180 : decode cX12_beatNow 180 = .ok (.iload_n 1, 1) := by decide +kernel
theorem dX12_beatNow_181 : decode cX12_beatNow 181 = .ok (.aload_n 0, 1) := by decide +kernel
theorem dX12_beatNow_182 : decode cX12_beatNow 182 = .ok (.getfield 123, 3) := by decide +kernel
theorem dX12_beatNow_185 : decode cX12_beatNow 185 = .ok (.iload_n 3, 1) := by decide +kernel
theorem dX12_beatNow_186 : decode cX12_beatNow 186 = .ok (.caload, 1) := by decide +kernel
theorem dX12_beatNow_187 : decode cX12_beatNow 187 = .ok (.bipush 98, 2) := by decide +kernel
theorem dX12_beatNow_189 : decode cX12_beatNow 189 = .ok (.if_icmp .ne 7, 3) := by decide +kernel
theorem dX12_beatNow_192 : decode cX12_beatNow 192 = .ok (.iconst 1, 1) := by decide +kernel
theorem dX12_beatNow_193 : decode cX12_beatNow 193 = .ok (.goto 4, 3) := by decide +kernel
theorem dX12_beatNow_196 : decode cX12_beatNow 196 = .ok (.iconst 0, 1) := by decide +kernel
theorem dX12_beatNow_197 : decode cX12_beatNow 197 = .ok (.ior, 1) := by decide +kernel
theorem dX12_beatNow_198 : decode cX12_beatNow 198 = .ok (.istore_n 1, 1) := by decide +kernel
theorem dX12_beatNow_199 : decode cX12_beatNow 199 = .ok (.iload_n 2, 1) := by decide +kernel
theorem dX12_beatNow_200 : decode cX12_beatNow 200 = .ok (.aload_n 0, 1) := by decide +kernel
theorem dX12_beatNow_201 : decode cX12_beatNow 201 = .ok (.getfield 123, 3) := by decide +kernel
theorem dX12_beatNow_204 : decode cX12_beatNow 204 = .ok (.iload_n 3, 1) := by decide +kernel
theorem dX12_beatNow_205 : decode cX12_beatNow 205 = .ok (.caload, 1) := by decide +kernel
theorem dX12_beatNow_206 : decode cX12_beatNow 206 = .ok (.bipush 114, 2) := by decide +kernel
theorem dX12_beatNow_208 : decode cX12_beatNow 208 = .ok (.if_icmp .eq 14, 3) := by decide +kernel
theorem dX12_beatNow_211 : decode cX12_beatNow 211 = .ok (.aload_n 0, 1) := by decide +kernel
theorem dX12_beatNow_212 : decode cX12_beatNow 212 = .ok (.getfield 123, 3) := by decide +kernel
theorem dX12_beatNow_215 : decode cX12_beatNow 215 = .ok (.iload_n 3, 1) := by decide +kernel
theorem dX12_beatNow_216 : decode cX12_beatNow 216 = .ok (.caload, 1) := by decide +kernel
theorem dX12_beatNow_217 : decode cX12_beatNow 217 = .ok (.bipush 119, 2) := by decide +kernel
theorem dX12_beatNow_219 : decode cX12_beatNow 219 = .ok (.if_icmp .ne 7, 3) := by decide +kernel
theorem dX12_beatNow_222 : decode cX12_beatNow 222 = .ok (.iconst 1, 1) := by decide +kernel
theorem dX12_beatNow_223 : decode cX12_beatNow 223 = .ok (.goto 4, 3) := by decide +kernel
theorem dX12_beatNow_226 : decode cX12_beatNow 226 = .ok (.iconst 0, 1) := by decide +kernel
theorem dX12_beatNow_227 : decode cX12_beatNow 227 = .ok (.ior, 1) := by decide +kernel
theorem dX12_beatNow_228 : decode cX12_beatNow 228 = .ok (.istore_n 2, 1) := by decide +kernel
theorem dX12_beatNow_229 : decode cX12_beatNow 229 = .ok (.iinc 3 1, 3) := by decide +kernel
theorem dX12_beatNow_232 : decode cX12_beatNow 232 = .ok (.goto (-83), 3) := by decide +kernel
theorem dX12_beatNow_235 : decode cX12_beatNow 235 = .ok (.iconst 0, 1) := by decide +kernel
theorem dX12_beatNow_236 : decode cX12_beatNow 236 = .ok (.istore_n 3, 1) := by decide +kernel
theorem dX12_beatNow_237 : decode cX12_beatNow 237 = .ok (.iload_n 3, 1) := by decide +kernel
theorem dX12_beatNow_238 : decode cX12_beatNow 238 = .ok (.aload_n 0, 1) := by decide +kernel
theorem dX12_beatNow_239 : decode cX12_beatNow 239 = .ok (.invokevirtual 144, 3) := by decide +kernel
theorem dX12_beatNow_242 : decode cX12_beatNow 242 = .ok (.if_icmp .ge 46, 3) := by decide +kernel
theorem dX12_beatNow_245 : decode cX12_beatNow 245 = .ok (.iload_n 1, 1) := by decide +kernel
theorem dX12_beatNow_246 : decode cX12_beatNow 246 = .ok (.ifCond .eq 42, 3) := by decide +kernel
theorem dX12_beatNow_249 : decode cX12_beatNow 249 = .ok (.iload_n 2, 1) := by decide +kernel
theorem dX12_beatNow_250 : decode cX12_beatNow 250 = .ok (.ifCond .ne 38, 3) := by decide +kernel
theorem dX12_beatNow_253 : decode cX12_beatNow 253 = .ok (.aload_n 0, 1) := by decide +kernel
theorem dX12_beatNow_254 : decode cX12_beatNow 254 = .ok (.getfield 123, 3) := by decide +kernel
theorem dX12_beatNow_257 : decode cX12_beatNow 257 = .ok (.iload_n 3, 1) := by decide +kernel
theorem dX12_beatNow_258 : decode cX12_beatNow 258 = .ok (.caload, 1) := by decide +kernel
theorem dX12_beatNow_259 : decode cX12_beatNow 259 = .ok (.bipush 98, 2) := by decide +kernel
theorem dX12_beatNow_261 : decode cX12_beatNow 261 = .ok (.if_icmp .ne 21, 3) := by decide +kernel
theorem dX12_beatNow_264 : decode cX12_beatNow 264 = .ok (.aload_n 0, 1) := by decide +kernel
theorem dX12_beatNow_265 : decode cX12_beatNow 265 = .ok (.getfield 123, 3) := by decide +kernel
theorem dX12_beatNow_268 : decode cX12_beatNow 268 = .ok (.iload_n 3, 1) := by decide +kernel
theorem dX12_beatNow_269 : decode cX12_beatNow 269 = .ok (.bipush 114, 2) := by decide +kernel
theorem dX12_beatNow_271 : decode cX12_beatNow 271 = .ok (.castore, 1) := by decide +kernel
theorem dX12_beatNow_272 : decode cX12_beatNow 272 = .ok (.aload_n 0, 1) := by decide +kernel
theorem dX12_beatNow_273 : decode cX12_beatNow 273 = .ok (.getfield 129, 3) := by decide +kernel
theorem dX12_beatNow_276 : decode cX12_beatNow 276 = .ok (.iload_n 3, 1) := by decide +kernel
theorem dX12_beatNow_277 : decode cX12_beatNow 277 = .ok (.dup2, 1) := by decide +kernel
theorem dX12_beatNow_278 : decode cX12_beatNow 278 = .ok (.iaload, 1) := by decide +kernel
theorem dX12_beatNow_279 : decode cX12_beatNow 279 = .ok (.iconst 1, 1) := by decide +kernel
theorem dX12_beatNow_280 : decode cX12_beatNow 280 = .ok (.iadd, 1) := by decide +kernel
theorem dX12_beatNow_281 : decode cX12_beatNow 281 = .ok (.iastore, 1) := by decide +kernel
theorem dX12_beatNow_282 : decode cX12_beatNow 282 = .ok (.iinc 3 1, 3) := by decide +kernel
theorem dX12_beatNow_285 : decode cX12_beatNow 285 = .ok (.goto (-48), 3) := by decide +kernel
theorem dX12_beatNow_288 : decode cX12_beatNow 288 = .ok (.aload_n 0, 1) := by decide +kernel
theorem dX12_beatNow_289 : decode cX12_beatNow 289 = .ok (.dup, 1) := by decide +kernel
theorem dX12_beatNow_290 : decode cX12_beatNow 290 = .ok (.getfield 162, 3) := by decide +kernel
theorem dX12_beatNow_293 : decode cX12_beatNow 293 = .ok (.iconst 1, 1) := by decide +kernel
theorem dX12_beatNow_294 : decode cX12_beatNow 294 = .ok (.iadd, 1) := by decide +kernel
theorem dX12_beatNow_295 : decode cX12_beatNow 295 = .ok (.putfield 162, 3) := by decide +kernel
theorem dX12_beatNow_298 : decode cX12_beatNow 298 = .ok (.return_, 1) := by decide +kernel
theorem dX12_beats_0 : decode cX12_beats 0 = .ok (.aload_n 0, 1) := by decide +kernel
theorem dX12_beats_1 : decode cX12_beats 1 = .ok (.iload_n 1, 1) := by decide +kernel
theorem dX12_beats_2 : decode cX12_beats 2 = .ok (.iconst 1, 1) := by decide +kernel
theorem dX12_beats_3 : decode cX12_beats 3 = .ok (.bipush 100, 2) := by decide +kernel
theorem dX12_beats_5 : decode cX12_beats 5 = .ok (.invokestatic 148, 3) := by decide +kernel
theorem dX12_beats_8 : decode cX12_beats 8 = .ok (.ifCond .ne 7, 3) := by decide +kernel
theorem dX12_beats_11 : decode cX12_beats 11 = .ok (.iconst 1, 1) := by decide +kernel
theorem dX12_beats_12 : decode cX12_beats 12 = .ok (.goto 4, 3) := by decide +kernel
theorem dX12_beats_15 : decode cX12_beats 15 = .ok (.iconst 0, 1) := by decide +kernel
theorem dX12_beats_16 : decode cX12_beats 16 = .ok (.iconst 1, 1) := by decide +kernel
theorem dX12_beats_17 : decode cX12_beats 17 = .ok (.invokevirtual 155, 3) := by decide +kernel
theorem dX12_beats_20 : decode cX12_beats 20 = .ok (.ifCond .eq 5, 3) := by decide +kernel
theorem dX12_beats_23 : decode cX12_beats 23 = .ok (.iconst 0, 1) := by decide +kernel
theorem dX12_beats_24 : decode cX12_beats 24 = .ok (.ireturn, 1) := by decide +kernel
theorem dX12_beats_25 : decode cX12_beats 25 = .ok (.iconst 0, 1) := by decide +kernel
theorem dX12_beats_26 : decode cX12_beats 26 = .ok (.istore_n 2, 1) := by decide +kernel
theorem dX12_beats_27 : decode cX12_beats 27 = .ok (.iload_n 2, 1) := by decide +kernel
theorem dX12_beats_28 : decode cX12_beats 28 = .ok (.iload_n 1, 1) := by decide +kernel
theorem dX12_beats_29 : decode cX12_beats 29 = .ok (.if_icmp .ge 13, 3) := by decide +kernel
theorem dX12_beats_32 : decode cX12_beats 32 = .ok (.aload_n 0, 1) := by decide +kernel
theorem dX12_beats_33 : decode cX12_beats 33 = .ok (.invokevirtual 253, 3) := by decide +kernel
theorem dX12_beats_36 : decode cX12_beats 36 = .ok (.iinc 2 1, 3) := by decide +kernel
theorem dX12_beats_39 : decode cX12_beats 39 = .ok (.goto (-12), 3) := by decide +kernel
theorem dX12_beats_42 : decode cX12_beats 42 = .ok (.aload_n 0, 1) := by decide +kernel
theorem dX12_beats_43 : decode cX12_beats 43 = .ok (.getfield 211, 3) := by decide +kernel
theorem dX12_beats_46 : decode cX12_beats 46 = .ok (.ireturn, 1) := by decide +kernel
theorem dX12_beat_0 : decode cX12_beat 0 = .ok (.aload_n 0, 1) := by decide +kernel
theorem dX12_beat_1 : decode cX12_beat 1 = .ok (.iconst 0, 1) := by decide +kernel
theorem dX12_beat_2 : decode cX12_beat 2 = .ok (.putfield 141, 3) := by decide +kernel
theorem dX12_beat_5 : decode cX12_beat 5 = .ok (.aload_n 0, 1) := by decide +kernel
theorem dX12_beat_6 : decode cX12_beat 6 = .ok (.getfield 162, 3) := by decide +kernel
theorem dX12_beat_9 : decode cX12_beat 9 = .ok (.ireturn, 1) := by decide +kernel
theorem dX12_isBusy_0 : decode cX12_isBusy 0 = .ok (.aload_n 0, 1) := by decide +kernel
theorem dX12_isBusy_1 : decode cX12_isBusy 1 = .ok (.getfield 123, 3) := by decide +kernel
theorem dX12_isBusy_4 : decode cX12_isBusy 4 = .ok (.iload_n 1, 1) := by decide +kernel
theorem dX12_isBusy_5 : decode cX12_isBusy 5 = .ok (.caload, 1) := by decide +kernel
theorem dX12_isBusy_6 : decode cX12_isBusy 6 = .ok (.bipush 114, 2) := by decide +kernel
theorem dX12_isBusy_8 : decode cX12_isBusy 8 = .ok (.if_icmp .eq 25, 3) := by decide +kernel
theorem dX12_isBusy_11 : decode cX12_isBusy 11 = .ok (.aload_n 0, 1) := by decide +kernel
theorem dX12_isBusy_12 : decode cX12_isBusy 12 = .ok (.getfield 123, 3) := by decide +kernel
theorem dX12_isBusy_15 : decode cX12_isBusy 15 = .ok (.iload_n 1, 1) := by decide +kernel
theorem dX12_isBusy_16 : decode cX12_isBusy 16 = .ok (.caload, 1) := by decide +kernel
theorem dX12_isBusy_17 : decode cX12_isBusy 17 = .ok (.bipush 119, 2) := by decide +kernel
theorem dX12_isBusy_19 : decode cX12_isBusy 19 = .ok (.if_icmp .eq 14, 3) := by decide +kernel
theorem dX12_isBusy_22 : decode cX12_isBusy 22 = .ok (.aload_n 0, 1) := by decide +kernel
theorem dX12_isBusy_23 : decode cX12_isBusy 23 = .ok (.getfield 123, 3) := by decide +kernel
theorem dX12_isBusy_26 : decode cX12_isBusy 26 = .ok (.iload_n 1, 1) := by decide +kernel
theorem dX12_isBusy_27 : decode cX12_isBusy 27 = .ok (.caload, 1) := by decide +kernel
theorem dX12_isBusy_28 : decode cX12_isBusy 28 = .ok (.bipush 98, 2) := by decide +kernel
theorem dX12_isBusy_30 : decode cX12_isBusy 30 = .ok (.if_icmp .ne 7, 3) := by decide +kernel
theorem dX12_isBusy_33 : decode cX12_isBusy 33 = .ok (.iconst 1, 1) := by decide +kernel
theorem dX12_isBusy_34 : decode cX12_isBusy 34 = .ok (.goto 4, 3) := by decide +kernel
theorem dX12_isBusy_37 : decode cX12_isBusy 37 = .ok (.iconst 0, 1) := by decide +kernel
theorem dX12_isBusy_38 : decode cX12_isBusy 38 = .ok (.ireturn, 1) := by decide +kernel
theorem dX12_program_0 : decode cX12_program 0 = .ok (.ldc_w 276, 3) := by decide +kernel
theorem dX12_program_3 : decode cX12_program 3 = .ok (.iload_n 2, 1) := by decide +kernel
theorem dX12_program_4 : decode cX12_program 4 = .ok (.invokevirtual 278, 3) := by decide +kernel
theorem dX12_program_7 : decode cX12_program 7 = .ok (.ifCond .lt 7, 3) := by decide +kernel
theorem dX12_program_10 : decode cX12_program 10 = .ok (.iconst 1, 1) := by decide +kernel
theorem dX12_program_11 : decode cX12_program 11 = .ok (.goto 4, 3) := by decide +kernel
theorem dX12_program_14 : decode cX12_program 14 = .ok (.iconst 0, 1) := by decide +kernel
theorem dX12_program_15 : decode cX12_program 15 = .ok (.istore 4, 2) := by decide +kernel
theorem dX12_program_17 : decode cX12_program 17 = .ok (.iload_n 2, 1) := by decide +kernel
theorem dX12_program_18 : decode cX12_program 18 = .ok (.bipush 108, 2) := by decide +kernel
theorem dX12_program_20 : decode cX12_program 20 = .ok (.if_icmp .eq 9, 3) := by decide +kernel
theorem dX12_program_23 : decode cX12_program 23 = .ok (.iload_n 2, 1) := by decide +kernel
theorem dX12_program_24 : decode cX12_program 24 = .ok (.bipush 115, 2) := by decide +kernel
theorem dX12_program_26 : decode cX12_program 26 = .ok (.if_icmp .ne 13, 3) := by decide +kernel
theorem dX12_program_29 : decode cX12_program 29 = .ok (.iload_n 3, 1) := by decide +kernel
theorem dX12_program_30 : decode cX12_program 30 = .ok (.iconst 0, 1) := by decide +kernel
theorem dX12_program_31 : decode cX12_program 31 = .ok (.bipush 7, 2) := by decide +kernel
theorem dX12_program_33 : decode cX12_program 33 = .ok (.invokestatic 148, 3) := by decide +kernel
theorem dX12_program_36 : decode cX12_program 36 = .ok (.goto 52, 3) := by decide +kernel
theorem dX12_program_39 : decode cX12_program 39 = .ok (.iload_n 2, 1) := by decide +kernel
theorem dX12_program_40 : decode cX12_program 40 = .ok (.bipush 100, 2) := by decide +kernel
theorem dX12_program_42 : decode cX12_program 42 = .ok (.if_icmp .eq 9, 3) := by decide +kernel
theorem dX12_program_45 : decode cX12_program 45 = .ok (.iload_n 2, 1) := by decide +kernel
theorem dX12_program_46 : decode cX12_program 46 = .ok (.bipush 114, 2) := by decide +kernel
theorem dX12_program_48 : decode cX12_program 48 = .ok (.if_icmp .ne 19, 3) := by decide +kernel
theorem dX12_program_51 : decode cX12_program 51 = .ok (.aload_n 0, 1) := by decide +kernel
theorem dX12_program_52 : decode cX12_program 52 = .ok (.iload_n 3, 1) := by decide +kernel
theorem dX12_program_53 : decode cX12_program 53 = .ok (.invokevirtual 165, 3) := by decide +kernel
theorem dX12_program_56 : decode cX12_program 56 = .ok (.ifCond .ne 7, 3) := by decide +kernel
theorem dX12_program_59 : decode cX12_program 59 = .ok (.iconst 1, 1) := by decide +kernel
theorem dX12_program_60 : decode cX12_program 60 = .ok (.goto 28, 3) := by decide +kernel
theorem dX12_program_63 : decode cX12_program 63 = .ok (.iconst 0, 1) := by decide +kernel
theorem dX12_program_64 : decode cX12_program 64 = .ok (.goto 24, 3) := by decide +kernel
theorem dX12_program_67 : decode cX12_program 67 = .ok (.iload_n 2, 1) := by decide +kernel
theorem dX12_program_68 : decode cX12_program 68 = .ok (.bipush 106, 2) := by decide +kernel
theorem dX12_program_70 : decode cX12_program 70 = .ok (.if_icmp .ne 13, 3) := by decide +kernel
theorem dX12_program_73 : decode cX12_program 73 = .ok (.iload_n 3, 1) := by decide +kernel
theorem dX12_program_74 : decode cX12_program 74 = .ok (.iconst 0, 1) := by decide +kernel
theorem dX12_program_75 : decode cX12_program 75 = .ok (.bipush 11, 2) := by decide +kernel
theorem dX12_program_77 : decode cX12_program 77 = .ok (.invokestatic 148, 3) := by decide +kernel
theorem dX12_program_80 : decode cX12_program 80 = .ok (.ifCond .eq 7, 3) := by decide +kernel
theorem dX12_program_83 : decode cX12_program 83 = .ok (.iconst 1, 1) := by decide +kernel
theorem dX12_program_84 : decode cX12_program 84 = .ok (.goto 4, 3) := by decide +kernel
theorem dX12_program_87 : decode cX12_program 87 = .ok (.iconst 0, 1) := by decide +kernel
theorem dX12_program_88 : decode cX12_program 88 = .ok (.istore 5, 2) := by decide +kernel
theorem dX12_program_90 : decode cX12_program 90 = .ok (.aload_n 0, 1) := by decide +kernel
theorem dX12_program_91 : decode cX12_program 91 = .ok (.aload_n 0, 1) := by decide +kernel
theorem dX12_program_92 : decode cX12_program 92 = .ok (.iload_n 1, 1) := by decide +kernel
theorem dX12_program_93 : decode cX12_program 93 = .ok (.invokevirtual 165, 3) := by decide +kernel
theorem dX12_program_96 : decode cX12_program 96 = .ok (.iconst 1, 1) := by decide +kernel
theorem dX12_program_97 : decode cX12_program 97 = .ok (.invokevirtual 155, 3) := by decide +kernel
theorem dX12_program_100 : decode cX12_program 100 = .ok (.ifCond .ne 58, 3) := by decide +kernel
theorem dX12_program_103 : decode cX12_program 103 = .ok (.aload_n 0, 1) := by decide +kernel
theorem dX12_program_104 : decode cX12_program 104 = .ok (.iload 4, 2) := by decide +kernel
theorem dX12_program_106 : decode cX12_program 106 = .ok (.ifCond .eq 8, 3) := by decide +kernel
theorem dX12_program_109 : decode cX12_program 109 = .ok (.iload 5, 2) := by decide +kernel
theorem dX12_program_111 : decode cX12_program 111 = .ok (.ifCond .ne 7, 3) := by decide +kernel
theorem dX12_program_114 : decode cX12_program 114 = .ok (.iconst 1, 1) := by decide +kernel
theorem dX12_program_115 : decode cX12_program 115 = .ok (.goto 4, 3) := by decide +kernel
theorem dX12_program_118 : decode cX12_program 118 = .ok (.iconst 0, 1) := by decide +kernel
theorem dX12_program_119 : decode cX12_program 119 = .ok (.iconst 2, 1) := by decide +kernel
theorem dX12_program_120 : decode cX12_program 120 = .ok (.invokevirtual 155, 3) := by decide +kernel
theorem dX12_program_123 : decode cX12_program 123 = .ok (.ifCond .ne 35, 3) := by decide +kernel
theorem dX12_program_126 : decode cX12_program 126 = .ok (.aload_n 0, 1) := by decide +kernel
theorem dX12_program_127 : decode cX12_program 127 = .ok (.aload_n 0, 1) := by decide +kernel
theorem dX12_program_128 : decode cX12_program 128 = .ok (.getfield 120, 3) := by decide +kernel
theorem dX12_program_131 : decode cX12_program 131 = .ok (.iload_n 1, 1) := by decide +kernel
theorem dX12_program_132 : decode cX12_program 132 = .ok (.iaload, 1) := by decide +kernel
theorem dX12_program_133 : decode cX12_program 133 = .ok (.bipush 12, 2) := by decide +kernel
theorem dX12_program_135 : decode cX12_program 135 = .ok (.if_icmp .eq 11, 3) := by decide +kernel
theorem dX12_program_138 : decode cX12_program 138 = .ok (.aload_n 0, 1) := by decide +kernel
theorem dX12_program_139 : decode cX12_program 139 = .ok (.iload_n 1, 1) := by decide +kernel
theorem dX12_program_140 : decode cX12_program 140 = .ok (.invokevirtual 283, 3) := by decide +kernel
theorem dX12_program_143 : decode cX12_program 143 = .ok (.ifCond .eq 7, 3) := by decide +kernel
theorem dX12_program_146 : decode cX12_program 146 = .ok (.iconst 1, 1) := by decide +kernel
theorem dX12_program_147 : decode cX12_program 147 = .ok (.goto 4, 3) := by decide +kernel
theorem dX12_program_150 : decode cX12_program 150 = .ok (.iconst 0, 1) := by decide +kernel
theorem dX12_program_151 : decode cX12_program 151 = .ok (.iconst 3, 1) := by decide +kernel
theorem dX12_program_152 : decode cX12_program 152 = .ok (.invokevirtual 155, 3) := by decide +kernel
theorem dX12_program_155 : decode cX12_program 155 = .ok (.ifCond .eq 5, 3) := by decide +kernel
theorem dX12_program_158 : decode cX12_program 158 = .ok (.iconst 0, 1) := by decide +kernel
theorem dX12_program_159 : decode cX12_program 159 = .ok (.ireturn, 1) := by decide +kernel
theorem dX12_program_160 : decode cX12_program 160 = .ok (.aload_n 0, 1) := by decide +kernel
theorem dX12_program_161 : decode cX12_program 161 = .ok (.getfield 114, 3) := by decide +kernel
theorem dX12_program_164 : decode cX12_program 164 = .ok (.iload_n 1, 1) := by decide +kernel
theorem dX12_program_165 : decode cX12_program 165 = .ok (.aaload, 1) := by decide +kernel
theorem dX12_program_166 : decode cX12_program 166 = .ok (.aload_n 0, 1) := by decide +kernel
theorem dX12_program_167 : decode cX12_program 167 = .ok (.getfield 120, 3) := by decide +kernel
theorem dX12_program_170 : decode cX12_program 170 = .ok (.iload_n 1, 1) := by decide +kernel
theorem dX12_program_171 : decode cX12_program 171 = .ok (.iaload, 1) := by decide +kernel
theorem dX12_program_172 : decode cX12_program 172 = .ok (.iload_n 2, 1) := by decide +kernel
theorem dX12_program_173 : decode cX12_program 173 = .ok (.castore, 1) := by decide +kernel
theorem dX12_program_174 : decode cX12_program 174 = .ok (.aload_n 0, 1) := by decide +kernel
theorem dX12_program_175 : decode cX12_program 175 = .ok (.getfield 117, 3) := by decide +kernel
theorem dX12_program_178 : decode cX12_program 178 = .ok (.iload_n 1, 1) := by decide +kernel
theorem dX12_program_179 : decode cX12_program 179 = .ok (.aaload, 1) := by decide +kernel
theorem dX12_program_180 : decode cX12_program 180 = .ok (.aload_n 0, 1) := by decide +kernel
theorem dX12_program_181 : decode cX12_program 181 = .ok (.getfield 120, 3) := by decide +kernel
theorem dX12_program_184 : decode cX12_program 184 = .ok (.iload_n 1, 1) := by decide +kernel
theorem dX12_program_185 : decode cX12_program 185 = .ok (.iaload, 1) := by decide +kernel
theorem dX12_program_186 : decode cX12_program 186 = .ok (.iload_n 3, 1) := by decide +kernel
theorem dX12_program_187 : decode cX12_program 187 = .ok (.iastore, 1) := by decide +kernel
theorem dX12_program_188 : decode cX12_program 188 = .ok (.aload_n 0, 1) := by decide +kernel
theorem dX12_program_189 : decode cX12_program 189 = .ok (.getfield 120, 3) := by decide +kernel
theorem dX12_program_192 : decode cX12_program 192 = .ok (.iload_n 1, 1) := by decide +kernel
theorem dX12_program_193 : decode cX12_program 193 = .ok (.dup2, 1) := by decide +kernel
theorem dX12_program_194 : decode cX12_program 194 = .ok (.iaload, 1) := by decide +kernel
theorem dX12_program_195 : decode cX12_program 195 = .ok (.iconst 1, 1) := by decide +kernel
theorem dX12_program_196 : decode cX12_program 196 = .ok (.iadd, 1) := by decide +kernel
theorem dX12_program_197 : decode cX12_program 197 = .ok (.iastore, 1) := by decide +kernel
theorem dX12_program_198 : decode cX12_program 198 = .ok (.aload_n 0, 1) := by decide +kernel
theorem dX12_program_199 : decode cX12_program 199 = .ok (.getfield 120, 3) := by decide +kernel
theorem dX12_program_202 : decode cX12_program 202 = .ok (.iload_n 1, 1) := by decide +kernel
theorem dX12_program_203 : decode cX12_program 203 = .ok (.iaload, 1) := by decide +kernel
theorem dX12_program_204 : decode cX12_program 204 = .ok (.ireturn, 1) := by decide +kernel
theorem dX12_clear_0 : decode cX12_clear 0 = .ok (.aload_n 0, 1) := by decide +kernel
theorem dX12_clear_1 : decode cX12_clear 1 = .ok (.aload_n 0, 1) := by decide +kernel
theorem dX12_clear_2 : decode cX12_clear 2 = .ok (.iload_n 1, 1) := by decide +kernel
theorem dX12_clear_3 : decode cX12_clear 3 = .ok (.invokevirtual 165, 3) := by decide +kernel
theorem dX12_clear_6 : decode cX12_clear 6 = .ok (.iconst 1, 1) := by decide +kernel
theorem dX12_clear_7 : decode cX12_clear 7 = .ok (.invokevirtual 155, 3) := by decide +kernel
theorem dX12_clear_10 : decode cX12_clear 10 = .ok (.ifCond .ne 16, 3) := by decide +kernel
theorem dX12_clear_13 : decode cX12_clear 13 = .ok (.aload_n 0, 1) := by decide +kernel
theorem dX12_clear_14 : decode cX12_clear 14 = .ok (.aload_n 0, 1) := by decide +kernel
theorem dX12_clear_15 : decode cX12_clear 15 = .ok (.iload_n 1, 1) := by decide +kernel
theorem dX12_clear_16 : decode cX12_clear 16 = .ok (.invokevirtual 283, 3) := by decide +kernel
theorem dX12_clear_19 : decode cX12_clear 19 = .ok (.iconst 2, 1) := by decide +kernel
theorem dX12_clear_20 : decode cX12_clear 20 = .ok (.invokevirtual 155, 3) := by decide +kernel
theorem dX12_clear_23 : decode cX12_clear 23 = .ok (.ifCond .eq 5, 3) := by decide +kernel
theorem dX12_clear_26 : decode cX12_clear 26 = .ok (.iconst 0, 1) := by decide +kernel
theorem dX12_clear_27 : decode cX12_clear 27 = .ok (.ireturn, 1) := by decide +kernel
theorem dX12_clear_28 : decode cX12_clear 28 = .ok (.aload_n 0, 1) := by decide +kernel
theorem dX12_clear_29 : decode cX12_clear 29 = .ok (.getfield 120, 3) := by decide +kernel
theorem dX12_clear_32 : decode cX12_clear 32 = .ok (.iload_n 1, 1) := by decide +kernel
theorem dX12_clear_33 : decode cX12_clear 33 = .ok (.iaload, 1) := by decide +kernel
theorem dX12_clear_34 : decode cX12_clear 34 = .ok (.istore_n 2, 1) := by decide +kernel
theorem dX12_clear_35 : decode cX12_clear 35 = .ok (.aload_n 0, 1) := by decide +kernel
theorem dX12_clear_36 : decode cX12_clear 36 = .ok (.getfield 120, 3) := by decide +kernel
theorem dX12_clear_39 : decode cX12_clear 39 = .ok (.iload_n 1, 1) := by decide +kernel
theorem dX12_clear_40 : decode cX12_clear 40 = .ok (.iconst 0, 1) := by decide +kernel
theorem dX12_clear_41 : decode cX12_clear 41 = .ok (.iastore, 1) := by decide +kernel
theorem dX12_clear_42 : decode cX12_clear 42 = .ok (.iload_n 2, 1) := by decide +kernel
theorem dX12_clear_43 : decode cX12_clear 43 = .ok (.ireturn, 1) := by decide +kernel
theorem dX12_start_0 : decode cX12_start 0 = .ok (.aload_n 0, 1) := by decide +kernel
theorem dX12_start_1 : decode cX12_start 1 = .ok (.aload_n 0, 1) := by decide +kernel
theorem dX12_start_2 : decode cX12_start 2 = .ok (.iload_n 1, 1) := by decide +kernel
theorem dX12_start_3 : decode cX12_start 3 = .ok (.invokevirtual 165, 3) := by decide +kernel
theorem dX12_start_6 : decode cX12_start 6 = .ok (.iconst 1, 1) := by decide +kernel
theorem dX12_start_7 : decode cX12_start 7 = .ok (.invokevirtual 155, 3) := by decide +kernel
theorem dX12_start_10 : decode cX12_start 10 = .ok (.ifCond .ne 38, 3) := by decide +kernel
theorem dX12_start_13 : decode cX12_start 13 = .ok (.aload_n 0, 1) := by decide +kernel
theorem dX12_start_14 : decode cX12_start 14 = .ok (.aload_n 0, 1) := by decide +kernel
theorem dX12_start_15 : decode cX12_start 15 = .ok (.getfield 120, 3) := by decide +kernel
theorem dX12_start_18 : decode cX12_start 18 = .ok (.iload_n 1, 1) := by decide +kernel
theorem dX12_start_19 : decode cX12_start 19 = .ok (.iaload, 1) := by decide +kernel
theorem dX12_start_20 : decode cX12_start 20 = .ok (.ifCond .ne 7, 3) := by decide +kernel
theorem dX12_start_23 : decode cX12_start 23 = .ok (.iconst 1, 1) := by decide +kernel
theorem dX12_start_24 : decode cX12_start 24 = .ok (.goto 4, 3) := by decide +kernel
theorem dX12_start_27 : decode cX12_start 27 = .ok (.iconst 0, 1) := by decide +kernel
theorem dX12_start_28 : decode cX12_start 28 = .ok (.iconst 2, 1) := by decide +kernel
theorem dX12_start_29 : decode cX12_start 29 = .ok (.invokevirtual 155, 3) := by decide +kernel
theorem dX12_start_32 : decode cX12_start 32 = .ok (.ifCond .ne 16, 3) := by decide +kernel
theorem dX12_start_35 : decode cX12_start 35 = .ok (.aload_n 0, 1) := by decide +kernel
theorem dX12_start_36 : decode cX12_start 36 = .ok (.aload_n 0, 1) := by decide +kernel
theorem dX12_start_37 : decode cX12_start 37 = .ok (.iload_n 1, 1) := by decide +kernel
theorem dX12_start_38 : decode cX12_start 38 = .ok (.invokevirtual 283, 3) := by decide +kernel
theorem dX12_start_41 : decode cX12_start 41 = .ok (.iconst 3, 1) := by decide +kernel
theorem dX12_start_42 : decode cX12_start 42 = .ok (.invokevirtual 155, 3) := by decide +kernel
theorem dX12_start_45 : decode cX12_start 45 = .ok (.ifCond .eq 5, 3) := by decide +kernel
theorem dX12_start_48 : decode cX12_start 48 = .ok (.iconst 0, 1) := by decide +kernel
theorem dX12_start_49 : decode cX12_start 49 = .ok (.ireturn, 1) := by decide +kernel
theorem dX12_start_50 : decode cX12_start 50 = .ok (.aload_n 0, 1) := by decide +kernel
theorem dX12_start_51 : decode cX12_start 51 = .ok (.getfield 109, 3) := by decide +kernel
theorem dX12_start_54 : decode cX12_start 54 = .ok (.iload_n 1, 1) := by decide +kernel
theorem dX12_start_55 : decode cX12_start 55 = .ok (.iconst 0, 1) := by decide +kernel
theorem dX12_start_56 : decode cX12_start 56 = .ok (.iastore, 1) := by decide +kernel
theorem dX12_start_57 : decode cX12_start 57 = .ok (.aload_n 0, 1) := by decide +kernel
theorem dX12_start_58 : decode cX12_start 58 = .ok (.getfield 129, 3) := by decide +kernel
theorem dX12_start_61 : decode cX12_start 61 = .ok (.iload_n 1, 1) := by decide +kernel
theorem dX12_start_62 : decode cX12_start 62 = .ok (.iconst 0, 1) := by decide +kernel
theorem dX12_start_63 : decode cX12_start 63 = .ok (.iastore, 1) := by decide +kernel
theorem dX12_start_64 : decode cX12_start 64 = .ok (.aload_n 0, 1) := by decide +kernel
theorem dX12_start_65 : decode cX12_start 65 = .ok (.getfield 123, 3) := by decide +kernel
theorem dX12_start_68 : decode cX12_start 68 = .ok (.iload_n 1, 1) := by decide +kernel
theorem dX12_start_69 : decode cX12_start 69 = .ok (.bipush 114, 2) := by decide +kernel
theorem dX12_start_71 : decode cX12_start 71 = .ok (.castore, 1) := by decide +kernel
theorem dX12_start_72 : decode cX12_start 72 = .ok (.iconst 0, 1) := by decide +kernel
theorem dX12_start_73 : decode cX12_start 73 = .ok (.istore_n 2, 1) := by decide +kernel
theorem dX12_start_74 : decode cX12_start 74 = .ok (.iconst 0, 1) := by decide +kernel
theorem dX12_start_75 : decode cX12_start 75 = .ok (.istore_n 3, 1) := by decide +kernel
theorem dX12_start_76 : decode cX12_start 76 = .ok (.iload_n 3, 1) := by decide +kernel
theorem dX12_start_77 : decode cX12_start 77 = .ok (.aload_n 0, 1) := by decide +kernel
theorem dX12_start_78 : decode cX12_start 78 = .ok (.invokevirtual 144, 3) := by decide +kernel
theorem dX12_start_81 : decode cX12_start 81 = .ok (.if_icmp .ge 25, 3) := by decide +kernel
theorem dX12_start_84 : decode cX12_start 84 = .ok (.iload_n 2, 1) := by decide +kernel
theorem dX12_start_85 : decode cX12_start 85 = .ok (.aload_n 0, 1) := by decide +kernel
theorem dX12_start_86 : decode cX12_start 86 = .ok (.iload_n 3, 1) := by decide +kernel
theorem dX12_start_87 : decode cX12_start 87 = .ok (.invokevirtual 283, 3) := by decide +kernel
theorem dX12_start_90 : decode cX12_start 90 = .ok (.ifCond .eq 7, 3) := by decide +kernel
theorem dX12_start_93 : decode cX12_start 93 = .ok (.iconst 1, 1) := by decide +kernel
theorem dX12_start_94 : decode cX12_start 94 = .ok (.goto 4, 3) := by decide +kernel
theorem dX12_start_97 : decode cX12_start 97 = .ok (.iconst 0, 1) := by decide +kernel
theorem dX12_start_98 : decode cX12_start 98 = .ok (.iadd, 1) := by decide +kernel
theorem dX12_start_99 : decode cX12_start 99 = .ok (.istore_n 2, 1) := by decide +kernel
theorem dX12_start_100 : decode cX12_start 100 = .ok (.iinc 3 1, 3) := by decide +kernel
theorem dX12_start_103 : decode cX12_start 103 = .ok (.goto (-27), 3) := by decide +kernel
theorem dX12_start_106 : decode cX12_start 106 = .ok (.iload_n 2, 1) := by decide +kernel
theorem dX12_start_107 : decode cX12_start 107 = .ok (.ireturn, 1) := by decide +kernel
theorem dX12_core_0 : decode cX12_core 0 = .ok (.aload_n 0, 1) := by decide +kernel
theorem dX12_core_1 : decode cX12_core 1 = .ok (.aload_n 0, 1) := by decide +kernel
theorem dX12_core_2 : decode cX12_core 2 = .ok (.iload_n 1, 1) := by decide +kernel
theorem dX12_core_3 : decode cX12_core 3 = .ok (.invokevirtual 165, 3) := by decide +kernel
theorem dX12_core_6 : decode cX12_core 6 = .ok (.iconst 1, 1) := by decide +kernel
theorem dX12_core_7 : decode cX12_core 7 = .ok (.invokevirtual 155, 3) := by decide +kernel
theorem dX12_core_10 : decode cX12_core 10 = .ok (.ifCond .eq 8, 3) := by decide +kernel
theorem dX12_core_13 : decode cX12_core 13 = .ok (.bipush 32, 2) := by decide +kernel
theorem dX12_core_15 : decode cX12_core 15 = .ok (.goto 9, 3) := by decide +kernel
theorem dX12_core_18 : decode cX12_core 18 = .ok (.aload_n 0, 1) := by decide +kernel
theorem dX12_core_19 : decode cX12_core 19 = .ok (.getfield 123, 3) := by decide +kernel
theorem dX12_core_22 : decode cX12_core 22 = .ok (.iload_n 1, 1) := by decide +kernel
theorem dX12_core_23 : decode cX12_core 23 = .ok (.caload, 1) := by decide +kernel
theorem dX12_core_24 : decode cX12_core 24 = .ok (.ireturn, 1) := by decide +kernel
def f_M_beatNow_b60 (K30 : me_M → Int32 → Option (me_M × Unit)) (μ : me_M) (v1 : Int32) : Option (me_M × Unit) :=
  me_b2 (f_M_does μ v1) (fun μ2 r1 =>
  me_lt (me_inc v1 (1)) (fun x3 =>
  K30 μ2 x3))
set_option maxHeartbeats 4000000 in
set_option maxRecDepth 100000 in
theorem z_M_beatNow_b60 {X : me_X} {B : me_B} {sz : Nat} (C : me_C X B RX12 cX12_beatNow 4 none) {μ : me_M} {v1 : Int32}  {K30 : me_M → Int32 → Option (me_M × Unit)} {r : me_M × Unit} (N : me_En X B sz (B, r.1, .ok (none)) 5 146 0 0) (hNx : me_Nx X) (hB : me_St B) (hK30 : ∀ (μ : me_M) (v1 : Int32), K30 μ v1 = some r → me_Z X B 0 0 μ 30 [(0, me_r 36 0), (1, me_i v1)] [])  (hf : f_M_beatNow_b60 K30 μ v1 = some r) : me_Z X B 0 0 μ 60 [(0, me_r 36 0), (1, me_i v1)] [] := by
  unfold f_M_beatNow_b60 at hf
  refine me_aload_n C 0 (Or.inr (Or.inl ⟨_, rfl⟩)) dX12_beatNow_60 rfl rfl ?_
  refine me_iload_n C 1 dX12_beatNow_61 rfl rfl ?_
  obtain ⟨μ2, r1, h_r1, hf⟩ := me_bs2 hf
  refine me_callV0 C N  (As := [me_i v1]) (st := []) 0 0 (c_M_does hB h_r1) mv_M_does ml_M_243 rfl rfl dX12_beatNow_62 rfl rfl ⟨by decide, by decide⟩ ⟨by decide, by decide, by decide, by decide⟩ (Nat.le_of_ble_eq_true rfl) ?_
  obtain ⟨x3, e_x3, hf⟩ := me_lts hf
  refine me_iinc C (v := x3) (L' := [(1, me_i x3), (0, me_r 36 0)]) dX12_beatNow_65 rfl e_x3.symm (by decide) rfl ?_
  refine me_goto C (tgt := 30) dX12_beatNow_68 (by decide) ?_
  refine me_dropI [(0, me_r 36 0), (1, me_i x3)] [1, 0] rfl ?_
  exact hK30 μ2 x3 hf
def f_M_beatNow_b83 (K73 : me_M → Int32 → Option (me_M × Unit)) (K83 : me_M → Int32 → Int32 → Option (me_M × Unit)) (μ : me_M) (v1 : Int32) (v2 : Int32) : Option (me_M × Unit) :=
  if (5 : Int32) ≤ v2 then
  (me_lt (me_inc v1 (1)) (fun x2 =>
  K73 μ x2))
  else
  (me_gd (me_inb v1 16) (
  if (μ 85 0 (me_ix v1)) = 0 then
  (me_b2 (f_M_routes μ v1 v2) (fun μ7 r6 =>
  me_lt (me_inc v2 (1)) (fun x8 =>
  K83 μ7 v1 x8)))
  else
  (me_lt (me_inc v1 (1)) (fun x5 =>
  K73 μ x5))))
set_option maxHeartbeats 4000000 in
set_option maxRecDepth 100000 in
theorem z_M_beatNow_b83 {X : me_X} {B : me_B} {sz : Nat} (C : me_C X B RX12 cX12_beatNow 4 none) {μ : me_M} {v1 : Int32} {v2 : Int32}  {K73 : me_M → Int32 → Option (me_M × Unit)} {K83 : me_M → Int32 → Int32 → Option (me_M × Unit)} {r : me_M × Unit} (N : me_En X B sz (B, r.1, .ok (none)) 5 146 0 0) (hNx : me_Nx X) (hB : me_St B) (hK73 : ∀ (μ : me_M) (v1 : Int32), K73 μ v1 = some r → me_Z X B 0 0 μ 73 [(0, me_r 36 0), (1, me_i v1)] []) (hK83 : ∀ (μ : me_M) (v1 : Int32) (v2 : Int32), K83 μ v1 v2 = some r → me_Z X B 0 0 μ 83 [(0, me_r 36 0), (1, me_i v1), (2, me_i v2)] [])  (hf : f_M_beatNow_b83 K73 K83 μ v1 v2 = some r) : me_Z X B 0 0 μ 83 [(0, me_r 36 0), (1, me_i v1), (2, me_i v2)] [] := by
  unfold f_M_beatNow_b83 at hf
  refine me_iload_n C 2 dX12_beatNow_83 rfl rfl ?_
  refine me_iconst C (v := 5) dX12_beatNow_84 (by decide) ?_
  refine me_icmp_ge C (tgt := 109) dX12_beatNow_85 (by decide) (fun c1 => ?_) (fun c1 => ?_)
  · replace hf := me_ip c1 hf
    obtain ⟨x2, e_x2, hf⟩ := me_lts hf
    refine me_iinc C (v := x2) (L' := [(1, me_i x2), (0, me_r 36 0), (2, me_i v2)]) dX12_beatNow_109 rfl e_x2.symm (by decide) rfl ?_
    refine me_goto C (tgt := 73) dX12_beatNow_112 (by decide) ?_
    refine me_dropI [(0, me_r 36 0), (1, me_i x2)] [1, 0] rfl ?_
    exact hK73 μ x2 hf
  · replace hf := me_in c1 hf
    refine me_aload_n C 0 (Or.inr (Or.inl ⟨_, rfl⟩)) dX12_beatNow_88 rfl rfl ?_
    refine me_getr C hB 28 (k' := 85) (i' := 0) fg_M_95 dX12_beatNow_89 rfl rfl ?_
    refine me_iload_n C 1 dX12_beatNow_92 rfl rfl ?_
    obtain ⟨g3, hf⟩ := me_gs hf
    refine me_zald C rfl (fun _ => rfl) g3 dX12_beatNow_93 ?_
    refine me_if_ne C (tgt := 109) dX12_beatNow_94 (by decide) (fun c4 => ?_) (fun c4 => ?_)
    · replace hf := me_in c4 hf
      obtain ⟨x5, e_x5, hf⟩ := me_lts hf
      refine me_iinc C (v := x5) (L' := [(1, me_i x5), (0, me_r 36 0), (2, me_i v2)]) dX12_beatNow_109 rfl e_x5.symm (by decide) rfl ?_
      refine me_goto C (tgt := 73) dX12_beatNow_112 (by decide) ?_
      refine me_dropI [(0, me_r 36 0), (1, me_i x5)] [1, 0] rfl ?_
      exact hK73 μ x5 hf
    · replace hf := me_ip c4 hf
      refine me_aload_n C 0 (Or.inr (Or.inl ⟨_, rfl⟩)) dX12_beatNow_97 rfl rfl ?_
      refine me_iload_n C 1 dX12_beatNow_98 rfl rfl ?_
      refine me_iload_n C 2 dX12_beatNow_99 rfl rfl ?_
      obtain ⟨μ7, r6, h_r6, hf⟩ := me_bs2 hf
      refine me_callV0 C N  (As := [me_i v1, me_i v2]) (st := []) 0 0 (c_M_routes hB h_r6) mv_M_routes ml_M_246 rfl rfl dX12_beatNow_100 rfl rfl ⟨by decide, by decide⟩ ⟨by decide, by decide, by decide, by decide⟩ (Nat.le_of_ble_eq_true rfl) ?_
      obtain ⟨x8, e_x8, hf⟩ := me_lts hf
      refine me_iinc C (v := x8) (L' := [(2, me_i x8), (0, me_r 36 0), (1, me_i v1)]) dX12_beatNow_103 rfl e_x8.symm (by decide) rfl ?_
      refine me_goto C (tgt := 83) dX12_beatNow_106 (by decide) ?_
      refine me_dropI [(0, me_r 36 0), (1, me_i v1), (2, me_i x8)] [1, 2, 0] rfl ?_
      exact hK83 μ7 v1 x8 hf
def f_M_beatNow_h83 (K73 : me_M → Int32 → Option (me_M × Unit)) : Nat → me_M → Int32 → Int32 → Option (me_M × Unit)
  | 0, _, _, _ => none
  | n + 1, μ, v1, v2 => f_M_beatNow_b83 K73 (f_M_beatNow_h83 K73 n) μ v1 v2
set_option maxHeartbeats 4000000 in
set_option maxRecDepth 100000 in
theorem z_M_beatNow_h83 {X : me_X} {B : me_B} {sz : Nat} (C : me_C X B RX12 cX12_beatNow 4 none) {K73 : me_M → Int32 → Option (me_M × Unit)} {r : me_M × Unit} (N : me_En X B sz (B, r.1, .ok (none)) 5 146 0 0) (hNx : me_Nx X) (hB : me_St B) (hK73 : ∀ (μ : me_M) (v1 : Int32), K73 μ v1 = some r → me_Z X B 0 0 μ 73 [(0, me_r 36 0), (1, me_i v1)] []) : ∀ (n : Nat) (μ : me_M) (v1 : Int32) (v2 : Int32), f_M_beatNow_h83 K73 n μ v1 v2 = some r → me_Z X B 0 0 μ 83 [(0, me_r 36 0), (1, me_i v1), (2, me_i v2)] [] := by
  intro n
  induction n with
  | zero => intro μ v1 v2  h; exact absurd (show (none : Option (me_M × Unit)) = some r from h) (fun q => by cases q)
  | succ n ih => intro μ v1 v2  h; exact z_M_beatNow_b83 C N hNx hB hK73 (K83 := f_M_beatNow_h83 K73 n) ih  h
def f_M_beatNow_b222 (K149 : me_M → Int32 → Int32 → Int32 → Option (me_M × Unit)) (μ : me_M) (v1 : Int32) (v3 : Int32) (s0 : Int32) : Option (me_M × Unit) :=
  me_lt ((s0 ||| (1 : Int32))) (fun x1 =>
  me_lt (me_inc v3 (1)) (fun x2 =>
  K149 μ v1 x1 x2))
set_option maxHeartbeats 4000000 in
set_option maxRecDepth 100000 in
theorem z_M_beatNow_b222 {X : me_X} {B : me_B} {sz : Nat} (C : me_C X B RX12 cX12_beatNow 4 none) {μ : me_M} {v1 : Int32} {v3 : Int32} {s0 : Int32}  {K149 : me_M → Int32 → Int32 → Int32 → Option (me_M × Unit)} {r : me_M × Unit} (N : me_En X B sz (B, r.1, .ok (none)) 5 146 0 0) (hNx : me_Nx X) (hB : me_St B) (hK149 : ∀ (μ : me_M) (v1 : Int32) (v2 : Int32) (v3 : Int32), K149 μ v1 v2 v3 = some r → me_Z X B 0 0 μ 149 [(0, me_r 36 0), (1, me_i v1), (2, me_i v2), (3, me_i v3)] [])  (hf : f_M_beatNow_b222 K149 μ v1 v3 s0 = some r) : me_Z X B 0 0 μ 222 [(0, me_r 36 0), (1, me_i v1), (3, me_i v3)] [me_i s0] := by
  unfold f_M_beatNow_b222 at hf
  refine me_iconst C (v := 1) dX12_beatNow_222 (by decide) ?_
  refine me_goto C (tgt := 227) dX12_beatNow_223 (by decide) ?_
  refine me_ior C dX12_beatNow_227 ?_
  obtain ⟨x1, e_x1, hf⟩ := me_lts hf
  refine me_nm e_x1 ?_
  refine me_istore_n C 2 dX12_beatNow_228 rfl (by decide) (L' := [(2, me_i x1), (0, me_r 36 0), (1, me_i v1), (3, me_i v3)]) rfl ?_
  obtain ⟨x2, e_x2, hf⟩ := me_lts hf
  refine me_iinc C (v := x2) (L' := [(3, me_i x2), (2, me_i x1), (0, me_r 36 0), (1, me_i v1)]) dX12_beatNow_229 rfl e_x2.symm (by decide) rfl ?_
  refine me_goto C (tgt := 149) dX12_beatNow_232 (by decide) ?_
  refine me_dropI [(0, me_r 36 0), (1, me_i v1), (2, me_i x1), (3, me_i x2)] [2, 3, 1, 0] rfl ?_
  exact hK149 μ v1 x1 x2 hf
def f_M_beatNow_b197 (K149 : me_M → Int32 → Int32 → Int32 → Option (me_M × Unit)) (μ : me_M) (v2 : Int32) (v3 : Int32) (s0 : Int32) (s1 : Int32) : Option (me_M × Unit) :=
  me_lt ((s1 ||| s0)) (fun x1 =>
  me_gd (me_inb v3 16) (
  if (μ 89 0 (me_ix v3)) = (114 : Int32) then
  (f_M_beatNow_b222 K149 μ x1 v3 v2)
  else
  (me_gd (me_inb v3 16) (
  if (μ 89 0 (me_ix v3)) = (119 : Int32) then
  (f_M_beatNow_b222 K149 μ x1 v3 v2)
  else
  (me_lt ((v2 ||| (0 : Int32))) (fun x6 =>
  me_lt (me_inc v3 (1)) (fun x7 =>
  K149 μ x1 x6 x7)))))))
set_option maxHeartbeats 4000000 in
set_option maxRecDepth 100000 in
theorem z_M_beatNow_b197 {X : me_X} {B : me_B} {sz : Nat} (C : me_C X B RX12 cX12_beatNow 4 none) {μ : me_M} {v2 : Int32} {v3 : Int32} {s0 : Int32} {s1 : Int32}  {K149 : me_M → Int32 → Int32 → Int32 → Option (me_M × Unit)} {r : me_M × Unit} (N : me_En X B sz (B, r.1, .ok (none)) 5 146 0 0) (hNx : me_Nx X) (hB : me_St B) (hK149 : ∀ (μ : me_M) (v1 : Int32) (v2 : Int32) (v3 : Int32), K149 μ v1 v2 v3 = some r → me_Z X B 0 0 μ 149 [(0, me_r 36 0), (1, me_i v1), (2, me_i v2), (3, me_i v3)] [])  (hf : f_M_beatNow_b197 K149 μ v2 v3 s0 s1 = some r) : me_Z X B 0 0 μ 197 [(0, me_r 36 0), (2, me_i v2), (3, me_i v3)] [me_i s0, me_i s1] := by
  unfold f_M_beatNow_b197 at hf
  refine me_ior C dX12_beatNow_197 ?_
  obtain ⟨x1, e_x1, hf⟩ := me_lts hf
  refine me_nm e_x1 ?_
  refine me_istore_n C 1 dX12_beatNow_198 rfl (by decide) (L' := [(1, me_i x1), (0, me_r 36 0), (2, me_i v2), (3, me_i v3)]) rfl ?_
  refine me_iload_n C 2 dX12_beatNow_199 rfl rfl ?_
  refine me_aload_n C 0 (Or.inr (Or.inl ⟨_, rfl⟩)) dX12_beatNow_200 rfl rfl ?_
  refine me_getr C hB 36 (k' := 89) (i' := 0) fg_M_123 dX12_beatNow_201 rfl rfl ?_
  refine me_iload_n C 3 dX12_beatNow_204 rfl rfl ?_
  obtain ⟨g2, hf⟩ := me_gs hf
  refine me_cald C rfl (fun _ => rfl) g2 dX12_beatNow_205 ?_
  refine me_bipush C (v := 114) dX12_beatNow_206 (by decide) ?_
  refine me_icmp_eq C (tgt := 222) dX12_beatNow_208 (by decide) (fun c3 => ?_) (fun c3 => ?_)
  · replace hf := me_ip c3 hf
    refine me_dropI [(0, me_r 36 0), (1, me_i x1), (3, me_i v3)] [1, 0, 3] rfl ?_
    exact z_M_beatNow_b222 C N hNx hB hK149 hf
  · replace hf := me_in c3 hf
    refine me_aload_n C 0 (Or.inr (Or.inl ⟨_, rfl⟩)) dX12_beatNow_211 rfl rfl ?_
    refine me_getr C hB 36 (k' := 89) (i' := 0) fg_M_123 dX12_beatNow_212 rfl rfl ?_
    refine me_iload_n C 3 dX12_beatNow_215 rfl rfl ?_
    obtain ⟨g4, hf⟩ := me_gs hf
    refine me_cald C rfl (fun _ => rfl) g4 dX12_beatNow_216 ?_
    refine me_bipush C (v := 119) dX12_beatNow_217 (by decide) ?_
    refine me_icmp_ne C (tgt := 226) dX12_beatNow_219 (by decide) (fun c5 => ?_) (fun c5 => ?_)
    · replace hf := me_in c5 hf
      refine me_iconst C (v := 0) dX12_beatNow_226 (by decide) ?_
      refine me_ior C dX12_beatNow_227 ?_
      obtain ⟨x6, e_x6, hf⟩ := me_lts hf
      refine me_nm e_x6 ?_
      refine me_istore_n C 2 dX12_beatNow_228 rfl (by decide) (L' := [(2, me_i x6), (1, me_i x1), (0, me_r 36 0), (3, me_i v3)]) rfl ?_
      obtain ⟨x7, e_x7, hf⟩ := me_lts hf
      refine me_iinc C (v := x7) (L' := [(3, me_i x7), (2, me_i x6), (1, me_i x1), (0, me_r 36 0)]) dX12_beatNow_229 rfl e_x7.symm (by decide) rfl ?_
      refine me_goto C (tgt := 149) dX12_beatNow_232 (by decide) ?_
      refine me_dropI [(0, me_r 36 0), (1, me_i x1), (2, me_i x6), (3, me_i x7)] [3, 2, 1, 0] rfl ?_
      exact hK149 μ x1 x6 x7 hf
    · replace hf := me_ip c5 hf
      refine me_dropI [(0, me_r 36 0), (1, me_i x1), (3, me_i v3)] [1, 0, 3] rfl ?_
      exact z_M_beatNow_b222 C N hNx hB hK149 hf
def f_M_beatNow_b178 (K149 : me_M → Int32 → Int32 → Int32 → Option (me_M × Unit)) (μ : me_M) (v1 : Int32) (v2 : Int32) (v3 : Int32) (s0 : Int32) (s1 : Int32) (s2 : Int32) : Option (me_M × Unit) :=
  me_gd (me_inb s2 16) (
  me_lt (me_up μ 85 0 (me_ix s2) (vp_nar .boolean (s1 &&& s0))) (fun μ2 =>
  me_gd (me_inb v3 16) (
  if (μ2 89 0 (me_ix v3)) = (98 : Int32) then
  (f_M_beatNow_b197 K149 μ2 v2 v3 (1 : Int32) v1)
  else
  (f_M_beatNow_b197 K149 μ2 v2 v3 (0 : Int32) v1))))
set_option maxHeartbeats 4000000 in
set_option maxRecDepth 100000 in
theorem z_M_beatNow_b178 {X : me_X} {B : me_B} {sz : Nat} (C : me_C X B RX12 cX12_beatNow 4 none) {μ : me_M} {v1 : Int32} {v2 : Int32} {v3 : Int32} {s0 : Int32} {s1 : Int32} {s2 : Int32}  {K149 : me_M → Int32 → Int32 → Int32 → Option (me_M × Unit)} {r : me_M × Unit} (N : me_En X B sz (B, r.1, .ok (none)) 5 146 0 0) (hNx : me_Nx X) (hB : me_St B) (hK149 : ∀ (μ : me_M) (v1 : Int32) (v2 : Int32) (v3 : Int32), K149 μ v1 v2 v3 = some r → me_Z X B 0 0 μ 149 [(0, me_r 36 0), (1, me_i v1), (2, me_i v2), (3, me_i v3)] [])  (hf : f_M_beatNow_b178 K149 μ v1 v2 v3 s0 s1 s2 = some r) : me_Z X B 0 0 μ 178 [(0, me_r 36 0), (1, me_i v1), (2, me_i v2), (3, me_i v3)] [me_i s0, me_i s1, me_i s2, me_r 85 0] := by
  unfold f_M_beatNow_b178 at hf
  refine me_iand C dX12_beatNow_178 ?_
  obtain ⟨g1, hf⟩ := me_gs hf
  obtain ⟨μ2, e_μ2, hf⟩ := me_lts hf
  refine me_zast C rfl (fun _ => rfl) g1 dX12_beatNow_179 e_μ2 ?_
  refine me_iload_n C 1 dX12_beatNow_180 rfl rfl ?_
  refine me_aload_n C 0 (Or.inr (Or.inl ⟨_, rfl⟩)) dX12_beatNow_181 rfl rfl ?_
  refine me_getr C hB 36 (k' := 89) (i' := 0) fg_M_123 dX12_beatNow_182 rfl rfl ?_
  refine me_iload_n C 3 dX12_beatNow_185 rfl rfl ?_
  obtain ⟨g3, hf⟩ := me_gs hf
  refine me_cald C rfl (fun _ => rfl) g3 dX12_beatNow_186 ?_
  refine me_bipush C (v := 98) dX12_beatNow_187 (by decide) ?_
  refine me_icmp_ne C (tgt := 196) dX12_beatNow_189 (by decide) (fun c4 => ?_) (fun c4 => ?_)
  · replace hf := me_in c4 hf
    refine me_iconst C (v := 0) dX12_beatNow_196 (by decide) ?_
    refine me_dropI [(0, me_r 36 0), (2, me_i v2), (3, me_i v3)] [0, 2, 3] rfl ?_
    exact z_M_beatNow_b197 C N hNx hB hK149 hf
  · replace hf := me_ip c4 hf
    refine me_iconst C (v := 1) dX12_beatNow_192 (by decide) ?_
    refine me_goto C (tgt := 197) dX12_beatNow_193 (by decide) ?_
    refine me_dropI [(0, me_r 36 0), (2, me_i v2), (3, me_i v3)] [0, 2, 3] rfl ?_
    exact z_M_beatNow_b197 C N hNx hB hK149 hf
def f_M_beatNow_b288 (μ : me_M) : Option (me_M × Unit) :=
  me_lt (me_up μ 36 0 4 ((μ 36 0 4) + (1 : Int32))) (fun μ1 =>
  some (μ1, ()))
set_option maxHeartbeats 4000000 in
set_option maxRecDepth 100000 in
theorem z_M_beatNow_b288 {X : me_X} {B : me_B} {sz : Nat} (C : me_C X B RX12 cX12_beatNow 4 none) {μ : me_M}    {r : me_M × Unit} (N : me_En X B sz (B, r.1, .ok (none)) 5 146 0 0) (hNx : me_Nx X) (hB : me_St B)   (hf : f_M_beatNow_b288 μ = some r) : me_Z X B 0 0 μ 288 [(0, me_r 36 0)] [] := by
  unfold f_M_beatNow_b288 at hf
  refine me_aload_n C 0 (Or.inr (Or.inl ⟨_, rfl⟩)) dX12_beatNow_288 rfl rfl ?_
  refine me_dup C rfl dX12_beatNow_289 ?_
  refine me_geti C 4 fg_M_162 dX12_beatNow_290 rfl ?_
  refine me_iconst C (v := 1) dX12_beatNow_293 (by decide) ?_
  refine me_iadd C dX12_beatNow_294 ?_
  obtain ⟨μ1, e_μ1, hf⟩ := me_lts hf
  refine me_puti C 4 fw_M_162 dX12_beatNow_295 rfl (me_nri _) e_μ1 ?_
  exact me_vret C N dX12_beatNow_298 (by cases hf; rfl) (by decide) (by decide)
def f_M_beatNow_b237 (K237 : me_M → Int32 → Int32 → Int32 → Option (me_M × Unit)) (μ : me_M) (v1 : Int32) (v2 : Int32) (v3 : Int32) : Option (me_M × Unit) :=
  me_bd (f_M_nodes μ) (fun r1 =>
  if r1 ≤ v3 then
  (f_M_beatNow_b288 μ)
  else
  (if v1 = 0 then
  (f_M_beatNow_b288 μ)
  else
  (if v2 = 0 then
  (me_gd (me_inb v3 16) (
  if (μ 89 0 (me_ix v3)) = (98 : Int32) then
  (me_gd (me_inb v3 16) (
  me_lt (me_up μ 89 0 (me_ix v3) (vp_nar .char (114 : Int32))) (fun μ9 =>
  me_gd (me_inb v3 16) (
  me_gd (me_inb v3 16) (
  me_lt (me_up μ9 91 0 (me_ix v3) ((μ9 91 0 (me_ix v3)) + (1 : Int32))) (fun μ12 =>
  me_lt (me_inc v3 (1)) (fun x13 =>
  K237 μ12 v1 v2 x13)))))))
  else
  (me_lt (me_inc v3 (1)) (fun x7 =>
  K237 μ v1 v2 x7))))
  else
  (f_M_beatNow_b288 μ))))
set_option maxHeartbeats 4000000 in
set_option maxRecDepth 100000 in
theorem z_M_beatNow_b237 {X : me_X} {B : me_B} {sz : Nat} (C : me_C X B RX12 cX12_beatNow 4 none) {μ : me_M} {v1 : Int32} {v2 : Int32} {v3 : Int32}  {K237 : me_M → Int32 → Int32 → Int32 → Option (me_M × Unit)} {r : me_M × Unit} (N : me_En X B sz (B, r.1, .ok (none)) 5 146 0 0) (hNx : me_Nx X) (hB : me_St B) (hK237 : ∀ (μ : me_M) (v1 : Int32) (v2 : Int32) (v3 : Int32), K237 μ v1 v2 v3 = some r → me_Z X B 0 0 μ 237 [(0, me_r 36 0), (1, me_i v1), (2, me_i v2), (3, me_i v3)] [])  (hf : f_M_beatNow_b237 K237 μ v1 v2 v3 = some r) : me_Z X B 0 0 μ 237 [(0, me_r 36 0), (1, me_i v1), (2, me_i v2), (3, me_i v3)] [] := by
  unfold f_M_beatNow_b237 at hf
  refine me_iload_n C 3 dX12_beatNow_237 rfl rfl ?_
  refine me_aload_n C 0 (Or.inr (Or.inl ⟨_, rfl⟩)) dX12_beatNow_238 rfl rfl ?_
  obtain ⟨r1, h_r1, hf⟩ := me_bs hf
  refine me_callV C N  (As := []) (st := [me_i v3]) 0 0 (c_M_nodes hB h_r1) mv_M_nodes ml_M_144 rfl rfl dX12_beatNow_239 rfl rfl ⟨by decide, by decide⟩ ⟨by decide, by decide, by decide, by decide⟩ (Nat.le_of_ble_eq_true rfl) ?_
  refine me_icmp_ge C (tgt := 288) dX12_beatNow_242 (by decide) (fun c2 => ?_) (fun c2 => ?_)
  · replace hf := me_ip c2 hf
    refine me_dropI [(0, me_r 36 0)] [0] rfl ?_
    exact z_M_beatNow_b288 C N hNx hB hf
  · replace hf := me_in c2 hf
    refine me_iload_n C 1 dX12_beatNow_245 rfl rfl ?_
    refine me_if_eq C (tgt := 288) dX12_beatNow_246 (by decide) (fun c3 => ?_) (fun c3 => ?_)
    · replace hf := me_ip c3 hf
      refine me_dropI [(0, me_r 36 0)] [0] rfl ?_
      exact z_M_beatNow_b288 C N hNx hB hf
    · replace hf := me_in c3 hf
      refine me_iload_n C 2 dX12_beatNow_249 rfl rfl ?_
      refine me_if_ne C (tgt := 288) dX12_beatNow_250 (by decide) (fun c4 => ?_) (fun c4 => ?_)
      · replace hf := me_in c4 hf
        refine me_dropI [(0, me_r 36 0)] [0] rfl ?_
        exact z_M_beatNow_b288 C N hNx hB hf
      · replace hf := me_ip c4 hf
        refine me_aload_n C 0 (Or.inr (Or.inl ⟨_, rfl⟩)) dX12_beatNow_253 rfl rfl ?_
        refine me_getr C hB 36 (k' := 89) (i' := 0) fg_M_123 dX12_beatNow_254 rfl rfl ?_
        refine me_iload_n C 3 dX12_beatNow_257 rfl rfl ?_
        obtain ⟨g5, hf⟩ := me_gs hf
        refine me_cald C rfl (fun _ => rfl) g5 dX12_beatNow_258 ?_
        refine me_bipush C (v := 98) dX12_beatNow_259 (by decide) ?_
        refine me_icmp_ne C (tgt := 282) dX12_beatNow_261 (by decide) (fun c6 => ?_) (fun c6 => ?_)
        · replace hf := me_in c6 hf
          obtain ⟨x7, e_x7, hf⟩ := me_lts hf
          refine me_iinc C (v := x7) (L' := [(3, me_i x7), (0, me_r 36 0), (1, me_i v1), (2, me_i v2)]) dX12_beatNow_282 rfl e_x7.symm (by decide) rfl ?_
          refine me_goto C (tgt := 237) dX12_beatNow_285 (by decide) ?_
          refine me_dropI [(0, me_r 36 0), (1, me_i v1), (2, me_i v2), (3, me_i x7)] [1, 2, 3, 0] rfl ?_
          exact hK237 μ v1 v2 x7 hf
        · replace hf := me_ip c6 hf
          refine me_aload_n C 0 (Or.inr (Or.inl ⟨_, rfl⟩)) dX12_beatNow_264 rfl rfl ?_
          refine me_getr C hB 36 (k' := 89) (i' := 0) fg_M_123 dX12_beatNow_265 rfl rfl ?_
          refine me_iload_n C 3 dX12_beatNow_268 rfl rfl ?_
          refine me_bipush C (v := 114) dX12_beatNow_269 (by decide) ?_
          obtain ⟨g8, hf⟩ := me_gs hf
          obtain ⟨μ9, e_μ9, hf⟩ := me_lts hf
          refine me_cast C rfl (fun _ => rfl) g8 dX12_beatNow_271 e_μ9 ?_
          refine me_aload_n C 0 (Or.inr (Or.inl ⟨_, rfl⟩)) dX12_beatNow_272 rfl rfl ?_
          refine me_getr C hB 38 (k' := 91) (i' := 0) fg_M_129 dX12_beatNow_273 rfl rfl ?_
          refine me_iload_n C 3 dX12_beatNow_276 rfl rfl ?_
          refine me_dup2 C rfl rfl dX12_beatNow_277 ?_
          obtain ⟨g10, hf⟩ := me_gs hf
          refine me_iald C rfl (fun _ => rfl) g10 dX12_beatNow_278 ?_
          refine me_iconst C (v := 1) dX12_beatNow_279 (by decide) ?_
          refine me_iadd C dX12_beatNow_280 ?_
          obtain ⟨g11, hf⟩ := me_gs hf
          obtain ⟨μ12, e_μ12, hf⟩ := me_lts hf
          refine me_iast C rfl (fun _ => rfl) g11 dX12_beatNow_281 e_μ12 ?_
          obtain ⟨x13, e_x13, hf⟩ := me_lts hf
          refine me_iinc C (v := x13) (L' := [(3, me_i x13), (0, me_r 36 0), (1, me_i v1), (2, me_i v2)]) dX12_beatNow_282 rfl e_x13.symm (by decide) rfl ?_
          refine me_goto C (tgt := 237) dX12_beatNow_285 (by decide) ?_
          refine me_dropI [(0, me_r 36 0), (1, me_i v1), (2, me_i v2), (3, me_i x13)] [1, 2, 3, 0] rfl ?_
          exact hK237 μ12 v1 v2 x13 hf
def f_M_beatNow_h237  : Nat → me_M → Int32 → Int32 → Int32 → Option (me_M × Unit)
  | 0, _, _, _, _ => none
  | n + 1, μ, v1, v2, v3 => f_M_beatNow_b237 (f_M_beatNow_h237 n) μ v1 v2 v3
set_option maxHeartbeats 4000000 in
set_option maxRecDepth 100000 in
theorem z_M_beatNow_h237 {X : me_X} {B : me_B} {sz : Nat} (C : me_C X B RX12 cX12_beatNow 4 none)  {r : me_M × Unit} (N : me_En X B sz (B, r.1, .ok (none)) 5 146 0 0) (hNx : me_Nx X) (hB : me_St B)  : ∀ (n : Nat) (μ : me_M) (v1 : Int32) (v2 : Int32) (v3 : Int32), f_M_beatNow_h237 n μ v1 v2 v3 = some r → me_Z X B 0 0 μ 237 [(0, me_r 36 0), (1, me_i v1), (2, me_i v2), (3, me_i v3)] [] := by
  intro n
  induction n with
  | zero => intro μ v1 v2 v3  h; exact absurd (show (none : Option (me_M × Unit)) = some r from h) (fun q => by cases q)
  | succ n ih => intro μ v1 v2 v3  h; exact z_M_beatNow_b237 C N hNx hB  (K237 := f_M_beatNow_h237 n) ih  h
def f_M_beatNow_b149 (K149 : me_M → Int32 → Int32 → Int32 → Option (me_M × Unit)) (μ : me_M) (v1 : Int32) (v2 : Int32) (v3 : Int32) : Option (me_M × Unit) :=
  me_bd (f_M_nodes μ) (fun r1 =>
  if r1 ≤ v3 then
  (f_M_beatNow_h237 me_FU μ v1 v2 (0 : Int32))
  else
  (me_gd (me_inb v3 16) (
  me_gd (me_inb v3 16) (
  if (μ 86 0 (me_ix v3)) = 0 then
  (f_M_beatNow_b178 K149 μ v1 v2 v3 (1 : Int32) (μ 85 0 (me_ix v3)) v3)
  else
  (f_M_beatNow_b178 K149 μ v1 v2 v3 (0 : Int32) (μ 85 0 (me_ix v3)) v3)))))
set_option maxHeartbeats 4000000 in
set_option maxRecDepth 100000 in
theorem z_M_beatNow_b149 {X : me_X} {B : me_B} {sz : Nat} (C : me_C X B RX12 cX12_beatNow 4 none) {μ : me_M} {v1 : Int32} {v2 : Int32} {v3 : Int32}  {K149 : me_M → Int32 → Int32 → Int32 → Option (me_M × Unit)} {r : me_M × Unit} (N : me_En X B sz (B, r.1, .ok (none)) 5 146 0 0) (hNx : me_Nx X) (hB : me_St B) (hK149 : ∀ (μ : me_M) (v1 : Int32) (v2 : Int32) (v3 : Int32), K149 μ v1 v2 v3 = some r → me_Z X B 0 0 μ 149 [(0, me_r 36 0), (1, me_i v1), (2, me_i v2), (3, me_i v3)] [])  (hf : f_M_beatNow_b149 K149 μ v1 v2 v3 = some r) : me_Z X B 0 0 μ 149 [(0, me_r 36 0), (1, me_i v1), (2, me_i v2), (3, me_i v3)] [] := by
  unfold f_M_beatNow_b149 at hf
  refine me_iload_n C 3 dX12_beatNow_149 rfl rfl ?_
  refine me_aload_n C 0 (Or.inr (Or.inl ⟨_, rfl⟩)) dX12_beatNow_150 rfl rfl ?_
  obtain ⟨r1, h_r1, hf⟩ := me_bs hf
  refine me_callV C N  (As := []) (st := [me_i v3]) 0 0 (c_M_nodes hB h_r1) mv_M_nodes ml_M_144 rfl rfl dX12_beatNow_151 rfl rfl ⟨by decide, by decide⟩ ⟨by decide, by decide, by decide, by decide⟩ (Nat.le_of_ble_eq_true rfl) ?_
  refine me_icmp_ge C (tgt := 235) dX12_beatNow_154 (by decide) (fun c2 => ?_) (fun c2 => ?_)
  · replace hf := me_ip c2 hf
    refine me_iconst C (v := 0) dX12_beatNow_235 (by decide) ?_
    refine me_istore_n C 3 dX12_beatNow_236 rfl (by decide) (L' := [(3, me_i (0 : Int32)), (0, me_r 36 0), (1, me_i v1), (2, me_i v2)]) rfl ?_
    refine me_dropI [(0, me_r 36 0), (1, me_i v1), (2, me_i v2), (3, me_i (0 : Int32))] [1, 2, 3, 0] rfl ?_
    exact z_M_beatNow_h237 C N hNx hB me_FU μ v1 v2 (0 : Int32) hf
  · replace hf := me_in c2 hf
    refine me_aload_n C 0 (Or.inr (Or.inl ⟨_, rfl⟩)) dX12_beatNow_157 rfl rfl ?_
    refine me_getr C hB 28 (k' := 85) (i' := 0) fg_M_95 dX12_beatNow_158 rfl rfl ?_
    refine me_iload_n C 3 dX12_beatNow_161 rfl rfl ?_
    refine me_dup2 C rfl rfl dX12_beatNow_162 ?_
    obtain ⟨g3, hf⟩ := me_gs hf
    refine me_zald C rfl (fun _ => rfl) g3 dX12_beatNow_163 ?_
    refine me_aload_n C 0 (Or.inr (Or.inl ⟨_, rfl⟩)) dX12_beatNow_164 rfl rfl ?_
    refine me_getr C hB 29 (k' := 86) (i' := 0) fg_M_98 dX12_beatNow_165 rfl rfl ?_
    refine me_iload_n C 3 dX12_beatNow_168 rfl rfl ?_
    obtain ⟨g4, hf⟩ := me_gs hf
    refine me_zald C rfl (fun _ => rfl) g4 dX12_beatNow_169 ?_
    refine me_if_ne C (tgt := 177) dX12_beatNow_170 (by decide) (fun c5 => ?_) (fun c5 => ?_)
    · replace hf := me_in c5 hf
      refine me_iconst C (v := 0) dX12_beatNow_177 (by decide) ?_
      refine me_dropI [(0, me_r 36 0), (1, me_i v1), (2, me_i v2), (3, me_i v3)] [0, 1, 2, 3] rfl ?_
      exact z_M_beatNow_b178 C N hNx hB hK149 hf
    · replace hf := me_ip c5 hf
      refine me_iconst C (v := 1) dX12_beatNow_173 (by decide) ?_
      refine me_goto C (tgt := 178) dX12_beatNow_174 (by decide) ?_
      refine me_dropI [(0, me_r 36 0), (1, me_i v1), (2, me_i v2), (3, me_i v3)] [0, 1, 2, 3] rfl ?_
      exact z_M_beatNow_b178 C N hNx hB hK149 hf
def f_M_beatNow_h149  : Nat → me_M → Int32 → Int32 → Int32 → Option (me_M × Unit)
  | 0, _, _, _, _ => none
  | n + 1, μ, v1, v2, v3 => f_M_beatNow_b149 (f_M_beatNow_h149 n) μ v1 v2 v3
set_option maxHeartbeats 4000000 in
set_option maxRecDepth 100000 in
theorem z_M_beatNow_h149 {X : me_X} {B : me_B} {sz : Nat} (C : me_C X B RX12 cX12_beatNow 4 none)  {r : me_M × Unit} (N : me_En X B sz (B, r.1, .ok (none)) 5 146 0 0) (hNx : me_Nx X) (hB : me_St B)  : ∀ (n : Nat) (μ : me_M) (v1 : Int32) (v2 : Int32) (v3 : Int32), f_M_beatNow_h149 n μ v1 v2 v3 = some r → me_Z X B 0 0 μ 149 [(0, me_r 36 0), (1, me_i v1), (2, me_i v2), (3, me_i v3)] [] := by
  intro n
  induction n with
  | zero => intro μ v1 v2 v3  h; exact absurd (show (none : Option (me_M × Unit)) = some r from h) (fun q => by cases q)
  | succ n ih => intro μ v1 v2 v3  h; exact z_M_beatNow_b149 C N hNx hB  (K149 := f_M_beatNow_h149 n) ih  h
def f_M_beatNow_b117 (K117 : me_M → Int32 → Option (me_M × Unit)) (μ : me_M) (v1 : Int32) : Option (me_M × Unit) :=
  me_bd (f_M_nodes μ) (fun r1 =>
  if r1 ≤ v1 then
  (f_M_beatNow_h149 me_FU μ (0 : Int32) (0 : Int32) (0 : Int32))
  else
  (me_b2 (f_M_puts μ v1 (1 : Int32)) (fun μ4 r3 =>
  me_b2 (f_M_puts μ4 v1 (0 : Int32)) (fun μ6 r5 =>
  me_lt (me_inc v1 (1)) (fun x7 =>
  K117 μ6 x7)))))
set_option maxHeartbeats 4000000 in
set_option maxRecDepth 100000 in
theorem z_M_beatNow_b117 {X : me_X} {B : me_B} {sz : Nat} (C : me_C X B RX12 cX12_beatNow 4 none) {μ : me_M} {v1 : Int32}  {K117 : me_M → Int32 → Option (me_M × Unit)} {r : me_M × Unit} (N : me_En X B sz (B, r.1, .ok (none)) 5 146 0 0) (hNx : me_Nx X) (hB : me_St B) (hK117 : ∀ (μ : me_M) (v1 : Int32), K117 μ v1 = some r → me_Z X B 0 0 μ 117 [(0, me_r 36 0), (1, me_i v1)] [])  (hf : f_M_beatNow_b117 K117 μ v1 = some r) : me_Z X B 0 0 μ 117 [(0, me_r 36 0), (1, me_i v1)] [] := by
  unfold f_M_beatNow_b117 at hf
  refine me_iload_n C 1 dX12_beatNow_117 rfl rfl ?_
  refine me_aload_n C 0 (Or.inr (Or.inl ⟨_, rfl⟩)) dX12_beatNow_118 rfl rfl ?_
  obtain ⟨r1, h_r1, hf⟩ := me_bs hf
  refine me_callV C N  (As := []) (st := [me_i v1]) 0 0 (c_M_nodes hB h_r1) mv_M_nodes ml_M_144 rfl rfl dX12_beatNow_119 rfl rfl ⟨by decide, by decide⟩ ⟨by decide, by decide, by decide, by decide⟩ (Nat.le_of_ble_eq_true rfl) ?_
  refine me_icmp_ge C (tgt := 143) dX12_beatNow_122 (by decide) (fun c2 => ?_) (fun c2 => ?_)
  · replace hf := me_ip c2 hf
    refine me_iconst C (v := 0) dX12_beatNow_143 (by decide) ?_
    refine me_istore_n C 1 dX12_beatNow_144 rfl (by decide) (L' := [(1, me_i (0 : Int32)), (0, me_r 36 0)]) rfl ?_
    refine me_iconst C (v := 0) dX12_beatNow_145 (by decide) ?_
    refine me_istore_n C 2 dX12_beatNow_146 rfl (by decide) (L' := [(2, me_i (0 : Int32)), (1, me_i (0 : Int32)), (0, me_r 36 0)]) rfl ?_
    refine me_iconst C (v := 0) dX12_beatNow_147 (by decide) ?_
    refine me_istore_n C 3 dX12_beatNow_148 rfl (by decide) (L' := [(3, me_i (0 : Int32)), (2, me_i (0 : Int32)), (1, me_i (0 : Int32)), (0, me_r 36 0)]) rfl ?_
    refine me_dropI [(0, me_r 36 0), (1, me_i (0 : Int32)), (2, me_i (0 : Int32)), (3, me_i (0 : Int32))] [3, 2, 1, 0] rfl ?_
    exact z_M_beatNow_h149 C N hNx hB me_FU μ (0 : Int32) (0 : Int32) (0 : Int32) hf
  · replace hf := me_in c2 hf
    refine me_aload_n C 0 (Or.inr (Or.inl ⟨_, rfl⟩)) dX12_beatNow_125 rfl rfl ?_
    refine me_iload_n C 1 dX12_beatNow_126 rfl rfl ?_
    refine me_iconst C (v := 1) dX12_beatNow_127 (by decide) ?_
    obtain ⟨μ4, r3, h_r3, hf⟩ := me_bs2 hf
    refine me_callV0 C N  (As := [me_i v1, me_i (1 : Int32)]) (st := []) 0 0 (c_M_puts hB h_r3) mv_M_puts ml_M_250 rfl rfl dX12_beatNow_128 rfl rfl ⟨by decide, by decide⟩ ⟨by decide, by decide, by decide, by decide⟩ (Nat.le_of_ble_eq_true rfl) ?_
    refine me_aload_n C 0 (Or.inr (Or.inl ⟨_, rfl⟩)) dX12_beatNow_131 rfl rfl ?_
    refine me_iload_n C 1 dX12_beatNow_132 rfl rfl ?_
    refine me_iconst C (v := 0) dX12_beatNow_133 (by decide) ?_
    obtain ⟨μ6, r5, h_r5, hf⟩ := me_bs2 hf
    refine me_callV0 C N  (As := [me_i v1, me_i (0 : Int32)]) (st := []) 0 0 (c_M_puts hB h_r5) mv_M_puts ml_M_250 rfl rfl dX12_beatNow_134 rfl rfl ⟨by decide, by decide⟩ ⟨by decide, by decide, by decide, by decide⟩ (Nat.le_of_ble_eq_true rfl) ?_
    obtain ⟨x7, e_x7, hf⟩ := me_lts hf
    refine me_iinc C (v := x7) (L' := [(1, me_i x7), (0, me_r 36 0)]) dX12_beatNow_137 rfl e_x7.symm (by decide) rfl ?_
    refine me_goto C (tgt := 117) dX12_beatNow_140 (by decide) ?_
    refine me_dropI [(0, me_r 36 0), (1, me_i x7)] [1, 0] rfl ?_
    exact hK117 μ6 x7 hf
def f_M_beatNow_h117  : Nat → me_M → Int32 → Option (me_M × Unit)
  | 0, _, _ => none
  | n + 1, μ, v1 => f_M_beatNow_b117 (f_M_beatNow_h117 n) μ v1
set_option maxHeartbeats 4000000 in
set_option maxRecDepth 100000 in
theorem z_M_beatNow_h117 {X : me_X} {B : me_B} {sz : Nat} (C : me_C X B RX12 cX12_beatNow 4 none)  {r : me_M × Unit} (N : me_En X B sz (B, r.1, .ok (none)) 5 146 0 0) (hNx : me_Nx X) (hB : me_St B)  : ∀ (n : Nat) (μ : me_M) (v1 : Int32), f_M_beatNow_h117 n μ v1 = some r → me_Z X B 0 0 μ 117 [(0, me_r 36 0), (1, me_i v1)] [] := by
  intro n
  induction n with
  | zero => intro μ v1  h; exact absurd (show (none : Option (me_M × Unit)) = some r from h) (fun q => by cases q)
  | succ n ih => intro μ v1  h; exact z_M_beatNow_b117 C N hNx hB  (K117 := f_M_beatNow_h117 n) ih  h
def f_M_beatNow_b73 (K73 : me_M → Int32 → Option (me_M × Unit)) (μ : me_M) (v1 : Int32) : Option (me_M × Unit) :=
  me_bd (f_M_nodes μ) (fun r1 =>
  if r1 ≤ v1 then
  (f_M_beatNow_h117 me_FU μ (0 : Int32))
  else
  (f_M_beatNow_h83 K73 me_FU μ v1 (0 : Int32)))
set_option maxHeartbeats 4000000 in
set_option maxRecDepth 100000 in
theorem z_M_beatNow_b73 {X : me_X} {B : me_B} {sz : Nat} (C : me_C X B RX12 cX12_beatNow 4 none) {μ : me_M} {v1 : Int32}  {K73 : me_M → Int32 → Option (me_M × Unit)} {r : me_M × Unit} (N : me_En X B sz (B, r.1, .ok (none)) 5 146 0 0) (hNx : me_Nx X) (hB : me_St B) (hK73 : ∀ (μ : me_M) (v1 : Int32), K73 μ v1 = some r → me_Z X B 0 0 μ 73 [(0, me_r 36 0), (1, me_i v1)] [])  (hf : f_M_beatNow_b73 K73 μ v1 = some r) : me_Z X B 0 0 μ 73 [(0, me_r 36 0), (1, me_i v1)] [] := by
  unfold f_M_beatNow_b73 at hf
  refine me_iload_n C 1 dX12_beatNow_73 rfl rfl ?_
  refine me_aload_n C 0 (Or.inr (Or.inl ⟨_, rfl⟩)) dX12_beatNow_74 rfl rfl ?_
  obtain ⟨r1, h_r1, hf⟩ := me_bs hf
  refine me_callV C N  (As := []) (st := [me_i v1]) 0 0 (c_M_nodes hB h_r1) mv_M_nodes ml_M_144 rfl rfl dX12_beatNow_75 rfl rfl ⟨by decide, by decide⟩ ⟨by decide, by decide, by decide, by decide⟩ (Nat.le_of_ble_eq_true rfl) ?_
  refine me_icmp_ge C (tgt := 115) dX12_beatNow_78 (by decide) (fun c2 => ?_) (fun c2 => ?_)
  · replace hf := me_ip c2 hf
    refine me_iconst C (v := 0) dX12_beatNow_115 (by decide) ?_
    refine me_istore_n C 1 dX12_beatNow_116 rfl (by decide) (L' := [(1, me_i (0 : Int32)), (0, me_r 36 0)]) rfl ?_
    refine me_dropI [(0, me_r 36 0), (1, me_i (0 : Int32))] [1, 0] rfl ?_
    exact z_M_beatNow_h117 C N hNx hB me_FU μ (0 : Int32) hf
  · replace hf := me_in c2 hf
    refine me_iconst C (v := 0) dX12_beatNow_81 (by decide) ?_
    refine me_istore_n C 2 dX12_beatNow_82 rfl (by decide) (L' := [(2, me_i (0 : Int32)), (0, me_r 36 0), (1, me_i v1)]) rfl ?_
    refine me_dropI [(0, me_r 36 0), (1, me_i v1), (2, me_i (0 : Int32))] [1, 2, 0] rfl ?_
    exact z_M_beatNow_h83 C N hNx hB hK73 me_FU μ v1 (0 : Int32) hf
def f_M_beatNow_h73  : Nat → me_M → Int32 → Option (me_M × Unit)
  | 0, _, _ => none
  | n + 1, μ, v1 => f_M_beatNow_b73 (f_M_beatNow_h73 n) μ v1
set_option maxHeartbeats 4000000 in
set_option maxRecDepth 100000 in
theorem z_M_beatNow_h73 {X : me_X} {B : me_B} {sz : Nat} (C : me_C X B RX12 cX12_beatNow 4 none)  {r : me_M × Unit} (N : me_En X B sz (B, r.1, .ok (none)) 5 146 0 0) (hNx : me_Nx X) (hB : me_St B)  : ∀ (n : Nat) (μ : me_M) (v1 : Int32), f_M_beatNow_h73 n μ v1 = some r → me_Z X B 0 0 μ 73 [(0, me_r 36 0), (1, me_i v1)] [] := by
  intro n
  induction n with
  | zero => intro μ v1  h; exact absurd (show (none : Option (me_M × Unit)) = some r from h) (fun q => by cases q)
  | succ n ih => intro μ v1  h; exact z_M_beatNow_b73 C N hNx hB  (K73 := f_M_beatNow_h73 n) ih  h
def f_M_beatNow_b30 (K30 : me_M → Int32 → Option (me_M × Unit)) (μ : me_M) (v1 : Int32) : Option (me_M × Unit) :=
  me_bd (f_M_nodes μ) (fun r1 =>
  if r1 ≤ v1 then
  (f_M_beatNow_h73 me_FU μ (0 : Int32))
  else
  (me_gd (me_inb v1 16) (
  if (μ 89 0 (me_ix v1)) = (114 : Int32) then
  (f_M_beatNow_b60 K30 μ v1)
  else
  (me_gd (me_inb v1 16) (
  if (μ 89 0 (me_ix v1)) = (119 : Int32) then
  (f_M_beatNow_b60 K30 μ v1)
  else
  (me_lt (me_inc v1 (1)) (fun x7 =>
  K30 μ x7)))))))
set_option maxHeartbeats 4000000 in
set_option maxRecDepth 100000 in
theorem z_M_beatNow_b30 {X : me_X} {B : me_B} {sz : Nat} (C : me_C X B RX12 cX12_beatNow 4 none) {μ : me_M} {v1 : Int32}  {K30 : me_M → Int32 → Option (me_M × Unit)} {r : me_M × Unit} (N : me_En X B sz (B, r.1, .ok (none)) 5 146 0 0) (hNx : me_Nx X) (hB : me_St B) (hK30 : ∀ (μ : me_M) (v1 : Int32), K30 μ v1 = some r → me_Z X B 0 0 μ 30 [(0, me_r 36 0), (1, me_i v1)] [])  (hf : f_M_beatNow_b30 K30 μ v1 = some r) : me_Z X B 0 0 μ 30 [(0, me_r 36 0), (1, me_i v1)] [] := by
  unfold f_M_beatNow_b30 at hf
  refine me_iload_n C 1 dX12_beatNow_30 rfl rfl ?_
  refine me_aload_n C 0 (Or.inr (Or.inl ⟨_, rfl⟩)) dX12_beatNow_31 rfl rfl ?_
  obtain ⟨r1, h_r1, hf⟩ := me_bs hf
  refine me_callV C N  (As := []) (st := [me_i v1]) 0 0 (c_M_nodes hB h_r1) mv_M_nodes ml_M_144 rfl rfl dX12_beatNow_32 rfl rfl ⟨by decide, by decide⟩ ⟨by decide, by decide, by decide, by decide⟩ (Nat.le_of_ble_eq_true rfl) ?_
  refine me_icmp_ge C (tgt := 71) dX12_beatNow_35 (by decide) (fun c2 => ?_) (fun c2 => ?_)
  · replace hf := me_ip c2 hf
    refine me_iconst C (v := 0) dX12_beatNow_71 (by decide) ?_
    refine me_istore_n C 1 dX12_beatNow_72 rfl (by decide) (L' := [(1, me_i (0 : Int32)), (0, me_r 36 0)]) rfl ?_
    refine me_dropI [(0, me_r 36 0), (1, me_i (0 : Int32))] [1, 0] rfl ?_
    exact z_M_beatNow_h73 C N hNx hB me_FU μ (0 : Int32) hf
  · replace hf := me_in c2 hf
    refine me_aload_n C 0 (Or.inr (Or.inl ⟨_, rfl⟩)) dX12_beatNow_38 rfl rfl ?_
    refine me_getr C hB 36 (k' := 89) (i' := 0) fg_M_123 dX12_beatNow_39 rfl rfl ?_
    refine me_iload_n C 1 dX12_beatNow_42 rfl rfl ?_
    obtain ⟨g3, hf⟩ := me_gs hf
    refine me_cald C rfl (fun _ => rfl) g3 dX12_beatNow_43 ?_
    refine me_bipush C (v := 114) dX12_beatNow_44 (by decide) ?_
    refine me_icmp_eq C (tgt := 60) dX12_beatNow_46 (by decide) (fun c4 => ?_) (fun c4 => ?_)
    · replace hf := me_ip c4 hf
      refine me_dropI [(0, me_r 36 0), (1, me_i v1)] [0, 1] rfl ?_
      exact z_M_beatNow_b60 C N hNx hB hK30 hf
    · replace hf := me_in c4 hf
      refine me_aload_n C 0 (Or.inr (Or.inl ⟨_, rfl⟩)) dX12_beatNow_49 rfl rfl ?_
      refine me_getr C hB 36 (k' := 89) (i' := 0) fg_M_123 dX12_beatNow_50 rfl rfl ?_
      refine me_iload_n C 1 dX12_beatNow_53 rfl rfl ?_
      obtain ⟨g5, hf⟩ := me_gs hf
      refine me_cald C rfl (fun _ => rfl) g5 dX12_beatNow_54 ?_
      refine me_bipush C (v := 119) dX12_beatNow_55 (by decide) ?_
      refine me_icmp_ne C (tgt := 65) dX12_beatNow_57 (by decide) (fun c6 => ?_) (fun c6 => ?_)
      · replace hf := me_in c6 hf
        obtain ⟨x7, e_x7, hf⟩ := me_lts hf
        refine me_iinc C (v := x7) (L' := [(1, me_i x7), (0, me_r 36 0)]) dX12_beatNow_65 rfl e_x7.symm (by decide) rfl ?_
        refine me_goto C (tgt := 30) dX12_beatNow_68 (by decide) ?_
        refine me_dropI [(0, me_r 36 0), (1, me_i x7)] [1, 0] rfl ?_
        exact hK30 μ x7 hf
      · replace hf := me_ip c6 hf
        refine me_dropI [(0, me_r 36 0), (1, me_i v1)] [0, 1] rfl ?_
        exact z_M_beatNow_b60 C N hNx hB hK30 hf
def f_M_beatNow_h30  : Nat → me_M → Int32 → Option (me_M × Unit)
  | 0, _, _ => none
  | n + 1, μ, v1 => f_M_beatNow_b30 (f_M_beatNow_h30 n) μ v1
set_option maxHeartbeats 4000000 in
set_option maxRecDepth 100000 in
theorem z_M_beatNow_h30 {X : me_X} {B : me_B} {sz : Nat} (C : me_C X B RX12 cX12_beatNow 4 none)  {r : me_M × Unit} (N : me_En X B sz (B, r.1, .ok (none)) 5 146 0 0) (hNx : me_Nx X) (hB : me_St B)  : ∀ (n : Nat) (μ : me_M) (v1 : Int32), f_M_beatNow_h30 n μ v1 = some r → me_Z X B 0 0 μ 30 [(0, me_r 36 0), (1, me_i v1)] [] := by
  intro n
  induction n with
  | zero => intro μ v1  h; exact absurd (show (none : Option (me_M × Unit)) = some r from h) (fun q => by cases q)
  | succ n ih => intro μ v1  h; exact z_M_beatNow_b30 C N hNx hB  (K30 := f_M_beatNow_h30 n) ih  h
def f_M_beatNow_b7 (K7 : me_M → Int32 → Option (me_M × Unit)) (μ : me_M) (v1 : Int32) : Option (me_M × Unit) :=
  me_bd (f_M_nodes μ) (fun r1 =>
  if r1 ≤ v1 then
  (f_M_beatNow_h30 me_FU μ (0 : Int32))
  else
  (me_gd (me_inb v1 16) (
  me_lt (me_up μ 86 0 (me_ix v1) (vp_nar .boolean (0 : Int32))) (fun μ4 =>
  me_lt (me_inc v1 (1)) (fun x5 =>
  K7 μ4 x5)))))
set_option maxHeartbeats 4000000 in
set_option maxRecDepth 100000 in
theorem z_M_beatNow_b7 {X : me_X} {B : me_B} {sz : Nat} (C : me_C X B RX12 cX12_beatNow 4 none) {μ : me_M} {v1 : Int32}  {K7 : me_M → Int32 → Option (me_M × Unit)} {r : me_M × Unit} (N : me_En X B sz (B, r.1, .ok (none)) 5 146 0 0) (hNx : me_Nx X) (hB : me_St B) (hK7 : ∀ (μ : me_M) (v1 : Int32), K7 μ v1 = some r → me_Z X B 0 0 μ 7 [(0, me_r 36 0), (1, me_i v1)] [])  (hf : f_M_beatNow_b7 K7 μ v1 = some r) : me_Z X B 0 0 μ 7 [(0, me_r 36 0), (1, me_i v1)] [] := by
  unfold f_M_beatNow_b7 at hf
  refine me_iload_n C 1 dX12_beatNow_7 rfl rfl ?_
  refine me_aload_n C 0 (Or.inr (Or.inl ⟨_, rfl⟩)) dX12_beatNow_8 rfl rfl ?_
  obtain ⟨r1, h_r1, hf⟩ := me_bs hf
  refine me_callV C N  (As := []) (st := [me_i v1]) 0 0 (c_M_nodes hB h_r1) mv_M_nodes ml_M_144 rfl rfl dX12_beatNow_9 rfl rfl ⟨by decide, by decide⟩ ⟨by decide, by decide, by decide, by decide⟩ (Nat.le_of_ble_eq_true rfl) ?_
  refine me_icmp_ge C (tgt := 28) dX12_beatNow_12 (by decide) (fun c2 => ?_) (fun c2 => ?_)
  · replace hf := me_ip c2 hf
    refine me_iconst C (v := 0) dX12_beatNow_28 (by decide) ?_
    refine me_istore_n C 1 dX12_beatNow_29 rfl (by decide) (L' := [(1, me_i (0 : Int32)), (0, me_r 36 0)]) rfl ?_
    refine me_dropI [(0, me_r 36 0), (1, me_i (0 : Int32))] [1, 0] rfl ?_
    exact z_M_beatNow_h30 C N hNx hB me_FU μ (0 : Int32) hf
  · replace hf := me_in c2 hf
    refine me_aload_n C 0 (Or.inr (Or.inl ⟨_, rfl⟩)) dX12_beatNow_15 rfl rfl ?_
    refine me_getr C hB 29 (k' := 86) (i' := 0) fg_M_98 dX12_beatNow_16 rfl rfl ?_
    refine me_iload_n C 1 dX12_beatNow_19 rfl rfl ?_
    refine me_iconst C (v := 0) dX12_beatNow_20 (by decide) ?_
    obtain ⟨g3, hf⟩ := me_gs hf
    obtain ⟨μ4, e_μ4, hf⟩ := me_lts hf
    refine me_zast C rfl (fun _ => rfl) g3 dX12_beatNow_21 e_μ4 ?_
    obtain ⟨x5, e_x5, hf⟩ := me_lts hf
    refine me_iinc C (v := x5) (L' := [(1, me_i x5), (0, me_r 36 0)]) dX12_beatNow_22 rfl e_x5.symm (by decide) rfl ?_
    refine me_goto C (tgt := 7) dX12_beatNow_25 (by decide) ?_
    refine me_dropI [(0, me_r 36 0), (1, me_i x5)] [1, 0] rfl ?_
    exact hK7 μ4 x5 hf
def f_M_beatNow_h7  : Nat → me_M → Int32 → Option (me_M × Unit)
  | 0, _, _ => none
  | n + 1, μ, v1 => f_M_beatNow_b7 (f_M_beatNow_h7 n) μ v1
set_option maxHeartbeats 4000000 in
set_option maxRecDepth 100000 in
theorem z_M_beatNow_h7 {X : me_X} {B : me_B} {sz : Nat} (C : me_C X B RX12 cX12_beatNow 4 none)  {r : me_M × Unit} (N : me_En X B sz (B, r.1, .ok (none)) 5 146 0 0) (hNx : me_Nx X) (hB : me_St B)  : ∀ (n : Nat) (μ : me_M) (v1 : Int32), f_M_beatNow_h7 n μ v1 = some r → me_Z X B 0 0 μ 7 [(0, me_r 36 0), (1, me_i v1)] [] := by
  intro n
  induction n with
  | zero => intro μ v1  h; exact absurd (show (none : Option (me_M × Unit)) = some r from h) (fun q => by cases q)
  | succ n ih => intro μ v1  h; exact z_M_beatNow_b7 C N hNx hB  (K7 := f_M_beatNow_h7 n) ih  h
def f_M_beatNow (μ : me_M) : Option (me_M × Unit) :=
  me_lt (me_up μ 36 0 5 (0 : Int32)) (fun μ1 =>
  f_M_beatNow_h7 me_FU μ1 (0 : Int32))
set_option maxHeartbeats 4000000 in
set_option maxRecDepth 100000 in
theorem z_M_beatNow {X : me_X} {B : me_B} {sz : Nat} (C : me_C X B RX12 cX12_beatNow 4 none) {μ : me_M}    {r : me_M × Unit} (N : me_En X B sz (B, r.1, .ok (none)) 5 146 0 0) (hNx : me_Nx X) (hB : me_St B)   (hf : f_M_beatNow μ = some r) : me_Z X B 0 0 μ 0 [(0, me_r 36 0)] [] := by
  unfold f_M_beatNow at hf
  refine me_aload_n C 0 (Or.inr (Or.inl ⟨_, rfl⟩)) dX12_beatNow_0 rfl rfl ?_
  refine me_iconst C (v := 0) dX12_beatNow_1 (by decide) ?_
  obtain ⟨μ1, e_μ1, hf⟩ := me_lts hf
  refine me_puti C 5 fw_M_211 dX12_beatNow_2 rfl (by decide +kernel) e_μ1 ?_
  refine me_iconst C (v := 0) dX12_beatNow_5 (by decide) ?_
  refine me_istore_n C 1 dX12_beatNow_6 rfl (by decide) (L' := [(1, me_i (0 : Int32)), (0, me_r 36 0)]) rfl ?_
  refine me_dropI [(0, me_r 36 0), (1, me_i (0 : Int32))] [1, 0] rfl ?_
  exact z_M_beatNow_h7 C N hNx hB me_FU μ1 (0 : Int32) hf
theorem c_M_beatNow {B : me_B} (hB : me_St B) {μ : me_M}  {μ' : me_M} {r : Unit}  (hf : f_M_beatNow μ = some (μ', r)) : ∀ l E z, l.stackTraces = false → me_Met l yX12_beatNow cX12_beatNow 4 none 5 146 0 0 E B μ z [me_r 36 0] (B, μ', .ok (none)) :=
  fun _ _ _ hl => me_ofZ hl (by decide +kernel) (Nat.le_of_ble_eq_true rfl) (fun _ C N hNx => z_M_beatNow C N hNx hB  hf)

def f_M_beats_b27 (K27 : me_M → Int32 → Int32 → Option (me_M × Int32)) (μ : me_M) (v1 : Int32) (v2 : Int32) : Option (me_M × Int32) :=
  if v1 ≤ v2 then
  (me_gd (me_nr .boolean (μ 36 0 5)) (
  some (μ, (μ 36 0 5))))
  else
  (me_b2 (f_M_beatNow μ) (fun μ4 r3 =>
  me_lt (me_inc v2 (1)) (fun x5 =>
  K27 μ4 v1 x5)))
set_option maxHeartbeats 4000000 in
set_option maxRecDepth 100000 in
theorem z_M_beats_b27 {X : me_X} {B : me_B} {sz : Nat} (C : me_C X B RX12 cX12_beats 3 (some .boolean)) {μ : me_M} {v1 : Int32} {v2 : Int32}  {K27 : me_M → Int32 → Int32 → Option (me_M × Int32)} {r : me_M × Int32} (N : me_En X B sz (B, r.1, .ok (some (me_i r.2))) 6 169 0 0) (hNx : me_Nx X) (hB : me_St B) (hK27 : ∀ (μ : me_M) (v1 : Int32) (v2 : Int32), K27 μ v1 v2 = some r → me_Z X B 0 0 μ 27 [(0, me_r 36 0), (1, me_i v1), (2, me_i v2)] [])  (hf : f_M_beats_b27 K27 μ v1 v2 = some r) : me_Z X B 0 0 μ 27 [(0, me_r 36 0), (1, me_i v1), (2, me_i v2)] [] := by
  unfold f_M_beats_b27 at hf
  refine me_iload_n C 2 dX12_beats_27 rfl rfl ?_
  refine me_iload_n C 1 dX12_beats_28 rfl rfl ?_
  refine me_icmp_ge C (tgt := 42) dX12_beats_29 (by decide) (fun c1 => ?_) (fun c1 => ?_)
  · replace hf := me_ip c1 hf
    refine me_aload_n C 0 (Or.inr (Or.inl ⟨_, rfl⟩)) dX12_beats_42 rfl rfl ?_
    refine me_geti C 5 fg_M_211 dX12_beats_43 rfl ?_
    obtain ⟨g2, hf⟩ := me_gs hf
    exact me_iret C N dX12_beats_46 g2 (by cases hf; rfl) (by decide) (by decide)
  · replace hf := me_in c1 hf
    refine me_aload_n C 0 (Or.inr (Or.inl ⟨_, rfl⟩)) dX12_beats_32 rfl rfl ?_
    obtain ⟨μ4, r3, h_r3, hf⟩ := me_bs2 hf
    refine me_callV0 C N  (As := []) (st := []) 0 0 (c_M_beatNow hB h_r3) mv_M_beatNow ml_M_253 rfl rfl dX12_beats_33 rfl rfl ⟨by decide, by decide⟩ ⟨by decide, by decide, by decide, by decide⟩ (Nat.le_of_ble_eq_true rfl) ?_
    obtain ⟨x5, e_x5, hf⟩ := me_lts hf
    refine me_iinc C (v := x5) (L' := [(2, me_i x5), (0, me_r 36 0), (1, me_i v1)]) dX12_beats_36 rfl e_x5.symm (by decide) rfl ?_
    refine me_goto C (tgt := 27) dX12_beats_39 (by decide) ?_
    refine me_dropI [(0, me_r 36 0), (1, me_i v1), (2, me_i x5)] [1, 2, 0] rfl ?_
    exact hK27 μ4 v1 x5 hf
def f_M_beats_h27  : Nat → me_M → Int32 → Int32 → Option (me_M × Int32)
  | 0, _, _, _ => none
  | n + 1, μ, v1, v2 => f_M_beats_b27 (f_M_beats_h27 n) μ v1 v2
set_option maxHeartbeats 4000000 in
set_option maxRecDepth 100000 in
theorem z_M_beats_h27 {X : me_X} {B : me_B} {sz : Nat} (C : me_C X B RX12 cX12_beats 3 (some .boolean))  {r : me_M × Int32} (N : me_En X B sz (B, r.1, .ok (some (me_i r.2))) 6 169 0 0) (hNx : me_Nx X) (hB : me_St B)  : ∀ (n : Nat) (μ : me_M) (v1 : Int32) (v2 : Int32), f_M_beats_h27 n μ v1 v2 = some r → me_Z X B 0 0 μ 27 [(0, me_r 36 0), (1, me_i v1), (2, me_i v2)] [] := by
  intro n
  induction n with
  | zero => intro μ v1 v2  h; exact absurd (show (none : Option (me_M × Int32)) = some r from h) (fun q => by cases q)
  | succ n ih => intro μ v1 v2  h; exact z_M_beats_b27 C N hNx hB  (K27 := f_M_beats_h27 n) ih  h
def f_M_beats_b16 (μ : me_M) (v1 : Int32) (s0 : Int32) : Option (me_M × Int32) :=
  me_b2 (f_M_isThrown μ s0 (1 : Int32)) (fun μ2 r1 =>
  if r1 = 0 then
  (f_M_beats_h27 me_FU μ2 v1 (0 : Int32))
  else
  (some (μ2, (0 : Int32))))
set_option maxHeartbeats 4000000 in
set_option maxRecDepth 100000 in
theorem z_M_beats_b16 {X : me_X} {B : me_B} {sz : Nat} (C : me_C X B RX12 cX12_beats 3 (some .boolean)) {μ : me_M} {v1 : Int32} {s0 : Int32}   {r : me_M × Int32} (N : me_En X B sz (B, r.1, .ok (some (me_i r.2))) 6 169 0 0) (hNx : me_Nx X) (hB : me_St B)   (hf : f_M_beats_b16 μ v1 s0 = some r) : me_Z X B 0 0 μ 16 [(0, me_r 36 0), (1, me_i v1)] [me_i s0, me_r 36 0] := by
  unfold f_M_beats_b16 at hf
  refine me_iconst C (v := 1) dX12_beats_16 (by decide) ?_
  obtain ⟨μ2, r1, h_r1, hf⟩ := me_bs2 hf
  refine me_callV C N  (As := [me_i s0, me_i (1 : Int32)]) (st := []) 0 0 (c_M_isThrown hB h_r1) mv_M_isThrown ml_M_155 rfl rfl dX12_beats_17 rfl rfl ⟨by decide, by decide⟩ ⟨by decide, by decide, by decide, by decide⟩ (Nat.le_of_ble_eq_true rfl) ?_
  refine me_if_eq C (tgt := 25) dX12_beats_20 (by decide) (fun c3 => ?_) (fun c3 => ?_)
  · replace hf := me_ip c3 hf
    refine me_iconst C (v := 0) dX12_beats_25 (by decide) ?_
    refine me_istore_n C 2 dX12_beats_26 rfl (by decide) (L' := [(2, me_i (0 : Int32)), (0, me_r 36 0), (1, me_i v1)]) rfl ?_
    refine me_dropI [(0, me_r 36 0), (1, me_i v1), (2, me_i (0 : Int32))] [1, 2, 0] rfl ?_
    exact z_M_beats_h27 C N hNx hB me_FU μ2 v1 (0 : Int32) hf
  · replace hf := me_in c3 hf
    refine me_iconst C (v := 0) dX12_beats_23 (by decide) ?_
    exact me_iret C N dX12_beats_24 (by decide +kernel) (by cases hf; rfl) (by decide) (by decide)
def f_M_beats (μ : me_M) (v1 : Int32) : Option (me_M × Int32) :=
  me_bd (f_M_isIn μ v1 (1 : Int32) (100 : Int32)) (fun r1 =>
  if r1 = 0 then
  (f_M_beats_b16 μ v1 (1 : Int32))
  else
  (f_M_beats_b16 μ v1 (0 : Int32)))
set_option maxHeartbeats 4000000 in
set_option maxRecDepth 100000 in
theorem z_M_beats {X : me_X} {B : me_B} {sz : Nat} (C : me_C X B RX12 cX12_beats 3 (some .boolean)) {μ : me_M} {v1 : Int32}   {r : me_M × Int32} (N : me_En X B sz (B, r.1, .ok (some (me_i r.2))) 6 169 0 0) (hNx : me_Nx X) (hB : me_St B)   (hf : f_M_beats μ v1 = some r) : me_Z X B 0 0 μ 0 [(0, me_r 36 0), (1, me_i v1)] [] := by
  unfold f_M_beats at hf
  refine me_aload_n C 0 (Or.inr (Or.inl ⟨_, rfl⟩)) dX12_beats_0 rfl rfl ?_
  refine me_iload_n C 1 dX12_beats_1 rfl rfl ?_
  refine me_iconst C (v := 1) dX12_beats_2 (by decide) ?_
  refine me_bipush C (v := 100) dX12_beats_3 (by decide) ?_
  obtain ⟨r1, h_r1, hf⟩ := me_bs hf
  refine me_callS C N  (As := [me_i v1, me_i (1 : Int32), me_i (100 : Int32)]) (st := [me_r 36 0]) 0 0 (c_M_isIn hB h_r1) ms_M_isIn ml_M_148 dX12_beats_5 rfl rfl ⟨by decide, by decide⟩ ⟨by decide, by decide, by decide, by decide⟩ (Nat.le_of_ble_eq_true rfl) ?_
  refine me_if_ne C (tgt := 15) dX12_beats_8 (by decide) (fun c2 => ?_) (fun c2 => ?_)
  · replace hf := me_in c2 hf
    refine me_iconst C (v := 0) dX12_beats_15 (by decide) ?_
    refine me_dropI [(0, me_r 36 0), (1, me_i v1)] [0, 1] rfl ?_
    exact z_M_beats_b16 C N hNx hB hf
  · replace hf := me_ip c2 hf
    refine me_iconst C (v := 1) dX12_beats_11 (by decide) ?_
    refine me_goto C (tgt := 16) dX12_beats_12 (by decide) ?_
    refine me_dropI [(0, me_r 36 0), (1, me_i v1)] [0, 1] rfl ?_
    exact z_M_beats_b16 C N hNx hB hf
theorem c_M_beats {B : me_B} (hB : me_St B) {μ : me_M} {v1 : Int32} {μ' : me_M} {r : Int32}  (hf : f_M_beats μ v1 = some (μ', r)) : ∀ l E z, l.stackTraces = false → me_Met l yX12_beats cX12_beats 3 (some .boolean) 6 169 0 0 E B μ z [me_r 36 0, me_i v1] (B, μ', .ok (some (me_i r))) :=
  fun _ _ _ hl => me_ofZ hl (by decide +kernel) (Nat.le_of_ble_eq_true rfl) (fun _ C N hNx => z_M_beats C N hNx hB  hf)

def f_M_beat (μ : me_M) : Option (me_M × Int32) :=
  me_lt (me_up μ 36 0 42 (0 : Int32)) (fun μ1 =>
  some (μ1, (μ1 36 0 4)))
set_option maxHeartbeats 4000000 in
set_option maxRecDepth 100000 in
theorem z_M_beat {X : me_X} {B : me_B} {sz : Nat} (C : me_C X B RX12 cX12_beat 1 (some .int)) {μ : me_M}    {r : me_M × Int32} (N : me_En X B sz (B, r.1, .ok (some (me_i r.2))) 0 0 0 0) (hNx : me_Nx X) (hB : me_St B)   (hf : f_M_beat μ = some r) : me_Z X B 0 0 μ 0 [(0, me_r 36 0)] [] := by
  unfold f_M_beat at hf
  refine me_aload_n C 0 (Or.inr (Or.inl ⟨_, rfl⟩)) dX12_beat_0 rfl rfl ?_
  refine me_iconst C (v := 0) dX12_beat_1 (by decide) ?_
  obtain ⟨μ1, e_μ1, hf⟩ := me_lts hf
  refine me_puti C 42 fw_M_141 dX12_beat_2 rfl (me_nri _) e_μ1 ?_
  refine me_aload_n C 0 (Or.inr (Or.inl ⟨_, rfl⟩)) dX12_beat_5 rfl rfl ?_
  refine me_geti C 4 fg_M_162 dX12_beat_6 rfl ?_
  exact me_iret C N dX12_beat_9 (me_nri _) (by cases hf; rfl) (by decide) (by decide)
theorem c_M_beat {B : me_B} (hB : me_St B) {μ : me_M}  {μ' : me_M} {r : Int32}  (hf : f_M_beat μ = some (μ', r)) : ∀ l E z, l.stackTraces = false → me_Met l yX12_beat cX12_beat 1 (some .int) 0 0 0 0 E B μ z [me_r 36 0] (B, μ', .ok (some (me_i r))) :=
  fun _ _ _ hl => me_ofZ hl (by decide +kernel) (Nat.le_of_ble_eq_true rfl) (fun _ C N hNx => z_M_beat C N hNx hB  hf)

def f_M_isBusy_b33 (μ : me_M) : Option Int32 :=
  some (1 : Int32)
set_option maxHeartbeats 4000000 in
set_option maxRecDepth 100000 in
theorem z_M_isBusy_b33 {X : me_X} {B : me_B} {sz : Nat} (C : me_C X B RX12 cX12_isBusy 2 (some .boolean)) {μ : me_M}    {r : Int32} (N : me_En X B sz (B, μ, .ok (some (me_i r))) 0 0 0 0) (hNx : me_Nx X) (hB : me_St B)   (hf : f_M_isBusy_b33 μ = some r) : me_Z X B 0 0 μ 33 [] [] := by
  unfold f_M_isBusy_b33 at hf
  refine me_iconst C (v := 1) dX12_isBusy_33 (by decide) ?_
  refine me_goto C (tgt := 38) dX12_isBusy_34 (by decide) ?_
  exact me_iret C N dX12_isBusy_38 (by decide +kernel) (by cases hf; rfl) (by decide) (by decide)
def f_M_isBusy (μ : me_M) (v1 : Int32) : Option Int32 :=
  me_gd (me_inb v1 16) (
  if (μ 89 0 (me_ix v1)) = (114 : Int32) then
  (f_M_isBusy_b33 μ)
  else
  (me_gd (me_inb v1 16) (
  if (μ 89 0 (me_ix v1)) = (119 : Int32) then
  (f_M_isBusy_b33 μ)
  else
  (me_gd (me_inb v1 16) (
  if (μ 89 0 (me_ix v1)) = (98 : Int32) then
  (f_M_isBusy_b33 μ)
  else
  (some (0 : Int32)))))))
set_option maxHeartbeats 4000000 in
set_option maxRecDepth 100000 in
theorem z_M_isBusy {X : me_X} {B : me_B} {sz : Nat} (C : me_C X B RX12 cX12_isBusy 2 (some .boolean)) {μ : me_M} {v1 : Int32}   {r : Int32} (N : me_En X B sz (B, μ, .ok (some (me_i r))) 0 0 0 0) (hNx : me_Nx X) (hB : me_St B)   (hf : f_M_isBusy μ v1 = some r) : me_Z X B 0 0 μ 0 [(0, me_r 36 0), (1, me_i v1)] [] := by
  unfold f_M_isBusy at hf
  refine me_aload_n C 0 (Or.inr (Or.inl ⟨_, rfl⟩)) dX12_isBusy_0 rfl rfl ?_
  refine me_getr C hB 36 (k' := 89) (i' := 0) fg_M_123 dX12_isBusy_1 rfl rfl ?_
  refine me_iload_n C 1 dX12_isBusy_4 rfl rfl ?_
  obtain ⟨g1, hf⟩ := me_gs hf
  refine me_cald C rfl (fun _ => rfl) g1 dX12_isBusy_5 ?_
  refine me_bipush C (v := 114) dX12_isBusy_6 (by decide) ?_
  refine me_icmp_eq C (tgt := 33) dX12_isBusy_8 (by decide) (fun c2 => ?_) (fun c2 => ?_)
  · replace hf := me_ip c2 hf
    refine me_dropI [] [] rfl ?_
    exact z_M_isBusy_b33 C N hNx hB hf
  · replace hf := me_in c2 hf
    refine me_aload_n C 0 (Or.inr (Or.inl ⟨_, rfl⟩)) dX12_isBusy_11 rfl rfl ?_
    refine me_getr C hB 36 (k' := 89) (i' := 0) fg_M_123 dX12_isBusy_12 rfl rfl ?_
    refine me_iload_n C 1 dX12_isBusy_15 rfl rfl ?_
    obtain ⟨g3, hf⟩ := me_gs hf
    refine me_cald C rfl (fun _ => rfl) g3 dX12_isBusy_16 ?_
    refine me_bipush C (v := 119) dX12_isBusy_17 (by decide) ?_
    refine me_icmp_eq C (tgt := 33) dX12_isBusy_19 (by decide) (fun c4 => ?_) (fun c4 => ?_)
    · replace hf := me_ip c4 hf
      refine me_dropI [] [] rfl ?_
      exact z_M_isBusy_b33 C N hNx hB hf
    · replace hf := me_in c4 hf
      refine me_aload_n C 0 (Or.inr (Or.inl ⟨_, rfl⟩)) dX12_isBusy_22 rfl rfl ?_
      refine me_getr C hB 36 (k' := 89) (i' := 0) fg_M_123 dX12_isBusy_23 rfl rfl ?_
      refine me_iload_n C 1 dX12_isBusy_26 rfl rfl ?_
      obtain ⟨g5, hf⟩ := me_gs hf
      refine me_cald C rfl (fun _ => rfl) g5 dX12_isBusy_27 ?_
      refine me_bipush C (v := 98) dX12_isBusy_28 (by decide) ?_
      refine me_icmp_ne C (tgt := 37) dX12_isBusy_30 (by decide) (fun c6 => ?_) (fun c6 => ?_)
      · replace hf := me_in c6 hf
        refine me_iconst C (v := 0) dX12_isBusy_37 (by decide) ?_
        exact me_iret C N dX12_isBusy_38 (by decide +kernel) (by cases hf; rfl) (by decide) (by decide)
      · replace hf := me_ip c6 hf
        refine me_dropI [] [] rfl ?_
        exact z_M_isBusy_b33 C N hNx hB hf
theorem c_M_isBusy {B : me_B} (hB : me_St B) {μ : me_M} {v1 : Int32} {r : Int32}  (hf : f_M_isBusy μ v1 = some r) : ∀ l E z, l.stackTraces = false → me_Met l yX12_isBusy cX12_isBusy 2 (some .boolean) 0 0 0 0 E B μ z [me_r 36 0, me_i v1] (B, μ, .ok (some (me_i r))) :=
  fun _ _ _ hl => me_ofZ hl (by decide +kernel) (Nat.le_of_ble_eq_true rfl) (fun _ C N hNx => z_M_isBusy C N hNx hB  hf)

def f_M_program_b151 (μ : me_M) (v1 : Int32) (v2 : Int32) (v3 : Int32) (s0 : Int32) : Option (me_M × Int32) :=
  me_b2 (f_M_isThrown μ s0 (3 : Int32)) (fun μ2 r1 =>
  if r1 = 0 then
  (me_gd (me_inb v1 16) (
  me_gd (me_inb v1 16) (
  me_gd (me_inb (μ2 88 0 (me_ix v1)) 12) (
  me_lt (me_up μ2 80 (me_ix v1) (me_ix (μ2 88 0 (me_ix v1))) (vp_nar .char v2)) (fun μ7 =>
  me_gd (me_inb v1 16) (
  me_gd (me_inb v1 16) (
  me_gd (me_inb (μ7 88 0 (me_ix v1)) 12) (
  me_lt (me_up μ7 82 (me_ix v1) (me_ix (μ7 88 0 (me_ix v1))) v3) (fun μ11 =>
  me_gd (me_inb v1 16) (
  me_gd (me_inb v1 16) (
  me_lt (me_up μ11 88 0 (me_ix v1) ((μ11 88 0 (me_ix v1)) + (1 : Int32))) (fun μ14 =>
  me_gd (me_inb v1 16) (
  some (μ14, (μ14 88 0 (me_ix v1))))))))))))))))
  else
  (some (μ2, (0 : Int32))))
set_option maxHeartbeats 4000000 in
set_option maxRecDepth 100000 in
theorem z_M_program_b151 {X : me_X} {B : me_B} {sz : Nat} (C : me_C X B RX12 cX12_program 6 (some .int)) {μ : me_M} {v1 : Int32} {v2 : Int32} {v3 : Int32} {s0 : Int32}   {r : me_M × Int32} (N : me_En X B sz (B, r.1, .ok (some (me_i r.2))) 4 91 0 0) (hNx : me_Nx X) (hB : me_St B)   (hf : f_M_program_b151 μ v1 v2 v3 s0 = some r) : me_Z X B 0 0 μ 151 [(0, me_r 36 0), (1, me_i v1), (2, me_i v2), (3, me_i v3)] [me_i s0, me_r 36 0] := by
  unfold f_M_program_b151 at hf
  refine me_iconst C (v := 3) dX12_program_151 (by decide) ?_
  obtain ⟨μ2, r1, h_r1, hf⟩ := me_bs2 hf
  refine me_callV C N  (As := [me_i s0, me_i (3 : Int32)]) (st := []) 0 0 (c_M_isThrown hB h_r1) mv_M_isThrown ml_M_155 rfl rfl dX12_program_152 rfl rfl ⟨by decide, by decide⟩ ⟨by decide, by decide, by decide, by decide⟩ (Nat.le_of_ble_eq_true rfl) ?_
  refine me_if_eq C (tgt := 160) dX12_program_155 (by decide) (fun c3 => ?_) (fun c3 => ?_)
  · replace hf := me_ip c3 hf
    refine me_aload_n C 0 (Or.inr (Or.inl ⟨_, rfl⟩)) dX12_program_160 rfl rfl ?_
    refine me_getr C hB 33 (k' := 79) (i' := 0) fg_M_114 dX12_program_161 rfl rfl ?_
    refine me_iload_n C 1 dX12_program_164 rfl rfl ?_
    obtain ⟨g4, hf⟩ := me_gs hf
    refine me_aald C hB (k' := 80) (i' := (me_ix v1)) rfl (fun _ => rfl) rfl g4 dX12_program_165 rfl ?_
    refine me_aload_n C 0 (Or.inr (Or.inl ⟨_, rfl⟩)) dX12_program_166 rfl rfl ?_
    refine me_getr C hB 35 (k' := 88) (i' := 0) fg_M_120 dX12_program_167 rfl rfl ?_
    refine me_iload_n C 1 dX12_program_170 rfl rfl ?_
    obtain ⟨g5, hf⟩ := me_gs hf
    refine me_iald C rfl (fun _ => rfl) g5 dX12_program_171 ?_
    refine me_iload_n C 2 dX12_program_172 rfl rfl ?_
    obtain ⟨g6, hf⟩ := me_gs hf
    obtain ⟨μ7, e_μ7, hf⟩ := me_lts hf
    refine me_cast C rfl (fun _ => rfl) g6 dX12_program_173 e_μ7 ?_
    refine me_aload_n C 0 (Or.inr (Or.inl ⟨_, rfl⟩)) dX12_program_174 rfl rfl ?_
    refine me_getr C hB 34 (k' := 81) (i' := 0) fg_M_117 dX12_program_175 rfl rfl ?_
    refine me_iload_n C 1 dX12_program_178 rfl rfl ?_
    obtain ⟨g8, hf⟩ := me_gs hf
    refine me_aald C hB (k' := 82) (i' := (me_ix v1)) rfl (fun _ => rfl) rfl g8 dX12_program_179 rfl ?_
    refine me_aload_n C 0 (Or.inr (Or.inl ⟨_, rfl⟩)) dX12_program_180 rfl rfl ?_
    refine me_getr C hB 35 (k' := 88) (i' := 0) fg_M_120 dX12_program_181 rfl rfl ?_
    refine me_iload_n C 1 dX12_program_184 rfl rfl ?_
    obtain ⟨g9, hf⟩ := me_gs hf
    refine me_iald C rfl (fun _ => rfl) g9 dX12_program_185 ?_
    refine me_iload_n C 3 dX12_program_186 rfl rfl ?_
    obtain ⟨g10, hf⟩ := me_gs hf
    obtain ⟨μ11, e_μ11, hf⟩ := me_lts hf
    refine me_iast C rfl (fun _ => rfl) g10 dX12_program_187 e_μ11 ?_
    refine me_aload_n C 0 (Or.inr (Or.inl ⟨_, rfl⟩)) dX12_program_188 rfl rfl ?_
    refine me_getr C hB 35 (k' := 88) (i' := 0) fg_M_120 dX12_program_189 rfl rfl ?_
    refine me_iload_n C 1 dX12_program_192 rfl rfl ?_
    refine me_dup2 C rfl rfl dX12_program_193 ?_
    obtain ⟨g12, hf⟩ := me_gs hf
    refine me_iald C rfl (fun _ => rfl) g12 dX12_program_194 ?_
    refine me_iconst C (v := 1) dX12_program_195 (by decide) ?_
    refine me_iadd C dX12_program_196 ?_
    obtain ⟨g13, hf⟩ := me_gs hf
    obtain ⟨μ14, e_μ14, hf⟩ := me_lts hf
    refine me_iast C rfl (fun _ => rfl) g13 dX12_program_197 e_μ14 ?_
    refine me_aload_n C 0 (Or.inr (Or.inl ⟨_, rfl⟩)) dX12_program_198 rfl rfl ?_
    refine me_getr C hB 35 (k' := 88) (i' := 0) fg_M_120 dX12_program_199 rfl rfl ?_
    refine me_iload_n C 1 dX12_program_202 rfl rfl ?_
    obtain ⟨g15, hf⟩ := me_gs hf
    refine me_iald C rfl (fun _ => rfl) g15 dX12_program_203 ?_
    exact me_iret C N dX12_program_204 (me_nri _) (by cases hf; rfl) (by decide) (by decide)
  · replace hf := me_in c3 hf
    refine me_iconst C (v := 0) dX12_program_158 (by decide) ?_
    exact me_iret C N dX12_program_159 (me_nri _) (by cases hf; rfl) (by decide) (by decide)
def f_M_program_b146 (μ : me_M) (v1 : Int32) (v2 : Int32) (v3 : Int32) : Option (me_M × Int32) :=
  f_M_program_b151 μ v1 v2 v3 (1 : Int32)
set_option maxHeartbeats 4000000 in
set_option maxRecDepth 100000 in
theorem z_M_program_b146 {X : me_X} {B : me_B} {sz : Nat} (C : me_C X B RX12 cX12_program 6 (some .int)) {μ : me_M} {v1 : Int32} {v2 : Int32} {v3 : Int32}   {r : me_M × Int32} (N : me_En X B sz (B, r.1, .ok (some (me_i r.2))) 4 91 0 0) (hNx : me_Nx X) (hB : me_St B)   (hf : f_M_program_b146 μ v1 v2 v3 = some r) : me_Z X B 0 0 μ 146 [(0, me_r 36 0), (1, me_i v1), (2, me_i v2), (3, me_i v3)] [me_r 36 0] := by
  unfold f_M_program_b146 at hf
  refine me_iconst C (v := 1) dX12_program_146 (by decide) ?_
  refine me_goto C (tgt := 151) dX12_program_147 (by decide) ?_
  refine me_dropI [(0, me_r 36 0), (1, me_i v1), (2, me_i v2), (3, me_i v3)] [0, 1, 2, 3] rfl ?_
  exact z_M_program_b151 C N hNx hB hf
def f_M_program_b119 (μ : me_M) (v1 : Int32) (v2 : Int32) (v3 : Int32) (s0 : Int32) : Option (me_M × Int32) :=
  me_b2 (f_M_isThrown μ s0 (2 : Int32)) (fun μ2 r1 =>
  if r1 = 0 then
  (me_gd (me_inb v1 16) (
  if (μ2 88 0 (me_ix v1)) = (12 : Int32) then
  (f_M_program_b146 μ2 v1 v2 v3)
  else
  (me_bd (f_M_isBusy μ2 v1) (fun r6 =>
  if r6 = 0 then
  (f_M_program_b151 μ2 v1 v2 v3 (0 : Int32))
  else
  (f_M_program_b146 μ2 v1 v2 v3)))))
  else
  (some (μ2, (0 : Int32))))
set_option maxHeartbeats 4000000 in
set_option maxRecDepth 100000 in
theorem z_M_program_b119 {X : me_X} {B : me_B} {sz : Nat} (C : me_C X B RX12 cX12_program 6 (some .int)) {μ : me_M} {v1 : Int32} {v2 : Int32} {v3 : Int32} {s0 : Int32}   {r : me_M × Int32} (N : me_En X B sz (B, r.1, .ok (some (me_i r.2))) 4 91 0 0) (hNx : me_Nx X) (hB : me_St B)   (hf : f_M_program_b119 μ v1 v2 v3 s0 = some r) : me_Z X B 0 0 μ 119 [(0, me_r 36 0), (1, me_i v1), (2, me_i v2), (3, me_i v3)] [me_i s0, me_r 36 0] := by
  unfold f_M_program_b119 at hf
  refine me_iconst C (v := 2) dX12_program_119 (by decide) ?_
  obtain ⟨μ2, r1, h_r1, hf⟩ := me_bs2 hf
  refine me_callV C N  (As := [me_i s0, me_i (2 : Int32)]) (st := []) 0 0 (c_M_isThrown hB h_r1) mv_M_isThrown ml_M_155 rfl rfl dX12_program_120 rfl rfl ⟨by decide, by decide⟩ ⟨by decide, by decide, by decide, by decide⟩ (Nat.le_of_ble_eq_true rfl) ?_
  refine me_if_ne C (tgt := 158) dX12_program_123 (by decide) (fun c3 => ?_) (fun c3 => ?_)
  · replace hf := me_in c3 hf
    refine me_iconst C (v := 0) dX12_program_158 (by decide) ?_
    exact me_iret C N dX12_program_159 (me_nri _) (by cases hf; rfl) (by decide) (by decide)
  · replace hf := me_ip c3 hf
    refine me_aload_n C 0 (Or.inr (Or.inl ⟨_, rfl⟩)) dX12_program_126 rfl rfl ?_
    refine me_aload_n C 0 (Or.inr (Or.inl ⟨_, rfl⟩)) dX12_program_127 rfl rfl ?_
    refine me_getr C hB 35 (k' := 88) (i' := 0) fg_M_120 dX12_program_128 rfl rfl ?_
    refine me_iload_n C 1 dX12_program_131 rfl rfl ?_
    obtain ⟨g4, hf⟩ := me_gs hf
    refine me_iald C rfl (fun _ => rfl) g4 dX12_program_132 ?_
    refine me_bipush C (v := 12) dX12_program_133 (by decide) ?_
    refine me_icmp_eq C (tgt := 146) dX12_program_135 (by decide) (fun c5 => ?_) (fun c5 => ?_)
    · replace hf := me_ip c5 hf
      refine me_dropI [(0, me_r 36 0), (1, me_i v1), (2, me_i v2), (3, me_i v3)] [0, 1, 2, 3] rfl ?_
      exact z_M_program_b146 C N hNx hB hf
    · replace hf := me_in c5 hf
      refine me_aload_n C 0 (Or.inr (Or.inl ⟨_, rfl⟩)) dX12_program_138 rfl rfl ?_
      refine me_iload_n C 1 dX12_program_139 rfl rfl ?_
      obtain ⟨r6, h_r6, hf⟩ := me_bs hf
      refine me_callV C N  (As := [me_i v1]) (st := [me_r 36 0]) 0 0 (c_M_isBusy hB h_r6) mv_M_isBusy ml_M_283 rfl rfl dX12_program_140 rfl rfl ⟨by decide, by decide⟩ ⟨by decide, by decide, by decide, by decide⟩ (Nat.le_of_ble_eq_true rfl) ?_
      refine me_if_eq C (tgt := 150) dX12_program_143 (by decide) (fun c7 => ?_) (fun c7 => ?_)
      · replace hf := me_ip c7 hf
        refine me_iconst C (v := 0) dX12_program_150 (by decide) ?_
        refine me_dropI [(0, me_r 36 0), (1, me_i v1), (2, me_i v2), (3, me_i v3)] [0, 1, 2, 3] rfl ?_
        exact z_M_program_b151 C N hNx hB hf
      · replace hf := me_in c7 hf
        refine me_dropI [(0, me_r 36 0), (1, me_i v1), (2, me_i v2), (3, me_i v3)] [0, 1, 2, 3] rfl ?_
        exact z_M_program_b146 C N hNx hB hf
def f_M_program_b114 (μ : me_M) (v1 : Int32) (v2 : Int32) (v3 : Int32) : Option (me_M × Int32) :=
  f_M_program_b119 μ v1 v2 v3 (1 : Int32)
set_option maxHeartbeats 4000000 in
set_option maxRecDepth 100000 in
theorem z_M_program_b114 {X : me_X} {B : me_B} {sz : Nat} (C : me_C X B RX12 cX12_program 6 (some .int)) {μ : me_M} {v1 : Int32} {v2 : Int32} {v3 : Int32}   {r : me_M × Int32} (N : me_En X B sz (B, r.1, .ok (some (me_i r.2))) 4 91 0 0) (hNx : me_Nx X) (hB : me_St B)   (hf : f_M_program_b114 μ v1 v2 v3 = some r) : me_Z X B 0 0 μ 114 [(0, me_r 36 0), (1, me_i v1), (2, me_i v2), (3, me_i v3)] [me_r 36 0] := by
  unfold f_M_program_b114 at hf
  refine me_iconst C (v := 1) dX12_program_114 (by decide) ?_
  refine me_goto C (tgt := 119) dX12_program_115 (by decide) ?_
  refine me_dropI [(0, me_r 36 0), (1, me_i v1), (2, me_i v2), (3, me_i v3)] [0, 1, 2, 3] rfl ?_
  exact z_M_program_b119 C N hNx hB hf
def f_M_program_b88 (μ : me_M) (v1 : Int32) (v2 : Int32) (v3 : Int32) (v4 : Int32) (s0 : Int32) : Option (me_M × Int32) :=
  me_bd (f_M_isNoNode μ v1) (fun r1 =>
  me_b2 (f_M_isThrown μ r1 (1 : Int32)) (fun μ3 r2 =>
  if r2 = 0 then
  (if v4 = 0 then
  (f_M_program_b114 μ3 v1 v2 v3)
  else
  (if s0 = 0 then
  (f_M_program_b114 μ3 v1 v2 v3)
  else
  (f_M_program_b119 μ3 v1 v2 v3 (0 : Int32))))
  else
  (some (μ3, (0 : Int32)))))
set_option maxHeartbeats 4000000 in
set_option maxRecDepth 100000 in
theorem z_M_program_b88 {X : me_X} {B : me_B} {sz : Nat} (C : me_C X B RX12 cX12_program 6 (some .int)) {μ : me_M} {v1 : Int32} {v2 : Int32} {v3 : Int32} {v4 : Int32} {s0 : Int32}   {r : me_M × Int32} (N : me_En X B sz (B, r.1, .ok (some (me_i r.2))) 4 91 0 0) (hNx : me_Nx X) (hB : me_St B)   (hf : f_M_program_b88 μ v1 v2 v3 v4 s0 = some r) : me_Z X B 0 0 μ 88 [(0, me_r 36 0), (1, me_i v1), (2, me_i v2), (3, me_i v3), (4, me_i v4)] [me_i s0] := by
  unfold f_M_program_b88 at hf
  refine me_istore C dX12_program_88 (by decide) (L' := [(5, me_i s0), (0, me_r 36 0), (1, me_i v1), (2, me_i v2), (3, me_i v3), (4, me_i v4)]) rfl ?_
  refine me_aload_n C 0 (Or.inr (Or.inl ⟨_, rfl⟩)) dX12_program_90 rfl rfl ?_
  refine me_aload_n C 0 (Or.inr (Or.inl ⟨_, rfl⟩)) dX12_program_91 rfl rfl ?_
  refine me_iload_n C 1 dX12_program_92 rfl rfl ?_
  obtain ⟨r1, h_r1, hf⟩ := me_bs hf
  refine me_callV C N  (As := [me_i v1]) (st := [me_r 36 0]) 0 0 (c_M_isNoNode hB h_r1) mv_M_isNoNode ml_M_165 rfl rfl dX12_program_93 rfl rfl ⟨by decide, by decide⟩ ⟨by decide, by decide, by decide, by decide⟩ (Nat.le_of_ble_eq_true rfl) ?_
  refine me_iconst C (v := 1) dX12_program_96 (by decide) ?_
  obtain ⟨μ3, r2, h_r2, hf⟩ := me_bs2 hf
  refine me_callV C N  (As := [me_i r1, me_i (1 : Int32)]) (st := []) 0 0 (c_M_isThrown hB h_r2) mv_M_isThrown ml_M_155 rfl rfl dX12_program_97 rfl rfl ⟨by decide, by decide⟩ ⟨by decide, by decide, by decide, by decide⟩ (Nat.le_of_ble_eq_true rfl) ?_
  refine me_if_ne C (tgt := 158) dX12_program_100 (by decide) (fun c4 => ?_) (fun c4 => ?_)
  · replace hf := me_in c4 hf
    refine me_iconst C (v := 0) dX12_program_158 (by decide) ?_
    exact me_iret C N dX12_program_159 (me_nri _) (by cases hf; rfl) (by decide) (by decide)
  · replace hf := me_ip c4 hf
    refine me_aload_n C 0 (Or.inr (Or.inl ⟨_, rfl⟩)) dX12_program_103 rfl rfl ?_
    refine me_iload C dX12_program_104 rfl ?_
    refine me_if_eq C (tgt := 114) dX12_program_106 (by decide) (fun c5 => ?_) (fun c5 => ?_)
    · replace hf := me_ip c5 hf
      refine me_dropI [(0, me_r 36 0), (1, me_i v1), (2, me_i v2), (3, me_i v3)] [1, 2, 3, 4] rfl ?_
      exact z_M_program_b114 C N hNx hB hf
    · replace hf := me_in c5 hf
      refine me_iload C dX12_program_109 rfl ?_
      refine me_if_ne C (tgt := 118) dX12_program_111 (by decide) (fun c6 => ?_) (fun c6 => ?_)
      · replace hf := me_in c6 hf
        refine me_iconst C (v := 0) dX12_program_118 (by decide) ?_
        refine me_dropI [(0, me_r 36 0), (1, me_i v1), (2, me_i v2), (3, me_i v3)] [1, 2, 3, 4] rfl ?_
        exact z_M_program_b119 C N hNx hB hf
      · replace hf := me_ip c6 hf
        refine me_dropI [(0, me_r 36 0), (1, me_i v1), (2, me_i v2), (3, me_i v3)] [1, 2, 3, 4] rfl ?_
        exact z_M_program_b114 C N hNx hB hf
def f_M_program_b29 (μ : me_M) (v1 : Int32) (v2 : Int32) (v3 : Int32) (v4 : Int32) : Option (me_M × Int32) :=
  me_bd (f_M_isIn μ v3 (0 : Int32) (7 : Int32)) (fun r1 =>
  f_M_program_b88 μ v1 v2 v3 v4 r1)
set_option maxHeartbeats 4000000 in
set_option maxRecDepth 100000 in
theorem z_M_program_b29 {X : me_X} {B : me_B} {sz : Nat} (C : me_C X B RX12 cX12_program 6 (some .int)) {μ : me_M} {v1 : Int32} {v2 : Int32} {v3 : Int32} {v4 : Int32}   {r : me_M × Int32} (N : me_En X B sz (B, r.1, .ok (some (me_i r.2))) 4 91 0 0) (hNx : me_Nx X) (hB : me_St B)   (hf : f_M_program_b29 μ v1 v2 v3 v4 = some r) : me_Z X B 0 0 μ 29 [(0, me_r 36 0), (1, me_i v1), (2, me_i v2), (3, me_i v3), (4, me_i v4)] [] := by
  unfold f_M_program_b29 at hf
  refine me_iload_n C 3 dX12_program_29 rfl rfl ?_
  refine me_iconst C (v := 0) dX12_program_30 (by decide) ?_
  refine me_bipush C (v := 7) dX12_program_31 (by decide) ?_
  obtain ⟨r1, h_r1, hf⟩ := me_bs hf
  refine me_callS C N  (As := [me_i v3, me_i (0 : Int32), me_i (7 : Int32)]) (st := []) 0 0 (c_M_isIn hB h_r1) ms_M_isIn ml_M_148 dX12_program_33 rfl rfl ⟨by decide, by decide⟩ ⟨by decide, by decide, by decide, by decide⟩ (Nat.le_of_ble_eq_true rfl) ?_
  refine me_goto C (tgt := 88) dX12_program_36 (by decide) ?_
  refine me_dropI [(0, me_r 36 0), (1, me_i v1), (2, me_i v2), (3, me_i v3), (4, me_i v4)] [0, 1, 2, 3, 4] rfl ?_
  exact z_M_program_b88 C N hNx hB hf
def f_M_program_b51 (μ : me_M) (v1 : Int32) (v2 : Int32) (v3 : Int32) (v4 : Int32) : Option (me_M × Int32) :=
  me_bd (f_M_isNoNode μ v3) (fun r1 =>
  if r1 = 0 then
  (f_M_program_b88 μ v1 v2 v3 v4 (1 : Int32))
  else
  (f_M_program_b88 μ v1 v2 v3 v4 (0 : Int32)))
set_option maxHeartbeats 4000000 in
set_option maxRecDepth 100000 in
theorem z_M_program_b51 {X : me_X} {B : me_B} {sz : Nat} (C : me_C X B RX12 cX12_program 6 (some .int)) {μ : me_M} {v1 : Int32} {v2 : Int32} {v3 : Int32} {v4 : Int32}   {r : me_M × Int32} (N : me_En X B sz (B, r.1, .ok (some (me_i r.2))) 4 91 0 0) (hNx : me_Nx X) (hB : me_St B)   (hf : f_M_program_b51 μ v1 v2 v3 v4 = some r) : me_Z X B 0 0 μ 51 [(0, me_r 36 0), (1, me_i v1), (2, me_i v2), (3, me_i v3), (4, me_i v4)] [] := by
  unfold f_M_program_b51 at hf
  refine me_aload_n C 0 (Or.inr (Or.inl ⟨_, rfl⟩)) dX12_program_51 rfl rfl ?_
  refine me_iload_n C 3 dX12_program_52 rfl rfl ?_
  obtain ⟨r1, h_r1, hf⟩ := me_bs hf
  refine me_callV C N  (As := [me_i v3]) (st := []) 0 0 (c_M_isNoNode hB h_r1) mv_M_isNoNode ml_M_165 rfl rfl dX12_program_53 rfl rfl ⟨by decide, by decide⟩ ⟨by decide, by decide, by decide, by decide⟩ (Nat.le_of_ble_eq_true rfl) ?_
  refine me_if_ne C (tgt := 63) dX12_program_56 (by decide) (fun c2 => ?_) (fun c2 => ?_)
  · replace hf := me_in c2 hf
    refine me_iconst C (v := 0) dX12_program_63 (by decide) ?_
    refine me_goto C (tgt := 88) dX12_program_64 (by decide) ?_
    refine me_dropI [(0, me_r 36 0), (1, me_i v1), (2, me_i v2), (3, me_i v3), (4, me_i v4)] [0, 1, 2, 3, 4] rfl ?_
    exact z_M_program_b88 C N hNx hB hf
  · replace hf := me_ip c2 hf
    refine me_iconst C (v := 1) dX12_program_59 (by decide) ?_
    refine me_goto C (tgt := 88) dX12_program_60 (by decide) ?_
    refine me_dropI [(0, me_r 36 0), (1, me_i v1), (2, me_i v2), (3, me_i v3), (4, me_i v4)] [0, 1, 2, 3, 4] rfl ?_
    exact z_M_program_b88 C N hNx hB hf
def f_M_program_b83 (μ : me_M) (v1 : Int32) (v2 : Int32) (v3 : Int32) (v4 : Int32) : Option (me_M × Int32) :=
  f_M_program_b88 μ v1 v2 v3 v4 (1 : Int32)
set_option maxHeartbeats 4000000 in
set_option maxRecDepth 100000 in
theorem z_M_program_b83 {X : me_X} {B : me_B} {sz : Nat} (C : me_C X B RX12 cX12_program 6 (some .int)) {μ : me_M} {v1 : Int32} {v2 : Int32} {v3 : Int32} {v4 : Int32}   {r : me_M × Int32} (N : me_En X B sz (B, r.1, .ok (some (me_i r.2))) 4 91 0 0) (hNx : me_Nx X) (hB : me_St B)   (hf : f_M_program_b83 μ v1 v2 v3 v4 = some r) : me_Z X B 0 0 μ 83 [(0, me_r 36 0), (1, me_i v1), (2, me_i v2), (3, me_i v3), (4, me_i v4)] [] := by
  unfold f_M_program_b83 at hf
  refine me_iconst C (v := 1) dX12_program_83 (by decide) ?_
  refine me_goto C (tgt := 88) dX12_program_84 (by decide) ?_
  refine me_dropI [(0, me_r 36 0), (1, me_i v1), (2, me_i v2), (3, me_i v3), (4, me_i v4)] [0, 1, 2, 3, 4] rfl ?_
  exact z_M_program_b88 C N hNx hB hf
def f_M_program_b15 (μ : me_M) (v1 : Int32) (v2 : Int32) (v3 : Int32) (s0 : Int32) : Option (me_M × Int32) :=
  if v2 = (108 : Int32) then
  (f_M_program_b29 μ v1 v2 v3 s0)
  else
  (if v2 = (115 : Int32) then
  (f_M_program_b29 μ v1 v2 v3 s0)
  else
  (if v2 = (100 : Int32) then
  (f_M_program_b51 μ v1 v2 v3 s0)
  else
  (if v2 = (114 : Int32) then
  (f_M_program_b51 μ v1 v2 v3 s0)
  else
  (if v2 = (106 : Int32) then
  (me_bd (f_M_isIn μ v3 (0 : Int32) (11 : Int32)) (fun r6 =>
  if r6 = 0 then
  (f_M_program_b88 μ v1 v2 v3 s0 (0 : Int32))
  else
  (f_M_program_b83 μ v1 v2 v3 s0)))
  else
  (f_M_program_b83 μ v1 v2 v3 s0)))))
set_option maxHeartbeats 4000000 in
set_option maxRecDepth 100000 in
theorem z_M_program_b15 {X : me_X} {B : me_B} {sz : Nat} (C : me_C X B RX12 cX12_program 6 (some .int)) {μ : me_M} {v1 : Int32} {v2 : Int32} {v3 : Int32} {s0 : Int32}   {r : me_M × Int32} (N : me_En X B sz (B, r.1, .ok (some (me_i r.2))) 4 91 0 0) (hNx : me_Nx X) (hB : me_St B)   (hf : f_M_program_b15 μ v1 v2 v3 s0 = some r) : me_Z X B 0 0 μ 15 [(0, me_r 36 0), (1, me_i v1), (2, me_i v2), (3, me_i v3)] [me_i s0] := by
  unfold f_M_program_b15 at hf
  refine me_istore C dX12_program_15 (by decide) (L' := [(4, me_i s0), (0, me_r 36 0), (1, me_i v1), (2, me_i v2), (3, me_i v3)]) rfl ?_
  refine me_iload_n C 2 dX12_program_17 rfl rfl ?_
  refine me_bipush C (v := 108) dX12_program_18 (by decide) ?_
  refine me_icmp_eq C (tgt := 29) dX12_program_20 (by decide) (fun c1 => ?_) (fun c1 => ?_)
  · replace hf := me_ip c1 hf
    refine me_dropI [(0, me_r 36 0), (1, me_i v1), (2, me_i v2), (3, me_i v3), (4, me_i s0)] [1, 2, 3, 4, 0] rfl ?_
    exact z_M_program_b29 C N hNx hB hf
  · replace hf := me_in c1 hf
    refine me_iload_n C 2 dX12_program_23 rfl rfl ?_
    refine me_bipush C (v := 115) dX12_program_24 (by decide) ?_
    refine me_icmp_ne C (tgt := 39) dX12_program_26 (by decide) (fun c2 => ?_) (fun c2 => ?_)
    · replace hf := me_in c2 hf
      refine me_iload_n C 2 dX12_program_39 rfl rfl ?_
      refine me_bipush C (v := 100) dX12_program_40 (by decide) ?_
      refine me_icmp_eq C (tgt := 51) dX12_program_42 (by decide) (fun c3 => ?_) (fun c3 => ?_)
      · replace hf := me_ip c3 hf
        refine me_dropI [(0, me_r 36 0), (1, me_i v1), (2, me_i v2), (3, me_i v3), (4, me_i s0)] [1, 2, 3, 4, 0] rfl ?_
        exact z_M_program_b51 C N hNx hB hf
      · replace hf := me_in c3 hf
        refine me_iload_n C 2 dX12_program_45 rfl rfl ?_
        refine me_bipush C (v := 114) dX12_program_46 (by decide) ?_
        refine me_icmp_ne C (tgt := 67) dX12_program_48 (by decide) (fun c4 => ?_) (fun c4 => ?_)
        · replace hf := me_in c4 hf
          refine me_iload_n C 2 dX12_program_67 rfl rfl ?_
          refine me_bipush C (v := 106) dX12_program_68 (by decide) ?_
          refine me_icmp_ne C (tgt := 83) dX12_program_70 (by decide) (fun c5 => ?_) (fun c5 => ?_)
          · replace hf := me_in c5 hf
            refine me_dropI [(0, me_r 36 0), (1, me_i v1), (2, me_i v2), (3, me_i v3), (4, me_i s0)] [1, 2, 3, 4, 0] rfl ?_
            exact z_M_program_b83 C N hNx hB hf
          · replace hf := me_ip c5 hf
            refine me_iload_n C 3 dX12_program_73 rfl rfl ?_
            refine me_iconst C (v := 0) dX12_program_74 (by decide) ?_
            refine me_bipush C (v := 11) dX12_program_75 (by decide) ?_
            obtain ⟨r6, h_r6, hf⟩ := me_bs hf
            refine me_callS C N  (As := [me_i v3, me_i (0 : Int32), me_i (11 : Int32)]) (st := []) 0 0 (c_M_isIn hB h_r6) ms_M_isIn ml_M_148 dX12_program_77 rfl rfl ⟨by decide, by decide⟩ ⟨by decide, by decide, by decide, by decide⟩ (Nat.le_of_ble_eq_true rfl) ?_
            refine me_if_eq C (tgt := 87) dX12_program_80 (by decide) (fun c7 => ?_) (fun c7 => ?_)
            · replace hf := me_ip c7 hf
              refine me_iconst C (v := 0) dX12_program_87 (by decide) ?_
              refine me_dropI [(0, me_r 36 0), (1, me_i v1), (2, me_i v2), (3, me_i v3), (4, me_i s0)] [1, 2, 3, 4, 0] rfl ?_
              exact z_M_program_b88 C N hNx hB hf
            · replace hf := me_in c7 hf
              refine me_dropI [(0, me_r 36 0), (1, me_i v1), (2, me_i v2), (3, me_i v3), (4, me_i s0)] [1, 2, 3, 4, 0] rfl ?_
              exact z_M_program_b83 C N hNx hB hf
        · replace hf := me_ip c4 hf
          refine me_dropI [(0, me_r 36 0), (1, me_i v1), (2, me_i v2), (3, me_i v3), (4, me_i s0)] [1, 2, 3, 4, 0] rfl ?_
          exact z_M_program_b51 C N hNx hB hf
    · replace hf := me_ip c2 hf
      refine me_dropI [(0, me_r 36 0), (1, me_i v1), (2, me_i v2), (3, me_i v3), (4, me_i s0)] [1, 2, 3, 4, 0] rfl ?_
      exact z_M_program_b29 C N hNx hB hf
def f_M_program (μ : me_M) (v1 : Int32) (v2 : Int32) (v3 : Int32) : Option (me_M × Int32) :=
  me_bd (f_Str_indexOf1 μ 2 v2) (fun r1 =>
  if r1 < 0 then
  (f_M_program_b15 μ v1 v2 v3 (0 : Int32))
  else
  (f_M_program_b15 μ v1 v2 v3 (1 : Int32)))
set_option maxHeartbeats 4000000 in
set_option maxRecDepth 100000 in
theorem z_M_program {X : me_X} {B : me_B} {sz : Nat} (C : me_C X B RX12 cX12_program 6 (some .int)) {μ : me_M} {v1 : Int32} {v2 : Int32} {v3 : Int32}   {r : me_M × Int32} (N : me_En X B sz (B, r.1, .ok (some (me_i r.2))) 4 91 0 0) (hNx : me_Nx X) (hB : me_St B)   (hf : f_M_program μ v1 v2 v3 = some r) : me_Z X B 0 0 μ 0 [(0, me_r 36 0), (1, me_i v1), (2, me_i v2), (3, me_i v3)] [] := by
  unfold f_M_program at hf
  refine me_ldcSw C sx_M_276 dX12_program_0 ?_
  refine me_iload_n C 2 dX12_program_3 rfl rfl ?_
  obtain ⟨r1, h_r1, hf⟩ := me_bs hf
  refine me_callG C N (by decide) (As := [me_i v2]) (st := []) 0 0 (c_Str_indexOf1 hB (by decide) h_r1) mv_Str_indexOf1 ml_M_278 rfl dX12_program_4 rfl rfl ⟨by decide, by decide⟩ ⟨by decide, by decide, by decide, by decide⟩ (Nat.le_of_ble_eq_true rfl) ?_
  refine me_if_lt C (tgt := 14) dX12_program_7 (by decide) (fun c2 => ?_) (fun c2 => ?_)
  · replace hf := me_ip c2 hf
    refine me_iconst C (v := 0) dX12_program_14 (by decide) ?_
    refine me_dropI [(0, me_r 36 0), (1, me_i v1), (2, me_i v2), (3, me_i v3)] [0, 1, 2, 3] rfl ?_
    exact z_M_program_b15 C N hNx hB hf
  · replace hf := me_in c2 hf
    refine me_iconst C (v := 1) dX12_program_10 (by decide) ?_
    refine me_goto C (tgt := 15) dX12_program_11 (by decide) ?_
    refine me_dropI [(0, me_r 36 0), (1, me_i v1), (2, me_i v2), (3, me_i v3)] [0, 1, 2, 3] rfl ?_
    exact z_M_program_b15 C N hNx hB hf
theorem c_M_program {B : me_B} (hB : me_St B) {μ : me_M} {v1 : Int32} {v2 : Int32} {v3 : Int32} {μ' : me_M} {r : Int32}  (hf : f_M_program μ v1 v2 v3 = some (μ', r)) : ∀ l E z, l.stackTraces = false → me_Met l yX12_program cX12_program 6 (some .int) 4 91 0 0 E B μ z [me_r 36 0, me_i v1, me_i v2, me_i v3] (B, μ', .ok (some (me_i r))) :=
  fun _ _ _ hl => me_ofZ hl (by decide +kernel) (Nat.le_of_ble_eq_true rfl) (fun _ C N hNx => z_M_program C N hNx hB  hf)

def f_M_clear (μ : me_M) (v1 : Int32) : Option (me_M × Int32) :=
  me_bd (f_M_isNoNode μ v1) (fun r1 =>
  me_b2 (f_M_isThrown μ r1 (1 : Int32)) (fun μ3 r2 =>
  if r2 = 0 then
  (me_bd (f_M_isBusy μ3 v1) (fun r5 =>
  me_b2 (f_M_isThrown μ3 r5 (2 : Int32)) (fun μ7 r6 =>
  if r6 = 0 then
  (me_gd (me_inb v1 16) (
  me_lt ((μ7 88 0 (me_ix v1))) (fun x10 =>
  me_gd (me_inb v1 16) (
  me_lt (me_up μ7 88 0 (me_ix v1) (0 : Int32)) (fun μ12 =>
  some (μ12, x10))))))
  else
  (some (μ7, (0 : Int32))))))
  else
  (some (μ3, (0 : Int32)))))
set_option maxHeartbeats 4000000 in
set_option maxRecDepth 100000 in
theorem z_M_clear {X : me_X} {B : me_B} {sz : Nat} (C : me_C X B RX12 cX12_clear 3 (some .int)) {μ : me_M} {v1 : Int32}   {r : me_M × Int32} (N : me_En X B sz (B, r.1, .ok (some (me_i r.2))) 2 43 0 0) (hNx : me_Nx X) (hB : me_St B)   (hf : f_M_clear μ v1 = some r) : me_Z X B 0 0 μ 0 [(0, me_r 36 0), (1, me_i v1)] [] := by
  unfold f_M_clear at hf
  refine me_aload_n C 0 (Or.inr (Or.inl ⟨_, rfl⟩)) dX12_clear_0 rfl rfl ?_
  refine me_aload_n C 0 (Or.inr (Or.inl ⟨_, rfl⟩)) dX12_clear_1 rfl rfl ?_
  refine me_iload_n C 1 dX12_clear_2 rfl rfl ?_
  obtain ⟨r1, h_r1, hf⟩ := me_bs hf
  refine me_callV C N  (As := [me_i v1]) (st := [me_r 36 0]) 0 0 (c_M_isNoNode hB h_r1) mv_M_isNoNode ml_M_165 rfl rfl dX12_clear_3 rfl rfl ⟨by decide, by decide⟩ ⟨by decide, by decide, by decide, by decide⟩ (Nat.le_of_ble_eq_true rfl) ?_
  refine me_iconst C (v := 1) dX12_clear_6 (by decide) ?_
  obtain ⟨μ3, r2, h_r2, hf⟩ := me_bs2 hf
  refine me_callV C N  (As := [me_i r1, me_i (1 : Int32)]) (st := []) 0 0 (c_M_isThrown hB h_r2) mv_M_isThrown ml_M_155 rfl rfl dX12_clear_7 rfl rfl ⟨by decide, by decide⟩ ⟨by decide, by decide, by decide, by decide⟩ (Nat.le_of_ble_eq_true rfl) ?_
  refine me_if_ne C (tgt := 26) dX12_clear_10 (by decide) (fun c4 => ?_) (fun c4 => ?_)
  · replace hf := me_in c4 hf
    refine me_iconst C (v := 0) dX12_clear_26 (by decide) ?_
    exact me_iret C N dX12_clear_27 (me_nri _) (by cases hf; rfl) (by decide) (by decide)
  · replace hf := me_ip c4 hf
    refine me_aload_n C 0 (Or.inr (Or.inl ⟨_, rfl⟩)) dX12_clear_13 rfl rfl ?_
    refine me_aload_n C 0 (Or.inr (Or.inl ⟨_, rfl⟩)) dX12_clear_14 rfl rfl ?_
    refine me_iload_n C 1 dX12_clear_15 rfl rfl ?_
    obtain ⟨r5, h_r5, hf⟩ := me_bs hf
    refine me_callV C N  (As := [me_i v1]) (st := [me_r 36 0]) 0 0 (c_M_isBusy hB h_r5) mv_M_isBusy ml_M_283 rfl rfl dX12_clear_16 rfl rfl ⟨by decide, by decide⟩ ⟨by decide, by decide, by decide, by decide⟩ (Nat.le_of_ble_eq_true rfl) ?_
    refine me_iconst C (v := 2) dX12_clear_19 (by decide) ?_
    obtain ⟨μ7, r6, h_r6, hf⟩ := me_bs2 hf
    refine me_callV C N  (As := [me_i r5, me_i (2 : Int32)]) (st := []) 0 0 (c_M_isThrown hB h_r6) mv_M_isThrown ml_M_155 rfl rfl dX12_clear_20 rfl rfl ⟨by decide, by decide⟩ ⟨by decide, by decide, by decide, by decide⟩ (Nat.le_of_ble_eq_true rfl) ?_
    refine me_if_eq C (tgt := 28) dX12_clear_23 (by decide) (fun c8 => ?_) (fun c8 => ?_)
    · replace hf := me_ip c8 hf
      refine me_aload_n C 0 (Or.inr (Or.inl ⟨_, rfl⟩)) dX12_clear_28 rfl rfl ?_
      refine me_getr C hB 35 (k' := 88) (i' := 0) fg_M_120 dX12_clear_29 rfl rfl ?_
      refine me_iload_n C 1 dX12_clear_32 rfl rfl ?_
      obtain ⟨g9, hf⟩ := me_gs hf
      refine me_iald C rfl (fun _ => rfl) g9 dX12_clear_33 ?_
      obtain ⟨x10, e_x10, hf⟩ := me_lts hf
      refine me_nm e_x10 ?_
      refine me_istore_n C 2 dX12_clear_34 rfl (by decide) (L' := [(2, me_i x10), (0, me_r 36 0), (1, me_i v1)]) rfl ?_
      refine me_aload_n C 0 (Or.inr (Or.inl ⟨_, rfl⟩)) dX12_clear_35 rfl rfl ?_
      refine me_getr C hB 35 (k' := 88) (i' := 0) fg_M_120 dX12_clear_36 rfl rfl ?_
      refine me_iload_n C 1 dX12_clear_39 rfl rfl ?_
      refine me_iconst C (v := 0) dX12_clear_40 (by decide) ?_
      obtain ⟨g11, hf⟩ := me_gs hf
      obtain ⟨μ12, e_μ12, hf⟩ := me_lts hf
      refine me_iast C rfl (fun _ => rfl) g11 dX12_clear_41 e_μ12 ?_
      refine me_iload_n C 2 dX12_clear_42 rfl rfl ?_
      exact me_iret C N dX12_clear_43 (me_nri _) (by cases hf; rfl) (by decide) (by decide)
    · replace hf := me_in c8 hf
      refine me_iconst C (v := 0) dX12_clear_26 (by decide) ?_
      exact me_iret C N dX12_clear_27 (me_nri _) (by cases hf; rfl) (by decide) (by decide)
theorem c_M_clear {B : me_B} (hB : me_St B) {μ : me_M} {v1 : Int32} {μ' : me_M} {r : Int32}  (hf : f_M_clear μ v1 = some (μ', r)) : ∀ l E z, l.stackTraces = false → me_Met l yX12_clear cX12_clear 3 (some .int) 2 43 0 0 E B μ z [me_r 36 0, me_i v1] (B, μ', .ok (some (me_i r))) :=
  fun _ _ _ hl => me_ofZ hl (by decide +kernel) (Nat.le_of_ble_eq_true rfl) (fun _ C N hNx => z_M_clear C N hNx hB  hf)

def f_M_start_b76 (K76 : me_M → Int32 → Int32 → Option (me_M × Int32)) (μ : me_M) (v2 : Int32) (v3 : Int32) : Option (me_M × Int32) :=
  me_bd (f_M_nodes μ) (fun r1 =>
  if r1 ≤ v3 then
  (some (μ, v2))
  else
  (me_bd (f_M_isBusy μ v3) (fun r3 =>
  if r3 = 0 then
  (me_lt ((v2 + (0 : Int32))) (fun x5 =>
  me_lt (me_inc v3 (1)) (fun x6 =>
  K76 μ x5 x6)))
  else
  (me_lt ((v2 + (1 : Int32))) (fun x7 =>
  me_lt (me_inc v3 (1)) (fun x8 =>
  K76 μ x7 x8))))))
set_option maxHeartbeats 4000000 in
set_option maxRecDepth 100000 in
theorem z_M_start_b76 {X : me_X} {B : me_B} {sz : Nat} (C : me_C X B RX12 cX12_start 4 (some .int)) {μ : me_M} {v2 : Int32} {v3 : Int32}  {K76 : me_M → Int32 → Int32 → Option (me_M × Int32)} {r : me_M × Int32} (N : me_En X B sz (B, r.1, .ok (some (me_i r.2))) 2 43 0 0) (hNx : me_Nx X) (hB : me_St B) (hK76 : ∀ (μ : me_M) (v2 : Int32) (v3 : Int32), K76 μ v2 v3 = some r → me_Z X B 0 0 μ 76 [(0, me_r 36 0), (2, me_i v2), (3, me_i v3)] [])  (hf : f_M_start_b76 K76 μ v2 v3 = some r) : me_Z X B 0 0 μ 76 [(0, me_r 36 0), (2, me_i v2), (3, me_i v3)] [] := by
  unfold f_M_start_b76 at hf
  refine me_iload_n C 3 dX12_start_76 rfl rfl ?_
  refine me_aload_n C 0 (Or.inr (Or.inl ⟨_, rfl⟩)) dX12_start_77 rfl rfl ?_
  obtain ⟨r1, h_r1, hf⟩ := me_bs hf
  refine me_callV C N  (As := []) (st := [me_i v3]) 0 0 (c_M_nodes hB h_r1) mv_M_nodes ml_M_144 rfl rfl dX12_start_78 rfl rfl ⟨by decide, by decide⟩ ⟨by decide, by decide, by decide, by decide⟩ (Nat.le_of_ble_eq_true rfl) ?_
  refine me_icmp_ge C (tgt := 106) dX12_start_81 (by decide) (fun c2 => ?_) (fun c2 => ?_)
  · replace hf := me_ip c2 hf
    refine me_iload_n C 2 dX12_start_106 rfl rfl ?_
    exact me_iret C N dX12_start_107 (me_nri _) (by cases hf; rfl) (by decide) (by decide)
  · replace hf := me_in c2 hf
    refine me_iload_n C 2 dX12_start_84 rfl rfl ?_
    refine me_aload_n C 0 (Or.inr (Or.inl ⟨_, rfl⟩)) dX12_start_85 rfl rfl ?_
    refine me_iload_n C 3 dX12_start_86 rfl rfl ?_
    obtain ⟨r3, h_r3, hf⟩ := me_bs hf
    refine me_callV C N  (As := [me_i v3]) (st := [me_i v2]) 0 0 (c_M_isBusy hB h_r3) mv_M_isBusy ml_M_283 rfl rfl dX12_start_87 rfl rfl ⟨by decide, by decide⟩ ⟨by decide, by decide, by decide, by decide⟩ (Nat.le_of_ble_eq_true rfl) ?_
    refine me_if_eq C (tgt := 97) dX12_start_90 (by decide) (fun c4 => ?_) (fun c4 => ?_)
    · replace hf := me_ip c4 hf
      refine me_iconst C (v := 0) dX12_start_97 (by decide) ?_
      refine me_iadd C dX12_start_98 ?_
      obtain ⟨x5, e_x5, hf⟩ := me_lts hf
      refine me_nm e_x5 ?_
      refine me_istore_n C 2 dX12_start_99 rfl (by decide) (L' := [(2, me_i x5), (0, me_r 36 0), (3, me_i v3)]) rfl ?_
      obtain ⟨x6, e_x6, hf⟩ := me_lts hf
      refine me_iinc C (v := x6) (L' := [(3, me_i x6), (2, me_i x5), (0, me_r 36 0)]) dX12_start_100 rfl e_x6.symm (by decide) rfl ?_
      refine me_goto C (tgt := 76) dX12_start_103 (by decide) ?_
      refine me_dropI [(0, me_r 36 0), (2, me_i x5), (3, me_i x6)] [2, 1, 0] rfl ?_
      exact hK76 μ x5 x6 hf
    · replace hf := me_in c4 hf
      refine me_iconst C (v := 1) dX12_start_93 (by decide) ?_
      refine me_goto C (tgt := 98) dX12_start_94 (by decide) ?_
      refine me_iadd C dX12_start_98 ?_
      obtain ⟨x7, e_x7, hf⟩ := me_lts hf
      refine me_nm e_x7 ?_
      refine me_istore_n C 2 dX12_start_99 rfl (by decide) (L' := [(2, me_i x7), (0, me_r 36 0), (3, me_i v3)]) rfl ?_
      obtain ⟨x8, e_x8, hf⟩ := me_lts hf
      refine me_iinc C (v := x8) (L' := [(3, me_i x8), (2, me_i x7), (0, me_r 36 0)]) dX12_start_100 rfl e_x8.symm (by decide) rfl ?_
      refine me_goto C (tgt := 76) dX12_start_103 (by decide) ?_
      refine me_dropI [(0, me_r 36 0), (2, me_i x7), (3, me_i x8)] [2, 1, 0] rfl ?_
      exact hK76 μ x7 x8 hf
def f_M_start_h76  : Nat → me_M → Int32 → Int32 → Option (me_M × Int32)
  | 0, _, _, _ => none
  | n + 1, μ, v2, v3 => f_M_start_b76 (f_M_start_h76 n) μ v2 v3
set_option maxHeartbeats 4000000 in
set_option maxRecDepth 100000 in
theorem z_M_start_h76 {X : me_X} {B : me_B} {sz : Nat} (C : me_C X B RX12 cX12_start 4 (some .int))  {r : me_M × Int32} (N : me_En X B sz (B, r.1, .ok (some (me_i r.2))) 2 43 0 0) (hNx : me_Nx X) (hB : me_St B)  : ∀ (n : Nat) (μ : me_M) (v2 : Int32) (v3 : Int32), f_M_start_h76 n μ v2 v3 = some r → me_Z X B 0 0 μ 76 [(0, me_r 36 0), (2, me_i v2), (3, me_i v3)] [] := by
  intro n
  induction n with
  | zero => intro μ v2 v3  h; exact absurd (show (none : Option (me_M × Int32)) = some r from h) (fun q => by cases q)
  | succ n ih => intro μ v2 v3  h; exact z_M_start_b76 C N hNx hB  (K76 := f_M_start_h76 n) ih  h
def f_M_start_b28 (μ : me_M) (v1 : Int32) (s0 : Int32) : Option (me_M × Int32) :=
  me_b2 (f_M_isThrown μ s0 (2 : Int32)) (fun μ2 r1 =>
  if r1 = 0 then
  (me_bd (f_M_isBusy μ2 v1) (fun r4 =>
  me_b2 (f_M_isThrown μ2 r4 (3 : Int32)) (fun μ6 r5 =>
  if r5 = 0 then
  (me_gd (me_inb v1 16) (
  me_lt (me_up μ6 87 0 (me_ix v1) (0 : Int32)) (fun μ9 =>
  me_gd (me_inb v1 16) (
  me_lt (me_up μ9 91 0 (me_ix v1) (0 : Int32)) (fun μ11 =>
  me_gd (me_inb v1 16) (
  me_lt (me_up μ11 89 0 (me_ix v1) (vp_nar .char (114 : Int32))) (fun μ13 =>
  f_M_start_h76 me_FU μ13 (0 : Int32) (0 : Int32))))))))
  else
  (some (μ6, (0 : Int32))))))
  else
  (some (μ2, (0 : Int32))))
set_option maxHeartbeats 4000000 in
set_option maxRecDepth 100000 in
theorem z_M_start_b28 {X : me_X} {B : me_B} {sz : Nat} (C : me_C X B RX12 cX12_start 4 (some .int)) {μ : me_M} {v1 : Int32} {s0 : Int32}   {r : me_M × Int32} (N : me_En X B sz (B, r.1, .ok (some (me_i r.2))) 2 43 0 0) (hNx : me_Nx X) (hB : me_St B)   (hf : f_M_start_b28 μ v1 s0 = some r) : me_Z X B 0 0 μ 28 [(0, me_r 36 0), (1, me_i v1)] [me_i s0, me_r 36 0] := by
  unfold f_M_start_b28 at hf
  refine me_iconst C (v := 2) dX12_start_28 (by decide) ?_
  obtain ⟨μ2, r1, h_r1, hf⟩ := me_bs2 hf
  refine me_callV C N  (As := [me_i s0, me_i (2 : Int32)]) (st := []) 0 0 (c_M_isThrown hB h_r1) mv_M_isThrown ml_M_155 rfl rfl dX12_start_29 rfl rfl ⟨by decide, by decide⟩ ⟨by decide, by decide, by decide, by decide⟩ (Nat.le_of_ble_eq_true rfl) ?_
  refine me_if_ne C (tgt := 48) dX12_start_32 (by decide) (fun c3 => ?_) (fun c3 => ?_)
  · replace hf := me_in c3 hf
    refine me_iconst C (v := 0) dX12_start_48 (by decide) ?_
    exact me_iret C N dX12_start_49 (me_nri _) (by cases hf; rfl) (by decide) (by decide)
  · replace hf := me_ip c3 hf
    refine me_aload_n C 0 (Or.inr (Or.inl ⟨_, rfl⟩)) dX12_start_35 rfl rfl ?_
    refine me_aload_n C 0 (Or.inr (Or.inl ⟨_, rfl⟩)) dX12_start_36 rfl rfl ?_
    refine me_iload_n C 1 dX12_start_37 rfl rfl ?_
    obtain ⟨r4, h_r4, hf⟩ := me_bs hf
    refine me_callV C N  (As := [me_i v1]) (st := [me_r 36 0]) 0 0 (c_M_isBusy hB h_r4) mv_M_isBusy ml_M_283 rfl rfl dX12_start_38 rfl rfl ⟨by decide, by decide⟩ ⟨by decide, by decide, by decide, by decide⟩ (Nat.le_of_ble_eq_true rfl) ?_
    refine me_iconst C (v := 3) dX12_start_41 (by decide) ?_
    obtain ⟨μ6, r5, h_r5, hf⟩ := me_bs2 hf
    refine me_callV C N  (As := [me_i r4, me_i (3 : Int32)]) (st := []) 0 0 (c_M_isThrown hB h_r5) mv_M_isThrown ml_M_155 rfl rfl dX12_start_42 rfl rfl ⟨by decide, by decide⟩ ⟨by decide, by decide, by decide, by decide⟩ (Nat.le_of_ble_eq_true rfl) ?_
    refine me_if_eq C (tgt := 50) dX12_start_45 (by decide) (fun c7 => ?_) (fun c7 => ?_)
    · replace hf := me_ip c7 hf
      refine me_aload_n C 0 (Or.inr (Or.inl ⟨_, rfl⟩)) dX12_start_50 rfl rfl ?_
      refine me_getr C hB 32 (k' := 87) (i' := 0) fg_M_109 dX12_start_51 rfl rfl ?_
      refine me_iload_n C 1 dX12_start_54 rfl rfl ?_
      refine me_iconst C (v := 0) dX12_start_55 (by decide) ?_
      obtain ⟨g8, hf⟩ := me_gs hf
      obtain ⟨μ9, e_μ9, hf⟩ := me_lts hf
      refine me_iast C rfl (fun _ => rfl) g8 dX12_start_56 e_μ9 ?_
      refine me_aload_n C 0 (Or.inr (Or.inl ⟨_, rfl⟩)) dX12_start_57 rfl rfl ?_
      refine me_getr C hB 38 (k' := 91) (i' := 0) fg_M_129 dX12_start_58 rfl rfl ?_
      refine me_iload_n C 1 dX12_start_61 rfl rfl ?_
      refine me_iconst C (v := 0) dX12_start_62 (by decide) ?_
      obtain ⟨g10, hf⟩ := me_gs hf
      obtain ⟨μ11, e_μ11, hf⟩ := me_lts hf
      refine me_iast C rfl (fun _ => rfl) g10 dX12_start_63 e_μ11 ?_
      refine me_aload_n C 0 (Or.inr (Or.inl ⟨_, rfl⟩)) dX12_start_64 rfl rfl ?_
      refine me_getr C hB 36 (k' := 89) (i' := 0) fg_M_123 dX12_start_65 rfl rfl ?_
      refine me_iload_n C 1 dX12_start_68 rfl rfl ?_
      refine me_bipush C (v := 114) dX12_start_69 (by decide) ?_
      obtain ⟨g12, hf⟩ := me_gs hf
      obtain ⟨μ13, e_μ13, hf⟩ := me_lts hf
      refine me_cast C rfl (fun _ => rfl) g12 dX12_start_71 e_μ13 ?_
      refine me_iconst C (v := 0) dX12_start_72 (by decide) ?_
      refine me_istore_n C 2 dX12_start_73 rfl (by decide) (L' := [(2, me_i (0 : Int32)), (0, me_r 36 0), (1, me_i v1)]) rfl ?_
      refine me_iconst C (v := 0) dX12_start_74 (by decide) ?_
      refine me_istore_n C 3 dX12_start_75 rfl (by decide) (L' := [(3, me_i (0 : Int32)), (2, me_i (0 : Int32)), (0, me_r 36 0), (1, me_i v1)]) rfl ?_
      refine me_dropI [(0, me_r 36 0), (2, me_i (0 : Int32)), (3, me_i (0 : Int32))] [2, 1, 0] rfl ?_
      exact z_M_start_h76 C N hNx hB me_FU μ13 (0 : Int32) (0 : Int32) hf
    · replace hf := me_in c7 hf
      refine me_iconst C (v := 0) dX12_start_48 (by decide) ?_
      exact me_iret C N dX12_start_49 (me_nri _) (by cases hf; rfl) (by decide) (by decide)
def f_M_start (μ : me_M) (v1 : Int32) : Option (me_M × Int32) :=
  me_bd (f_M_isNoNode μ v1) (fun r1 =>
  me_b2 (f_M_isThrown μ r1 (1 : Int32)) (fun μ3 r2 =>
  if r2 = 0 then
  (me_gd (me_inb v1 16) (
  if (μ3 88 0 (me_ix v1)) = 0 then
  (f_M_start_b28 μ3 v1 (1 : Int32))
  else
  (f_M_start_b28 μ3 v1 (0 : Int32))))
  else
  (some (μ3, (0 : Int32)))))
set_option maxHeartbeats 4000000 in
set_option maxRecDepth 100000 in
theorem z_M_start {X : me_X} {B : me_B} {sz : Nat} (C : me_C X B RX12 cX12_start 4 (some .int)) {μ : me_M} {v1 : Int32}   {r : me_M × Int32} (N : me_En X B sz (B, r.1, .ok (some (me_i r.2))) 2 43 0 0) (hNx : me_Nx X) (hB : me_St B)   (hf : f_M_start μ v1 = some r) : me_Z X B 0 0 μ 0 [(0, me_r 36 0), (1, me_i v1)] [] := by
  unfold f_M_start at hf
  refine me_aload_n C 0 (Or.inr (Or.inl ⟨_, rfl⟩)) dX12_start_0 rfl rfl ?_
  refine me_aload_n C 0 (Or.inr (Or.inl ⟨_, rfl⟩)) dX12_start_1 rfl rfl ?_
  refine me_iload_n C 1 dX12_start_2 rfl rfl ?_
  obtain ⟨r1, h_r1, hf⟩ := me_bs hf
  refine me_callV C N  (As := [me_i v1]) (st := [me_r 36 0]) 0 0 (c_M_isNoNode hB h_r1) mv_M_isNoNode ml_M_165 rfl rfl dX12_start_3 rfl rfl ⟨by decide, by decide⟩ ⟨by decide, by decide, by decide, by decide⟩ (Nat.le_of_ble_eq_true rfl) ?_
  refine me_iconst C (v := 1) dX12_start_6 (by decide) ?_
  obtain ⟨μ3, r2, h_r2, hf⟩ := me_bs2 hf
  refine me_callV C N  (As := [me_i r1, me_i (1 : Int32)]) (st := []) 0 0 (c_M_isThrown hB h_r2) mv_M_isThrown ml_M_155 rfl rfl dX12_start_7 rfl rfl ⟨by decide, by decide⟩ ⟨by decide, by decide, by decide, by decide⟩ (Nat.le_of_ble_eq_true rfl) ?_
  refine me_if_ne C (tgt := 48) dX12_start_10 (by decide) (fun c4 => ?_) (fun c4 => ?_)
  · replace hf := me_in c4 hf
    refine me_iconst C (v := 0) dX12_start_48 (by decide) ?_
    exact me_iret C N dX12_start_49 (me_nri _) (by cases hf; rfl) (by decide) (by decide)
  · replace hf := me_ip c4 hf
    refine me_aload_n C 0 (Or.inr (Or.inl ⟨_, rfl⟩)) dX12_start_13 rfl rfl ?_
    refine me_aload_n C 0 (Or.inr (Or.inl ⟨_, rfl⟩)) dX12_start_14 rfl rfl ?_
    refine me_getr C hB 35 (k' := 88) (i' := 0) fg_M_120 dX12_start_15 rfl rfl ?_
    refine me_iload_n C 1 dX12_start_18 rfl rfl ?_
    obtain ⟨g5, hf⟩ := me_gs hf
    refine me_iald C rfl (fun _ => rfl) g5 dX12_start_19 ?_
    refine me_if_ne C (tgt := 27) dX12_start_20 (by decide) (fun c6 => ?_) (fun c6 => ?_)
    · replace hf := me_in c6 hf
      refine me_iconst C (v := 0) dX12_start_27 (by decide) ?_
      refine me_dropI [(0, me_r 36 0), (1, me_i v1)] [0, 1] rfl ?_
      exact z_M_start_b28 C N hNx hB hf
    · replace hf := me_ip c6 hf
      refine me_iconst C (v := 1) dX12_start_23 (by decide) ?_
      refine me_goto C (tgt := 28) dX12_start_24 (by decide) ?_
      refine me_dropI [(0, me_r 36 0), (1, me_i v1)] [0, 1] rfl ?_
      exact z_M_start_b28 C N hNx hB hf
theorem c_M_start {B : me_B} (hB : me_St B) {μ : me_M} {v1 : Int32} {μ' : me_M} {r : Int32}  (hf : f_M_start μ v1 = some (μ', r)) : ∀ l E z, l.stackTraces = false → me_Met l yX12_start cX12_start 4 (some .int) 2 43 0 0 E B μ z [me_r 36 0, me_i v1] (B, μ', .ok (some (me_i r))) :=
  fun _ _ _ hl => me_ofZ hl (by decide +kernel) (Nat.le_of_ble_eq_true rfl) (fun _ C N hNx => z_M_start C N hNx hB  hf)

def f_M_core (μ : me_M) (v1 : Int32) : Option (me_M × Int32) :=
  me_bd (f_M_isNoNode μ v1) (fun r1 =>
  me_b2 (f_M_isThrown μ r1 (1 : Int32)) (fun μ3 r2 =>
  if r2 = 0 then
  (me_gd (me_inb v1 16) (
  me_gd (me_nr .char (μ3 89 0 (me_ix v1))) (
  some (μ3, (μ3 89 0 (me_ix v1))))))
  else
  (some (μ3, (32 : Int32)))))
set_option maxHeartbeats 4000000 in
set_option maxRecDepth 100000 in
theorem z_M_core {X : me_X} {B : me_B} {sz : Nat} (C : me_C X B RX12 cX12_core 2 (some .char)) {μ : me_M} {v1 : Int32}   {r : me_M × Int32} (N : me_En X B sz (B, r.1, .ok (some (me_i r.2))) 2 43 0 0) (hNx : me_Nx X) (hB : me_St B)   (hf : f_M_core μ v1 = some r) : me_Z X B 0 0 μ 0 [(0, me_r 36 0), (1, me_i v1)] [] := by
  unfold f_M_core at hf
  refine me_aload_n C 0 (Or.inr (Or.inl ⟨_, rfl⟩)) dX12_core_0 rfl rfl ?_
  refine me_aload_n C 0 (Or.inr (Or.inl ⟨_, rfl⟩)) dX12_core_1 rfl rfl ?_
  refine me_iload_n C 1 dX12_core_2 rfl rfl ?_
  obtain ⟨r1, h_r1, hf⟩ := me_bs hf
  refine me_callV C N  (As := [me_i v1]) (st := [me_r 36 0]) 0 0 (c_M_isNoNode hB h_r1) mv_M_isNoNode ml_M_165 rfl rfl dX12_core_3 rfl rfl ⟨by decide, by decide⟩ ⟨by decide, by decide, by decide, by decide⟩ (Nat.le_of_ble_eq_true rfl) ?_
  refine me_iconst C (v := 1) dX12_core_6 (by decide) ?_
  obtain ⟨μ3, r2, h_r2, hf⟩ := me_bs2 hf
  refine me_callV C N  (As := [me_i r1, me_i (1 : Int32)]) (st := []) 0 0 (c_M_isThrown hB h_r2) mv_M_isThrown ml_M_155 rfl rfl dX12_core_7 rfl rfl ⟨by decide, by decide⟩ ⟨by decide, by decide, by decide, by decide⟩ (Nat.le_of_ble_eq_true rfl) ?_
  refine me_if_eq C (tgt := 18) dX12_core_10 (by decide) (fun c4 => ?_) (fun c4 => ?_)
  · replace hf := me_ip c4 hf
    refine me_aload_n C 0 (Or.inr (Or.inl ⟨_, rfl⟩)) dX12_core_18 rfl rfl ?_
    refine me_getr C hB 36 (k' := 89) (i' := 0) fg_M_123 dX12_core_19 rfl rfl ?_
    refine me_iload_n C 1 dX12_core_22 rfl rfl ?_
    obtain ⟨g5, hf⟩ := me_gs hf
    refine me_cald C rfl (fun _ => rfl) g5 dX12_core_23 ?_
    obtain ⟨g6, hf⟩ := me_gs hf
    exact me_iret C N dX12_core_24 g6 (by cases hf; rfl) (by decide) (by decide)
  · replace hf := me_in c4 hf
    refine me_bipush C (v := 32) dX12_core_13 (by decide) ?_
    refine me_goto C (tgt := 24) dX12_core_15 (by decide) ?_
    exact me_iret C N dX12_core_24 (by decide +kernel) (by cases hf; rfl) (by decide) (by decide)
theorem c_M_core {B : me_B} (hB : me_St B) {μ : me_M} {v1 : Int32} {μ' : me_M} {r : Int32}  (hf : f_M_core μ v1 = some (μ', r)) : ∀ l E z, l.stackTraces = false → me_Met l yX12_core cX12_core 2 (some .char) 2 43 0 0 E B μ z [me_r 36 0, me_i v1] (B, μ', .ok (some (me_i r))) :=
  fun _ _ _ hl => me_ofZ hl (by decide +kernel) (Nat.le_of_ble_eq_true rfl) (fun _ C N hNx => z_M_core C N hNx hB  hf)
