/-! THE CONSTRUCTOR OF THE REFERENCE (printed by gen/ctor3.py) -/
theorem ml_M_1 : Cond.methodLink RX12 1 Lib.objectInit ∈ me_gw := (me_gm 1540 (by decide +kernel) (by decide +kernel))
theorem cl_M_65 : Cond.classLink RX12 65 "[[[[I" ∈ me_gw := (me_gm 1541 (by decide +kernel) (by decide +kernel))
theorem cl_M_73 : Cond.classLink RX12 73 "[[[I" ∈ me_gw := (me_gm 1545 (by decide +kernel) (by decide +kernel))
theorem cl_M_90 : Cond.classLink RX12 90 "[[Z" ∈ me_gw := (me_gm 1546 (by decide +kernel) (by decide +kernel))
theorem cl_M_101 : Cond.classLink RX12 101 "[[I" ∈ me_gw := (me_gm 1548 (by decide +kernel) (by decide +kernel))
theorem cl_M_112 : Cond.classLink RX12 112 "[[C" ∈ me_gw := (me_gm 1549 (by decide +kernel) (by decide +kernel))
theorem mi_M_init : me_MI yX12_init cX12_init 1 0 := ⟨(me_gm 1539 (by decide +kernel) (by decide +kernel)), (me_gm 88 (by decide +kernel) (by decide +kernel)), ⟨by decide +kernel, by decide +kernel⟩, by decide +kernel, rfl, (me_gm 1538 (by decide +kernel) (by decide +kernel))⟩
theorem dX12_init_0 : decode cX12_init 0 = .ok (.aload_n 0, 1) := by decide +kernel
theorem dX12_init_1 : decode cX12_init 1 = .ok (.invokespecial 1, 3) := by decide +kernel
theorem dX12_init_4 : decode cX12_init 4 = .ok (.aload_n 0, 1) := by decide +kernel
theorem dX12_init_5 : decode cX12_init 5 = .ok (.iconst 4, 1) := by decide +kernel
theorem dX12_init_6 : decode cX12_init 6 = .ok (.putfield 7, 3) := by decide +kernel
theorem dX12_init_9 : decode cX12_init 9 = .ok (.aload_n 0, 1) := by decide +kernel
theorem dX12_init_10 : decode cX12_init 10 = .ok (.iconst 4, 1) := by decide +kernel
theorem dX12_init_11 : decode cX12_init 11 = .ok (.putfield 13, 3) := by decide +kernel
theorem dX12_init_14 : decode cX12_init 14 = .ok (.aload_n 0, 1) := by decide +kernel
theorem dX12_init_15 : decode cX12_init 15 = .ok (.iconst 2, 1) := by decide +kernel
theorem dX12_init_16 : decode cX12_init 16 = .ok (.putfield 16, 3) := by decide +kernel
theorem dX12_init_19 : decode cX12_init 19 = .ok (.aload_n 0, 1) := by decide +kernel
theorem dX12_init_20 : decode cX12_init 20 = .ok (.bipush 120, 2) := by decide +kernel
theorem dX12_init_22 : decode cX12_init 22 = .ok (.putfield 19, 3) := by decide +kernel
theorem dX12_init_25 : decode cX12_init 25 = .ok (.aload_n 0, 1) := by decide +kernel
theorem dX12_init_26 : decode cX12_init 26 = .ok (.sipush 200, 3) := by decide +kernel
theorem dX12_init_29 : decode cX12_init 29 = .ok (.newarray .char, 2) := by decide +kernel
theorem dX12_init_31 : decode cX12_init 31 = .ok (.putfield 23, 3) := by decide +kernel
theorem dX12_init_34 : decode cX12_init 34 = .ok (.aload_n 0, 1) := by decide +kernel
theorem dX12_init_35 : decode cX12_init 35 = .ok (.sipush 200, 3) := by decide +kernel
theorem dX12_init_38 : decode cX12_init 38 = .ok (.newarray .char, 2) := by decide +kernel
theorem dX12_init_40 : decode cX12_init 40 = .ok (.putfield 27, 3) := by decide +kernel
theorem dX12_init_43 : decode cX12_init 43 = .ok (.aload_n 0, 1) := by decide +kernel
theorem dX12_init_44 : decode cX12_init 44 = .ok (.sipush 200, 3) := by decide +kernel
theorem dX12_init_47 : decode cX12_init 47 = .ok (.newarray .int, 2) := by decide +kernel
theorem dX12_init_49 : decode cX12_init 49 = .ok (.putfield 30, 3) := by decide +kernel
theorem dX12_init_52 : decode cX12_init 52 = .ok (.aload_n 0, 1) := by decide +kernel
theorem dX12_init_53 : decode cX12_init 53 = .ok (.sipush 200, 3) := by decide +kernel
theorem dX12_init_56 : decode cX12_init 56 = .ok (.newarray .int, 2) := by decide +kernel
theorem dX12_init_58 : decode cX12_init 58 = .ok (.putfield 34, 3) := by decide +kernel
theorem dX12_init_61 : decode cX12_init 61 = .ok (.aload_n 0, 1) := by decide +kernel
theorem dX12_init_62 : decode cX12_init 62 = .ok (.sipush 200, 3) := by decide +kernel
theorem dX12_init_65 : decode cX12_init 65 = .ok (.newarray .int, 2) := by decide +kernel
theorem dX12_init_67 : decode cX12_init 67 = .ok (.putfield 37, 3) := by decide +kernel
theorem dX12_init_70 : decode cX12_init 70 = .ok (.aload_n 0, 1) := by decide +kernel
theorem dX12_init_71 : decode cX12_init 71 = .ok (.sipush 200, 3) := by decide +kernel
theorem dX12_init_74 : decode cX12_init 74 = .ok (.newarray .int, 2) := by decide +kernel
theorem dX12_init_76 : decode cX12_init 76 = .ok (.putfield 40, 3) := by decide +kernel
theorem dX12_init_79 : decode cX12_init 79 = .ok (.aload_n 0, 1) := by decide +kernel
theorem dX12_init_80 : decode cX12_init 80 = .ok (.sipush 200, 3) := by decide +kernel
theorem dX12_init_83 : decode cX12_init 83 = .ok (.newarray .int, 2) := by decide +kernel
theorem dX12_init_85 : decode cX12_init 85 = .ok (.putfield 43, 3) := by decide +kernel
theorem dX12_init_88 : decode cX12_init 88 = .ok (.aload_n 0, 1) := by decide +kernel
theorem dX12_init_89 : decode cX12_init 89 = .ok (.sipush 200, 3) := by decide +kernel
theorem dX12_init_92 : decode cX12_init 92 = .ok (.newarray .int, 2) := by decide +kernel
theorem dX12_init_94 : decode cX12_init 94 = .ok (.putfield 46, 3) := by decide +kernel
theorem dX12_init_97 : decode cX12_init 97 = .ok (.aload_n 0, 1) := by decide +kernel
theorem dX12_init_98 : decode cX12_init 98 = .ok (.sipush 200, 3) := by decide +kernel
theorem dX12_init_101 : decode cX12_init 101 = .ok (.newarray .int, 2) := by decide +kernel
theorem dX12_init_103 : decode cX12_init 103 = .ok (.putfield 49, 3) := by decide +kernel
theorem dX12_init_106 : decode cX12_init 106 = .ok (.aload_n 0, 1) := by decide +kernel
theorem dX12_init_107 : decode cX12_init 107 = .ok (.sipush 200, 3) := by decide +kernel
theorem dX12_init_110 : decode cX12_init 110 = .ok (.newarray .int, 2) := by decide +kernel
theorem dX12_init_112 : decode cX12_init 112 = .ok (.putfield 52, 3) := by decide +kernel
theorem dX12_init_115 : decode cX12_init 115 = .ok (.aload_n 0, 1) := by decide +kernel
theorem dX12_init_116 : decode cX12_init 116 = .ok (.sipush 200, 3) := by decide +kernel
theorem dX12_init_119 : decode cX12_init 119 = .ok (.newarray .boolean, 2) := by decide +kernel
theorem dX12_init_121 : decode cX12_init 121 = .ok (.putfield 55, 3) := by decide +kernel
theorem dX12_init_124 : decode cX12_init 124 = .ok (.aload_n 0, 1) := by decide +kernel
theorem dX12_init_125 : decode cX12_init 125 = .ok (.sipush 200, 3) := by decide +kernel
theorem dX12_init_128 : decode cX12_init 128 = .ok (.newarray .int, 2) := by decide +kernel
theorem dX12_init_130 : decode cX12_init 130 = .ok (.putfield 59, 3) := by decide +kernel
theorem dX12_init_133 : decode cX12_init 133 = .ok (.aload_n 0, 1) := by decide +kernel
theorem dX12_init_134 : decode cX12_init 134 = .ok (.sipush 200, 3) := by decide +kernel
theorem dX12_init_137 : decode cX12_init 137 = .ok (.newarray .int, 2) := by decide +kernel
theorem dX12_init_139 : decode cX12_init 139 = .ok (.putfield 62, 3) := by decide +kernel
theorem dX12_init_142 : decode cX12_init 142 = .ok (.aload_n 0, 1) := by decide +kernel
theorem dX12_init_143 : decode cX12_init 143 = .ok (.bipush 16, 2) := by decide +kernel
theorem dX12_init_145 : decode cX12_init 145 = .ok (.iconst 2, 1) := by decide +kernel
theorem dX12_init_146 : decode cX12_init 146 = .ok (.iconst 5, 1) := by decide +kernel
theorem dX12_init_147 : decode cX12_init 147 = .ok (.iconst 4, 1) := by decide +kernel
theorem dX12_init_148 : decode cX12_init 148 = .ok (.multianewarray 65 4, 4) := by decide +kernel
theorem dX12_init_152 : decode cX12_init 152 = .ok (.putfield 67, 3) := by decide +kernel
theorem dX12_init_155 : decode cX12_init 155 = .ok (.aload_n 0, 1) := by decide +kernel
theorem dX12_init_156 : decode cX12_init 156 = .ok (.bipush 16, 2) := by decide +kernel
theorem dX12_init_158 : decode cX12_init 158 = .ok (.iconst 2, 1) := by decide +kernel
theorem dX12_init_159 : decode cX12_init 159 = .ok (.iconst 5, 1) := by decide +kernel
theorem dX12_init_160 : decode cX12_init 160 = .ok (.iconst 4, 1) := by decide +kernel
theorem dX12_init_161 : decode cX12_init 161 = .ok (.multianewarray 65 4, 4) := by decide +kernel
theorem dX12_init_165 : decode cX12_init 165 = .ok (.putfield 70, 3) := by decide +kernel
theorem dX12_init_168 : decode cX12_init 168 = .ok (.aload_n 0, 1) := by decide +kernel
theorem dX12_init_169 : decode cX12_init 169 = .ok (.bipush 16, 2) := by decide +kernel
theorem dX12_init_171 : decode cX12_init 171 = .ok (.iconst 2, 1) := by decide +kernel
theorem dX12_init_172 : decode cX12_init 172 = .ok (.iconst 5, 1) := by decide +kernel
theorem dX12_init_173 : decode cX12_init 173 = .ok (.multianewarray 73 3, 4) := by decide +kernel
theorem dX12_init_177 : decode cX12_init 177 = .ok (.putfield 75, 3) := by decide +kernel
theorem dX12_init_180 : decode cX12_init 180 = .ok (.aload_n 0, 1) := by decide +kernel
theorem dX12_init_181 : decode cX12_init 181 = .ok (.bipush 16, 2) := by decide +kernel
theorem dX12_init_183 : decode cX12_init 183 = .ok (.iconst 2, 1) := by decide +kernel
theorem dX12_init_184 : decode cX12_init 184 = .ok (.iconst 5, 1) := by decide +kernel
theorem dX12_init_185 : decode cX12_init 185 = .ok (.multianewarray 73 3, 4) := by decide +kernel
theorem dX12_init_189 : decode cX12_init 189 = .ok (.putfield 78, 3) := by decide +kernel
theorem dX12_init_192 : decode cX12_init 192 = .ok (.aload_n 0, 1) := by decide +kernel
theorem dX12_init_193 : decode cX12_init 193 = .ok (.bipush 16, 2) := by decide +kernel
theorem dX12_init_195 : decode cX12_init 195 = .ok (.iconst 2, 1) := by decide +kernel
theorem dX12_init_196 : decode cX12_init 196 = .ok (.iconst 5, 1) := by decide +kernel
theorem dX12_init_197 : decode cX12_init 197 = .ok (.multianewarray 73 3, 4) := by decide +kernel
theorem dX12_init_201 : decode cX12_init 201 = .ok (.putfield 81, 3) := by decide +kernel
theorem dX12_init_204 : decode cX12_init 204 = .ok (.aload_n 0, 1) := by decide +kernel
theorem dX12_init_205 : decode cX12_init 205 = .ok (.bipush 16, 2) := by decide +kernel
theorem dX12_init_207 : decode cX12_init 207 = .ok (.iconst 2, 1) := by decide +kernel
theorem dX12_init_208 : decode cX12_init 208 = .ok (.iconst 5, 1) := by decide +kernel
theorem dX12_init_209 : decode cX12_init 209 = .ok (.multianewarray 73 3, 4) := by decide +kernel
theorem dX12_init_213 : decode cX12_init 213 = .ok (.putfield 84, 3) := by decide +kernel
theorem dX12_init_216 : decode cX12_init 216 = .ok (.aload_n 0, 1) := by decide +kernel
theorem dX12_init_217 : decode cX12_init 217 = .ok (.bipush 16, 2) := by decide +kernel
theorem dX12_init_219 : decode cX12_init 219 = .ok (.iconst 2, 1) := by decide +kernel
theorem dX12_init_220 : decode cX12_init 220 = .ok (.iconst 5, 1) := by decide +kernel
theorem dX12_init_221 : decode cX12_init 221 = .ok (.multianewarray 73 3, 4) := by decide +kernel
theorem dX12_init_225 : decode cX12_init 225 = .ok (.putfield 87, 3) := by decide +kernel
theorem dX12_init_228 : decode cX12_init 228 = .ok (.aload_n 0, 1) := by decide +kernel
theorem dX12_init_229 : decode cX12_init 229 = .ok (.bipush 16, 2) := by decide +kernel
theorem dX12_init_231 : decode cX12_init 231 = .ok (.iconst 5, 1) := by decide +kernel
theorem dX12_init_232 : decode cX12_init 232 = .ok (.multianewarray 90 2, 4) := by decide +kernel
theorem dX12_init_236 : decode cX12_init 236 = .ok (.putfield 92, 3) := by decide +kernel
theorem dX12_init_239 : decode cX12_init 239 = .ok (.aload_n 0, 1) := by decide +kernel
theorem dX12_init_240 : decode cX12_init 240 = .ok (.bipush 16, 2) := by decide +kernel
theorem dX12_init_242 : decode cX12_init 242 = .ok (.newarray .boolean, 2) := by decide +kernel
theorem dX12_init_244 : decode cX12_init 244 = .ok (.putfield 95, 3) := by decide +kernel
theorem dX12_init_247 : decode cX12_init 247 = .ok (.aload_n 0, 1) := by decide +kernel
theorem dX12_init_248 : decode cX12_init 248 = .ok (.bipush 16, 2) := by decide +kernel
theorem dX12_init_250 : decode cX12_init 250 = .ok (.newarray .boolean, 2) := by decide +kernel
theorem dX12_init_252 : decode cX12_init 252 = .ok (.putfield 98, 3) := by decide +kernel
theorem dX12_init_255 : decode cX12_init 255 = .ok (.aload_n 0, 1) := by decide +kernel
theorem dX12_init_256 : decode cX12_init 256 = .ok (.bipush 16, 2) := by decide +kernel
theorem dX12_init_258 : decode cX12_init 258 = .ok (.bipush 8, 2) := by decide +kernel
theorem dX12_init_260 : decode cX12_init 260 = .ok (.multianewarray 101 2, 4) := by decide +kernel
theorem dX12_init_264 : decode cX12_init 264 = .ok (.putfield 103, 3) := by decide +kernel
theorem dX12_init_267 : decode cX12_init 267 = .ok (.aload_n 0, 1) := by decide +kernel
theorem dX12_init_268 : decode cX12_init 268 = .ok (.bipush 16, 2) := by decide +kernel
theorem dX12_init_270 : decode cX12_init 270 = .ok (.bipush 6, 2) := by decide +kernel
theorem dX12_init_272 : decode cX12_init 272 = .ok (.multianewarray 101 2, 4) := by decide +kernel
theorem dX12_init_276 : decode cX12_init 276 = .ok (.putfield 106, 3) := by decide +kernel
theorem dX12_init_279 : decode cX12_init 279 = .ok (.aload_n 0, 1) := by decide +kernel
theorem dX12_init_280 : decode cX12_init 280 = .ok (.bipush 16, 2) := by decide +kernel
theorem dX12_init_282 : decode cX12_init 282 = .ok (.newarray .int, 2) := by decide +kernel
theorem dX12_init_284 : decode cX12_init 284 = .ok (.putfield 109, 3) := by decide +kernel
theorem dX12_init_287 : decode cX12_init 287 = .ok (.aload_n 0, 1) := by decide +kernel
theorem dX12_init_288 : decode cX12_init 288 = .ok (.bipush 16, 2) := by decide +kernel
theorem dX12_init_290 : decode cX12_init 290 = .ok (.bipush 12, 2) := by decide +kernel
theorem dX12_init_292 : decode cX12_init 292 = .ok (.multianewarray 112 2, 4) := by decide +kernel
theorem dX12_init_296 : decode cX12_init 296 = .ok (.putfield 114, 3) := by decide +kernel
theorem dX12_init_299 : decode cX12_init 299 = .ok (.aload_n 0, 1) := by decide +kernel
theorem dX12_init_300 : decode cX12_init 300 = .ok (.bipush 16, 2) := by decide +kernel
theorem dX12_init_302 : decode cX12_init 302 = .ok (.bipush 12, 2) := by decide +kernel
theorem dX12_init_304 : decode cX12_init 304 = .ok (.multianewarray 101 2, 4) := by decide +kernel
theorem dX12_init_308 : decode cX12_init 308 = .ok (.putfield 117, 3) := by decide +kernel
theorem dX12_init_311 : decode cX12_init 311 = .ok (.aload_n 0, 1) := by decide +kernel
theorem dX12_init_312 : decode cX12_init 312 = .ok (.bipush 16, 2) := by decide +kernel
theorem dX12_init_314 : decode cX12_init 314 = .ok (.newarray .int, 2) := by decide +kernel
theorem dX12_init_316 : decode cX12_init 316 = .ok (.putfield 120, 3) := by decide +kernel
theorem dX12_init_319 : decode cX12_init 319 = .ok (.aload_n 0, 1) := by decide +kernel
theorem dX12_init_320 : decode cX12_init 320 = .ok (.bipush 16, 2) := by decide +kernel
theorem dX12_init_322 : decode cX12_init 322 = .ok (.newarray .char, 2) := by decide +kernel
theorem dX12_init_324 : decode cX12_init 324 = .ok (.putfield 123, 3) := by decide +kernel
theorem dX12_init_327 : decode cX12_init 327 = .ok (.aload_n 0, 1) := by decide +kernel
theorem dX12_init_328 : decode cX12_init 328 = .ok (.bipush 16, 2) := by decide +kernel
theorem dX12_init_330 : decode cX12_init 330 = .ok (.newarray .char, 2) := by decide +kernel
theorem dX12_init_332 : decode cX12_init 332 = .ok (.putfield 126, 3) := by decide +kernel
theorem dX12_init_335 : decode cX12_init 335 = .ok (.aload_n 0, 1) := by decide +kernel
theorem dX12_init_336 : decode cX12_init 336 = .ok (.bipush 16, 2) := by decide +kernel
theorem dX12_init_338 : decode cX12_init 338 = .ok (.newarray .int, 2) := by decide +kernel
theorem dX12_init_340 : decode cX12_init 340 = .ok (.putfield 129, 3) := by decide +kernel
theorem dX12_init_343 : decode cX12_init 343 = .ok (.aload_n 0, 1) := by decide +kernel
theorem dX12_init_344 : decode cX12_init 344 = .ok (.bipush 8, 2) := by decide +kernel
theorem dX12_init_346 : decode cX12_init 346 = .ok (.newarray .int, 2) := by decide +kernel
theorem dX12_init_348 : decode cX12_init 348 = .ok (.putfield 132, 3) := by decide +kernel
theorem dX12_init_351 : decode cX12_init 351 = .ok (.aload_n 0, 1) := by decide +kernel
theorem dX12_init_352 : decode cX12_init 352 = .ok (.bipush 8, 2) := by decide +kernel
theorem dX12_init_354 : decode cX12_init 354 = .ok (.bipush 8, 2) := by decide +kernel
theorem dX12_init_356 : decode cX12_init 356 = .ok (.multianewarray 101 2, 4) := by decide +kernel
theorem dX12_init_360 : decode cX12_init 360 = .ok (.putfield 135, 3) := by decide +kernel
theorem dX12_init_363 : decode cX12_init 363 = .ok (.aload_n 0, 1) := by decide +kernel
theorem dX12_init_364 : decode cX12_init 364 = .ok (.invokevirtual 138, 3) := by decide +kernel
theorem dX12_init_367 : decode cX12_init 367 = .ok (.return_, 1) := by decide +kernel
noncomputable def f_M_init (i0 : Nat) (n : me_Nt) (r : me_Rt) (μ : me_M) : Option (me_Nt × me_Rt × me_M) :=
  me_lt n (fun n1 =>
  me_lt r (fun r1 =>
  me_lt (me_up μ 36 i0 0 4) (fun μ1 =>
  me_lt n1 (fun n2 =>
  me_lt r1 (fun r2 =>
  me_lt (me_up μ1 36 i0 1 4) (fun μ2 =>
  me_lt n2 (fun n3 =>
  me_lt r2 (fun r3 =>
  me_lt (me_up μ2 36 i0 2 2) (fun μ3 =>
  me_lt n3 (fun n4 =>
  me_lt r3 (fun r4 =>
  me_lt (me_up μ3 36 i0 3 120) (fun μ4 =>
  me_lt (me_np n4 37) (fun n5 =>
  me_lt (me_ru (me_rn r4 37 (n4 37)) 36 i0 6 (37, (n4 37))) (fun r5 =>
  me_lt (me_zc μ4 37 (n4 37)) (fun μ5 =>
  me_lt (me_np n5 38) (fun n6 =>
  me_lt (me_ru (me_rn r5 38 (n5 38)) 36 i0 7 (38, (n5 38))) (fun r6 =>
  me_lt (me_zc μ5 38 (n5 38)) (fun μ6 =>
  me_lt (me_np n6 39) (fun n7 =>
  me_lt (me_ru (me_rn r6 39 (n6 39)) 36 i0 8 (39, (n6 39))) (fun r7 =>
  me_lt (me_zc μ6 39 (n6 39)) (fun μ7 =>
  me_lt (me_np n7 40) (fun n8 =>
  me_lt (me_ru (me_rn r7 40 (n7 40)) 36 i0 9 (40, (n7 40))) (fun r8 =>
  me_lt (me_zc μ7 40 (n7 40)) (fun μ8 =>
  me_lt (me_np n8 41) (fun n9 =>
  me_lt (me_ru (me_rn r8 41 (n8 41)) 36 i0 10 (41, (n8 41))) (fun r9 =>
  me_lt (me_zc μ8 41 (n8 41)) (fun μ9 =>
  me_lt (me_np n9 42) (fun n10 =>
  me_lt (me_ru (me_rn r9 42 (n9 42)) 36 i0 11 (42, (n9 42))) (fun r10 =>
  me_lt (me_zc μ9 42 (n9 42)) (fun μ10 =>
  me_lt (me_np n10 43) (fun n11 =>
  me_lt (me_ru (me_rn r10 43 (n10 43)) 36 i0 12 (43, (n10 43))) (fun r11 =>
  me_lt (me_zc μ10 43 (n10 43)) (fun μ11 =>
  me_lt (me_np n11 44) (fun n12 =>
  me_lt (me_ru (me_rn r11 44 (n11 44)) 36 i0 13 (44, (n11 44))) (fun r12 =>
  me_lt (me_zc μ11 44 (n11 44)) (fun μ12 =>
  me_lt (me_np n12 45) (fun n13 =>
  me_lt (me_ru (me_rn r12 45 (n12 45)) 36 i0 14 (45, (n12 45))) (fun r13 =>
  me_lt (me_zc μ12 45 (n12 45)) (fun μ13 =>
  me_lt (me_np n13 46) (fun n14 =>
  me_lt (me_ru (me_rn r13 46 (n13 46)) 36 i0 15 (46, (n13 46))) (fun r14 =>
  me_lt (me_zc μ13 46 (n13 46)) (fun μ14 =>
  me_lt (me_np n14 47) (fun n15 =>
  me_lt (me_ru (me_rn r14 47 (n14 47)) 36 i0 16 (47, (n14 47))) (fun r15 =>
  me_lt (me_zc μ14 47 (n14 47)) (fun μ15 =>
  me_lt (me_np n15 48) (fun n16 =>
  me_lt (me_ru (me_rn r15 48 (n15 48)) 36 i0 17 (48, (n15 48))) (fun r16 =>
  me_lt (me_zc μ15 48 (n15 48)) (fun μ16 =>
  me_lt (me_np n16 49) (fun n17 =>
  me_lt (me_ru (me_rn r16 49 (n16 49)) 36 i0 18 (49, (n16 49))) (fun r17 =>
  me_lt (me_zc μ16 49 (n16 49)) (fun μ17 =>
  me_lt (((me_pG 50 51 (me_pG 51 52 (me_pG 52 53 (me_p1 53) 5) 2) 16) (n17, r17, μ17)).1) (fun n18 =>
  me_lt (me_ru (((me_pG 50 51 (me_pG 51 52 (me_pG 52 53 (me_p1 53) 5) 2) 16) (n17, r17, μ17)).2.1) 36 i0 20 (50, (n17 50))) (fun r18 =>
  me_lt (((me_pG 50 51 (me_pG 51 52 (me_pG 52 53 (me_p1 53) 5) 2) 16) (n17, r17, μ17)).2.2) (fun μ18 =>
  me_lt (((me_pG 54 55 (me_pG 55 56 (me_pG 56 57 (me_p1 57) 5) 2) 16) (n18, r18, μ18)).1) (fun n19 =>
  me_lt (me_ru (((me_pG 54 55 (me_pG 55 56 (me_pG 56 57 (me_p1 57) 5) 2) 16) (n18, r18, μ18)).2.1) 36 i0 21 (54, (n18 54))) (fun r19 =>
  me_lt (((me_pG 54 55 (me_pG 55 56 (me_pG 56 57 (me_p1 57) 5) 2) 16) (n18, r18, μ18)).2.2) (fun μ19 =>
  me_lt (((me_pG 58 59 (me_pG 59 60 (me_p1 60) 2) 16) (n19, r19, μ19)).1) (fun n20 =>
  me_lt (me_ru (((me_pG 58 59 (me_pG 59 60 (me_p1 60) 2) 16) (n19, r19, μ19)).2.1) 36 i0 22 (58, (n19 58))) (fun r20 =>
  me_lt (((me_pG 58 59 (me_pG 59 60 (me_p1 60) 2) 16) (n19, r19, μ19)).2.2) (fun μ20 =>
  me_lt (((me_pG 61 62 (me_pG 62 63 (me_p1 63) 2) 16) (n20, r20, μ20)).1) (fun n21 =>
  me_lt (me_ru (((me_pG 61 62 (me_pG 62 63 (me_p1 63) 2) 16) (n20, r20, μ20)).2.1) 36 i0 23 (61, (n20 61))) (fun r21 =>
  me_lt (((me_pG 61 62 (me_pG 62 63 (me_p1 63) 2) 16) (n20, r20, μ20)).2.2) (fun μ21 =>
  me_lt (((me_pG 64 65 (me_pG 65 66 (me_p1 66) 2) 16) (n21, r21, μ21)).1) (fun n22 =>
  me_lt (me_ru (((me_pG 64 65 (me_pG 65 66 (me_p1 66) 2) 16) (n21, r21, μ21)).2.1) 36 i0 24 (64, (n21 64))) (fun r22 =>
  me_lt (((me_pG 64 65 (me_pG 65 66 (me_p1 66) 2) 16) (n21, r21, μ21)).2.2) (fun μ22 =>
  me_lt (((me_pG 67 68 (me_pG 68 69 (me_p1 69) 2) 16) (n22, r22, μ22)).1) (fun n23 =>
  me_lt (me_ru (((me_pG 67 68 (me_pG 68 69 (me_p1 69) 2) 16) (n22, r22, μ22)).2.1) 36 i0 25 (67, (n22 67))) (fun r23 =>
  me_lt (((me_pG 67 68 (me_pG 68 69 (me_p1 69) 2) 16) (n22, r22, μ22)).2.2) (fun μ23 =>
  me_lt (((me_pG 70 71 (me_pG 71 72 (me_p1 72) 2) 16) (n23, r23, μ23)).1) (fun n24 =>
  me_lt (me_ru (((me_pG 70 71 (me_pG 71 72 (me_p1 72) 2) 16) (n23, r23, μ23)).2.1) 36 i0 26 (70, (n23 70))) (fun r24 =>
  me_lt (((me_pG 70 71 (me_pG 71 72 (me_p1 72) 2) 16) (n23, r23, μ23)).2.2) (fun μ24 =>
  me_lt (((me_pG 73 74 (me_p1 74) 16) (n24, r24, μ24)).1) (fun n25 =>
  me_lt (me_ru (((me_pG 73 74 (me_p1 74) 16) (n24, r24, μ24)).2.1) 36 i0 27 (73, (n24 73))) (fun r25 =>
  me_lt (((me_pG 73 74 (me_p1 74) 16) (n24, r24, μ24)).2.2) (fun μ25 =>
  me_lt (me_np n25 85) (fun n26 =>
  me_lt (me_ru (me_rn r25 85 (n25 85)) 36 i0 28 (85, (n25 85))) (fun r26 =>
  me_lt (me_zc μ25 85 (n25 85)) (fun μ26 =>
  me_lt (me_np n26 86) (fun n27 =>
  me_lt (me_ru (me_rn r26 86 (n26 86)) 36 i0 29 (86, (n26 86))) (fun r27 =>
  me_lt (me_zc μ26 86 (n26 86)) (fun μ27 =>
  me_lt (((me_pG 75 76 (me_p1 76) 16) (n27, r27, μ27)).1) (fun n28 =>
  me_lt (me_ru (((me_pG 75 76 (me_p1 76) 16) (n27, r27, μ27)).2.1) 36 i0 30 (75, (n27 75))) (fun r28 =>
  me_lt (((me_pG 75 76 (me_p1 76) 16) (n27, r27, μ27)).2.2) (fun μ28 =>
  me_lt (((me_pG 77 78 (me_p1 78) 16) (n28, r28, μ28)).1) (fun n29 =>
  me_lt (me_ru (((me_pG 77 78 (me_p1 78) 16) (n28, r28, μ28)).2.1) 36 i0 31 (77, (n28 77))) (fun r29 =>
  me_lt (((me_pG 77 78 (me_p1 78) 16) (n28, r28, μ28)).2.2) (fun μ29 =>
  me_lt (me_np n29 87) (fun n30 =>
  me_lt (me_ru (me_rn r29 87 (n29 87)) 36 i0 32 (87, (n29 87))) (fun r30 =>
  me_lt (me_zc μ29 87 (n29 87)) (fun μ30 =>
  me_lt (((me_pG 79 80 (me_p1 80) 16) (n30, r30, μ30)).1) (fun n31 =>
  me_lt (me_ru (((me_pG 79 80 (me_p1 80) 16) (n30, r30, μ30)).2.1) 36 i0 33 (79, (n30 79))) (fun r31 =>
  me_lt (((me_pG 79 80 (me_p1 80) 16) (n30, r30, μ30)).2.2) (fun μ31 =>
  me_lt (((me_pG 81 82 (me_p1 82) 16) (n31, r31, μ31)).1) (fun n32 =>
  me_lt (me_ru (((me_pG 81 82 (me_p1 82) 16) (n31, r31, μ31)).2.1) 36 i0 34 (81, (n31 81))) (fun r32 =>
  me_lt (((me_pG 81 82 (me_p1 82) 16) (n31, r31, μ31)).2.2) (fun μ32 =>
  me_lt (me_np n32 88) (fun n33 =>
  me_lt (me_ru (me_rn r32 88 (n32 88)) 36 i0 35 (88, (n32 88))) (fun r33 =>
  me_lt (me_zc μ32 88 (n32 88)) (fun μ33 =>
  me_lt (me_np n33 89) (fun n34 =>
  me_lt (me_ru (me_rn r33 89 (n33 89)) 36 i0 36 (89, (n33 89))) (fun r34 =>
  me_lt (me_zc μ33 89 (n33 89)) (fun μ34 =>
  me_lt (me_np n34 90) (fun n35 =>
  me_lt (me_ru (me_rn r34 90 (n34 90)) 36 i0 37 (90, (n34 90))) (fun r35 =>
  me_lt (me_zc μ34 90 (n34 90)) (fun μ35 =>
  me_lt (me_np n35 91) (fun n36 =>
  me_lt (me_ru (me_rn r35 91 (n35 91)) 36 i0 38 (91, (n35 91))) (fun r36 =>
  me_lt (me_zc μ35 91 (n35 91)) (fun μ36 =>
  me_lt (me_np n36 92) (fun n37 =>
  me_lt (me_ru (me_rn r36 92 (n36 92)) 36 i0 39 (92, (n36 92))) (fun r37 =>
  me_lt (me_zc μ36 92 (n36 92)) (fun μ37 =>
  me_lt (((me_pG 83 84 (me_p1 84) 8) (n37, r37, μ37)).1) (fun n38 =>
  me_lt (me_ru (((me_pG 83 84 (me_p1 84) 8) (n37, r37, μ37)).2.1) 36 i0 40 (83, (n37 83))) (fun r38 =>
  me_lt (((me_pG 83 84 (me_p1 84) 8) (n37, r37, μ37)).2.2) (fun μ38 =>
  me_gP (me_Sn n38 r38 ∧ i0 = 0) (me_b2 (f_M_begins μ38) (fun μb _ => some (n38, r38, μb)))))))))))))))))))))))))))))))))))))))))))))))))))))))))))))))))))))))))))))))))))))))))))))))))))))))))))))))))))))
set_option maxHeartbeats 4000000 in
set_option maxRecDepth 100000 in
theorem k_M_init {a : Nat → Nat → Nat} {n : me_Nt} {r : me_Rt} {w : me_w} {μ : me_M} {i0 : Nat} {n' : me_Nt} {r' : me_Rt} {μ' : me_M} (hf : f_M_init i0 n r μ = some (n', r', μ')) : ∀ l E z, l.stackTraces = false → me_MetK l yX12_init cX12_init 1 4 80 778 6296 E a n r w μ z [me_r 36 i0] n' r' μ' := by
  intro l E z hl
  refine me_ofK hl (by decide +kernel) rfl (Nat.le_of_ble_eq_true rfl) (fun X C hroom hci K => ?_)
  unfold f_M_init at hf
  have ag := me_agr.rf (a := a) (n := n)
  refine me_aload_n C 0 (Or.inr (Or.inl ⟨_, rfl⟩)) dX12_init_0 rfl rfl ?_
  refine me_objI C hroom ml_M_1 oi_i oi_c dX12_init_1 ⟨by decide, by decide⟩ (Nat.le_of_ble_eq_true rfl) ?_
  refine me_aload_n C 0 (Or.inr (Or.inl ⟨_, rfl⟩)) dX12_init_4 rfl rfl ?_
  refine me_iconst C (v := 4) dX12_init_5 (by decide) ?_
  refine me_puti C 0 fw_M_7 dX12_init_6 rfl (me_nri _) rfl ?_
  obtain ⟨n1, e_n1, hf⟩ := me_lts hf
  obtain ⟨r1, e_r1, hf⟩ := me_lts hf
  obtain ⟨μ1, e_μ1, hf⟩ := me_lts hf
  refine me_nmK e_n1 e_r1 e_μ1 C ag (fun C ag => ?_)
  refine me_aload_n C 0 (Or.inr (Or.inl ⟨_, rfl⟩)) dX12_init_9 rfl rfl ?_
  refine me_iconst C (v := 4) dX12_init_10 (by decide) ?_
  refine me_puti C 1 fw_M_13 dX12_init_11 rfl (me_nri _) rfl ?_
  obtain ⟨n2, e_n2, hf⟩ := me_lts hf
  obtain ⟨r2, e_r2, hf⟩ := me_lts hf
  obtain ⟨μ2, e_μ2, hf⟩ := me_lts hf
  refine me_nmK e_n2 e_r2 e_μ2 C ag (fun C ag => ?_)
  refine me_aload_n C 0 (Or.inr (Or.inl ⟨_, rfl⟩)) dX12_init_14 rfl rfl ?_
  refine me_iconst C (v := 2) dX12_init_15 (by decide) ?_
  refine me_puti C 2 fw_M_16 dX12_init_16 rfl (me_nri _) rfl ?_
  obtain ⟨n3, e_n3, hf⟩ := me_lts hf
  obtain ⟨r3, e_r3, hf⟩ := me_lts hf
  obtain ⟨μ3, e_μ3, hf⟩ := me_lts hf
  refine me_nmK e_n3 e_r3 e_μ3 C ag (fun C ag => ?_)
  refine me_aload_n C 0 (Or.inr (Or.inl ⟨_, rfl⟩)) dX12_init_19 rfl rfl ?_
  refine me_bipush C (v := 120) dX12_init_20 (by decide) ?_
  refine me_puti C 3 fw_M_19 dX12_init_22 rfl (by decide +kernel) rfl ?_
  obtain ⟨n4, e_n4, hf⟩ := me_lts hf
  obtain ⟨r4, e_r4, hf⟩ := me_lts hf
  obtain ⟨μ4, e_μ4, hf⟩ := me_lts hf
  refine me_nmK e_n4 e_r4 e_μ4 C ag (fun C ag => ?_)
  refine me_aload_n C 0 (Or.inr (Or.inl ⟨_, rfl⟩)) dX12_init_25 rfl rfl ?_
  refine me_sipush C (v := 200) dX12_init_26 (by decide) ?_
  refine me_newI C hroom (at0 := .char) (k := 37) (ai := 2) (N := 200) (by decide) rfl ac_char (fun _ => rfl) rfl (by decide) (by decide) (by decide) dX12_init_29 ⟨by omega, by omega⟩ (fun a1 g1 C => ?_)
  replace ag := ag.tr g1
  refine me_putR C hci (j := 6) kc_36 (by decide) (me_gm 1561 (by decide +kernel) (by decide +kernel)) rfl rfl rfl rfl dX12_init_31 (fun C => ?_)
  obtain ⟨n5, e_n5, hf⟩ := me_lts hf
  obtain ⟨r5, e_r5, hf⟩ := me_lts hf
  obtain ⟨μ5, e_μ5, hf⟩ := me_lts hf
  refine me_nmK e_n5 e_r5 e_μ5 C ag (fun C ag => ?_)
  refine me_aload_n C 0 (Or.inr (Or.inl ⟨_, rfl⟩)) dX12_init_34 rfl rfl ?_
  refine me_sipush C (v := 200) dX12_init_35 (by decide) ?_
  refine me_newI C hroom (at0 := .char) (k := 38) (ai := 2) (N := 200) (by decide) rfl ac_char (fun _ => rfl) rfl (by decide) (by decide) (by decide) dX12_init_38 ⟨by omega, by omega⟩ (fun a2 g2 C => ?_)
  replace ag := ag.tr g2
  refine me_putR C hci (j := 7) kc_36 (by decide) (me_gm 1562 (by decide +kernel) (by decide +kernel)) rfl rfl rfl rfl dX12_init_40 (fun C => ?_)
  obtain ⟨n6, e_n6, hf⟩ := me_lts hf
  obtain ⟨r6, e_r6, hf⟩ := me_lts hf
  obtain ⟨μ6, e_μ6, hf⟩ := me_lts hf
  refine me_nmK e_n6 e_r6 e_μ6 C ag (fun C ag => ?_)
  refine me_aload_n C 0 (Or.inr (Or.inl ⟨_, rfl⟩)) dX12_init_43 rfl rfl ?_
  refine me_sipush C (v := 200) dX12_init_44 (by decide) ?_
  refine me_newI C hroom (at0 := .int) (k := 39) (ai := 0) (N := 200) (by decide) rfl ac_int (fun _ => rfl) rfl (by decide) (by decide) (by decide) dX12_init_47 ⟨by omega, by omega⟩ (fun a3 g3 C => ?_)
  replace ag := ag.tr g3
  refine me_putR C hci (j := 8) kc_36 (by decide) (me_gm 1563 (by decide +kernel) (by decide +kernel)) rfl rfl rfl rfl dX12_init_49 (fun C => ?_)
  obtain ⟨n7, e_n7, hf⟩ := me_lts hf
  obtain ⟨r7, e_r7, hf⟩ := me_lts hf
  obtain ⟨μ7, e_μ7, hf⟩ := me_lts hf
  refine me_nmK e_n7 e_r7 e_μ7 C ag (fun C ag => ?_)
  refine me_aload_n C 0 (Or.inr (Or.inl ⟨_, rfl⟩)) dX12_init_52 rfl rfl ?_
  refine me_sipush C (v := 200) dX12_init_53 (by decide) ?_
  refine me_newI C hroom (at0 := .int) (k := 40) (ai := 0) (N := 200) (by decide) rfl ac_int (fun _ => rfl) rfl (by decide) (by decide) (by decide) dX12_init_56 ⟨by omega, by omega⟩ (fun a4 g4 C => ?_)
  replace ag := ag.tr g4
  refine me_putR C hci (j := 9) kc_36 (by decide) (me_gm 1564 (by decide +kernel) (by decide +kernel)) rfl rfl rfl rfl dX12_init_58 (fun C => ?_)
  obtain ⟨n8, e_n8, hf⟩ := me_lts hf
  obtain ⟨r8, e_r8, hf⟩ := me_lts hf
  obtain ⟨μ8, e_μ8, hf⟩ := me_lts hf
  refine me_nmK e_n8 e_r8 e_μ8 C ag (fun C ag => ?_)
  refine me_aload_n C 0 (Or.inr (Or.inl ⟨_, rfl⟩)) dX12_init_61 rfl rfl ?_
  refine me_sipush C (v := 200) dX12_init_62 (by decide) ?_
  refine me_newI C hroom (at0 := .int) (k := 41) (ai := 0) (N := 200) (by decide) rfl ac_int (fun _ => rfl) rfl (by decide) (by decide) (by decide) dX12_init_65 ⟨by omega, by omega⟩ (fun a5 g5 C => ?_)
  replace ag := ag.tr g5
  refine me_putR C hci (j := 10) kc_36 (by decide) (me_gm 1565 (by decide +kernel) (by decide +kernel)) rfl rfl rfl rfl dX12_init_67 (fun C => ?_)
  obtain ⟨n9, e_n9, hf⟩ := me_lts hf
  obtain ⟨r9, e_r9, hf⟩ := me_lts hf
  obtain ⟨μ9, e_μ9, hf⟩ := me_lts hf
  refine me_nmK e_n9 e_r9 e_μ9 C ag (fun C ag => ?_)
  refine me_aload_n C 0 (Or.inr (Or.inl ⟨_, rfl⟩)) dX12_init_70 rfl rfl ?_
  refine me_sipush C (v := 200) dX12_init_71 (by decide) ?_
  refine me_newI C hroom (at0 := .int) (k := 42) (ai := 0) (N := 200) (by decide) rfl ac_int (fun _ => rfl) rfl (by decide) (by decide) (by decide) dX12_init_74 ⟨by omega, by omega⟩ (fun a6 g6 C => ?_)
  replace ag := ag.tr g6
  refine me_putR C hci (j := 11) kc_36 (by decide) (me_gm 1566 (by decide +kernel) (by decide +kernel)) rfl rfl rfl rfl dX12_init_76 (fun C => ?_)
  obtain ⟨n10, e_n10, hf⟩ := me_lts hf
  obtain ⟨r10, e_r10, hf⟩ := me_lts hf
  obtain ⟨μ10, e_μ10, hf⟩ := me_lts hf
  refine me_nmK e_n10 e_r10 e_μ10 C ag (fun C ag => ?_)
  refine me_aload_n C 0 (Or.inr (Or.inl ⟨_, rfl⟩)) dX12_init_79 rfl rfl ?_
  refine me_sipush C (v := 200) dX12_init_80 (by decide) ?_
  refine me_newI C hroom (at0 := .int) (k := 43) (ai := 0) (N := 200) (by decide) rfl ac_int (fun _ => rfl) rfl (by decide) (by decide) (by decide) dX12_init_83 ⟨by omega, by omega⟩ (fun a7 g7 C => ?_)
  replace ag := ag.tr g7
  refine me_putR C hci (j := 12) kc_36 (by decide) (me_gm 1567 (by decide +kernel) (by decide +kernel)) rfl rfl rfl rfl dX12_init_85 (fun C => ?_)
  obtain ⟨n11, e_n11, hf⟩ := me_lts hf
  obtain ⟨r11, e_r11, hf⟩ := me_lts hf
  obtain ⟨μ11, e_μ11, hf⟩ := me_lts hf
  refine me_nmK e_n11 e_r11 e_μ11 C ag (fun C ag => ?_)
  refine me_aload_n C 0 (Or.inr (Or.inl ⟨_, rfl⟩)) dX12_init_88 rfl rfl ?_
  refine me_sipush C (v := 200) dX12_init_89 (by decide) ?_
  refine me_newI C hroom (at0 := .int) (k := 44) (ai := 0) (N := 200) (by decide) rfl ac_int (fun _ => rfl) rfl (by decide) (by decide) (by decide) dX12_init_92 ⟨by omega, by omega⟩ (fun a8 g8 C => ?_)
  replace ag := ag.tr g8
  refine me_putR C hci (j := 13) kc_36 (by decide) (me_gm 1568 (by decide +kernel) (by decide +kernel)) rfl rfl rfl rfl dX12_init_94 (fun C => ?_)
  obtain ⟨n12, e_n12, hf⟩ := me_lts hf
  obtain ⟨r12, e_r12, hf⟩ := me_lts hf
  obtain ⟨μ12, e_μ12, hf⟩ := me_lts hf
  refine me_nmK e_n12 e_r12 e_μ12 C ag (fun C ag => ?_)
  refine me_aload_n C 0 (Or.inr (Or.inl ⟨_, rfl⟩)) dX12_init_97 rfl rfl ?_
  refine me_sipush C (v := 200) dX12_init_98 (by decide) ?_
  refine me_newI C hroom (at0 := .int) (k := 45) (ai := 0) (N := 200) (by decide) rfl ac_int (fun _ => rfl) rfl (by decide) (by decide) (by decide) dX12_init_101 ⟨by omega, by omega⟩ (fun a9 g9 C => ?_)
  replace ag := ag.tr g9
  refine me_putR C hci (j := 14) kc_36 (by decide) (me_gm 1569 (by decide +kernel) (by decide +kernel)) rfl rfl rfl rfl dX12_init_103 (fun C => ?_)
  obtain ⟨n13, e_n13, hf⟩ := me_lts hf
  obtain ⟨r13, e_r13, hf⟩ := me_lts hf
  obtain ⟨μ13, e_μ13, hf⟩ := me_lts hf
  refine me_nmK e_n13 e_r13 e_μ13 C ag (fun C ag => ?_)
  refine me_aload_n C 0 (Or.inr (Or.inl ⟨_, rfl⟩)) dX12_init_106 rfl rfl ?_
  refine me_sipush C (v := 200) dX12_init_107 (by decide) ?_
  refine me_newI C hroom (at0 := .int) (k := 46) (ai := 0) (N := 200) (by decide) rfl ac_int (fun _ => rfl) rfl (by decide) (by decide) (by decide) dX12_init_110 ⟨by omega, by omega⟩ (fun a10 g10 C => ?_)
  replace ag := ag.tr g10
  refine me_putR C hci (j := 15) kc_36 (by decide) (me_gm 1570 (by decide +kernel) (by decide +kernel)) rfl rfl rfl rfl dX12_init_112 (fun C => ?_)
  obtain ⟨n14, e_n14, hf⟩ := me_lts hf
  obtain ⟨r14, e_r14, hf⟩ := me_lts hf
  obtain ⟨μ14, e_μ14, hf⟩ := me_lts hf
  refine me_nmK e_n14 e_r14 e_μ14 C ag (fun C ag => ?_)
  refine me_aload_n C 0 (Or.inr (Or.inl ⟨_, rfl⟩)) dX12_init_115 rfl rfl ?_
  refine me_sipush C (v := 200) dX12_init_116 (by decide) ?_
  refine me_newI C hroom (at0 := .boolean) (k := 47) (ai := 1) (N := 200) (by decide) rfl ac_boolean (fun _ => rfl) rfl (by decide) (by decide) (by decide) dX12_init_119 ⟨by omega, by omega⟩ (fun a11 g11 C => ?_)
  replace ag := ag.tr g11
  refine me_putR C hci (j := 16) kc_36 (by decide) (me_gm 1571 (by decide +kernel) (by decide +kernel)) rfl rfl rfl rfl dX12_init_121 (fun C => ?_)
  obtain ⟨n15, e_n15, hf⟩ := me_lts hf
  obtain ⟨r15, e_r15, hf⟩ := me_lts hf
  obtain ⟨μ15, e_μ15, hf⟩ := me_lts hf
  refine me_nmK e_n15 e_r15 e_μ15 C ag (fun C ag => ?_)
  refine me_aload_n C 0 (Or.inr (Or.inl ⟨_, rfl⟩)) dX12_init_124 rfl rfl ?_
  refine me_sipush C (v := 200) dX12_init_125 (by decide) ?_
  refine me_newI C hroom (at0 := .int) (k := 48) (ai := 0) (N := 200) (by decide) rfl ac_int (fun _ => rfl) rfl (by decide) (by decide) (by decide) dX12_init_128 ⟨by omega, by omega⟩ (fun a12 g12 C => ?_)
  replace ag := ag.tr g12
  refine me_putR C hci (j := 17) kc_36 (by decide) (me_gm 1572 (by decide +kernel) (by decide +kernel)) rfl rfl rfl rfl dX12_init_130 (fun C => ?_)
  obtain ⟨n16, e_n16, hf⟩ := me_lts hf
  obtain ⟨r16, e_r16, hf⟩ := me_lts hf
  obtain ⟨μ16, e_μ16, hf⟩ := me_lts hf
  refine me_nmK e_n16 e_r16 e_μ16 C ag (fun C ag => ?_)
  refine me_aload_n C 0 (Or.inr (Or.inl ⟨_, rfl⟩)) dX12_init_133 rfl rfl ?_
  refine me_sipush C (v := 200) dX12_init_134 (by decide) ?_
  refine me_newI C hroom (at0 := .int) (k := 49) (ai := 0) (N := 200) (by decide) rfl ac_int (fun _ => rfl) rfl (by decide) (by decide) (by decide) dX12_init_137 ⟨by omega, by omega⟩ (fun a13 g13 C => ?_)
  replace ag := ag.tr g13
  refine me_putR C hci (j := 18) kc_36 (by decide) (me_gm 1573 (by decide +kernel) (by decide +kernel)) rfl rfl rfl rfl dX12_init_139 (fun C => ?_)
  obtain ⟨n17, e_n17, hf⟩ := me_lts hf
  obtain ⟨r17, e_r17, hf⟩ := me_lts hf
  obtain ⟨μ17, e_μ17, hf⟩ := me_lts hf
  refine me_nmK e_n17 e_r17 e_μ17 C ag (fun C ag => ?_)
  refine me_aload_n C 0 (Or.inr (Or.inl ⟨_, rfl⟩)) dX12_init_142 rfl rfl ?_
  refine me_bipush C (v := 16) dX12_init_143 (by decide) ?_
  refine me_iconst C (v := 2) dX12_init_145 (by decide) ?_
  refine me_iconst C (v := 5) dX12_init_146 (by decide) ?_
  refine me_iconst C (v := 4) dX12_init_147 (by decide) ?_
  refine me_multi4 C hroom (f := (me_pG 50 51 (me_pG 51 52 (me_pG 52 53 (me_p1 53) 5) 2) 16)) (fun Y hY => hY ▸ hci.ao) (by decide) cl_M_65 (fun _ => rfl) (by decide) (fun E => (me_GrF (c := E.2 11) (N := 16) ((me_GrF (c := E.2 10) (N := 2) ((me_GrF (c := E.2 9) (N := 5) (me_Gr1 (E.2 0) 4 (.int 0)))))))) (fun E => (me_MkWF (k0 := 50) (k1 := 51) (ai := 11) (N := 16) (by decide) (by decide) rfl ((me_GrF (c := E.2 10) (N := 2) ((me_GrF (c := E.2 9) (N := 5) (me_Gr1 (E.2 0) 4 (.int 0)))))) ((me_MkWF (k0 := 51) (k1 := 52) (ai := 10) (N := 2) (by decide) (by decide) rfl ((me_GrF (c := E.2 9) (N := 5) (me_Gr1 (E.2 0) 4 (.int 0)))) ((me_MkWF (k0 := 52) (k1 := 53) (ai := 9) (N := 5) (by decide) (by decide) rfl (me_Gr1 (E.2 0) 4 (.int 0)) (me_MkW1 (k := 53) (ai := 0) (N := 4) (by decide) rfl))))))) me_wp_i4 dX12_init_148 ⟨by omega, by omega⟩ (fun a14 g14 C => ?_)
  replace ag := ag.tr g14
  refine me_putR C hci (j := 20) kc_36 (by decide) (me_gm 1575 (by decide +kernel) (by decide +kernel)) rfl rfl rfl rfl dX12_init_152 (fun C => ?_)
  obtain ⟨n18, e_n18, hf⟩ := me_lts hf
  obtain ⟨r18, e_r18, hf⟩ := me_lts hf
  obtain ⟨μ18, e_μ18, hf⟩ := me_lts hf
  refine me_nmK e_n18 e_r18 e_μ18 C ag (fun C ag => ?_)
  refine me_aload_n C 0 (Or.inr (Or.inl ⟨_, rfl⟩)) dX12_init_155 rfl rfl ?_
  refine me_bipush C (v := 16) dX12_init_156 (by decide) ?_
  refine me_iconst C (v := 2) dX12_init_158 (by decide) ?_
  refine me_iconst C (v := 5) dX12_init_159 (by decide) ?_
  refine me_iconst C (v := 4) dX12_init_160 (by decide) ?_
  refine me_multi4 C hroom (f := (me_pG 54 55 (me_pG 55 56 (me_pG 56 57 (me_p1 57) 5) 2) 16)) (fun Y hY => hY ▸ hci.ao) (by decide) cl_M_65 (fun _ => rfl) (by decide) (fun E => (me_GrF (c := E.2 11) (N := 16) ((me_GrF (c := E.2 10) (N := 2) ((me_GrF (c := E.2 9) (N := 5) (me_Gr1 (E.2 0) 4 (.int 0)))))))) (fun E => (me_MkWF (k0 := 54) (k1 := 55) (ai := 11) (N := 16) (by decide) (by decide) rfl ((me_GrF (c := E.2 10) (N := 2) ((me_GrF (c := E.2 9) (N := 5) (me_Gr1 (E.2 0) 4 (.int 0)))))) ((me_MkWF (k0 := 55) (k1 := 56) (ai := 10) (N := 2) (by decide) (by decide) rfl ((me_GrF (c := E.2 9) (N := 5) (me_Gr1 (E.2 0) 4 (.int 0)))) ((me_MkWF (k0 := 56) (k1 := 57) (ai := 9) (N := 5) (by decide) (by decide) rfl (me_Gr1 (E.2 0) 4 (.int 0)) (me_MkW1 (k := 57) (ai := 0) (N := 4) (by decide) rfl))))))) me_wp_i4 dX12_init_161 ⟨by omega, by omega⟩ (fun a15 g15 C => ?_)
  replace ag := ag.tr g15
  refine me_putR C hci (j := 21) kc_36 (by decide) (me_gm 1576 (by decide +kernel) (by decide +kernel)) rfl rfl rfl rfl dX12_init_165 (fun C => ?_)
  obtain ⟨n19, e_n19, hf⟩ := me_lts hf
  obtain ⟨r19, e_r19, hf⟩ := me_lts hf
  obtain ⟨μ19, e_μ19, hf⟩ := me_lts hf
  refine me_nmK e_n19 e_r19 e_μ19 C ag (fun C ag => ?_)
  refine me_aload_n C 0 (Or.inr (Or.inl ⟨_, rfl⟩)) dX12_init_168 rfl rfl ?_
  refine me_bipush C (v := 16) dX12_init_169 (by decide) ?_
  refine me_iconst C (v := 2) dX12_init_171 (by decide) ?_
  refine me_iconst C (v := 5) dX12_init_172 (by decide) ?_
  refine me_multi3 C hroom (f := (me_pG 58 59 (me_pG 59 60 (me_p1 60) 2) 16)) (fun Y hY => hY ▸ hci.ao) (by decide) cl_M_73 (fun _ => rfl) (by decide) (fun E => (me_GrF (c := E.2 10) (N := 16) ((me_GrF (c := E.2 9) (N := 2) (me_Gr1 (E.2 0) 5 (.int 0)))))) (fun E => (me_MkWF (k0 := 58) (k1 := 59) (ai := 10) (N := 16) (by decide) (by decide) rfl ((me_GrF (c := E.2 9) (N := 2) (me_Gr1 (E.2 0) 5 (.int 0)))) ((me_MkWF (k0 := 59) (k1 := 60) (ai := 9) (N := 2) (by decide) (by decide) rfl (me_Gr1 (E.2 0) 5 (.int 0)) (me_MkW1 (k := 60) (ai := 0) (N := 5) (by decide) rfl))))) me_wp_i3 dX12_init_173 ⟨by omega, by omega⟩ (fun a16 g16 C => ?_)
  replace ag := ag.tr g16
  refine me_putR C hci (j := 22) kc_36 (by decide) (me_gm 1577 (by decide +kernel) (by decide +kernel)) rfl rfl rfl rfl dX12_init_177 (fun C => ?_)
  obtain ⟨n20, e_n20, hf⟩ := me_lts hf
  obtain ⟨r20, e_r20, hf⟩ := me_lts hf
  obtain ⟨μ20, e_μ20, hf⟩ := me_lts hf
  refine me_nmK e_n20 e_r20 e_μ20 C ag (fun C ag => ?_)
  refine me_aload_n C 0 (Or.inr (Or.inl ⟨_, rfl⟩)) dX12_init_180 rfl rfl ?_
  refine me_bipush C (v := 16) dX12_init_181 (by decide) ?_
  refine me_iconst C (v := 2) dX12_init_183 (by decide) ?_
  refine me_iconst C (v := 5) dX12_init_184 (by decide) ?_
  refine me_multi3 C hroom (f := (me_pG 61 62 (me_pG 62 63 (me_p1 63) 2) 16)) (fun Y hY => hY ▸ hci.ao) (by decide) cl_M_73 (fun _ => rfl) (by decide) (fun E => (me_GrF (c := E.2 10) (N := 16) ((me_GrF (c := E.2 9) (N := 2) (me_Gr1 (E.2 0) 5 (.int 0)))))) (fun E => (me_MkWF (k0 := 61) (k1 := 62) (ai := 10) (N := 16) (by decide) (by decide) rfl ((me_GrF (c := E.2 9) (N := 2) (me_Gr1 (E.2 0) 5 (.int 0)))) ((me_MkWF (k0 := 62) (k1 := 63) (ai := 9) (N := 2) (by decide) (by decide) rfl (me_Gr1 (E.2 0) 5 (.int 0)) (me_MkW1 (k := 63) (ai := 0) (N := 5) (by decide) rfl))))) me_wp_i3 dX12_init_185 ⟨by omega, by omega⟩ (fun a17 g17 C => ?_)
  replace ag := ag.tr g17
  refine me_putR C hci (j := 23) kc_36 (by decide) (me_gm 1578 (by decide +kernel) (by decide +kernel)) rfl rfl rfl rfl dX12_init_189 (fun C => ?_)
  obtain ⟨n21, e_n21, hf⟩ := me_lts hf
  obtain ⟨r21, e_r21, hf⟩ := me_lts hf
  obtain ⟨μ21, e_μ21, hf⟩ := me_lts hf
  refine me_nmK e_n21 e_r21 e_μ21 C ag (fun C ag => ?_)
  refine me_aload_n C 0 (Or.inr (Or.inl ⟨_, rfl⟩)) dX12_init_192 rfl rfl ?_
  refine me_bipush C (v := 16) dX12_init_193 (by decide) ?_
  refine me_iconst C (v := 2) dX12_init_195 (by decide) ?_
  refine me_iconst C (v := 5) dX12_init_196 (by decide) ?_
  refine me_multi3 C hroom (f := (me_pG 64 65 (me_pG 65 66 (me_p1 66) 2) 16)) (fun Y hY => hY ▸ hci.ao) (by decide) cl_M_73 (fun _ => rfl) (by decide) (fun E => (me_GrF (c := E.2 10) (N := 16) ((me_GrF (c := E.2 9) (N := 2) (me_Gr1 (E.2 0) 5 (.int 0)))))) (fun E => (me_MkWF (k0 := 64) (k1 := 65) (ai := 10) (N := 16) (by decide) (by decide) rfl ((me_GrF (c := E.2 9) (N := 2) (me_Gr1 (E.2 0) 5 (.int 0)))) ((me_MkWF (k0 := 65) (k1 := 66) (ai := 9) (N := 2) (by decide) (by decide) rfl (me_Gr1 (E.2 0) 5 (.int 0)) (me_MkW1 (k := 66) (ai := 0) (N := 5) (by decide) rfl))))) me_wp_i3 dX12_init_197 ⟨by omega, by omega⟩ (fun a18 g18 C => ?_)
  replace ag := ag.tr g18
  refine me_putR C hci (j := 24) kc_36 (by decide) (me_gm 1579 (by decide +kernel) (by decide +kernel)) rfl rfl rfl rfl dX12_init_201 (fun C => ?_)
  obtain ⟨n22, e_n22, hf⟩ := me_lts hf
  obtain ⟨r22, e_r22, hf⟩ := me_lts hf
  obtain ⟨μ22, e_μ22, hf⟩ := me_lts hf
  refine me_nmK e_n22 e_r22 e_μ22 C ag (fun C ag => ?_)
  refine me_aload_n C 0 (Or.inr (Or.inl ⟨_, rfl⟩)) dX12_init_204 rfl rfl ?_
  refine me_bipush C (v := 16) dX12_init_205 (by decide) ?_
  refine me_iconst C (v := 2) dX12_init_207 (by decide) ?_
  refine me_iconst C (v := 5) dX12_init_208 (by decide) ?_
  refine me_multi3 C hroom (f := (me_pG 67 68 (me_pG 68 69 (me_p1 69) 2) 16)) (fun Y hY => hY ▸ hci.ao) (by decide) cl_M_73 (fun _ => rfl) (by decide) (fun E => (me_GrF (c := E.2 10) (N := 16) ((me_GrF (c := E.2 9) (N := 2) (me_Gr1 (E.2 0) 5 (.int 0)))))) (fun E => (me_MkWF (k0 := 67) (k1 := 68) (ai := 10) (N := 16) (by decide) (by decide) rfl ((me_GrF (c := E.2 9) (N := 2) (me_Gr1 (E.2 0) 5 (.int 0)))) ((me_MkWF (k0 := 68) (k1 := 69) (ai := 9) (N := 2) (by decide) (by decide) rfl (me_Gr1 (E.2 0) 5 (.int 0)) (me_MkW1 (k := 69) (ai := 0) (N := 5) (by decide) rfl))))) me_wp_i3 dX12_init_209 ⟨by omega, by omega⟩ (fun a19 g19 C => ?_)
  replace ag := ag.tr g19
  refine me_putR C hci (j := 25) kc_36 (by decide) (me_gm 1580 (by decide +kernel) (by decide +kernel)) rfl rfl rfl rfl dX12_init_213 (fun C => ?_)
  obtain ⟨n23, e_n23, hf⟩ := me_lts hf
  obtain ⟨r23, e_r23, hf⟩ := me_lts hf
  obtain ⟨μ23, e_μ23, hf⟩ := me_lts hf
  refine me_nmK e_n23 e_r23 e_μ23 C ag (fun C ag => ?_)
  refine me_aload_n C 0 (Or.inr (Or.inl ⟨_, rfl⟩)) dX12_init_216 rfl rfl ?_
  refine me_bipush C (v := 16) dX12_init_217 (by decide) ?_
  refine me_iconst C (v := 2) dX12_init_219 (by decide) ?_
  refine me_iconst C (v := 5) dX12_init_220 (by decide) ?_
  refine me_multi3 C hroom (f := (me_pG 70 71 (me_pG 71 72 (me_p1 72) 2) 16)) (fun Y hY => hY ▸ hci.ao) (by decide) cl_M_73 (fun _ => rfl) (by decide) (fun E => (me_GrF (c := E.2 10) (N := 16) ((me_GrF (c := E.2 9) (N := 2) (me_Gr1 (E.2 0) 5 (.int 0)))))) (fun E => (me_MkWF (k0 := 70) (k1 := 71) (ai := 10) (N := 16) (by decide) (by decide) rfl ((me_GrF (c := E.2 9) (N := 2) (me_Gr1 (E.2 0) 5 (.int 0)))) ((me_MkWF (k0 := 71) (k1 := 72) (ai := 9) (N := 2) (by decide) (by decide) rfl (me_Gr1 (E.2 0) 5 (.int 0)) (me_MkW1 (k := 72) (ai := 0) (N := 5) (by decide) rfl))))) me_wp_i3 dX12_init_221 ⟨by omega, by omega⟩ (fun a20 g20 C => ?_)
  replace ag := ag.tr g20
  refine me_putR C hci (j := 26) kc_36 (by decide) (me_gm 1581 (by decide +kernel) (by decide +kernel)) rfl rfl rfl rfl dX12_init_225 (fun C => ?_)
  obtain ⟨n24, e_n24, hf⟩ := me_lts hf
  obtain ⟨r24, e_r24, hf⟩ := me_lts hf
  obtain ⟨μ24, e_μ24, hf⟩ := me_lts hf
  refine me_nmK e_n24 e_r24 e_μ24 C ag (fun C ag => ?_)
  refine me_aload_n C 0 (Or.inr (Or.inl ⟨_, rfl⟩)) dX12_init_228 rfl rfl ?_
  refine me_bipush C (v := 16) dX12_init_229 (by decide) ?_
  refine me_iconst C (v := 5) dX12_init_231 (by decide) ?_
  refine me_multi2 C hroom (f := (me_pG 73 74 (me_p1 74) 16)) (fun Y hY => hY ▸ hci.ao) (by decide) cl_M_90 (fun _ => rfl) (by decide) (fun E => (me_GrF (c := E.2 12) (N := 16) (me_Gr1 (E.2 1) 5 (.int 0)))) (fun E => (me_MkWF (k0 := 73) (k1 := 74) (ai := 12) (N := 16) (by decide) (by decide) rfl (me_Gr1 (E.2 1) 5 (.int 0)) (me_MkW1 (k := 74) (ai := 1) (N := 5) (by decide) rfl))) me_wp_z2 dX12_init_232 ⟨by omega, by omega⟩ (fun a21 g21 C => ?_)
  replace ag := ag.tr g21
  refine me_putR C hci (j := 27) kc_36 (by decide) (me_gm 1582 (by decide +kernel) (by decide +kernel)) rfl rfl rfl rfl dX12_init_236 (fun C => ?_)
  obtain ⟨n25, e_n25, hf⟩ := me_lts hf
  obtain ⟨r25, e_r25, hf⟩ := me_lts hf
  obtain ⟨μ25, e_μ25, hf⟩ := me_lts hf
  refine me_nmK e_n25 e_r25 e_μ25 C ag (fun C ag => ?_)
  refine me_aload_n C 0 (Or.inr (Or.inl ⟨_, rfl⟩)) dX12_init_239 rfl rfl ?_
  refine me_bipush C (v := 16) dX12_init_240 (by decide) ?_
  refine me_newI C hroom (at0 := .boolean) (k := 85) (ai := 1) (N := 16) (by decide) rfl ac_boolean (fun _ => rfl) rfl (by decide) (by decide) (by decide) dX12_init_242 ⟨by omega, by omega⟩ (fun a22 g22 C => ?_)
  replace ag := ag.tr g22
  refine me_putR C hci (j := 28) kc_36 (by decide) (me_gm 1583 (by decide +kernel) (by decide +kernel)) rfl rfl rfl rfl dX12_init_244 (fun C => ?_)
  obtain ⟨n26, e_n26, hf⟩ := me_lts hf
  obtain ⟨r26, e_r26, hf⟩ := me_lts hf
  obtain ⟨μ26, e_μ26, hf⟩ := me_lts hf
  refine me_nmK e_n26 e_r26 e_μ26 C ag (fun C ag => ?_)
  refine me_aload_n C 0 (Or.inr (Or.inl ⟨_, rfl⟩)) dX12_init_247 rfl rfl ?_
  refine me_bipush C (v := 16) dX12_init_248 (by decide) ?_
  refine me_newI C hroom (at0 := .boolean) (k := 86) (ai := 1) (N := 16) (by decide) rfl ac_boolean (fun _ => rfl) rfl (by decide) (by decide) (by decide) dX12_init_250 ⟨by omega, by omega⟩ (fun a23 g23 C => ?_)
  replace ag := ag.tr g23
  refine me_putR C hci (j := 29) kc_36 (by decide) (me_gm 1584 (by decide +kernel) (by decide +kernel)) rfl rfl rfl rfl dX12_init_252 (fun C => ?_)
  obtain ⟨n27, e_n27, hf⟩ := me_lts hf
  obtain ⟨r27, e_r27, hf⟩ := me_lts hf
  obtain ⟨μ27, e_μ27, hf⟩ := me_lts hf
  refine me_nmK e_n27 e_r27 e_μ27 C ag (fun C ag => ?_)
  refine me_aload_n C 0 (Or.inr (Or.inl ⟨_, rfl⟩)) dX12_init_255 rfl rfl ?_
  refine me_bipush C (v := 16) dX12_init_256 (by decide) ?_
  refine me_bipush C (v := 8) dX12_init_258 (by decide) ?_
  refine me_multi2 C hroom (f := (me_pG 75 76 (me_p1 76) 16)) (fun Y hY => hY ▸ hci.ao) (by decide) cl_M_101 (fun _ => rfl) (by decide) (fun E => (me_GrF (c := E.2 9) (N := 16) (me_Gr1 (E.2 0) 8 (.int 0)))) (fun E => (me_MkWF (k0 := 75) (k1 := 76) (ai := 9) (N := 16) (by decide) (by decide) rfl (me_Gr1 (E.2 0) 8 (.int 0)) (me_MkW1 (k := 76) (ai := 0) (N := 8) (by decide) rfl))) me_wp_i28 dX12_init_260 ⟨by omega, by omega⟩ (fun a24 g24 C => ?_)
  replace ag := ag.tr g24
  refine me_putR C hci (j := 30) kc_36 (by decide) (me_gm 1585 (by decide +kernel) (by decide +kernel)) rfl rfl rfl rfl dX12_init_264 (fun C => ?_)
  obtain ⟨n28, e_n28, hf⟩ := me_lts hf
  obtain ⟨r28, e_r28, hf⟩ := me_lts hf
  obtain ⟨μ28, e_μ28, hf⟩ := me_lts hf
  refine me_nmK e_n28 e_r28 e_μ28 C ag (fun C ag => ?_)
  refine me_aload_n C 0 (Or.inr (Or.inl ⟨_, rfl⟩)) dX12_init_267 rfl rfl ?_
  refine me_bipush C (v := 16) dX12_init_268 (by decide) ?_
  refine me_bipush C (v := 6) dX12_init_270 (by decide) ?_
  refine me_multi2 C hroom (f := (me_pG 77 78 (me_p1 78) 16)) (fun Y hY => hY ▸ hci.ao) (by decide) cl_M_101 (fun _ => rfl) (by decide) (fun E => (me_GrF (c := E.2 9) (N := 16) (me_Gr1 (E.2 0) 6 (.int 0)))) (fun E => (me_MkWF (k0 := 77) (k1 := 78) (ai := 9) (N := 16) (by decide) (by decide) rfl (me_Gr1 (E.2 0) 6 (.int 0)) (me_MkW1 (k := 78) (ai := 0) (N := 6) (by decide) rfl))) me_wp_i26 dX12_init_272 ⟨by omega, by omega⟩ (fun a25 g25 C => ?_)
  replace ag := ag.tr g25
  refine me_putR C hci (j := 31) kc_36 (by decide) (me_gm 1586 (by decide +kernel) (by decide +kernel)) rfl rfl rfl rfl dX12_init_276 (fun C => ?_)
  obtain ⟨n29, e_n29, hf⟩ := me_lts hf
  obtain ⟨r29, e_r29, hf⟩ := me_lts hf
  obtain ⟨μ29, e_μ29, hf⟩ := me_lts hf
  refine me_nmK e_n29 e_r29 e_μ29 C ag (fun C ag => ?_)
  refine me_aload_n C 0 (Or.inr (Or.inl ⟨_, rfl⟩)) dX12_init_279 rfl rfl ?_
  refine me_bipush C (v := 16) dX12_init_280 (by decide) ?_
  refine me_newI C hroom (at0 := .int) (k := 87) (ai := 0) (N := 16) (by decide) rfl ac_int (fun _ => rfl) rfl (by decide) (by decide) (by decide) dX12_init_282 ⟨by omega, by omega⟩ (fun a26 g26 C => ?_)
  replace ag := ag.tr g26
  refine me_putR C hci (j := 32) kc_36 (by decide) (me_gm 1587 (by decide +kernel) (by decide +kernel)) rfl rfl rfl rfl dX12_init_284 (fun C => ?_)
  obtain ⟨n30, e_n30, hf⟩ := me_lts hf
  obtain ⟨r30, e_r30, hf⟩ := me_lts hf
  obtain ⟨μ30, e_μ30, hf⟩ := me_lts hf
  refine me_nmK e_n30 e_r30 e_μ30 C ag (fun C ag => ?_)
  refine me_aload_n C 0 (Or.inr (Or.inl ⟨_, rfl⟩)) dX12_init_287 rfl rfl ?_
  refine me_bipush C (v := 16) dX12_init_288 (by decide) ?_
  refine me_bipush C (v := 12) dX12_init_290 (by decide) ?_
  refine me_multi2 C hroom (f := (me_pG 79 80 (me_p1 80) 16)) (fun Y hY => hY ▸ hci.ao) (by decide) cl_M_112 (fun _ => rfl) (by decide) (fun E => (me_GrF (c := E.2 13) (N := 16) (me_Gr1 (E.2 2) 12 (.int 0)))) (fun E => (me_MkWF (k0 := 79) (k1 := 80) (ai := 13) (N := 16) (by decide) (by decide) rfl (me_Gr1 (E.2 2) 12 (.int 0)) (me_MkW1 (k := 80) (ai := 2) (N := 12) (by decide) rfl))) me_wp_c2 dX12_init_292 ⟨by omega, by omega⟩ (fun a27 g27 C => ?_)
  replace ag := ag.tr g27
  refine me_putR C hci (j := 33) kc_36 (by decide) (me_gm 1588 (by decide +kernel) (by decide +kernel)) rfl rfl rfl rfl dX12_init_296 (fun C => ?_)
  obtain ⟨n31, e_n31, hf⟩ := me_lts hf
  obtain ⟨r31, e_r31, hf⟩ := me_lts hf
  obtain ⟨μ31, e_μ31, hf⟩ := me_lts hf
  refine me_nmK e_n31 e_r31 e_μ31 C ag (fun C ag => ?_)
  refine me_aload_n C 0 (Or.inr (Or.inl ⟨_, rfl⟩)) dX12_init_299 rfl rfl ?_
  refine me_bipush C (v := 16) dX12_init_300 (by decide) ?_
  refine me_bipush C (v := 12) dX12_init_302 (by decide) ?_
  refine me_multi2 C hroom (f := (me_pG 81 82 (me_p1 82) 16)) (fun Y hY => hY ▸ hci.ao) (by decide) cl_M_101 (fun _ => rfl) (by decide) (fun E => (me_GrF (c := E.2 9) (N := 16) (me_Gr1 (E.2 0) 12 (.int 0)))) (fun E => (me_MkWF (k0 := 81) (k1 := 82) (ai := 9) (N := 16) (by decide) (by decide) rfl (me_Gr1 (E.2 0) 12 (.int 0)) (me_MkW1 (k := 82) (ai := 0) (N := 12) (by decide) rfl))) me_wp_i2c dX12_init_304 ⟨by omega, by omega⟩ (fun a28 g28 C => ?_)
  replace ag := ag.tr g28
  refine me_putR C hci (j := 34) kc_36 (by decide) (me_gm 1589 (by decide +kernel) (by decide +kernel)) rfl rfl rfl rfl dX12_init_308 (fun C => ?_)
  obtain ⟨n32, e_n32, hf⟩ := me_lts hf
  obtain ⟨r32, e_r32, hf⟩ := me_lts hf
  obtain ⟨μ32, e_μ32, hf⟩ := me_lts hf
  refine me_nmK e_n32 e_r32 e_μ32 C ag (fun C ag => ?_)
  refine me_aload_n C 0 (Or.inr (Or.inl ⟨_, rfl⟩)) dX12_init_311 rfl rfl ?_
  refine me_bipush C (v := 16) dX12_init_312 (by decide) ?_
  refine me_newI C hroom (at0 := .int) (k := 88) (ai := 0) (N := 16) (by decide) rfl ac_int (fun _ => rfl) rfl (by decide) (by decide) (by decide) dX12_init_314 ⟨by omega, by omega⟩ (fun a29 g29 C => ?_)
  replace ag := ag.tr g29
  refine me_putR C hci (j := 35) kc_36 (by decide) (me_gm 1590 (by decide +kernel) (by decide +kernel)) rfl rfl rfl rfl dX12_init_316 (fun C => ?_)
  obtain ⟨n33, e_n33, hf⟩ := me_lts hf
  obtain ⟨r33, e_r33, hf⟩ := me_lts hf
  obtain ⟨μ33, e_μ33, hf⟩ := me_lts hf
  refine me_nmK e_n33 e_r33 e_μ33 C ag (fun C ag => ?_)
  refine me_aload_n C 0 (Or.inr (Or.inl ⟨_, rfl⟩)) dX12_init_319 rfl rfl ?_
  refine me_bipush C (v := 16) dX12_init_320 (by decide) ?_
  refine me_newI C hroom (at0 := .char) (k := 89) (ai := 2) (N := 16) (by decide) rfl ac_char (fun _ => rfl) rfl (by decide) (by decide) (by decide) dX12_init_322 ⟨by omega, by omega⟩ (fun a30 g30 C => ?_)
  replace ag := ag.tr g30
  refine me_putR C hci (j := 36) kc_36 (by decide) (me_gm 1591 (by decide +kernel) (by decide +kernel)) rfl rfl rfl rfl dX12_init_324 (fun C => ?_)
  obtain ⟨n34, e_n34, hf⟩ := me_lts hf
  obtain ⟨r34, e_r34, hf⟩ := me_lts hf
  obtain ⟨μ34, e_μ34, hf⟩ := me_lts hf
  refine me_nmK e_n34 e_r34 e_μ34 C ag (fun C ag => ?_)
  refine me_aload_n C 0 (Or.inr (Or.inl ⟨_, rfl⟩)) dX12_init_327 rfl rfl ?_
  refine me_bipush C (v := 16) dX12_init_328 (by decide) ?_
  refine me_newI C hroom (at0 := .char) (k := 90) (ai := 2) (N := 16) (by decide) rfl ac_char (fun _ => rfl) rfl (by decide) (by decide) (by decide) dX12_init_330 ⟨by omega, by omega⟩ (fun a31 g31 C => ?_)
  replace ag := ag.tr g31
  refine me_putR C hci (j := 37) kc_36 (by decide) (me_gm 1592 (by decide +kernel) (by decide +kernel)) rfl rfl rfl rfl dX12_init_332 (fun C => ?_)
  obtain ⟨n35, e_n35, hf⟩ := me_lts hf
  obtain ⟨r35, e_r35, hf⟩ := me_lts hf
  obtain ⟨μ35, e_μ35, hf⟩ := me_lts hf
  refine me_nmK e_n35 e_r35 e_μ35 C ag (fun C ag => ?_)
  refine me_aload_n C 0 (Or.inr (Or.inl ⟨_, rfl⟩)) dX12_init_335 rfl rfl ?_
  refine me_bipush C (v := 16) dX12_init_336 (by decide) ?_
  refine me_newI C hroom (at0 := .int) (k := 91) (ai := 0) (N := 16) (by decide) rfl ac_int (fun _ => rfl) rfl (by decide) (by decide) (by decide) dX12_init_338 ⟨by omega, by omega⟩ (fun a32 g32 C => ?_)
  replace ag := ag.tr g32
  refine me_putR C hci (j := 38) kc_36 (by decide) (me_gm 1593 (by decide +kernel) (by decide +kernel)) rfl rfl rfl rfl dX12_init_340 (fun C => ?_)
  obtain ⟨n36, e_n36, hf⟩ := me_lts hf
  obtain ⟨r36, e_r36, hf⟩ := me_lts hf
  obtain ⟨μ36, e_μ36, hf⟩ := me_lts hf
  refine me_nmK e_n36 e_r36 e_μ36 C ag (fun C ag => ?_)
  refine me_aload_n C 0 (Or.inr (Or.inl ⟨_, rfl⟩)) dX12_init_343 rfl rfl ?_
  refine me_bipush C (v := 8) dX12_init_344 (by decide) ?_
  refine me_newI C hroom (at0 := .int) (k := 92) (ai := 0) (N := 8) (by decide) rfl ac_int (fun _ => rfl) rfl (by decide) (by decide) (by decide) dX12_init_346 ⟨by omega, by omega⟩ (fun a33 g33 C => ?_)
  replace ag := ag.tr g33
  refine me_putR C hci (j := 39) kc_36 (by decide) (me_gm 1594 (by decide +kernel) (by decide +kernel)) rfl rfl rfl rfl dX12_init_348 (fun C => ?_)
  obtain ⟨n37, e_n37, hf⟩ := me_lts hf
  obtain ⟨r37, e_r37, hf⟩ := me_lts hf
  obtain ⟨μ37, e_μ37, hf⟩ := me_lts hf
  refine me_nmK e_n37 e_r37 e_μ37 C ag (fun C ag => ?_)
  refine me_aload_n C 0 (Or.inr (Or.inl ⟨_, rfl⟩)) dX12_init_351 rfl rfl ?_
  refine me_bipush C (v := 8) dX12_init_352 (by decide) ?_
  refine me_bipush C (v := 8) dX12_init_354 (by decide) ?_
  refine me_multi2 C hroom (f := (me_pG 83 84 (me_p1 84) 8)) (fun Y hY => hY ▸ hci.ao) (by decide) cl_M_101 (fun _ => rfl) (by decide) (fun E => (me_GrF (c := E.2 9) (N := 8) (me_Gr1 (E.2 0) 8 (.int 0)))) (fun E => (me_MkWF (k0 := 83) (k1 := 84) (ai := 9) (N := 8) (by decide) (by decide) rfl (me_Gr1 (E.2 0) 8 (.int 0)) (me_MkW1 (k := 84) (ai := 0) (N := 8) (by decide) rfl))) me_wp_i88 dX12_init_356 ⟨by omega, by omega⟩ (fun a34 g34 C => ?_)
  replace ag := ag.tr g34
  refine me_putR C hci (j := 40) kc_36 (by decide) (me_gm 1595 (by decide +kernel) (by decide +kernel)) rfl rfl rfl rfl dX12_init_360 (fun C => ?_)
  obtain ⟨n38, e_n38, hf⟩ := me_lts hf
  obtain ⟨r38, e_r38, hf⟩ := me_lts hf
  obtain ⟨μ38, e_μ38, hf⟩ := me_lts hf
  refine me_nmK e_n38 e_r38 e_μ38 C ag (fun C ag => ?_)
  refine me_aload_n C 0 (Or.inr (Or.inl ⟨_, rfl⟩)) dX12_init_363 rfl rfl ?_
  obtain ⟨⟨hSn, hi0⟩, hf2⟩ := me_gPs hf
  clear hf
  subst hi0
  obtain ⟨μB, rB, hmk, hf3⟩ := me_bs2 hf2
  cases hf3
  refine me_callVR0 C hroom (As := []) (st := []) 778 6296 (c_M_begins (B := (_, n', r', w)) hSn hmk) mv_M_begins ml_M_138 rfl rfl dX12_init_364 rfl rfl ⟨by decide, by decide⟩ ⟨by omega, by omega, by omega, by omega⟩ (Nat.le_of_ble_eq_true rfl) ?_
  exact me_vretK C K ag dX12_init_367 (by omega) (by omega)
