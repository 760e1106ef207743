/-! THE LAW: cases 0 to 10 (printed by gen/lawmain.py) -/
theorem ml_L_148 : Cond.methodLink RL 148 yL_send ∈ me_gw := (me_gm 721 (by decide +kernel) (by decide +kernel))
theorem mh_L_send : Cond.codeWith yL_send cL_send 7 (some .int) [(0, 14, 17, 13), (0, 14, 21, 15), (0, 14, 25, 17)] ∈ me_gw := (me_gm 723 (by decide +kernel) (by decide +kernel))
theorem si_L_send : Cond.static yL_send ∈ me_gw := (me_gm 722 (by decide +kernel) (by decide +kernel))
theorem iL : Cond.initialized "MeshyardLaw" ∈ me_gw := (me_gm 75 (by decide +kernel) (by decide +kernel))
theorem ml_L_153 : Cond.methodLink RL 153 yX12_send ∈ me_gw := (me_gm 1704 (by decide +kernel) (by decide +kernel))
theorem mv_M_send : me_MV yX12_send cX12_send 5 (some .int) 4 := ⟨(me_gm 1707 (by decide +kernel) (by decide +kernel)), (me_gm 88 (by decide +kernel) (by decide +kernel)), ⟨by decide +kernel, by decide +kernel⟩, by decide +kernel, (me_gm 1705 (by decide +kernel) (by decide +kernel)), (me_gm 1706 (by decide +kernel) (by decide +kernel))⟩
theorem ml_L_154 : Cond.methodLink RL 154 yX12_thrown ∈ me_gw := (me_gm 1685 (by decide +kernel) (by decide +kernel))
theorem mv_M_thrown : me_MV yX12_thrown cX12_thrown 1 (some .int) 0 := ⟨(me_gm 1688 (by decide +kernel) (by decide +kernel)), (me_gm 88 (by decide +kernel) (by decide +kernel)), ⟨by decide +kernel, by decide +kernel⟩, by decide +kernel, (me_gm 1686 (by decide +kernel) (by decide +kernel)), (me_gm 1687 (by decide +kernel) (by decide +kernel))⟩
theorem ml_L_157 : Cond.methodLink RL 157 yL_multicast ∈ me_gw := (me_gm 858 (by decide +kernel) (by decide +kernel))
theorem mh_L_multicast : Cond.codeWith yL_multicast cL_multicast 6 (some .int) [(0, 12, 15, 13), (0, 12, 19, 15), (0, 12, 23, 17)] ∈ me_gw := (me_gm 860 (by decide +kernel) (by decide +kernel))
theorem si_L_multicast : Cond.static yL_multicast ∈ me_gw := (me_gm 859 (by decide +kernel) (by decide +kernel))
theorem ml_L_160 : Cond.methodLink RL 160 yX12_multicast ∈ me_gw := (me_gm 1720 (by decide +kernel) (by decide +kernel))
theorem mv_M_multicast : me_MV yX12_multicast cX12_multicast 6 (some .int) 3 := ⟨(me_gm 1723 (by decide +kernel) (by decide +kernel)), (me_gm 88 (by decide +kernel) (by decide +kernel)), ⟨by decide +kernel, by decide +kernel⟩, by decide +kernel, (me_gm 1721 (by decide +kernel) (by decide +kernel)), (me_gm 1722 (by decide +kernel) (by decide +kernel))⟩
theorem ml_L_161 : Cond.methodLink RL 161 yL_ask ∈ me_gw := (me_gm 867 (by decide +kernel) (by decide +kernel))
theorem mh_L_ask : Cond.codeWith yL_ask cL_ask 8 (some .int) [(0, 16, 19, 13), (0, 16, 23, 15), (0, 16, 27, 17)] ∈ me_gw := (me_gm 869 (by decide +kernel) (by decide +kernel))
theorem si_L_ask : Cond.static yL_ask ∈ me_gw := (me_gm 868 (by decide +kernel) (by decide +kernel))
theorem ml_L_164 : Cond.methodLink RL 164 yX12_ask ∈ me_gw := (me_gm 1725 (by decide +kernel) (by decide +kernel))
theorem mv_M_ask : me_MV yX12_ask cX12_ask 7 (some .int) 5 := ⟨(me_gm 1728 (by decide +kernel) (by decide +kernel)), (me_gm 88 (by decide +kernel) (by decide +kernel)), ⟨by decide +kernel, by decide +kernel⟩, by decide +kernel, (me_gm 1726 (by decide +kernel) (by decide +kernel)), (me_gm 1727 (by decide +kernel) (by decide +kernel))⟩
theorem ml_L_165 : Cond.methodLink RL 165 yL_answer ∈ me_gw := (me_gm 878 (by decide +kernel) (by decide +kernel))
theorem mh_L_answer : Cond.codeWith yL_answer cL_answer 4 (some .int) [(0, 9, 12, 13), (0, 9, 15, 15), (0, 9, 18, 31)] ∈ me_gw := (me_gm 880 (by decide +kernel) (by decide +kernel))
theorem si_L_answer : Cond.static yL_answer ∈ me_gw := (me_gm 879 (by decide +kernel) (by decide +kernel))
theorem ml_L_168 : Cond.methodLink RL 168 yX12_answer ∈ me_gw := (me_gm 1729 (by decide +kernel) (by decide +kernel))
theorem mv_M_answer : me_MV yX12_answer cX12_answer 2 (some .int) 1 := ⟨(me_gm 1732 (by decide +kernel) (by decide +kernel)), (me_gm 88 (by decide +kernel) (by decide +kernel)), ⟨by decide +kernel, by decide +kernel⟩, by decide +kernel, (me_gm 1730 (by decide +kernel) (by decide +kernel)), (me_gm 1731 (by decide +kernel) (by decide +kernel))⟩
theorem ml_L_169 : Cond.methodLink RL 169 yL_kind ∈ me_gw := (me_gm 908 (by decide +kernel) (by decide +kernel))
theorem mh_L_kind : Cond.codeWith yL_kind cL_kind 4 (some .int) [(0, 9, 12, 13)] ∈ me_gw := (me_gm 910 (by decide +kernel) (by decide +kernel))
theorem si_L_kind : Cond.static yL_kind ∈ me_gw := (me_gm 909 (by decide +kernel) (by decide +kernel))
theorem ml_L_171 : Cond.methodLink RL 171 yX12_kind ∈ me_gw := (me_gm 1737 (by decide +kernel) (by decide +kernel))
theorem mv_M_kind : me_MV yX12_kind cX12_kind 2 (some .char) 1 := ⟨(me_gm 1740 (by decide +kernel) (by decide +kernel)), (me_gm 88 (by decide +kernel) (by decide +kernel)), ⟨by decide +kernel, by decide +kernel⟩, by decide +kernel, (me_gm 1738 (by decide +kernel) (by decide +kernel)), (me_gm 1739 (by decide +kernel) (by decide +kernel))⟩
theorem ml_L_172 : Cond.methodLink RL 172 yL_state ∈ me_gw := (me_gm 915 (by decide +kernel) (by decide +kernel))
theorem mh_L_state : Cond.codeWith yL_state cL_state 4 (some .int) [(0, 9, 12, 13)] ∈ me_gw := (me_gm 917 (by decide +kernel) (by decide +kernel))
theorem si_L_state : Cond.static yL_state ∈ me_gw := (me_gm 916 (by decide +kernel) (by decide +kernel))
theorem ml_L_174 : Cond.methodLink RL 174 yX12_state ∈ me_gw := (me_gm 1741 (by decide +kernel) (by decide +kernel))
theorem mv_M_state : me_MV yX12_state cX12_state 2 (some .char) 1 := ⟨(me_gm 1744 (by decide +kernel) (by decide +kernel)), (me_gm 88 (by decide +kernel) (by decide +kernel)), ⟨by decide +kernel, by decide +kernel⟩, by decide +kernel, (me_gm 1742 (by decide +kernel) (by decide +kernel)), (me_gm 1743 (by decide +kernel) (by decide +kernel))⟩
theorem ml_L_175 : Cond.methodLink RL 175 yL_word ∈ me_gw := (me_gm 922 (by decide +kernel) (by decide +kernel))
theorem mh_L_word : Cond.codeWith yL_word cL_word 4 (some .int) [(0, 9, 12, 13)] ∈ me_gw := (me_gm 924 (by decide +kernel) (by decide +kernel))
theorem si_L_word : Cond.static yL_word ∈ me_gw := (me_gm 923 (by decide +kernel) (by decide +kernel))
theorem ml_L_177 : Cond.methodLink RL 177 yX12_word ∈ me_gw := (me_gm 1745 (by decide +kernel) (by decide +kernel))
theorem mv_M_word : me_MV yX12_word cX12_word 2 (some .int) 1 := ⟨(me_gm 1748 (by decide +kernel) (by decide +kernel)), (me_gm 88 (by decide +kernel) (by decide +kernel)), ⟨by decide +kernel, by decide +kernel⟩, by decide +kernel, (me_gm 1746 (by decide +kernel) (by decide +kernel)), (me_gm 1747 (by decide +kernel) (by decide +kernel))⟩
theorem ml_L_178 : Cond.methodLink RL 178 yL_head ∈ me_gw := (me_gm 929 (by decide +kernel) (by decide +kernel))
theorem mh_L_head : Cond.codeWith yL_head cL_head 4 (some .int) [(0, 9, 12, 13), (0, 9, 15, 31)] ∈ me_gw := (me_gm 931 (by decide +kernel) (by decide +kernel))
theorem si_L_head : Cond.static yL_head ∈ me_gw := (me_gm 930 (by decide +kernel) (by decide +kernel))
theorem ml_L_180 : Cond.methodLink RL 180 yX12_head ∈ me_gw := (me_gm 1749 (by decide +kernel) (by decide +kernel))
theorem mv_M_head : me_MV yX12_head cX12_head 4 (some .int) 1 := ⟨(me_gm 1752 (by decide +kernel) (by decide +kernel)), (me_gm 88 (by decide +kernel) (by decide +kernel)), ⟨by decide +kernel, by decide +kernel⟩, by decide +kernel, (me_gm 1750 (by decide +kernel) (by decide +kernel)), (me_gm 1751 (by decide +kernel) (by decide +kernel))⟩
theorem ml_L_181 : Cond.methodLink RL 181 yL_pieces ∈ me_gw := (me_gm 937 (by decide +kernel) (by decide +kernel))
theorem mh_L_pieces : Cond.codeWith yL_pieces cL_pieces 4 (some .int) [(0, 9, 12, 13)] ∈ me_gw := (me_gm 939 (by decide +kernel) (by decide +kernel))
theorem si_L_pieces : Cond.static yL_pieces ∈ me_gw := (me_gm 938 (by decide +kernel) (by decide +kernel))
theorem ml_L_183 : Cond.methodLink RL 183 yX12_pieces ∈ me_gw := (me_gm 1757 (by decide +kernel) (by decide +kernel))
theorem mv_M_pieces : me_MV yX12_pieces cX12_pieces 4 (some .int) 1 := ⟨(me_gm 1760 (by decide +kernel) (by decide +kernel)), (me_gm 88 (by decide +kernel) (by decide +kernel)), ⟨by decide +kernel, by decide +kernel⟩, by decide +kernel, (me_gm 1758 (by decide +kernel) (by decide +kernel)), (me_gm 1759 (by decide +kernel) (by decide +kernel))⟩
theorem ml_L_184 : Cond.methodLink RL 184 yL_time ∈ me_gw := (me_gm 948 (by decide +kernel) (by decide +kernel))
theorem mh_L_time : Cond.codeWith yL_time cL_time 4 (some .int) [(0, 9, 12, 13), (0, 9, 15, 31)] ∈ me_gw := (me_gm 950 (by decide +kernel) (by decide +kernel))
theorem si_L_time : Cond.static yL_time ∈ me_gw := (me_gm 949 (by decide +kernel) (by decide +kernel))
theorem ml_L_186 : Cond.methodLink RL 186 yX12_time ∈ me_gw := (me_gm 1761 (by decide +kernel) (by decide +kernel))
theorem mv_M_time : me_MV yX12_time cX12_time 2 (some .int) 1 := ⟨(me_gm 1764 (by decide +kernel) (by decide +kernel)), (me_gm 88 (by decide +kernel) (by decide +kernel)), ⟨by decide +kernel, by decide +kernel⟩, by decide +kernel, (me_gm 1762 (by decide +kernel) (by decide +kernel)), (me_gm 1763 (by decide +kernel) (by decide +kernel))⟩
theorem ml_L_187 : Cond.methodLink RL 187 yX11_packets ∈ me_gw := (me_gm 573 (by decide +kernel) (by decide +kernel))
theorem mv_Y_packets : me_MV yX11_packets cX11_packets 1 (some .int) 0 := ⟨(me_gm 576 (by decide +kernel) (by decide +kernel)), (me_gm 76 (by decide +kernel) (by decide +kernel)), ⟨by decide +kernel, by decide +kernel⟩, by decide +kernel, (me_gm 574 (by decide +kernel) (by decide +kernel)), (me_gm 575 (by decide +kernel) (by decide +kernel))⟩
theorem ml_L_190 : Cond.methodLink RL 190 yX12_packets ∈ me_gw := (me_gm 1769 (by decide +kernel) (by decide +kernel))
theorem mv_M_packets : me_MV yX12_packets cX12_packets 1 (some .int) 0 := ⟨(me_gm 1772 (by decide +kernel) (by decide +kernel)), (me_gm 88 (by decide +kernel) (by decide +kernel)), ⟨by decide +kernel, by decide +kernel⟩, by decide +kernel, (me_gm 1770 (by decide +kernel) (by decide +kernel)), (me_gm 1771 (by decide +kernel) (by decide +kernel))⟩
theorem dL_law_236 : decode cL_law 236 = .ok (.aload_n 1, 1) := by decide +kernel
theorem dL_law_237 : decode cL_law 237 = .ok (.aload_n 0, 1) := by decide +kernel
theorem dL_law_238 : decode cL_law 238 = .ok (.iload 5, 2) := by decide +kernel
theorem dL_law_240 : decode cL_law 240 = .ok (.iconst 1, 1) := by decide +kernel
theorem dL_law_241 : decode cL_law 241 = .ok (.iadd, 1) := by decide +kernel
theorem dL_law_242 : decode cL_law 242 = .ok (.iaload, 1) := by decide +kernel
theorem dL_law_243 : decode cL_law 243 = .ok (.aload_n 0, 1) := by decide +kernel
theorem dL_law_244 : decode cL_law 244 = .ok (.iload 5, 2) := by decide +kernel
theorem dL_law_246 : decode cL_law 246 = .ok (.iconst 2, 1) := by decide +kernel
theorem dL_law_247 : decode cL_law 247 = .ok (.iadd, 1) := by decide +kernel
theorem dL_law_248 : decode cL_law 248 = .ok (.iaload, 1) := by decide +kernel
theorem dL_law_249 : decode cL_law 249 = .ok (.aload_n 0, 1) := by decide +kernel
theorem dL_law_250 : decode cL_law 250 = .ok (.iload 5, 2) := by decide +kernel
theorem dL_law_252 : decode cL_law 252 = .ok (.iconst 3, 1) := by decide +kernel
theorem dL_law_253 : decode cL_law 253 = .ok (.iadd, 1) := by decide +kernel
theorem dL_law_254 : decode cL_law 254 = .ok (.iaload, 1) := by decide +kernel
theorem dL_law_255 : decode cL_law 255 = .ok (.aload_n 0, 1) := by decide +kernel
theorem dL_law_256 : decode cL_law 256 = .ok (.iload 5, 2) := by decide +kernel
theorem dL_law_258 : decode cL_law 258 = .ok (.iconst 4, 1) := by decide +kernel
theorem dL_law_259 : decode cL_law 259 = .ok (.iadd, 1) := by decide +kernel
theorem dL_law_260 : decode cL_law 260 = .ok (.iaload, 1) := by decide +kernel
theorem dL_law_261 : decode cL_law 261 = .ok (.aload_n 3, 1) := by decide +kernel
theorem dL_law_262 : decode cL_law 262 = .ok (.invokestatic 148, 3) := by decide +kernel
theorem dL_law_265 : decode cL_law 265 = .ok (.istore 6, 2) := by decide +kernel
theorem dL_law_267 : decode cL_law 267 = .ok (.aload_n 2, 1) := by decide +kernel
theorem dL_law_268 : decode cL_law 268 = .ok (.aload_n 0, 1) := by decide +kernel
theorem dL_law_269 : decode cL_law 269 = .ok (.iload 5, 2) := by decide +kernel
theorem dL_law_271 : decode cL_law 271 = .ok (.iconst 1, 1) := by decide +kernel
theorem dL_law_272 : decode cL_law 272 = .ok (.iadd, 1) := by decide +kernel
theorem dL_law_273 : decode cL_law 273 = .ok (.iaload, 1) := by decide +kernel
theorem dL_law_274 : decode cL_law 274 = .ok (.aload_n 0, 1) := by decide +kernel
theorem dL_law_275 : decode cL_law 275 = .ok (.iload 5, 2) := by decide +kernel
theorem dL_law_277 : decode cL_law 277 = .ok (.iconst 2, 1) := by decide +kernel
theorem dL_law_278 : decode cL_law 278 = .ok (.iadd, 1) := by decide +kernel
theorem dL_law_279 : decode cL_law 279 = .ok (.iaload, 1) := by decide +kernel
theorem dL_law_280 : decode cL_law 280 = .ok (.aload_n 0, 1) := by decide +kernel
theorem dL_law_281 : decode cL_law 281 = .ok (.iload 5, 2) := by decide +kernel
theorem dL_law_283 : decode cL_law 283 = .ok (.iconst 3, 1) := by decide +kernel
theorem dL_law_284 : decode cL_law 284 = .ok (.iadd, 1) := by decide +kernel
theorem dL_law_285 : decode cL_law 285 = .ok (.iaload, 1) := by decide +kernel
theorem dL_law_286 : decode cL_law 286 = .ok (.aload_n 0, 1) := by decide +kernel
theorem dL_law_287 : decode cL_law 287 = .ok (.iload 5, 2) := by decide +kernel
theorem dL_law_289 : decode cL_law 289 = .ok (.iconst 4, 1) := by decide +kernel
theorem dL_law_290 : decode cL_law 290 = .ok (.iadd, 1) := by decide +kernel
theorem dL_law_291 : decode cL_law 291 = .ok (.iaload, 1) := by decide +kernel
theorem dL_law_292 : decode cL_law 292 = .ok (.invokevirtual 153, 3) := by decide +kernel
theorem dL_law_295 : decode cL_law 295 = .ok (.istore 7, 2) := by decide +kernel
theorem dL_law_297 : decode cL_law 297 = .ok (.aload_n 2, 1) := by decide +kernel
theorem dL_law_298 : decode cL_law 298 = .ok (.invokevirtual 154, 3) := by decide +kernel
theorem dL_law_301 : decode cL_law 301 = .ok (.iload 6, 2) := by decide +kernel
theorem dL_law_303 : decode cL_law 303 = .ok (.if_icmp .eq 5, 3) := by decide +kernel
theorem dL_law_306 : decode cL_law 306 = .ok (.iconst 0, 1) := by decide +kernel
theorem dL_law_308 : decode cL_law 308 = .ok (.iload 6, 2) := by decide +kernel
theorem dL_law_310 : decode cL_law 310 = .ok (.ifCond .ne 15, 3) := by decide +kernel
theorem dL_law_313 : decode cL_law 313 = .ok (.aload_n 3, 1) := by decide +kernel
theorem dL_law_314 : decode cL_law 314 = .ok (.iconst 0, 1) := by decide +kernel
theorem dL_law_315 : decode cL_law 315 = .ok (.laload, 1) := by decide +kernel
theorem dL_law_316 : decode cL_law 316 = .ok (.iload 7, 2) := by decide +kernel
theorem dL_law_318 : decode cL_law 318 = .ok (.i2l, 1) := by decide +kernel
theorem dL_law_319 : decode cL_law 319 = .ok (.lcmp, 1) := by decide +kernel
theorem dL_law_320 : decode cL_law 320 = .ok (.ifCond .eq 5, 3) := by decide +kernel
theorem dL_law_323 : decode cL_law 323 = .ok (.iconst 0, 1) := by decide +kernel
theorem dL_law_325 : decode cL_law 325 = .ok (.goto 2464, 3) := by decide +kernel
theorem dL_law_328 : decode cL_law 328 = .ok (.aload_n 1, 1) := by decide +kernel
theorem dL_law_329 : decode cL_law 329 = .ok (.aload_n 0, 1) := by decide +kernel
theorem dL_law_330 : decode cL_law 330 = .ok (.iload 5, 2) := by decide +kernel
theorem dL_law_332 : decode cL_law 332 = .ok (.iconst 1, 1) := by decide +kernel
theorem dL_law_333 : decode cL_law 333 = .ok (.iadd, 1) := by decide +kernel
theorem dL_law_334 : decode cL_law 334 = .ok (.iaload, 1) := by decide +kernel
theorem dL_law_335 : decode cL_law 335 = .ok (.aload_n 0, 1) := by decide +kernel
theorem dL_law_336 : decode cL_law 336 = .ok (.iload 5, 2) := by decide +kernel
theorem dL_law_338 : decode cL_law 338 = .ok (.iconst 2, 1) := by decide +kernel
theorem dL_law_339 : decode cL_law 339 = .ok (.iadd, 1) := by decide +kernel
theorem dL_law_340 : decode cL_law 340 = .ok (.iaload, 1) := by decide +kernel
theorem dL_law_341 : decode cL_law 341 = .ok (.aload_n 0, 1) := by decide +kernel
theorem dL_law_342 : decode cL_law 342 = .ok (.iload 5, 2) := by decide +kernel
theorem dL_law_344 : decode cL_law 344 = .ok (.iconst 3, 1) := by decide +kernel
theorem dL_law_345 : decode cL_law 345 = .ok (.iadd, 1) := by decide +kernel
theorem dL_law_346 : decode cL_law 346 = .ok (.iaload, 1) := by decide +kernel
theorem dL_law_347 : decode cL_law 347 = .ok (.aload_n 3, 1) := by decide +kernel
theorem dL_law_348 : decode cL_law 348 = .ok (.invokestatic 157, 3) := by decide +kernel
theorem dL_law_351 : decode cL_law 351 = .ok (.istore 6, 2) := by decide +kernel
theorem dL_law_353 : decode cL_law 353 = .ok (.aload_n 2, 1) := by decide +kernel
theorem dL_law_354 : decode cL_law 354 = .ok (.aload_n 0, 1) := by decide +kernel
theorem dL_law_355 : decode cL_law 355 = .ok (.iload 5, 2) := by decide +kernel
theorem dL_law_357 : decode cL_law 357 = .ok (.iconst 1, 1) := by decide +kernel
theorem dL_law_358 : decode cL_law 358 = .ok (.iadd, 1) := by decide +kernel
theorem dL_law_359 : decode cL_law 359 = .ok (.iaload, 1) := by decide +kernel
theorem dL_law_360 : decode cL_law 360 = .ok (.aload_n 0, 1) := by decide +kernel
theorem dL_law_361 : decode cL_law 361 = .ok (.iload 5, 2) := by decide +kernel
theorem dL_law_363 : decode cL_law 363 = .ok (.iconst 2, 1) := by decide +kernel
theorem dL_law_364 : decode cL_law 364 = .ok (.iadd, 1) := by decide +kernel
theorem dL_law_365 : decode cL_law 365 = .ok (.iaload, 1) := by decide +kernel
theorem dL_law_366 : decode cL_law 366 = .ok (.aload_n 0, 1) := by decide +kernel
theorem dL_law_367 : decode cL_law 367 = .ok (.iload 5, 2) := by decide +kernel
theorem dL_law_369 : decode cL_law 369 = .ok (.iconst 3, 1) := by decide +kernel
theorem dL_law_370 : decode cL_law 370 = .ok (.iadd, 1) := by decide +kernel
theorem dL_law_371 : decode cL_law 371 = .ok (.iaload, 1) := by decide +kernel
theorem dL_law_372 : decode cL_law 372 = .ok (.invokevirtual 160, 3) := by decide +kernel
theorem dL_law_375 : decode cL_law 375 = .ok (.istore 7, 2) := by decide +kernel
theorem dL_law_377 : decode cL_law 377 = .ok (.aload_n 2, 1) := by decide +kernel
theorem dL_law_378 : decode cL_law 378 = .ok (.invokevirtual 154, 3) := by decide +kernel
theorem dL_law_381 : decode cL_law 381 = .ok (.iload 6, 2) := by decide +kernel
theorem dL_law_383 : decode cL_law 383 = .ok (.if_icmp .eq 5, 3) := by decide +kernel
theorem dL_law_386 : decode cL_law 386 = .ok (.iconst 0, 1) := by decide +kernel
theorem dL_law_388 : decode cL_law 388 = .ok (.iload 6, 2) := by decide +kernel
theorem dL_law_390 : decode cL_law 390 = .ok (.ifCond .ne 15, 3) := by decide +kernel
theorem dL_law_393 : decode cL_law 393 = .ok (.aload_n 3, 1) := by decide +kernel
theorem dL_law_394 : decode cL_law 394 = .ok (.iconst 0, 1) := by decide +kernel
theorem dL_law_395 : decode cL_law 395 = .ok (.laload, 1) := by decide +kernel
theorem dL_law_396 : decode cL_law 396 = .ok (.iload 7, 2) := by decide +kernel
theorem dL_law_398 : decode cL_law 398 = .ok (.i2l, 1) := by decide +kernel
theorem dL_law_399 : decode cL_law 399 = .ok (.lcmp, 1) := by decide +kernel
theorem dL_law_400 : decode cL_law 400 = .ok (.ifCond .eq 5, 3) := by decide +kernel
theorem dL_law_403 : decode cL_law 403 = .ok (.iconst 0, 1) := by decide +kernel
theorem dL_law_405 : decode cL_law 405 = .ok (.goto 2384, 3) := by decide +kernel
theorem dL_law_408 : decode cL_law 408 = .ok (.aload_n 1, 1) := by decide +kernel
theorem dL_law_409 : decode cL_law 409 = .ok (.aload_n 0, 1) := by decide +kernel
theorem dL_law_410 : decode cL_law 410 = .ok (.iload 5, 2) := by decide +kernel
theorem dL_law_412 : decode cL_law 412 = .ok (.iconst 1, 1) := by decide +kernel
theorem dL_law_413 : decode cL_law 413 = .ok (.iadd, 1) := by decide +kernel
theorem dL_law_414 : decode cL_law 414 = .ok (.iaload, 1) := by decide +kernel
theorem dL_law_415 : decode cL_law 415 = .ok (.aload_n 0, 1) := by decide +kernel
theorem dL_law_416 : decode cL_law 416 = .ok (.iload 5, 2) := by decide +kernel
theorem dL_law_418 : decode cL_law 418 = .ok (.iconst 2, 1) := by decide +kernel
theorem dL_law_419 : decode cL_law 419 = .ok (.iadd, 1) := by decide +kernel
theorem dL_law_420 : decode cL_law 420 = .ok (.iaload, 1) := by decide +kernel
theorem dL_law_421 : decode cL_law 421 = .ok (.aload_n 0, 1) := by decide +kernel
theorem dL_law_422 : decode cL_law 422 = .ok (.iload 5, 2) := by decide +kernel
theorem dL_law_424 : decode cL_law 424 = .ok (.iconst 3, 1) := by decide +kernel
theorem dL_law_425 : decode cL_law 425 = .ok (.iadd, 1) := by decide +kernel
theorem dL_law_426 : decode cL_law 426 = .ok (.iaload, 1) := by decide +kernel
theorem dL_law_427 : decode cL_law 427 = .ok (.aload_n 0, 1) := by decide +kernel
theorem dL_law_428 : decode cL_law 428 = .ok (.iload 5, 2) := by decide +kernel
theorem dL_law_430 : decode cL_law 430 = .ok (.iconst 4, 1) := by decide +kernel
theorem dL_law_431 : decode cL_law 431 = .ok (.iadd, 1) := by decide +kernel
theorem dL_law_432 : decode cL_law 432 = .ok (.iaload, 1) := by decide +kernel
theorem dL_law_433 : decode cL_law 433 = .ok (.ifCond .eq 7, 3) := by decide +kernel
theorem dL_law_436 : decode cL_law 436 = .ok (.iconst 1, 1) := by decide +kernel
theorem dL_law_437 : decode cL_law 437 = .ok (.goto 4, 3) := by decide +kernel
theorem dL_law_440 : decode cL_law 440 = .ok (.iconst 0, 1) := by decide +kernel
theorem dL_law_441 : decode cL_law 441 = .ok (.aload_n 0, 1) := by decide +kernel
theorem dL_law_442 : decode cL_law 442 = .ok (.iload 5, 2) := by decide +kernel
theorem dL_law_444 : decode cL_law 444 = .ok (.iconst 5, 1) := by decide +kernel
theorem dL_law_445 : decode cL_law 445 = .ok (.iadd, 1) := by decide +kernel
theorem dL_law_446 : decode cL_law 446 = .ok (.iaload, 1) := by decide +kernel
theorem dL_law_447 : decode cL_law 447 = .ok (.aload_n 3, 1) := by decide +kernel
theorem dL_law_448 : decode cL_law 448 = .ok (.invokestatic 161, 3) := by decide +kernel
theorem dL_law_451 : decode cL_law 451 = .ok (.istore 6, 2) := by decide +kernel
theorem dL_law_453 : decode cL_law 453 = .ok (.aload_n 2, 1) := by decide +kernel
theorem dL_law_454 : decode cL_law 454 = .ok (.aload_n 0, 1) := by decide +kernel
theorem dL_law_455 : decode cL_law 455 = .ok (.iload 5, 2) := by decide +kernel
theorem dL_law_457 : decode cL_law 457 = .ok (.iconst 1, 1) := by decide +kernel
theorem dL_law_458 : decode cL_law 458 = .ok (.iadd, 1) := by decide +kernel
theorem dL_law_459 : decode cL_law 459 = .ok (.iaload, 1) := by decide +kernel
theorem dL_law_460 : decode cL_law 460 = .ok (.aload_n 0, 1) := by decide +kernel
theorem dL_law_461 : decode cL_law 461 = .ok (.iload 5, 2) := by decide +kernel
theorem dL_law_463 : decode cL_law 463 = .ok (.iconst 2, 1) := by decide +kernel
theorem dL_law_464 : decode cL_law 464 = .ok (.iadd, 1) := by decide +kernel
theorem dL_law_465 : decode cL_law 465 = .ok (.iaload, 1) := by decide +kernel
theorem dL_law_466 : decode cL_law 466 = .ok (.aload_n 0, 1) := by decide +kernel
theorem dL_law_467 : decode cL_law 467 = .ok (.iload 5, 2) := by decide +kernel
theorem dL_law_469 : decode cL_law 469 = .ok (.iconst 3, 1) := by decide +kernel
theorem dL_law_470 : decode cL_law 470 = .ok (.iadd, 1) := by decide +kernel
theorem dL_law_471 : decode cL_law 471 = .ok (.iaload, 1) := by decide +kernel
theorem dL_law_472 : decode cL_law 472 = .ok (.aload_n 0, 1) := by decide +kernel
theorem dL_law_473 : decode cL_law 473 = .ok (.iload 5, 2) := by decide +kernel
theorem dL_law_475 : decode cL_law 475 = .ok (.iconst 4, 1) := by decide +kernel
theorem dL_law_476 : decode cL_law 476 = .ok (.iadd, 1) := by decide +kernel
theorem dL_law_477 : decode cL_law 477 = .ok (.iaload, 1) := by decide +kernel
theorem dL_law_478 : decode cL_law 478 = .ok (.ifCond .eq 7, 3) := by decide +kernel
theorem dL_law_481 : decode cL_law 481 = .ok (.iconst 1, 1) := by decide +kernel
theorem dL_law_482 : decode cL_law 482 = .ok (.goto 4, 3) := by decide +kernel
theorem dL_law_485 : decode cL_law 485 = .ok (.iconst 0, 1) := by decide +kernel
theorem dL_law_486 : decode cL_law 486 = .ok (.aload_n 0, 1) := by decide +kernel
theorem dL_law_487 : decode cL_law 487 = .ok (.iload 5, 2) := by decide +kernel
theorem dL_law_489 : decode cL_law 489 = .ok (.iconst 5, 1) := by decide +kernel
theorem dL_law_490 : decode cL_law 490 = .ok (.iadd, 1) := by decide +kernel
theorem dL_law_491 : decode cL_law 491 = .ok (.iaload, 1) := by decide +kernel
theorem dL_law_492 : decode cL_law 492 = .ok (.invokevirtual 164, 3) := by decide +kernel
theorem dL_law_495 : decode cL_law 495 = .ok (.istore 7, 2) := by decide +kernel
theorem dL_law_497 : decode cL_law 497 = .ok (.aload_n 2, 1) := by decide +kernel
theorem dL_law_498 : decode cL_law 498 = .ok (.invokevirtual 154, 3) := by decide +kernel
theorem dL_law_501 : decode cL_law 501 = .ok (.iload 6, 2) := by decide +kernel
theorem dL_law_503 : decode cL_law 503 = .ok (.if_icmp .eq 5, 3) := by decide +kernel
theorem dL_law_506 : decode cL_law 506 = .ok (.iconst 0, 1) := by decide +kernel
theorem dL_law_508 : decode cL_law 508 = .ok (.iload 6, 2) := by decide +kernel
theorem dL_law_510 : decode cL_law 510 = .ok (.ifCond .ne 15, 3) := by decide +kernel
theorem dL_law_513 : decode cL_law 513 = .ok (.aload_n 3, 1) := by decide +kernel
theorem dL_law_514 : decode cL_law 514 = .ok (.iconst 0, 1) := by decide +kernel
theorem dL_law_515 : decode cL_law 515 = .ok (.laload, 1) := by decide +kernel
theorem dL_law_516 : decode cL_law 516 = .ok (.iload 7, 2) := by decide +kernel
theorem dL_law_518 : decode cL_law 518 = .ok (.i2l, 1) := by decide +kernel
theorem dL_law_519 : decode cL_law 519 = .ok (.lcmp, 1) := by decide +kernel
theorem dL_law_520 : decode cL_law 520 = .ok (.ifCond .eq 5, 3) := by decide +kernel
theorem dL_law_523 : decode cL_law 523 = .ok (.iconst 0, 1) := by decide +kernel
theorem dL_law_525 : decode cL_law 525 = .ok (.goto 2264, 3) := by decide +kernel
theorem dL_law_528 : decode cL_law 528 = .ok (.aload_n 1, 1) := by decide +kernel
theorem dL_law_529 : decode cL_law 529 = .ok (.aload_n 0, 1) := by decide +kernel
theorem dL_law_530 : decode cL_law 530 = .ok (.iload 5, 2) := by decide +kernel
theorem dL_law_532 : decode cL_law 532 = .ok (.iconst 1, 1) := by decide +kernel
theorem dL_law_533 : decode cL_law 533 = .ok (.iadd, 1) := by decide +kernel
theorem dL_law_534 : decode cL_law 534 = .ok (.iaload, 1) := by decide +kernel
theorem dL_law_535 : decode cL_law 535 = .ok (.aload_n 3, 1) := by decide +kernel
theorem dL_law_536 : decode cL_law 536 = .ok (.invokestatic 165, 3) := by decide +kernel
theorem dL_law_539 : decode cL_law 539 = .ok (.istore 6, 2) := by decide +kernel
theorem dL_law_541 : decode cL_law 541 = .ok (.aload_n 2, 1) := by decide +kernel
theorem dL_law_542 : decode cL_law 542 = .ok (.aload_n 0, 1) := by decide +kernel
theorem dL_law_543 : decode cL_law 543 = .ok (.iload 5, 2) := by decide +kernel
theorem dL_law_545 : decode cL_law 545 = .ok (.iconst 1, 1) := by decide +kernel
theorem dL_law_546 : decode cL_law 546 = .ok (.iadd, 1) := by decide +kernel
theorem dL_law_547 : decode cL_law 547 = .ok (.iaload, 1) := by decide +kernel
theorem dL_law_548 : decode cL_law 548 = .ok (.invokevirtual 168, 3) := by decide +kernel
theorem dL_law_551 : decode cL_law 551 = .ok (.istore 7, 2) := by decide +kernel
theorem dL_law_553 : decode cL_law 553 = .ok (.aload_n 2, 1) := by decide +kernel
theorem dL_law_554 : decode cL_law 554 = .ok (.invokevirtual 154, 3) := by decide +kernel
theorem dL_law_557 : decode cL_law 557 = .ok (.iload 6, 2) := by decide +kernel
theorem dL_law_559 : decode cL_law 559 = .ok (.if_icmp .eq 5, 3) := by decide +kernel
theorem dL_law_562 : decode cL_law 562 = .ok (.iconst 0, 1) := by decide +kernel
theorem dL_law_564 : decode cL_law 564 = .ok (.iload 6, 2) := by decide +kernel
theorem dL_law_566 : decode cL_law 566 = .ok (.ifCond .ne 15, 3) := by decide +kernel
theorem dL_law_569 : decode cL_law 569 = .ok (.aload_n 3, 1) := by decide +kernel
theorem dL_law_570 : decode cL_law 570 = .ok (.iconst 0, 1) := by decide +kernel
theorem dL_law_571 : decode cL_law 571 = .ok (.laload, 1) := by decide +kernel
theorem dL_law_572 : decode cL_law 572 = .ok (.iload 7, 2) := by decide +kernel
theorem dL_law_574 : decode cL_law 574 = .ok (.i2l, 1) := by decide +kernel
theorem dL_law_575 : decode cL_law 575 = .ok (.lcmp, 1) := by decide +kernel
theorem dL_law_576 : decode cL_law 576 = .ok (.ifCond .eq 5, 3) := by decide +kernel
theorem dL_law_579 : decode cL_law 579 = .ok (.iconst 0, 1) := by decide +kernel
theorem dL_law_581 : decode cL_law 581 = .ok (.goto 2208, 3) := by decide +kernel
theorem dL_law_584 : decode cL_law 584 = .ok (.aload_n 1, 1) := by decide +kernel
theorem dL_law_585 : decode cL_law 585 = .ok (.aload_n 0, 1) := by decide +kernel
theorem dL_law_586 : decode cL_law 586 = .ok (.iload 5, 2) := by decide +kernel
theorem dL_law_588 : decode cL_law 588 = .ok (.iconst 1, 1) := by decide +kernel
theorem dL_law_589 : decode cL_law 589 = .ok (.iadd, 1) := by decide +kernel
theorem dL_law_590 : decode cL_law 590 = .ok (.iaload, 1) := by decide +kernel
theorem dL_law_591 : decode cL_law 591 = .ok (.aload_n 3, 1) := by decide +kernel
theorem dL_law_592 : decode cL_law 592 = .ok (.invokestatic 169, 3) := by decide +kernel
theorem dL_law_595 : decode cL_law 595 = .ok (.istore 6, 2) := by decide +kernel
theorem dL_law_597 : decode cL_law 597 = .ok (.aload_n 2, 1) := by decide +kernel
theorem dL_law_598 : decode cL_law 598 = .ok (.aload_n 0, 1) := by decide +kernel
theorem dL_law_599 : decode cL_law 599 = .ok (.iload 5, 2) := by decide +kernel
theorem dL_law_601 : decode cL_law 601 = .ok (.iconst 1, 1) := by decide +kernel
theorem dL_law_602 : decode cL_law 602 = .ok (.iadd, 1) := by decide +kernel
theorem dL_law_603 : decode cL_law 603 = .ok (.iaload, 1) := by decide +kernel
theorem dL_law_604 : decode cL_law 604 = .ok (.invokevirtual 171, 3) := by decide +kernel
theorem dL_law_607 : decode cL_law 607 = .ok (.istore 7, 2) := by decide +kernel
theorem dL_law_609 : decode cL_law 609 = .ok (.aload_n 2, 1) := by decide +kernel
theorem dL_law_610 : decode cL_law 610 = .ok (.invokevirtual 154, 3) := by decide +kernel
theorem dL_law_613 : decode cL_law 613 = .ok (.iload 6, 2) := by decide +kernel
theorem dL_law_615 : decode cL_law 615 = .ok (.if_icmp .eq 5, 3) := by decide +kernel
theorem dL_law_618 : decode cL_law 618 = .ok (.iconst 0, 1) := by decide +kernel
theorem dL_law_620 : decode cL_law 620 = .ok (.iload 6, 2) := by decide +kernel
theorem dL_law_622 : decode cL_law 622 = .ok (.ifCond .ne 15, 3) := by decide +kernel
theorem dL_law_625 : decode cL_law 625 = .ok (.aload_n 3, 1) := by decide +kernel
theorem dL_law_626 : decode cL_law 626 = .ok (.iconst 0, 1) := by decide +kernel
theorem dL_law_627 : decode cL_law 627 = .ok (.laload, 1) := by decide +kernel
theorem dL_law_628 : decode cL_law 628 = .ok (.iload 7, 2) := by decide +kernel
theorem dL_law_630 : decode cL_law 630 = .ok (.i2l, 1) := by decide +kernel
theorem dL_law_631 : decode cL_law 631 = .ok (.lcmp, 1) := by decide +kernel
theorem dL_law_632 : decode cL_law 632 = .ok (.ifCond .eq 5, 3) := by decide +kernel
theorem dL_law_635 : decode cL_law 635 = .ok (.iconst 0, 1) := by decide +kernel
theorem dL_law_637 : decode cL_law 637 = .ok (.goto 2152, 3) := by decide +kernel
theorem dL_law_640 : decode cL_law 640 = .ok (.aload_n 1, 1) := by decide +kernel
theorem dL_law_641 : decode cL_law 641 = .ok (.aload_n 0, 1) := by decide +kernel
theorem dL_law_642 : decode cL_law 642 = .ok (.iload 5, 2) := by decide +kernel
theorem dL_law_644 : decode cL_law 644 = .ok (.iconst 1, 1) := by decide +kernel
theorem dL_law_645 : decode cL_law 645 = .ok (.iadd, 1) := by decide +kernel
theorem dL_law_646 : decode cL_law 646 = .ok (.iaload, 1) := by decide +kernel
theorem dL_law_647 : decode cL_law 647 = .ok (.aload_n 3, 1) := by decide +kernel
theorem dL_law_648 : decode cL_law 648 = .ok (.invokestatic 172, 3) := by decide +kernel
theorem dL_law_651 : decode cL_law 651 = .ok (.istore 6, 2) := by decide +kernel
theorem dL_law_653 : decode cL_law 653 = .ok (.aload_n 2, 1) := by decide +kernel
theorem dL_law_654 : decode cL_law 654 = .ok (.aload_n 0, 1) := by decide +kernel
theorem dL_law_655 : decode cL_law 655 = .ok (.iload 5, 2) := by decide +kernel
theorem dL_law_657 : decode cL_law 657 = .ok (.iconst 1, 1) := by decide +kernel
theorem dL_law_658 : decode cL_law 658 = .ok (.iadd, 1) := by decide +kernel
theorem dL_law_659 : decode cL_law 659 = .ok (.iaload, 1) := by decide +kernel
theorem dL_law_660 : decode cL_law 660 = .ok (.invokevirtual 174, 3) := by decide +kernel
theorem dL_law_663 : decode cL_law 663 = .ok (.istore 7, 2) := by decide +kernel
theorem dL_law_665 : decode cL_law 665 = .ok (.aload_n 2, 1) := by decide +kernel
theorem dL_law_666 : decode cL_law 666 = .ok (.invokevirtual 154, 3) := by decide +kernel
theorem dL_law_669 : decode cL_law 669 = .ok (.iload 6, 2) := by decide +kernel
theorem dL_law_671 : decode cL_law 671 = .ok (.if_icmp .eq 5, 3) := by decide +kernel
theorem dL_law_674 : decode cL_law 674 = .ok (.iconst 0, 1) := by decide +kernel
theorem dL_law_676 : decode cL_law 676 = .ok (.iload 6, 2) := by decide +kernel
theorem dL_law_678 : decode cL_law 678 = .ok (.ifCond .ne 15, 3) := by decide +kernel
theorem dL_law_681 : decode cL_law 681 = .ok (.aload_n 3, 1) := by decide +kernel
theorem dL_law_682 : decode cL_law 682 = .ok (.iconst 0, 1) := by decide +kernel
theorem dL_law_683 : decode cL_law 683 = .ok (.laload, 1) := by decide +kernel
theorem dL_law_684 : decode cL_law 684 = .ok (.iload 7, 2) := by decide +kernel
theorem dL_law_686 : decode cL_law 686 = .ok (.i2l, 1) := by decide +kernel
theorem dL_law_687 : decode cL_law 687 = .ok (.lcmp, 1) := by decide +kernel
theorem dL_law_688 : decode cL_law 688 = .ok (.ifCond .eq 5, 3) := by decide +kernel
theorem dL_law_691 : decode cL_law 691 = .ok (.iconst 0, 1) := by decide +kernel
theorem dL_law_693 : decode cL_law 693 = .ok (.goto 2096, 3) := by decide +kernel
theorem dL_law_696 : decode cL_law 696 = .ok (.aload_n 1, 1) := by decide +kernel
theorem dL_law_697 : decode cL_law 697 = .ok (.aload_n 0, 1) := by decide +kernel
theorem dL_law_698 : decode cL_law 698 = .ok (.iload 5, 2) := by decide +kernel
theorem dL_law_700 : decode cL_law 700 = .ok (.iconst 1, 1) := by decide +kernel
theorem dL_law_701 : decode cL_law 701 = .ok (.iadd, 1) := by decide +kernel
theorem dL_law_702 : decode cL_law 702 = .ok (.iaload, 1) := by decide +kernel
theorem dL_law_703 : decode cL_law 703 = .ok (.aload_n 3, 1) := by decide +kernel
theorem dL_law_704 : decode cL_law 704 = .ok (.invokestatic 175, 3) := by decide +kernel
theorem dL_law_707 : decode cL_law 707 = .ok (.istore 6, 2) := by decide +kernel
theorem dL_law_709 : decode cL_law 709 = .ok (.aload_n 2, 1) := by decide +kernel
theorem dL_law_710 : decode cL_law 710 = .ok (.aload_n 0, 1) := by decide +kernel
theorem dL_law_711 : decode cL_law 711 = .ok (.iload 5, 2) := by decide +kernel
theorem dL_law_713 : decode cL_law 713 = .ok (.iconst 1, 1) := by decide +kernel
theorem dL_law_714 : decode cL_law 714 = .ok (.iadd, 1) := by decide +kernel
theorem dL_law_715 : decode cL_law 715 = .ok (.iaload, 1) := by decide +kernel
theorem dL_law_716 : decode cL_law 716 = .ok (.invokevirtual 177, 3) := by decide +kernel
theorem dL_law_719 : decode cL_law 719 = .ok (.istore 7, 2) := by decide +kernel
theorem dL_law_721 : decode cL_law 721 = .ok (.aload_n 2, 1) := by decide +kernel
theorem dL_law_722 : decode cL_law 722 = .ok (.invokevirtual 154, 3) := by decide +kernel
theorem dL_law_725 : decode cL_law 725 = .ok (.iload 6, 2) := by decide +kernel
theorem dL_law_727 : decode cL_law 727 = .ok (.if_icmp .eq 5, 3) := by decide +kernel
theorem dL_law_730 : decode cL_law 730 = .ok (.iconst 0, 1) := by decide +kernel
theorem dL_law_732 : decode cL_law 732 = .ok (.iload 6, 2) := by decide +kernel
theorem dL_law_734 : decode cL_law 734 = .ok (.ifCond .ne 15, 3) := by decide +kernel
theorem dL_law_737 : decode cL_law 737 = .ok (.aload_n 3, 1) := by decide +kernel
theorem dL_law_738 : decode cL_law 738 = .ok (.iconst 0, 1) := by decide +kernel
theorem dL_law_739 : decode cL_law 739 = .ok (.laload, 1) := by decide +kernel
theorem dL_law_740 : decode cL_law 740 = .ok (.iload 7, 2) := by decide +kernel
theorem dL_law_742 : decode cL_law 742 = .ok (.i2l, 1) := by decide +kernel
theorem dL_law_743 : decode cL_law 743 = .ok (.lcmp, 1) := by decide +kernel
theorem dL_law_744 : decode cL_law 744 = .ok (.ifCond .eq 5, 3) := by decide +kernel
theorem dL_law_747 : decode cL_law 747 = .ok (.iconst 0, 1) := by decide +kernel
theorem dL_law_749 : decode cL_law 749 = .ok (.goto 2040, 3) := by decide +kernel
theorem dL_law_752 : decode cL_law 752 = .ok (.aload_n 1, 1) := by decide +kernel
theorem dL_law_753 : decode cL_law 753 = .ok (.aload_n 0, 1) := by decide +kernel
theorem dL_law_754 : decode cL_law 754 = .ok (.iload 5, 2) := by decide +kernel
theorem dL_law_756 : decode cL_law 756 = .ok (.iconst 1, 1) := by decide +kernel
theorem dL_law_757 : decode cL_law 757 = .ok (.iadd, 1) := by decide +kernel
theorem dL_law_758 : decode cL_law 758 = .ok (.iaload, 1) := by decide +kernel
theorem dL_law_759 : decode cL_law 759 = .ok (.aload_n 3, 1) := by decide +kernel
theorem dL_law_760 : decode cL_law 760 = .ok (.invokestatic 178, 3) := by decide +kernel
theorem dL_law_763 : decode cL_law 763 = .ok (.istore 6, 2) := by decide +kernel
theorem dL_law_765 : decode cL_law 765 = .ok (.aload_n 2, 1) := by decide +kernel
theorem dL_law_766 : decode cL_law 766 = .ok (.aload_n 0, 1) := by decide +kernel
theorem dL_law_767 : decode cL_law 767 = .ok (.iload 5, 2) := by decide +kernel
theorem dL_law_769 : decode cL_law 769 = .ok (.iconst 1, 1) := by decide +kernel
theorem dL_law_770 : decode cL_law 770 = .ok (.iadd, 1) := by decide +kernel
theorem dL_law_771 : decode cL_law 771 = .ok (.iaload, 1) := by decide +kernel
theorem dL_law_772 : decode cL_law 772 = .ok (.invokevirtual 180, 3) := by decide +kernel
theorem dL_law_775 : decode cL_law 775 = .ok (.istore 7, 2) := by decide +kernel
theorem dL_law_777 : decode cL_law 777 = .ok (.aload_n 2, 1) := by decide +kernel
theorem dL_law_778 : decode cL_law 778 = .ok (.invokevirtual 154, 3) := by decide +kernel
theorem dL_law_781 : decode cL_law 781 = .ok (.iload 6, 2) := by decide +kernel
theorem dL_law_783 : decode cL_law 783 = .ok (.if_icmp .eq 5, 3) := by decide +kernel
theorem dL_law_786 : decode cL_law 786 = .ok (.iconst 0, 1) := by decide +kernel
theorem dL_law_788 : decode cL_law 788 = .ok (.iload 6, 2) := by decide +kernel
theorem dL_law_790 : decode cL_law 790 = .ok (.ifCond .ne 15, 3) := by decide +kernel
theorem dL_law_793 : decode cL_law 793 = .ok (.aload_n 3, 1) := by decide +kernel
theorem dL_law_794 : decode cL_law 794 = .ok (.iconst 0, 1) := by decide +kernel
theorem dL_law_795 : decode cL_law 795 = .ok (.laload, 1) := by decide +kernel
theorem dL_law_796 : decode cL_law 796 = .ok (.iload 7, 2) := by decide +kernel
theorem dL_law_798 : decode cL_law 798 = .ok (.i2l, 1) := by decide +kernel
theorem dL_law_799 : decode cL_law 799 = .ok (.lcmp, 1) := by decide +kernel
theorem dL_law_800 : decode cL_law 800 = .ok (.ifCond .eq 5, 3) := by decide +kernel
theorem dL_law_803 : decode cL_law 803 = .ok (.iconst 0, 1) := by decide +kernel
theorem dL_law_805 : decode cL_law 805 = .ok (.goto 1984, 3) := by decide +kernel
theorem dL_law_808 : decode cL_law 808 = .ok (.aload_n 1, 1) := by decide +kernel
theorem dL_law_809 : decode cL_law 809 = .ok (.aload_n 0, 1) := by decide +kernel
theorem dL_law_810 : decode cL_law 810 = .ok (.iload 5, 2) := by decide +kernel
theorem dL_law_812 : decode cL_law 812 = .ok (.iconst 1, 1) := by decide +kernel
theorem dL_law_813 : decode cL_law 813 = .ok (.iadd, 1) := by decide +kernel
theorem dL_law_814 : decode cL_law 814 = .ok (.iaload, 1) := by decide +kernel
theorem dL_law_815 : decode cL_law 815 = .ok (.aload_n 3, 1) := by decide +kernel
theorem dL_law_816 : decode cL_law 816 = .ok (.invokestatic 181, 3) := by decide +kernel
theorem dL_law_819 : decode cL_law 819 = .ok (.istore 6, 2) := by decide +kernel
theorem dL_law_821 : decode cL_law 821 = .ok (.aload_n 2, 1) := by decide +kernel
theorem dL_law_822 : decode cL_law 822 = .ok (.aload_n 0, 1) := by decide +kernel
theorem dL_law_823 : decode cL_law 823 = .ok (.iload 5, 2) := by decide +kernel
theorem dL_law_825 : decode cL_law 825 = .ok (.iconst 1, 1) := by decide +kernel
theorem dL_law_826 : decode cL_law 826 = .ok (.iadd, 1) := by decide +kernel
theorem dL_law_827 : decode cL_law 827 = .ok (.iaload, 1) := by decide +kernel
theorem dL_law_828 : decode cL_law 828 = .ok (.invokevirtual 183, 3) := by decide +kernel
theorem dL_law_831 : decode cL_law 831 = .ok (.istore 7, 2) := by decide +kernel
theorem dL_law_833 : decode cL_law 833 = .ok (.aload_n 2, 1) := by decide +kernel
theorem dL_law_834 : decode cL_law 834 = .ok (.invokevirtual 154, 3) := by decide +kernel
theorem dL_law_837 : decode cL_law 837 = .ok (.iload 6, 2) := by decide +kernel
theorem dL_law_839 : decode cL_law 839 = .ok (.if_icmp .eq 5, 3) := by decide +kernel
theorem dL_law_842 : decode cL_law 842 = .ok (.iconst 0, 1) := by decide +kernel
theorem dL_law_844 : decode cL_law 844 = .ok (.iload 6, 2) := by decide +kernel
theorem dL_law_846 : decode cL_law 846 = .ok (.ifCond .ne 15, 3) := by decide +kernel
theorem dL_law_849 : decode cL_law 849 = .ok (.aload_n 3, 1) := by decide +kernel
theorem dL_law_850 : decode cL_law 850 = .ok (.iconst 0, 1) := by decide +kernel
theorem dL_law_851 : decode cL_law 851 = .ok (.laload, 1) := by decide +kernel
theorem dL_law_852 : decode cL_law 852 = .ok (.iload 7, 2) := by decide +kernel
theorem dL_law_854 : decode cL_law 854 = .ok (.i2l, 1) := by decide +kernel
theorem dL_law_855 : decode cL_law 855 = .ok (.lcmp, 1) := by decide +kernel
theorem dL_law_856 : decode cL_law 856 = .ok (.ifCond .eq 5, 3) := by decide +kernel
theorem dL_law_859 : decode cL_law 859 = .ok (.iconst 0, 1) := by decide +kernel
theorem dL_law_861 : decode cL_law 861 = .ok (.goto 1928, 3) := by decide +kernel
theorem dL_law_864 : decode cL_law 864 = .ok (.aload_n 1, 1) := by decide +kernel
theorem dL_law_865 : decode cL_law 865 = .ok (.aload_n 0, 1) := by decide +kernel
theorem dL_law_866 : decode cL_law 866 = .ok (.iload 5, 2) := by decide +kernel
theorem dL_law_868 : decode cL_law 868 = .ok (.iconst 1, 1) := by decide +kernel
theorem dL_law_869 : decode cL_law 869 = .ok (.iadd, 1) := by decide +kernel
theorem dL_law_870 : decode cL_law 870 = .ok (.iaload, 1) := by decide +kernel
theorem dL_law_871 : decode cL_law 871 = .ok (.aload_n 3, 1) := by decide +kernel
theorem dL_law_872 : decode cL_law 872 = .ok (.invokestatic 184, 3) := by decide +kernel
theorem dL_law_875 : decode cL_law 875 = .ok (.istore 6, 2) := by decide +kernel
theorem dL_law_877 : decode cL_law 877 = .ok (.aload_n 2, 1) := by decide +kernel
theorem dL_law_878 : decode cL_law 878 = .ok (.aload_n 0, 1) := by decide +kernel
theorem dL_law_879 : decode cL_law 879 = .ok (.iload 5, 2) := by decide +kernel
theorem dL_law_881 : decode cL_law 881 = .ok (.iconst 1, 1) := by decide +kernel
theorem dL_law_882 : decode cL_law 882 = .ok (.iadd, 1) := by decide +kernel
theorem dL_law_883 : decode cL_law 883 = .ok (.iaload, 1) := by decide +kernel
theorem dL_law_884 : decode cL_law 884 = .ok (.invokevirtual 186, 3) := by decide +kernel
theorem dL_law_887 : decode cL_law 887 = .ok (.istore 7, 2) := by decide +kernel
theorem dL_law_889 : decode cL_law 889 = .ok (.aload_n 2, 1) := by decide +kernel
theorem dL_law_890 : decode cL_law 890 = .ok (.invokevirtual 154, 3) := by decide +kernel
theorem dL_law_893 : decode cL_law 893 = .ok (.iload 6, 2) := by decide +kernel
theorem dL_law_895 : decode cL_law 895 = .ok (.if_icmp .eq 5, 3) := by decide +kernel
theorem dL_law_898 : decode cL_law 898 = .ok (.iconst 0, 1) := by decide +kernel
theorem dL_law_900 : decode cL_law 900 = .ok (.iload 6, 2) := by decide +kernel
theorem dL_law_902 : decode cL_law 902 = .ok (.ifCond .ne 15, 3) := by decide +kernel
theorem dL_law_905 : decode cL_law 905 = .ok (.aload_n 3, 1) := by decide +kernel
theorem dL_law_906 : decode cL_law 906 = .ok (.iconst 0, 1) := by decide +kernel
theorem dL_law_907 : decode cL_law 907 = .ok (.laload, 1) := by decide +kernel
theorem dL_law_908 : decode cL_law 908 = .ok (.iload 7, 2) := by decide +kernel
theorem dL_law_910 : decode cL_law 910 = .ok (.i2l, 1) := by decide +kernel
theorem dL_law_911 : decode cL_law 911 = .ok (.lcmp, 1) := by decide +kernel
theorem dL_law_912 : decode cL_law 912 = .ok (.ifCond .eq 5, 3) := by decide +kernel
theorem dL_law_915 : decode cL_law 915 = .ok (.iconst 0, 1) := by decide +kernel
theorem dL_law_917 : decode cL_law 917 = .ok (.goto 1872, 3) := by decide +kernel
theorem dL_law_920 : decode cL_law 920 = .ok (.aload_n 1, 1) := by decide +kernel
theorem dL_law_921 : decode cL_law 921 = .ok (.invokevirtual 187, 3) := by decide +kernel
theorem dL_law_924 : decode cL_law 924 = .ok (.aload_n 2, 1) := by decide +kernel
theorem dL_law_925 : decode cL_law 925 = .ok (.invokevirtual 190, 3) := by decide +kernel
theorem dL_law_928 : decode cL_law 928 = .ok (.if_icmp .eq 1861, 3) := by decide +kernel
theorem dL_law_931 : decode cL_law 931 = .ok (.iconst 0, 1) := by decide +kernel
def f_case_0 (μ : me_M) (o : Int64 × UInt64) (s1 s2 s3 s4 s5 : Int32) : Option (me_M × (Int64 × UInt64)) :=
  me_b2 (f_L_send μ o s1 s2 s3 s4) (fun μ2 r1 =>
  me_b2 (f_M_send μ2 s1 s2 s3 s4) (fun μ4 r3 =>
  me_bd (f_M_thrown μ4) (fun r5 =>
  if r5 = (r1.2) then
  (if (r1.2) = 0 then
  (if (lg_cmp (r1.1.1) (Int32.toInt64 r3)) = 0 then
  (some (μ4, r1.1))
  else
  (none))
  else
  (some (μ4, r1.1)))
  else
  (none))))
set_option maxHeartbeats 4000000 in
set_option maxRecDepth 100000 in
theorem z_case_0 {X : me_X} {B : me_B} {μ : me_M} {b n : Nat} {xs : Nat → Int32} {i s1 s2 s3 s4 s5 : Int32} {nc ns : Nat} {ret0 : Option FieldType} (C : me_C X B RL cL_law 9 ret0) (hX : me_SX X b n xs) (hroom : me_Rm X 12 464 601024 7293034) (hB : me_St B) (h93 : ∀ i, i < B.2.1 93 → i = 0) (h94 : ∀ i, i < B.2.1 94 → i = 0) (h95 : B.2.1 95 = 0) (hn : nc + 16 ≤ 601024 ∧ ns + 128 ≤ 7293034) (h1 : me_inb (i + 1) n = true) (e1 : xs (me_ix (i + 1)) = s1) (h2 : me_inb (i + 2) n = true) (e2 : xs (me_ix (i + 2)) = s2) (h3 : me_inb (i + 3) n = true) (e3 : xs (me_ix (i + 3)) = s3) (h4 : me_inb (i + 4) n = true) (e4 : xs (me_ix (i + 4)) = s4) (h5 : me_inb (i + 5) n = true) (e5 : xs (me_ix (i + 5)) = s5) {μ' : me_M} {o' : Int64 × UInt64} (hf : f_case_0 μ B.2.2.2 s1 s2 s3 s4 s5 = some (μ', o')) (hK : me_Z X (me_ob B o') (nc + 16) (ns + 128) μ' 2789 [(0, .inl (.ref b)), (1, me_r 0 0), (2, me_r 36 0), (3, me_r 93 0), (4, me_r 94 0), (5, me_i i)] []) : me_Z X B nc ns μ 236 [(0, .inl (.ref b)), (1, me_r 0 0), (2, me_r 36 0), (3, me_r 93 0), (4, me_r 94 0), (5, me_i i)] [] := by
  unfold f_case_0 at hf
  refine me_aload_n C 1 (Or.inr (Or.inl ⟨_, rfl⟩)) dL_law_236 rfl rfl ?_
  refine me_aload_n C 0 (Or.inr (Or.inr ⟨_, rfl⟩)) dL_law_237 rfl rfl ?_
  refine me_iload C dL_law_238 rfl ?_
  refine me_iconst C (v := 1) dL_law_240 (by decide) ?_
  refine me_iadd C dL_law_241 ?_
  refine me_sld C hX h1 e1 dL_law_242 ?_
  refine me_aload_n C 0 (Or.inr (Or.inr ⟨_, rfl⟩)) dL_law_243 rfl rfl ?_
  refine me_iload C dL_law_244 rfl ?_
  refine me_iconst C (v := 2) dL_law_246 (by decide) ?_
  refine me_iadd C dL_law_247 ?_
  refine me_sld C hX h2 e2 dL_law_248 ?_
  refine me_aload_n C 0 (Or.inr (Or.inr ⟨_, rfl⟩)) dL_law_249 rfl rfl ?_
  refine me_iload C dL_law_250 rfl ?_
  refine me_iconst C (v := 3) dL_law_252 (by decide) ?_
  refine me_iadd C dL_law_253 ?_
  refine me_sld C hX h3 e3 dL_law_254 ?_
  refine me_aload_n C 0 (Or.inr (Or.inr ⟨_, rfl⟩)) dL_law_255 rfl rfl ?_
  refine me_iload C dL_law_256 rfl ?_
  refine me_iconst C (v := 4) dL_law_258 (by decide) ?_
  refine me_iadd C dL_law_259 ?_
  refine me_sld C hX h4 e4 dL_law_260 ?_
  refine me_aload_n C 3 (Or.inr (Or.inl ⟨_, rfl⟩)) dL_law_261 rfl rfl ?_
  obtain ⟨μ2, r1, h_r1, hf⟩ := me_bs2 hf
  refine me_callSH C hroom (n := 6) (As := [me_r 0 0, me_i s1, me_i s2, me_i s3, me_i s4, me_r 93 0]) (st := []) (nc + 4) (ns + 24) (c_L_send hB h93 h_r1) mh_L_send iL ⟨by decide +kernel, by decide +kernel⟩ (by decide +kernel) si_L_send ml_L_148 dL_law_262 rfl rfl ⟨by decide, by decide⟩ ⟨by omega, by omega, by omega, by omega⟩ (Nat.le_of_ble_eq_true rfl) ?_
  have hB := hB.ob r1.1
  have C := C.ob r1.1
  refine me_istore C dL_law_265 (by decide) (L' := [(6, me_i (r1.2)), (0, .inl (.ref b)), (1, me_r 0 0), (2, me_r 36 0), (3, me_r 93 0), (4, me_r 94 0), (5, me_i i)]) rfl ?_
  refine me_aload_n C 2 (Or.inr (Or.inl ⟨_, rfl⟩)) dL_law_267 rfl rfl ?_
  refine me_aload_n C 0 (Or.inr (Or.inr ⟨_, rfl⟩)) dL_law_268 rfl rfl ?_
  refine me_iload C dL_law_269 rfl ?_
  refine me_iconst C (v := 1) dL_law_271 (by decide) ?_
  refine me_iadd C dL_law_272 ?_
  refine me_sld C hX h1 e1 dL_law_273 ?_
  refine me_aload_n C 0 (Or.inr (Or.inr ⟨_, rfl⟩)) dL_law_274 rfl rfl ?_
  refine me_iload C dL_law_275 rfl ?_
  refine me_iconst C (v := 2) dL_law_277 (by decide) ?_
  refine me_iadd C dL_law_278 ?_
  refine me_sld C hX h2 e2 dL_law_279 ?_
  refine me_aload_n C 0 (Or.inr (Or.inr ⟨_, rfl⟩)) dL_law_280 rfl rfl ?_
  refine me_iload C dL_law_281 rfl ?_
  refine me_iconst C (v := 3) dL_law_283 (by decide) ?_
  refine me_iadd C dL_law_284 ?_
  refine me_sld C hX h3 e3 dL_law_285 ?_
  refine me_aload_n C 0 (Or.inr (Or.inr ⟨_, rfl⟩)) dL_law_286 rfl rfl ?_
  refine me_iload C dL_law_287 rfl ?_
  refine me_iconst C (v := 4) dL_law_289 (by decide) ?_
  refine me_iadd C dL_law_290 ?_
  refine me_sld C hX h4 e4 dL_law_291 ?_
  obtain ⟨μ4, r3, h_r3, hf⟩ := me_bs2 hf
  refine me_callVR C hroom (As := [me_i s1, me_i s2, me_i s3, me_i s4]) (st := []) (nc + 4) (ns + 24) (c_M_send hB h_r3) mv_M_send ml_L_153 rfl rfl dL_law_292 rfl rfl ⟨by decide, by decide⟩ ⟨by omega, by omega, by omega, by omega⟩ (Nat.le_of_ble_eq_true rfl) ?_
  refine me_istore C dL_law_295 (by decide) (L' := [(7, me_i r3), (6, me_i (r1.2)), (0, .inl (.ref b)), (1, me_r 0 0), (2, me_r 36 0), (3, me_r 93 0), (4, me_r 94 0), (5, me_i i)]) rfl ?_
  refine me_aload_n C 2 (Or.inr (Or.inl ⟨_, rfl⟩)) dL_law_297 rfl rfl ?_
  obtain ⟨r5, h_r5, hf⟩ := me_bs hf
  refine me_callVR C hroom (As := []) (st := []) (nc + 4) (ns + 24) (c_M_thrown hB h_r5) mv_M_thrown ml_L_154 rfl rfl dL_law_298 rfl rfl ⟨by decide, by decide⟩ ⟨by omega, by omega, by omega, by omega⟩ (Nat.le_of_ble_eq_true rfl) ?_
  refine me_iload C dL_law_301 rfl ?_
  refine me_icmp_eq C (tgt := 308) dL_law_303 (by decide) (fun c6 => ?_) (fun c6 => ?_)
  · replace hf := me_ip c6 hf
    refine me_iload C dL_law_308 rfl ?_
    refine me_if_ne C (tgt := 325) dL_law_310 (by decide) (fun c7 => ?_) (fun c7 => ?_)
    · replace hf := me_in c7 hf
      refine me_goto C (tgt := 2789) dL_law_325 (by decide) ?_
      cases hf
      refine me_wid (nc + 16) (ns + 128) (by omega) (by omega) ?_
      refine me_dropI [(0, .inl (.ref b)), (1, me_r 0 0), (2, me_r 36 0), (3, me_r 93 0), (4, me_r 94 0), (5, me_i i)] [2, 3, 4, 5, 6, 7] rfl ?_
      exact hK
    · replace hf := me_ip c7 hf
      refine me_aload_n C 3 (Or.inr (Or.inl ⟨_, rfl⟩)) dL_law_313 rfl rfl ?_
      refine me_iconst C (v := 0) dL_law_314 (by decide) ?_
      refine me_lald C dL_law_315 ?_
      refine me_iload C dL_law_316 rfl ?_
      refine me_i2l C dL_law_318 ?_
      refine me_lcmp C dL_law_319 ?_
      refine me_if_eq C (tgt := 325) dL_law_320 (by decide) (fun c8 => ?_) (fun c8 => ?_)
      · replace hf := me_ip c8 hf
        refine me_goto C (tgt := 2789) dL_law_325 (by decide) ?_
        cases hf
        refine me_wid (nc + 16) (ns + 128) (by omega) (by omega) ?_
        refine me_dropI [(0, .inl (.ref b)), (1, me_r 0 0), (2, me_r 36 0), (3, me_r 93 0), (4, me_r 94 0), (5, me_i i)] [2, 3, 4, 5, 6, 7] rfl ?_
        exact hK
      · replace hf := me_in c8 hf
        refine me_iconst C (v := 0) dL_law_323 (by decide) ?_
        cases hf
  · replace hf := me_in c6 hf
    refine me_iconst C (v := 0) dL_law_306 (by decide) ?_
    cases hf

def f_case_1 (μ : me_M) (o : Int64 × UInt64) (s1 s2 s3 s4 s5 : Int32) : Option (me_M × (Int64 × UInt64)) :=
  me_b2 (f_L_multicast μ o s1 s2 s3) (fun μ2 r1 =>
  me_b2 (f_M_multicast μ2 s1 s2 s3) (fun μ4 r3 =>
  me_bd (f_M_thrown μ4) (fun r5 =>
  if r5 = (r1.2) then
  (if (r1.2) = 0 then
  (if (lg_cmp (r1.1.1) (Int32.toInt64 r3)) = 0 then
  (some (μ4, r1.1))
  else
  (none))
  else
  (some (μ4, r1.1)))
  else
  (none))))
set_option maxHeartbeats 4000000 in
set_option maxRecDepth 100000 in
theorem z_case_1 {X : me_X} {B : me_B} {μ : me_M} {b n : Nat} {xs : Nat → Int32} {i s1 s2 s3 s4 s5 : Int32} {nc ns : Nat} {ret0 : Option FieldType} (C : me_C X B RL cL_law 9 ret0) (hX : me_SX X b n xs) (hroom : me_Rm X 12 464 601024 7293034) (hB : me_St B) (h93 : ∀ i, i < B.2.1 93 → i = 0) (h94 : ∀ i, i < B.2.1 94 → i = 0) (h95 : B.2.1 95 = 0) (hn : nc + 16 ≤ 601024 ∧ ns + 128 ≤ 7293034) (h1 : me_inb (i + 1) n = true) (e1 : xs (me_ix (i + 1)) = s1) (h2 : me_inb (i + 2) n = true) (e2 : xs (me_ix (i + 2)) = s2) (h3 : me_inb (i + 3) n = true) (e3 : xs (me_ix (i + 3)) = s3) (h4 : me_inb (i + 4) n = true) (e4 : xs (me_ix (i + 4)) = s4) (h5 : me_inb (i + 5) n = true) (e5 : xs (me_ix (i + 5)) = s5) {μ' : me_M} {o' : Int64 × UInt64} (hf : f_case_1 μ B.2.2.2 s1 s2 s3 s4 s5 = some (μ', o')) (hK : me_Z X (me_ob B o') (nc + 16) (ns + 128) μ' 2789 [(0, .inl (.ref b)), (1, me_r 0 0), (2, me_r 36 0), (3, me_r 93 0), (4, me_r 94 0), (5, me_i i)] []) : me_Z X B nc ns μ 328 [(0, .inl (.ref b)), (1, me_r 0 0), (2, me_r 36 0), (3, me_r 93 0), (4, me_r 94 0), (5, me_i i)] [] := by
  unfold f_case_1 at hf
  refine me_aload_n C 1 (Or.inr (Or.inl ⟨_, rfl⟩)) dL_law_328 rfl rfl ?_
  refine me_aload_n C 0 (Or.inr (Or.inr ⟨_, rfl⟩)) dL_law_329 rfl rfl ?_
  refine me_iload C dL_law_330 rfl ?_
  refine me_iconst C (v := 1) dL_law_332 (by decide) ?_
  refine me_iadd C dL_law_333 ?_
  refine me_sld C hX h1 e1 dL_law_334 ?_
  refine me_aload_n C 0 (Or.inr (Or.inr ⟨_, rfl⟩)) dL_law_335 rfl rfl ?_
  refine me_iload C dL_law_336 rfl ?_
  refine me_iconst C (v := 2) dL_law_338 (by decide) ?_
  refine me_iadd C dL_law_339 ?_
  refine me_sld C hX h2 e2 dL_law_340 ?_
  refine me_aload_n C 0 (Or.inr (Or.inr ⟨_, rfl⟩)) dL_law_341 rfl rfl ?_
  refine me_iload C dL_law_342 rfl ?_
  refine me_iconst C (v := 3) dL_law_344 (by decide) ?_
  refine me_iadd C dL_law_345 ?_
  refine me_sld C hX h3 e3 dL_law_346 ?_
  refine me_aload_n C 3 (Or.inr (Or.inl ⟨_, rfl⟩)) dL_law_347 rfl rfl ?_
  obtain ⟨μ2, r1, h_r1, hf⟩ := me_bs2 hf
  refine me_callSH C hroom (n := 5) (As := [me_r 0 0, me_i s1, me_i s2, me_i s3, me_r 93 0]) (st := []) (nc + 2) (ns + 12) (c_L_multicast hB h93 h_r1) mh_L_multicast iL ⟨by decide +kernel, by decide +kernel⟩ (by decide +kernel) si_L_multicast ml_L_157 dL_law_348 rfl rfl ⟨by decide, by decide⟩ ⟨by omega, by omega, by omega, by omega⟩ (Nat.le_of_ble_eq_true rfl) ?_
  have hB := hB.ob r1.1
  have C := C.ob r1.1
  refine me_istore C dL_law_351 (by decide) (L' := [(6, me_i (r1.2)), (0, .inl (.ref b)), (1, me_r 0 0), (2, me_r 36 0), (3, me_r 93 0), (4, me_r 94 0), (5, me_i i)]) rfl ?_
  refine me_aload_n C 2 (Or.inr (Or.inl ⟨_, rfl⟩)) dL_law_353 rfl rfl ?_
  refine me_aload_n C 0 (Or.inr (Or.inr ⟨_, rfl⟩)) dL_law_354 rfl rfl ?_
  refine me_iload C dL_law_355 rfl ?_
  refine me_iconst C (v := 1) dL_law_357 (by decide) ?_
  refine me_iadd C dL_law_358 ?_
  refine me_sld C hX h1 e1 dL_law_359 ?_
  refine me_aload_n C 0 (Or.inr (Or.inr ⟨_, rfl⟩)) dL_law_360 rfl rfl ?_
  refine me_iload C dL_law_361 rfl ?_
  refine me_iconst C (v := 2) dL_law_363 (by decide) ?_
  refine me_iadd C dL_law_364 ?_
  refine me_sld C hX h2 e2 dL_law_365 ?_
  refine me_aload_n C 0 (Or.inr (Or.inr ⟨_, rfl⟩)) dL_law_366 rfl rfl ?_
  refine me_iload C dL_law_367 rfl ?_
  refine me_iconst C (v := 3) dL_law_369 (by decide) ?_
  refine me_iadd C dL_law_370 ?_
  refine me_sld C hX h3 e3 dL_law_371 ?_
  obtain ⟨μ4, r3, h_r3, hf⟩ := me_bs2 hf
  refine me_callVR C hroom (As := [me_i s1, me_i s2, me_i s3]) (st := []) (nc + 2) (ns + 12) (c_M_multicast hB h_r3) mv_M_multicast ml_L_160 rfl rfl dL_law_372 rfl rfl ⟨by decide, by decide⟩ ⟨by omega, by omega, by omega, by omega⟩ (Nat.le_of_ble_eq_true rfl) ?_
  refine me_istore C dL_law_375 (by decide) (L' := [(7, me_i r3), (6, me_i (r1.2)), (0, .inl (.ref b)), (1, me_r 0 0), (2, me_r 36 0), (3, me_r 93 0), (4, me_r 94 0), (5, me_i i)]) rfl ?_
  refine me_aload_n C 2 (Or.inr (Or.inl ⟨_, rfl⟩)) dL_law_377 rfl rfl ?_
  obtain ⟨r5, h_r5, hf⟩ := me_bs hf
  refine me_callVR C hroom (As := []) (st := []) (nc + 2) (ns + 12) (c_M_thrown hB h_r5) mv_M_thrown ml_L_154 rfl rfl dL_law_378 rfl rfl ⟨by decide, by decide⟩ ⟨by omega, by omega, by omega, by omega⟩ (Nat.le_of_ble_eq_true rfl) ?_
  refine me_iload C dL_law_381 rfl ?_
  refine me_icmp_eq C (tgt := 388) dL_law_383 (by decide) (fun c6 => ?_) (fun c6 => ?_)
  · replace hf := me_ip c6 hf
    refine me_iload C dL_law_388 rfl ?_
    refine me_if_ne C (tgt := 405) dL_law_390 (by decide) (fun c7 => ?_) (fun c7 => ?_)
    · replace hf := me_in c7 hf
      refine me_goto C (tgt := 2789) dL_law_405 (by decide) ?_
      cases hf
      refine me_wid (nc + 16) (ns + 128) (by omega) (by omega) ?_
      refine me_dropI [(0, .inl (.ref b)), (1, me_r 0 0), (2, me_r 36 0), (3, me_r 93 0), (4, me_r 94 0), (5, me_i i)] [2, 3, 4, 5, 6, 7] rfl ?_
      exact hK
    · replace hf := me_ip c7 hf
      refine me_aload_n C 3 (Or.inr (Or.inl ⟨_, rfl⟩)) dL_law_393 rfl rfl ?_
      refine me_iconst C (v := 0) dL_law_394 (by decide) ?_
      refine me_lald C dL_law_395 ?_
      refine me_iload C dL_law_396 rfl ?_
      refine me_i2l C dL_law_398 ?_
      refine me_lcmp C dL_law_399 ?_
      refine me_if_eq C (tgt := 405) dL_law_400 (by decide) (fun c8 => ?_) (fun c8 => ?_)
      · replace hf := me_ip c8 hf
        refine me_goto C (tgt := 2789) dL_law_405 (by decide) ?_
        cases hf
        refine me_wid (nc + 16) (ns + 128) (by omega) (by omega) ?_
        refine me_dropI [(0, .inl (.ref b)), (1, me_r 0 0), (2, me_r 36 0), (3, me_r 93 0), (4, me_r 94 0), (5, me_i i)] [2, 3, 4, 5, 6, 7] rfl ?_
        exact hK
      · replace hf := me_in c8 hf
        refine me_iconst C (v := 0) dL_law_403 (by decide) ?_
        cases hf
  · replace hf := me_in c6 hf
    refine me_iconst C (v := 0) dL_law_386 (by decide) ?_
    cases hf

def f_case_2 (μ : me_M) (o : Int64 × UInt64) (s1 s2 s3 s4 s5 : Int32) : Option (me_M × (Int64 × UInt64)) :=
  if s4 = 0 then
  (me_b2 (f_L_ask μ o s1 s2 s3 (0 : Int32) s5) (fun μ3 r2 =>
  if s4 = 0 then
  (me_b2 (f_M_ask μ3 s1 s2 s3 (0 : Int32) s5) (fun μ6 r5 =>
  me_bd (f_M_thrown μ6) (fun r7 =>
  if r7 = (r2.2) then
  (if (r2.2) = 0 then
  (if (lg_cmp (r2.1.1) (Int32.toInt64 r5)) = 0 then
  (some (μ6, r2.1))
  else
  (none))
  else
  (some (μ6, r2.1)))
  else
  (none))))
  else
  (me_b2 (f_M_ask μ3 s1 s2 s3 (1 : Int32) s5) (fun μ12 r11 =>
  me_bd (f_M_thrown μ12) (fun r13 =>
  if r13 = (r2.2) then
  (if (r2.2) = 0 then
  (if (lg_cmp (r2.1.1) (Int32.toInt64 r11)) = 0 then
  (some (μ12, r2.1))
  else
  (none))
  else
  (some (μ12, r2.1)))
  else
  (none))))))
  else
  (me_b2 (f_L_ask μ o s1 s2 s3 (1 : Int32) s5) (fun μ18 r17 =>
  if s4 = 0 then
  (me_b2 (f_M_ask μ18 s1 s2 s3 (0 : Int32) s5) (fun μ21 r20 =>
  me_bd (f_M_thrown μ21) (fun r22 =>
  if r22 = (r17.2) then
  (if (r17.2) = 0 then
  (if (lg_cmp (r17.1.1) (Int32.toInt64 r20)) = 0 then
  (some (μ21, r17.1))
  else
  (none))
  else
  (some (μ21, r17.1)))
  else
  (none))))
  else
  (me_b2 (f_M_ask μ18 s1 s2 s3 (1 : Int32) s5) (fun μ27 r26 =>
  me_bd (f_M_thrown μ27) (fun r28 =>
  if r28 = (r17.2) then
  (if (r17.2) = 0 then
  (if (lg_cmp (r17.1.1) (Int32.toInt64 r26)) = 0 then
  (some (μ27, r17.1))
  else
  (none))
  else
  (some (μ27, r17.1)))
  else
  (none))))))
set_option maxHeartbeats 4000000 in
set_option maxRecDepth 100000 in
theorem z_case_2 {X : me_X} {B : me_B} {μ : me_M} {b n : Nat} {xs : Nat → Int32} {i s1 s2 s3 s4 s5 : Int32} {nc ns : Nat} {ret0 : Option FieldType} (C : me_C X B RL cL_law 9 ret0) (hX : me_SX X b n xs) (hroom : me_Rm X 12 464 601024 7293034) (hB : me_St B) (h93 : ∀ i, i < B.2.1 93 → i = 0) (h94 : ∀ i, i < B.2.1 94 → i = 0) (h95 : B.2.1 95 = 0) (hn : nc + 16 ≤ 601024 ∧ ns + 128 ≤ 7293034) (h1 : me_inb (i + 1) n = true) (e1 : xs (me_ix (i + 1)) = s1) (h2 : me_inb (i + 2) n = true) (e2 : xs (me_ix (i + 2)) = s2) (h3 : me_inb (i + 3) n = true) (e3 : xs (me_ix (i + 3)) = s3) (h4 : me_inb (i + 4) n = true) (e4 : xs (me_ix (i + 4)) = s4) (h5 : me_inb (i + 5) n = true) (e5 : xs (me_ix (i + 5)) = s5) {μ' : me_M} {o' : Int64 × UInt64} (hf : f_case_2 μ B.2.2.2 s1 s2 s3 s4 s5 = some (μ', o')) (hK : me_Z X (me_ob B o') (nc + 16) (ns + 128) μ' 2789 [(0, .inl (.ref b)), (1, me_r 0 0), (2, me_r 36 0), (3, me_r 93 0), (4, me_r 94 0), (5, me_i i)] []) : me_Z X B nc ns μ 408 [(0, .inl (.ref b)), (1, me_r 0 0), (2, me_r 36 0), (3, me_r 93 0), (4, me_r 94 0), (5, me_i i)] [] := by
  unfold f_case_2 at hf
  refine me_aload_n C 1 (Or.inr (Or.inl ⟨_, rfl⟩)) dL_law_408 rfl rfl ?_
  refine me_aload_n C 0 (Or.inr (Or.inr ⟨_, rfl⟩)) dL_law_409 rfl rfl ?_
  refine me_iload C dL_law_410 rfl ?_
  refine me_iconst C (v := 1) dL_law_412 (by decide) ?_
  refine me_iadd C dL_law_413 ?_
  refine me_sld C hX h1 e1 dL_law_414 ?_
  refine me_aload_n C 0 (Or.inr (Or.inr ⟨_, rfl⟩)) dL_law_415 rfl rfl ?_
  refine me_iload C dL_law_416 rfl ?_
  refine me_iconst C (v := 2) dL_law_418 (by decide) ?_
  refine me_iadd C dL_law_419 ?_
  refine me_sld C hX h2 e2 dL_law_420 ?_
  refine me_aload_n C 0 (Or.inr (Or.inr ⟨_, rfl⟩)) dL_law_421 rfl rfl ?_
  refine me_iload C dL_law_422 rfl ?_
  refine me_iconst C (v := 3) dL_law_424 (by decide) ?_
  refine me_iadd C dL_law_425 ?_
  refine me_sld C hX h3 e3 dL_law_426 ?_
  refine me_aload_n C 0 (Or.inr (Or.inr ⟨_, rfl⟩)) dL_law_427 rfl rfl ?_
  refine me_iload C dL_law_428 rfl ?_
  refine me_iconst C (v := 4) dL_law_430 (by decide) ?_
  refine me_iadd C dL_law_431 ?_
  refine me_sld C hX h4 e4 dL_law_432 ?_
  refine me_if_eq C (tgt := 440) dL_law_433 (by decide) (fun c1 => ?_) (fun c1 => ?_)
  · replace hf := me_ip c1 hf
    refine me_iconst C (v := 0) dL_law_440 (by decide) ?_
    refine me_aload_n C 0 (Or.inr (Or.inr ⟨_, rfl⟩)) dL_law_441 rfl rfl ?_
    refine me_iload C dL_law_442 rfl ?_
    refine me_iconst C (v := 5) dL_law_444 (by decide) ?_
    refine me_iadd C dL_law_445 ?_
    refine me_sld C hX h5 e5 dL_law_446 ?_
    refine me_aload_n C 3 (Or.inr (Or.inl ⟨_, rfl⟩)) dL_law_447 rfl rfl ?_
    obtain ⟨μ3, r2, h_r2, hf⟩ := me_bs2 hf
    refine me_callSH C hroom (n := 7) (As := [me_r 0 0, me_i s1, me_i s2, me_i s3, me_i (0 : Int32), me_i s5, me_r 93 0]) (st := []) (nc + 4) (ns + 24) (c_L_ask hB h93 h_r2) mh_L_ask iL ⟨by decide +kernel, by decide +kernel⟩ (by decide +kernel) si_L_ask ml_L_161 dL_law_448 rfl rfl ⟨by decide, by decide⟩ ⟨by omega, by omega, by omega, by omega⟩ (Nat.le_of_ble_eq_true rfl) ?_
    have hB := hB.ob r2.1
    have C := C.ob r2.1
    refine me_istore C dL_law_451 (by decide) (L' := [(6, me_i (r2.2)), (0, .inl (.ref b)), (1, me_r 0 0), (2, me_r 36 0), (3, me_r 93 0), (4, me_r 94 0), (5, me_i i)]) rfl ?_
    refine me_aload_n C 2 (Or.inr (Or.inl ⟨_, rfl⟩)) dL_law_453 rfl rfl ?_
    refine me_aload_n C 0 (Or.inr (Or.inr ⟨_, rfl⟩)) dL_law_454 rfl rfl ?_
    refine me_iload C dL_law_455 rfl ?_
    refine me_iconst C (v := 1) dL_law_457 (by decide) ?_
    refine me_iadd C dL_law_458 ?_
    refine me_sld C hX h1 e1 dL_law_459 ?_
    refine me_aload_n C 0 (Or.inr (Or.inr ⟨_, rfl⟩)) dL_law_460 rfl rfl ?_
    refine me_iload C dL_law_461 rfl ?_
    refine me_iconst C (v := 2) dL_law_463 (by decide) ?_
    refine me_iadd C dL_law_464 ?_
    refine me_sld C hX h2 e2 dL_law_465 ?_
    refine me_aload_n C 0 (Or.inr (Or.inr ⟨_, rfl⟩)) dL_law_466 rfl rfl ?_
    refine me_iload C dL_law_467 rfl ?_
    refine me_iconst C (v := 3) dL_law_469 (by decide) ?_
    refine me_iadd C dL_law_470 ?_
    refine me_sld C hX h3 e3 dL_law_471 ?_
    refine me_aload_n C 0 (Or.inr (Or.inr ⟨_, rfl⟩)) dL_law_472 rfl rfl ?_
    refine me_iload C dL_law_473 rfl ?_
    refine me_iconst C (v := 4) dL_law_475 (by decide) ?_
    refine me_iadd C dL_law_476 ?_
    refine me_sld C hX h4 e4 dL_law_477 ?_
    refine me_if_eq C (tgt := 485) dL_law_478 (by decide) (fun c4 => ?_) (fun c4 => ?_)
    · replace hf := me_ip c4 hf
      refine me_iconst C (v := 0) dL_law_485 (by decide) ?_
      refine me_aload_n C 0 (Or.inr (Or.inr ⟨_, rfl⟩)) dL_law_486 rfl rfl ?_
      refine me_iload C dL_law_487 rfl ?_
      refine me_iconst C (v := 5) dL_law_489 (by decide) ?_
      refine me_iadd C dL_law_490 ?_
      refine me_sld C hX h5 e5 dL_law_491 ?_
      obtain ⟨μ6, r5, h_r5, hf⟩ := me_bs2 hf
      refine me_callVR C hroom (As := [me_i s1, me_i s2, me_i s3, me_i (0 : Int32), me_i s5]) (st := []) (nc + 4) (ns + 24) (c_M_ask hB h_r5) mv_M_ask ml_L_164 rfl rfl dL_law_492 rfl rfl ⟨by decide, by decide⟩ ⟨by omega, by omega, by omega, by omega⟩ (Nat.le_of_ble_eq_true rfl) ?_
      refine me_istore C dL_law_495 (by decide) (L' := [(7, me_i r5), (6, me_i (r2.2)), (0, .inl (.ref b)), (1, me_r 0 0), (2, me_r 36 0), (3, me_r 93 0), (4, me_r 94 0), (5, me_i i)]) rfl ?_
      refine me_aload_n C 2 (Or.inr (Or.inl ⟨_, rfl⟩)) dL_law_497 rfl rfl ?_
      obtain ⟨r7, h_r7, hf⟩ := me_bs hf
      refine me_callVR C hroom (As := []) (st := []) (nc + 4) (ns + 24) (c_M_thrown hB h_r7) mv_M_thrown ml_L_154 rfl rfl dL_law_498 rfl rfl ⟨by decide, by decide⟩ ⟨by omega, by omega, by omega, by omega⟩ (Nat.le_of_ble_eq_true rfl) ?_
      refine me_iload C dL_law_501 rfl ?_
      refine me_icmp_eq C (tgt := 508) dL_law_503 (by decide) (fun c8 => ?_) (fun c8 => ?_)
      · replace hf := me_ip c8 hf
        refine me_iload C dL_law_508 rfl ?_
        refine me_if_ne C (tgt := 525) dL_law_510 (by decide) (fun c9 => ?_) (fun c9 => ?_)
        · replace hf := me_in c9 hf
          refine me_goto C (tgt := 2789) dL_law_525 (by decide) ?_
          cases hf
          refine me_wid (nc + 16) (ns + 128) (by omega) (by omega) ?_
          refine me_dropI [(0, .inl (.ref b)), (1, me_r 0 0), (2, me_r 36 0), (3, me_r 93 0), (4, me_r 94 0), (5, me_i i)] [2, 3, 4, 5, 6, 7] rfl ?_
          exact hK
        · replace hf := me_ip c9 hf
          refine me_aload_n C 3 (Or.inr (Or.inl ⟨_, rfl⟩)) dL_law_513 rfl rfl ?_
          refine me_iconst C (v := 0) dL_law_514 (by decide) ?_
          refine me_lald C dL_law_515 ?_
          refine me_iload C dL_law_516 rfl ?_
          refine me_i2l C dL_law_518 ?_
          refine me_lcmp C dL_law_519 ?_
          refine me_if_eq C (tgt := 525) dL_law_520 (by decide) (fun c10 => ?_) (fun c10 => ?_)
          · replace hf := me_ip c10 hf
            refine me_goto C (tgt := 2789) dL_law_525 (by decide) ?_
            cases hf
            refine me_wid (nc + 16) (ns + 128) (by omega) (by omega) ?_
            refine me_dropI [(0, .inl (.ref b)), (1, me_r 0 0), (2, me_r 36 0), (3, me_r 93 0), (4, me_r 94 0), (5, me_i i)] [2, 3, 4, 5, 6, 7] rfl ?_
            exact hK
          · replace hf := me_in c10 hf
            refine me_iconst C (v := 0) dL_law_523 (by decide) ?_
            cases hf
      · replace hf := me_in c8 hf
        refine me_iconst C (v := 0) dL_law_506 (by decide) ?_
        cases hf
    · replace hf := me_in c4 hf
      refine me_iconst C (v := 1) dL_law_481 (by decide) ?_
      refine me_goto C (tgt := 486) dL_law_482 (by decide) ?_
      refine me_aload_n C 0 (Or.inr (Or.inr ⟨_, rfl⟩)) dL_law_486 rfl rfl ?_
      refine me_iload C dL_law_487 rfl ?_
      refine me_iconst C (v := 5) dL_law_489 (by decide) ?_
      refine me_iadd C dL_law_490 ?_
      refine me_sld C hX h5 e5 dL_law_491 ?_
      obtain ⟨μ12, r11, h_r11, hf⟩ := me_bs2 hf
      refine me_callVR C hroom (As := [me_i s1, me_i s2, me_i s3, me_i (1 : Int32), me_i s5]) (st := []) (nc + 4) (ns + 24) (c_M_ask hB h_r11) mv_M_ask ml_L_164 rfl rfl dL_law_492 rfl rfl ⟨by decide, by decide⟩ ⟨by omega, by omega, by omega, by omega⟩ (Nat.le_of_ble_eq_true rfl) ?_
      refine me_istore C dL_law_495 (by decide) (L' := [(7, me_i r11), (6, me_i (r2.2)), (0, .inl (.ref b)), (1, me_r 0 0), (2, me_r 36 0), (3, me_r 93 0), (4, me_r 94 0), (5, me_i i)]) rfl ?_
      refine me_aload_n C 2 (Or.inr (Or.inl ⟨_, rfl⟩)) dL_law_497 rfl rfl ?_
      obtain ⟨r13, h_r13, hf⟩ := me_bs hf
      refine me_callVR C hroom (As := []) (st := []) (nc + 4) (ns + 24) (c_M_thrown hB h_r13) mv_M_thrown ml_L_154 rfl rfl dL_law_498 rfl rfl ⟨by decide, by decide⟩ ⟨by omega, by omega, by omega, by omega⟩ (Nat.le_of_ble_eq_true rfl) ?_
      refine me_iload C dL_law_501 rfl ?_
      refine me_icmp_eq C (tgt := 508) dL_law_503 (by decide) (fun c14 => ?_) (fun c14 => ?_)
      · replace hf := me_ip c14 hf
        refine me_iload C dL_law_508 rfl ?_
        refine me_if_ne C (tgt := 525) dL_law_510 (by decide) (fun c15 => ?_) (fun c15 => ?_)
        · replace hf := me_in c15 hf
          refine me_goto C (tgt := 2789) dL_law_525 (by decide) ?_
          cases hf
          refine me_wid (nc + 16) (ns + 128) (by omega) (by omega) ?_
          refine me_dropI [(0, .inl (.ref b)), (1, me_r 0 0), (2, me_r 36 0), (3, me_r 93 0), (4, me_r 94 0), (5, me_i i)] [2, 3, 4, 5, 6, 7] rfl ?_
          exact hK
        · replace hf := me_ip c15 hf
          refine me_aload_n C 3 (Or.inr (Or.inl ⟨_, rfl⟩)) dL_law_513 rfl rfl ?_
          refine me_iconst C (v := 0) dL_law_514 (by decide) ?_
          refine me_lald C dL_law_515 ?_
          refine me_iload C dL_law_516 rfl ?_
          refine me_i2l C dL_law_518 ?_
          refine me_lcmp C dL_law_519 ?_
          refine me_if_eq C (tgt := 525) dL_law_520 (by decide) (fun c16 => ?_) (fun c16 => ?_)
          · replace hf := me_ip c16 hf
            refine me_goto C (tgt := 2789) dL_law_525 (by decide) ?_
            cases hf
            refine me_wid (nc + 16) (ns + 128) (by omega) (by omega) ?_
            refine me_dropI [(0, .inl (.ref b)), (1, me_r 0 0), (2, me_r 36 0), (3, me_r 93 0), (4, me_r 94 0), (5, me_i i)] [2, 3, 4, 5, 6, 7] rfl ?_
            exact hK
          · replace hf := me_in c16 hf
            refine me_iconst C (v := 0) dL_law_523 (by decide) ?_
            cases hf
      · replace hf := me_in c14 hf
        refine me_iconst C (v := 0) dL_law_506 (by decide) ?_
        cases hf
  · replace hf := me_in c1 hf
    refine me_iconst C (v := 1) dL_law_436 (by decide) ?_
    refine me_goto C (tgt := 441) dL_law_437 (by decide) ?_
    refine me_aload_n C 0 (Or.inr (Or.inr ⟨_, rfl⟩)) dL_law_441 rfl rfl ?_
    refine me_iload C dL_law_442 rfl ?_
    refine me_iconst C (v := 5) dL_law_444 (by decide) ?_
    refine me_iadd C dL_law_445 ?_
    refine me_sld C hX h5 e5 dL_law_446 ?_
    refine me_aload_n C 3 (Or.inr (Or.inl ⟨_, rfl⟩)) dL_law_447 rfl rfl ?_
    obtain ⟨μ18, r17, h_r17, hf⟩ := me_bs2 hf
    refine me_callSH C hroom (n := 7) (As := [me_r 0 0, me_i s1, me_i s2, me_i s3, me_i (1 : Int32), me_i s5, me_r 93 0]) (st := []) (nc + 4) (ns + 24) (c_L_ask hB h93 h_r17) mh_L_ask iL ⟨by decide +kernel, by decide +kernel⟩ (by decide +kernel) si_L_ask ml_L_161 dL_law_448 rfl rfl ⟨by decide, by decide⟩ ⟨by omega, by omega, by omega, by omega⟩ (Nat.le_of_ble_eq_true rfl) ?_
    have hB := hB.ob r17.1
    have C := C.ob r17.1
    refine me_istore C dL_law_451 (by decide) (L' := [(6, me_i (r17.2)), (0, .inl (.ref b)), (1, me_r 0 0), (2, me_r 36 0), (3, me_r 93 0), (4, me_r 94 0), (5, me_i i)]) rfl ?_
    refine me_aload_n C 2 (Or.inr (Or.inl ⟨_, rfl⟩)) dL_law_453 rfl rfl ?_
    refine me_aload_n C 0 (Or.inr (Or.inr ⟨_, rfl⟩)) dL_law_454 rfl rfl ?_
    refine me_iload C dL_law_455 rfl ?_
    refine me_iconst C (v := 1) dL_law_457 (by decide) ?_
    refine me_iadd C dL_law_458 ?_
    refine me_sld C hX h1 e1 dL_law_459 ?_
    refine me_aload_n C 0 (Or.inr (Or.inr ⟨_, rfl⟩)) dL_law_460 rfl rfl ?_
    refine me_iload C dL_law_461 rfl ?_
    refine me_iconst C (v := 2) dL_law_463 (by decide) ?_
    refine me_iadd C dL_law_464 ?_
    refine me_sld C hX h2 e2 dL_law_465 ?_
    refine me_aload_n C 0 (Or.inr (Or.inr ⟨_, rfl⟩)) dL_law_466 rfl rfl ?_
    refine me_iload C dL_law_467 rfl ?_
    refine me_iconst C (v := 3) dL_law_469 (by decide) ?_
    refine me_iadd C dL_law_470 ?_
    refine me_sld C hX h3 e3 dL_law_471 ?_
    refine me_aload_n C 0 (Or.inr (Or.inr ⟨_, rfl⟩)) dL_law_472 rfl rfl ?_
    refine me_iload C dL_law_473 rfl ?_
    refine me_iconst C (v := 4) dL_law_475 (by decide) ?_
    refine me_iadd C dL_law_476 ?_
    refine me_sld C hX h4 e4 dL_law_477 ?_
    refine me_if_eq C (tgt := 485) dL_law_478 (by decide) (fun c19 => ?_) (fun c19 => ?_)
    · replace hf := me_ip c19 hf
      refine me_iconst C (v := 0) dL_law_485 (by decide) ?_
      refine me_aload_n C 0 (Or.inr (Or.inr ⟨_, rfl⟩)) dL_law_486 rfl rfl ?_
      refine me_iload C dL_law_487 rfl ?_
      refine me_iconst C (v := 5) dL_law_489 (by decide) ?_
      refine me_iadd C dL_law_490 ?_
      refine me_sld C hX h5 e5 dL_law_491 ?_
      obtain ⟨μ21, r20, h_r20, hf⟩ := me_bs2 hf
      refine me_callVR C hroom (As := [me_i s1, me_i s2, me_i s3, me_i (0 : Int32), me_i s5]) (st := []) (nc + 4) (ns + 24) (c_M_ask hB h_r20) mv_M_ask ml_L_164 rfl rfl dL_law_492 rfl rfl ⟨by decide, by decide⟩ ⟨by omega, by omega, by omega, by omega⟩ (Nat.le_of_ble_eq_true rfl) ?_
      refine me_istore C dL_law_495 (by decide) (L' := [(7, me_i r20), (6, me_i (r17.2)), (0, .inl (.ref b)), (1, me_r 0 0), (2, me_r 36 0), (3, me_r 93 0), (4, me_r 94 0), (5, me_i i)]) rfl ?_
      refine me_aload_n C 2 (Or.inr (Or.inl ⟨_, rfl⟩)) dL_law_497 rfl rfl ?_
      obtain ⟨r22, h_r22, hf⟩ := me_bs hf
      refine me_callVR C hroom (As := []) (st := []) (nc + 4) (ns + 24) (c_M_thrown hB h_r22) mv_M_thrown ml_L_154 rfl rfl dL_law_498 rfl rfl ⟨by decide, by decide⟩ ⟨by omega, by omega, by omega, by omega⟩ (Nat.le_of_ble_eq_true rfl) ?_
      refine me_iload C dL_law_501 rfl ?_
      refine me_icmp_eq C (tgt := 508) dL_law_503 (by decide) (fun c23 => ?_) (fun c23 => ?_)
      · replace hf := me_ip c23 hf
        refine me_iload C dL_law_508 rfl ?_
        refine me_if_ne C (tgt := 525) dL_law_510 (by decide) (fun c24 => ?_) (fun c24 => ?_)
        · replace hf := me_in c24 hf
          refine me_goto C (tgt := 2789) dL_law_525 (by decide) ?_
          cases hf
          refine me_wid (nc + 16) (ns + 128) (by omega) (by omega) ?_
          refine me_dropI [(0, .inl (.ref b)), (1, me_r 0 0), (2, me_r 36 0), (3, me_r 93 0), (4, me_r 94 0), (5, me_i i)] [2, 3, 4, 5, 6, 7] rfl ?_
          exact hK
        · replace hf := me_ip c24 hf
          refine me_aload_n C 3 (Or.inr (Or.inl ⟨_, rfl⟩)) dL_law_513 rfl rfl ?_
          refine me_iconst C (v := 0) dL_law_514 (by decide) ?_
          refine me_lald C dL_law_515 ?_
          refine me_iload C dL_law_516 rfl ?_
          refine me_i2l C dL_law_518 ?_
          refine me_lcmp C dL_law_519 ?_
          refine me_if_eq C (tgt := 525) dL_law_520 (by decide) (fun c25 => ?_) (fun c25 => ?_)
          · replace hf := me_ip c25 hf
            refine me_goto C (tgt := 2789) dL_law_525 (by decide) ?_
            cases hf
            refine me_wid (nc + 16) (ns + 128) (by omega) (by omega) ?_
            refine me_dropI [(0, .inl (.ref b)), (1, me_r 0 0), (2, me_r 36 0), (3, me_r 93 0), (4, me_r 94 0), (5, me_i i)] [2, 3, 4, 5, 6, 7] rfl ?_
            exact hK
          · replace hf := me_in c25 hf
            refine me_iconst C (v := 0) dL_law_523 (by decide) ?_
            cases hf
      · replace hf := me_in c23 hf
        refine me_iconst C (v := 0) dL_law_506 (by decide) ?_
        cases hf
    · replace hf := me_in c19 hf
      refine me_iconst C (v := 1) dL_law_481 (by decide) ?_
      refine me_goto C (tgt := 486) dL_law_482 (by decide) ?_
      refine me_aload_n C 0 (Or.inr (Or.inr ⟨_, rfl⟩)) dL_law_486 rfl rfl ?_
      refine me_iload C dL_law_487 rfl ?_
      refine me_iconst C (v := 5) dL_law_489 (by decide) ?_
      refine me_iadd C dL_law_490 ?_
      refine me_sld C hX h5 e5 dL_law_491 ?_
      obtain ⟨μ27, r26, h_r26, hf⟩ := me_bs2 hf
      refine me_callVR C hroom (As := [me_i s1, me_i s2, me_i s3, me_i (1 : Int32), me_i s5]) (st := []) (nc + 4) (ns + 24) (c_M_ask hB h_r26) mv_M_ask ml_L_164 rfl rfl dL_law_492 rfl rfl ⟨by decide, by decide⟩ ⟨by omega, by omega, by omega, by omega⟩ (Nat.le_of_ble_eq_true rfl) ?_
      refine me_istore C dL_law_495 (by decide) (L' := [(7, me_i r26), (6, me_i (r17.2)), (0, .inl (.ref b)), (1, me_r 0 0), (2, me_r 36 0), (3, me_r 93 0), (4, me_r 94 0), (5, me_i i)]) rfl ?_
      refine me_aload_n C 2 (Or.inr (Or.inl ⟨_, rfl⟩)) dL_law_497 rfl rfl ?_
      obtain ⟨r28, h_r28, hf⟩ := me_bs hf
      refine me_callVR C hroom (As := []) (st := []) (nc + 4) (ns + 24) (c_M_thrown hB h_r28) mv_M_thrown ml_L_154 rfl rfl dL_law_498 rfl rfl ⟨by decide, by decide⟩ ⟨by omega, by omega, by omega, by omega⟩ (Nat.le_of_ble_eq_true rfl) ?_
      refine me_iload C dL_law_501 rfl ?_
      refine me_icmp_eq C (tgt := 508) dL_law_503 (by decide) (fun c29 => ?_) (fun c29 => ?_)
      · replace hf := me_ip c29 hf
        refine me_iload C dL_law_508 rfl ?_
        refine me_if_ne C (tgt := 525) dL_law_510 (by decide) (fun c30 => ?_) (fun c30 => ?_)
        · replace hf := me_in c30 hf
          refine me_goto C (tgt := 2789) dL_law_525 (by decide) ?_
          cases hf
          refine me_wid (nc + 16) (ns + 128) (by omega) (by omega) ?_
          refine me_dropI [(0, .inl (.ref b)), (1, me_r 0 0), (2, me_r 36 0), (3, me_r 93 0), (4, me_r 94 0), (5, me_i i)] [2, 3, 4, 5, 6, 7] rfl ?_
          exact hK
        · replace hf := me_ip c30 hf
          refine me_aload_n C 3 (Or.inr (Or.inl ⟨_, rfl⟩)) dL_law_513 rfl rfl ?_
          refine me_iconst C (v := 0) dL_law_514 (by decide) ?_
          refine me_lald C dL_law_515 ?_
          refine me_iload C dL_law_516 rfl ?_
          refine me_i2l C dL_law_518 ?_
          refine me_lcmp C dL_law_519 ?_
          refine me_if_eq C (tgt := 525) dL_law_520 (by decide) (fun c31 => ?_) (fun c31 => ?_)
          · replace hf := me_ip c31 hf
            refine me_goto C (tgt := 2789) dL_law_525 (by decide) ?_
            cases hf
            refine me_wid (nc + 16) (ns + 128) (by omega) (by omega) ?_
            refine me_dropI [(0, .inl (.ref b)), (1, me_r 0 0), (2, me_r 36 0), (3, me_r 93 0), (4, me_r 94 0), (5, me_i i)] [2, 3, 4, 5, 6, 7] rfl ?_
            exact hK
          · replace hf := me_in c31 hf
            refine me_iconst C (v := 0) dL_law_523 (by decide) ?_
            cases hf
      · replace hf := me_in c29 hf
        refine me_iconst C (v := 0) dL_law_506 (by decide) ?_
        cases hf

def f_case_3 (μ : me_M) (o : Int64 × UInt64) (s1 s2 s3 s4 s5 : Int32) : Option (me_M × (Int64 × UInt64)) :=
  me_b2 (f_L_answer μ o s1) (fun μ2 r1 =>
  me_b2 (f_M_answer μ2 s1) (fun μ4 r3 =>
  me_bd (f_M_thrown μ4) (fun r5 =>
  if r5 = (r1.2) then
  (if (r1.2) = 0 then
  (if (lg_cmp (r1.1.1) (Int32.toInt64 r3)) = 0 then
  (some (μ4, r1.1))
  else
  (none))
  else
  (some (μ4, r1.1)))
  else
  (none))))
set_option maxHeartbeats 4000000 in
set_option maxRecDepth 100000 in
theorem z_case_3 {X : me_X} {B : me_B} {μ : me_M} {b n : Nat} {xs : Nat → Int32} {i s1 s2 s3 s4 s5 : Int32} {nc ns : Nat} {ret0 : Option FieldType} (C : me_C X B RL cL_law 9 ret0) (hX : me_SX X b n xs) (hroom : me_Rm X 12 464 601024 7293034) (hB : me_St B) (h93 : ∀ i, i < B.2.1 93 → i = 0) (h94 : ∀ i, i < B.2.1 94 → i = 0) (h95 : B.2.1 95 = 0) (hn : nc + 16 ≤ 601024 ∧ ns + 128 ≤ 7293034) (h1 : me_inb (i + 1) n = true) (e1 : xs (me_ix (i + 1)) = s1) (h2 : me_inb (i + 2) n = true) (e2 : xs (me_ix (i + 2)) = s2) (h3 : me_inb (i + 3) n = true) (e3 : xs (me_ix (i + 3)) = s3) (h4 : me_inb (i + 4) n = true) (e4 : xs (me_ix (i + 4)) = s4) (h5 : me_inb (i + 5) n = true) (e5 : xs (me_ix (i + 5)) = s5) {μ' : me_M} {o' : Int64 × UInt64} (hf : f_case_3 μ B.2.2.2 s1 s2 s3 s4 s5 = some (μ', o')) (hK : me_Z X (me_ob B o') (nc + 16) (ns + 128) μ' 2789 [(0, .inl (.ref b)), (1, me_r 0 0), (2, me_r 36 0), (3, me_r 93 0), (4, me_r 94 0), (5, me_i i)] []) : me_Z X B nc ns μ 528 [(0, .inl (.ref b)), (1, me_r 0 0), (2, me_r 36 0), (3, me_r 93 0), (4, me_r 94 0), (5, me_i i)] [] := by
  unfold f_case_3 at hf
  refine me_aload_n C 1 (Or.inr (Or.inl ⟨_, rfl⟩)) dL_law_528 rfl rfl ?_
  refine me_aload_n C 0 (Or.inr (Or.inr ⟨_, rfl⟩)) dL_law_529 rfl rfl ?_
  refine me_iload C dL_law_530 rfl ?_
  refine me_iconst C (v := 1) dL_law_532 (by decide) ?_
  refine me_iadd C dL_law_533 ?_
  refine me_sld C hX h1 e1 dL_law_534 ?_
  refine me_aload_n C 3 (Or.inr (Or.inl ⟨_, rfl⟩)) dL_law_535 rfl rfl ?_
  obtain ⟨μ2, r1, h_r1, hf⟩ := me_bs2 hf
  refine me_callSH C hroom (n := 3) (As := [me_r 0 0, me_i s1, me_r 93 0]) (st := []) (nc + 2) (ns + 12) (c_L_answer hB h93 h_r1) mh_L_answer iL ⟨by decide +kernel, by decide +kernel⟩ (by decide +kernel) si_L_answer ml_L_165 dL_law_536 rfl rfl ⟨by decide, by decide⟩ ⟨by omega, by omega, by omega, by omega⟩ (Nat.le_of_ble_eq_true rfl) ?_
  have hB := hB.ob r1.1
  have C := C.ob r1.1
  refine me_istore C dL_law_539 (by decide) (L' := [(6, me_i (r1.2)), (0, .inl (.ref b)), (1, me_r 0 0), (2, me_r 36 0), (3, me_r 93 0), (4, me_r 94 0), (5, me_i i)]) rfl ?_
  refine me_aload_n C 2 (Or.inr (Or.inl ⟨_, rfl⟩)) dL_law_541 rfl rfl ?_
  refine me_aload_n C 0 (Or.inr (Or.inr ⟨_, rfl⟩)) dL_law_542 rfl rfl ?_
  refine me_iload C dL_law_543 rfl ?_
  refine me_iconst C (v := 1) dL_law_545 (by decide) ?_
  refine me_iadd C dL_law_546 ?_
  refine me_sld C hX h1 e1 dL_law_547 ?_
  obtain ⟨μ4, r3, h_r3, hf⟩ := me_bs2 hf
  refine me_callVR C hroom (As := [me_i s1]) (st := []) (nc + 2) (ns + 12) (c_M_answer hB h_r3) mv_M_answer ml_L_168 rfl rfl dL_law_548 rfl rfl ⟨by decide, by decide⟩ ⟨by omega, by omega, by omega, by omega⟩ (Nat.le_of_ble_eq_true rfl) ?_
  refine me_istore C dL_law_551 (by decide) (L' := [(7, me_i r3), (6, me_i (r1.2)), (0, .inl (.ref b)), (1, me_r 0 0), (2, me_r 36 0), (3, me_r 93 0), (4, me_r 94 0), (5, me_i i)]) rfl ?_
  refine me_aload_n C 2 (Or.inr (Or.inl ⟨_, rfl⟩)) dL_law_553 rfl rfl ?_
  obtain ⟨r5, h_r5, hf⟩ := me_bs hf
  refine me_callVR C hroom (As := []) (st := []) (nc + 2) (ns + 12) (c_M_thrown hB h_r5) mv_M_thrown ml_L_154 rfl rfl dL_law_554 rfl rfl ⟨by decide, by decide⟩ ⟨by omega, by omega, by omega, by omega⟩ (Nat.le_of_ble_eq_true rfl) ?_
  refine me_iload C dL_law_557 rfl ?_
  refine me_icmp_eq C (tgt := 564) dL_law_559 (by decide) (fun c6 => ?_) (fun c6 => ?_)
  · replace hf := me_ip c6 hf
    refine me_iload C dL_law_564 rfl ?_
    refine me_if_ne C (tgt := 581) dL_law_566 (by decide) (fun c7 => ?_) (fun c7 => ?_)
    · replace hf := me_in c7 hf
      refine me_goto C (tgt := 2789) dL_law_581 (by decide) ?_
      cases hf
      refine me_wid (nc + 16) (ns + 128) (by omega) (by omega) ?_
      refine me_dropI [(0, .inl (.ref b)), (1, me_r 0 0), (2, me_r 36 0), (3, me_r 93 0), (4, me_r 94 0), (5, me_i i)] [2, 3, 4, 5, 6, 7] rfl ?_
      exact hK
    · replace hf := me_ip c7 hf
      refine me_aload_n C 3 (Or.inr (Or.inl ⟨_, rfl⟩)) dL_law_569 rfl rfl ?_
      refine me_iconst C (v := 0) dL_law_570 (by decide) ?_
      refine me_lald C dL_law_571 ?_
      refine me_iload C dL_law_572 rfl ?_
      refine me_i2l C dL_law_574 ?_
      refine me_lcmp C dL_law_575 ?_
      refine me_if_eq C (tgt := 581) dL_law_576 (by decide) (fun c8 => ?_) (fun c8 => ?_)
      · replace hf := me_ip c8 hf
        refine me_goto C (tgt := 2789) dL_law_581 (by decide) ?_
        cases hf
        refine me_wid (nc + 16) (ns + 128) (by omega) (by omega) ?_
        refine me_dropI [(0, .inl (.ref b)), (1, me_r 0 0), (2, me_r 36 0), (3, me_r 93 0), (4, me_r 94 0), (5, me_i i)] [2, 3, 4, 5, 6, 7] rfl ?_
        exact hK
      · replace hf := me_in c8 hf
        refine me_iconst C (v := 0) dL_law_579 (by decide) ?_
        cases hf
  · replace hf := me_in c6 hf
    refine me_iconst C (v := 0) dL_law_562 (by decide) ?_
    cases hf

def f_case_4 (μ : me_M) (o : Int64 × UInt64) (s1 s2 s3 s4 s5 : Int32) : Option (me_M × (Int64 × UInt64)) :=
  me_b2 (f_L_kind μ o s1) (fun μ2 r1 =>
  me_b2 (f_M_kind μ2 s1) (fun μ4 r3 =>
  me_bd (f_M_thrown μ4) (fun r5 =>
  if r5 = (r1.2) then
  (if (r1.2) = 0 then
  (if (lg_cmp (r1.1.1) (Int32.toInt64 r3)) = 0 then
  (some (μ4, r1.1))
  else
  (none))
  else
  (some (μ4, r1.1)))
  else
  (none))))
set_option maxHeartbeats 4000000 in
set_option maxRecDepth 100000 in
theorem z_case_4 {X : me_X} {B : me_B} {μ : me_M} {b n : Nat} {xs : Nat → Int32} {i s1 s2 s3 s4 s5 : Int32} {nc ns : Nat} {ret0 : Option FieldType} (C : me_C X B RL cL_law 9 ret0) (hX : me_SX X b n xs) (hroom : me_Rm X 12 464 601024 7293034) (hB : me_St B) (h93 : ∀ i, i < B.2.1 93 → i = 0) (h94 : ∀ i, i < B.2.1 94 → i = 0) (h95 : B.2.1 95 = 0) (hn : nc + 16 ≤ 601024 ∧ ns + 128 ≤ 7293034) (h1 : me_inb (i + 1) n = true) (e1 : xs (me_ix (i + 1)) = s1) (h2 : me_inb (i + 2) n = true) (e2 : xs (me_ix (i + 2)) = s2) (h3 : me_inb (i + 3) n = true) (e3 : xs (me_ix (i + 3)) = s3) (h4 : me_inb (i + 4) n = true) (e4 : xs (me_ix (i + 4)) = s4) (h5 : me_inb (i + 5) n = true) (e5 : xs (me_ix (i + 5)) = s5) {μ' : me_M} {o' : Int64 × UInt64} (hf : f_case_4 μ B.2.2.2 s1 s2 s3 s4 s5 = some (μ', o')) (hK : me_Z X (me_ob B o') (nc + 16) (ns + 128) μ' 2789 [(0, .inl (.ref b)), (1, me_r 0 0), (2, me_r 36 0), (3, me_r 93 0), (4, me_r 94 0), (5, me_i i)] []) : me_Z X B nc ns μ 584 [(0, .inl (.ref b)), (1, me_r 0 0), (2, me_r 36 0), (3, me_r 93 0), (4, me_r 94 0), (5, me_i i)] [] := by
  unfold f_case_4 at hf
  refine me_aload_n C 1 (Or.inr (Or.inl ⟨_, rfl⟩)) dL_law_584 rfl rfl ?_
  refine me_aload_n C 0 (Or.inr (Or.inr ⟨_, rfl⟩)) dL_law_585 rfl rfl ?_
  refine me_iload C dL_law_586 rfl ?_
  refine me_iconst C (v := 1) dL_law_588 (by decide) ?_
  refine me_iadd C dL_law_589 ?_
  refine me_sld C hX h1 e1 dL_law_590 ?_
  refine me_aload_n C 3 (Or.inr (Or.inl ⟨_, rfl⟩)) dL_law_591 rfl rfl ?_
  obtain ⟨μ2, r1, h_r1, hf⟩ := me_bs2 hf
  refine me_callSH C hroom (n := 3) (As := [me_r 0 0, me_i s1, me_r 93 0]) (st := []) (nc + 1) (ns + 6) (c_L_kind hB h93 h_r1) mh_L_kind iL ⟨by decide +kernel, by decide +kernel⟩ (by decide +kernel) si_L_kind ml_L_169 dL_law_592 rfl rfl ⟨by decide, by decide⟩ ⟨by omega, by omega, by omega, by omega⟩ (Nat.le_of_ble_eq_true rfl) ?_
  have hB := hB.ob r1.1
  have C := C.ob r1.1
  refine me_istore C dL_law_595 (by decide) (L' := [(6, me_i (r1.2)), (0, .inl (.ref b)), (1, me_r 0 0), (2, me_r 36 0), (3, me_r 93 0), (4, me_r 94 0), (5, me_i i)]) rfl ?_
  refine me_aload_n C 2 (Or.inr (Or.inl ⟨_, rfl⟩)) dL_law_597 rfl rfl ?_
  refine me_aload_n C 0 (Or.inr (Or.inr ⟨_, rfl⟩)) dL_law_598 rfl rfl ?_
  refine me_iload C dL_law_599 rfl ?_
  refine me_iconst C (v := 1) dL_law_601 (by decide) ?_
  refine me_iadd C dL_law_602 ?_
  refine me_sld C hX h1 e1 dL_law_603 ?_
  obtain ⟨μ4, r3, h_r3, hf⟩ := me_bs2 hf
  refine me_callVR C hroom (As := [me_i s1]) (st := []) (nc + 1) (ns + 6) (c_M_kind hB h_r3) mv_M_kind ml_L_171 rfl rfl dL_law_604 rfl rfl ⟨by decide, by decide⟩ ⟨by omega, by omega, by omega, by omega⟩ (Nat.le_of_ble_eq_true rfl) ?_
  refine me_istore C dL_law_607 (by decide) (L' := [(7, me_i r3), (6, me_i (r1.2)), (0, .inl (.ref b)), (1, me_r 0 0), (2, me_r 36 0), (3, me_r 93 0), (4, me_r 94 0), (5, me_i i)]) rfl ?_
  refine me_aload_n C 2 (Or.inr (Or.inl ⟨_, rfl⟩)) dL_law_609 rfl rfl ?_
  obtain ⟨r5, h_r5, hf⟩ := me_bs hf
  refine me_callVR C hroom (As := []) (st := []) (nc + 1) (ns + 6) (c_M_thrown hB h_r5) mv_M_thrown ml_L_154 rfl rfl dL_law_610 rfl rfl ⟨by decide, by decide⟩ ⟨by omega, by omega, by omega, by omega⟩ (Nat.le_of_ble_eq_true rfl) ?_
  refine me_iload C dL_law_613 rfl ?_
  refine me_icmp_eq C (tgt := 620) dL_law_615 (by decide) (fun c6 => ?_) (fun c6 => ?_)
  · replace hf := me_ip c6 hf
    refine me_iload C dL_law_620 rfl ?_
    refine me_if_ne C (tgt := 637) dL_law_622 (by decide) (fun c7 => ?_) (fun c7 => ?_)
    · replace hf := me_in c7 hf
      refine me_goto C (tgt := 2789) dL_law_637 (by decide) ?_
      cases hf
      refine me_wid (nc + 16) (ns + 128) (by omega) (by omega) ?_
      refine me_dropI [(0, .inl (.ref b)), (1, me_r 0 0), (2, me_r 36 0), (3, me_r 93 0), (4, me_r 94 0), (5, me_i i)] [2, 3, 4, 5, 6, 7] rfl ?_
      exact hK
    · replace hf := me_ip c7 hf
      refine me_aload_n C 3 (Or.inr (Or.inl ⟨_, rfl⟩)) dL_law_625 rfl rfl ?_
      refine me_iconst C (v := 0) dL_law_626 (by decide) ?_
      refine me_lald C dL_law_627 ?_
      refine me_iload C dL_law_628 rfl ?_
      refine me_i2l C dL_law_630 ?_
      refine me_lcmp C dL_law_631 ?_
      refine me_if_eq C (tgt := 637) dL_law_632 (by decide) (fun c8 => ?_) (fun c8 => ?_)
      · replace hf := me_ip c8 hf
        refine me_goto C (tgt := 2789) dL_law_637 (by decide) ?_
        cases hf
        refine me_wid (nc + 16) (ns + 128) (by omega) (by omega) ?_
        refine me_dropI [(0, .inl (.ref b)), (1, me_r 0 0), (2, me_r 36 0), (3, me_r 93 0), (4, me_r 94 0), (5, me_i i)] [2, 3, 4, 5, 6, 7] rfl ?_
        exact hK
      · replace hf := me_in c8 hf
        refine me_iconst C (v := 0) dL_law_635 (by decide) ?_
        cases hf
  · replace hf := me_in c6 hf
    refine me_iconst C (v := 0) dL_law_618 (by decide) ?_
    cases hf

def f_case_5 (μ : me_M) (o : Int64 × UInt64) (s1 s2 s3 s4 s5 : Int32) : Option (me_M × (Int64 × UInt64)) :=
  me_b2 (f_L_state μ o s1) (fun μ2 r1 =>
  me_b2 (f_M_state μ2 s1) (fun μ4 r3 =>
  me_bd (f_M_thrown μ4) (fun r5 =>
  if r5 = (r1.2) then
  (if (r1.2) = 0 then
  (if (lg_cmp (r1.1.1) (Int32.toInt64 r3)) = 0 then
  (some (μ4, r1.1))
  else
  (none))
  else
  (some (μ4, r1.1)))
  else
  (none))))
set_option maxHeartbeats 4000000 in
set_option maxRecDepth 100000 in
theorem z_case_5 {X : me_X} {B : me_B} {μ : me_M} {b n : Nat} {xs : Nat → Int32} {i s1 s2 s3 s4 s5 : Int32} {nc ns : Nat} {ret0 : Option FieldType} (C : me_C X B RL cL_law 9 ret0) (hX : me_SX X b n xs) (hroom : me_Rm X 12 464 601024 7293034) (hB : me_St B) (h93 : ∀ i, i < B.2.1 93 → i = 0) (h94 : ∀ i, i < B.2.1 94 → i = 0) (h95 : B.2.1 95 = 0) (hn : nc + 16 ≤ 601024 ∧ ns + 128 ≤ 7293034) (h1 : me_inb (i + 1) n = true) (e1 : xs (me_ix (i + 1)) = s1) (h2 : me_inb (i + 2) n = true) (e2 : xs (me_ix (i + 2)) = s2) (h3 : me_inb (i + 3) n = true) (e3 : xs (me_ix (i + 3)) = s3) (h4 : me_inb (i + 4) n = true) (e4 : xs (me_ix (i + 4)) = s4) (h5 : me_inb (i + 5) n = true) (e5 : xs (me_ix (i + 5)) = s5) {μ' : me_M} {o' : Int64 × UInt64} (hf : f_case_5 μ B.2.2.2 s1 s2 s3 s4 s5 = some (μ', o')) (hK : me_Z X (me_ob B o') (nc + 16) (ns + 128) μ' 2789 [(0, .inl (.ref b)), (1, me_r 0 0), (2, me_r 36 0), (3, me_r 93 0), (4, me_r 94 0), (5, me_i i)] []) : me_Z X B nc ns μ 640 [(0, .inl (.ref b)), (1, me_r 0 0), (2, me_r 36 0), (3, me_r 93 0), (4, me_r 94 0), (5, me_i i)] [] := by
  unfold f_case_5 at hf
  refine me_aload_n C 1 (Or.inr (Or.inl ⟨_, rfl⟩)) dL_law_640 rfl rfl ?_
  refine me_aload_n C 0 (Or.inr (Or.inr ⟨_, rfl⟩)) dL_law_641 rfl rfl ?_
  refine me_iload C dL_law_642 rfl ?_
  refine me_iconst C (v := 1) dL_law_644 (by decide) ?_
  refine me_iadd C dL_law_645 ?_
  refine me_sld C hX h1 e1 dL_law_646 ?_
  refine me_aload_n C 3 (Or.inr (Or.inl ⟨_, rfl⟩)) dL_law_647 rfl rfl ?_
  obtain ⟨μ2, r1, h_r1, hf⟩ := me_bs2 hf
  refine me_callSH C hroom (n := 3) (As := [me_r 0 0, me_i s1, me_r 93 0]) (st := []) (nc + 1) (ns + 6) (c_L_state hB h93 h_r1) mh_L_state iL ⟨by decide +kernel, by decide +kernel⟩ (by decide +kernel) si_L_state ml_L_172 dL_law_648 rfl rfl ⟨by decide, by decide⟩ ⟨by omega, by omega, by omega, by omega⟩ (Nat.le_of_ble_eq_true rfl) ?_
  have hB := hB.ob r1.1
  have C := C.ob r1.1
  refine me_istore C dL_law_651 (by decide) (L' := [(6, me_i (r1.2)), (0, .inl (.ref b)), (1, me_r 0 0), (2, me_r 36 0), (3, me_r 93 0), (4, me_r 94 0), (5, me_i i)]) rfl ?_
  refine me_aload_n C 2 (Or.inr (Or.inl ⟨_, rfl⟩)) dL_law_653 rfl rfl ?_
  refine me_aload_n C 0 (Or.inr (Or.inr ⟨_, rfl⟩)) dL_law_654 rfl rfl ?_
  refine me_iload C dL_law_655 rfl ?_
  refine me_iconst C (v := 1) dL_law_657 (by decide) ?_
  refine me_iadd C dL_law_658 ?_
  refine me_sld C hX h1 e1 dL_law_659 ?_
  obtain ⟨μ4, r3, h_r3, hf⟩ := me_bs2 hf
  refine me_callVR C hroom (As := [me_i s1]) (st := []) (nc + 1) (ns + 6) (c_M_state hB h_r3) mv_M_state ml_L_174 rfl rfl dL_law_660 rfl rfl ⟨by decide, by decide⟩ ⟨by omega, by omega, by omega, by omega⟩ (Nat.le_of_ble_eq_true rfl) ?_
  refine me_istore C dL_law_663 (by decide) (L' := [(7, me_i r3), (6, me_i (r1.2)), (0, .inl (.ref b)), (1, me_r 0 0), (2, me_r 36 0), (3, me_r 93 0), (4, me_r 94 0), (5, me_i i)]) rfl ?_
  refine me_aload_n C 2 (Or.inr (Or.inl ⟨_, rfl⟩)) dL_law_665 rfl rfl ?_
  obtain ⟨r5, h_r5, hf⟩ := me_bs hf
  refine me_callVR C hroom (As := []) (st := []) (nc + 1) (ns + 6) (c_M_thrown hB h_r5) mv_M_thrown ml_L_154 rfl rfl dL_law_666 rfl rfl ⟨by decide, by decide⟩ ⟨by omega, by omega, by omega, by omega⟩ (Nat.le_of_ble_eq_true rfl) ?_
  refine me_iload C dL_law_669 rfl ?_
  refine me_icmp_eq C (tgt := 676) dL_law_671 (by decide) (fun c6 => ?_) (fun c6 => ?_)
  · replace hf := me_ip c6 hf
    refine me_iload C dL_law_676 rfl ?_
    refine me_if_ne C (tgt := 693) dL_law_678 (by decide) (fun c7 => ?_) (fun c7 => ?_)
    · replace hf := me_in c7 hf
      refine me_goto C (tgt := 2789) dL_law_693 (by decide) ?_
      cases hf
      refine me_wid (nc + 16) (ns + 128) (by omega) (by omega) ?_
      refine me_dropI [(0, .inl (.ref b)), (1, me_r 0 0), (2, me_r 36 0), (3, me_r 93 0), (4, me_r 94 0), (5, me_i i)] [2, 3, 4, 5, 6, 7] rfl ?_
      exact hK
    · replace hf := me_ip c7 hf
      refine me_aload_n C 3 (Or.inr (Or.inl ⟨_, rfl⟩)) dL_law_681 rfl rfl ?_
      refine me_iconst C (v := 0) dL_law_682 (by decide) ?_
      refine me_lald C dL_law_683 ?_
      refine me_iload C dL_law_684 rfl ?_
      refine me_i2l C dL_law_686 ?_
      refine me_lcmp C dL_law_687 ?_
      refine me_if_eq C (tgt := 693) dL_law_688 (by decide) (fun c8 => ?_) (fun c8 => ?_)
      · replace hf := me_ip c8 hf
        refine me_goto C (tgt := 2789) dL_law_693 (by decide) ?_
        cases hf
        refine me_wid (nc + 16) (ns + 128) (by omega) (by omega) ?_
        refine me_dropI [(0, .inl (.ref b)), (1, me_r 0 0), (2, me_r 36 0), (3, me_r 93 0), (4, me_r 94 0), (5, me_i i)] [2, 3, 4, 5, 6, 7] rfl ?_
        exact hK
      · replace hf := me_in c8 hf
        refine me_iconst C (v := 0) dL_law_691 (by decide) ?_
        cases hf
  · replace hf := me_in c6 hf
    refine me_iconst C (v := 0) dL_law_674 (by decide) ?_
    cases hf

def f_case_6 (μ : me_M) (o : Int64 × UInt64) (s1 s2 s3 s4 s5 : Int32) : Option (me_M × (Int64 × UInt64)) :=
  me_b2 (f_L_word μ o s1) (fun μ2 r1 =>
  me_b2 (f_M_word μ2 s1) (fun μ4 r3 =>
  me_bd (f_M_thrown μ4) (fun r5 =>
  if r5 = (r1.2) then
  (if (r1.2) = 0 then
  (if (lg_cmp (r1.1.1) (Int32.toInt64 r3)) = 0 then
  (some (μ4, r1.1))
  else
  (none))
  else
  (some (μ4, r1.1)))
  else
  (none))))
set_option maxHeartbeats 4000000 in
set_option maxRecDepth 100000 in
theorem z_case_6 {X : me_X} {B : me_B} {μ : me_M} {b n : Nat} {xs : Nat → Int32} {i s1 s2 s3 s4 s5 : Int32} {nc ns : Nat} {ret0 : Option FieldType} (C : me_C X B RL cL_law 9 ret0) (hX : me_SX X b n xs) (hroom : me_Rm X 12 464 601024 7293034) (hB : me_St B) (h93 : ∀ i, i < B.2.1 93 → i = 0) (h94 : ∀ i, i < B.2.1 94 → i = 0) (h95 : B.2.1 95 = 0) (hn : nc + 16 ≤ 601024 ∧ ns + 128 ≤ 7293034) (h1 : me_inb (i + 1) n = true) (e1 : xs (me_ix (i + 1)) = s1) (h2 : me_inb (i + 2) n = true) (e2 : xs (me_ix (i + 2)) = s2) (h3 : me_inb (i + 3) n = true) (e3 : xs (me_ix (i + 3)) = s3) (h4 : me_inb (i + 4) n = true) (e4 : xs (me_ix (i + 4)) = s4) (h5 : me_inb (i + 5) n = true) (e5 : xs (me_ix (i + 5)) = s5) {μ' : me_M} {o' : Int64 × UInt64} (hf : f_case_6 μ B.2.2.2 s1 s2 s3 s4 s5 = some (μ', o')) (hK : me_Z X (me_ob B o') (nc + 16) (ns + 128) μ' 2789 [(0, .inl (.ref b)), (1, me_r 0 0), (2, me_r 36 0), (3, me_r 93 0), (4, me_r 94 0), (5, me_i i)] []) : me_Z X B nc ns μ 696 [(0, .inl (.ref b)), (1, me_r 0 0), (2, me_r 36 0), (3, me_r 93 0), (4, me_r 94 0), (5, me_i i)] [] := by
  unfold f_case_6 at hf
  refine me_aload_n C 1 (Or.inr (Or.inl ⟨_, rfl⟩)) dL_law_696 rfl rfl ?_
  refine me_aload_n C 0 (Or.inr (Or.inr ⟨_, rfl⟩)) dL_law_697 rfl rfl ?_
  refine me_iload C dL_law_698 rfl ?_
  refine me_iconst C (v := 1) dL_law_700 (by decide) ?_
  refine me_iadd C dL_law_701 ?_
  refine me_sld C hX h1 e1 dL_law_702 ?_
  refine me_aload_n C 3 (Or.inr (Or.inl ⟨_, rfl⟩)) dL_law_703 rfl rfl ?_
  obtain ⟨μ2, r1, h_r1, hf⟩ := me_bs2 hf
  refine me_callSH C hroom (n := 3) (As := [me_r 0 0, me_i s1, me_r 93 0]) (st := []) (nc + 1) (ns + 6) (c_L_word hB h93 h_r1) mh_L_word iL ⟨by decide +kernel, by decide +kernel⟩ (by decide +kernel) si_L_word ml_L_175 dL_law_704 rfl rfl ⟨by decide, by decide⟩ ⟨by omega, by omega, by omega, by omega⟩ (Nat.le_of_ble_eq_true rfl) ?_
  have hB := hB.ob r1.1
  have C := C.ob r1.1
  refine me_istore C dL_law_707 (by decide) (L' := [(6, me_i (r1.2)), (0, .inl (.ref b)), (1, me_r 0 0), (2, me_r 36 0), (3, me_r 93 0), (4, me_r 94 0), (5, me_i i)]) rfl ?_
  refine me_aload_n C 2 (Or.inr (Or.inl ⟨_, rfl⟩)) dL_law_709 rfl rfl ?_
  refine me_aload_n C 0 (Or.inr (Or.inr ⟨_, rfl⟩)) dL_law_710 rfl rfl ?_
  refine me_iload C dL_law_711 rfl ?_
  refine me_iconst C (v := 1) dL_law_713 (by decide) ?_
  refine me_iadd C dL_law_714 ?_
  refine me_sld C hX h1 e1 dL_law_715 ?_
  obtain ⟨μ4, r3, h_r3, hf⟩ := me_bs2 hf
  refine me_callVR C hroom (As := [me_i s1]) (st := []) (nc + 1) (ns + 6) (c_M_word hB h_r3) mv_M_word ml_L_177 rfl rfl dL_law_716 rfl rfl ⟨by decide, by decide⟩ ⟨by omega, by omega, by omega, by omega⟩ (Nat.le_of_ble_eq_true rfl) ?_
  refine me_istore C dL_law_719 (by decide) (L' := [(7, me_i r3), (6, me_i (r1.2)), (0, .inl (.ref b)), (1, me_r 0 0), (2, me_r 36 0), (3, me_r 93 0), (4, me_r 94 0), (5, me_i i)]) rfl ?_
  refine me_aload_n C 2 (Or.inr (Or.inl ⟨_, rfl⟩)) dL_law_721 rfl rfl ?_
  obtain ⟨r5, h_r5, hf⟩ := me_bs hf
  refine me_callVR C hroom (As := []) (st := []) (nc + 1) (ns + 6) (c_M_thrown hB h_r5) mv_M_thrown ml_L_154 rfl rfl dL_law_722 rfl rfl ⟨by decide, by decide⟩ ⟨by omega, by omega, by omega, by omega⟩ (Nat.le_of_ble_eq_true rfl) ?_
  refine me_iload C dL_law_725 rfl ?_
  refine me_icmp_eq C (tgt := 732) dL_law_727 (by decide) (fun c6 => ?_) (fun c6 => ?_)
  · replace hf := me_ip c6 hf
    refine me_iload C dL_law_732 rfl ?_
    refine me_if_ne C (tgt := 749) dL_law_734 (by decide) (fun c7 => ?_) (fun c7 => ?_)
    · replace hf := me_in c7 hf
      refine me_goto C (tgt := 2789) dL_law_749 (by decide) ?_
      cases hf
      refine me_wid (nc + 16) (ns + 128) (by omega) (by omega) ?_
      refine me_dropI [(0, .inl (.ref b)), (1, me_r 0 0), (2, me_r 36 0), (3, me_r 93 0), (4, me_r 94 0), (5, me_i i)] [2, 3, 4, 5, 6, 7] rfl ?_
      exact hK
    · replace hf := me_ip c7 hf
      refine me_aload_n C 3 (Or.inr (Or.inl ⟨_, rfl⟩)) dL_law_737 rfl rfl ?_
      refine me_iconst C (v := 0) dL_law_738 (by decide) ?_
      refine me_lald C dL_law_739 ?_
      refine me_iload C dL_law_740 rfl ?_
      refine me_i2l C dL_law_742 ?_
      refine me_lcmp C dL_law_743 ?_
      refine me_if_eq C (tgt := 749) dL_law_744 (by decide) (fun c8 => ?_) (fun c8 => ?_)
      · replace hf := me_ip c8 hf
        refine me_goto C (tgt := 2789) dL_law_749 (by decide) ?_
        cases hf
        refine me_wid (nc + 16) (ns + 128) (by omega) (by omega) ?_
        refine me_dropI [(0, .inl (.ref b)), (1, me_r 0 0), (2, me_r 36 0), (3, me_r 93 0), (4, me_r 94 0), (5, me_i i)] [2, 3, 4, 5, 6, 7] rfl ?_
        exact hK
      · replace hf := me_in c8 hf
        refine me_iconst C (v := 0) dL_law_747 (by decide) ?_
        cases hf
  · replace hf := me_in c6 hf
    refine me_iconst C (v := 0) dL_law_730 (by decide) ?_
    cases hf

def f_case_7 (μ : me_M) (o : Int64 × UInt64) (s1 s2 s3 s4 s5 : Int32) : Option (me_M × (Int64 × UInt64)) :=
  me_b2 (f_L_head μ o s1) (fun μ2 r1 =>
  me_b2 (f_M_head μ2 s1) (fun μ4 r3 =>
  me_bd (f_M_thrown μ4) (fun r5 =>
  if r5 = (r1.2) then
  (if (r1.2) = 0 then
  (if (lg_cmp (r1.1.1) (Int32.toInt64 r3)) = 0 then
  (some (μ4, r1.1))
  else
  (none))
  else
  (some (μ4, r1.1)))
  else
  (none))))
set_option maxHeartbeats 4000000 in
set_option maxRecDepth 100000 in
theorem z_case_7 {X : me_X} {B : me_B} {μ : me_M} {b n : Nat} {xs : Nat → Int32} {i s1 s2 s3 s4 s5 : Int32} {nc ns : Nat} {ret0 : Option FieldType} (C : me_C X B RL cL_law 9 ret0) (hX : me_SX X b n xs) (hroom : me_Rm X 12 464 601024 7293034) (hB : me_St B) (h93 : ∀ i, i < B.2.1 93 → i = 0) (h94 : ∀ i, i < B.2.1 94 → i = 0) (h95 : B.2.1 95 = 0) (hn : nc + 16 ≤ 601024 ∧ ns + 128 ≤ 7293034) (h1 : me_inb (i + 1) n = true) (e1 : xs (me_ix (i + 1)) = s1) (h2 : me_inb (i + 2) n = true) (e2 : xs (me_ix (i + 2)) = s2) (h3 : me_inb (i + 3) n = true) (e3 : xs (me_ix (i + 3)) = s3) (h4 : me_inb (i + 4) n = true) (e4 : xs (me_ix (i + 4)) = s4) (h5 : me_inb (i + 5) n = true) (e5 : xs (me_ix (i + 5)) = s5) {μ' : me_M} {o' : Int64 × UInt64} (hf : f_case_7 μ B.2.2.2 s1 s2 s3 s4 s5 = some (μ', o')) (hK : me_Z X (me_ob B o') (nc + 16) (ns + 128) μ' 2789 [(0, .inl (.ref b)), (1, me_r 0 0), (2, me_r 36 0), (3, me_r 93 0), (4, me_r 94 0), (5, me_i i)] []) : me_Z X B nc ns μ 752 [(0, .inl (.ref b)), (1, me_r 0 0), (2, me_r 36 0), (3, me_r 93 0), (4, me_r 94 0), (5, me_i i)] [] := by
  unfold f_case_7 at hf
  refine me_aload_n C 1 (Or.inr (Or.inl ⟨_, rfl⟩)) dL_law_752 rfl rfl ?_
  refine me_aload_n C 0 (Or.inr (Or.inr ⟨_, rfl⟩)) dL_law_753 rfl rfl ?_
  refine me_iload C dL_law_754 rfl ?_
  refine me_iconst C (v := 1) dL_law_756 (by decide) ?_
  refine me_iadd C dL_law_757 ?_
  refine me_sld C hX h1 e1 dL_law_758 ?_
  refine me_aload_n C 3 (Or.inr (Or.inl ⟨_, rfl⟩)) dL_law_759 rfl rfl ?_
  obtain ⟨μ2, r1, h_r1, hf⟩ := me_bs2 hf
  refine me_callSH C hroom (n := 3) (As := [me_r 0 0, me_i s1, me_r 93 0]) (st := []) (nc + 2) (ns + 12) (c_L_head hB h93 h_r1) mh_L_head iL ⟨by decide +kernel, by decide +kernel⟩ (by decide +kernel) si_L_head ml_L_178 dL_law_760 rfl rfl ⟨by decide, by decide⟩ ⟨by omega, by omega, by omega, by omega⟩ (Nat.le_of_ble_eq_true rfl) ?_
  have hB := hB.ob r1.1
  have C := C.ob r1.1
  refine me_istore C dL_law_763 (by decide) (L' := [(6, me_i (r1.2)), (0, .inl (.ref b)), (1, me_r 0 0), (2, me_r 36 0), (3, me_r 93 0), (4, me_r 94 0), (5, me_i i)]) rfl ?_
  refine me_aload_n C 2 (Or.inr (Or.inl ⟨_, rfl⟩)) dL_law_765 rfl rfl ?_
  refine me_aload_n C 0 (Or.inr (Or.inr ⟨_, rfl⟩)) dL_law_766 rfl rfl ?_
  refine me_iload C dL_law_767 rfl ?_
  refine me_iconst C (v := 1) dL_law_769 (by decide) ?_
  refine me_iadd C dL_law_770 ?_
  refine me_sld C hX h1 e1 dL_law_771 ?_
  obtain ⟨μ4, r3, h_r3, hf⟩ := me_bs2 hf
  refine me_callVR C hroom (As := [me_i s1]) (st := []) (nc + 2) (ns + 12) (c_M_head hB h_r3) mv_M_head ml_L_180 rfl rfl dL_law_772 rfl rfl ⟨by decide, by decide⟩ ⟨by omega, by omega, by omega, by omega⟩ (Nat.le_of_ble_eq_true rfl) ?_
  refine me_istore C dL_law_775 (by decide) (L' := [(7, me_i r3), (6, me_i (r1.2)), (0, .inl (.ref b)), (1, me_r 0 0), (2, me_r 36 0), (3, me_r 93 0), (4, me_r 94 0), (5, me_i i)]) rfl ?_
  refine me_aload_n C 2 (Or.inr (Or.inl ⟨_, rfl⟩)) dL_law_777 rfl rfl ?_
  obtain ⟨r5, h_r5, hf⟩ := me_bs hf
  refine me_callVR C hroom (As := []) (st := []) (nc + 2) (ns + 12) (c_M_thrown hB h_r5) mv_M_thrown ml_L_154 rfl rfl dL_law_778 rfl rfl ⟨by decide, by decide⟩ ⟨by omega, by omega, by omega, by omega⟩ (Nat.le_of_ble_eq_true rfl) ?_
  refine me_iload C dL_law_781 rfl ?_
  refine me_icmp_eq C (tgt := 788) dL_law_783 (by decide) (fun c6 => ?_) (fun c6 => ?_)
  · replace hf := me_ip c6 hf
    refine me_iload C dL_law_788 rfl ?_
    refine me_if_ne C (tgt := 805) dL_law_790 (by decide) (fun c7 => ?_) (fun c7 => ?_)
    · replace hf := me_in c7 hf
      refine me_goto C (tgt := 2789) dL_law_805 (by decide) ?_
      cases hf
      refine me_wid (nc + 16) (ns + 128) (by omega) (by omega) ?_
      refine me_dropI [(0, .inl (.ref b)), (1, me_r 0 0), (2, me_r 36 0), (3, me_r 93 0), (4, me_r 94 0), (5, me_i i)] [2, 3, 4, 5, 6, 7] rfl ?_
      exact hK
    · replace hf := me_ip c7 hf
      refine me_aload_n C 3 (Or.inr (Or.inl ⟨_, rfl⟩)) dL_law_793 rfl rfl ?_
      refine me_iconst C (v := 0) dL_law_794 (by decide) ?_
      refine me_lald C dL_law_795 ?_
      refine me_iload C dL_law_796 rfl ?_
      refine me_i2l C dL_law_798 ?_
      refine me_lcmp C dL_law_799 ?_
      refine me_if_eq C (tgt := 805) dL_law_800 (by decide) (fun c8 => ?_) (fun c8 => ?_)
      · replace hf := me_ip c8 hf
        refine me_goto C (tgt := 2789) dL_law_805 (by decide) ?_
        cases hf
        refine me_wid (nc + 16) (ns + 128) (by omega) (by omega) ?_
        refine me_dropI [(0, .inl (.ref b)), (1, me_r 0 0), (2, me_r 36 0), (3, me_r 93 0), (4, me_r 94 0), (5, me_i i)] [2, 3, 4, 5, 6, 7] rfl ?_
        exact hK
      · replace hf := me_in c8 hf
        refine me_iconst C (v := 0) dL_law_803 (by decide) ?_
        cases hf
  · replace hf := me_in c6 hf
    refine me_iconst C (v := 0) dL_law_786 (by decide) ?_
    cases hf

def f_case_8 (μ : me_M) (o : Int64 × UInt64) (s1 s2 s3 s4 s5 : Int32) : Option (me_M × (Int64 × UInt64)) :=
  me_b2 (f_L_pieces μ o s1) (fun μ2 r1 =>
  me_b2 (f_M_pieces μ2 s1) (fun μ4 r3 =>
  me_bd (f_M_thrown μ4) (fun r5 =>
  if r5 = (r1.2) then
  (if (r1.2) = 0 then
  (if (lg_cmp (r1.1.1) (Int32.toInt64 r3)) = 0 then
  (some (μ4, r1.1))
  else
  (none))
  else
  (some (μ4, r1.1)))
  else
  (none))))
set_option maxHeartbeats 4000000 in
set_option maxRecDepth 100000 in
theorem z_case_8 {X : me_X} {B : me_B} {μ : me_M} {b n : Nat} {xs : Nat → Int32} {i s1 s2 s3 s4 s5 : Int32} {nc ns : Nat} {ret0 : Option FieldType} (C : me_C X B RL cL_law 9 ret0) (hX : me_SX X b n xs) (hroom : me_Rm X 12 464 601024 7293034) (hB : me_St B) (h93 : ∀ i, i < B.2.1 93 → i = 0) (h94 : ∀ i, i < B.2.1 94 → i = 0) (h95 : B.2.1 95 = 0) (hn : nc + 16 ≤ 601024 ∧ ns + 128 ≤ 7293034) (h1 : me_inb (i + 1) n = true) (e1 : xs (me_ix (i + 1)) = s1) (h2 : me_inb (i + 2) n = true) (e2 : xs (me_ix (i + 2)) = s2) (h3 : me_inb (i + 3) n = true) (e3 : xs (me_ix (i + 3)) = s3) (h4 : me_inb (i + 4) n = true) (e4 : xs (me_ix (i + 4)) = s4) (h5 : me_inb (i + 5) n = true) (e5 : xs (me_ix (i + 5)) = s5) {μ' : me_M} {o' : Int64 × UInt64} (hf : f_case_8 μ B.2.2.2 s1 s2 s3 s4 s5 = some (μ', o')) (hK : me_Z X (me_ob B o') (nc + 16) (ns + 128) μ' 2789 [(0, .inl (.ref b)), (1, me_r 0 0), (2, me_r 36 0), (3, me_r 93 0), (4, me_r 94 0), (5, me_i i)] []) : me_Z X B nc ns μ 808 [(0, .inl (.ref b)), (1, me_r 0 0), (2, me_r 36 0), (3, me_r 93 0), (4, me_r 94 0), (5, me_i i)] [] := by
  unfold f_case_8 at hf
  refine me_aload_n C 1 (Or.inr (Or.inl ⟨_, rfl⟩)) dL_law_808 rfl rfl ?_
  refine me_aload_n C 0 (Or.inr (Or.inr ⟨_, rfl⟩)) dL_law_809 rfl rfl ?_
  refine me_iload C dL_law_810 rfl ?_
  refine me_iconst C (v := 1) dL_law_812 (by decide) ?_
  refine me_iadd C dL_law_813 ?_
  refine me_sld C hX h1 e1 dL_law_814 ?_
  refine me_aload_n C 3 (Or.inr (Or.inl ⟨_, rfl⟩)) dL_law_815 rfl rfl ?_
  obtain ⟨μ2, r1, h_r1, hf⟩ := me_bs2 hf
  refine me_callSH C hroom (n := 3) (As := [me_r 0 0, me_i s1, me_r 93 0]) (st := []) (nc + 1) (ns + 6) (c_L_pieces hB h93 h_r1) mh_L_pieces iL ⟨by decide +kernel, by decide +kernel⟩ (by decide +kernel) si_L_pieces ml_L_181 dL_law_816 rfl rfl ⟨by decide, by decide⟩ ⟨by omega, by omega, by omega, by omega⟩ (Nat.le_of_ble_eq_true rfl) ?_
  have hB := hB.ob r1.1
  have C := C.ob r1.1
  refine me_istore C dL_law_819 (by decide) (L' := [(6, me_i (r1.2)), (0, .inl (.ref b)), (1, me_r 0 0), (2, me_r 36 0), (3, me_r 93 0), (4, me_r 94 0), (5, me_i i)]) rfl ?_
  refine me_aload_n C 2 (Or.inr (Or.inl ⟨_, rfl⟩)) dL_law_821 rfl rfl ?_
  refine me_aload_n C 0 (Or.inr (Or.inr ⟨_, rfl⟩)) dL_law_822 rfl rfl ?_
  refine me_iload C dL_law_823 rfl ?_
  refine me_iconst C (v := 1) dL_law_825 (by decide) ?_
  refine me_iadd C dL_law_826 ?_
  refine me_sld C hX h1 e1 dL_law_827 ?_
  obtain ⟨μ4, r3, h_r3, hf⟩ := me_bs2 hf
  refine me_callVR C hroom (As := [me_i s1]) (st := []) (nc + 1) (ns + 6) (c_M_pieces hB h_r3) mv_M_pieces ml_L_183 rfl rfl dL_law_828 rfl rfl ⟨by decide, by decide⟩ ⟨by omega, by omega, by omega, by omega⟩ (Nat.le_of_ble_eq_true rfl) ?_
  refine me_istore C dL_law_831 (by decide) (L' := [(7, me_i r3), (6, me_i (r1.2)), (0, .inl (.ref b)), (1, me_r 0 0), (2, me_r 36 0), (3, me_r 93 0), (4, me_r 94 0), (5, me_i i)]) rfl ?_
  refine me_aload_n C 2 (Or.inr (Or.inl ⟨_, rfl⟩)) dL_law_833 rfl rfl ?_
  obtain ⟨r5, h_r5, hf⟩ := me_bs hf
  refine me_callVR C hroom (As := []) (st := []) (nc + 1) (ns + 6) (c_M_thrown hB h_r5) mv_M_thrown ml_L_154 rfl rfl dL_law_834 rfl rfl ⟨by decide, by decide⟩ ⟨by omega, by omega, by omega, by omega⟩ (Nat.le_of_ble_eq_true rfl) ?_
  refine me_iload C dL_law_837 rfl ?_
  refine me_icmp_eq C (tgt := 844) dL_law_839 (by decide) (fun c6 => ?_) (fun c6 => ?_)
  · replace hf := me_ip c6 hf
    refine me_iload C dL_law_844 rfl ?_
    refine me_if_ne C (tgt := 861) dL_law_846 (by decide) (fun c7 => ?_) (fun c7 => ?_)
    · replace hf := me_in c7 hf
      refine me_goto C (tgt := 2789) dL_law_861 (by decide) ?_
      cases hf
      refine me_wid (nc + 16) (ns + 128) (by omega) (by omega) ?_
      refine me_dropI [(0, .inl (.ref b)), (1, me_r 0 0), (2, me_r 36 0), (3, me_r 93 0), (4, me_r 94 0), (5, me_i i)] [2, 3, 4, 5, 6, 7] rfl ?_
      exact hK
    · replace hf := me_ip c7 hf
      refine me_aload_n C 3 (Or.inr (Or.inl ⟨_, rfl⟩)) dL_law_849 rfl rfl ?_
      refine me_iconst C (v := 0) dL_law_850 (by decide) ?_
      refine me_lald C dL_law_851 ?_
      refine me_iload C dL_law_852 rfl ?_
      refine me_i2l C dL_law_854 ?_
      refine me_lcmp C dL_law_855 ?_
      refine me_if_eq C (tgt := 861) dL_law_856 (by decide) (fun c8 => ?_) (fun c8 => ?_)
      · replace hf := me_ip c8 hf
        refine me_goto C (tgt := 2789) dL_law_861 (by decide) ?_
        cases hf
        refine me_wid (nc + 16) (ns + 128) (by omega) (by omega) ?_
        refine me_dropI [(0, .inl (.ref b)), (1, me_r 0 0), (2, me_r 36 0), (3, me_r 93 0), (4, me_r 94 0), (5, me_i i)] [2, 3, 4, 5, 6, 7] rfl ?_
        exact hK
      · replace hf := me_in c8 hf
        refine me_iconst C (v := 0) dL_law_859 (by decide) ?_
        cases hf
  · replace hf := me_in c6 hf
    refine me_iconst C (v := 0) dL_law_842 (by decide) ?_
    cases hf

def f_case_9 (μ : me_M) (o : Int64 × UInt64) (s1 s2 s3 s4 s5 : Int32) : Option (me_M × (Int64 × UInt64)) :=
  me_b2 (f_L_time μ o s1) (fun μ2 r1 =>
  me_b2 (f_M_time μ2 s1) (fun μ4 r3 =>
  me_bd (f_M_thrown μ4) (fun r5 =>
  if r5 = (r1.2) then
  (if (r1.2) = 0 then
  (if (lg_cmp (r1.1.1) (Int32.toInt64 r3)) = 0 then
  (some (μ4, r1.1))
  else
  (none))
  else
  (some (μ4, r1.1)))
  else
  (none))))
set_option maxHeartbeats 4000000 in
set_option maxRecDepth 100000 in
theorem z_case_9 {X : me_X} {B : me_B} {μ : me_M} {b n : Nat} {xs : Nat → Int32} {i s1 s2 s3 s4 s5 : Int32} {nc ns : Nat} {ret0 : Option FieldType} (C : me_C X B RL cL_law 9 ret0) (hX : me_SX X b n xs) (hroom : me_Rm X 12 464 601024 7293034) (hB : me_St B) (h93 : ∀ i, i < B.2.1 93 → i = 0) (h94 : ∀ i, i < B.2.1 94 → i = 0) (h95 : B.2.1 95 = 0) (hn : nc + 16 ≤ 601024 ∧ ns + 128 ≤ 7293034) (h1 : me_inb (i + 1) n = true) (e1 : xs (me_ix (i + 1)) = s1) (h2 : me_inb (i + 2) n = true) (e2 : xs (me_ix (i + 2)) = s2) (h3 : me_inb (i + 3) n = true) (e3 : xs (me_ix (i + 3)) = s3) (h4 : me_inb (i + 4) n = true) (e4 : xs (me_ix (i + 4)) = s4) (h5 : me_inb (i + 5) n = true) (e5 : xs (me_ix (i + 5)) = s5) {μ' : me_M} {o' : Int64 × UInt64} (hf : f_case_9 μ B.2.2.2 s1 s2 s3 s4 s5 = some (μ', o')) (hK : me_Z X (me_ob B o') (nc + 16) (ns + 128) μ' 2789 [(0, .inl (.ref b)), (1, me_r 0 0), (2, me_r 36 0), (3, me_r 93 0), (4, me_r 94 0), (5, me_i i)] []) : me_Z X B nc ns μ 864 [(0, .inl (.ref b)), (1, me_r 0 0), (2, me_r 36 0), (3, me_r 93 0), (4, me_r 94 0), (5, me_i i)] [] := by
  unfold f_case_9 at hf
  refine me_aload_n C 1 (Or.inr (Or.inl ⟨_, rfl⟩)) dL_law_864 rfl rfl ?_
  refine me_aload_n C 0 (Or.inr (Or.inr ⟨_, rfl⟩)) dL_law_865 rfl rfl ?_
  refine me_iload C dL_law_866 rfl ?_
  refine me_iconst C (v := 1) dL_law_868 (by decide) ?_
  refine me_iadd C dL_law_869 ?_
  refine me_sld C hX h1 e1 dL_law_870 ?_
  refine me_aload_n C 3 (Or.inr (Or.inl ⟨_, rfl⟩)) dL_law_871 rfl rfl ?_
  obtain ⟨μ2, r1, h_r1, hf⟩ := me_bs2 hf
  refine me_callSH C hroom (n := 3) (As := [me_r 0 0, me_i s1, me_r 93 0]) (st := []) (nc + 2) (ns + 12) (c_L_time hB h93 h_r1) mh_L_time iL ⟨by decide +kernel, by decide +kernel⟩ (by decide +kernel) si_L_time ml_L_184 dL_law_872 rfl rfl ⟨by decide, by decide⟩ ⟨by omega, by omega, by omega, by omega⟩ (Nat.le_of_ble_eq_true rfl) ?_
  have hB := hB.ob r1.1
  have C := C.ob r1.1
  refine me_istore C dL_law_875 (by decide) (L' := [(6, me_i (r1.2)), (0, .inl (.ref b)), (1, me_r 0 0), (2, me_r 36 0), (3, me_r 93 0), (4, me_r 94 0), (5, me_i i)]) rfl ?_
  refine me_aload_n C 2 (Or.inr (Or.inl ⟨_, rfl⟩)) dL_law_877 rfl rfl ?_
  refine me_aload_n C 0 (Or.inr (Or.inr ⟨_, rfl⟩)) dL_law_878 rfl rfl ?_
  refine me_iload C dL_law_879 rfl ?_
  refine me_iconst C (v := 1) dL_law_881 (by decide) ?_
  refine me_iadd C dL_law_882 ?_
  refine me_sld C hX h1 e1 dL_law_883 ?_
  obtain ⟨μ4, r3, h_r3, hf⟩ := me_bs2 hf
  refine me_callVR C hroom (As := [me_i s1]) (st := []) (nc + 2) (ns + 12) (c_M_time hB h_r3) mv_M_time ml_L_186 rfl rfl dL_law_884 rfl rfl ⟨by decide, by decide⟩ ⟨by omega, by omega, by omega, by omega⟩ (Nat.le_of_ble_eq_true rfl) ?_
  refine me_istore C dL_law_887 (by decide) (L' := [(7, me_i r3), (6, me_i (r1.2)), (0, .inl (.ref b)), (1, me_r 0 0), (2, me_r 36 0), (3, me_r 93 0), (4, me_r 94 0), (5, me_i i)]) rfl ?_
  refine me_aload_n C 2 (Or.inr (Or.inl ⟨_, rfl⟩)) dL_law_889 rfl rfl ?_
  obtain ⟨r5, h_r5, hf⟩ := me_bs hf
  refine me_callVR C hroom (As := []) (st := []) (nc + 2) (ns + 12) (c_M_thrown hB h_r5) mv_M_thrown ml_L_154 rfl rfl dL_law_890 rfl rfl ⟨by decide, by decide⟩ ⟨by omega, by omega, by omega, by omega⟩ (Nat.le_of_ble_eq_true rfl) ?_
  refine me_iload C dL_law_893 rfl ?_
  refine me_icmp_eq C (tgt := 900) dL_law_895 (by decide) (fun c6 => ?_) (fun c6 => ?_)
  · replace hf := me_ip c6 hf
    refine me_iload C dL_law_900 rfl ?_
    refine me_if_ne C (tgt := 917) dL_law_902 (by decide) (fun c7 => ?_) (fun c7 => ?_)
    · replace hf := me_in c7 hf
      refine me_goto C (tgt := 2789) dL_law_917 (by decide) ?_
      cases hf
      refine me_wid (nc + 16) (ns + 128) (by omega) (by omega) ?_
      refine me_dropI [(0, .inl (.ref b)), (1, me_r 0 0), (2, me_r 36 0), (3, me_r 93 0), (4, me_r 94 0), (5, me_i i)] [2, 3, 4, 5, 6, 7] rfl ?_
      exact hK
    · replace hf := me_ip c7 hf
      refine me_aload_n C 3 (Or.inr (Or.inl ⟨_, rfl⟩)) dL_law_905 rfl rfl ?_
      refine me_iconst C (v := 0) dL_law_906 (by decide) ?_
      refine me_lald C dL_law_907 ?_
      refine me_iload C dL_law_908 rfl ?_
      refine me_i2l C dL_law_910 ?_
      refine me_lcmp C dL_law_911 ?_
      refine me_if_eq C (tgt := 917) dL_law_912 (by decide) (fun c8 => ?_) (fun c8 => ?_)
      · replace hf := me_ip c8 hf
        refine me_goto C (tgt := 2789) dL_law_917 (by decide) ?_
        cases hf
        refine me_wid (nc + 16) (ns + 128) (by omega) (by omega) ?_
        refine me_dropI [(0, .inl (.ref b)), (1, me_r 0 0), (2, me_r 36 0), (3, me_r 93 0), (4, me_r 94 0), (5, me_i i)] [2, 3, 4, 5, 6, 7] rfl ?_
        exact hK
      · replace hf := me_in c8 hf
        refine me_iconst C (v := 0) dL_law_915 (by decide) ?_
        cases hf
  · replace hf := me_in c6 hf
    refine me_iconst C (v := 0) dL_law_898 (by decide) ?_
    cases hf

def f_case_10 (μ : me_M) (o : Int64 × UInt64) (s1 s2 s3 s4 s5 : Int32) : Option (me_M × (Int64 × UInt64)) :=
  me_bd (f_Y_packets μ) (fun r1 =>
  me_b2 (f_M_packets μ) (fun μ3 r2 =>
  if r1 = r2 then
  (some (μ3, o))
  else
  (none)))
set_option maxHeartbeats 4000000 in
set_option maxRecDepth 100000 in
theorem z_case_10 {X : me_X} {B : me_B} {μ : me_M} {b n : Nat} {xs : Nat → Int32} {i s1 s2 s3 s4 s5 : Int32} {nc ns : Nat} {ret0 : Option FieldType} (C : me_C X B RL cL_law 9 ret0) (hX : me_SX X b n xs) (hroom : me_Rm X 12 464 601024 7293034) (hB : me_St B) (h93 : ∀ i, i < B.2.1 93 → i = 0) (h94 : ∀ i, i < B.2.1 94 → i = 0) (h95 : B.2.1 95 = 0) (hn : nc + 16 ≤ 601024 ∧ ns + 128 ≤ 7293034) (h1 : me_inb (i + 1) n = true) (e1 : xs (me_ix (i + 1)) = s1) (h2 : me_inb (i + 2) n = true) (e2 : xs (me_ix (i + 2)) = s2) (h3 : me_inb (i + 3) n = true) (e3 : xs (me_ix (i + 3)) = s3) (h4 : me_inb (i + 4) n = true) (e4 : xs (me_ix (i + 4)) = s4) (h5 : me_inb (i + 5) n = true) (e5 : xs (me_ix (i + 5)) = s5) {μ' : me_M} {o' : Int64 × UInt64} (hf : f_case_10 μ B.2.2.2 s1 s2 s3 s4 s5 = some (μ', o')) (hK : me_Z X (me_ob B o') (nc + 16) (ns + 128) μ' 2789 [(0, .inl (.ref b)), (1, me_r 0 0), (2, me_r 36 0), (3, me_r 93 0), (4, me_r 94 0), (5, me_i i)] []) : me_Z X B nc ns μ 920 [(0, .inl (.ref b)), (1, me_r 0 0), (2, me_r 36 0), (3, me_r 93 0), (4, me_r 94 0), (5, me_i i)] [] := by
  unfold f_case_10 at hf
  refine me_aload_n C 1 (Or.inr (Or.inl ⟨_, rfl⟩)) dL_law_920 rfl rfl ?_
  obtain ⟨r1, h_r1, hf⟩ := me_bs hf
  refine me_callVR C hroom (As := []) (st := []) nc ns (c_Y_packets hB h_r1) mv_Y_packets ml_L_187 rfl rfl dL_law_921 rfl rfl ⟨by decide, by decide⟩ ⟨by omega, by omega, by omega, by omega⟩ (Nat.le_of_ble_eq_true rfl) ?_
  refine me_aload_n C 2 (Or.inr (Or.inl ⟨_, rfl⟩)) dL_law_924 rfl rfl ?_
  obtain ⟨μ3, r2, h_r2, hf⟩ := me_bs2 hf
  refine me_callVR C hroom (As := []) (st := [me_i r1]) nc ns (c_M_packets hB h_r2) mv_M_packets ml_L_190 rfl rfl dL_law_925 rfl rfl ⟨by decide, by decide⟩ ⟨by omega, by omega, by omega, by omega⟩ (Nat.le_of_ble_eq_true rfl) ?_
  refine me_icmp_eq C (tgt := 2789) dL_law_928 (by decide) (fun c4 => ?_) (fun c4 => ?_)
  · replace hf := me_ip c4 hf
    cases hf
    refine me_wid (nc + 16) (ns + 128) (by omega) (by omega) ?_
    refine me_dropI [(0, .inl (.ref b)), (1, me_r 0 0), (2, me_r 36 0), (3, me_r 93 0), (4, me_r 94 0), (5, me_i i)] [0, 1, 2, 3, 4, 5] rfl ?_
    exact hK
  · replace hf := me_in c4 hf
    refine me_iconst C (v := 0) dL_law_931 (by decide) ?_
    cases hf
