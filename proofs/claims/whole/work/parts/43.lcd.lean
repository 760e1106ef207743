/-! THE LAW: cases 33 to 43 (printed by gen/lawmain.py) -/
theorem ml_L_265 : Cond.methodLink RL 265 yL_top ∈ me_gw := (me_gm 1436 (by decide +kernel) (by decide +kernel))
theorem mh_L_top : Cond.codeWith yL_top cL_top 4 (some .int) [(0, 9, 12, 13), (0, 9, 15, 31)] ∈ me_gw := (me_gm 1438 (by decide +kernel) (by decide +kernel))
theorem si_L_top : Cond.static yL_top ∈ me_gw := (me_gm 1437 (by decide +kernel) (by decide +kernel))
theorem ml_L_267 : Cond.methodLink RL 267 yX12_top ∈ me_gw := (me_gm 1916 (by decide +kernel) (by decide +kernel))
theorem mv_M_top : me_MV yX12_top cX12_top 2 (some .int) 1 := ⟨(me_gm 1919 (by decide +kernel) (by decide +kernel)), (me_gm 88 (by decide +kernel) (by decide +kernel)), ⟨by decide +kernel, by decide +kernel⟩, by decide +kernel, (me_gm 1917 (by decide +kernel) (by decide +kernel)), (me_gm 1918 (by decide +kernel) (by decide +kernel))⟩
theorem ml_L_268 : Cond.methodLink RL 268 yL_at ∈ me_gw := (me_gm 1444 (by decide +kernel) (by decide +kernel))
theorem mh_L_at : Cond.codeWith yL_at cL_at 4 (some .int) [(0, 9, 12, 13), (0, 9, 15, 31)] ∈ me_gw := (me_gm 1446 (by decide +kernel) (by decide +kernel))
theorem si_L_at : Cond.static yL_at ∈ me_gw := (me_gm 1445 (by decide +kernel) (by decide +kernel))
theorem ml_L_270 : Cond.methodLink RL 270 yX12_at ∈ me_gw := (me_gm 1920 (by decide +kernel) (by decide +kernel))
theorem mv_M_at : me_MV yX12_at cX12_at 2 (some .int) 1 := ⟨(me_gm 1923 (by decide +kernel) (by decide +kernel)), (me_gm 88 (by decide +kernel) (by decide +kernel)), ⟨by decide +kernel, by decide +kernel⟩, by decide +kernel, (me_gm 1921 (by decide +kernel) (by decide +kernel)), (me_gm 1922 (by decide +kernel) (by decide +kernel))⟩
theorem ml_L_271 : Cond.methodLink RL 271 yL_task ∈ me_gw := (me_gm 1452 (by decide +kernel) (by decide +kernel))
theorem mh_L_task : Cond.codeWith yL_task cL_task 4 (some .int) [(0, 9, 12, 13), (0, 9, 15, 17)] ∈ me_gw := (me_gm 1454 (by decide +kernel) (by decide +kernel))
theorem si_L_task : Cond.static yL_task ∈ me_gw := (me_gm 1453 (by decide +kernel) (by decide +kernel))
theorem ml_L_273 : Cond.methodLink RL 273 yX12_task ∈ me_gw := (me_gm 1982 (by decide +kernel) (by decide +kernel))
theorem mv_M_task : me_MV yX12_task cX12_task 2 (some .int) 1 := ⟨(me_gm 1985 (by decide +kernel) (by decide +kernel)), (me_gm 88 (by decide +kernel) (by decide +kernel)), ⟨by decide +kernel, by decide +kernel⟩, by decide +kernel, (me_gm 1983 (by decide +kernel) (by decide +kernel)), (me_gm 1984 (by decide +kernel) (by decide +kernel))⟩
theorem ml_L_274 : Cond.methodLink RL 274 yL_traffic ∈ me_gw := (me_gm 1464 (by decide +kernel) (by decide +kernel))
theorem mh_L_traffic : Cond.codeWith yL_traffic cL_traffic 6 (some .int) [(0, 12, 15, 13), (0, 12, 19, 15)] ∈ me_gw := (me_gm 1466 (by decide +kernel) (by decide +kernel))
theorem si_L_traffic : Cond.static yL_traffic ∈ me_gw := (me_gm 1465 (by decide +kernel) (by decide +kernel))
theorem ml_L_276 : Cond.methodLink RL 276 yX12_traffic ∈ me_gw := (me_gm 1986 (by decide +kernel) (by decide +kernel))
theorem mv_M_traffic : me_MV yX12_traffic cX12_traffic 5 (some .int) 3 := ⟨(me_gm 1989 (by decide +kernel) (by decide +kernel)), (me_gm 88 (by decide +kernel) (by decide +kernel)), ⟨by decide +kernel, by decide +kernel⟩, by decide +kernel, (me_gm 1987 (by decide +kernel) (by decide +kernel)), (me_gm 1988 (by decide +kernel) (by decide +kernel))⟩
theorem ml_L_277 : Cond.methodLink RL 277 yX11_cost ∈ me_gw := (me_gm 655 (by decide +kernel) (by decide +kernel))
theorem mv_Y_cost : me_MV yX11_cost cX11_cost 1 (some .int) 0 := ⟨(me_gm 658 (by decide +kernel) (by decide +kernel)), (me_gm 76 (by decide +kernel) (by decide +kernel)), ⟨by decide +kernel, by decide +kernel⟩, by decide +kernel, (me_gm 656 (by decide +kernel) (by decide +kernel)), (me_gm 657 (by decide +kernel) (by decide +kernel))⟩
theorem ml_L_280 : Cond.methodLink RL 280 yX12_cost ∈ me_gw := (me_gm 1994 (by decide +kernel) (by decide +kernel))
theorem mv_M_cost : me_MV yX12_cost cX12_cost 1 (some .int) 0 := ⟨(me_gm 1997 (by decide +kernel) (by decide +kernel)), (me_gm 88 (by decide +kernel) (by decide +kernel)), ⟨by decide +kernel, by decide +kernel⟩, by decide +kernel, (me_gm 1995 (by decide +kernel) (by decide +kernel)), (me_gm 1996 (by decide +kernel) (by decide +kernel))⟩
theorem ml_L_281 : Cond.methodLink RL 281 yL_swap ∈ me_gw := (me_gm 1481 (by decide +kernel) (by decide +kernel))
theorem mh_L_swap : Cond.codeWith yL_swap cL_swap 3 (some .int) [(0, 8, 11, 31)] ∈ me_gw := (me_gm 1483 (by decide +kernel) (by decide +kernel))
theorem si_L_swap : Cond.static yL_swap ∈ me_gw := (me_gm 1482 (by decide +kernel) (by decide +kernel))
theorem ml_L_284 : Cond.methodLink RL 284 yX12_swap ∈ me_gw := (me_gm 2007 (by decide +kernel) (by decide +kernel))
theorem mv_M_swap : me_MV yX12_swap cX12_swap 8 (some .int) 0 := ⟨(me_gm 2010 (by decide +kernel) (by decide +kernel)), (me_gm 88 (by decide +kernel) (by decide +kernel)), ⟨by decide +kernel, by decide +kernel⟩, by decide +kernel, (me_gm 2008 (by decide +kernel) (by decide +kernel)), (me_gm 2009 (by decide +kernel) (by decide +kernel))⟩
theorem ml_L_285 : Cond.methodLink RL 285 yL_nodeOf ∈ me_gw := (me_gm 1498 (by decide +kernel) (by decide +kernel))
theorem mh_L_nodeOf : Cond.codeWith yL_nodeOf cL_nodeOf 4 (some .int) [(0, 9, 12, 13)] ∈ me_gw := (me_gm 1500 (by decide +kernel) (by decide +kernel))
theorem si_L_nodeOf : Cond.static yL_nodeOf ∈ me_gw := (me_gm 1499 (by decide +kernel) (by decide +kernel))
theorem ml_L_287 : Cond.methodLink RL 287 yX12_nodeOf ∈ me_gw := (me_gm 2016 (by decide +kernel) (by decide +kernel))
theorem mv_M_nodeOf : me_MV yX12_nodeOf cX12_nodeOf 2 (some .int) 1 := ⟨(me_gm 2019 (by decide +kernel) (by decide +kernel)), (me_gm 88 (by decide +kernel) (by decide +kernel)), ⟨by decide +kernel, by decide +kernel⟩, by decide +kernel, (me_gm 2017 (by decide +kernel) (by decide +kernel)), (me_gm 2018 (by decide +kernel) (by decide +kernel))⟩
theorem ml_L_288 : Cond.methodLink RL 288 yX11_checksum ∈ me_gw := (me_gm 670 (by decide +kernel) (by decide +kernel))
theorem mv_Y_checksum : me_MV yX11_checksum cX11_checksum 5 (some .long) 0 := ⟨(me_gm 673 (by decide +kernel) (by decide +kernel)), (me_gm 76 (by decide +kernel) (by decide +kernel)), ⟨by decide +kernel, by decide +kernel⟩, by decide +kernel, (me_gm 671 (by decide +kernel) (by decide +kernel)), (me_gm 672 (by decide +kernel) (by decide +kernel))⟩
theorem ml_L_292 : Cond.methodLink RL 292 yX12_checksum ∈ me_gw := (me_gm 2020 (by decide +kernel) (by decide +kernel))
theorem mv_M_checksum : me_MV yX12_checksum cX12_checksum 10 (some .long) 0 := ⟨(me_gm 2023 (by decide +kernel) (by decide +kernel)), (me_gm 88 (by decide +kernel) (by decide +kernel)), ⟨by decide +kernel, by decide +kernel⟩, by decide +kernel, (me_gm 2021 (by decide +kernel) (by decide +kernel)), (me_gm 2022 (by decide +kernel) (by decide +kernel))⟩
theorem ml_L_293 : Cond.methodLink RL 293 yL_lostShare ∈ me_gw := (me_gm 1505 (by decide +kernel) (by decide +kernel))
theorem mh_L_lostShare : Cond.codeWith yL_lostShare cL_lostShare 3 (some .int) [(0, 8, 11, 31)] ∈ me_gw := (me_gm 1507 (by decide +kernel) (by decide +kernel))
theorem si_L_lostShare : Cond.static yL_lostShare ∈ me_gw := (me_gm 1506 (by decide +kernel) (by decide +kernel))
theorem ml_L_296 : Cond.methodLink RL 296 yX12_lostShare ∈ me_gw := (me_gm 2026 (by decide +kernel) (by decide +kernel))
theorem mv_M_lostShare : me_MV yX12_lostShare cX12_lostShare 3 (some .float) 0 := ⟨(me_gm 2029 (by decide +kernel) (by decide +kernel)), (me_gm 88 (by decide +kernel) (by decide +kernel)), ⟨by decide +kernel, by decide +kernel⟩, by decide +kernel, (me_gm 2027 (by decide +kernel) (by decide +kernel)), (me_gm 2028 (by decide +kernel) (by decide +kernel))⟩
theorem ml_L_297 : Cond.methodLink RL 297 yL_meanTime ∈ me_gw := (me_gm 1517 (by decide +kernel) (by decide +kernel))
theorem mh_L_meanTime : Cond.codeWith yL_meanTime cL_meanTime 3 (some .int) [(0, 7, 10, 31)] ∈ me_gw := (me_gm 1519 (by decide +kernel) (by decide +kernel))
theorem si_L_meanTime : Cond.static yL_meanTime ∈ me_gw := (me_gm 1518 (by decide +kernel) (by decide +kernel))
theorem ml_L_299 : Cond.methodLink RL 299 yX12_meanTime ∈ me_gw := (me_gm 2030 (by decide +kernel) (by decide +kernel))
theorem mv_M_meanTime : me_MV yX12_meanTime cX12_meanTime 4 (some .double) 0 := ⟨(me_gm 2033 (by decide +kernel) (by decide +kernel)), (me_gm 88 (by decide +kernel) (by decide +kernel)), ⟨by decide +kernel, by decide +kernel⟩, by decide +kernel, (me_gm 2031 (by decide +kernel) (by decide +kernel)), (me_gm 2032 (by decide +kernel) (by decide +kernel))⟩
theorem ml_L_300 : Cond.methodLink RL 300 yX11_isSound ∈ me_gw := (me_gm 680 (by decide +kernel) (by decide +kernel))
theorem mv_Y_isSound : me_MV yX11_isSound cX11_isSound 1 (some .boolean) 0 := ⟨(me_gm 683 (by decide +kernel) (by decide +kernel)), (me_gm 76 (by decide +kernel) (by decide +kernel)), ⟨by decide +kernel, by decide +kernel⟩, by decide +kernel, (me_gm 681 (by decide +kernel) (by decide +kernel)), (me_gm 682 (by decide +kernel) (by decide +kernel))⟩
theorem ml_L_303 : Cond.methodLink RL 303 yX12_isSound ∈ me_gw := (me_gm 2034 (by decide +kernel) (by decide +kernel))
theorem mv_M_isSound : me_MV yX12_isSound cX12_isSound 1 (some .boolean) 0 := ⟨(me_gm 2037 (by decide +kernel) (by decide +kernel)), (me_gm 88 (by decide +kernel) (by decide +kernel)), ⟨by decide +kernel, by decide +kernel⟩, by decide +kernel, (me_gm 2035 (by decide +kernel) (by decide +kernel)), (me_gm 2036 (by decide +kernel) (by decide +kernel))⟩
theorem dL_law_2270 : decode cL_law 2270 = .ok (.aload_n 1, 1) := by decide +kernel
theorem dL_law_2271 : decode cL_law 2271 = .ok (.aload_n 0, 1) := by decide +kernel
theorem dL_law_2272 : decode cL_law 2272 = .ok (.iload 5, 2) := by decide +kernel
theorem dL_law_2274 : decode cL_law 2274 = .ok (.iconst 1, 1) := by decide +kernel
theorem dL_law_2275 : decode cL_law 2275 = .ok (.iadd, 1) := by decide +kernel
theorem dL_law_2276 : decode cL_law 2276 = .ok (.iaload, 1) := by decide +kernel
theorem dL_law_2277 : decode cL_law 2277 = .ok (.aload_n 3, 1) := by decide +kernel
theorem dL_law_2278 : decode cL_law 2278 = .ok (.invokestatic 265, 3) := by decide +kernel
theorem dL_law_2281 : decode cL_law 2281 = .ok (.istore 6, 2) := by decide +kernel
theorem dL_law_2283 : decode cL_law 2283 = .ok (.aload_n 2, 1) := by decide +kernel
theorem dL_law_2284 : decode cL_law 2284 = .ok (.aload_n 0, 1) := by decide +kernel
theorem dL_law_2285 : decode cL_law 2285 = .ok (.iload 5, 2) := by decide +kernel
theorem dL_law_2287 : decode cL_law 2287 = .ok (.iconst 1, 1) := by decide +kernel
theorem dL_law_2288 : decode cL_law 2288 = .ok (.iadd, 1) := by decide +kernel
theorem dL_law_2289 : decode cL_law 2289 = .ok (.iaload, 1) := by decide +kernel
theorem dL_law_2290 : decode cL_law 2290 = .ok (.invokevirtual 267, 3) := by decide +kernel
theorem dL_law_2293 : decode cL_law 2293 = .ok (.istore 7, 2) := by decide +kernel
theorem dL_law_2295 : decode cL_law 2295 = .ok (.aload_n 2, 1) := by decide +kernel
theorem dL_law_2296 : decode cL_law 2296 = .ok (.invokevirtual 154, 3) := by decide +kernel
theorem dL_law_2299 : decode cL_law 2299 = .ok (.iload 6, 2) := by decide +kernel
theorem dL_law_2301 : decode cL_law 2301 = .ok (.if_icmp .eq 5, 3) := by decide +kernel
theorem dL_law_2304 : decode cL_law 2304 = .ok (.iconst 0, 1) := by decide +kernel
theorem dL_law_2306 : decode cL_law 2306 = .ok (.iload 6, 2) := by decide +kernel
theorem dL_law_2308 : decode cL_law 2308 = .ok (.ifCond .ne 15, 3) := by decide +kernel
theorem dL_law_2311 : decode cL_law 2311 = .ok (.aload_n 3, 1) := by decide +kernel
theorem dL_law_2312 : decode cL_law 2312 = .ok (.iconst 0, 1) := by decide +kernel
theorem dL_law_2313 : decode cL_law 2313 = .ok (.laload, 1) := by decide +kernel
theorem dL_law_2314 : decode cL_law 2314 = .ok (.iload 7, 2) := by decide +kernel
theorem dL_law_2316 : decode cL_law 2316 = .ok (.i2l, 1) := by decide +kernel
theorem dL_law_2317 : decode cL_law 2317 = .ok (.lcmp, 1) := by decide +kernel
theorem dL_law_2318 : decode cL_law 2318 = .ok (.ifCond .eq 5, 3) := by decide +kernel
theorem dL_law_2321 : decode cL_law 2321 = .ok (.iconst 0, 1) := by decide +kernel
theorem dL_law_2323 : decode cL_law 2323 = .ok (.goto 466, 3) := by decide +kernel
theorem dL_law_2326 : decode cL_law 2326 = .ok (.aload_n 1, 1) := by decide +kernel
theorem dL_law_2327 : decode cL_law 2327 = .ok (.aload_n 0, 1) := by decide +kernel
theorem dL_law_2328 : decode cL_law 2328 = .ok (.iload 5, 2) := by decide +kernel
theorem dL_law_2330 : decode cL_law 2330 = .ok (.iconst 1, 1) := by decide +kernel
theorem dL_law_2331 : decode cL_law 2331 = .ok (.iadd, 1) := by decide +kernel
theorem dL_law_2332 : decode cL_law 2332 = .ok (.iaload, 1) := by decide +kernel
theorem dL_law_2333 : decode cL_law 2333 = .ok (.aload_n 3, 1) := by decide +kernel
theorem dL_law_2334 : decode cL_law 2334 = .ok (.invokestatic 268, 3) := by decide +kernel
theorem dL_law_2337 : decode cL_law 2337 = .ok (.istore 6, 2) := by decide +kernel
theorem dL_law_2339 : decode cL_law 2339 = .ok (.aload_n 2, 1) := by decide +kernel
theorem dL_law_2340 : decode cL_law 2340 = .ok (.aload_n 0, 1) := by decide +kernel
theorem dL_law_2341 : decode cL_law 2341 = .ok (.iload 5, 2) := by decide +kernel
theorem dL_law_2343 : decode cL_law 2343 = .ok (.iconst 1, 1) := by decide +kernel
theorem dL_law_2344 : decode cL_law 2344 = .ok (.iadd, 1) := by decide +kernel
theorem dL_law_2345 : decode cL_law 2345 = .ok (.iaload, 1) := by decide +kernel
theorem dL_law_2346 : decode cL_law 2346 = .ok (.invokevirtual 270, 3) := by decide +kernel
theorem dL_law_2349 : decode cL_law 2349 = .ok (.istore 7, 2) := by decide +kernel
theorem dL_law_2351 : decode cL_law 2351 = .ok (.aload_n 2, 1) := by decide +kernel
theorem dL_law_2352 : decode cL_law 2352 = .ok (.invokevirtual 154, 3) := by decide +kernel
theorem dL_law_2355 : decode cL_law 2355 = .ok (.iload 6, 2) := by decide +kernel
theorem dL_law_2357 : decode cL_law 2357 = .ok (.if_icmp .eq 5, 3) := by decide +kernel
theorem dL_law_2360 : decode cL_law 2360 = .ok (.iconst 0, 1) := by decide +kernel
theorem dL_law_2362 : decode cL_law 2362 = .ok (.iload 6, 2) := by decide +kernel
theorem dL_law_2364 : decode cL_law 2364 = .ok (.ifCond .ne 15, 3) := by decide +kernel
theorem dL_law_2367 : decode cL_law 2367 = .ok (.aload_n 3, 1) := by decide +kernel
theorem dL_law_2368 : decode cL_law 2368 = .ok (.iconst 0, 1) := by decide +kernel
theorem dL_law_2369 : decode cL_law 2369 = .ok (.laload, 1) := by decide +kernel
theorem dL_law_2370 : decode cL_law 2370 = .ok (.iload 7, 2) := by decide +kernel
theorem dL_law_2372 : decode cL_law 2372 = .ok (.i2l, 1) := by decide +kernel
theorem dL_law_2373 : decode cL_law 2373 = .ok (.lcmp, 1) := by decide +kernel
theorem dL_law_2374 : decode cL_law 2374 = .ok (.ifCond .eq 5, 3) := by decide +kernel
theorem dL_law_2377 : decode cL_law 2377 = .ok (.iconst 0, 1) := by decide +kernel
theorem dL_law_2379 : decode cL_law 2379 = .ok (.goto 410, 3) := by decide +kernel
theorem dL_law_2382 : decode cL_law 2382 = .ok (.aload_n 1, 1) := by decide +kernel
theorem dL_law_2383 : decode cL_law 2383 = .ok (.aload_n 0, 1) := by decide +kernel
theorem dL_law_2384 : decode cL_law 2384 = .ok (.iload 5, 2) := by decide +kernel
theorem dL_law_2386 : decode cL_law 2386 = .ok (.iconst 1, 1) := by decide +kernel
theorem dL_law_2387 : decode cL_law 2387 = .ok (.iadd, 1) := by decide +kernel
theorem dL_law_2388 : decode cL_law 2388 = .ok (.iaload, 1) := by decide +kernel
theorem dL_law_2389 : decode cL_law 2389 = .ok (.aload_n 3, 1) := by decide +kernel
theorem dL_law_2390 : decode cL_law 2390 = .ok (.invokestatic 271, 3) := by decide +kernel
theorem dL_law_2393 : decode cL_law 2393 = .ok (.istore 6, 2) := by decide +kernel
theorem dL_law_2395 : decode cL_law 2395 = .ok (.aload_n 2, 1) := by decide +kernel
theorem dL_law_2396 : decode cL_law 2396 = .ok (.aload_n 0, 1) := by decide +kernel
theorem dL_law_2397 : decode cL_law 2397 = .ok (.iload 5, 2) := by decide +kernel
theorem dL_law_2399 : decode cL_law 2399 = .ok (.iconst 1, 1) := by decide +kernel
theorem dL_law_2400 : decode cL_law 2400 = .ok (.iadd, 1) := by decide +kernel
theorem dL_law_2401 : decode cL_law 2401 = .ok (.iaload, 1) := by decide +kernel
theorem dL_law_2402 : decode cL_law 2402 = .ok (.invokevirtual 273, 3) := by decide +kernel
theorem dL_law_2405 : decode cL_law 2405 = .ok (.istore 7, 2) := by decide +kernel
theorem dL_law_2407 : decode cL_law 2407 = .ok (.aload_n 2, 1) := by decide +kernel
theorem dL_law_2408 : decode cL_law 2408 = .ok (.invokevirtual 154, 3) := by decide +kernel
theorem dL_law_2411 : decode cL_law 2411 = .ok (.iload 6, 2) := by decide +kernel
theorem dL_law_2413 : decode cL_law 2413 = .ok (.if_icmp .eq 5, 3) := by decide +kernel
theorem dL_law_2416 : decode cL_law 2416 = .ok (.iconst 0, 1) := by decide +kernel
theorem dL_law_2418 : decode cL_law 2418 = .ok (.iload 6, 2) := by decide +kernel
theorem dL_law_2420 : decode cL_law 2420 = .ok (.ifCond .ne 15, 3) := by decide +kernel
theorem dL_law_2423 : decode cL_law 2423 = .ok (.aload_n 3, 1) := by decide +kernel
theorem dL_law_2424 : decode cL_law 2424 = .ok (.iconst 0, 1) := by decide +kernel
theorem dL_law_2425 : decode cL_law 2425 = .ok (.laload, 1) := by decide +kernel
theorem dL_law_2426 : decode cL_law 2426 = .ok (.iload 7, 2) := by decide +kernel
theorem dL_law_2428 : decode cL_law 2428 = .ok (.i2l, 1) := by decide +kernel
theorem dL_law_2429 : decode cL_law 2429 = .ok (.lcmp, 1) := by decide +kernel
theorem dL_law_2430 : decode cL_law 2430 = .ok (.ifCond .eq 5, 3) := by decide +kernel
theorem dL_law_2433 : decode cL_law 2433 = .ok (.iconst 0, 1) := by decide +kernel
theorem dL_law_2435 : decode cL_law 2435 = .ok (.goto 354, 3) := by decide +kernel
theorem dL_law_2438 : decode cL_law 2438 = .ok (.aload_n 1, 1) := by decide +kernel
theorem dL_law_2439 : decode cL_law 2439 = .ok (.aload_n 0, 1) := by decide +kernel
theorem dL_law_2440 : decode cL_law 2440 = .ok (.iload 5, 2) := by decide +kernel
theorem dL_law_2442 : decode cL_law 2442 = .ok (.iconst 1, 1) := by decide +kernel
theorem dL_law_2443 : decode cL_law 2443 = .ok (.iadd, 1) := by decide +kernel
theorem dL_law_2444 : decode cL_law 2444 = .ok (.iaload, 1) := by decide +kernel
theorem dL_law_2445 : decode cL_law 2445 = .ok (.aload_n 0, 1) := by decide +kernel
theorem dL_law_2446 : decode cL_law 2446 = .ok (.iload 5, 2) := by decide +kernel
theorem dL_law_2448 : decode cL_law 2448 = .ok (.iconst 2, 1) := by decide +kernel
theorem dL_law_2449 : decode cL_law 2449 = .ok (.iadd, 1) := by decide +kernel
theorem dL_law_2450 : decode cL_law 2450 = .ok (.iaload, 1) := by decide +kernel
theorem dL_law_2451 : decode cL_law 2451 = .ok (.aload_n 0, 1) := by decide +kernel
theorem dL_law_2452 : decode cL_law 2452 = .ok (.iload 5, 2) := by decide +kernel
theorem dL_law_2454 : decode cL_law 2454 = .ok (.iconst 3, 1) := by decide +kernel
theorem dL_law_2455 : decode cL_law 2455 = .ok (.iadd, 1) := by decide +kernel
theorem dL_law_2456 : decode cL_law 2456 = .ok (.iaload, 1) := by decide +kernel
theorem dL_law_2457 : decode cL_law 2457 = .ok (.aload_n 3, 1) := by decide +kernel
theorem dL_law_2458 : decode cL_law 2458 = .ok (.invokestatic 274, 3) := by decide +kernel
theorem dL_law_2461 : decode cL_law 2461 = .ok (.istore 6, 2) := by decide +kernel
theorem dL_law_2463 : decode cL_law 2463 = .ok (.aload_n 2, 1) := by decide +kernel
theorem dL_law_2464 : decode cL_law 2464 = .ok (.aload_n 0, 1) := by decide +kernel
theorem dL_law_2465 : decode cL_law 2465 = .ok (.iload 5, 2) := by decide +kernel
theorem dL_law_2467 : decode cL_law 2467 = .ok (.iconst 1, 1) := by decide +kernel
theorem dL_law_2468 : decode cL_law 2468 = .ok (.iadd, 1) := by decide +kernel
theorem dL_law_2469 : decode cL_law 2469 = .ok (.iaload, 1) := by decide +kernel
theorem dL_law_2470 : decode cL_law 2470 = .ok (.aload_n 0, 1) := by decide +kernel
theorem dL_law_2471 : decode cL_law 2471 = .ok (.iload 5, 2) := by decide +kernel
theorem dL_law_2473 : decode cL_law 2473 = .ok (.iconst 2, 1) := by decide +kernel
theorem dL_law_2474 : decode cL_law 2474 = .ok (.iadd, 1) := by decide +kernel
theorem dL_law_2475 : decode cL_law 2475 = .ok (.iaload, 1) := by decide +kernel
theorem dL_law_2476 : decode cL_law 2476 = .ok (.aload_n 0, 1) := by decide +kernel
theorem dL_law_2477 : decode cL_law 2477 = .ok (.iload 5, 2) := by decide +kernel
theorem dL_law_2479 : decode cL_law 2479 = .ok (.iconst 3, 1) := by decide +kernel
theorem dL_law_2480 : decode cL_law 2480 = .ok (.iadd, 1) := by decide +kernel
theorem dL_law_2481 : decode cL_law 2481 = .ok (.iaload, 1) := by decide +kernel
theorem dL_law_2482 : decode cL_law 2482 = .ok (.invokevirtual 276, 3) := by decide +kernel
theorem dL_law_2485 : decode cL_law 2485 = .ok (.istore 7, 2) := by decide +kernel
theorem dL_law_2487 : decode cL_law 2487 = .ok (.aload_n 2, 1) := by decide +kernel
theorem dL_law_2488 : decode cL_law 2488 = .ok (.invokevirtual 154, 3) := by decide +kernel
theorem dL_law_2491 : decode cL_law 2491 = .ok (.iload 6, 2) := by decide +kernel
theorem dL_law_2493 : decode cL_law 2493 = .ok (.if_icmp .eq 5, 3) := by decide +kernel
theorem dL_law_2496 : decode cL_law 2496 = .ok (.iconst 0, 1) := by decide +kernel
theorem dL_law_2498 : decode cL_law 2498 = .ok (.iload 6, 2) := by decide +kernel
theorem dL_law_2500 : decode cL_law 2500 = .ok (.ifCond .ne 15, 3) := by decide +kernel
theorem dL_law_2503 : decode cL_law 2503 = .ok (.aload_n 3, 1) := by decide +kernel
theorem dL_law_2504 : decode cL_law 2504 = .ok (.iconst 0, 1) := by decide +kernel
theorem dL_law_2505 : decode cL_law 2505 = .ok (.laload, 1) := by decide +kernel
theorem dL_law_2506 : decode cL_law 2506 = .ok (.iload 7, 2) := by decide +kernel
theorem dL_law_2508 : decode cL_law 2508 = .ok (.i2l, 1) := by decide +kernel
theorem dL_law_2509 : decode cL_law 2509 = .ok (.lcmp, 1) := by decide +kernel
theorem dL_law_2510 : decode cL_law 2510 = .ok (.ifCond .eq 5, 3) := by decide +kernel
theorem dL_law_2513 : decode cL_law 2513 = .ok (.iconst 0, 1) := by decide +kernel
theorem dL_law_2515 : decode cL_law 2515 = .ok (.goto 274, 3) := by decide +kernel
theorem dL_law_2518 : decode cL_law 2518 = .ok (.aload_n 1, 1) := by decide +kernel
theorem dL_law_2519 : decode cL_law 2519 = .ok (.invokevirtual 277, 3) := by decide +kernel
theorem dL_law_2522 : decode cL_law 2522 = .ok (.aload_n 2, 1) := by decide +kernel
theorem dL_law_2523 : decode cL_law 2523 = .ok (.invokevirtual 280, 3) := by decide +kernel
theorem dL_law_2526 : decode cL_law 2526 = .ok (.if_icmp .eq 263, 3) := by decide +kernel
theorem dL_law_2529 : decode cL_law 2529 = .ok (.iconst 0, 1) := by decide +kernel
theorem dL_law_2531 : decode cL_law 2531 = .ok (.aload_n 1, 1) := by decide +kernel
theorem dL_law_2532 : decode cL_law 2532 = .ok (.aload_n 3, 1) := by decide +kernel
theorem dL_law_2533 : decode cL_law 2533 = .ok (.invokestatic 281, 3) := by decide +kernel
theorem dL_law_2536 : decode cL_law 2536 = .ok (.istore 6, 2) := by decide +kernel
theorem dL_law_2538 : decode cL_law 2538 = .ok (.aload_n 2, 1) := by decide +kernel
theorem dL_law_2539 : decode cL_law 2539 = .ok (.invokevirtual 284, 3) := by decide +kernel
theorem dL_law_2542 : decode cL_law 2542 = .ok (.istore 7, 2) := by decide +kernel
theorem dL_law_2544 : decode cL_law 2544 = .ok (.aload_n 2, 1) := by decide +kernel
theorem dL_law_2545 : decode cL_law 2545 = .ok (.invokevirtual 154, 3) := by decide +kernel
theorem dL_law_2548 : decode cL_law 2548 = .ok (.iload 6, 2) := by decide +kernel
theorem dL_law_2550 : decode cL_law 2550 = .ok (.if_icmp .eq 5, 3) := by decide +kernel
theorem dL_law_2553 : decode cL_law 2553 = .ok (.iconst 0, 1) := by decide +kernel
theorem dL_law_2555 : decode cL_law 2555 = .ok (.iload 6, 2) := by decide +kernel
theorem dL_law_2557 : decode cL_law 2557 = .ok (.ifCond .ne 15, 3) := by decide +kernel
theorem dL_law_2560 : decode cL_law 2560 = .ok (.aload_n 3, 1) := by decide +kernel
theorem dL_law_2561 : decode cL_law 2561 = .ok (.iconst 0, 1) := by decide +kernel
theorem dL_law_2562 : decode cL_law 2562 = .ok (.laload, 1) := by decide +kernel
theorem dL_law_2563 : decode cL_law 2563 = .ok (.iload 7, 2) := by decide +kernel
theorem dL_law_2565 : decode cL_law 2565 = .ok (.i2l, 1) := by decide +kernel
theorem dL_law_2566 : decode cL_law 2566 = .ok (.lcmp, 1) := by decide +kernel
theorem dL_law_2567 : decode cL_law 2567 = .ok (.ifCond .eq 5, 3) := by decide +kernel
theorem dL_law_2570 : decode cL_law 2570 = .ok (.iconst 0, 1) := by decide +kernel
theorem dL_law_2572 : decode cL_law 2572 = .ok (.goto 217, 3) := by decide +kernel
theorem dL_law_2575 : decode cL_law 2575 = .ok (.aload_n 1, 1) := by decide +kernel
theorem dL_law_2576 : decode cL_law 2576 = .ok (.aload_n 0, 1) := by decide +kernel
theorem dL_law_2577 : decode cL_law 2577 = .ok (.iload 5, 2) := by decide +kernel
theorem dL_law_2579 : decode cL_law 2579 = .ok (.iconst 1, 1) := by decide +kernel
theorem dL_law_2580 : decode cL_law 2580 = .ok (.iadd, 1) := by decide +kernel
theorem dL_law_2581 : decode cL_law 2581 = .ok (.iaload, 1) := by decide +kernel
theorem dL_law_2582 : decode cL_law 2582 = .ok (.aload_n 3, 1) := by decide +kernel
theorem dL_law_2583 : decode cL_law 2583 = .ok (.invokestatic 285, 3) := by decide +kernel
theorem dL_law_2586 : decode cL_law 2586 = .ok (.istore 6, 2) := by decide +kernel
theorem dL_law_2588 : decode cL_law 2588 = .ok (.aload_n 2, 1) := by decide +kernel
theorem dL_law_2589 : decode cL_law 2589 = .ok (.aload_n 0, 1) := by decide +kernel
theorem dL_law_2590 : decode cL_law 2590 = .ok (.iload 5, 2) := by decide +kernel
theorem dL_law_2592 : decode cL_law 2592 = .ok (.iconst 1, 1) := by decide +kernel
theorem dL_law_2593 : decode cL_law 2593 = .ok (.iadd, 1) := by decide +kernel
theorem dL_law_2594 : decode cL_law 2594 = .ok (.iaload, 1) := by decide +kernel
theorem dL_law_2595 : decode cL_law 2595 = .ok (.invokevirtual 287, 3) := by decide +kernel
theorem dL_law_2598 : decode cL_law 2598 = .ok (.istore 7, 2) := by decide +kernel
theorem dL_law_2600 : decode cL_law 2600 = .ok (.aload_n 2, 1) := by decide +kernel
theorem dL_law_2601 : decode cL_law 2601 = .ok (.invokevirtual 154, 3) := by decide +kernel
theorem dL_law_2604 : decode cL_law 2604 = .ok (.iload 6, 2) := by decide +kernel
theorem dL_law_2606 : decode cL_law 2606 = .ok (.if_icmp .eq 5, 3) := by decide +kernel
theorem dL_law_2609 : decode cL_law 2609 = .ok (.iconst 0, 1) := by decide +kernel
theorem dL_law_2611 : decode cL_law 2611 = .ok (.iload 6, 2) := by decide +kernel
theorem dL_law_2613 : decode cL_law 2613 = .ok (.ifCond .ne 15, 3) := by decide +kernel
theorem dL_law_2616 : decode cL_law 2616 = .ok (.aload_n 3, 1) := by decide +kernel
theorem dL_law_2617 : decode cL_law 2617 = .ok (.iconst 0, 1) := by decide +kernel
theorem dL_law_2618 : decode cL_law 2618 = .ok (.laload, 1) := by decide +kernel
theorem dL_law_2619 : decode cL_law 2619 = .ok (.iload 7, 2) := by decide +kernel
theorem dL_law_2621 : decode cL_law 2621 = .ok (.i2l, 1) := by decide +kernel
theorem dL_law_2622 : decode cL_law 2622 = .ok (.lcmp, 1) := by decide +kernel
theorem dL_law_2623 : decode cL_law 2623 = .ok (.ifCond .eq 5, 3) := by decide +kernel
theorem dL_law_2626 : decode cL_law 2626 = .ok (.iconst 0, 1) := by decide +kernel
theorem dL_law_2628 : decode cL_law 2628 = .ok (.goto 161, 3) := by decide +kernel
theorem dL_law_2631 : decode cL_law 2631 = .ok (.aload_n 1, 1) := by decide +kernel
theorem dL_law_2632 : decode cL_law 2632 = .ok (.invokevirtual 288, 3) := by decide +kernel
theorem dL_law_2635 : decode cL_law 2635 = .ok (.aload_n 2, 1) := by decide +kernel
theorem dL_law_2636 : decode cL_law 2636 = .ok (.invokevirtual 292, 3) := by decide +kernel
theorem dL_law_2639 : decode cL_law 2639 = .ok (.lcmp, 1) := by decide +kernel
theorem dL_law_2640 : decode cL_law 2640 = .ok (.ifCond .eq 149, 3) := by decide +kernel
theorem dL_law_2643 : decode cL_law 2643 = .ok (.iconst 0, 1) := by decide +kernel
theorem dL_law_2645 : decode cL_law 2645 = .ok (.aload_n 1, 1) := by decide +kernel
theorem dL_law_2646 : decode cL_law 2646 = .ok (.aload 4, 2) := by decide +kernel
theorem dL_law_2648 : decode cL_law 2648 = .ok (.invokestatic 293, 3) := by decide +kernel
theorem dL_law_2651 : decode cL_law 2651 = .ok (.istore 6, 2) := by decide +kernel
theorem dL_law_2653 : decode cL_law 2653 = .ok (.aload_n 2, 1) := by decide +kernel
theorem dL_law_2654 : decode cL_law 2654 = .ok (.invokevirtual 296, 3) := by decide +kernel
theorem dL_law_2657 : decode cL_law 2657 = .ok (.fstore 7, 2) := by decide +kernel
theorem dL_law_2659 : decode cL_law 2659 = .ok (.aload_n 2, 1) := by decide +kernel
theorem dL_law_2660 : decode cL_law 2660 = .ok (.invokevirtual 154, 3) := by decide +kernel
theorem dL_law_2663 : decode cL_law 2663 = .ok (.iload 6, 2) := by decide +kernel
theorem dL_law_2665 : decode cL_law 2665 = .ok (.if_icmp .eq 5, 3) := by decide +kernel
theorem dL_law_2668 : decode cL_law 2668 = .ok (.iconst 0, 1) := by decide +kernel
theorem dL_law_2670 : decode cL_law 2670 = .ok (.iload 6, 2) := by decide +kernel
theorem dL_law_2672 : decode cL_law 2672 = .ok (.ifCond .ne 36, 3) := by decide +kernel
theorem dL_law_2675 : decode cL_law 2675 = .ok (.aload 4, 2) := by decide +kernel
theorem dL_law_2677 : decode cL_law 2677 = .ok (.iconst 0, 1) := by decide +kernel
theorem dL_law_2678 : decode cL_law 2678 = .ok (.daload, 1) := by decide +kernel
theorem dL_law_2679 : decode cL_law 2679 = .ok (.fload 7, 2) := by decide +kernel
theorem dL_law_2681 : decode cL_law 2681 = .ok (.f2d, 1) := by decide +kernel
theorem dL_law_2682 : decode cL_law 2682 = .ok (.dcmp .l, 1) := by decide +kernel
theorem dL_law_2683 : decode cL_law 2683 = .ok (.ifCond .eq 25, 3) := by decide +kernel
theorem dL_law_2686 : decode cL_law 2686 = .ok (.aload 4, 2) := by decide +kernel
theorem dL_law_2688 : decode cL_law 2688 = .ok (.iconst 0, 1) := by decide +kernel
theorem dL_law_2689 : decode cL_law 2689 = .ok (.daload, 1) := by decide +kernel
theorem dL_law_2690 : decode cL_law 2690 = .ok (.aload 4, 2) := by decide +kernel
theorem dL_law_2692 : decode cL_law 2692 = .ok (.iconst 0, 1) := by decide +kernel
theorem dL_law_2693 : decode cL_law 2693 = .ok (.daload, 1) := by decide +kernel
theorem dL_law_2694 : decode cL_law 2694 = .ok (.dcmp .l, 1) := by decide +kernel
theorem dL_law_2695 : decode cL_law 2695 = .ok (.ifCond .eq 11, 3) := by decide +kernel
theorem dL_law_2698 : decode cL_law 2698 = .ok (.fload 7, 2) := by decide +kernel
theorem dL_law_2700 : decode cL_law 2700 = .ok (.fload 7, 2) := by decide +kernel
theorem dL_law_2702 : decode cL_law 2702 = .ok (.fcmp .l, 1) := by decide +kernel
theorem dL_law_2703 : decode cL_law 2703 = .ok (.ifCond .ne 5, 3) := by decide +kernel
theorem dL_law_2706 : decode cL_law 2706 = .ok (.iconst 0, 1) := by decide +kernel
theorem dL_law_2708 : decode cL_law 2708 = .ok (.goto 81, 3) := by decide +kernel
theorem dL_law_2711 : decode cL_law 2711 = .ok (.aload_n 1, 1) := by decide +kernel
theorem dL_law_2712 : decode cL_law 2712 = .ok (.aload 4, 2) := by decide +kernel
theorem dL_law_2714 : decode cL_law 2714 = .ok (.invokestatic 297, 3) := by decide +kernel
theorem dL_law_2717 : decode cL_law 2717 = .ok (.istore 6, 2) := by decide +kernel
theorem dL_law_2719 : decode cL_law 2719 = .ok (.aload_n 2, 1) := by decide +kernel
theorem dL_law_2720 : decode cL_law 2720 = .ok (.invokevirtual 299, 3) := by decide +kernel
theorem dL_law_2723 : decode cL_law 2723 = .ok (.dstore 7, 2) := by decide +kernel
theorem dL_law_2725 : decode cL_law 2725 = .ok (.aload_n 2, 1) := by decide +kernel
theorem dL_law_2726 : decode cL_law 2726 = .ok (.invokevirtual 154, 3) := by decide +kernel
theorem dL_law_2729 : decode cL_law 2729 = .ok (.iload 6, 2) := by decide +kernel
theorem dL_law_2731 : decode cL_law 2731 = .ok (.if_icmp .eq 5, 3) := by decide +kernel
theorem dL_law_2734 : decode cL_law 2734 = .ok (.iconst 0, 1) := by decide +kernel
theorem dL_law_2736 : decode cL_law 2736 = .ok (.iload 6, 2) := by decide +kernel
theorem dL_law_2738 : decode cL_law 2738 = .ok (.ifCond .ne 35, 3) := by decide +kernel
theorem dL_law_2741 : decode cL_law 2741 = .ok (.aload 4, 2) := by decide +kernel
theorem dL_law_2743 : decode cL_law 2743 = .ok (.iconst 0, 1) := by decide +kernel
theorem dL_law_2744 : decode cL_law 2744 = .ok (.daload, 1) := by decide +kernel
theorem dL_law_2745 : decode cL_law 2745 = .ok (.dload 7, 2) := by decide +kernel
theorem dL_law_2747 : decode cL_law 2747 = .ok (.dcmp .l, 1) := by decide +kernel
theorem dL_law_2748 : decode cL_law 2748 = .ok (.ifCond .eq 25, 3) := by decide +kernel
theorem dL_law_2751 : decode cL_law 2751 = .ok (.aload 4, 2) := by decide +kernel
theorem dL_law_2753 : decode cL_law 2753 = .ok (.iconst 0, 1) := by decide +kernel
theorem dL_law_2754 : decode cL_law 2754 = .ok (.daload, 1) := by decide +kernel
theorem dL_law_2755 : decode cL_law 2755 = .ok (.aload 4, 2) := by decide +kernel
theorem dL_law_2757 : decode cL_law 2757 = .ok (.iconst 0, 1) := by decide +kernel
theorem dL_law_2758 : decode cL_law 2758 = .ok (.daload, 1) := by decide +kernel
theorem dL_law_2759 : decode cL_law 2759 = .ok (.dcmp .l, 1) := by decide +kernel
theorem dL_law_2760 : decode cL_law 2760 = .ok (.ifCond .eq 11, 3) := by decide +kernel
theorem dL_law_2763 : decode cL_law 2763 = .ok (.dload 7, 2) := by decide +kernel
theorem dL_law_2765 : decode cL_law 2765 = .ok (.dload 7, 2) := by decide +kernel
theorem dL_law_2767 : decode cL_law 2767 = .ok (.dcmp .l, 1) := by decide +kernel
theorem dL_law_2768 : decode cL_law 2768 = .ok (.ifCond .ne 5, 3) := by decide +kernel
theorem dL_law_2771 : decode cL_law 2771 = .ok (.iconst 0, 1) := by decide +kernel
theorem dL_law_2773 : decode cL_law 2773 = .ok (.goto 16, 3) := by decide +kernel
theorem dL_law_2776 : decode cL_law 2776 = .ok (.aload_n 1, 1) := by decide +kernel
theorem dL_law_2777 : decode cL_law 2777 = .ok (.invokevirtual 300, 3) := by decide +kernel
theorem dL_law_2780 : decode cL_law 2780 = .ok (.aload_n 2, 1) := by decide +kernel
theorem dL_law_2781 : decode cL_law 2781 = .ok (.invokevirtual 303, 3) := by decide +kernel
theorem dL_law_2784 : decode cL_law 2784 = .ok (.if_icmp .eq 5, 3) := by decide +kernel
theorem dL_law_2787 : decode cL_law 2787 = .ok (.iconst 0, 1) := by decide +kernel
def f_case_33 (μ : me_M) (o : Int64 × UInt64) (s1 s2 s3 s4 s5 : Int32) : Option (me_M × (Int64 × UInt64)) :=
  me_b2 (f_L_top μ o s1) (fun μ2 r1 =>
  me_b2 (f_M_top μ2 s1) (fun μ4 r3 =>
  me_bd (f_M_thrown μ4) (fun r5 =>
  if r5 = (r1.2) then
  (if (r1.2) = 0 then
  (if (lg_cmp (r1.1.1) (Int32.toInt64 r3)) = 0 then
  (some (μ4, r1.1))
  else
  (none))
  else
  (some (μ4, r1.1)))
  else
  (none))))
set_option maxHeartbeats 4000000 in
set_option maxRecDepth 100000 in
theorem z_case_33 {X : me_X} {B : me_B} {μ : me_M} {b n : Nat} {xs : Nat → Int32} {i s1 s2 s3 s4 s5 : Int32} {nc ns : Nat} {ret0 : Option FieldType} (C : me_C X B RL cL_law 9 ret0) (hX : me_SX X b n xs) (hroom : me_Rm X 12 464 601024 7293034) (hB : me_St B) (h93 : ∀ i, i < B.2.1 93 → i = 0) (h94 : ∀ i, i < B.2.1 94 → i = 0) (h95 : B.2.1 95 = 0) (hn : nc + 16 ≤ 601024 ∧ ns + 128 ≤ 7293034) (h1 : me_inb (i + 1) n = true) (e1 : xs (me_ix (i + 1)) = s1) (h2 : me_inb (i + 2) n = true) (e2 : xs (me_ix (i + 2)) = s2) (h3 : me_inb (i + 3) n = true) (e3 : xs (me_ix (i + 3)) = s3) (h4 : me_inb (i + 4) n = true) (e4 : xs (me_ix (i + 4)) = s4) (h5 : me_inb (i + 5) n = true) (e5 : xs (me_ix (i + 5)) = s5) {μ' : me_M} {o' : Int64 × UInt64} (hf : f_case_33 μ B.2.2.2 s1 s2 s3 s4 s5 = some (μ', o')) (hK : me_Z X (me_ob B o') (nc + 16) (ns + 128) μ' 2789 [(0, .inl (.ref b)), (1, me_r 0 0), (2, me_r 36 0), (3, me_r 93 0), (4, me_r 94 0), (5, me_i i)] []) : me_Z X B nc ns μ 2270 [(0, .inl (.ref b)), (1, me_r 0 0), (2, me_r 36 0), (3, me_r 93 0), (4, me_r 94 0), (5, me_i i)] [] := by
  unfold f_case_33 at hf
  refine me_aload_n C 1 (Or.inr (Or.inl ⟨_, rfl⟩)) dL_law_2270 rfl rfl ?_
  refine me_aload_n C 0 (Or.inr (Or.inr ⟨_, rfl⟩)) dL_law_2271 rfl rfl ?_
  refine me_iload C dL_law_2272 rfl ?_
  refine me_iconst C (v := 1) dL_law_2274 (by decide) ?_
  refine me_iadd C dL_law_2275 ?_
  refine me_sld C hX h1 e1 dL_law_2276 ?_
  refine me_aload_n C 3 (Or.inr (Or.inl ⟨_, rfl⟩)) dL_law_2277 rfl rfl ?_
  obtain ⟨μ2, r1, h_r1, hf⟩ := me_bs2 hf
  refine me_callSH C hroom (n := 3) (As := [me_r 0 0, me_i s1, me_r 93 0]) (st := []) (nc + 2) (ns + 12) (c_L_top hB h93 h_r1) mh_L_top iL ⟨by decide +kernel, by decide +kernel⟩ (by decide +kernel) si_L_top ml_L_265 dL_law_2278 rfl rfl ⟨by decide, by decide⟩ ⟨by omega, by omega, by omega, by omega⟩ (Nat.le_of_ble_eq_true rfl) ?_
  have hB := hB.ob r1.1
  have C := C.ob r1.1
  refine me_istore C dL_law_2281 (by decide) (L' := [(6, me_i (r1.2)), (0, .inl (.ref b)), (1, me_r 0 0), (2, me_r 36 0), (3, me_r 93 0), (4, me_r 94 0), (5, me_i i)]) rfl ?_
  refine me_aload_n C 2 (Or.inr (Or.inl ⟨_, rfl⟩)) dL_law_2283 rfl rfl ?_
  refine me_aload_n C 0 (Or.inr (Or.inr ⟨_, rfl⟩)) dL_law_2284 rfl rfl ?_
  refine me_iload C dL_law_2285 rfl ?_
  refine me_iconst C (v := 1) dL_law_2287 (by decide) ?_
  refine me_iadd C dL_law_2288 ?_
  refine me_sld C hX h1 e1 dL_law_2289 ?_
  obtain ⟨μ4, r3, h_r3, hf⟩ := me_bs2 hf
  refine me_callVR C hroom (As := [me_i s1]) (st := []) (nc + 2) (ns + 12) (c_M_top hB h_r3) mv_M_top ml_L_267 rfl rfl dL_law_2290 rfl rfl ⟨by decide, by decide⟩ ⟨by omega, by omega, by omega, by omega⟩ (Nat.le_of_ble_eq_true rfl) ?_
  refine me_istore C dL_law_2293 (by decide) (L' := [(7, me_i r3), (6, me_i (r1.2)), (0, .inl (.ref b)), (1, me_r 0 0), (2, me_r 36 0), (3, me_r 93 0), (4, me_r 94 0), (5, me_i i)]) rfl ?_
  refine me_aload_n C 2 (Or.inr (Or.inl ⟨_, rfl⟩)) dL_law_2295 rfl rfl ?_
  obtain ⟨r5, h_r5, hf⟩ := me_bs hf
  refine me_callVR C hroom (As := []) (st := []) (nc + 2) (ns + 12) (c_M_thrown hB h_r5) mv_M_thrown ml_L_154 rfl rfl dL_law_2296 rfl rfl ⟨by decide, by decide⟩ ⟨by omega, by omega, by omega, by omega⟩ (Nat.le_of_ble_eq_true rfl) ?_
  refine me_iload C dL_law_2299 rfl ?_
  refine me_icmp_eq C (tgt := 2306) dL_law_2301 (by decide) (fun c6 => ?_) (fun c6 => ?_)
  · replace hf := me_ip c6 hf
    refine me_iload C dL_law_2306 rfl ?_
    refine me_if_ne C (tgt := 2323) dL_law_2308 (by decide) (fun c7 => ?_) (fun c7 => ?_)
    · replace hf := me_in c7 hf
      refine me_goto C (tgt := 2789) dL_law_2323 (by decide) ?_
      cases hf
      refine me_wid (nc + 16) (ns + 128) (by omega) (by omega) ?_
      refine me_dropI [(0, .inl (.ref b)), (1, me_r 0 0), (2, me_r 36 0), (3, me_r 93 0), (4, me_r 94 0), (5, me_i i)] [2, 3, 4, 5, 6, 7] rfl ?_
      exact hK
    · replace hf := me_ip c7 hf
      refine me_aload_n C 3 (Or.inr (Or.inl ⟨_, rfl⟩)) dL_law_2311 rfl rfl ?_
      refine me_iconst C (v := 0) dL_law_2312 (by decide) ?_
      refine me_lald C dL_law_2313 ?_
      refine me_iload C dL_law_2314 rfl ?_
      refine me_i2l C dL_law_2316 ?_
      refine me_lcmp C dL_law_2317 ?_
      refine me_if_eq C (tgt := 2323) dL_law_2318 (by decide) (fun c8 => ?_) (fun c8 => ?_)
      · replace hf := me_ip c8 hf
        refine me_goto C (tgt := 2789) dL_law_2323 (by decide) ?_
        cases hf
        refine me_wid (nc + 16) (ns + 128) (by omega) (by omega) ?_
        refine me_dropI [(0, .inl (.ref b)), (1, me_r 0 0), (2, me_r 36 0), (3, me_r 93 0), (4, me_r 94 0), (5, me_i i)] [2, 3, 4, 5, 6, 7] rfl ?_
        exact hK
      · replace hf := me_in c8 hf
        refine me_iconst C (v := 0) dL_law_2321 (by decide) ?_
        cases hf
  · replace hf := me_in c6 hf
    refine me_iconst C (v := 0) dL_law_2304 (by decide) ?_
    cases hf

def f_case_34 (μ : me_M) (o : Int64 × UInt64) (s1 s2 s3 s4 s5 : Int32) : Option (me_M × (Int64 × UInt64)) :=
  me_b2 (f_L_at μ o s1) (fun μ2 r1 =>
  me_b2 (f_M_at μ2 s1) (fun μ4 r3 =>
  me_bd (f_M_thrown μ4) (fun r5 =>
  if r5 = (r1.2) then
  (if (r1.2) = 0 then
  (if (lg_cmp (r1.1.1) (Int32.toInt64 r3)) = 0 then
  (some (μ4, r1.1))
  else
  (none))
  else
  (some (μ4, r1.1)))
  else
  (none))))
set_option maxHeartbeats 4000000 in
set_option maxRecDepth 100000 in
theorem z_case_34 {X : me_X} {B : me_B} {μ : me_M} {b n : Nat} {xs : Nat → Int32} {i s1 s2 s3 s4 s5 : Int32} {nc ns : Nat} {ret0 : Option FieldType} (C : me_C X B RL cL_law 9 ret0) (hX : me_SX X b n xs) (hroom : me_Rm X 12 464 601024 7293034) (hB : me_St B) (h93 : ∀ i, i < B.2.1 93 → i = 0) (h94 : ∀ i, i < B.2.1 94 → i = 0) (h95 : B.2.1 95 = 0) (hn : nc + 16 ≤ 601024 ∧ ns + 128 ≤ 7293034) (h1 : me_inb (i + 1) n = true) (e1 : xs (me_ix (i + 1)) = s1) (h2 : me_inb (i + 2) n = true) (e2 : xs (me_ix (i + 2)) = s2) (h3 : me_inb (i + 3) n = true) (e3 : xs (me_ix (i + 3)) = s3) (h4 : me_inb (i + 4) n = true) (e4 : xs (me_ix (i + 4)) = s4) (h5 : me_inb (i + 5) n = true) (e5 : xs (me_ix (i + 5)) = s5) {μ' : me_M} {o' : Int64 × UInt64} (hf : f_case_34 μ B.2.2.2 s1 s2 s3 s4 s5 = some (μ', o')) (hK : me_Z X (me_ob B o') (nc + 16) (ns + 128) μ' 2789 [(0, .inl (.ref b)), (1, me_r 0 0), (2, me_r 36 0), (3, me_r 93 0), (4, me_r 94 0), (5, me_i i)] []) : me_Z X B nc ns μ 2326 [(0, .inl (.ref b)), (1, me_r 0 0), (2, me_r 36 0), (3, me_r 93 0), (4, me_r 94 0), (5, me_i i)] [] := by
  unfold f_case_34 at hf
  refine me_aload_n C 1 (Or.inr (Or.inl ⟨_, rfl⟩)) dL_law_2326 rfl rfl ?_
  refine me_aload_n C 0 (Or.inr (Or.inr ⟨_, rfl⟩)) dL_law_2327 rfl rfl ?_
  refine me_iload C dL_law_2328 rfl ?_
  refine me_iconst C (v := 1) dL_law_2330 (by decide) ?_
  refine me_iadd C dL_law_2331 ?_
  refine me_sld C hX h1 e1 dL_law_2332 ?_
  refine me_aload_n C 3 (Or.inr (Or.inl ⟨_, rfl⟩)) dL_law_2333 rfl rfl ?_
  obtain ⟨μ2, r1, h_r1, hf⟩ := me_bs2 hf
  refine me_callSH C hroom (n := 3) (As := [me_r 0 0, me_i s1, me_r 93 0]) (st := []) (nc + 2) (ns + 12) (c_L_at hB h93 h_r1) mh_L_at iL ⟨by decide +kernel, by decide +kernel⟩ (by decide +kernel) si_L_at ml_L_268 dL_law_2334 rfl rfl ⟨by decide, by decide⟩ ⟨by omega, by omega, by omega, by omega⟩ (Nat.le_of_ble_eq_true rfl) ?_
  have hB := hB.ob r1.1
  have C := C.ob r1.1
  refine me_istore C dL_law_2337 (by decide) (L' := [(6, me_i (r1.2)), (0, .inl (.ref b)), (1, me_r 0 0), (2, me_r 36 0), (3, me_r 93 0), (4, me_r 94 0), (5, me_i i)]) rfl ?_
  refine me_aload_n C 2 (Or.inr (Or.inl ⟨_, rfl⟩)) dL_law_2339 rfl rfl ?_
  refine me_aload_n C 0 (Or.inr (Or.inr ⟨_, rfl⟩)) dL_law_2340 rfl rfl ?_
  refine me_iload C dL_law_2341 rfl ?_
  refine me_iconst C (v := 1) dL_law_2343 (by decide) ?_
  refine me_iadd C dL_law_2344 ?_
  refine me_sld C hX h1 e1 dL_law_2345 ?_
  obtain ⟨μ4, r3, h_r3, hf⟩ := me_bs2 hf
  refine me_callVR C hroom (As := [me_i s1]) (st := []) (nc + 2) (ns + 12) (c_M_at hB h_r3) mv_M_at ml_L_270 rfl rfl dL_law_2346 rfl rfl ⟨by decide, by decide⟩ ⟨by omega, by omega, by omega, by omega⟩ (Nat.le_of_ble_eq_true rfl) ?_
  refine me_istore C dL_law_2349 (by decide) (L' := [(7, me_i r3), (6, me_i (r1.2)), (0, .inl (.ref b)), (1, me_r 0 0), (2, me_r 36 0), (3, me_r 93 0), (4, me_r 94 0), (5, me_i i)]) rfl ?_
  refine me_aload_n C 2 (Or.inr (Or.inl ⟨_, rfl⟩)) dL_law_2351 rfl rfl ?_
  obtain ⟨r5, h_r5, hf⟩ := me_bs hf
  refine me_callVR C hroom (As := []) (st := []) (nc + 2) (ns + 12) (c_M_thrown hB h_r5) mv_M_thrown ml_L_154 rfl rfl dL_law_2352 rfl rfl ⟨by decide, by decide⟩ ⟨by omega, by omega, by omega, by omega⟩ (Nat.le_of_ble_eq_true rfl) ?_
  refine me_iload C dL_law_2355 rfl ?_
  refine me_icmp_eq C (tgt := 2362) dL_law_2357 (by decide) (fun c6 => ?_) (fun c6 => ?_)
  · replace hf := me_ip c6 hf
    refine me_iload C dL_law_2362 rfl ?_
    refine me_if_ne C (tgt := 2379) dL_law_2364 (by decide) (fun c7 => ?_) (fun c7 => ?_)
    · replace hf := me_in c7 hf
      refine me_goto C (tgt := 2789) dL_law_2379 (by decide) ?_
      cases hf
      refine me_wid (nc + 16) (ns + 128) (by omega) (by omega) ?_
      refine me_dropI [(0, .inl (.ref b)), (1, me_r 0 0), (2, me_r 36 0), (3, me_r 93 0), (4, me_r 94 0), (5, me_i i)] [2, 3, 4, 5, 6, 7] rfl ?_
      exact hK
    · replace hf := me_ip c7 hf
      refine me_aload_n C 3 (Or.inr (Or.inl ⟨_, rfl⟩)) dL_law_2367 rfl rfl ?_
      refine me_iconst C (v := 0) dL_law_2368 (by decide) ?_
      refine me_lald C dL_law_2369 ?_
      refine me_iload C dL_law_2370 rfl ?_
      refine me_i2l C dL_law_2372 ?_
      refine me_lcmp C dL_law_2373 ?_
      refine me_if_eq C (tgt := 2379) dL_law_2374 (by decide) (fun c8 => ?_) (fun c8 => ?_)
      · replace hf := me_ip c8 hf
        refine me_goto C (tgt := 2789) dL_law_2379 (by decide) ?_
        cases hf
        refine me_wid (nc + 16) (ns + 128) (by omega) (by omega) ?_
        refine me_dropI [(0, .inl (.ref b)), (1, me_r 0 0), (2, me_r 36 0), (3, me_r 93 0), (4, me_r 94 0), (5, me_i i)] [2, 3, 4, 5, 6, 7] rfl ?_
        exact hK
      · replace hf := me_in c8 hf
        refine me_iconst C (v := 0) dL_law_2377 (by decide) ?_
        cases hf
  · replace hf := me_in c6 hf
    refine me_iconst C (v := 0) dL_law_2360 (by decide) ?_
    cases hf

def f_case_35 (μ : me_M) (o : Int64 × UInt64) (s1 s2 s3 s4 s5 : Int32) : Option (me_M × (Int64 × UInt64)) :=
  me_b2 (f_L_task μ o s1) (fun μ2 r1 =>
  me_b2 (f_M_task μ2 s1) (fun μ4 r3 =>
  me_bd (f_M_thrown μ4) (fun r5 =>
  if r5 = (r1.2) then
  (if (r1.2) = 0 then
  (if (lg_cmp (r1.1.1) (Int32.toInt64 r3)) = 0 then
  (some (μ4, r1.1))
  else
  (none))
  else
  (some (μ4, r1.1)))
  else
  (none))))
set_option maxHeartbeats 4000000 in
set_option maxRecDepth 100000 in
theorem z_case_35 {X : me_X} {B : me_B} {μ : me_M} {b n : Nat} {xs : Nat → Int32} {i s1 s2 s3 s4 s5 : Int32} {nc ns : Nat} {ret0 : Option FieldType} (C : me_C X B RL cL_law 9 ret0) (hX : me_SX X b n xs) (hroom : me_Rm X 12 464 601024 7293034) (hB : me_St B) (h93 : ∀ i, i < B.2.1 93 → i = 0) (h94 : ∀ i, i < B.2.1 94 → i = 0) (h95 : B.2.1 95 = 0) (hn : nc + 16 ≤ 601024 ∧ ns + 128 ≤ 7293034) (h1 : me_inb (i + 1) n = true) (e1 : xs (me_ix (i + 1)) = s1) (h2 : me_inb (i + 2) n = true) (e2 : xs (me_ix (i + 2)) = s2) (h3 : me_inb (i + 3) n = true) (e3 : xs (me_ix (i + 3)) = s3) (h4 : me_inb (i + 4) n = true) (e4 : xs (me_ix (i + 4)) = s4) (h5 : me_inb (i + 5) n = true) (e5 : xs (me_ix (i + 5)) = s5) {μ' : me_M} {o' : Int64 × UInt64} (hf : f_case_35 μ B.2.2.2 s1 s2 s3 s4 s5 = some (μ', o')) (hK : me_Z X (me_ob B o') (nc + 16) (ns + 128) μ' 2789 [(0, .inl (.ref b)), (1, me_r 0 0), (2, me_r 36 0), (3, me_r 93 0), (4, me_r 94 0), (5, me_i i)] []) : me_Z X B nc ns μ 2382 [(0, .inl (.ref b)), (1, me_r 0 0), (2, me_r 36 0), (3, me_r 93 0), (4, me_r 94 0), (5, me_i i)] [] := by
  unfold f_case_35 at hf
  refine me_aload_n C 1 (Or.inr (Or.inl ⟨_, rfl⟩)) dL_law_2382 rfl rfl ?_
  refine me_aload_n C 0 (Or.inr (Or.inr ⟨_, rfl⟩)) dL_law_2383 rfl rfl ?_
  refine me_iload C dL_law_2384 rfl ?_
  refine me_iconst C (v := 1) dL_law_2386 (by decide) ?_
  refine me_iadd C dL_law_2387 ?_
  refine me_sld C hX h1 e1 dL_law_2388 ?_
  refine me_aload_n C 3 (Or.inr (Or.inl ⟨_, rfl⟩)) dL_law_2389 rfl rfl ?_
  obtain ⟨μ2, r1, h_r1, hf⟩ := me_bs2 hf
  refine me_callSH C hroom (n := 3) (As := [me_r 0 0, me_i s1, me_r 93 0]) (st := []) (nc + 2) (ns + 12) (c_L_task hB h93 h_r1) mh_L_task iL ⟨by decide +kernel, by decide +kernel⟩ (by decide +kernel) si_L_task ml_L_271 dL_law_2390 rfl rfl ⟨by decide, by decide⟩ ⟨by omega, by omega, by omega, by omega⟩ (Nat.le_of_ble_eq_true rfl) ?_
  have hB := hB.ob r1.1
  have C := C.ob r1.1
  refine me_istore C dL_law_2393 (by decide) (L' := [(6, me_i (r1.2)), (0, .inl (.ref b)), (1, me_r 0 0), (2, me_r 36 0), (3, me_r 93 0), (4, me_r 94 0), (5, me_i i)]) rfl ?_
  refine me_aload_n C 2 (Or.inr (Or.inl ⟨_, rfl⟩)) dL_law_2395 rfl rfl ?_
  refine me_aload_n C 0 (Or.inr (Or.inr ⟨_, rfl⟩)) dL_law_2396 rfl rfl ?_
  refine me_iload C dL_law_2397 rfl ?_
  refine me_iconst C (v := 1) dL_law_2399 (by decide) ?_
  refine me_iadd C dL_law_2400 ?_
  refine me_sld C hX h1 e1 dL_law_2401 ?_
  obtain ⟨μ4, r3, h_r3, hf⟩ := me_bs2 hf
  refine me_callVR C hroom (As := [me_i s1]) (st := []) (nc + 2) (ns + 12) (c_M_task hB h_r3) mv_M_task ml_L_273 rfl rfl dL_law_2402 rfl rfl ⟨by decide, by decide⟩ ⟨by omega, by omega, by omega, by omega⟩ (Nat.le_of_ble_eq_true rfl) ?_
  refine me_istore C dL_law_2405 (by decide) (L' := [(7, me_i r3), (6, me_i (r1.2)), (0, .inl (.ref b)), (1, me_r 0 0), (2, me_r 36 0), (3, me_r 93 0), (4, me_r 94 0), (5, me_i i)]) rfl ?_
  refine me_aload_n C 2 (Or.inr (Or.inl ⟨_, rfl⟩)) dL_law_2407 rfl rfl ?_
  obtain ⟨r5, h_r5, hf⟩ := me_bs hf
  refine me_callVR C hroom (As := []) (st := []) (nc + 2) (ns + 12) (c_M_thrown hB h_r5) mv_M_thrown ml_L_154 rfl rfl dL_law_2408 rfl rfl ⟨by decide, by decide⟩ ⟨by omega, by omega, by omega, by omega⟩ (Nat.le_of_ble_eq_true rfl) ?_
  refine me_iload C dL_law_2411 rfl ?_
  refine me_icmp_eq C (tgt := 2418) dL_law_2413 (by decide) (fun c6 => ?_) (fun c6 => ?_)
  · replace hf := me_ip c6 hf
    refine me_iload C dL_law_2418 rfl ?_
    refine me_if_ne C (tgt := 2435) dL_law_2420 (by decide) (fun c7 => ?_) (fun c7 => ?_)
    · replace hf := me_in c7 hf
      refine me_goto C (tgt := 2789) dL_law_2435 (by decide) ?_
      cases hf
      refine me_wid (nc + 16) (ns + 128) (by omega) (by omega) ?_
      refine me_dropI [(0, .inl (.ref b)), (1, me_r 0 0), (2, me_r 36 0), (3, me_r 93 0), (4, me_r 94 0), (5, me_i i)] [2, 3, 4, 5, 6, 7] rfl ?_
      exact hK
    · replace hf := me_ip c7 hf
      refine me_aload_n C 3 (Or.inr (Or.inl ⟨_, rfl⟩)) dL_law_2423 rfl rfl ?_
      refine me_iconst C (v := 0) dL_law_2424 (by decide) ?_
      refine me_lald C dL_law_2425 ?_
      refine me_iload C dL_law_2426 rfl ?_
      refine me_i2l C dL_law_2428 ?_
      refine me_lcmp C dL_law_2429 ?_
      refine me_if_eq C (tgt := 2435) dL_law_2430 (by decide) (fun c8 => ?_) (fun c8 => ?_)
      · replace hf := me_ip c8 hf
        refine me_goto C (tgt := 2789) dL_law_2435 (by decide) ?_
        cases hf
        refine me_wid (nc + 16) (ns + 128) (by omega) (by omega) ?_
        refine me_dropI [(0, .inl (.ref b)), (1, me_r 0 0), (2, me_r 36 0), (3, me_r 93 0), (4, me_r 94 0), (5, me_i i)] [2, 3, 4, 5, 6, 7] rfl ?_
        exact hK
      · replace hf := me_in c8 hf
        refine me_iconst C (v := 0) dL_law_2433 (by decide) ?_
        cases hf
  · replace hf := me_in c6 hf
    refine me_iconst C (v := 0) dL_law_2416 (by decide) ?_
    cases hf

def f_case_36 (μ : me_M) (o : Int64 × UInt64) (s1 s2 s3 s4 s5 : Int32) : Option (me_M × (Int64 × UInt64)) :=
  me_b2 (f_L_traffic μ o s1 s2 s3) (fun μ2 r1 =>
  me_b2 (f_M_traffic μ2 s1 s2 s3) (fun μ4 r3 =>
  me_bd (f_M_thrown μ4) (fun r5 =>
  if r5 = (r1.2) then
  (if (r1.2) = 0 then
  (if (lg_cmp (r1.1.1) (Int32.toInt64 r3)) = 0 then
  (some (μ4, r1.1))
  else
  (none))
  else
  (some (μ4, r1.1)))
  else
  (none))))
set_option maxHeartbeats 4000000 in
set_option maxRecDepth 100000 in
theorem z_case_36 {X : me_X} {B : me_B} {μ : me_M} {b n : Nat} {xs : Nat → Int32} {i s1 s2 s3 s4 s5 : Int32} {nc ns : Nat} {ret0 : Option FieldType} (C : me_C X B RL cL_law 9 ret0) (hX : me_SX X b n xs) (hroom : me_Rm X 12 464 601024 7293034) (hB : me_St B) (h93 : ∀ i, i < B.2.1 93 → i = 0) (h94 : ∀ i, i < B.2.1 94 → i = 0) (h95 : B.2.1 95 = 0) (hn : nc + 16 ≤ 601024 ∧ ns + 128 ≤ 7293034) (h1 : me_inb (i + 1) n = true) (e1 : xs (me_ix (i + 1)) = s1) (h2 : me_inb (i + 2) n = true) (e2 : xs (me_ix (i + 2)) = s2) (h3 : me_inb (i + 3) n = true) (e3 : xs (me_ix (i + 3)) = s3) (h4 : me_inb (i + 4) n = true) (e4 : xs (me_ix (i + 4)) = s4) (h5 : me_inb (i + 5) n = true) (e5 : xs (me_ix (i + 5)) = s5) {μ' : me_M} {o' : Int64 × UInt64} (hf : f_case_36 μ B.2.2.2 s1 s2 s3 s4 s5 = some (μ', o')) (hK : me_Z X (me_ob B o') (nc + 16) (ns + 128) μ' 2789 [(0, .inl (.ref b)), (1, me_r 0 0), (2, me_r 36 0), (3, me_r 93 0), (4, me_r 94 0), (5, me_i i)] []) : me_Z X B nc ns μ 2438 [(0, .inl (.ref b)), (1, me_r 0 0), (2, me_r 36 0), (3, me_r 93 0), (4, me_r 94 0), (5, me_i i)] [] := by
  unfold f_case_36 at hf
  refine me_aload_n C 1 (Or.inr (Or.inl ⟨_, rfl⟩)) dL_law_2438 rfl rfl ?_
  refine me_aload_n C 0 (Or.inr (Or.inr ⟨_, rfl⟩)) dL_law_2439 rfl rfl ?_
  refine me_iload C dL_law_2440 rfl ?_
  refine me_iconst C (v := 1) dL_law_2442 (by decide) ?_
  refine me_iadd C dL_law_2443 ?_
  refine me_sld C hX h1 e1 dL_law_2444 ?_
  refine me_aload_n C 0 (Or.inr (Or.inr ⟨_, rfl⟩)) dL_law_2445 rfl rfl ?_
  refine me_iload C dL_law_2446 rfl ?_
  refine me_iconst C (v := 2) dL_law_2448 (by decide) ?_
  refine me_iadd C dL_law_2449 ?_
  refine me_sld C hX h2 e2 dL_law_2450 ?_
  refine me_aload_n C 0 (Or.inr (Or.inr ⟨_, rfl⟩)) dL_law_2451 rfl rfl ?_
  refine me_iload C dL_law_2452 rfl ?_
  refine me_iconst C (v := 3) dL_law_2454 (by decide) ?_
  refine me_iadd C dL_law_2455 ?_
  refine me_sld C hX h3 e3 dL_law_2456 ?_
  refine me_aload_n C 3 (Or.inr (Or.inl ⟨_, rfl⟩)) dL_law_2457 rfl rfl ?_
  obtain ⟨μ2, r1, h_r1, hf⟩ := me_bs2 hf
  refine me_callSH C hroom (n := 5) (As := [me_r 0 0, me_i s1, me_i s2, me_i s3, me_r 93 0]) (st := []) (nc + 3) (ns + 18) (c_L_traffic hB h93 h_r1) mh_L_traffic iL ⟨by decide +kernel, by decide +kernel⟩ (by decide +kernel) si_L_traffic ml_L_274 dL_law_2458 rfl rfl ⟨by decide, by decide⟩ ⟨by omega, by omega, by omega, by omega⟩ (Nat.le_of_ble_eq_true rfl) ?_
  have hB := hB.ob r1.1
  have C := C.ob r1.1
  refine me_istore C dL_law_2461 (by decide) (L' := [(6, me_i (r1.2)), (0, .inl (.ref b)), (1, me_r 0 0), (2, me_r 36 0), (3, me_r 93 0), (4, me_r 94 0), (5, me_i i)]) rfl ?_
  refine me_aload_n C 2 (Or.inr (Or.inl ⟨_, rfl⟩)) dL_law_2463 rfl rfl ?_
  refine me_aload_n C 0 (Or.inr (Or.inr ⟨_, rfl⟩)) dL_law_2464 rfl rfl ?_
  refine me_iload C dL_law_2465 rfl ?_
  refine me_iconst C (v := 1) dL_law_2467 (by decide) ?_
  refine me_iadd C dL_law_2468 ?_
  refine me_sld C hX h1 e1 dL_law_2469 ?_
  refine me_aload_n C 0 (Or.inr (Or.inr ⟨_, rfl⟩)) dL_law_2470 rfl rfl ?_
  refine me_iload C dL_law_2471 rfl ?_
  refine me_iconst C (v := 2) dL_law_2473 (by decide) ?_
  refine me_iadd C dL_law_2474 ?_
  refine me_sld C hX h2 e2 dL_law_2475 ?_
  refine me_aload_n C 0 (Or.inr (Or.inr ⟨_, rfl⟩)) dL_law_2476 rfl rfl ?_
  refine me_iload C dL_law_2477 rfl ?_
  refine me_iconst C (v := 3) dL_law_2479 (by decide) ?_
  refine me_iadd C dL_law_2480 ?_
  refine me_sld C hX h3 e3 dL_law_2481 ?_
  obtain ⟨μ4, r3, h_r3, hf⟩ := me_bs2 hf
  refine me_callVR C hroom (As := [me_i s1, me_i s2, me_i s3]) (st := []) (nc + 3) (ns + 18) (c_M_traffic hB h_r3) mv_M_traffic ml_L_276 rfl rfl dL_law_2482 rfl rfl ⟨by decide, by decide⟩ ⟨by omega, by omega, by omega, by omega⟩ (Nat.le_of_ble_eq_true rfl) ?_
  refine me_istore C dL_law_2485 (by decide) (L' := [(7, me_i r3), (6, me_i (r1.2)), (0, .inl (.ref b)), (1, me_r 0 0), (2, me_r 36 0), (3, me_r 93 0), (4, me_r 94 0), (5, me_i i)]) rfl ?_
  refine me_aload_n C 2 (Or.inr (Or.inl ⟨_, rfl⟩)) dL_law_2487 rfl rfl ?_
  obtain ⟨r5, h_r5, hf⟩ := me_bs hf
  refine me_callVR C hroom (As := []) (st := []) (nc + 3) (ns + 18) (c_M_thrown hB h_r5) mv_M_thrown ml_L_154 rfl rfl dL_law_2488 rfl rfl ⟨by decide, by decide⟩ ⟨by omega, by omega, by omega, by omega⟩ (Nat.le_of_ble_eq_true rfl) ?_
  refine me_iload C dL_law_2491 rfl ?_
  refine me_icmp_eq C (tgt := 2498) dL_law_2493 (by decide) (fun c6 => ?_) (fun c6 => ?_)
  · replace hf := me_ip c6 hf
    refine me_iload C dL_law_2498 rfl ?_
    refine me_if_ne C (tgt := 2515) dL_law_2500 (by decide) (fun c7 => ?_) (fun c7 => ?_)
    · replace hf := me_in c7 hf
      refine me_goto C (tgt := 2789) dL_law_2515 (by decide) ?_
      cases hf
      refine me_wid (nc + 16) (ns + 128) (by omega) (by omega) ?_
      refine me_dropI [(0, .inl (.ref b)), (1, me_r 0 0), (2, me_r 36 0), (3, me_r 93 0), (4, me_r 94 0), (5, me_i i)] [2, 3, 4, 5, 6, 7] rfl ?_
      exact hK
    · replace hf := me_ip c7 hf
      refine me_aload_n C 3 (Or.inr (Or.inl ⟨_, rfl⟩)) dL_law_2503 rfl rfl ?_
      refine me_iconst C (v := 0) dL_law_2504 (by decide) ?_
      refine me_lald C dL_law_2505 ?_
      refine me_iload C dL_law_2506 rfl ?_
      refine me_i2l C dL_law_2508 ?_
      refine me_lcmp C dL_law_2509 ?_
      refine me_if_eq C (tgt := 2515) dL_law_2510 (by decide) (fun c8 => ?_) (fun c8 => ?_)
      · replace hf := me_ip c8 hf
        refine me_goto C (tgt := 2789) dL_law_2515 (by decide) ?_
        cases hf
        refine me_wid (nc + 16) (ns + 128) (by omega) (by omega) ?_
        refine me_dropI [(0, .inl (.ref b)), (1, me_r 0 0), (2, me_r 36 0), (3, me_r 93 0), (4, me_r 94 0), (5, me_i i)] [2, 3, 4, 5, 6, 7] rfl ?_
        exact hK
      · replace hf := me_in c8 hf
        refine me_iconst C (v := 0) dL_law_2513 (by decide) ?_
        cases hf
  · replace hf := me_in c6 hf
    refine me_iconst C (v := 0) dL_law_2496 (by decide) ?_
    cases hf

def f_case_37 (μ : me_M) (o : Int64 × UInt64) (s1 s2 s3 s4 s5 : Int32) : Option (me_M × (Int64 × UInt64)) :=
  me_bd (f_Y_cost μ) (fun r1 =>
  me_b2 (f_M_cost μ) (fun μ3 r2 =>
  if r1 = r2 then
  (some (μ3, o))
  else
  (none)))
set_option maxHeartbeats 4000000 in
set_option maxRecDepth 100000 in
theorem z_case_37 {X : me_X} {B : me_B} {μ : me_M} {b n : Nat} {xs : Nat → Int32} {i s1 s2 s3 s4 s5 : Int32} {nc ns : Nat} {ret0 : Option FieldType} (C : me_C X B RL cL_law 9 ret0) (hX : me_SX X b n xs) (hroom : me_Rm X 12 464 601024 7293034) (hB : me_St B) (h93 : ∀ i, i < B.2.1 93 → i = 0) (h94 : ∀ i, i < B.2.1 94 → i = 0) (h95 : B.2.1 95 = 0) (hn : nc + 16 ≤ 601024 ∧ ns + 128 ≤ 7293034) (h1 : me_inb (i + 1) n = true) (e1 : xs (me_ix (i + 1)) = s1) (h2 : me_inb (i + 2) n = true) (e2 : xs (me_ix (i + 2)) = s2) (h3 : me_inb (i + 3) n = true) (e3 : xs (me_ix (i + 3)) = s3) (h4 : me_inb (i + 4) n = true) (e4 : xs (me_ix (i + 4)) = s4) (h5 : me_inb (i + 5) n = true) (e5 : xs (me_ix (i + 5)) = s5) {μ' : me_M} {o' : Int64 × UInt64} (hf : f_case_37 μ B.2.2.2 s1 s2 s3 s4 s5 = some (μ', o')) (hK : me_Z X (me_ob B o') (nc + 16) (ns + 128) μ' 2789 [(0, .inl (.ref b)), (1, me_r 0 0), (2, me_r 36 0), (3, me_r 93 0), (4, me_r 94 0), (5, me_i i)] []) : me_Z X B nc ns μ 2518 [(0, .inl (.ref b)), (1, me_r 0 0), (2, me_r 36 0), (3, me_r 93 0), (4, me_r 94 0), (5, me_i i)] [] := by
  unfold f_case_37 at hf
  refine me_aload_n C 1 (Or.inr (Or.inl ⟨_, rfl⟩)) dL_law_2518 rfl rfl ?_
  obtain ⟨r1, h_r1, hf⟩ := me_bs hf
  refine me_callVR C hroom (As := []) (st := []) nc ns (c_Y_cost hB h_r1) mv_Y_cost ml_L_277 rfl rfl dL_law_2519 rfl rfl ⟨by decide, by decide⟩ ⟨by omega, by omega, by omega, by omega⟩ (Nat.le_of_ble_eq_true rfl) ?_
  refine me_aload_n C 2 (Or.inr (Or.inl ⟨_, rfl⟩)) dL_law_2522 rfl rfl ?_
  obtain ⟨μ3, r2, h_r2, hf⟩ := me_bs2 hf
  refine me_callVR C hroom (As := []) (st := [me_i r1]) nc ns (c_M_cost hB h_r2) mv_M_cost ml_L_280 rfl rfl dL_law_2523 rfl rfl ⟨by decide, by decide⟩ ⟨by omega, by omega, by omega, by omega⟩ (Nat.le_of_ble_eq_true rfl) ?_
  refine me_icmp_eq C (tgt := 2789) dL_law_2526 (by decide) (fun c4 => ?_) (fun c4 => ?_)
  · replace hf := me_ip c4 hf
    cases hf
    refine me_wid (nc + 16) (ns + 128) (by omega) (by omega) ?_
    refine me_dropI [(0, .inl (.ref b)), (1, me_r 0 0), (2, me_r 36 0), (3, me_r 93 0), (4, me_r 94 0), (5, me_i i)] [0, 1, 2, 3, 4, 5] rfl ?_
    exact hK
  · replace hf := me_in c4 hf
    refine me_iconst C (v := 0) dL_law_2529 (by decide) ?_
    cases hf

def f_case_38 (μ : me_M) (o : Int64 × UInt64) (s1 s2 s3 s4 s5 : Int32) : Option (me_M × (Int64 × UInt64)) :=
  me_b2 (f_L_swap μ o) (fun μ2 r1 =>
  me_b2 (f_M_swap μ2) (fun μ4 r3 =>
  me_bd (f_M_thrown μ4) (fun r5 =>
  if r5 = (r1.2) then
  (if (r1.2) = 0 then
  (if (lg_cmp (r1.1.1) (Int32.toInt64 r3)) = 0 then
  (some (μ4, r1.1))
  else
  (none))
  else
  (some (μ4, r1.1)))
  else
  (none))))
set_option maxHeartbeats 4000000 in
set_option maxRecDepth 100000 in
theorem z_case_38 {X : me_X} {B : me_B} {μ : me_M} {b n : Nat} {xs : Nat → Int32} {i s1 s2 s3 s4 s5 : Int32} {nc ns : Nat} {ret0 : Option FieldType} (C : me_C X B RL cL_law 9 ret0) (hX : me_SX X b n xs) (hroom : me_Rm X 12 464 601024 7293034) (hB : me_St B) (h93 : ∀ i, i < B.2.1 93 → i = 0) (h94 : ∀ i, i < B.2.1 94 → i = 0) (h95 : B.2.1 95 = 0) (hn : nc + 16 ≤ 601024 ∧ ns + 128 ≤ 7293034) (h1 : me_inb (i + 1) n = true) (e1 : xs (me_ix (i + 1)) = s1) (h2 : me_inb (i + 2) n = true) (e2 : xs (me_ix (i + 2)) = s2) (h3 : me_inb (i + 3) n = true) (e3 : xs (me_ix (i + 3)) = s3) (h4 : me_inb (i + 4) n = true) (e4 : xs (me_ix (i + 4)) = s4) (h5 : me_inb (i + 5) n = true) (e5 : xs (me_ix (i + 5)) = s5) {μ' : me_M} {o' : Int64 × UInt64} (hf : f_case_38 μ B.2.2.2 s1 s2 s3 s4 s5 = some (μ', o')) (hK : me_Z X (me_ob B o') (nc + 16) (ns + 128) μ' 2789 [(0, .inl (.ref b)), (1, me_r 0 0), (2, me_r 36 0), (3, me_r 93 0), (4, me_r 94 0), (5, me_i i)] []) : me_Z X B nc ns μ 2531 [(0, .inl (.ref b)), (1, me_r 0 0), (2, me_r 36 0), (3, me_r 93 0), (4, me_r 94 0), (5, me_i i)] [] := by
  unfold f_case_38 at hf
  refine me_aload_n C 1 (Or.inr (Or.inl ⟨_, rfl⟩)) dL_law_2531 rfl rfl ?_
  refine me_aload_n C 3 (Or.inr (Or.inl ⟨_, rfl⟩)) dL_law_2532 rfl rfl ?_
  obtain ⟨μ2, r1, h_r1, hf⟩ := me_bs2 hf
  refine me_callSH C hroom (n := 2) (As := [me_r 0 0, me_r 93 0]) (st := []) (nc + 1) (ns + 6) (c_L_swap hB h93 h_r1) mh_L_swap iL ⟨by decide +kernel, by decide +kernel⟩ (by decide +kernel) si_L_swap ml_L_281 dL_law_2533 rfl rfl ⟨by decide, by decide⟩ ⟨by omega, by omega, by omega, by omega⟩ (Nat.le_of_ble_eq_true rfl) ?_
  have hB := hB.ob r1.1
  have C := C.ob r1.1
  refine me_istore C dL_law_2536 (by decide) (L' := [(6, me_i (r1.2)), (0, .inl (.ref b)), (1, me_r 0 0), (2, me_r 36 0), (3, me_r 93 0), (4, me_r 94 0), (5, me_i i)]) rfl ?_
  refine me_aload_n C 2 (Or.inr (Or.inl ⟨_, rfl⟩)) dL_law_2538 rfl rfl ?_
  obtain ⟨μ4, r3, h_r3, hf⟩ := me_bs2 hf
  refine me_callVR C hroom (As := []) (st := []) (nc + 1) (ns + 6) (c_M_swap hB h_r3) mv_M_swap ml_L_284 rfl rfl dL_law_2539 rfl rfl ⟨by decide, by decide⟩ ⟨by omega, by omega, by omega, by omega⟩ (Nat.le_of_ble_eq_true rfl) ?_
  refine me_istore C dL_law_2542 (by decide) (L' := [(7, me_i r3), (6, me_i (r1.2)), (0, .inl (.ref b)), (1, me_r 0 0), (2, me_r 36 0), (3, me_r 93 0), (4, me_r 94 0), (5, me_i i)]) rfl ?_
  refine me_aload_n C 2 (Or.inr (Or.inl ⟨_, rfl⟩)) dL_law_2544 rfl rfl ?_
  obtain ⟨r5, h_r5, hf⟩ := me_bs hf
  refine me_callVR C hroom (As := []) (st := []) (nc + 1) (ns + 6) (c_M_thrown hB h_r5) mv_M_thrown ml_L_154 rfl rfl dL_law_2545 rfl rfl ⟨by decide, by decide⟩ ⟨by omega, by omega, by omega, by omega⟩ (Nat.le_of_ble_eq_true rfl) ?_
  refine me_iload C dL_law_2548 rfl ?_
  refine me_icmp_eq C (tgt := 2555) dL_law_2550 (by decide) (fun c6 => ?_) (fun c6 => ?_)
  · replace hf := me_ip c6 hf
    refine me_iload C dL_law_2555 rfl ?_
    refine me_if_ne C (tgt := 2572) dL_law_2557 (by decide) (fun c7 => ?_) (fun c7 => ?_)
    · replace hf := me_in c7 hf
      refine me_goto C (tgt := 2789) dL_law_2572 (by decide) ?_
      cases hf
      refine me_wid (nc + 16) (ns + 128) (by omega) (by omega) ?_
      refine me_dropI [(0, .inl (.ref b)), (1, me_r 0 0), (2, me_r 36 0), (3, me_r 93 0), (4, me_r 94 0), (5, me_i i)] [2, 3, 4, 5, 6, 7] rfl ?_
      exact hK
    · replace hf := me_ip c7 hf
      refine me_aload_n C 3 (Or.inr (Or.inl ⟨_, rfl⟩)) dL_law_2560 rfl rfl ?_
      refine me_iconst C (v := 0) dL_law_2561 (by decide) ?_
      refine me_lald C dL_law_2562 ?_
      refine me_iload C dL_law_2563 rfl ?_
      refine me_i2l C dL_law_2565 ?_
      refine me_lcmp C dL_law_2566 ?_
      refine me_if_eq C (tgt := 2572) dL_law_2567 (by decide) (fun c8 => ?_) (fun c8 => ?_)
      · replace hf := me_ip c8 hf
        refine me_goto C (tgt := 2789) dL_law_2572 (by decide) ?_
        cases hf
        refine me_wid (nc + 16) (ns + 128) (by omega) (by omega) ?_
        refine me_dropI [(0, .inl (.ref b)), (1, me_r 0 0), (2, me_r 36 0), (3, me_r 93 0), (4, me_r 94 0), (5, me_i i)] [2, 3, 4, 5, 6, 7] rfl ?_
        exact hK
      · replace hf := me_in c8 hf
        refine me_iconst C (v := 0) dL_law_2570 (by decide) ?_
        cases hf
  · replace hf := me_in c6 hf
    refine me_iconst C (v := 0) dL_law_2553 (by decide) ?_
    cases hf

def f_case_39 (μ : me_M) (o : Int64 × UInt64) (s1 s2 s3 s4 s5 : Int32) : Option (me_M × (Int64 × UInt64)) :=
  me_b2 (f_L_nodeOf μ o s1) (fun μ2 r1 =>
  me_b2 (f_M_nodeOf μ2 s1) (fun μ4 r3 =>
  me_bd (f_M_thrown μ4) (fun r5 =>
  if r5 = (r1.2) then
  (if (r1.2) = 0 then
  (if (lg_cmp (r1.1.1) (Int32.toInt64 r3)) = 0 then
  (some (μ4, r1.1))
  else
  (none))
  else
  (some (μ4, r1.1)))
  else
  (none))))
set_option maxHeartbeats 4000000 in
set_option maxRecDepth 100000 in
theorem z_case_39 {X : me_X} {B : me_B} {μ : me_M} {b n : Nat} {xs : Nat → Int32} {i s1 s2 s3 s4 s5 : Int32} {nc ns : Nat} {ret0 : Option FieldType} (C : me_C X B RL cL_law 9 ret0) (hX : me_SX X b n xs) (hroom : me_Rm X 12 464 601024 7293034) (hB : me_St B) (h93 : ∀ i, i < B.2.1 93 → i = 0) (h94 : ∀ i, i < B.2.1 94 → i = 0) (h95 : B.2.1 95 = 0) (hn : nc + 16 ≤ 601024 ∧ ns + 128 ≤ 7293034) (h1 : me_inb (i + 1) n = true) (e1 : xs (me_ix (i + 1)) = s1) (h2 : me_inb (i + 2) n = true) (e2 : xs (me_ix (i + 2)) = s2) (h3 : me_inb (i + 3) n = true) (e3 : xs (me_ix (i + 3)) = s3) (h4 : me_inb (i + 4) n = true) (e4 : xs (me_ix (i + 4)) = s4) (h5 : me_inb (i + 5) n = true) (e5 : xs (me_ix (i + 5)) = s5) {μ' : me_M} {o' : Int64 × UInt64} (hf : f_case_39 μ B.2.2.2 s1 s2 s3 s4 s5 = some (μ', o')) (hK : me_Z X (me_ob B o') (nc + 16) (ns + 128) μ' 2789 [(0, .inl (.ref b)), (1, me_r 0 0), (2, me_r 36 0), (3, me_r 93 0), (4, me_r 94 0), (5, me_i i)] []) : me_Z X B nc ns μ 2575 [(0, .inl (.ref b)), (1, me_r 0 0), (2, me_r 36 0), (3, me_r 93 0), (4, me_r 94 0), (5, me_i i)] [] := by
  unfold f_case_39 at hf
  refine me_aload_n C 1 (Or.inr (Or.inl ⟨_, rfl⟩)) dL_law_2575 rfl rfl ?_
  refine me_aload_n C 0 (Or.inr (Or.inr ⟨_, rfl⟩)) dL_law_2576 rfl rfl ?_
  refine me_iload C dL_law_2577 rfl ?_
  refine me_iconst C (v := 1) dL_law_2579 (by decide) ?_
  refine me_iadd C dL_law_2580 ?_
  refine me_sld C hX h1 e1 dL_law_2581 ?_
  refine me_aload_n C 3 (Or.inr (Or.inl ⟨_, rfl⟩)) dL_law_2582 rfl rfl ?_
  obtain ⟨μ2, r1, h_r1, hf⟩ := me_bs2 hf
  refine me_callSH C hroom (n := 3) (As := [me_r 0 0, me_i s1, me_r 93 0]) (st := []) (nc + 1) (ns + 6) (c_L_nodeOf hB h93 h_r1) mh_L_nodeOf iL ⟨by decide +kernel, by decide +kernel⟩ (by decide +kernel) si_L_nodeOf ml_L_285 dL_law_2583 rfl rfl ⟨by decide, by decide⟩ ⟨by omega, by omega, by omega, by omega⟩ (Nat.le_of_ble_eq_true rfl) ?_
  have hB := hB.ob r1.1
  have C := C.ob r1.1
  refine me_istore C dL_law_2586 (by decide) (L' := [(6, me_i (r1.2)), (0, .inl (.ref b)), (1, me_r 0 0), (2, me_r 36 0), (3, me_r 93 0), (4, me_r 94 0), (5, me_i i)]) rfl ?_
  refine me_aload_n C 2 (Or.inr (Or.inl ⟨_, rfl⟩)) dL_law_2588 rfl rfl ?_
  refine me_aload_n C 0 (Or.inr (Or.inr ⟨_, rfl⟩)) dL_law_2589 rfl rfl ?_
  refine me_iload C dL_law_2590 rfl ?_
  refine me_iconst C (v := 1) dL_law_2592 (by decide) ?_
  refine me_iadd C dL_law_2593 ?_
  refine me_sld C hX h1 e1 dL_law_2594 ?_
  obtain ⟨μ4, r3, h_r3, hf⟩ := me_bs2 hf
  refine me_callVR C hroom (As := [me_i s1]) (st := []) (nc + 1) (ns + 6) (c_M_nodeOf hB h_r3) mv_M_nodeOf ml_L_287 rfl rfl dL_law_2595 rfl rfl ⟨by decide, by decide⟩ ⟨by omega, by omega, by omega, by omega⟩ (Nat.le_of_ble_eq_true rfl) ?_
  refine me_istore C dL_law_2598 (by decide) (L' := [(7, me_i r3), (6, me_i (r1.2)), (0, .inl (.ref b)), (1, me_r 0 0), (2, me_r 36 0), (3, me_r 93 0), (4, me_r 94 0), (5, me_i i)]) rfl ?_
  refine me_aload_n C 2 (Or.inr (Or.inl ⟨_, rfl⟩)) dL_law_2600 rfl rfl ?_
  obtain ⟨r5, h_r5, hf⟩ := me_bs hf
  refine me_callVR C hroom (As := []) (st := []) (nc + 1) (ns + 6) (c_M_thrown hB h_r5) mv_M_thrown ml_L_154 rfl rfl dL_law_2601 rfl rfl ⟨by decide, by decide⟩ ⟨by omega, by omega, by omega, by omega⟩ (Nat.le_of_ble_eq_true rfl) ?_
  refine me_iload C dL_law_2604 rfl ?_
  refine me_icmp_eq C (tgt := 2611) dL_law_2606 (by decide) (fun c6 => ?_) (fun c6 => ?_)
  · replace hf := me_ip c6 hf
    refine me_iload C dL_law_2611 rfl ?_
    refine me_if_ne C (tgt := 2628) dL_law_2613 (by decide) (fun c7 => ?_) (fun c7 => ?_)
    · replace hf := me_in c7 hf
      refine me_goto C (tgt := 2789) dL_law_2628 (by decide) ?_
      cases hf
      refine me_wid (nc + 16) (ns + 128) (by omega) (by omega) ?_
      refine me_dropI [(0, .inl (.ref b)), (1, me_r 0 0), (2, me_r 36 0), (3, me_r 93 0), (4, me_r 94 0), (5, me_i i)] [2, 3, 4, 5, 6, 7] rfl ?_
      exact hK
    · replace hf := me_ip c7 hf
      refine me_aload_n C 3 (Or.inr (Or.inl ⟨_, rfl⟩)) dL_law_2616 rfl rfl ?_
      refine me_iconst C (v := 0) dL_law_2617 (by decide) ?_
      refine me_lald C dL_law_2618 ?_
      refine me_iload C dL_law_2619 rfl ?_
      refine me_i2l C dL_law_2621 ?_
      refine me_lcmp C dL_law_2622 ?_
      refine me_if_eq C (tgt := 2628) dL_law_2623 (by decide) (fun c8 => ?_) (fun c8 => ?_)
      · replace hf := me_ip c8 hf
        refine me_goto C (tgt := 2789) dL_law_2628 (by decide) ?_
        cases hf
        refine me_wid (nc + 16) (ns + 128) (by omega) (by omega) ?_
        refine me_dropI [(0, .inl (.ref b)), (1, me_r 0 0), (2, me_r 36 0), (3, me_r 93 0), (4, me_r 94 0), (5, me_i i)] [2, 3, 4, 5, 6, 7] rfl ?_
        exact hK
      · replace hf := me_in c8 hf
        refine me_iconst C (v := 0) dL_law_2626 (by decide) ?_
        cases hf
  · replace hf := me_in c6 hf
    refine me_iconst C (v := 0) dL_law_2609 (by decide) ?_
    cases hf

def f_case_40 (μ : me_M) (o : Int64 × UInt64) (s1 s2 s3 s4 s5 : Int32) : Option (me_M × (Int64 × UInt64)) :=
  me_bd (f_Y_checksum μ) (fun r1 =>
  me_b2 (f_M_checksum μ) (fun μ3 r2 =>
  if (lg_cmp r1 r2) = 0 then
  (some (μ3, o))
  else
  (none)))
set_option maxHeartbeats 4000000 in
set_option maxRecDepth 100000 in
theorem z_case_40 {X : me_X} {B : me_B} {μ : me_M} {b n : Nat} {xs : Nat → Int32} {i s1 s2 s3 s4 s5 : Int32} {nc ns : Nat} {ret0 : Option FieldType} (C : me_C X B RL cL_law 9 ret0) (hX : me_SX X b n xs) (hroom : me_Rm X 12 464 601024 7293034) (hB : me_St B) (h93 : ∀ i, i < B.2.1 93 → i = 0) (h94 : ∀ i, i < B.2.1 94 → i = 0) (h95 : B.2.1 95 = 0) (hn : nc + 16 ≤ 601024 ∧ ns + 128 ≤ 7293034) (h1 : me_inb (i + 1) n = true) (e1 : xs (me_ix (i + 1)) = s1) (h2 : me_inb (i + 2) n = true) (e2 : xs (me_ix (i + 2)) = s2) (h3 : me_inb (i + 3) n = true) (e3 : xs (me_ix (i + 3)) = s3) (h4 : me_inb (i + 4) n = true) (e4 : xs (me_ix (i + 4)) = s4) (h5 : me_inb (i + 5) n = true) (e5 : xs (me_ix (i + 5)) = s5) {μ' : me_M} {o' : Int64 × UInt64} (hf : f_case_40 μ B.2.2.2 s1 s2 s3 s4 s5 = some (μ', o')) (hK : me_Z X (me_ob B o') (nc + 16) (ns + 128) μ' 2789 [(0, .inl (.ref b)), (1, me_r 0 0), (2, me_r 36 0), (3, me_r 93 0), (4, me_r 94 0), (5, me_i i)] []) : me_Z X B nc ns μ 2631 [(0, .inl (.ref b)), (1, me_r 0 0), (2, me_r 36 0), (3, me_r 93 0), (4, me_r 94 0), (5, me_i i)] [] := by
  unfold f_case_40 at hf
  refine me_aload_n C 1 (Or.inr (Or.inl ⟨_, rfl⟩)) dL_law_2631 rfl rfl ?_
  obtain ⟨r1, h_r1, hf⟩ := me_bs hf
  refine me_callVR C hroom (As := []) (st := []) nc ns (c_Y_checksum hB h_r1) mv_Y_checksum ml_L_288 rfl rfl dL_law_2632 rfl rfl ⟨by decide, by decide⟩ ⟨by omega, by omega, by omega, by omega⟩ (Nat.le_of_ble_eq_true rfl) ?_
  refine me_aload_n C 2 (Or.inr (Or.inl ⟨_, rfl⟩)) dL_law_2635 rfl rfl ?_
  obtain ⟨μ3, r2, h_r2, hf⟩ := me_bs2 hf
  refine me_callVR C hroom (As := []) (st := [me_l r1]) nc ns (c_M_checksum hB h_r2) mv_M_checksum ml_L_292 rfl rfl dL_law_2636 rfl rfl ⟨by decide, by decide⟩ ⟨by omega, by omega, by omega, by omega⟩ (Nat.le_of_ble_eq_true rfl) ?_
  refine me_lcmp C dL_law_2639 ?_
  refine me_if_eq C (tgt := 2789) dL_law_2640 (by decide) (fun c4 => ?_) (fun c4 => ?_)
  · replace hf := me_ip c4 hf
    cases hf
    refine me_wid (nc + 16) (ns + 128) (by omega) (by omega) ?_
    refine me_dropI [(0, .inl (.ref b)), (1, me_r 0 0), (2, me_r 36 0), (3, me_r 93 0), (4, me_r 94 0), (5, me_i i)] [0, 1, 2, 3, 4, 5] rfl ?_
    exact hK
  · replace hf := me_in c4 hf
    refine me_iconst C (v := 0) dL_law_2643 (by decide) ?_
    cases hf

def f_case_41 (μ : me_M) (o : Int64 × UInt64) (s1 s2 s3 s4 s5 : Int32) : Option (me_M × (Int64 × UInt64)) :=
  me_b2 (f_L_lostShare μ o) (fun μ2 r1 =>
  me_b2 (f_M_lostShare μ2) (fun μ4 r3 =>
  me_bd (f_M_thrown μ4) (fun r5 =>
  if r5 = (r1.2) then
  (if (r1.2) = 0 then
  (me_gd (me_n64 (FP.f2d r3)) (
  if (Op.cmpValue (FP.dcmp (r1.1.2) (FP.f2d r3)) .l) = 0 then
  (some (μ4, r1.1))
  else
  (if (Op.cmpValue (FP.dcmp (r1.1.2) (r1.1.2)) .l) = 0 then
  (none)
  else
  (if (Op.cmpValue (FP.fcmp r3 r3) .l) = 0 then
  (none)
  else
  (some (μ4, r1.1))))))
  else
  (some (μ4, r1.1)))
  else
  (none))))
set_option maxHeartbeats 4000000 in
set_option maxRecDepth 100000 in
theorem z_case_41 {X : me_X} {B : me_B} {μ : me_M} {b n : Nat} {xs : Nat → Int32} {i s1 s2 s3 s4 s5 : Int32} {nc ns : Nat} {ret0 : Option FieldType} (C : me_C X B RL cL_law 9 ret0) (hX : me_SX X b n xs) (hroom : me_Rm X 12 464 601024 7293034) (hB : me_St B) (h93 : ∀ i, i < B.2.1 93 → i = 0) (h94 : ∀ i, i < B.2.1 94 → i = 0) (h95 : B.2.1 95 = 0) (hn : nc + 16 ≤ 601024 ∧ ns + 128 ≤ 7293034) (h1 : me_inb (i + 1) n = true) (e1 : xs (me_ix (i + 1)) = s1) (h2 : me_inb (i + 2) n = true) (e2 : xs (me_ix (i + 2)) = s2) (h3 : me_inb (i + 3) n = true) (e3 : xs (me_ix (i + 3)) = s3) (h4 : me_inb (i + 4) n = true) (e4 : xs (me_ix (i + 4)) = s4) (h5 : me_inb (i + 5) n = true) (e5 : xs (me_ix (i + 5)) = s5) {μ' : me_M} {o' : Int64 × UInt64} (hf : f_case_41 μ B.2.2.2 s1 s2 s3 s4 s5 = some (μ', o')) (hK : me_Z X (me_ob B o') (nc + 16) (ns + 128) μ' 2789 [(0, .inl (.ref b)), (1, me_r 0 0), (2, me_r 36 0), (3, me_r 93 0), (4, me_r 94 0), (5, me_i i)] []) : me_Z X B nc ns μ 2645 [(0, .inl (.ref b)), (1, me_r 0 0), (2, me_r 36 0), (3, me_r 93 0), (4, me_r 94 0), (5, me_i i)] [] := by
  unfold f_case_41 at hf
  refine me_aload_n C 1 (Or.inr (Or.inl ⟨_, rfl⟩)) dL_law_2645 rfl rfl ?_
  refine me_aload C (Or.inr (Or.inl ⟨_, rfl⟩)) dL_law_2646 rfl ?_
  obtain ⟨μ2, r1, h_r1, hf⟩ := me_bs2 hf
  refine me_callSH C hroom (n := 2) (As := [me_r 0 0, me_r 94 0]) (st := []) (nc + 1) (ns + 6) (c_L_lostShare hB h94 h_r1) mh_L_lostShare iL ⟨by decide +kernel, by decide +kernel⟩ (by decide +kernel) si_L_lostShare ml_L_293 dL_law_2648 rfl rfl ⟨by decide, by decide⟩ ⟨by omega, by omega, by omega, by omega⟩ (Nat.le_of_ble_eq_true rfl) ?_
  have hB := hB.ob r1.1
  have C := C.ob r1.1
  refine me_istore C dL_law_2651 (by decide) (L' := [(6, me_i (r1.2)), (0, .inl (.ref b)), (1, me_r 0 0), (2, me_r 36 0), (3, me_r 93 0), (4, me_r 94 0), (5, me_i i)]) rfl ?_
  refine me_aload_n C 2 (Or.inr (Or.inl ⟨_, rfl⟩)) dL_law_2653 rfl rfl ?_
  obtain ⟨μ4, r3, h_r3, hf⟩ := me_bs2 hf
  refine me_callVR C hroom (As := []) (st := []) (nc + 1) (ns + 6) (c_M_lostShare hB h_r3) mv_M_lostShare ml_L_296 rfl rfl dL_law_2654 rfl rfl ⟨by decide, by decide⟩ ⟨by omega, by omega, by omega, by omega⟩ (Nat.le_of_ble_eq_true rfl) ?_
  refine me_fstore C dL_law_2657 (by decide) (L' := [(7, me_f r3), (6, me_i (r1.2)), (0, .inl (.ref b)), (1, me_r 0 0), (2, me_r 36 0), (3, me_r 93 0), (4, me_r 94 0), (5, me_i i)]) rfl ?_
  refine me_aload_n C 2 (Or.inr (Or.inl ⟨_, rfl⟩)) dL_law_2659 rfl rfl ?_
  obtain ⟨r5, h_r5, hf⟩ := me_bs hf
  refine me_callVR C hroom (As := []) (st := []) (nc + 1) (ns + 6) (c_M_thrown hB h_r5) mv_M_thrown ml_L_154 rfl rfl dL_law_2660 rfl rfl ⟨by decide, by decide⟩ ⟨by omega, by omega, by omega, by omega⟩ (Nat.le_of_ble_eq_true rfl) ?_
  refine me_iload C dL_law_2663 rfl ?_
  refine me_icmp_eq C (tgt := 2670) dL_law_2665 (by decide) (fun c6 => ?_) (fun c6 => ?_)
  · replace hf := me_ip c6 hf
    refine me_iload C dL_law_2670 rfl ?_
    refine me_if_ne C (tgt := 2708) dL_law_2672 (by decide) (fun c7 => ?_) (fun c7 => ?_)
    · replace hf := me_in c7 hf
      refine me_goto C (tgt := 2789) dL_law_2708 (by decide) ?_
      cases hf
      refine me_wid (nc + 16) (ns + 128) (by omega) (by omega) ?_
      refine me_dropI [(0, .inl (.ref b)), (1, me_r 0 0), (2, me_r 36 0), (3, me_r 93 0), (4, me_r 94 0), (5, me_i i)] [2, 3, 4, 5, 6, 7] rfl ?_
      exact hK
    · replace hf := me_ip c7 hf
      refine me_aload C (Or.inr (Or.inl ⟨_, rfl⟩)) dL_law_2675 rfl ?_
      refine me_iconst C (v := 0) dL_law_2677 (by decide) ?_
      refine me_dald C dL_law_2678 ?_
      refine me_fload C dL_law_2679 rfl ?_
      obtain ⟨g8, hf⟩ := me_gs hf
      refine me_f2d C dL_law_2681 (me_n64s g8) ?_
      refine me_dcmp C dL_law_2682 ?_
      refine me_if_eq C (tgt := 2708) dL_law_2683 (by decide) (fun c9 => ?_) (fun c9 => ?_)
      · replace hf := me_ip c9 hf
        refine me_goto C (tgt := 2789) dL_law_2708 (by decide) ?_
        cases hf
        refine me_wid (nc + 16) (ns + 128) (by omega) (by omega) ?_
        refine me_dropI [(0, .inl (.ref b)), (1, me_r 0 0), (2, me_r 36 0), (3, me_r 93 0), (4, me_r 94 0), (5, me_i i)] [2, 3, 4, 5, 6, 7] rfl ?_
        exact hK
      · replace hf := me_in c9 hf
        refine me_aload C (Or.inr (Or.inl ⟨_, rfl⟩)) dL_law_2686 rfl ?_
        refine me_iconst C (v := 0) dL_law_2688 (by decide) ?_
        refine me_dald C dL_law_2689 ?_
        refine me_aload C (Or.inr (Or.inl ⟨_, rfl⟩)) dL_law_2690 rfl ?_
        refine me_iconst C (v := 0) dL_law_2692 (by decide) ?_
        refine me_dald C dL_law_2693 ?_
        refine me_dcmp C dL_law_2694 ?_
        refine me_if_eq C (tgt := 2706) dL_law_2695 (by decide) (fun c10 => ?_) (fun c10 => ?_)
        · replace hf := me_ip c10 hf
          refine me_iconst C (v := 0) dL_law_2706 (by decide) ?_
          cases hf
        · replace hf := me_in c10 hf
          refine me_fload C dL_law_2698 rfl ?_
          refine me_fload C dL_law_2700 rfl ?_
          refine me_fcmp C dL_law_2702 ?_
          refine me_if_ne C (tgt := 2708) dL_law_2703 (by decide) (fun c11 => ?_) (fun c11 => ?_)
          · replace hf := me_in c11 hf
            refine me_goto C (tgt := 2789) dL_law_2708 (by decide) ?_
            cases hf
            refine me_wid (nc + 16) (ns + 128) (by omega) (by omega) ?_
            refine me_dropI [(0, .inl (.ref b)), (1, me_r 0 0), (2, me_r 36 0), (3, me_r 93 0), (4, me_r 94 0), (5, me_i i)] [2, 3, 4, 5, 6, 7] rfl ?_
            exact hK
          · replace hf := me_ip c11 hf
            refine me_iconst C (v := 0) dL_law_2706 (by decide) ?_
            cases hf
  · replace hf := me_in c6 hf
    refine me_iconst C (v := 0) dL_law_2668 (by decide) ?_
    cases hf

def f_case_42 (μ : me_M) (o : Int64 × UInt64) (s1 s2 s3 s4 s5 : Int32) : Option (me_M × (Int64 × UInt64)) :=
  me_b2 (f_L_meanTime μ o) (fun μ2 r1 =>
  me_b2 (f_M_meanTime μ2) (fun μ4 r3 =>
  me_bd (f_M_thrown μ4) (fun r5 =>
  if r5 = (r1.2) then
  (if (r1.2) = 0 then
  (if (Op.cmpValue (FP.dcmp (r1.1.2) r3) .l) = 0 then
  (some (μ4, r1.1))
  else
  (if (Op.cmpValue (FP.dcmp (r1.1.2) (r1.1.2)) .l) = 0 then
  (none)
  else
  (if (Op.cmpValue (FP.dcmp r3 r3) .l) = 0 then
  (none)
  else
  (some (μ4, r1.1)))))
  else
  (some (μ4, r1.1)))
  else
  (none))))
set_option maxHeartbeats 4000000 in
set_option maxRecDepth 100000 in
theorem z_case_42 {X : me_X} {B : me_B} {μ : me_M} {b n : Nat} {xs : Nat → Int32} {i s1 s2 s3 s4 s5 : Int32} {nc ns : Nat} {ret0 : Option FieldType} (C : me_C X B RL cL_law 9 ret0) (hX : me_SX X b n xs) (hroom : me_Rm X 12 464 601024 7293034) (hB : me_St B) (h93 : ∀ i, i < B.2.1 93 → i = 0) (h94 : ∀ i, i < B.2.1 94 → i = 0) (h95 : B.2.1 95 = 0) (hn : nc + 16 ≤ 601024 ∧ ns + 128 ≤ 7293034) (h1 : me_inb (i + 1) n = true) (e1 : xs (me_ix (i + 1)) = s1) (h2 : me_inb (i + 2) n = true) (e2 : xs (me_ix (i + 2)) = s2) (h3 : me_inb (i + 3) n = true) (e3 : xs (me_ix (i + 3)) = s3) (h4 : me_inb (i + 4) n = true) (e4 : xs (me_ix (i + 4)) = s4) (h5 : me_inb (i + 5) n = true) (e5 : xs (me_ix (i + 5)) = s5) {μ' : me_M} {o' : Int64 × UInt64} (hf : f_case_42 μ B.2.2.2 s1 s2 s3 s4 s5 = some (μ', o')) (hK : me_Z X (me_ob B o') (nc + 16) (ns + 128) μ' 2789 [(0, .inl (.ref b)), (1, me_r 0 0), (2, me_r 36 0), (3, me_r 93 0), (4, me_r 94 0), (5, me_i i)] []) : me_Z X B nc ns μ 2711 [(0, .inl (.ref b)), (1, me_r 0 0), (2, me_r 36 0), (3, me_r 93 0), (4, me_r 94 0), (5, me_i i)] [] := by
  unfold f_case_42 at hf
  refine me_aload_n C 1 (Or.inr (Or.inl ⟨_, rfl⟩)) dL_law_2711 rfl rfl ?_
  refine me_aload C (Or.inr (Or.inl ⟨_, rfl⟩)) dL_law_2712 rfl ?_
  obtain ⟨μ2, r1, h_r1, hf⟩ := me_bs2 hf
  refine me_callSH C hroom (n := 2) (As := [me_r 0 0, me_r 94 0]) (st := []) (nc + 1) (ns + 6) (c_L_meanTime hB h94 h_r1) mh_L_meanTime iL ⟨by decide +kernel, by decide +kernel⟩ (by decide +kernel) si_L_meanTime ml_L_297 dL_law_2714 rfl rfl ⟨by decide, by decide⟩ ⟨by omega, by omega, by omega, by omega⟩ (Nat.le_of_ble_eq_true rfl) ?_
  have hB := hB.ob r1.1
  have C := C.ob r1.1
  refine me_istore C dL_law_2717 (by decide) (L' := [(6, me_i (r1.2)), (0, .inl (.ref b)), (1, me_r 0 0), (2, me_r 36 0), (3, me_r 93 0), (4, me_r 94 0), (5, me_i i)]) rfl ?_
  refine me_aload_n C 2 (Or.inr (Or.inl ⟨_, rfl⟩)) dL_law_2719 rfl rfl ?_
  obtain ⟨μ4, r3, h_r3, hf⟩ := me_bs2 hf
  refine me_callVR C hroom (As := []) (st := []) (nc + 1) (ns + 6) (c_M_meanTime hB h_r3) mv_M_meanTime ml_L_299 rfl rfl dL_law_2720 rfl rfl ⟨by decide, by decide⟩ ⟨by omega, by omega, by omega, by omega⟩ (Nat.le_of_ble_eq_true rfl) ?_
  refine me_dstore C dL_law_2723 (by decide) (L' := [(7, me_d r3), (6, me_i (r1.2)), (0, .inl (.ref b)), (1, me_r 0 0), (2, me_r 36 0), (3, me_r 93 0), (4, me_r 94 0), (5, me_i i)]) rfl ?_
  refine me_aload_n C 2 (Or.inr (Or.inl ⟨_, rfl⟩)) dL_law_2725 rfl rfl ?_
  obtain ⟨r5, h_r5, hf⟩ := me_bs hf
  refine me_callVR C hroom (As := []) (st := []) (nc + 1) (ns + 6) (c_M_thrown hB h_r5) mv_M_thrown ml_L_154 rfl rfl dL_law_2726 rfl rfl ⟨by decide, by decide⟩ ⟨by omega, by omega, by omega, by omega⟩ (Nat.le_of_ble_eq_true rfl) ?_
  refine me_iload C dL_law_2729 rfl ?_
  refine me_icmp_eq C (tgt := 2736) dL_law_2731 (by decide) (fun c6 => ?_) (fun c6 => ?_)
  · replace hf := me_ip c6 hf
    refine me_iload C dL_law_2736 rfl ?_
    refine me_if_ne C (tgt := 2773) dL_law_2738 (by decide) (fun c7 => ?_) (fun c7 => ?_)
    · replace hf := me_in c7 hf
      refine me_goto C (tgt := 2789) dL_law_2773 (by decide) ?_
      cases hf
      refine me_wid (nc + 16) (ns + 128) (by omega) (by omega) ?_
      refine me_dropI [(0, .inl (.ref b)), (1, me_r 0 0), (2, me_r 36 0), (3, me_r 93 0), (4, me_r 94 0), (5, me_i i)] [2, 3, 4, 5, 6, 7] rfl ?_
      exact hK
    · replace hf := me_ip c7 hf
      refine me_aload C (Or.inr (Or.inl ⟨_, rfl⟩)) dL_law_2741 rfl ?_
      refine me_iconst C (v := 0) dL_law_2743 (by decide) ?_
      refine me_dald C dL_law_2744 ?_
      refine me_dload C dL_law_2745 rfl ?_
      refine me_dcmp C dL_law_2747 ?_
      refine me_if_eq C (tgt := 2773) dL_law_2748 (by decide) (fun c8 => ?_) (fun c8 => ?_)
      · replace hf := me_ip c8 hf
        refine me_goto C (tgt := 2789) dL_law_2773 (by decide) ?_
        cases hf
        refine me_wid (nc + 16) (ns + 128) (by omega) (by omega) ?_
        refine me_dropI [(0, .inl (.ref b)), (1, me_r 0 0), (2, me_r 36 0), (3, me_r 93 0), (4, me_r 94 0), (5, me_i i)] [2, 3, 4, 5, 6, 7] rfl ?_
        exact hK
      · replace hf := me_in c8 hf
        refine me_aload C (Or.inr (Or.inl ⟨_, rfl⟩)) dL_law_2751 rfl ?_
        refine me_iconst C (v := 0) dL_law_2753 (by decide) ?_
        refine me_dald C dL_law_2754 ?_
        refine me_aload C (Or.inr (Or.inl ⟨_, rfl⟩)) dL_law_2755 rfl ?_
        refine me_iconst C (v := 0) dL_law_2757 (by decide) ?_
        refine me_dald C dL_law_2758 ?_
        refine me_dcmp C dL_law_2759 ?_
        refine me_if_eq C (tgt := 2771) dL_law_2760 (by decide) (fun c9 => ?_) (fun c9 => ?_)
        · replace hf := me_ip c9 hf
          refine me_iconst C (v := 0) dL_law_2771 (by decide) ?_
          cases hf
        · replace hf := me_in c9 hf
          refine me_dload C dL_law_2763 rfl ?_
          refine me_dload C dL_law_2765 rfl ?_
          refine me_dcmp C dL_law_2767 ?_
          refine me_if_ne C (tgt := 2773) dL_law_2768 (by decide) (fun c10 => ?_) (fun c10 => ?_)
          · replace hf := me_in c10 hf
            refine me_goto C (tgt := 2789) dL_law_2773 (by decide) ?_
            cases hf
            refine me_wid (nc + 16) (ns + 128) (by omega) (by omega) ?_
            refine me_dropI [(0, .inl (.ref b)), (1, me_r 0 0), (2, me_r 36 0), (3, me_r 93 0), (4, me_r 94 0), (5, me_i i)] [2, 3, 4, 5, 6, 7] rfl ?_
            exact hK
          · replace hf := me_ip c10 hf
            refine me_iconst C (v := 0) dL_law_2771 (by decide) ?_
            cases hf
  · replace hf := me_in c6 hf
    refine me_iconst C (v := 0) dL_law_2734 (by decide) ?_
    cases hf

def f_case_43 (μ : me_M) (o : Int64 × UInt64) (s1 s2 s3 s4 s5 : Int32) : Option (me_M × (Int64 × UInt64)) :=
  me_b2 (f_Y_isSound μ) (fun μ2 r1 =>
  me_b2 (f_M_isSound μ2) (fun μ4 r3 =>
  if r1 = r3 then
  (some (μ4, o))
  else
  (none)))
set_option maxHeartbeats 4000000 in
set_option maxRecDepth 100000 in
theorem z_case_43 {X : me_X} {B : me_B} {μ : me_M} {b n : Nat} {xs : Nat → Int32} {i s1 s2 s3 s4 s5 : Int32} {nc ns : Nat} {ret0 : Option FieldType} (C : me_C X B RL cL_law 9 ret0) (hX : me_SX X b n xs) (hroom : me_Rm X 12 464 601024 7293034) (hB : me_St B) (h93 : ∀ i, i < B.2.1 93 → i = 0) (h94 : ∀ i, i < B.2.1 94 → i = 0) (h95 : B.2.1 95 = 0) (hn : nc + 16 ≤ 601024 ∧ ns + 128 ≤ 7293034) (h1 : me_inb (i + 1) n = true) (e1 : xs (me_ix (i + 1)) = s1) (h2 : me_inb (i + 2) n = true) (e2 : xs (me_ix (i + 2)) = s2) (h3 : me_inb (i + 3) n = true) (e3 : xs (me_ix (i + 3)) = s3) (h4 : me_inb (i + 4) n = true) (e4 : xs (me_ix (i + 4)) = s4) (h5 : me_inb (i + 5) n = true) (e5 : xs (me_ix (i + 5)) = s5) {μ' : me_M} {o' : Int64 × UInt64} (hf : f_case_43 μ B.2.2.2 s1 s2 s3 s4 s5 = some (μ', o')) (hK : me_Z X (me_ob B o') (nc + 16) (ns + 128) μ' 2789 [(0, .inl (.ref b)), (1, me_r 0 0), (2, me_r 36 0), (3, me_r 93 0), (4, me_r 94 0), (5, me_i i)] []) : me_Z X B nc ns μ 2776 [(0, .inl (.ref b)), (1, me_r 0 0), (2, me_r 36 0), (3, me_r 93 0), (4, me_r 94 0), (5, me_i i)] [] := by
  unfold f_case_43 at hf
  refine me_aload_n C 1 (Or.inr (Or.inl ⟨_, rfl⟩)) dL_law_2776 rfl rfl ?_
  obtain ⟨μ2, r1, h_r1, hf⟩ := me_bs2 hf
  refine me_callVR C hroom (As := []) (st := []) nc ns (c_Y_isSound hB h_r1) mv_Y_isSound ml_L_300 rfl rfl dL_law_2777 rfl rfl ⟨by decide, by decide⟩ ⟨by omega, by omega, by omega, by omega⟩ (Nat.le_of_ble_eq_true rfl) ?_
  refine me_aload_n C 2 (Or.inr (Or.inl ⟨_, rfl⟩)) dL_law_2780 rfl rfl ?_
  obtain ⟨μ4, r3, h_r3, hf⟩ := me_bs2 hf
  refine me_callVR C hroom (As := []) (st := [me_i r1]) nc ns (c_M_isSound hB h_r3) mv_M_isSound ml_L_303 rfl rfl dL_law_2781 rfl rfl ⟨by decide, by decide⟩ ⟨by omega, by omega, by omega, by omega⟩ (Nat.le_of_ble_eq_true rfl) ?_
  refine me_icmp_eq C (tgt := 2789) dL_law_2784 (by decide) (fun c5 => ?_) (fun c5 => ?_)
  · replace hf := me_ip c5 hf
    cases hf
    refine me_wid (nc + 16) (ns + 128) (by omega) (by omega) ?_
    refine me_dropI [(0, .inl (.ref b)), (1, me_r 0 0), (2, me_r 36 0), (3, me_r 93 0), (4, me_r 94 0), (5, me_i i)] [0, 1, 2, 3, 4, 5] rfl ?_
    exact hK
  · replace hf := me_in c5 hf
    refine me_iconst C (v := 0) dL_law_2787 (by decide) ?_
    cases hf
