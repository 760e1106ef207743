/-! THE LAW, blocks [405, 351, 259, 1276, 1257, 1168] (printed by gen/lawmain.py) -/
theorem dL_law_259 : decode cL_law 259 = .ok (.iload 15, 2) := by decide +kernel
theorem dL_law_261 : decode cL_law 261 = .ok (.iconst 3, 1) := by decide +kernel
theorem dL_law_262 : decode cL_law 262 = .ok (.if_icmp .ge 86, 3) := by decide +kernel
theorem dL_law_265 : decode cL_law 265 = .ok (.aload_n 0, 1) := by decide +kernel
theorem dL_law_266 : decode cL_law 266 = .ok (.bipush 50, 2) := by decide +kernel
theorem dL_law_268 : decode cL_law 268 = .ok (.iconst 3, 1) := by decide +kernel
theorem dL_law_269 : decode cL_law 269 = .ok (.iload 8, 2) := by decide +kernel
theorem dL_law_271 : decode cL_law 271 = .ok (.imul, 1) := by decide +kernel
theorem dL_law_272 : decode cL_law 272 = .ok (.iadd, 1) := by decide +kernel
theorem dL_law_273 : decode cL_law 273 = .ok (.iload 15, 2) := by decide +kernel
theorem dL_law_275 : decode cL_law 275 = .ok (.iadd, 1) := by decide +kernel
theorem dL_law_276 : decode cL_law 276 = .ok (.iload 4, 2) := by decide +kernel
theorem dL_law_278 : decode cL_law 278 = .ok (.invokestatic 95, 3) := by decide +kernel
theorem dL_law_281 : decode cL_law 281 = .ok (.istore 16, 2) := by decide +kernel
theorem dL_law_283 : decode cL_law 283 = .ok (.aload_n 0, 1) := by decide +kernel
theorem dL_law_284 : decode cL_law 284 = .ok (.bipush 70, 2) := by decide +kernel
theorem dL_law_286 : decode cL_law 286 = .ok (.iconst 3, 1) := by decide +kernel
theorem dL_law_287 : decode cL_law 287 = .ok (.iload 8, 2) := by decide +kernel
theorem dL_law_289 : decode cL_law 289 = .ok (.imul, 1) := by decide +kernel
theorem dL_law_290 : decode cL_law 290 = .ok (.iadd, 1) := by decide +kernel
theorem dL_law_291 : decode cL_law 291 = .ok (.iload 15, 2) := by decide +kernel
theorem dL_law_293 : decode cL_law 293 = .ok (.iadd, 1) := by decide +kernel
theorem dL_law_294 : decode cL_law 294 = .ok (.iconst 2, 1) := by decide +kernel
theorem dL_law_295 : decode cL_law 295 = .ok (.invokestatic 95, 3) := by decide +kernel
theorem dL_law_298 : decode cL_law 298 = .ok (.ifCond .ne 7, 3) := by decide +kernel
theorem dL_law_301 : decode cL_law 301 = .ok (.iconst 1, 1) := by decide +kernel
theorem dL_law_302 : decode cL_law 302 = .ok (.goto 4, 3) := by decide +kernel
theorem dL_law_305 : decode cL_law 305 = .ok (.iconst 0, 1) := by decide +kernel
theorem dL_law_348 : decode cL_law 348 = .ok (.iconst 0, 1) := by decide +kernel
theorem dL_law_349 : decode cL_law 349 = .ok (.istore 15, 2) := by decide +kernel
theorem dL_law_351 : decode cL_law 351 = .ok (.iload 15, 2) := by decide +kernel
theorem dL_law_353 : decode cL_law 353 = .ok (.iload 4, 2) := by decide +kernel
theorem dL_law_355 : decode cL_law 355 = .ok (.if_icmp .ge 28, 3) := by decide +kernel
theorem dL_law_358 : decode cL_law 358 = .ok (.aload 14, 2) := by decide +kernel
theorem dL_law_360 : decode cL_law 360 = .ok (.iload 15, 2) := by decide +kernel
theorem dL_law_362 : decode cL_law 362 = .ok (.aload_n 1, 1) := by decide +kernel
theorem dL_law_363 : decode cL_law 363 = .ok (.iload 15, 2) := by decide +kernel
theorem dL_law_365 : decode cL_law 365 = .ok (.invokestatic 115, 3) := by decide +kernel
theorem dL_law_368 : decode cL_law 368 = .ok (.ifCond .ne 7, 3) := by decide +kernel
theorem dL_law_371 : decode cL_law 371 = .ok (.iconst 1, 1) := by decide +kernel
theorem dL_law_372 : decode cL_law 372 = .ok (.goto 4, 3) := by decide +kernel
theorem dL_law_375 : decode cL_law 375 = .ok (.iconst 0, 1) := by decide +kernel
theorem dL_law_376 : decode cL_law 376 = .ok (.bastore, 1) := by decide +kernel
theorem dL_law_377 : decode cL_law 377 = .ok (.iinc 15 1, 3) := by decide +kernel
theorem dL_law_380 : decode cL_law 380 = .ok (.goto (-29), 3) := by decide +kernel
theorem dL_law_383 : decode cL_law 383 = .ok (.iload 9, 2) := by decide +kernel
theorem dL_law_385 : decode cL_law 385 = .ok (.istore 15, 2) := by decide +kernel
theorem dL_law_387 : decode cL_law 387 = .ok (.iload 13, 2) := by decide +kernel
theorem dL_law_389 : decode cL_law 389 = .ok (.aload 14, 2) := by decide +kernel
theorem dL_law_391 : decode cL_law 391 = .ok (.iload 15, 2) := by decide +kernel
theorem dL_law_393 : decode cL_law 393 = .ok (.baload, 1) := by decide +kernel
theorem dL_law_394 : decode cL_law 394 = .ok (.ifCond .eq 7, 3) := by decide +kernel
theorem dL_law_397 : decode cL_law 397 = .ok (.iconst 1, 1) := by decide +kernel
theorem dL_law_398 : decode cL_law 398 = .ok (.goto 4, 3) := by decide +kernel
theorem dL_law_401 : decode cL_law 401 = .ok (.iconst 0, 1) := by decide +kernel
theorem dL_law_402 : decode cL_law 402 = .ok (.iadd, 1) := by decide +kernel
theorem dL_law_403 : decode cL_law 403 = .ok (.istore 13, 2) := by decide +kernel
theorem dL_law_405 : decode cL_law 405 = .ok (.iload 15, 2) := by decide +kernel
theorem dL_law_407 : decode cL_law 407 = .ok (.iload 10, 2) := by decide +kernel
theorem dL_law_409 : decode cL_law 409 = .ok (.if_icmp .eq 36, 3) := by decide +kernel
theorem dL_law_412 : decode cL_law 412 = .ok (.iload_n 2, 1) := by decide +kernel
theorem dL_law_413 : decode cL_law 413 = .ok (.iload 15, 2) := by decide +kernel
theorem dL_law_415 : decode cL_law 415 = .ok (.iload 10, 2) := by decide +kernel
theorem dL_law_417 : decode cL_law 417 = .ok (.iload 5, 2) := by decide +kernel
theorem dL_law_419 : decode cL_law 419 = .ok (.invokestatic 119, 3) := by decide +kernel
theorem dL_law_422 : decode cL_law 422 = .ok (.istore 15, 2) := by decide +kernel
theorem dL_law_424 : decode cL_law 424 = .ok (.iload 13, 2) := by decide +kernel
theorem dL_law_426 : decode cL_law 426 = .ok (.aload 14, 2) := by decide +kernel
theorem dL_law_428 : decode cL_law 428 = .ok (.iload 15, 2) := by decide +kernel
theorem dL_law_430 : decode cL_law 430 = .ok (.baload, 1) := by decide +kernel
theorem dL_law_431 : decode cL_law 431 = .ok (.ifCond .eq 7, 3) := by decide +kernel
theorem dL_law_434 : decode cL_law 434 = .ok (.iconst 1, 1) := by decide +kernel
theorem dL_law_435 : decode cL_law 435 = .ok (.goto 4, 3) := by decide +kernel
theorem dL_law_438 : decode cL_law 438 = .ok (.iconst 0, 1) := by decide +kernel
theorem dL_law_439 : decode cL_law 439 = .ok (.iadd, 1) := by decide +kernel
theorem dL_law_440 : decode cL_law 440 = .ok (.istore 13, 2) := by decide +kernel
theorem dL_law_442 : decode cL_law 442 = .ok (.goto (-37), 3) := by decide +kernel
theorem dL_law_445 : decode cL_law 445 = .ok (.aload_n 1, 1) := by decide +kernel
theorem dL_law_446 : decode cL_law 446 = .ok (.invokevirtual 123, 3) := by decide +kernel
theorem dL_law_449 : decode cL_law 449 = .ok (.istore 16, 2) := by decide +kernel
theorem dL_law_451 : decode cL_law 451 = .ok (.iload 6, 2) := by decide +kernel
theorem dL_law_453 : decode cL_law 453 = .ok (.aload_n 1, 1) := by decide +kernel
theorem dL_law_454 : decode cL_law 454 = .ok (.iload 9, 2) := by decide +kernel
theorem dL_law_456 : decode cL_law 456 = .ok (.iload 10, 2) := by decide +kernel
theorem dL_law_458 : decode cL_law 458 = .ok (.iload 11, 2) := by decide +kernel
theorem dL_law_460 : decode cL_law 460 = .ok (.iload 12, 2) := by decide +kernel
theorem dL_law_462 : decode cL_law 462 = .ok (.invokestatic 108, 3) := by decide +kernel
theorem dL_law_465 : decode cL_law 465 = .ok (.iload 16, 2) := by decide +kernel
theorem dL_law_467 : decode cL_law 467 = .ok (.if_icmp .ne 62, 3) := by decide +kernel
theorem dL_law_470 : decode cL_law 470 = .ok (.aload_n 1, 1) := by decide +kernel
theorem dL_law_471 : decode cL_law 471 = .ok (.iload 16, 2) := by decide +kernel
theorem dL_law_473 : decode cL_law 473 = .ok (.invokestatic 111, 3) := by decide +kernel
theorem dL_law_476 : decode cL_law 476 = .ok (.bipush 115, 2) := by decide +kernel
theorem dL_law_478 : decode cL_law 478 = .ok (.if_icmp .ne 51, 3) := by decide +kernel
theorem dL_law_481 : decode cL_law 481 = .ok (.aload_n 1, 1) := by decide +kernel
theorem dL_law_482 : decode cL_law 482 = .ok (.iload 16, 2) := by decide +kernel
theorem dL_law_484 : decode cL_law 484 = .ok (.invokestatic 127, 3) := by decide +kernel
theorem dL_law_487 : decode cL_law 487 = .ok (.ldc 20, 2) := by decide +kernel
theorem dL_law_489 : decode cL_law 489 = .ok (.if_icmp .ne 40, 3) := by decide +kernel
theorem dL_law_492 : decode cL_law 492 = .ok (.aload_n 1, 1) := by decide +kernel
theorem dL_law_493 : decode cL_law 493 = .ok (.iload 16, 2) := by decide +kernel
theorem dL_law_495 : decode cL_law 495 = .ok (.invokestatic 129, 3) := by decide +kernel
theorem dL_law_498 : decode cL_law 498 = .ok (.ldc 20, 2) := by decide +kernel
theorem dL_law_500 : decode cL_law 500 = .ok (.if_icmp .ne 29, 3) := by decide +kernel
theorem dL_law_503 : decode cL_law 503 = .ok (.aload_n 1, 1) := by decide +kernel
theorem dL_law_504 : decode cL_law 504 = .ok (.iload 16, 2) := by decide +kernel
theorem dL_law_506 : decode cL_law 506 = .ok (.invokevirtual 131, 3) := by decide +kernel
theorem dL_law_509 : decode cL_law 509 = .ok (.bipush 109, 2) := by decide +kernel
theorem dL_law_511 : decode cL_law 511 = .ok (.if_icmp .ne 18, 3) := by decide +kernel
theorem dL_law_514 : decode cL_law 514 = .ok (.aload_n 1, 1) := by decide +kernel
theorem dL_law_515 : decode cL_law 515 = .ok (.iload 16, 2) := by decide +kernel
theorem dL_law_517 : decode cL_law 517 = .ok (.invokevirtual 134, 3) := by decide +kernel
theorem dL_law_520 : decode cL_law 520 = .ok (.iload 11, 2) := by decide +kernel
theorem dL_law_522 : decode cL_law 522 = .ok (.if_icmp .ne 7, 3) := by decide +kernel
theorem dL_law_525 : decode cL_law 525 = .ok (.iconst 1, 1) := by decide +kernel
theorem dL_law_526 : decode cL_law 526 = .ok (.goto 4, 3) := by decide +kernel
theorem dL_law_529 : decode cL_law 529 = .ok (.iconst 0, 1) := by decide +kernel
theorem dL_law_1168 : decode cL_law 1168 = .ok (.iand, 1) := by decide +kernel
theorem dL_law_1169 : decode cL_law 1169 = .ok (.istore 6, 2) := by decide +kernel
theorem dL_law_1171 : decode cL_law 1171 = .ok (.aload_n 1, 1) := by decide +kernel
theorem dL_law_1172 : decode cL_law 1172 = .ok (.iload 14, 2) := by decide +kernel
theorem dL_law_1174 : decode cL_law 1174 = .ok (.invokestatic 161, 3) := by decide +kernel
theorem dL_law_1177 : decode cL_law 1177 = .ok (.istore 15, 2) := by decide +kernel
theorem dL_law_1179 : decode cL_law 1179 = .ok (.iload 6, 2) := by decide +kernel
theorem dL_law_1181 : decode cL_law 1181 = .ok (.iload 15, 2) := by decide +kernel
theorem dL_law_1183 : decode cL_law 1183 = .ok (.iload 14, 2) := by decide +kernel
theorem dL_law_1185 : decode cL_law 1185 = .ok (.iconst 1, 1) := by decide +kernel
theorem dL_law_1186 : decode cL_law 1186 = .ok (.iadd, 1) := by decide +kernel
theorem dL_law_1187 : decode cL_law 1187 = .ok (.if_icmp .ne 88, 3) := by decide +kernel
theorem dL_law_1190 : decode cL_law 1190 = .ok (.aload_n 1, 1) := by decide +kernel
theorem dL_law_1191 : decode cL_law 1191 = .ok (.iload 15, 2) := by decide +kernel
theorem dL_law_1193 : decode cL_law 1193 = .ok (.invokevirtual 131, 3) := by decide +kernel
theorem dL_law_1196 : decode cL_law 1196 = .ok (.bipush 97, 2) := by decide +kernel
theorem dL_law_1198 : decode cL_law 1198 = .ok (.if_icmp .ne 77, 3) := by decide +kernel
theorem dL_law_1201 : decode cL_law 1201 = .ok (.aload_n 1, 1) := by decide +kernel
theorem dL_law_1202 : decode cL_law 1202 = .ok (.iload 15, 2) := by decide +kernel
theorem dL_law_1204 : decode cL_law 1204 = .ok (.invokevirtual 134, 3) := by decide +kernel
theorem dL_law_1207 : decode cL_law 1207 = .ok (.iload 11, 2) := by decide +kernel
theorem dL_law_1209 : decode cL_law 1209 = .ok (.if_icmp .ne 66, 3) := by decide +kernel
theorem dL_law_1212 : decode cL_law 1212 = .ok (.aload_n 1, 1) := by decide +kernel
theorem dL_law_1213 : decode cL_law 1213 = .ok (.iload 14, 2) := by decide +kernel
theorem dL_law_1215 : decode cL_law 1215 = .ok (.invokestatic 111, 3) := by decide +kernel
theorem dL_law_1218 : decode cL_law 1218 = .ok (.bipush 100, 2) := by decide +kernel
theorem dL_law_1220 : decode cL_law 1220 = .ok (.if_icmp .ne 55, 3) := by decide +kernel
theorem dL_law_1223 : decode cL_law 1223 = .ok (.aload_n 1, 1) := by decide +kernel
theorem dL_law_1224 : decode cL_law 1224 = .ok (.iload 15, 2) := by decide +kernel
theorem dL_law_1226 : decode cL_law 1226 = .ok (.invokestatic 111, 3) := by decide +kernel
theorem dL_law_1229 : decode cL_law 1229 = .ok (.bipush 100, 2) := by decide +kernel
theorem dL_law_1231 : decode cL_law 1231 = .ok (.if_icmp .ne 44, 3) := by decide +kernel
theorem dL_law_1234 : decode cL_law 1234 = .ok (.aload_n 1, 1) := by decide +kernel
theorem dL_law_1235 : decode cL_law 1235 = .ok (.iload 9, 2) := by decide +kernel
theorem dL_law_1237 : decode cL_law 1237 = .ok (.iload 10, 2) := by decide +kernel
theorem dL_law_1239 : decode cL_law 1239 = .ok (.invokestatic 163, 3) := by decide +kernel
theorem dL_law_1242 : decode cL_law 1242 = .ok (.iload 13, 2) := by decide +kernel
theorem dL_law_1244 : decode cL_law 1244 = .ok (.ifCond .eq 11, 3) := by decide +kernel
theorem dL_law_1247 : decode cL_law 1247 = .ok (.iload 11, 2) := by decide +kernel
theorem dL_law_1249 : decode cL_law 1249 = .ok (.iload 12, 2) := by decide +kernel
theorem dL_law_1251 : decode cL_law 1251 = .ok (.iadd, 1) := by decide +kernel
theorem dL_law_1252 : decode cL_law 1252 = .ok (.goto 5, 3) := by decide +kernel
theorem dL_law_1255 : decode cL_law 1255 = .ok (.iload 11, 2) := by decide +kernel
theorem dL_law_1257 : decode cL_law 1257 = .ok (.if_icmp .ne 18, 3) := by decide +kernel
theorem dL_law_1260 : decode cL_law 1260 = .ok (.aload_n 1, 1) := by decide +kernel
theorem dL_law_1261 : decode cL_law 1261 = .ok (.iload 8, 2) := by decide +kernel
theorem dL_law_1263 : decode cL_law 1263 = .ok (.iload 9, 2) := by decide +kernel
theorem dL_law_1265 : decode cL_law 1265 = .ok (.invokestatic 143, 3) := by decide +kernel
theorem dL_law_1268 : decode cL_law 1268 = .ok (.ifCond .ne 7, 3) := by decide +kernel
theorem dL_law_1271 : decode cL_law 1271 = .ok (.iconst 1, 1) := by decide +kernel
theorem dL_law_1272 : decode cL_law 1272 = .ok (.goto 4, 3) := by decide +kernel
theorem dL_law_1275 : decode cL_law 1275 = .ok (.iconst 0, 1) := by decide +kernel
theorem dL_law_1276 : decode cL_law 1276 = .ok (.iand, 1) := by decide +kernel
theorem dL_law_1277 : decode cL_law 1277 = .ok (.istore 6, 2) := by decide +kernel
theorem dL_law_1279 : decode cL_law 1279 = .ok (.iload 6, 2) := by decide +kernel
theorem dL_law_1281 : decode cL_law 1281 = .ok (.ifCond .eq 34, 3) := by decide +kernel
theorem dL_law_1284 : decode cL_law 1284 = .ok (.aload_n 1, 1) := by decide +kernel
theorem dL_law_1285 : decode cL_law 1285 = .ok (.invokevirtual 165, 3) := by decide +kernel
theorem dL_law_1288 : decode cL_law 1288 = .ok (.fconst 0, 1) := by decide +kernel
theorem dL_law_1289 : decode cL_law 1289 = .ok (.fcmp .l, 1) := by decide +kernel
theorem dL_law_1290 : decode cL_law 1290 = .ok (.ifCond .ne 25, 3) := by decide +kernel
theorem dL_law_1293 : decode cL_law 1293 = .ok (.aload_n 1, 1) := by decide +kernel
theorem dL_law_1294 : decode cL_law 1294 = .ok (.invokevirtual 123, 3) := by decide +kernel
theorem dL_law_1297 : decode cL_law 1297 = .ok (.iload 14, 2) := by decide +kernel
theorem dL_law_1299 : decode cL_law 1299 = .ok (.iconst 2, 1) := by decide +kernel
theorem dL_law_1300 : decode cL_law 1300 = .ok (.iadd, 1) := by decide +kernel
theorem dL_law_1301 : decode cL_law 1301 = .ok (.if_icmp .ne 14, 3) := by decide +kernel
theorem dL_law_1304 : decode cL_law 1304 = .ok (.aload_n 1, 1) := by decide +kernel
theorem dL_law_1305 : decode cL_law 1305 = .ok (.invokevirtual 169, 3) := by decide +kernel
theorem dL_law_1308 : decode cL_law 1308 = .ok (.ifCond .eq 7, 3) := by decide +kernel
theorem dL_law_1311 : decode cL_law 1311 = .ok (.iconst 1, 1) := by decide +kernel
theorem dL_law_1312 : decode cL_law 1312 = .ok (.goto 4, 3) := by decide +kernel
theorem dL_law_1315 : decode cL_law 1315 = .ok (.iconst 0, 1) := by decide +kernel
def f_L_law_b405 (sL : Nat) (xs : Nat → Int32) (K187 : me_M → Int32 → Int32 → Int32 → Int32 → Int32 → Int32 → Option (me_M × Int32)) (K405 : me_M → Int32 → Int32 → Int32 → Int32 → Int32 → Int32 → Int32 → Int32 → Int32 → Int32 → Int32 → Int32 → Option (me_M × Int32)) (μ : me_M) (v2 : Int32) (v4 : Int32) (v5 : Int32) (v6 : Int32) (v7 : Int32) (v8 : Int32) (v9 : Int32) (v10 : Int32) (v11 : Int32) (v12 : Int32) (v13 : Int32) (v15 : Int32) : Option (me_M × Int32) :=
  if v15 = v10 then
  (me_bd (f_Y_packets μ) (fun r2 =>
  me_b2 (f_L_send μ v9 v10 v11 v12) (fun μ4 r3 =>
  if r3 = r2 then
  (me_b2 (f_L_state μ4 r2) (fun μ7 r6 =>
  if r6 = (115 : Int32) then
  (me_b2 (f_L_head μ7 r2) (fun μ10 r9 =>
  if r9 = (-900002 : Int32) then
  (me_b2 (f_L_time μ10 r2) (fun μ13 r12 =>
  if r12 = (-900002 : Int32) then
  (me_bd (f_Y_kind μ13 r2) (fun r15 =>
  me_xm r15 (fun r15 =>
  if r15 = (109 : Int32) then
  (me_bd (f_Y_word μ13 r2) (fun r17 =>
  me_xm r17 (fun r17 =>
  if r17 = v11 then
  (f_L_law_b530 sL xs K187 μ13 v2 v4 v5 v7 v8 v9 v10 v12 v13 r2 (1 : Int32) v6)
  else
  (f_L_law_b530 sL xs K187 μ13 v2 v4 v5 v7 v8 v9 v10 v12 v13 r2 (0 : Int32) v6)) (fun _ => none)))
  else
  (f_L_law_b530 sL xs K187 μ13 v2 v4 v5 v7 v8 v9 v10 v12 v13 r2 (0 : Int32) v6)) (fun _ => none)))
  else
  (f_L_law_b530 sL xs K187 μ13 v2 v4 v5 v7 v8 v9 v10 v12 v13 r2 (0 : Int32) v6)))
  else
  (f_L_law_b530 sL xs K187 μ10 v2 v4 v5 v7 v8 v9 v10 v12 v13 r2 (0 : Int32) v6)))
  else
  (f_L_law_b530 sL xs K187 μ7 v2 v4 v5 v7 v8 v9 v10 v12 v13 r2 (0 : Int32) v6)))
  else
  (f_L_law_b530 sL xs K187 μ4 v2 v4 v5 v7 v8 v9 v10 v12 v13 r2 (0 : Int32) v6))))
  else
  (me_bd (f_L_next μ v2 v15 v10 v5) (fun r19 =>
  me_gd (me_inb r19 (me_ix v4)) (
  if (μ (36 + me_ix v4) 0 (me_ix r19)) = 0 then
  (me_lt ((v13 + (0 : Int32))) (fun x22 =>
  K405 μ v2 v4 v5 v6 v7 v8 v9 v10 v11 v12 x22 r19))
  else
  (me_lt ((v13 + (1 : Int32))) (fun x23 =>
  K405 μ v2 v4 v5 v6 v7 v8 v9 v10 v11 v12 x23 r19)))))
set_option maxHeartbeats 4000000 in
set_option maxRecDepth 100000 in
theorem z_L_law_b405 {X : me_X} {B : me_B} {ret0 : Option FieldType} {K0 q : Nat} {NR SR : Nat} {NB187 SB187 : Nat} {K187 : me_M → Int32 → Int32 → Int32 → Int32 → Int32 → Int32 → Option (me_M × Int32)} {NB405 SB405 : Nat} {K405 : me_M → Int32 → Int32 → Int32 → Int32 → Int32 → Int32 → Int32 → Int32 → Int32 → Int32 → Int32 → Int32 → Option (me_M × Int32)} {nc ns : Nat} {μ : me_M} {v2 : Int32} {v4 : Int32} {v5 : Int32} {v6 : Int32} {v7 : Int32} {v8 : Int32} {v9 : Int32} {v10 : Int32} {v11 : Int32} {v12 : Int32} {v13 : Int32} {v15 : Int32} {r : me_M × Int32} (C : me_C X (me_tb B K0 q) RL cL_law 23 ret0) (hroom : me_Rm X 12 462 618549 7246051) (hB : me_St (me_tb B K0 q)) (hz : ∀ k, 36 ≤ k → B.2.1 k = 0) (hJ0 : me_J B) (hk1 : K0 < 53) (hR : ∀ (nc ns : Nat), nc ≤ NR → ns ≤ SR → me_Z X B nc ns r.1 1316 [] [me_i r.2]) (hNR : NR ≤ 618549 ∧ SR ≤ 7246051) (hK187 : ∀ (nc ns : Nat) (μ : me_M) (v2 : Int32) (v4 : Int32) (v5 : Int32) (v6 : Int32) (v7 : Int32) (v8 : Int32), nc ≤ NB187 → ns ≤ SB187 → K187 μ v2 v4 v5 v6 v7 v8 = some r → me_Z X B nc ns μ 187 [(0, .inl (.ref (B.1 202 0))), (1, me_r 0 0), (2, me_i v2), (4, me_i v4), (5, me_i v5), (6, me_i v6), (7, me_i v7), (8, me_i v8)] []) (hN187 : NB187 ≤ 618549 ∧ SB187 ≤ 7246051) (hK405 : ∀ (nc ns : Nat) (μ : me_M) (v2 : Int32) (v4 : Int32) (v5 : Int32) (v6 : Int32) (v7 : Int32) (v8 : Int32) (v9 : Int32) (v10 : Int32) (v11 : Int32) (v12 : Int32) (v13 : Int32) (v15 : Int32), 36 + me_ix v4 = K0 → nc ≤ NB405 → ns ≤ SB405 → K405 μ v2 v4 v5 v6 v7 v8 v9 v10 v11 v12 v13 v15 = some r → me_Z X (me_tb B K0 q) nc ns μ 405 [(0, .inl (.ref (B.1 202 0))), (1, me_r 0 0), (2, me_i v2), (4, me_i v4), (5, me_i v5), (6, me_i v6), (7, me_i v7), (8, me_i v8), (9, me_i v9), (10, me_i v10), (11, me_i v11), (12, me_i v12), (13, me_i v13), (14, me_r K0 0), (15, me_i v15)] []) (hN405 : NB405 ≤ 618549 ∧ SB405 ≤ 7246051) (hk0 : 36 + me_ix v4 = K0) (hb187 : (nc + 761 ≤ NB187 ∧ ns + 4566 ≤ SB187)) (hb405 : (nc + 0 ≤ NB405 ∧ ns + 0 ≤ SB405)) (hf : f_L_law_b405 B.2.2.2.1 B.2.2.2.2 K187 K405 μ v2 v4 v5 v6 v7 v8 v9 v10 v11 v12 v13 v15 = some r) : me_Z X (me_tb B K0 q) nc ns μ 405 [(0, .inl (.ref (B.1 202 0))), (1, me_r 0 0), (2, me_i v2), (4, me_i v4), (5, me_i v5), (6, me_i v6), (7, me_i v7), (8, me_i v8), (9, me_i v9), (10, me_i v10), (11, me_i v11), (12, me_i v12), (13, me_i v13), (14, me_r K0 0), (15, me_i v15)] [] := by
  subst hk0
  unfold f_L_law_b405 at hf
  refine me_iload C dL_law_405 rfl ?_
  refine me_iload C dL_law_407 rfl ?_
  refine me_icmp_eq C (tgt := 445) dL_law_409 (by decide) (fun c1 => ?_) (fun c1 => ?_)
  · replace hf := me_ip c1 hf
    refine me_aload_n C 1 (Or.inr (Or.inl ⟨_, rfl⟩)) dL_law_445 rfl rfl ?_
    obtain ⟨r2, h_r2, hf⟩ := me_bs hf
    refine me_callVR C hroom (As := []) (st := []) nc ns (c_Y_packets hB h_r2) mv_Y_packets ml_L_123 rfl rfl dL_law_446 rfl rfl ⟨by decide, by decide⟩ ⟨by omega, by omega, by omega, by omega⟩ (Nat.le_of_ble_eq_true rfl) ?_
    refine me_istore C dL_law_449 (by decide) (L' := [(16, me_i r2), (0, .inl (.ref (B.1 202 0))), (1, me_r 0 0), (2, me_i v2), (4, me_i v4), (5, me_i v5), (6, me_i v6), (7, me_i v7), (8, me_i v8), (9, me_i v9), (10, me_i v10), (11, me_i v11), (12, me_i v12), (13, me_i v13), (14, me_r (36 + me_ix v4) 0), (15, me_i v15)]) rfl ?_
    refine me_iload C dL_law_451 rfl ?_
    refine me_aload_n C 1 (Or.inr (Or.inl ⟨_, rfl⟩)) dL_law_453 rfl rfl ?_
    refine me_iload C dL_law_454 rfl ?_
    refine me_iload C dL_law_456 rfl ?_
    refine me_iload C dL_law_458 rfl ?_
    refine me_iload C dL_law_460 rfl ?_
    obtain ⟨μ4, r3, h_r3, hf⟩ := me_bs2 hf
    refine me_callSH C hroom (n := 5) (As := [me_r 0 0, me_i v9, me_i v10, me_i v11, me_i v12]) (st := [me_i v6]) (nc + 4) (ns + 24) (c_L_send hB h_r3) mh_L_send iL ⟨by decide +kernel, by decide +kernel⟩ (by decide +kernel) si_L_send ml_L_108 dL_law_462 rfl rfl ⟨by decide, by decide⟩ ⟨by omega, by omega, by omega, by omega⟩ (Nat.le_of_ble_eq_true rfl) ?_
    refine me_iload C dL_law_465 rfl ?_
    refine me_icmp_ne C (tgt := 529) dL_law_467 (by decide) (fun c5 => ?_) (fun c5 => ?_)
    · replace hf := me_in c5 hf
      refine me_iconst C (v := 0) dL_law_529 (by decide) ?_
      refine me_dropI [(0, .inl (.ref (B.1 202 0))), (1, me_r 0 0), (2, me_i v2), (4, me_i v4), (5, me_i v5), (7, me_i v7), (8, me_i v8), (9, me_i v9), (10, me_i v10), (12, me_i v12), (13, me_i v13), (14, me_r (36 + me_ix v4) 0), (16, me_i r2)] [1, 2, 3, 4, 5, 7, 8, 9, 10, 12, 13, 14, 0] rfl ?_
      exact z_L_law_b530 C hroom hB hz hJ0 hk1 hR hNR hK187 hN187 (nc := (nc + 4)) (ns := (ns + 24)) rfl ⟨by omega, by omega⟩ hf
    · replace hf := me_ip c5 hf
      refine me_aload_n C 1 (Or.inr (Or.inl ⟨_, rfl⟩)) dL_law_470 rfl rfl ?_
      refine me_iload C dL_law_471 rfl ?_
      obtain ⟨μ7, r6, h_r6, hf⟩ := me_bs2 hf
      refine me_callSH C hroom (n := 2) (As := [me_r 0 0, me_i r2]) (st := [me_i v6]) (nc + 5) (ns + 30) (c_L_state hB h_r6) mh_L_state iL ⟨by decide +kernel, by decide +kernel⟩ (by decide +kernel) si_L_state ml_L_111 dL_law_473 rfl rfl ⟨by decide, by decide⟩ ⟨by omega, by omega, by omega, by omega⟩ (Nat.le_of_ble_eq_true rfl) ?_
      refine me_bipush C (v := 115) dL_law_476 (by decide) ?_
      refine me_icmp_ne C (tgt := 529) dL_law_478 (by decide) (fun c8 => ?_) (fun c8 => ?_)
      · replace hf := me_in c8 hf
        refine me_iconst C (v := 0) dL_law_529 (by decide) ?_
        refine me_dropI [(0, .inl (.ref (B.1 202 0))), (1, me_r 0 0), (2, me_i v2), (4, me_i v4), (5, me_i v5), (7, me_i v7), (8, me_i v8), (9, me_i v9), (10, me_i v10), (12, me_i v12), (13, me_i v13), (14, me_r (36 + me_ix v4) 0), (16, me_i r2)] [1, 2, 3, 4, 5, 7, 8, 9, 10, 12, 13, 14, 0] rfl ?_
        exact z_L_law_b530 C hroom hB hz hJ0 hk1 hR hNR hK187 hN187 (nc := (nc + 5)) (ns := (ns + 30)) rfl ⟨by omega, by omega⟩ hf
      · replace hf := me_ip c8 hf
        refine me_aload_n C 1 (Or.inr (Or.inl ⟨_, rfl⟩)) dL_law_481 rfl rfl ?_
        refine me_iload C dL_law_482 rfl ?_
        obtain ⟨μ10, r9, h_r9, hf⟩ := me_bs2 hf
        refine me_callSH C hroom (n := 2) (As := [me_r 0 0, me_i r2]) (st := [me_i v6]) (nc + 7) (ns + 42) (c_L_head hB h_r9) mh_L_head iL ⟨by decide +kernel, by decide +kernel⟩ (by decide +kernel) si_L_head ml_L_127 dL_law_484 rfl rfl ⟨by decide, by decide⟩ ⟨by omega, by omega, by omega, by omega⟩ (Nat.le_of_ble_eq_true rfl) ?_
        refine me_ldc C (v := (-900002)) dL_law_487 ci_L_20 ?_
        refine me_icmp_ne C (tgt := 529) dL_law_489 (by decide) (fun c11 => ?_) (fun c11 => ?_)
        · replace hf := me_in c11 hf
          refine me_iconst C (v := 0) dL_law_529 (by decide) ?_
          refine me_dropI [(0, .inl (.ref (B.1 202 0))), (1, me_r 0 0), (2, me_i v2), (4, me_i v4), (5, me_i v5), (7, me_i v7), (8, me_i v8), (9, me_i v9), (10, me_i v10), (12, me_i v12), (13, me_i v13), (14, me_r (36 + me_ix v4) 0), (16, me_i r2)] [1, 2, 3, 4, 5, 7, 8, 9, 10, 12, 13, 14, 0] rfl ?_
          exact z_L_law_b530 C hroom hB hz hJ0 hk1 hR hNR hK187 hN187 (nc := (nc + 7)) (ns := (ns + 42)) rfl ⟨by omega, by omega⟩ hf
        · replace hf := me_ip c11 hf
          refine me_aload_n C 1 (Or.inr (Or.inl ⟨_, rfl⟩)) dL_law_492 rfl rfl ?_
          refine me_iload C dL_law_493 rfl ?_
          obtain ⟨μ13, r12, h_r12, hf⟩ := me_bs2 hf
          refine me_callSH C hroom (n := 2) (As := [me_r 0 0, me_i r2]) (st := [me_i v6]) (nc + 9) (ns + 54) (c_L_time hB h_r12) mh_L_time iL ⟨by decide +kernel, by decide +kernel⟩ (by decide +kernel) si_L_time ml_L_129 dL_law_495 rfl rfl ⟨by decide, by decide⟩ ⟨by omega, by omega, by omega, by omega⟩ (Nat.le_of_ble_eq_true rfl) ?_
          refine me_ldc C (v := (-900002)) dL_law_498 ci_L_20 ?_
          refine me_icmp_ne C (tgt := 529) dL_law_500 (by decide) (fun c14 => ?_) (fun c14 => ?_)
          · replace hf := me_in c14 hf
            refine me_iconst C (v := 0) dL_law_529 (by decide) ?_
            refine me_dropI [(0, .inl (.ref (B.1 202 0))), (1, me_r 0 0), (2, me_i v2), (4, me_i v4), (5, me_i v5), (7, me_i v7), (8, me_i v8), (9, me_i v9), (10, me_i v10), (12, me_i v12), (13, me_i v13), (14, me_r (36 + me_ix v4) 0), (16, me_i r2)] [1, 2, 3, 4, 5, 7, 8, 9, 10, 12, 13, 14, 0] rfl ?_
            exact z_L_law_b530 C hroom hB hz hJ0 hk1 hR hNR hK187 hN187 (nc := (nc + 9)) (ns := (ns + 54)) rfl ⟨by omega, by omega⟩ hf
          · replace hf := me_ip c14 hf
            refine me_aload_n C 1 (Or.inr (Or.inl ⟨_, rfl⟩)) dL_law_503 rfl rfl ?_
            refine me_iload C dL_law_504 rfl ?_
            obtain ⟨r15, h_r15, hf⟩ := me_bs hf
            rcases r15 with r15 | r15
            · replace hf := me_xme hf
              cases hf
            replace hf := me_xmo hf
            refine me_callVR C hroom (As := [me_i r2]) (st := [me_i v6]) (nc + 10) (ns + 60) (c_Y_kind hB h_r15) mv_Y_kind ml_L_131 rfl rfl dL_law_506 rfl rfl ⟨by decide, by decide⟩ ⟨by omega, by omega, by omega, by omega⟩ (Nat.le_of_ble_eq_true rfl) ?_
            refine me_bipush C (v := 109) dL_law_509 (by decide) ?_
            refine me_icmp_ne C (tgt := 529) dL_law_511 (by decide) (fun c16 => ?_) (fun c16 => ?_)
            · replace hf := me_in c16 hf
              refine me_iconst C (v := 0) dL_law_529 (by decide) ?_
              refine me_dropI [(0, .inl (.ref (B.1 202 0))), (1, me_r 0 0), (2, me_i v2), (4, me_i v4), (5, me_i v5), (7, me_i v7), (8, me_i v8), (9, me_i v9), (10, me_i v10), (12, me_i v12), (13, me_i v13), (14, me_r (36 + me_ix v4) 0), (16, me_i r2)] [1, 2, 3, 4, 5, 7, 8, 9, 10, 12, 13, 14, 0] rfl ?_
              exact z_L_law_b530 C hroom hB hz hJ0 hk1 hR hNR hK187 hN187 (nc := (nc + 10)) (ns := (ns + 60)) rfl ⟨by omega, by omega⟩ hf
            · replace hf := me_ip c16 hf
              refine me_aload_n C 1 (Or.inr (Or.inl ⟨_, rfl⟩)) dL_law_514 rfl rfl ?_
              refine me_iload C dL_law_515 rfl ?_
              obtain ⟨r17, h_r17, hf⟩ := me_bs hf
              rcases r17 with r17 | r17
              · replace hf := me_xme hf
                cases hf
              replace hf := me_xmo hf
              refine me_callVR C hroom (As := [me_i r2]) (st := [me_i v6]) (nc + 11) (ns + 66) (c_Y_word hB h_r17) mv_Y_word ml_L_134 rfl rfl dL_law_517 rfl rfl ⟨by decide, by decide⟩ ⟨by omega, by omega, by omega, by omega⟩ (Nat.le_of_ble_eq_true rfl) ?_
              refine me_iload C dL_law_520 rfl ?_
              refine me_icmp_ne C (tgt := 529) dL_law_522 (by decide) (fun c18 => ?_) (fun c18 => ?_)
              · replace hf := me_in c18 hf
                refine me_iconst C (v := 0) dL_law_529 (by decide) ?_
                refine me_dropI [(0, .inl (.ref (B.1 202 0))), (1, me_r 0 0), (2, me_i v2), (4, me_i v4), (5, me_i v5), (7, me_i v7), (8, me_i v8), (9, me_i v9), (10, me_i v10), (12, me_i v12), (13, me_i v13), (14, me_r (36 + me_ix v4) 0), (16, me_i r2)] [1, 2, 3, 4, 5, 7, 8, 9, 10, 12, 13, 14, 0] rfl ?_
                exact z_L_law_b530 C hroom hB hz hJ0 hk1 hR hNR hK187 hN187 (nc := (nc + 11)) (ns := (ns + 66)) rfl ⟨by omega, by omega⟩ hf
              · replace hf := me_ip c18 hf
                refine me_iconst C (v := 1) dL_law_525 (by decide) ?_
                refine me_goto C (tgt := 530) dL_law_526 (by decide) ?_
                refine me_dropI [(0, .inl (.ref (B.1 202 0))), (1, me_r 0 0), (2, me_i v2), (4, me_i v4), (5, me_i v5), (7, me_i v7), (8, me_i v8), (9, me_i v9), (10, me_i v10), (12, me_i v12), (13, me_i v13), (14, me_r (36 + me_ix v4) 0), (16, me_i r2)] [1, 2, 3, 4, 5, 7, 8, 9, 10, 12, 13, 14, 0] rfl ?_
                exact z_L_law_b530 C hroom hB hz hJ0 hk1 hR hNR hK187 hN187 (nc := (nc + 11)) (ns := (ns + 66)) rfl ⟨by omega, by omega⟩ hf
  · replace hf := me_in c1 hf
    refine me_iload_n C 2 dL_law_412 rfl rfl ?_
    refine me_iload C dL_law_413 rfl ?_
    refine me_iload C dL_law_415 rfl ?_
    refine me_iload C dL_law_417 rfl ?_
    obtain ⟨r19, h_r19, hf⟩ := me_bs hf
    refine me_callSR C hroom (As := [me_i v2, me_i v15, me_i v10, me_i v5]) (st := []) nc ns (c_L_next hB h_r19) ms_L_next ml_L_119 dL_law_419 rfl rfl ⟨by decide, by decide⟩ ⟨by omega, by omega, by omega, by omega⟩ (Nat.le_of_ble_eq_true rfl) ?_
    refine me_istore C dL_law_422 (by decide) (L' := [(15, me_i r19), (0, .inl (.ref (B.1 202 0))), (1, me_r 0 0), (2, me_i v2), (4, me_i v4), (5, me_i v5), (6, me_i v6), (7, me_i v7), (8, me_i v8), (9, me_i v9), (10, me_i v10), (11, me_i v11), (12, me_i v12), (13, me_i v13), (14, me_r (36 + me_ix v4) 0)]) rfl ?_
    refine me_iload C dL_law_424 rfl ?_
    refine me_aload C (Or.inr (Or.inl ⟨_, rfl⟩)) dL_law_426 rfl ?_
    refine me_iload C dL_law_428 rfl ?_
    obtain ⟨g20, hf⟩ := me_gs hf
    refine me_zald C (me_kL (by omega)) (fun _ => rfl) g20 dL_law_430 ?_
    refine me_if_eq C (tgt := 438) dL_law_431 (by decide) (fun c21 => ?_) (fun c21 => ?_)
    · replace hf := me_ip c21 hf
      refine me_iconst C (v := 0) dL_law_438 (by decide) ?_
      refine me_iadd C dL_law_439 ?_
      obtain ⟨x22, e_x22, hf⟩ := me_lts hf
      refine me_nm e_x22 ?_
      refine me_istore C dL_law_440 (by decide) (L' := [(13, me_i x22), (15, me_i r19), (0, .inl (.ref (B.1 202 0))), (1, me_r 0 0), (2, me_i v2), (4, me_i v4), (5, me_i v5), (6, me_i v6), (7, me_i v7), (8, me_i v8), (9, me_i v9), (10, me_i v10), (11, me_i v11), (12, me_i v12), (14, me_r (36 + me_ix v4) 0)]) rfl ?_
      refine me_goto C (tgt := 405) dL_law_442 (by decide) ?_
      refine me_dropI [(0, .inl (.ref (B.1 202 0))), (1, me_r 0 0), (2, me_i v2), (4, me_i v4), (5, me_i v5), (6, me_i v6), (7, me_i v7), (8, me_i v8), (9, me_i v9), (10, me_i v10), (11, me_i v11), (12, me_i v12), (13, me_i x22), (14, me_r (36 + me_ix v4) 0), (15, me_i r19)] [2, 3, 4, 5, 6, 7, 8, 9, 10, 11, 12, 13, 0, 14, 1] rfl ?_
      exact hK405 nc ns μ v2 v4 v5 v6 v7 v8 v9 v10 v11 v12 x22 r19 rfl (by omega) (by omega) hf
    · replace hf := me_in c21 hf
      refine me_iconst C (v := 1) dL_law_434 (by decide) ?_
      refine me_goto C (tgt := 439) dL_law_435 (by decide) ?_
      refine me_iadd C dL_law_439 ?_
      obtain ⟨x23, e_x23, hf⟩ := me_lts hf
      refine me_nm e_x23 ?_
      refine me_istore C dL_law_440 (by decide) (L' := [(13, me_i x23), (15, me_i r19), (0, .inl (.ref (B.1 202 0))), (1, me_r 0 0), (2, me_i v2), (4, me_i v4), (5, me_i v5), (6, me_i v6), (7, me_i v7), (8, me_i v8), (9, me_i v9), (10, me_i v10), (11, me_i v11), (12, me_i v12), (14, me_r (36 + me_ix v4) 0)]) rfl ?_
      refine me_goto C (tgt := 405) dL_law_442 (by decide) ?_
      refine me_dropI [(0, .inl (.ref (B.1 202 0))), (1, me_r 0 0), (2, me_i v2), (4, me_i v4), (5, me_i v5), (6, me_i v6), (7, me_i v7), (8, me_i v8), (9, me_i v9), (10, me_i v10), (11, me_i v11), (12, me_i v12), (13, me_i x23), (14, me_r (36 + me_ix v4) 0), (15, me_i r19)] [2, 3, 4, 5, 6, 7, 8, 9, 10, 11, 12, 13, 0, 14, 1] rfl ?_
      exact hK405 nc ns μ v2 v4 v5 v6 v7 v8 v9 v10 v11 v12 x23 r19 rfl (by omega) (by omega) hf
def me_F405 : Nat := 8
def f_L_law_h405 (sL : Nat) (xs : Nat → Int32) (K187 : me_M → Int32 → Int32 → Int32 → Int32 → Int32 → Int32 → Option (me_M × Int32)) : Nat → me_M → Int32 → Int32 → Int32 → Int32 → Int32 → Int32 → Int32 → Int32 → Int32 → Int32 → Int32 → Int32 → Option (me_M × Int32)
  | 0, _, _, _, _, _, _, _, _, _, _, _, _, _ => none
  | n + 1, μ, v2, v4, v5, v6, v7, v8, v9, v10, v11, v12, v13, v15 => f_L_law_b405 sL xs K187 (f_L_law_h405 sL xs K187 n) μ v2 v4 v5 v6 v7 v8 v9 v10 v11 v12 v13 v15
set_option maxHeartbeats 4000000 in
set_option maxRecDepth 100000 in
theorem z_L_law_h405 {X : me_X} {B : me_B} {ret0 : Option FieldType} {K0 q : Nat} {NR SR : Nat} {NB187 SB187 : Nat} {K187 : me_M → Int32 → Int32 → Int32 → Int32 → Int32 → Int32 → Option (me_M × Int32)} {r : me_M × Int32} (C : me_C X (me_tb B K0 q) RL cL_law 23 ret0) (hroom : me_Rm X 12 462 618549 7246051) (hB : me_St (me_tb B K0 q)) (hz : ∀ k, 36 ≤ k → B.2.1 k = 0) (hJ0 : me_J B) (hk1 : K0 < 53) (hR : ∀ (nc ns : Nat), nc ≤ NR → ns ≤ SR → me_Z X B nc ns r.1 1316 [] [me_i r.2]) (hNR : NR ≤ 618549 ∧ SR ≤ 7246051) (hK187 : ∀ (nc ns : Nat) (μ : me_M) (v2 : Int32) (v4 : Int32) (v5 : Int32) (v6 : Int32) (v7 : Int32) (v8 : Int32), nc ≤ NB187 → ns ≤ SB187 → K187 μ v2 v4 v5 v6 v7 v8 = some r → me_Z X B nc ns μ 187 [(0, .inl (.ref (B.1 202 0))), (1, me_r 0 0), (2, me_i v2), (4, me_i v4), (5, me_i v5), (6, me_i v6), (7, me_i v7), (8, me_i v8)] []) (hN187 : NB187 ≤ 618549 ∧ SB187 ≤ 7246051) : ∀ (n nc ns : Nat) (μ : me_M) (v2 : Int32) (v4 : Int32) (v5 : Int32) (v6 : Int32) (v7 : Int32) (v8 : Int32) (v9 : Int32) (v10 : Int32) (v11 : Int32) (v12 : Int32) (v13 : Int32) (v15 : Int32), 36 + me_ix v4 = K0 → (nc + n * 0 + 761 ≤ NB187 ∧ ns + n * 0 + 4566 ≤ SB187) → f_L_law_h405 B.2.2.2.1 B.2.2.2.2 K187 n μ v2 v4 v5 v6 v7 v8 v9 v10 v11 v12 v13 v15 = some r → me_Z X (me_tb B K0 q) nc ns μ 405 [(0, .inl (.ref (B.1 202 0))), (1, me_r 0 0), (2, me_i v2), (4, me_i v4), (5, me_i v5), (6, me_i v6), (7, me_i v7), (8, me_i v8), (9, me_i v9), (10, me_i v10), (11, me_i v11), (12, me_i v12), (13, me_i v13), (14, me_r K0 0), (15, me_i v15)] [] := by
  intro n
  induction n with
  | zero => intro nc ns μ v2 v4 v5 v6 v7 v8 v9 v10 v11 v12 v13 v15 hk0 hb187 h; exact absurd (show (none : Option (me_M × Int32)) = some r from h) (fun q => by cases q)
  | succ n ih =>
    intro nc ns μ v2 v4 v5 v6 v7 v8 v9 v10 v11 v12 v13 v15 hk0 hb187 h
    exact z_L_law_b405 (NB405 := nc + 0) (SB405 := ns + 0) C hroom hB hz hJ0 hk1 hR hNR hK187 hN187 (fun nc' ns' μ v2 v4 v5 v6 v7 v8 v9 v10 v11 v12 v13 v15 hk0 h1 h2 h3 => ih nc' ns' μ v2 v4 v5 v6 v7 v8 v9 v10 v11 v12 v13 v15 hk0 ⟨by omega, by omega⟩ h3) ⟨by omega, by omega⟩ hk0 ⟨by omega, by omega⟩ ⟨Nat.le_refl _, Nat.le_refl _⟩ h
def f_L_law_b351 (sL : Nat) (xs : Nat → Int32) (K187 : me_M → Int32 → Int32 → Int32 → Int32 → Int32 → Int32 → Option (me_M × Int32)) (K351 : me_M → Int32 → Int32 → Int32 → Int32 → Int32 → Int32 → Int32 → Int32 → Int32 → Int32 → Int32 → Int32 → Option (me_M × Int32)) (μ : me_M) (v2 : Int32) (v4 : Int32) (v5 : Int32) (v6 : Int32) (v7 : Int32) (v8 : Int32) (v9 : Int32) (v10 : Int32) (v11 : Int32) (v12 : Int32) (v13 : Int32) (v15 : Int32) : Option (me_M × Int32) :=
  if v4 ≤ v15 then
  (me_gd (me_inb v9 (me_ix v4)) (
  if (μ (36 + me_ix v4) 0 (me_ix v9)) = 0 then
  (me_lt ((v13 + (0 : Int32))) (fun x4 =>
  f_L_law_h405 sL xs K187 me_F405 μ v2 v4 v5 v6 v7 v8 v9 v10 v11 v12 x4 v9))
  else
  (me_lt ((v13 + (1 : Int32))) (fun x5 =>
  f_L_law_h405 sL xs K187 me_F405 μ v2 v4 v5 v6 v7 v8 v9 v10 v11 v12 x5 v9))))
  else
  (me_b2 (f_L_isAwake μ v15) (fun μ7 r6 =>
  if r6 = 0 then
  (me_gd (me_inb v15 (me_ix v4)) (
  me_lt (me_up μ7 (36 + me_ix v4) 0 (me_ix v15) (vp_nar .boolean (1 : Int32))) (fun μ13 =>
  me_lt (me_inc v15 (1)) (fun x14 =>
  K351 μ13 v2 v4 v5 v6 v7 v8 v9 v10 v11 v12 v13 x14))))
  else
  (me_gd (me_inb v15 (me_ix v4)) (
  me_lt (me_up μ7 (36 + me_ix v4) 0 (me_ix v15) (vp_nar .boolean (0 : Int32))) (fun μ10 =>
  me_lt (me_inc v15 (1)) (fun x11 =>
  K351 μ10 v2 v4 v5 v6 v7 v8 v9 v10 v11 v12 v13 x11))))))
set_option maxHeartbeats 4000000 in
set_option maxRecDepth 100000 in
theorem z_L_law_b351 {X : me_X} {B : me_B} {ret0 : Option FieldType} {K0 q : Nat} {NR SR : Nat} {NB187 SB187 : Nat} {K187 : me_M → Int32 → Int32 → Int32 → Int32 → Int32 → Int32 → Option (me_M × Int32)} {NB351 SB351 : Nat} {K351 : me_M → Int32 → Int32 → Int32 → Int32 → Int32 → Int32 → Int32 → Int32 → Int32 → Int32 → Int32 → Int32 → Option (me_M × Int32)} {nc ns : Nat} {μ : me_M} {v2 : Int32} {v4 : Int32} {v5 : Int32} {v6 : Int32} {v7 : Int32} {v8 : Int32} {v9 : Int32} {v10 : Int32} {v11 : Int32} {v12 : Int32} {v13 : Int32} {v15 : Int32} {r : me_M × Int32} (C : me_C X (me_tb B K0 q) RL cL_law 23 ret0) (hroom : me_Rm X 12 462 618549 7246051) (hB : me_St (me_tb B K0 q)) (hz : ∀ k, 36 ≤ k → B.2.1 k = 0) (hJ0 : me_J B) (hk1 : K0 < 53) (hR : ∀ (nc ns : Nat), nc ≤ NR → ns ≤ SR → me_Z X B nc ns r.1 1316 [] [me_i r.2]) (hNR : NR ≤ 618549 ∧ SR ≤ 7246051) (hK187 : ∀ (nc ns : Nat) (μ : me_M) (v2 : Int32) (v4 : Int32) (v5 : Int32) (v6 : Int32) (v7 : Int32) (v8 : Int32), nc ≤ NB187 → ns ≤ SB187 → K187 μ v2 v4 v5 v6 v7 v8 = some r → me_Z X B nc ns μ 187 [(0, .inl (.ref (B.1 202 0))), (1, me_r 0 0), (2, me_i v2), (4, me_i v4), (5, me_i v5), (6, me_i v6), (7, me_i v7), (8, me_i v8)] []) (hN187 : NB187 ≤ 618549 ∧ SB187 ≤ 7246051) (hK351 : ∀ (nc ns : Nat) (μ : me_M) (v2 : Int32) (v4 : Int32) (v5 : Int32) (v6 : Int32) (v7 : Int32) (v8 : Int32) (v9 : Int32) (v10 : Int32) (v11 : Int32) (v12 : Int32) (v13 : Int32) (v15 : Int32), 36 + me_ix v4 = K0 → nc ≤ NB351 → ns ≤ SB351 → K351 μ v2 v4 v5 v6 v7 v8 v9 v10 v11 v12 v13 v15 = some r → me_Z X (me_tb B K0 q) nc ns μ 351 [(0, .inl (.ref (B.1 202 0))), (1, me_r 0 0), (2, me_i v2), (4, me_i v4), (5, me_i v5), (6, me_i v6), (7, me_i v7), (8, me_i v8), (9, me_i v9), (10, me_i v10), (11, me_i v11), (12, me_i v12), (13, me_i v13), (14, me_r K0 0), (15, me_i v15)] []) (hN351 : NB351 ≤ 618549 ∧ SB351 ≤ 7246051) (hk0 : 36 + me_ix v4 = K0) (hb187 : (nc + 761 ≤ NB187 ∧ ns + 4566 ≤ SB187)) (hb351 : (nc + 1 ≤ NB351 ∧ ns + 6 ≤ SB351)) (hf : f_L_law_b351 B.2.2.2.1 B.2.2.2.2 K187 K351 μ v2 v4 v5 v6 v7 v8 v9 v10 v11 v12 v13 v15 = some r) : me_Z X (me_tb B K0 q) nc ns μ 351 [(0, .inl (.ref (B.1 202 0))), (1, me_r 0 0), (2, me_i v2), (4, me_i v4), (5, me_i v5), (6, me_i v6), (7, me_i v7), (8, me_i v8), (9, me_i v9), (10, me_i v10), (11, me_i v11), (12, me_i v12), (13, me_i v13), (14, me_r K0 0), (15, me_i v15)] [] := by
  subst hk0
  unfold f_L_law_b351 at hf
  refine me_iload C dL_law_351 rfl ?_
  refine me_iload C dL_law_353 rfl ?_
  refine me_icmp_ge C (tgt := 383) dL_law_355 (by decide) (fun c1 => ?_) (fun c1 => ?_)
  · replace hf := me_ip c1 hf
    refine me_iload C dL_law_383 rfl ?_
    refine me_istore C dL_law_385 (by decide) (L' := [(15, me_i v9), (0, .inl (.ref (B.1 202 0))), (1, me_r 0 0), (2, me_i v2), (4, me_i v4), (5, me_i v5), (6, me_i v6), (7, me_i v7), (8, me_i v8), (9, me_i v9), (10, me_i v10), (11, me_i v11), (12, me_i v12), (13, me_i v13), (14, me_r (36 + me_ix v4) 0)]) rfl ?_
    refine me_iload C dL_law_387 rfl ?_
    refine me_aload C (Or.inr (Or.inl ⟨_, rfl⟩)) dL_law_389 rfl ?_
    refine me_iload C dL_law_391 rfl ?_
    obtain ⟨g2, hf⟩ := me_gs hf
    refine me_zald C (me_kL (by omega)) (fun _ => rfl) g2 dL_law_393 ?_
    refine me_if_eq C (tgt := 401) dL_law_394 (by decide) (fun c3 => ?_) (fun c3 => ?_)
    · replace hf := me_ip c3 hf
      refine me_iconst C (v := 0) dL_law_401 (by decide) ?_
      refine me_iadd C dL_law_402 ?_
      obtain ⟨x4, e_x4, hf⟩ := me_lts hf
      refine me_nm e_x4 ?_
      refine me_istore C dL_law_403 (by decide) (L' := [(13, me_i x4), (15, me_i v9), (0, .inl (.ref (B.1 202 0))), (1, me_r 0 0), (2, me_i v2), (4, me_i v4), (5, me_i v5), (6, me_i v6), (7, me_i v7), (8, me_i v8), (9, me_i v9), (10, me_i v10), (11, me_i v11), (12, me_i v12), (14, me_r (36 + me_ix v4) 0)]) rfl ?_
      refine me_dropI [(0, .inl (.ref (B.1 202 0))), (1, me_r 0 0), (2, me_i v2), (4, me_i v4), (5, me_i v5), (6, me_i v6), (7, me_i v7), (8, me_i v8), (9, me_i v9), (10, me_i v10), (11, me_i v11), (12, me_i v12), (13, me_i x4), (14, me_r (36 + me_ix v4) 0), (15, me_i v9)] [2, 3, 4, 5, 6, 7, 8, 9, 10, 11, 12, 13, 0, 14, 1] rfl ?_
      exact z_L_law_h405 C hroom hB hz hJ0 hk1 hR hNR hK187 hN187 me_F405 nc ns μ v2 v4 v5 v6 v7 v8 v9 v10 v11 v12 x4 v9 rfl ⟨by unfold me_F405; omega, by unfold me_F405; omega⟩ hf
    · replace hf := me_in c3 hf
      refine me_iconst C (v := 1) dL_law_397 (by decide) ?_
      refine me_goto C (tgt := 402) dL_law_398 (by decide) ?_
      refine me_iadd C dL_law_402 ?_
      obtain ⟨x5, e_x5, hf⟩ := me_lts hf
      refine me_nm e_x5 ?_
      refine me_istore C dL_law_403 (by decide) (L' := [(13, me_i x5), (15, me_i v9), (0, .inl (.ref (B.1 202 0))), (1, me_r 0 0), (2, me_i v2), (4, me_i v4), (5, me_i v5), (6, me_i v6), (7, me_i v7), (8, me_i v8), (9, me_i v9), (10, me_i v10), (11, me_i v11), (12, me_i v12), (14, me_r (36 + me_ix v4) 0)]) rfl ?_
      refine me_dropI [(0, .inl (.ref (B.1 202 0))), (1, me_r 0 0), (2, me_i v2), (4, me_i v4), (5, me_i v5), (6, me_i v6), (7, me_i v7), (8, me_i v8), (9, me_i v9), (10, me_i v10), (11, me_i v11), (12, me_i v12), (13, me_i x5), (14, me_r (36 + me_ix v4) 0), (15, me_i v9)] [2, 3, 4, 5, 6, 7, 8, 9, 10, 11, 12, 13, 0, 14, 1] rfl ?_
      exact z_L_law_h405 C hroom hB hz hJ0 hk1 hR hNR hK187 hN187 me_F405 nc ns μ v2 v4 v5 v6 v7 v8 v9 v10 v11 v12 x5 v9 rfl ⟨by unfold me_F405; omega, by unfold me_F405; omega⟩ hf
  · replace hf := me_in c1 hf
    refine me_aload C (Or.inr (Or.inl ⟨_, rfl⟩)) dL_law_358 rfl ?_
    refine me_iload C dL_law_360 rfl ?_
    refine me_aload_n C 1 (Or.inr (Or.inl ⟨_, rfl⟩)) dL_law_362 rfl rfl ?_
    refine me_iload C dL_law_363 rfl ?_
    obtain ⟨μ7, r6, h_r6, hf⟩ := me_bs2 hf
    refine me_callSH C hroom (n := 2) (As := [me_r 0 0, me_i v15]) (st := [me_i v15, me_r (36 + me_ix v4) 0]) (nc + 1) (ns + 6) (c_L_isAwake hB h_r6) mh_L_isAwake iL ⟨by decide +kernel, by decide +kernel⟩ (by decide +kernel) si_L_isAwake ml_L_115 dL_law_365 rfl rfl ⟨by decide, by decide⟩ ⟨by omega, by omega, by omega, by omega⟩ (Nat.le_of_ble_eq_true rfl) ?_
    refine me_if_ne C (tgt := 375) dL_law_368 (by decide) (fun c8 => ?_) (fun c8 => ?_)
    · replace hf := me_in c8 hf
      refine me_iconst C (v := 0) dL_law_375 (by decide) ?_
      obtain ⟨g9, hf⟩ := me_gs hf
      obtain ⟨μ10, e_μ10, hf⟩ := me_lts hf
      refine me_zast C (me_kL (by omega)) (fun _ => rfl) g9 dL_law_376 e_μ10 ?_
      obtain ⟨x11, e_x11, hf⟩ := me_lts hf
      refine me_iinc C (v := x11) (L' := [(15, me_i x11), (0, .inl (.ref (B.1 202 0))), (1, me_r 0 0), (2, me_i v2), (4, me_i v4), (5, me_i v5), (6, me_i v6), (7, me_i v7), (8, me_i v8), (9, me_i v9), (10, me_i v10), (11, me_i v11), (12, me_i v12), (13, me_i v13), (14, me_r (36 + me_ix v4) 0)]) dL_law_377 rfl e_x11.symm (by decide) rfl ?_
      refine me_goto C (tgt := 351) dL_law_380 (by decide) ?_
      refine me_dropI [(0, .inl (.ref (B.1 202 0))), (1, me_r 0 0), (2, me_i v2), (4, me_i v4), (5, me_i v5), (6, me_i v6), (7, me_i v7), (8, me_i v8), (9, me_i v9), (10, me_i v10), (11, me_i v11), (12, me_i v12), (13, me_i v13), (14, me_r (36 + me_ix v4) 0), (15, me_i x11)] [1, 2, 3, 4, 5, 6, 7, 8, 9, 10, 11, 12, 13, 14, 0] rfl ?_
      exact hK351 (nc + 1) (ns + 6) μ10 v2 v4 v5 v6 v7 v8 v9 v10 v11 v12 v13 x11 rfl (by omega) (by omega) hf
    · replace hf := me_ip c8 hf
      refine me_iconst C (v := 1) dL_law_371 (by decide) ?_
      refine me_goto C (tgt := 376) dL_law_372 (by decide) ?_
      obtain ⟨g12, hf⟩ := me_gs hf
      obtain ⟨μ13, e_μ13, hf⟩ := me_lts hf
      refine me_zast C (me_kL (by omega)) (fun _ => rfl) g12 dL_law_376 e_μ13 ?_
      obtain ⟨x14, e_x14, hf⟩ := me_lts hf
      refine me_iinc C (v := x14) (L' := [(15, me_i x14), (0, .inl (.ref (B.1 202 0))), (1, me_r 0 0), (2, me_i v2), (4, me_i v4), (5, me_i v5), (6, me_i v6), (7, me_i v7), (8, me_i v8), (9, me_i v9), (10, me_i v10), (11, me_i v11), (12, me_i v12), (13, me_i v13), (14, me_r (36 + me_ix v4) 0)]) dL_law_377 rfl e_x14.symm (by decide) rfl ?_
      refine me_goto C (tgt := 351) dL_law_380 (by decide) ?_
      refine me_dropI [(0, .inl (.ref (B.1 202 0))), (1, me_r 0 0), (2, me_i v2), (4, me_i v4), (5, me_i v5), (6, me_i v6), (7, me_i v7), (8, me_i v8), (9, me_i v9), (10, me_i v10), (11, me_i v11), (12, me_i v12), (13, me_i v13), (14, me_r (36 + me_ix v4) 0), (15, me_i x14)] [1, 2, 3, 4, 5, 6, 7, 8, 9, 10, 11, 12, 13, 14, 0] rfl ?_
      exact hK351 (nc + 1) (ns + 6) μ13 v2 v4 v5 v6 v7 v8 v9 v10 v11 v12 v13 x14 rfl (by omega) (by omega) hf
def me_F351 : Nat := 20
def f_L_law_h351 (sL : Nat) (xs : Nat → Int32) (K187 : me_M → Int32 → Int32 → Int32 → Int32 → Int32 → Int32 → Option (me_M × Int32)) : Nat → me_M → Int32 → Int32 → Int32 → Int32 → Int32 → Int32 → Int32 → Int32 → Int32 → Int32 → Int32 → Int32 → Option (me_M × Int32)
  | 0, _, _, _, _, _, _, _, _, _, _, _, _, _ => none
  | n + 1, μ, v2, v4, v5, v6, v7, v8, v9, v10, v11, v12, v13, v15 => f_L_law_b351 sL xs K187 (f_L_law_h351 sL xs K187 n) μ v2 v4 v5 v6 v7 v8 v9 v10 v11 v12 v13 v15
set_option maxHeartbeats 4000000 in
set_option maxRecDepth 100000 in
theorem z_L_law_h351 {X : me_X} {B : me_B} {ret0 : Option FieldType} {K0 q : Nat} {NR SR : Nat} {NB187 SB187 : Nat} {K187 : me_M → Int32 → Int32 → Int32 → Int32 → Int32 → Int32 → Option (me_M × Int32)} {r : me_M × Int32} (C : me_C X (me_tb B K0 q) RL cL_law 23 ret0) (hroom : me_Rm X 12 462 618549 7246051) (hB : me_St (me_tb B K0 q)) (hz : ∀ k, 36 ≤ k → B.2.1 k = 0) (hJ0 : me_J B) (hk1 : K0 < 53) (hR : ∀ (nc ns : Nat), nc ≤ NR → ns ≤ SR → me_Z X B nc ns r.1 1316 [] [me_i r.2]) (hNR : NR ≤ 618549 ∧ SR ≤ 7246051) (hK187 : ∀ (nc ns : Nat) (μ : me_M) (v2 : Int32) (v4 : Int32) (v5 : Int32) (v6 : Int32) (v7 : Int32) (v8 : Int32), nc ≤ NB187 → ns ≤ SB187 → K187 μ v2 v4 v5 v6 v7 v8 = some r → me_Z X B nc ns μ 187 [(0, .inl (.ref (B.1 202 0))), (1, me_r 0 0), (2, me_i v2), (4, me_i v4), (5, me_i v5), (6, me_i v6), (7, me_i v7), (8, me_i v8)] []) (hN187 : NB187 ≤ 618549 ∧ SB187 ≤ 7246051) : ∀ (n nc ns : Nat) (μ : me_M) (v2 : Int32) (v4 : Int32) (v5 : Int32) (v6 : Int32) (v7 : Int32) (v8 : Int32) (v9 : Int32) (v10 : Int32) (v11 : Int32) (v12 : Int32) (v13 : Int32) (v15 : Int32), 36 + me_ix v4 = K0 → (nc + n * 1 + 761 ≤ NB187 ∧ ns + n * 6 + 4566 ≤ SB187) → f_L_law_h351 B.2.2.2.1 B.2.2.2.2 K187 n μ v2 v4 v5 v6 v7 v8 v9 v10 v11 v12 v13 v15 = some r → me_Z X (me_tb B K0 q) nc ns μ 351 [(0, .inl (.ref (B.1 202 0))), (1, me_r 0 0), (2, me_i v2), (4, me_i v4), (5, me_i v5), (6, me_i v6), (7, me_i v7), (8, me_i v8), (9, me_i v9), (10, me_i v10), (11, me_i v11), (12, me_i v12), (13, me_i v13), (14, me_r K0 0), (15, me_i v15)] [] := by
  intro n
  induction n with
  | zero => intro nc ns μ v2 v4 v5 v6 v7 v8 v9 v10 v11 v12 v13 v15 hk0 hb187 h; exact absurd (show (none : Option (me_M × Int32)) = some r from h) (fun q => by cases q)
  | succ n ih =>
    intro nc ns μ v2 v4 v5 v6 v7 v8 v9 v10 v11 v12 v13 v15 hk0 hb187 h
    exact z_L_law_b351 (NB351 := nc + 1) (SB351 := ns + 6) C hroom hB hz hJ0 hk1 hR hNR hK187 hN187 (fun nc' ns' μ v2 v4 v5 v6 v7 v8 v9 v10 v11 v12 v13 v15 hk0 h1 h2 h3 => ih nc' ns' μ v2 v4 v5 v6 v7 v8 v9 v10 v11 v12 v13 v15 hk0 ⟨by omega, by omega⟩ h3) ⟨by omega, by omega⟩ hk0 ⟨by omega, by omega⟩ ⟨Nat.le_refl _, Nat.le_refl _⟩ h
def f_L_law_b259 (sL : Nat) (xs : Nat → Int32) (K187 : me_M → Int32 → Int32 → Int32 → Int32 → Int32 → Int32 → Option (me_M × Int32)) (K259 : me_M → Int32 → Int32 → Int32 → Int32 → Int32 → Int32 → Int32 → Int32 → Int32 → Int32 → Int32 → Int32 → Option (me_M × Int32)) (μ : me_M) (v2 : Int32) (v4 : Int32) (v5 : Int32) (v6 : Int32) (v7 : Int32) (v8 : Int32) (v9 : Int32) (v10 : Int32) (v11 : Int32) (v12 : Int32) (v13 : Int32) (v15 : Int32) : Option (me_M × Int32) :=
  if (3 : Int32) ≤ v15 then
  (f_L_law_h351 sL xs K187 me_F351 μ v2 v4 v5 v6 v7 v8 v9 v10 v11 v12 v13 (0 : Int32))
  else
  (me_bd (f_L_in sL xs μ (((50 : Int32) + ((3 : Int32) * v8)) + v15) v4) (fun r2 =>
  me_bd (f_L_in sL xs μ (((70 : Int32) + ((3 : Int32) * v8)) + v15) (2 : Int32)) (fun r3 =>
  if r3 = 0 then
  (f_L_law_b306 sL xs K187 K259 μ v2 v4 v5 v6 v7 v8 v9 v10 v11 v12 v13 v15 r2 (1 : Int32))
  else
  (f_L_law_b306 sL xs K187 K259 μ v2 v4 v5 v6 v7 v8 v9 v10 v11 v12 v13 v15 r2 (0 : Int32)))))
set_option maxHeartbeats 4000000 in
set_option maxRecDepth 100000 in
theorem z_L_law_b259 {X : me_X} {B : me_B} {ret0 : Option FieldType} {K0 q : Nat} {NR SR : Nat} {NB187 SB187 : Nat} {K187 : me_M → Int32 → Int32 → Int32 → Int32 → Int32 → Int32 → Option (me_M × Int32)} {NB259 SB259 : Nat} {K259 : me_M → Int32 → Int32 → Int32 → Int32 → Int32 → Int32 → Int32 → Int32 → Int32 → Int32 → Int32 → Int32 → Option (me_M × Int32)} {nc ns : Nat} {μ : me_M} {v2 : Int32} {v4 : Int32} {v5 : Int32} {v6 : Int32} {v7 : Int32} {v8 : Int32} {v9 : Int32} {v10 : Int32} {v11 : Int32} {v12 : Int32} {v13 : Int32} {v15 : Int32} {r : me_M × Int32} (C : me_C X (me_tb B K0 q) RL cL_law 23 ret0) (hroom : me_Rm X 12 462 618549 7246051) (hB : me_St (me_tb B K0 q)) (hz : ∀ k, 36 ≤ k → B.2.1 k = 0) (hJ0 : me_J B) (hk1 : K0 < 53) (hR : ∀ (nc ns : Nat), nc ≤ NR → ns ≤ SR → me_Z X B nc ns r.1 1316 [] [me_i r.2]) (hNR : NR ≤ 618549 ∧ SR ≤ 7246051) (hK187 : ∀ (nc ns : Nat) (μ : me_M) (v2 : Int32) (v4 : Int32) (v5 : Int32) (v6 : Int32) (v7 : Int32) (v8 : Int32), nc ≤ NB187 → ns ≤ SB187 → K187 μ v2 v4 v5 v6 v7 v8 = some r → me_Z X B nc ns μ 187 [(0, .inl (.ref (B.1 202 0))), (1, me_r 0 0), (2, me_i v2), (4, me_i v4), (5, me_i v5), (6, me_i v6), (7, me_i v7), (8, me_i v8)] []) (hN187 : NB187 ≤ 618549 ∧ SB187 ≤ 7246051) (hK259 : ∀ (nc ns : Nat) (μ : me_M) (v2 : Int32) (v4 : Int32) (v5 : Int32) (v6 : Int32) (v7 : Int32) (v8 : Int32) (v9 : Int32) (v10 : Int32) (v11 : Int32) (v12 : Int32) (v13 : Int32) (v15 : Int32), 36 + me_ix v4 = K0 → nc ≤ NB259 → ns ≤ SB259 → K259 μ v2 v4 v5 v6 v7 v8 v9 v10 v11 v12 v13 v15 = some r → me_Z X (me_tb B K0 q) nc ns μ 259 [(0, .inl (.ref (B.1 202 0))), (1, me_r 0 0), (2, me_i v2), (4, me_i v4), (5, me_i v5), (6, me_i v6), (7, me_i v7), (8, me_i v8), (9, me_i v9), (10, me_i v10), (11, me_i v11), (12, me_i v12), (13, me_i v13), (14, me_r K0 0), (15, me_i v15)] []) (hN259 : NB259 ≤ 618549 ∧ SB259 ≤ 7246051) (hk0 : 36 + me_ix v4 = K0) (hb187 : (nc + 781 ≤ NB187 ∧ ns + 4686 ≤ SB187)) (hb259 : (nc + 3 ≤ NB259 ∧ ns + 18 ≤ SB259)) (hf : f_L_law_b259 B.2.2.2.1 B.2.2.2.2 K187 K259 μ v2 v4 v5 v6 v7 v8 v9 v10 v11 v12 v13 v15 = some r) : me_Z X (me_tb B K0 q) nc ns μ 259 [(0, .inl (.ref (B.1 202 0))), (1, me_r 0 0), (2, me_i v2), (4, me_i v4), (5, me_i v5), (6, me_i v6), (7, me_i v7), (8, me_i v8), (9, me_i v9), (10, me_i v10), (11, me_i v11), (12, me_i v12), (13, me_i v13), (14, me_r K0 0), (15, me_i v15)] [] := by
  subst hk0
  unfold f_L_law_b259 at hf
  refine me_iload C dL_law_259 rfl ?_
  refine me_iconst C (v := 3) dL_law_261 (by decide) ?_
  refine me_icmp_ge C (tgt := 348) dL_law_262 (by decide) (fun c1 => ?_) (fun c1 => ?_)
  · replace hf := me_ip c1 hf
    refine me_iconst C (v := 0) dL_law_348 (by decide) ?_
    refine me_istore C dL_law_349 (by decide) (L' := [(15, me_i (0 : Int32)), (0, .inl (.ref (B.1 202 0))), (1, me_r 0 0), (2, me_i v2), (4, me_i v4), (5, me_i v5), (6, me_i v6), (7, me_i v7), (8, me_i v8), (9, me_i v9), (10, me_i v10), (11, me_i v11), (12, me_i v12), (13, me_i v13), (14, me_r (36 + me_ix v4) 0)]) rfl ?_
    refine me_dropI [(0, .inl (.ref (B.1 202 0))), (1, me_r 0 0), (2, me_i v2), (4, me_i v4), (5, me_i v5), (6, me_i v6), (7, me_i v7), (8, me_i v8), (9, me_i v9), (10, me_i v10), (11, me_i v11), (12, me_i v12), (13, me_i v13), (14, me_r (36 + me_ix v4) 0), (15, me_i (0 : Int32))] [1, 2, 3, 4, 5, 6, 7, 8, 9, 10, 11, 12, 13, 14, 0] rfl ?_
    exact z_L_law_h351 C hroom hB hz hJ0 hk1 hR hNR hK187 hN187 me_F351 nc ns μ v2 v4 v5 v6 v7 v8 v9 v10 v11 v12 v13 (0 : Int32) rfl ⟨by unfold me_F351; omega, by unfold me_F351; omega⟩ hf
  · replace hf := me_in c1 hf
    refine me_aload_n C 0 (Or.inr (Or.inr ⟨_, rfl⟩)) dL_law_265 rfl rfl ?_
    refine me_bipush C (v := 50) dL_law_266 (by decide) ?_
    refine me_iconst C (v := 3) dL_law_268 (by decide) ?_
    refine me_iload C dL_law_269 rfl ?_
    refine me_imul C dL_law_271 ?_
    refine me_iadd C dL_law_272 ?_
    refine me_iload C dL_law_273 rfl ?_
    refine me_iadd C dL_law_275 ?_
    refine me_iload C dL_law_276 rfl ?_
    obtain ⟨r2, h_r2, hf⟩ := me_bs hf
    refine me_callSR C hroom (As := [.inl (.ref (B.1 202 0)), me_i (((50 : Int32) + ((3 : Int32) * v8)) + v15), me_i v4]) (st := []) nc ns (c_L_inB (B := me_tb B (36 + me_ix v4) q) (me_tb1 (by omega)).symm hB h_r2) ms_L_in ml_L_95 dL_law_278 rfl rfl ⟨by decide, by decide⟩ ⟨by omega, by omega, by omega, by omega⟩ (Nat.le_of_ble_eq_true rfl) ?_
    refine me_istore C dL_law_281 (by decide) (L' := [(16, me_i r2), (0, .inl (.ref (B.1 202 0))), (1, me_r 0 0), (2, me_i v2), (4, me_i v4), (5, me_i v5), (6, me_i v6), (7, me_i v7), (8, me_i v8), (9, me_i v9), (10, me_i v10), (11, me_i v11), (12, me_i v12), (13, me_i v13), (14, me_r (36 + me_ix v4) 0), (15, me_i v15)]) rfl ?_
    refine me_aload_n C 0 (Or.inr (Or.inr ⟨_, rfl⟩)) dL_law_283 rfl rfl ?_
    refine me_bipush C (v := 70) dL_law_284 (by decide) ?_
    refine me_iconst C (v := 3) dL_law_286 (by decide) ?_
    refine me_iload C dL_law_287 rfl ?_
    refine me_imul C dL_law_289 ?_
    refine me_iadd C dL_law_290 ?_
    refine me_iload C dL_law_291 rfl ?_
    refine me_iadd C dL_law_293 ?_
    refine me_iconst C (v := 2) dL_law_294 (by decide) ?_
    obtain ⟨r3, h_r3, hf⟩ := me_bs hf
    refine me_callSR C hroom (As := [.inl (.ref (B.1 202 0)), me_i (((70 : Int32) + ((3 : Int32) * v8)) + v15), me_i (2 : Int32)]) (st := []) nc ns (c_L_inB (B := me_tb B (36 + me_ix v4) q) (me_tb1 (by omega)).symm hB h_r3) ms_L_in ml_L_95 dL_law_295 rfl rfl ⟨by decide, by decide⟩ ⟨by omega, by omega, by omega, by omega⟩ (Nat.le_of_ble_eq_true rfl) ?_
    refine me_if_ne C (tgt := 305) dL_law_298 (by decide) (fun c4 => ?_) (fun c4 => ?_)
    · replace hf := me_in c4 hf
      refine me_iconst C (v := 0) dL_law_305 (by decide) ?_
      refine me_dropI [(0, .inl (.ref (B.1 202 0))), (1, me_r 0 0), (2, me_i v2), (4, me_i v4), (5, me_i v5), (6, me_i v6), (7, me_i v7), (8, me_i v8), (9, me_i v9), (10, me_i v10), (11, me_i v11), (12, me_i v12), (13, me_i v13), (14, me_r (36 + me_ix v4) 0), (15, me_i v15), (16, me_i r2)] [1, 2, 3, 4, 5, 6, 7, 8, 9, 10, 11, 12, 13, 14, 15, 0] rfl ?_
      exact z_L_law_b306 C hroom hB hz hJ0 hk1 hR hNR hK187 hN187 hK259 hN259 (nc := nc) (ns := ns) rfl ⟨by omega, by omega⟩ hf
    · replace hf := me_ip c4 hf
      refine me_iconst C (v := 1) dL_law_301 (by decide) ?_
      refine me_goto C (tgt := 306) dL_law_302 (by decide) ?_
      refine me_dropI [(0, .inl (.ref (B.1 202 0))), (1, me_r 0 0), (2, me_i v2), (4, me_i v4), (5, me_i v5), (6, me_i v6), (7, me_i v7), (8, me_i v8), (9, me_i v9), (10, me_i v10), (11, me_i v11), (12, me_i v12), (13, me_i v13), (14, me_r (36 + me_ix v4) 0), (15, me_i v15), (16, me_i r2)] [1, 2, 3, 4, 5, 6, 7, 8, 9, 10, 11, 12, 13, 14, 15, 0] rfl ?_
      exact z_L_law_b306 C hroom hB hz hJ0 hk1 hR hNR hK187 hN187 hK259 hN259 (nc := nc) (ns := ns) rfl ⟨by omega, by omega⟩ hf
def me_F259 : Nat := 8
def f_L_law_h259 (sL : Nat) (xs : Nat → Int32) (K187 : me_M → Int32 → Int32 → Int32 → Int32 → Int32 → Int32 → Option (me_M × Int32)) : Nat → me_M → Int32 → Int32 → Int32 → Int32 → Int32 → Int32 → Int32 → Int32 → Int32 → Int32 → Int32 → Int32 → Option (me_M × Int32)
  | 0, _, _, _, _, _, _, _, _, _, _, _, _, _ => none
  | n + 1, μ, v2, v4, v5, v6, v7, v8, v9, v10, v11, v12, v13, v15 => f_L_law_b259 sL xs K187 (f_L_law_h259 sL xs K187 n) μ v2 v4 v5 v6 v7 v8 v9 v10 v11 v12 v13 v15
set_option maxHeartbeats 4000000 in
set_option maxRecDepth 100000 in
theorem z_L_law_h259 {X : me_X} {B : me_B} {ret0 : Option FieldType} {K0 q : Nat} {NR SR : Nat} {NB187 SB187 : Nat} {K187 : me_M → Int32 → Int32 → Int32 → Int32 → Int32 → Int32 → Option (me_M × Int32)} {r : me_M × Int32} (C : me_C X (me_tb B K0 q) RL cL_law 23 ret0) (hroom : me_Rm X 12 462 618549 7246051) (hB : me_St (me_tb B K0 q)) (hz : ∀ k, 36 ≤ k → B.2.1 k = 0) (hJ0 : me_J B) (hk1 : K0 < 53) (hR : ∀ (nc ns : Nat), nc ≤ NR → ns ≤ SR → me_Z X B nc ns r.1 1316 [] [me_i r.2]) (hNR : NR ≤ 618549 ∧ SR ≤ 7246051) (hK187 : ∀ (nc ns : Nat) (μ : me_M) (v2 : Int32) (v4 : Int32) (v5 : Int32) (v6 : Int32) (v7 : Int32) (v8 : Int32), nc ≤ NB187 → ns ≤ SB187 → K187 μ v2 v4 v5 v6 v7 v8 = some r → me_Z X B nc ns μ 187 [(0, .inl (.ref (B.1 202 0))), (1, me_r 0 0), (2, me_i v2), (4, me_i v4), (5, me_i v5), (6, me_i v6), (7, me_i v7), (8, me_i v8)] []) (hN187 : NB187 ≤ 618549 ∧ SB187 ≤ 7246051) : ∀ (n nc ns : Nat) (μ : me_M) (v2 : Int32) (v4 : Int32) (v5 : Int32) (v6 : Int32) (v7 : Int32) (v8 : Int32) (v9 : Int32) (v10 : Int32) (v11 : Int32) (v12 : Int32) (v13 : Int32) (v15 : Int32), 36 + me_ix v4 = K0 → (nc + n * 3 + 781 ≤ NB187 ∧ ns + n * 18 + 4686 ≤ SB187) → f_L_law_h259 B.2.2.2.1 B.2.2.2.2 K187 n μ v2 v4 v5 v6 v7 v8 v9 v10 v11 v12 v13 v15 = some r → me_Z X (me_tb B K0 q) nc ns μ 259 [(0, .inl (.ref (B.1 202 0))), (1, me_r 0 0), (2, me_i v2), (4, me_i v4), (5, me_i v5), (6, me_i v6), (7, me_i v7), (8, me_i v8), (9, me_i v9), (10, me_i v10), (11, me_i v11), (12, me_i v12), (13, me_i v13), (14, me_r K0 0), (15, me_i v15)] [] := by
  intro n
  induction n with
  | zero => intro nc ns μ v2 v4 v5 v6 v7 v8 v9 v10 v11 v12 v13 v15 hk0 hb187 h; exact absurd (show (none : Option (me_M × Int32)) = some r from h) (fun q => by cases q)
  | succ n ih =>
    intro nc ns μ v2 v4 v5 v6 v7 v8 v9 v10 v11 v12 v13 v15 hk0 hb187 h
    exact z_L_law_b259 (NB259 := nc + 3) (SB259 := ns + 18) C hroom hB hz hJ0 hk1 hR hNR hK187 hN187 (fun nc' ns' μ v2 v4 v5 v6 v7 v8 v9 v10 v11 v12 v13 v15 hk0 h1 h2 h3 => ih nc' ns' μ v2 v4 v5 v6 v7 v8 v9 v10 v11 v12 v13 v15 hk0 ⟨by omega, by omega⟩ h3) ⟨by omega, by omega⟩ hk0 ⟨by omega, by omega⟩ ⟨Nat.le_refl _, Nat.le_refl _⟩ h
def f_L_law_b1276 (sL : Nat) (xs : Nat → Int32)  (μ : me_M) (v14 : Int32) (s0 : Int32) (s1 : Int32) : Option (me_M × Int32) :=
  me_lt ((s1 &&& s0)) (fun x1 =>
  if x1 = 0 then
  (some (μ, (0 : Int32)))
  else
  (me_bd (f_Y_lostShare μ) (fun r3 =>
  me_xm r3 (fun r3 =>
  if (Op.cmpValue (FP.fcmp r3 (FP.fconst0)) .l) = 0 then
  (me_bd (f_Y_packets μ) (fun r5 =>
  if r5 = (v14 + (2 : Int32)) then
  (me_b2 (f_Y_isSound μ) (fun μ8 r7 =>
  if r7 = 0 then
  (some (μ8, (0 : Int32)))
  else
  (some (μ8, (1 : Int32)))))
  else
  (some (μ, (0 : Int32)))))
  else
  (some (μ, (0 : Int32)))) (fun _ => none))))
set_option maxHeartbeats 4000000 in
set_option maxRecDepth 100000 in
theorem z_L_law_b1276 {X : me_X} {B : me_B} {ret0 : Option FieldType} {NR SR : Nat}  {nc ns : Nat} {μ : me_M} {v14 : Int32} {s0 : Int32} {s1 : Int32} {r : me_M × Int32} (C : me_C X B RL cL_law 23 ret0) (hroom : me_Rm X 12 462 618549 7246051) (hB : me_St B) (hz : ∀ k, 36 ≤ k → B.2.1 k = 0) (hR : ∀ (nc ns : Nat), nc ≤ NR → ns ≤ SR → me_Z X B nc ns r.1 1316 [] [me_i r.2]) (hNR : NR ≤ 618549 ∧ SR ≤ 7246051)  (hbR : (nc + 1 ≤ NR ∧ ns + 6 ≤ SR)) (hf : f_L_law_b1276 B.2.2.2.1 B.2.2.2.2 μ v14 s0 s1 = some r) : me_Z X B nc ns μ 1276 [(1, me_r 0 0), (14, me_i v14)] [me_i s0, me_i s1] := by
  unfold f_L_law_b1276 at hf
  refine me_iand C dL_law_1276 ?_
  obtain ⟨x1, e_x1, hf⟩ := me_lts hf
  refine me_nm e_x1 ?_
  refine me_istore C dL_law_1277 (by decide) (L' := [(6, me_i x1), (1, me_r 0 0), (14, me_i v14)]) rfl ?_
  refine me_iload C dL_law_1279 rfl ?_
  refine me_if_eq C (tgt := 1315) dL_law_1281 (by decide) (fun c2 => ?_) (fun c2 => ?_)
  · replace hf := me_ip c2 hf
    refine me_iconst C (v := 0) dL_law_1315 (by decide) ?_
    cases hf
    refine me_dropI [] [] rfl ?_
    exact hR _ _ (by omega) (by omega)
  · replace hf := me_in c2 hf
    refine me_aload_n C 1 (Or.inr (Or.inl ⟨_, rfl⟩)) dL_law_1284 rfl rfl ?_
    obtain ⟨r3, h_r3, hf⟩ := me_bs hf
    rcases r3 with r3 | r3
    · replace hf := me_xme hf
      cases hf
    replace hf := me_xmo hf
    refine me_callVR C hroom (As := []) (st := []) (nc + 1) (ns + 6) (c_Y_lostShare hB h_r3) mv_Y_lostShare ml_L_165 rfl rfl dL_law_1285 rfl rfl ⟨by decide, by decide⟩ ⟨by omega, by omega, by omega, by omega⟩ (Nat.le_of_ble_eq_true rfl) ?_
    refine me_fconst0 C dL_law_1288 ?_
    refine me_fcmp C dL_law_1289 ?_
    refine me_if_ne C (tgt := 1315) dL_law_1290 (by decide) (fun c4 => ?_) (fun c4 => ?_)
    · replace hf := me_in c4 hf
      refine me_iconst C (v := 0) dL_law_1315 (by decide) ?_
      cases hf
      refine me_dropI [] [] rfl ?_
      exact hR _ _ (by omega) (by omega)
    · replace hf := me_ip c4 hf
      refine me_aload_n C 1 (Or.inr (Or.inl ⟨_, rfl⟩)) dL_law_1293 rfl rfl ?_
      obtain ⟨r5, h_r5, hf⟩ := me_bs hf
      refine me_callVR C hroom (As := []) (st := []) (nc + 1) (ns + 6) (c_Y_packets hB h_r5) mv_Y_packets ml_L_123 rfl rfl dL_law_1294 rfl rfl ⟨by decide, by decide⟩ ⟨by omega, by omega, by omega, by omega⟩ (Nat.le_of_ble_eq_true rfl) ?_
      refine me_iload C dL_law_1297 rfl ?_
      refine me_iconst C (v := 2) dL_law_1299 (by decide) ?_
      refine me_iadd C dL_law_1300 ?_
      refine me_icmp_ne C (tgt := 1315) dL_law_1301 (by decide) (fun c6 => ?_) (fun c6 => ?_)
      · replace hf := me_in c6 hf
        refine me_iconst C (v := 0) dL_law_1315 (by decide) ?_
        cases hf
        refine me_dropI [] [] rfl ?_
        exact hR _ _ (by omega) (by omega)
      · replace hf := me_ip c6 hf
        refine me_aload_n C 1 (Or.inr (Or.inl ⟨_, rfl⟩)) dL_law_1304 rfl rfl ?_
        obtain ⟨μ8, r7, h_r7, hf⟩ := me_bs2 hf
        refine me_callVR C hroom (As := []) (st := []) (nc + 1) (ns + 6) (c_Y_isSound hB h_r7) mv_Y_isSound ml_L_169 rfl rfl dL_law_1305 rfl rfl ⟨by decide, by decide⟩ ⟨by omega, by omega, by omega, by omega⟩ (Nat.le_of_ble_eq_true rfl) ?_
        refine me_if_eq C (tgt := 1315) dL_law_1308 (by decide) (fun c9 => ?_) (fun c9 => ?_)
        · replace hf := me_ip c9 hf
          refine me_iconst C (v := 0) dL_law_1315 (by decide) ?_
          cases hf
          refine me_dropI [] [] rfl ?_
          exact hR _ _ (by omega) (by omega)
        · replace hf := me_in c9 hf
          refine me_iconst C (v := 1) dL_law_1311 (by decide) ?_
          refine me_goto C (tgt := 1316) dL_law_1312 (by decide) ?_
          cases hf
          refine me_dropI [] [] rfl ?_
          exact hR _ _ (by omega) (by omega)
def f_L_law_b1257 (sL : Nat) (xs : Nat → Int32)  (μ : me_M) (v8 : Int32) (v9 : Int32) (v14 : Int32) (s0 : Int32) (s1 : Int32) (s2 : Int32) : Option (me_M × Int32) :=
  if s1 = s0 then
  (me_b2 (f_L_lying μ v8 v9) (fun μ3 r2 =>
  if r2 = 0 then
  (f_L_law_b1276 sL xs μ3 v14 (1 : Int32) s2)
  else
  (f_L_law_b1276 sL xs μ3 v14 (0 : Int32) s2)))
  else
  (f_L_law_b1276 sL xs μ v14 (0 : Int32) s2)
set_option maxHeartbeats 4000000 in
set_option maxRecDepth 100000 in
theorem z_L_law_b1257 {X : me_X} {B : me_B} {ret0 : Option FieldType} {NR SR : Nat}  {nc ns : Nat} {μ : me_M} {v8 : Int32} {v9 : Int32} {v14 : Int32} {s0 : Int32} {s1 : Int32} {s2 : Int32} {r : me_M × Int32} (C : me_C X B RL cL_law 23 ret0) (hroom : me_Rm X 12 462 618549 7246051) (hB : me_St B) (hz : ∀ k, 36 ≤ k → B.2.1 k = 0) (hR : ∀ (nc ns : Nat), nc ≤ NR → ns ≤ SR → me_Z X B nc ns r.1 1316 [] [me_i r.2]) (hNR : NR ≤ 618549 ∧ SR ≤ 7246051)  (hbR : (nc + 3 ≤ NR ∧ ns + 18 ≤ SR)) (hf : f_L_law_b1257 B.2.2.2.1 B.2.2.2.2 μ v8 v9 v14 s0 s1 s2 = some r) : me_Z X B nc ns μ 1257 [(1, me_r 0 0), (8, me_i v8), (9, me_i v9), (14, me_i v14)] [me_i s0, me_i s1, me_i s2] := by
  unfold f_L_law_b1257 at hf
  refine me_icmp_ne C (tgt := 1275) dL_law_1257 (by decide) (fun c1 => ?_) (fun c1 => ?_)
  · replace hf := me_in c1 hf
    refine me_iconst C (v := 0) dL_law_1275 (by decide) ?_
    refine me_dropI [(1, me_r 0 0), (14, me_i v14)] [0, 3] rfl ?_
    exact z_L_law_b1276 C hroom hB hz hR hNR (nc := nc) (ns := ns) ⟨by omega, by omega⟩ hf
  · replace hf := me_ip c1 hf
    refine me_aload_n C 1 (Or.inr (Or.inl ⟨_, rfl⟩)) dL_law_1260 rfl rfl ?_
    refine me_iload C dL_law_1261 rfl ?_
    refine me_iload C dL_law_1263 rfl ?_
    obtain ⟨μ3, r2, h_r2, hf⟩ := me_bs2 hf
    refine me_callSH C hroom (n := 3) (As := [me_r 0 0, me_i v8, me_i v9]) (st := [me_i s2]) (nc + 2) (ns + 12) (c_L_lying hB h_r2) mh_L_lying iL ⟨by decide +kernel, by decide +kernel⟩ (by decide +kernel) si_L_lying ml_L_143 dL_law_1265 rfl rfl ⟨by decide, by decide⟩ ⟨by omega, by omega, by omega, by omega⟩ (Nat.le_of_ble_eq_true rfl) ?_
    refine me_if_ne C (tgt := 1275) dL_law_1268 (by decide) (fun c4 => ?_) (fun c4 => ?_)
    · replace hf := me_in c4 hf
      refine me_iconst C (v := 0) dL_law_1275 (by decide) ?_
      refine me_dropI [(1, me_r 0 0), (14, me_i v14)] [0, 3] rfl ?_
      exact z_L_law_b1276 C hroom hB hz hR hNR (nc := (nc + 2)) (ns := (ns + 12)) ⟨by omega, by omega⟩ hf
    · replace hf := me_ip c4 hf
      refine me_iconst C (v := 1) dL_law_1271 (by decide) ?_
      refine me_goto C (tgt := 1276) dL_law_1272 (by decide) ?_
      refine me_dropI [(1, me_r 0 0), (14, me_i v14)] [0, 3] rfl ?_
      exact z_L_law_b1276 C hroom hB hz hR hNR (nc := (nc + 2)) (ns := (ns + 12)) ⟨by omega, by omega⟩ hf
def f_L_law_b1168 (sL : Nat) (xs : Nat → Int32)  (μ : me_M) (v8 : Int32) (v9 : Int32) (v10 : Int32) (v11 : Int32) (v12 : Int32) (v13 : Int32) (v14 : Int32) (s0 : Int32) (s1 : Int32) : Option (me_M × Int32) :=
  me_lt ((s1 &&& s0)) (fun x1 =>
  me_b2 (f_L_answer μ v14) (fun μ3 r2 =>
  if r2 = (v14 + (1 : Int32)) then
  (me_bd (f_Y_kind μ3 r2) (fun r5 =>
  me_xm r5 (fun r5 =>
  if r5 = (97 : Int32) then
  (me_bd (f_Y_word μ3 r2) (fun r7 =>
  me_xm r7 (fun r7 =>
  if r7 = v11 then
  (me_b2 (f_L_state μ3 v14) (fun μ10 r9 =>
  if r9 = (100 : Int32) then
  (me_b2 (f_L_state μ10 r2) (fun μ13 r12 =>
  if r12 = (100 : Int32) then
  (me_b2 (f_L_memory μ13 v9 v10) (fun μ16 r15 =>
  if v13 = 0 then
  (f_L_law_b1257 sL xs μ16 v8 v9 v14 v11 r15 x1)
  else
  (f_L_law_b1257 sL xs μ16 v8 v9 v14 (v11 + v12) r15 x1)))
  else
  (f_L_law_b1276 sL xs μ13 v14 (0 : Int32) x1)))
  else
  (f_L_law_b1276 sL xs μ10 v14 (0 : Int32) x1)))
  else
  (f_L_law_b1276 sL xs μ3 v14 (0 : Int32) x1)) (fun _ => none)))
  else
  (f_L_law_b1276 sL xs μ3 v14 (0 : Int32) x1)) (fun _ => none)))
  else
  (f_L_law_b1276 sL xs μ3 v14 (0 : Int32) x1)))
set_option maxHeartbeats 4000000 in
set_option maxRecDepth 100000 in
theorem z_L_law_b1168 {X : me_X} {B : me_B} {ret0 : Option FieldType} {NR SR : Nat}  {nc ns : Nat} {μ : me_M} {v8 : Int32} {v9 : Int32} {v10 : Int32} {v11 : Int32} {v12 : Int32} {v13 : Int32} {v14 : Int32} {s0 : Int32} {s1 : Int32} {r : me_M × Int32} (C : me_C X B RL cL_law 23 ret0) (hroom : me_Rm X 12 462 618549 7246051) (hB : me_St B) (hz : ∀ k, 36 ≤ k → B.2.1 k = 0) (hR : ∀ (nc ns : Nat), nc ≤ NR → ns ≤ SR → me_Z X B nc ns r.1 1316 [] [me_i r.2]) (hNR : NR ≤ 618549 ∧ SR ≤ 7246051)  (hbR : (nc + 11 ≤ NR ∧ ns + 66 ≤ SR)) (hf : f_L_law_b1168 B.2.2.2.1 B.2.2.2.2 μ v8 v9 v10 v11 v12 v13 v14 s0 s1 = some r) : me_Z X B nc ns μ 1168 [(1, me_r 0 0), (8, me_i v8), (9, me_i v9), (10, me_i v10), (11, me_i v11), (12, me_i v12), (13, me_i v13), (14, me_i v14)] [me_i s0, me_i s1] := by
  unfold f_L_law_b1168 at hf
  refine me_iand C dL_law_1168 ?_
  obtain ⟨x1, e_x1, hf⟩ := me_lts hf
  refine me_nm e_x1 ?_
  refine me_istore C dL_law_1169 (by decide) (L' := [(6, me_i x1), (1, me_r 0 0), (8, me_i v8), (9, me_i v9), (10, me_i v10), (11, me_i v11), (12, me_i v12), (13, me_i v13), (14, me_i v14)]) rfl ?_
  refine me_aload_n C 1 (Or.inr (Or.inl ⟨_, rfl⟩)) dL_law_1171 rfl rfl ?_
  refine me_iload C dL_law_1172 rfl ?_
  obtain ⟨μ3, r2, h_r2, hf⟩ := me_bs2 hf
  refine me_callSH C hroom (n := 2) (As := [me_r 0 0, me_i v14]) (st := []) (nc + 2) (ns + 12) (c_L_answer hB h_r2) mh_L_answer iL ⟨by decide +kernel, by decide +kernel⟩ (by decide +kernel) si_L_answer ml_L_161 dL_law_1174 rfl rfl ⟨by decide, by decide⟩ ⟨by omega, by omega, by omega, by omega⟩ (Nat.le_of_ble_eq_true rfl) ?_
  refine me_istore C dL_law_1177 (by decide) (L' := [(15, me_i r2), (6, me_i x1), (1, me_r 0 0), (8, me_i v8), (9, me_i v9), (10, me_i v10), (11, me_i v11), (12, me_i v12), (13, me_i v13), (14, me_i v14)]) rfl ?_
  refine me_iload C dL_law_1179 rfl ?_
  refine me_iload C dL_law_1181 rfl ?_
  refine me_iload C dL_law_1183 rfl ?_
  refine me_iconst C (v := 1) dL_law_1185 (by decide) ?_
  refine me_iadd C dL_law_1186 ?_
  refine me_icmp_ne C (tgt := 1275) dL_law_1187 (by decide) (fun c4 => ?_) (fun c4 => ?_)
  · replace hf := me_in c4 hf
    refine me_iconst C (v := 0) dL_law_1275 (by decide) ?_
    refine me_dropI [(1, me_r 0 0), (14, me_i v14)] [2, 9] rfl ?_
    exact z_L_law_b1276 C hroom hB hz hR hNR (nc := (nc + 2)) (ns := (ns + 12)) ⟨by omega, by omega⟩ hf
  · replace hf := me_ip c4 hf
    refine me_aload_n C 1 (Or.inr (Or.inl ⟨_, rfl⟩)) dL_law_1190 rfl rfl ?_
    refine me_iload C dL_law_1191 rfl ?_
    obtain ⟨r5, h_r5, hf⟩ := me_bs hf
    rcases r5 with r5 | r5
    · replace hf := me_xme hf
      cases hf
    replace hf := me_xmo hf
    refine me_callVR C hroom (As := [me_i r2]) (st := [me_i x1]) (nc + 3) (ns + 18) (c_Y_kind hB h_r5) mv_Y_kind ml_L_131 rfl rfl dL_law_1193 rfl rfl ⟨by decide, by decide⟩ ⟨by omega, by omega, by omega, by omega⟩ (Nat.le_of_ble_eq_true rfl) ?_
    refine me_bipush C (v := 97) dL_law_1196 (by decide) ?_
    refine me_icmp_ne C (tgt := 1275) dL_law_1198 (by decide) (fun c6 => ?_) (fun c6 => ?_)
    · replace hf := me_in c6 hf
      refine me_iconst C (v := 0) dL_law_1275 (by decide) ?_
      refine me_dropI [(1, me_r 0 0), (14, me_i v14)] [2, 9] rfl ?_
      exact z_L_law_b1276 C hroom hB hz hR hNR (nc := (nc + 3)) (ns := (ns + 18)) ⟨by omega, by omega⟩ hf
    · replace hf := me_ip c6 hf
      refine me_aload_n C 1 (Or.inr (Or.inl ⟨_, rfl⟩)) dL_law_1201 rfl rfl ?_
      refine me_iload C dL_law_1202 rfl ?_
      obtain ⟨r7, h_r7, hf⟩ := me_bs hf
      rcases r7 with r7 | r7
      · replace hf := me_xme hf
        cases hf
      replace hf := me_xmo hf
      refine me_callVR C hroom (As := [me_i r2]) (st := [me_i x1]) (nc + 4) (ns + 24) (c_Y_word hB h_r7) mv_Y_word ml_L_134 rfl rfl dL_law_1204 rfl rfl ⟨by decide, by decide⟩ ⟨by omega, by omega, by omega, by omega⟩ (Nat.le_of_ble_eq_true rfl) ?_
      refine me_iload C dL_law_1207 rfl ?_
      refine me_icmp_ne C (tgt := 1275) dL_law_1209 (by decide) (fun c8 => ?_) (fun c8 => ?_)
      · replace hf := me_in c8 hf
        refine me_iconst C (v := 0) dL_law_1275 (by decide) ?_
        refine me_dropI [(1, me_r 0 0), (14, me_i v14)] [2, 9] rfl ?_
        exact z_L_law_b1276 C hroom hB hz hR hNR (nc := (nc + 4)) (ns := (ns + 24)) ⟨by omega, by omega⟩ hf
      · replace hf := me_ip c8 hf
        refine me_aload_n C 1 (Or.inr (Or.inl ⟨_, rfl⟩)) dL_law_1212 rfl rfl ?_
        refine me_iload C dL_law_1213 rfl ?_
        obtain ⟨μ10, r9, h_r9, hf⟩ := me_bs2 hf
        refine me_callSH C hroom (n := 2) (As := [me_r 0 0, me_i v14]) (st := [me_i x1]) (nc + 5) (ns + 30) (c_L_state hB h_r9) mh_L_state iL ⟨by decide +kernel, by decide +kernel⟩ (by decide +kernel) si_L_state ml_L_111 dL_law_1215 rfl rfl ⟨by decide, by decide⟩ ⟨by omega, by omega, by omega, by omega⟩ (Nat.le_of_ble_eq_true rfl) ?_
        refine me_bipush C (v := 100) dL_law_1218 (by decide) ?_
        refine me_icmp_ne C (tgt := 1275) dL_law_1220 (by decide) (fun c11 => ?_) (fun c11 => ?_)
        · replace hf := me_in c11 hf
          refine me_iconst C (v := 0) dL_law_1275 (by decide) ?_
          refine me_dropI [(1, me_r 0 0), (14, me_i v14)] [2, 9] rfl ?_
          exact z_L_law_b1276 C hroom hB hz hR hNR (nc := (nc + 5)) (ns := (ns + 30)) ⟨by omega, by omega⟩ hf
        · replace hf := me_ip c11 hf
          refine me_aload_n C 1 (Or.inr (Or.inl ⟨_, rfl⟩)) dL_law_1223 rfl rfl ?_
          refine me_iload C dL_law_1224 rfl ?_
          obtain ⟨μ13, r12, h_r12, hf⟩ := me_bs2 hf
          refine me_callSH C hroom (n := 2) (As := [me_r 0 0, me_i r2]) (st := [me_i x1]) (nc + 6) (ns + 36) (c_L_state hB h_r12) mh_L_state iL ⟨by decide +kernel, by decide +kernel⟩ (by decide +kernel) si_L_state ml_L_111 dL_law_1226 rfl rfl ⟨by decide, by decide⟩ ⟨by omega, by omega, by omega, by omega⟩ (Nat.le_of_ble_eq_true rfl) ?_
          refine me_bipush C (v := 100) dL_law_1229 (by decide) ?_
          refine me_icmp_ne C (tgt := 1275) dL_law_1231 (by decide) (fun c14 => ?_) (fun c14 => ?_)
          · replace hf := me_in c14 hf
            refine me_iconst C (v := 0) dL_law_1275 (by decide) ?_
            refine me_dropI [(1, me_r 0 0), (14, me_i v14)] [2, 9] rfl ?_
            exact z_L_law_b1276 C hroom hB hz hR hNR (nc := (nc + 6)) (ns := (ns + 36)) ⟨by omega, by omega⟩ hf
          · replace hf := me_ip c14 hf
            refine me_aload_n C 1 (Or.inr (Or.inl ⟨_, rfl⟩)) dL_law_1234 rfl rfl ?_
            refine me_iload C dL_law_1235 rfl ?_
            refine me_iload C dL_law_1237 rfl ?_
            obtain ⟨μ16, r15, h_r15, hf⟩ := me_bs2 hf
            refine me_callSH C hroom (n := 3) (As := [me_r 0 0, me_i v9, me_i v10]) (st := [me_i x1]) (nc + 8) (ns + 48) (c_L_memory hB h_r15) mh_L_memory iL ⟨by decide +kernel, by decide +kernel⟩ (by decide +kernel) si_L_memory ml_L_163 dL_law_1239 rfl rfl ⟨by decide, by decide⟩ ⟨by omega, by omega, by omega, by omega⟩ (Nat.le_of_ble_eq_true rfl) ?_
            refine me_iload C dL_law_1242 rfl ?_
            refine me_if_eq C (tgt := 1255) dL_law_1244 (by decide) (fun c17 => ?_) (fun c17 => ?_)
            · replace hf := me_ip c17 hf
              refine me_iload C dL_law_1255 rfl ?_
              refine me_dropI [(1, me_r 0 0), (8, me_i v8), (9, me_i v9), (14, me_i v14)] [2, 3, 4, 9] rfl ?_
              exact z_L_law_b1257 C hroom hB hz hR hNR (nc := (nc + 8)) (ns := (ns + 48)) ⟨by omega, by omega⟩ hf
            · replace hf := me_in c17 hf
              refine me_iload C dL_law_1247 rfl ?_
              refine me_iload C dL_law_1249 rfl ?_
              refine me_iadd C dL_law_1251 ?_
              refine me_goto C (tgt := 1257) dL_law_1252 (by decide) ?_
              refine me_dropI [(1, me_r 0 0), (8, me_i v8), (9, me_i v9), (14, me_i v14)] [2, 3, 4, 9] rfl ?_
              exact z_L_law_b1257 C hroom hB hz hR hNR (nc := (nc + 8)) (ns := (ns + 48)) ⟨by omega, by omega⟩ hf
