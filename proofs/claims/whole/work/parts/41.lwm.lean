/-! WALKS of the law's own methods (printed by gen/lawgen.py) -/
def me_xm {α β : Type} (r : Except Nat α) (f : α → Option β) (g : Nat → Option β) : Option β := match r with
  | .ok a => f a
  | .error k => g k
theorem me_xme {α β : Type} {k : Nat} {f : α → Option β} {g : Nat → Option β} {o : β} (h : me_xm (.error k) f g = some o) : g k = some o := h
theorem me_xmo {α β : Type} {a : α} {f : α → Option β} {g : Nat → Option β} {o : β} (h : me_xm (.ok a) f g = some o) : f a = some o := h
theorem ml_L_7 : Cond.methodLink RL 7 yX11_send ∈ me_gw := (me_gm 727 (by decide +kernel) (by decide +kernel))
theorem mv_Y_send : me_MV yX11_send cX11_send 5 (some .int) 4 := ⟨(me_gm 730 (by decide +kernel) (by decide +kernel)), (me_gm 76 (by decide +kernel) (by decide +kernel)), ⟨by decide +kernel, by decide +kernel⟩, by decide +kernel, (me_gm 728 (by decide +kernel) (by decide +kernel)), (me_gm 729 (by decide +kernel) (by decide +kernel))⟩
theorem cl_L_13 : Cond.classLink RL 13 (me_ex 1) ∈ me_gw := (me_gm 724 (by decide +kernel) (by decide +kernel))
theorem ca_1 : Cond.castable (me_ex 1) (me_ex 1) ∈ me_bw := me_bm 742 (by decide +kernel) (by decide +kernel)
theorem cl_L_15 : Cond.classLink RL 15 (me_ex 2) ∈ me_gw := (me_gm 725 (by decide +kernel) (by decide +kernel))
theorem ca_2 : Cond.castable (me_ex 2) (me_ex 2) ∈ me_bw := me_bm 816 (by decide +kernel) (by decide +kernel)
theorem cl_L_17 : Cond.classLink RL 17 (me_ex 3) ∈ me_gw := (me_gm 726 (by decide +kernel) (by decide +kernel))
theorem ca_3 : Cond.castable (me_ex 3) (me_ex 3) ∈ me_bw := me_bm 840 (by decide +kernel) (by decide +kernel)
theorem ml_L_19 : Cond.methodLink RL 19 yX11_multicast ∈ me_gw := (me_gm 861 (by decide +kernel) (by decide +kernel))
theorem mv_Y_multicast : me_MV yX11_multicast cX11_multicast 6 (some .int) 3 := ⟨(me_gm 864 (by decide +kernel) (by decide +kernel)), (me_gm 76 (by decide +kernel) (by decide +kernel)), ⟨by decide +kernel, by decide +kernel⟩, by decide +kernel, (me_gm 862 (by decide +kernel) (by decide +kernel)), (me_gm 863 (by decide +kernel) (by decide +kernel))⟩
theorem ml_L_23 : Cond.methodLink RL 23 yX11_ask ∈ me_gw := (me_gm 870 (by decide +kernel) (by decide +kernel))
theorem mv_Y_ask : me_MV yX11_ask cX11_ask 8 (some .int) 5 := ⟨(me_gm 873 (by decide +kernel) (by decide +kernel)), (me_gm 76 (by decide +kernel) (by decide +kernel)), ⟨by decide +kernel, by decide +kernel⟩, by decide +kernel, (me_gm 871 (by decide +kernel) (by decide +kernel)), (me_gm 872 (by decide +kernel) (by decide +kernel))⟩
theorem ml_L_27 : Cond.methodLink RL 27 yX11_answer ∈ me_gw := (me_gm 882 (by decide +kernel) (by decide +kernel))
theorem mv_Y_answer : me_MV yX11_answer cX11_answer 3 (some .int) 1 := ⟨(me_gm 885 (by decide +kernel) (by decide +kernel)), (me_gm 76 (by decide +kernel) (by decide +kernel)), ⟨by decide +kernel, by decide +kernel⟩, by decide +kernel, (me_gm 883 (by decide +kernel) (by decide +kernel)), (me_gm 884 (by decide +kernel) (by decide +kernel))⟩
theorem cl_L_31 : Cond.classLink RL 31 (me_ex 5) ∈ me_gw := (me_gm 881 (by decide +kernel) (by decide +kernel))
theorem ca_5 : Cond.castable (me_ex 5) (me_ex 5) ∈ me_bw := me_bm 894 (by decide +kernel) (by decide +kernel)
theorem ml_L_33 : Cond.methodLink RL 33 yX11_kind ∈ me_gw := (me_gm 911 (by decide +kernel) (by decide +kernel))
theorem mv_Y_kind : me_MV yX11_kind cX11_kind 2 (some .char) 1 := ⟨(me_gm 914 (by decide +kernel) (by decide +kernel)), (me_gm 76 (by decide +kernel) (by decide +kernel)), ⟨by decide +kernel, by decide +kernel⟩, by decide +kernel, (me_gm 912 (by decide +kernel) (by decide +kernel)), (me_gm 913 (by decide +kernel) (by decide +kernel))⟩
theorem ml_L_37 : Cond.methodLink RL 37 yX11_state ∈ me_gw := (me_gm 918 (by decide +kernel) (by decide +kernel))
theorem mv_Y_state : me_MV yX11_state cX11_state 2 (some .char) 1 := ⟨(me_gm 921 (by decide +kernel) (by decide +kernel)), (me_gm 76 (by decide +kernel) (by decide +kernel)), ⟨by decide +kernel, by decide +kernel⟩, by decide +kernel, (me_gm 919 (by decide +kernel) (by decide +kernel)), (me_gm 920 (by decide +kernel) (by decide +kernel))⟩
theorem ml_L_40 : Cond.methodLink RL 40 yX11_word ∈ me_gw := (me_gm 925 (by decide +kernel) (by decide +kernel))
theorem mv_Y_word : me_MV yX11_word cX11_word 2 (some .int) 1 := ⟨(me_gm 928 (by decide +kernel) (by decide +kernel)), (me_gm 76 (by decide +kernel) (by decide +kernel)), ⟨by decide +kernel, by decide +kernel⟩, by decide +kernel, (me_gm 926 (by decide +kernel) (by decide +kernel)), (me_gm 927 (by decide +kernel) (by decide +kernel))⟩
theorem ml_L_43 : Cond.methodLink RL 43 yX11_head ∈ me_gw := (me_gm 932 (by decide +kernel) (by decide +kernel))
theorem mv_Y_head : me_MV yX11_head cX11_head 3 (some .int) 1 := ⟨(me_gm 935 (by decide +kernel) (by decide +kernel)), (me_gm 76 (by decide +kernel) (by decide +kernel)), ⟨by decide +kernel, by decide +kernel⟩, by decide +kernel, (me_gm 933 (by decide +kernel) (by decide +kernel)), (me_gm 934 (by decide +kernel) (by decide +kernel))⟩
theorem ml_L_46 : Cond.methodLink RL 46 yX11_pieces ∈ me_gw := (me_gm 940 (by decide +kernel) (by decide +kernel))
theorem mv_Y_pieces : me_MV yX11_pieces cX11_pieces 2 (some .int) 1 := ⟨(me_gm 943 (by decide +kernel) (by decide +kernel)), (me_gm 76 (by decide +kernel) (by decide +kernel)), ⟨by decide +kernel, by decide +kernel⟩, by decide +kernel, (me_gm 941 (by decide +kernel) (by decide +kernel)), (me_gm 942 (by decide +kernel) (by decide +kernel))⟩
theorem ml_L_49 : Cond.methodLink RL 49 yX11_time ∈ me_gw := (me_gm 951 (by decide +kernel) (by decide +kernel))
theorem mv_Y_time : me_MV yX11_time cX11_time 3 (some .int) 1 := ⟨(me_gm 954 (by decide +kernel) (by decide +kernel)), (me_gm 76 (by decide +kernel) (by decide +kernel)), ⟨by decide +kernel, by decide +kernel⟩, by decide +kernel, (me_gm 952 (by decide +kernel) (by decide +kernel)), (me_gm 953 (by decide +kernel) (by decide +kernel))⟩
theorem ml_L_52 : Cond.methodLink RL 52 yX11_lying ∈ me_gw := (me_gm 967 (by decide +kernel) (by decide +kernel))
theorem mv_Y_lying : me_MV yX11_lying cX11_lying 3 (some .int) 2 := ⟨(me_gm 970 (by decide +kernel) (by decide +kernel)), (me_gm 76 (by decide +kernel) (by decide +kernel)), ⟨by decide +kernel, by decide +kernel⟩, by decide +kernel, (me_gm 968 (by decide +kernel) (by decide +kernel)), (me_gm 969 (by decide +kernel) (by decide +kernel))⟩
theorem ml_L_56 : Cond.methodLink RL 56 yX11_receive ∈ me_gw := (me_gm 982 (by decide +kernel) (by decide +kernel))
theorem mv_Y_receive : me_MV yX11_receive cX11_receive 4 (some .int) 2 := ⟨(me_gm 985 (by decide +kernel) (by decide +kernel)), (me_gm 76 (by decide +kernel) (by decide +kernel)), ⟨by decide +kernel, by decide +kernel⟩, by decide +kernel, (me_gm 983 (by decide +kernel) (by decide +kernel)), (me_gm 984 (by decide +kernel) (by decide +kernel))⟩
theorem ml_L_59 : Cond.methodLink RL 59 yX11_net ∈ me_gw := (me_gm 994 (by decide +kernel) (by decide +kernel))
theorem mv_Y_net : me_MV yX11_net cX11_net 3 (some .int) 2 := ⟨(me_gm 997 (by decide +kernel) (by decide +kernel)), (me_gm 76 (by decide +kernel) (by decide +kernel)), ⟨by decide +kernel, by decide +kernel⟩, by decide +kernel, (me_gm 995 (by decide +kernel) (by decide +kernel)), (me_gm 996 (by decide +kernel) (by decide +kernel))⟩
theorem ml_L_62 : Cond.methodLink RL 62 yX11_beats ∈ me_gw := (me_gm 1001 (by decide +kernel) (by decide +kernel))
theorem mv_Y_beats : me_MV yX11_beats cX11_beats 3 (some .boolean) 1 := ⟨(me_gm 1004 (by decide +kernel) (by decide +kernel)), (me_gm 76 (by decide +kernel) (by decide +kernel)), ⟨by decide +kernel, by decide +kernel⟩, by decide +kernel, (me_gm 1002 (by decide +kernel) (by decide +kernel)), (me_gm 1003 (by decide +kernel) (by decide +kernel))⟩
theorem ml_L_66 : Cond.methodLink RL 66 yX11_way ∈ me_gw := (me_gm 1160 (by decide +kernel) (by decide +kernel))
theorem mv_Y_way : me_MV yX11_way cX11_way 3 (some .char) 1 := ⟨(me_gm 1163 (by decide +kernel) (by decide +kernel)), (me_gm 76 (by decide +kernel) (by decide +kernel)), ⟨by decide +kernel, by decide +kernel⟩, by decide +kernel, (me_gm 1161 (by decide +kernel) (by decide +kernel)), (me_gm 1162 (by decide +kernel) (by decide +kernel))⟩
theorem ml_L_70 : Cond.methodLink RL 70 yX11_places ∈ me_gw := (me_gm 1253 (by decide +kernel) (by decide +kernel))
theorem mv_Y_places : me_MV yX11_places cX11_places 3 (some .int) 1 := ⟨(me_gm 1256 (by decide +kernel) (by decide +kernel)), (me_gm 76 (by decide +kernel) (by decide +kernel)), ⟨by decide +kernel, by decide +kernel⟩, by decide +kernel, (me_gm 1254 (by decide +kernel) (by decide +kernel)), (me_gm 1255 (by decide +kernel) (by decide +kernel))⟩
theorem ml_L_73 : Cond.methodLink RL 73 yX11_row ∈ me_gw := (me_gm 1260 (by decide +kernel) (by decide +kernel))
theorem mv_Y_row : me_MV yX11_row cX11_row 4 (some .int) 3 := ⟨(me_gm 1263 (by decide +kernel) (by decide +kernel)), (me_gm 76 (by decide +kernel) (by decide +kernel)), ⟨by decide +kernel, by decide +kernel⟩, by decide +kernel, (me_gm 1261 (by decide +kernel) (by decide +kernel)), (me_gm 1262 (by decide +kernel) (by decide +kernel))⟩
theorem ml_L_77 : Cond.methodLink RL 77 yX11_owner ∈ me_gw := (me_gm 1273 (by decide +kernel) (by decide +kernel))
theorem mv_Y_owner : me_MV yX11_owner cX11_owner 4 (some .int) 3 := ⟨(me_gm 1276 (by decide +kernel) (by decide +kernel)), (me_gm 76 (by decide +kernel) (by decide +kernel)), ⟨by decide +kernel, by decide +kernel⟩, by decide +kernel, (me_gm 1274 (by decide +kernel) (by decide +kernel)), (me_gm 1275 (by decide +kernel) (by decide +kernel))⟩
theorem ml_L_80 : Cond.methodLink RL 80 yX11_fail ∈ me_gw := (me_gm 1281 (by decide +kernel) (by decide +kernel))
theorem mv_Y_fail : me_MV yX11_fail cX11_fail 6 (some .boolean) 3 := ⟨(me_gm 1284 (by decide +kernel) (by decide +kernel)), (me_gm 76 (by decide +kernel) (by decide +kernel)), ⟨by decide +kernel, by decide +kernel⟩, by decide +kernel, (me_gm 1282 (by decide +kernel) (by decide +kernel)), (me_gm 1283 (by decide +kernel) (by decide +kernel))⟩
theorem cl_L_84 : Cond.classLink RL 84 (me_ex 4) ∈ me_gw := (me_gm 1280 (by decide +kernel) (by decide +kernel))
theorem ca_4 : Cond.castable (me_ex 4) (me_ex 4) ∈ me_bw := me_bm 1288 (by decide +kernel) (by decide +kernel)
theorem ml_L_86 : Cond.methodLink RL 86 yX11_sleep ∈ me_gw := (me_gm 1311 (by decide +kernel) (by decide +kernel))
theorem mv_Y_sleep : me_MV yX11_sleep cX11_sleep 4 (some .boolean) 1 := ⟨(me_gm 1314 (by decide +kernel) (by decide +kernel)), (me_gm 76 (by decide +kernel) (by decide +kernel)), ⟨by decide +kernel, by decide +kernel⟩, by decide +kernel, (me_gm 1312 (by decide +kernel) (by decide +kernel)), (me_gm 1313 (by decide +kernel) (by decide +kernel))⟩
theorem ml_L_89 : Cond.methodLink RL 89 yX11_isAwake ∈ me_gw := (me_gm 1328 (by decide +kernel) (by decide +kernel))
theorem mv_Y_isAwake : me_MV yX11_isAwake cX11_isAwake 2 (some .boolean) 1 := ⟨(me_gm 1331 (by decide +kernel) (by decide +kernel)), (me_gm 76 (by decide +kernel) (by decide +kernel)), ⟨by decide +kernel, by decide +kernel⟩, by decide +kernel, (me_gm 1329 (by decide +kernel) (by decide +kernel)), (me_gm 1330 (by decide +kernel) (by decide +kernel))⟩
theorem ml_L_92 : Cond.methodLink RL 92 yX11_direction ∈ me_gw := (me_gm 1335 (by decide +kernel) (by decide +kernel))
theorem mv_Y_direction : me_MV yX11_direction cX11_direction 4 (some .char) 2 := ⟨(me_gm 1338 (by decide +kernel) (by decide +kernel)), (me_gm 76 (by decide +kernel) (by decide +kernel)), ⟨by decide +kernel, by decide +kernel⟩, by decide +kernel, (me_gm 1336 (by decide +kernel) (by decide +kernel)), (me_gm 1337 (by decide +kernel) (by decide +kernel))⟩
theorem ml_L_96 : Cond.methodLink RL 96 yX11_program ∈ me_gw := (me_gm 1363 (by decide +kernel) (by decide +kernel))
theorem mv_Y_program : me_MV yX11_program cX11_program 5 (some .int) 3 := ⟨(me_gm 1366 (by decide +kernel) (by decide +kernel)), (me_gm 76 (by decide +kernel) (by decide +kernel)), ⟨by decide +kernel, by decide +kernel⟩, by decide +kernel, (me_gm 1364 (by decide +kernel) (by decide +kernel)), (me_gm 1365 (by decide +kernel) (by decide +kernel))⟩
theorem ml_L_99 : Cond.methodLink RL 99 yX11_clear ∈ me_gw := (me_gm 1381 (by decide +kernel) (by decide +kernel))
theorem mv_Y_clear : me_MV yX11_clear cX11_clear 3 (some .int) 1 := ⟨(me_gm 1384 (by decide +kernel) (by decide +kernel)), (me_gm 76 (by decide +kernel) (by decide +kernel)), ⟨by decide +kernel, by decide +kernel⟩, by decide +kernel, (me_gm 1382 (by decide +kernel) (by decide +kernel)), (me_gm 1383 (by decide +kernel) (by decide +kernel))⟩
theorem ml_L_102 : Cond.methodLink RL 102 yX11_start ∈ me_gw := (me_gm 1393 (by decide +kernel) (by decide +kernel))
theorem mv_Y_start : me_MV yX11_start cX11_start 2 (some .int) 1 := ⟨(me_gm 1396 (by decide +kernel) (by decide +kernel)), (me_gm 76 (by decide +kernel) (by decide +kernel)), ⟨by decide +kernel, by decide +kernel⟩, by decide +kernel, (me_gm 1394 (by decide +kernel) (by decide +kernel)), (me_gm 1395 (by decide +kernel) (by decide +kernel))⟩
theorem ml_L_105 : Cond.methodLink RL 105 yX11_core ∈ me_gw := (me_gm 1410 (by decide +kernel) (by decide +kernel))
theorem mv_Y_core : me_MV yX11_core cX11_core 2 (some .char) 1 := ⟨(me_gm 1413 (by decide +kernel) (by decide +kernel)), (me_gm 76 (by decide +kernel) (by decide +kernel)), ⟨by decide +kernel, by decide +kernel⟩, by decide +kernel, (me_gm 1411 (by decide +kernel) (by decide +kernel)), (me_gm 1412 (by decide +kernel) (by decide +kernel))⟩
theorem ml_L_108 : Cond.methodLink RL 108 yX11_fault ∈ me_gw := (me_gm 1417 (by decide +kernel) (by decide +kernel))
theorem mv_Y_fault : me_MV yX11_fault cX11_fault 2 (some .char) 1 := ⟨(me_gm 1420 (by decide +kernel) (by decide +kernel)), (me_gm 76 (by decide +kernel) (by decide +kernel)), ⟨by decide +kernel, by decide +kernel⟩, by decide +kernel, (me_gm 1418 (by decide +kernel) (by decide +kernel)), (me_gm 1419 (by decide +kernel) (by decide +kernel))⟩
theorem ml_L_111 : Cond.methodLink RL 111 yX11_memory ∈ me_gw := (me_gm 1425 (by decide +kernel) (by decide +kernel))
theorem mv_Y_memory : me_MV yX11_memory cX11_memory 3 (some .int) 2 := ⟨(me_gm 1428 (by decide +kernel) (by decide +kernel)), (me_gm 76 (by decide +kernel) (by decide +kernel)), ⟨by decide +kernel, by decide +kernel⟩, by decide +kernel, (me_gm 1426 (by decide +kernel) (by decide +kernel)), (me_gm 1427 (by decide +kernel) (by decide +kernel))⟩
theorem ml_L_114 : Cond.methodLink RL 114 yX11_set ∈ me_gw := (me_gm 1432 (by decide +kernel) (by decide +kernel))
theorem mv_Y_set : me_MV yX11_set cX11_set 5 (some .int) 3 := ⟨(me_gm 1435 (by decide +kernel) (by decide +kernel)), (me_gm 76 (by decide +kernel) (by decide +kernel)), ⟨by decide +kernel, by decide +kernel⟩, by decide +kernel, (me_gm 1433 (by decide +kernel) (by decide +kernel)), (me_gm 1434 (by decide +kernel) (by decide +kernel))⟩
theorem ml_L_117 : Cond.methodLink RL 117 yX11_top ∈ me_gw := (me_gm 1439 (by decide +kernel) (by decide +kernel))
theorem mv_Y_top : me_MV yX11_top cX11_top 3 (some .int) 1 := ⟨(me_gm 1442 (by decide +kernel) (by decide +kernel)), (me_gm 76 (by decide +kernel) (by decide +kernel)), ⟨by decide +kernel, by decide +kernel⟩, by decide +kernel, (me_gm 1440 (by decide +kernel) (by decide +kernel)), (me_gm 1441 (by decide +kernel) (by decide +kernel))⟩
theorem ml_L_120 : Cond.methodLink RL 120 yX11_at ∈ me_gw := (me_gm 1447 (by decide +kernel) (by decide +kernel))
theorem mv_Y_at : me_MV yX11_at cX11_at 2 (some .int) 1 := ⟨(me_gm 1450 (by decide +kernel) (by decide +kernel)), (me_gm 76 (by decide +kernel) (by decide +kernel)), ⟨by decide +kernel, by decide +kernel⟩, by decide +kernel, (me_gm 1448 (by decide +kernel) (by decide +kernel)), (me_gm 1449 (by decide +kernel) (by decide +kernel))⟩
theorem ml_L_123 : Cond.methodLink RL 123 yX11_task ∈ me_gw := (me_gm 1455 (by decide +kernel) (by decide +kernel))
theorem mv_Y_task : me_MV yX11_task cX11_task 2 (some .int) 1 := ⟨(me_gm 1458 (by decide +kernel) (by decide +kernel)), (me_gm 76 (by decide +kernel) (by decide +kernel)), ⟨by decide +kernel, by decide +kernel⟩, by decide +kernel, (me_gm 1456 (by decide +kernel) (by decide +kernel)), (me_gm 1457 (by decide +kernel) (by decide +kernel))⟩
theorem ml_L_126 : Cond.methodLink RL 126 yX11_traffic ∈ me_gw := (me_gm 1467 (by decide +kernel) (by decide +kernel))
theorem mv_Y_traffic : me_MV yX11_traffic cX11_traffic 4 (some .int) 3 := ⟨(me_gm 1470 (by decide +kernel) (by decide +kernel)), (me_gm 76 (by decide +kernel) (by decide +kernel)), ⟨by decide +kernel, by decide +kernel⟩, by decide +kernel, (me_gm 1468 (by decide +kernel) (by decide +kernel)), (me_gm 1469 (by decide +kernel) (by decide +kernel))⟩
theorem ml_L_129 : Cond.methodLink RL 129 yX11_swap ∈ me_gw := (me_gm 1484 (by decide +kernel) (by decide +kernel))
theorem mv_Y_swap : me_MV yX11_swap cX11_swap 2 (some .int) 0 := ⟨(me_gm 1487 (by decide +kernel) (by decide +kernel)), (me_gm 76 (by decide +kernel) (by decide +kernel)), ⟨by decide +kernel, by decide +kernel⟩, by decide +kernel, (me_gm 1485 (by decide +kernel) (by decide +kernel)), (me_gm 1486 (by decide +kernel) (by decide +kernel))⟩
theorem ml_L_133 : Cond.methodLink RL 133 yX11_nodeOf ∈ me_gw := (me_gm 1501 (by decide +kernel) (by decide +kernel))
theorem mv_Y_nodeOf : me_MV yX11_nodeOf cX11_nodeOf 2 (some .int) 1 := ⟨(me_gm 1504 (by decide +kernel) (by decide +kernel)), (me_gm 76 (by decide +kernel) (by decide +kernel)), ⟨by decide +kernel, by decide +kernel⟩, by decide +kernel, (me_gm 1502 (by decide +kernel) (by decide +kernel)), (me_gm 1503 (by decide +kernel) (by decide +kernel))⟩
theorem ml_L_136 : Cond.methodLink RL 136 yX11_lostShare ∈ me_gw := (me_gm 1508 (by decide +kernel) (by decide +kernel))
theorem mv_Y_lostShare : me_MV yX11_lostShare cX11_lostShare 1 (some .float) 0 := ⟨(me_gm 1511 (by decide +kernel) (by decide +kernel)), (me_gm 76 (by decide +kernel) (by decide +kernel)), ⟨by decide +kernel, by decide +kernel⟩, by decide +kernel, (me_gm 1509 (by decide +kernel) (by decide +kernel)), (me_gm 1510 (by decide +kernel) (by decide +kernel))⟩
theorem ml_L_140 : Cond.methodLink RL 140 yX11_meanTime ∈ me_gw := (me_gm 1520 (by decide +kernel) (by decide +kernel))
theorem mv_Y_meanTime : me_MV yX11_meanTime cX11_meanTime 2 (some .double) 0 := ⟨(me_gm 1523 (by decide +kernel) (by decide +kernel)), (me_gm 76 (by decide +kernel) (by decide +kernel)), ⟨by decide +kernel, by decide +kernel⟩, by decide +kernel, (me_gm 1521 (by decide +kernel) (by decide +kernel)), (me_gm 1522 (by decide +kernel) (by decide +kernel))⟩
theorem dL_send_0 : decode cL_send 0 = .ok (.aload 5, 2) := by decide +kernel
theorem dL_send_2 : decode cL_send 2 = .ok (.iconst 0, 1) := by decide +kernel
theorem dL_send_3 : decode cL_send 3 = .ok (.aload_n 0, 1) := by decide +kernel
theorem dL_send_4 : decode cL_send 4 = .ok (.iload_n 1, 1) := by decide +kernel
theorem dL_send_5 : decode cL_send 5 = .ok (.iload_n 2, 1) := by decide +kernel
theorem dL_send_6 : decode cL_send 6 = .ok (.iload_n 3, 1) := by decide +kernel
theorem dL_send_7 : decode cL_send 7 = .ok (.iload 4, 2) := by decide +kernel
theorem dL_send_9 : decode cL_send 9 = .ok (.invokevirtual 7, 3) := by decide +kernel
theorem dL_send_12 : decode cL_send 12 = .ok (.i2l, 1) := by decide +kernel
theorem dL_send_13 : decode cL_send 13 = .ok (.lastore, 1) := by decide +kernel
theorem dL_send_14 : decode cL_send 14 = .ok (.goto 15, 3) := by decide +kernel
theorem dL_send_17 : decode cL_send 17 = .ok (.astore 6, 2) := by decide +kernel
theorem dL_send_19 : decode cL_send 19 = .ok (.iconst 1, 1) := by decide +kernel
theorem dL_send_20 : decode cL_send 20 = .ok (.ireturn, 1) := by decide +kernel
theorem dL_send_21 : decode cL_send 21 = .ok (.astore 6, 2) := by decide +kernel
theorem dL_send_23 : decode cL_send 23 = .ok (.iconst 2, 1) := by decide +kernel
theorem dL_send_24 : decode cL_send 24 = .ok (.ireturn, 1) := by decide +kernel
theorem dL_send_25 : decode cL_send 25 = .ok (.astore 6, 2) := by decide +kernel
theorem dL_send_27 : decode cL_send 27 = .ok (.iconst 3, 1) := by decide +kernel
theorem dL_send_28 : decode cL_send 28 = .ok (.ireturn, 1) := by decide +kernel
theorem dL_send_29 : decode cL_send 29 = .ok (.iconst 0, 1) := by decide +kernel
theorem dL_send_30 : decode cL_send 30 = .ok (.ireturn, 1) := by decide +kernel
theorem dL_multicast_0 : decode cL_multicast 0 = .ok (.aload 4, 2) := by decide +kernel
theorem dL_multicast_2 : decode cL_multicast 2 = .ok (.iconst 0, 1) := by decide +kernel
theorem dL_multicast_3 : decode cL_multicast 3 = .ok (.aload_n 0, 1) := by decide +kernel
theorem dL_multicast_4 : decode cL_multicast 4 = .ok (.iload_n 1, 1) := by decide +kernel
theorem dL_multicast_5 : decode cL_multicast 5 = .ok (.iload_n 2, 1) := by decide +kernel
theorem dL_multicast_6 : decode cL_multicast 6 = .ok (.iload_n 3, 1) := by decide +kernel
theorem dL_multicast_7 : decode cL_multicast 7 = .ok (.invokevirtual 19, 3) := by decide +kernel
theorem dL_multicast_10 : decode cL_multicast 10 = .ok (.i2l, 1) := by decide +kernel
theorem dL_multicast_11 : decode cL_multicast 11 = .ok (.lastore, 1) := by decide +kernel
theorem dL_multicast_12 : decode cL_multicast 12 = .ok (.goto 15, 3) := by decide +kernel
theorem dL_multicast_15 : decode cL_multicast 15 = .ok (.astore 5, 2) := by decide +kernel
theorem dL_multicast_17 : decode cL_multicast 17 = .ok (.iconst 1, 1) := by decide +kernel
theorem dL_multicast_18 : decode cL_multicast 18 = .ok (.ireturn, 1) := by decide +kernel
theorem dL_multicast_19 : decode cL_multicast 19 = .ok (.astore 5, 2) := by decide +kernel
theorem dL_multicast_21 : decode cL_multicast 21 = .ok (.iconst 2, 1) := by decide +kernel
theorem dL_multicast_22 : decode cL_multicast 22 = .ok (.ireturn, 1) := by decide +kernel
theorem dL_multicast_23 : decode cL_multicast 23 = .ok (.astore 5, 2) := by decide +kernel
theorem dL_multicast_25 : decode cL_multicast 25 = .ok (.iconst 3, 1) := by decide +kernel
theorem dL_multicast_26 : decode cL_multicast 26 = .ok (.ireturn, 1) := by decide +kernel
theorem dL_multicast_27 : decode cL_multicast 27 = .ok (.iconst 0, 1) := by decide +kernel
theorem dL_multicast_28 : decode cL_multicast 28 = .ok (.ireturn, 1) := by decide +kernel
theorem dL_ask_0 : decode cL_ask 0 = .ok (.aload 6, 2) := by decide +kernel
theorem dL_ask_2 : decode cL_ask 2 = .ok (.iconst 0, 1) := by decide +kernel
theorem dL_ask_3 : decode cL_ask 3 = .ok (.aload_n 0, 1) := by decide +kernel
theorem dL_ask_4 : decode cL_ask 4 = .ok (.iload_n 1, 1) := by decide +kernel
theorem dL_ask_5 : decode cL_ask 5 = .ok (.iload_n 2, 1) := by decide +kernel
theorem dL_ask_6 : decode cL_ask 6 = .ok (.iload_n 3, 1) := by decide +kernel
theorem dL_ask_7 : decode cL_ask 7 = .ok (.iload 4, 2) := by decide +kernel
theorem dL_ask_9 : decode cL_ask 9 = .ok (.iload 5, 2) := by decide +kernel
theorem dL_ask_11 : decode cL_ask 11 = .ok (.invokevirtual 23, 3) := by decide +kernel
theorem dL_ask_14 : decode cL_ask 14 = .ok (.i2l, 1) := by decide +kernel
theorem dL_ask_15 : decode cL_ask 15 = .ok (.lastore, 1) := by decide +kernel
theorem dL_ask_16 : decode cL_ask 16 = .ok (.goto 15, 3) := by decide +kernel
theorem dL_ask_19 : decode cL_ask 19 = .ok (.astore 7, 2) := by decide +kernel
theorem dL_ask_21 : decode cL_ask 21 = .ok (.iconst 1, 1) := by decide +kernel
theorem dL_ask_22 : decode cL_ask 22 = .ok (.ireturn, 1) := by decide +kernel
theorem dL_ask_23 : decode cL_ask 23 = .ok (.astore 7, 2) := by decide +kernel
theorem dL_ask_25 : decode cL_ask 25 = .ok (.iconst 2, 1) := by decide +kernel
theorem dL_ask_26 : decode cL_ask 26 = .ok (.ireturn, 1) := by decide +kernel
theorem dL_ask_27 : decode cL_ask 27 = .ok (.astore 7, 2) := by decide +kernel
theorem dL_ask_29 : decode cL_ask 29 = .ok (.iconst 3, 1) := by decide +kernel
theorem dL_ask_30 : decode cL_ask 30 = .ok (.ireturn, 1) := by decide +kernel
theorem dL_ask_31 : decode cL_ask 31 = .ok (.iconst 0, 1) := by decide +kernel
theorem dL_ask_32 : decode cL_ask 32 = .ok (.ireturn, 1) := by decide +kernel
theorem dL_answer_0 : decode cL_answer 0 = .ok (.aload_n 2, 1) := by decide +kernel
theorem dL_answer_1 : decode cL_answer 1 = .ok (.iconst 0, 1) := by decide +kernel
theorem dL_answer_2 : decode cL_answer 2 = .ok (.aload_n 0, 1) := by decide +kernel
theorem dL_answer_3 : decode cL_answer 3 = .ok (.iload_n 1, 1) := by decide +kernel
theorem dL_answer_4 : decode cL_answer 4 = .ok (.invokevirtual 27, 3) := by decide +kernel
theorem dL_answer_7 : decode cL_answer 7 = .ok (.i2l, 1) := by decide +kernel
theorem dL_answer_8 : decode cL_answer 8 = .ok (.lastore, 1) := by decide +kernel
theorem dL_answer_9 : decode cL_answer 9 = .ok (.goto 12, 3) := by decide +kernel
theorem dL_answer_12 : decode cL_answer 12 = .ok (.astore_n 3, 1) := by decide +kernel
theorem dL_answer_13 : decode cL_answer 13 = .ok (.iconst 1, 1) := by decide +kernel
theorem dL_answer_14 : decode cL_answer 14 = .ok (.ireturn, 1) := by decide +kernel
theorem dL_answer_15 : decode cL_answer 15 = .ok (.astore_n 3, 1) := by decide +kernel
theorem dL_answer_16 : decode cL_answer 16 = .ok (.iconst 2, 1) := by decide +kernel
theorem dL_answer_17 : decode cL_answer 17 = .ok (.ireturn, 1) := by decide +kernel
theorem dL_answer_18 : decode cL_answer 18 = .ok (.astore_n 3, 1) := by decide +kernel
theorem dL_answer_19 : decode cL_answer 19 = .ok (.iconst 3, 1) := by decide +kernel
theorem dL_answer_20 : decode cL_answer 20 = .ok (.ireturn, 1) := by decide +kernel
theorem dL_answer_21 : decode cL_answer 21 = .ok (.iconst 0, 1) := by decide +kernel
theorem dL_answer_22 : decode cL_answer 22 = .ok (.ireturn, 1) := by decide +kernel
theorem dL_kind_0 : decode cL_kind 0 = .ok (.aload_n 2, 1) := by decide +kernel
theorem dL_kind_1 : decode cL_kind 1 = .ok (.iconst 0, 1) := by decide +kernel
theorem dL_kind_2 : decode cL_kind 2 = .ok (.aload_n 0, 1) := by decide +kernel
theorem dL_kind_3 : decode cL_kind 3 = .ok (.iload_n 1, 1) := by decide +kernel
theorem dL_kind_4 : decode cL_kind 4 = .ok (.invokevirtual 33, 3) := by decide +kernel
theorem dL_kind_7 : decode cL_kind 7 = .ok (.i2l, 1) := by decide +kernel
theorem dL_kind_8 : decode cL_kind 8 = .ok (.lastore, 1) := by decide +kernel
theorem dL_kind_9 : decode cL_kind 9 = .ok (.goto 6, 3) := by decide +kernel
theorem dL_kind_12 : decode cL_kind 12 = .ok (.astore_n 3, 1) := by decide +kernel
theorem dL_kind_13 : decode cL_kind 13 = .ok (.iconst 1, 1) := by decide +kernel
theorem dL_kind_14 : decode cL_kind 14 = .ok (.ireturn, 1) := by decide +kernel
theorem dL_kind_15 : decode cL_kind 15 = .ok (.iconst 0, 1) := by decide +kernel
theorem dL_kind_16 : decode cL_kind 16 = .ok (.ireturn, 1) := by decide +kernel
theorem dL_state_0 : decode cL_state 0 = .ok (.aload_n 2, 1) := by decide +kernel
theorem dL_state_1 : decode cL_state 1 = .ok (.iconst 0, 1) := by decide +kernel
theorem dL_state_2 : decode cL_state 2 = .ok (.aload_n 0, 1) := by decide +kernel
theorem dL_state_3 : decode cL_state 3 = .ok (.iload_n 1, 1) := by decide +kernel
theorem dL_state_4 : decode cL_state 4 = .ok (.invokevirtual 37, 3) := by decide +kernel
theorem dL_state_7 : decode cL_state 7 = .ok (.i2l, 1) := by decide +kernel
theorem dL_state_8 : decode cL_state 8 = .ok (.lastore, 1) := by decide +kernel
theorem dL_state_9 : decode cL_state 9 = .ok (.goto 6, 3) := by decide +kernel
theorem dL_state_12 : decode cL_state 12 = .ok (.astore_n 3, 1) := by decide +kernel
theorem dL_state_13 : decode cL_state 13 = .ok (.iconst 1, 1) := by decide +kernel
theorem dL_state_14 : decode cL_state 14 = .ok (.ireturn, 1) := by decide +kernel
theorem dL_state_15 : decode cL_state 15 = .ok (.iconst 0, 1) := by decide +kernel
theorem dL_state_16 : decode cL_state 16 = .ok (.ireturn, 1) := by decide +kernel
theorem dL_word_0 : decode cL_word 0 = .ok (.aload_n 2, 1) := by decide +kernel
theorem dL_word_1 : decode cL_word 1 = .ok (.iconst 0, 1) := by decide +kernel
theorem dL_word_2 : decode cL_word 2 = .ok (.aload_n 0, 1) := by decide +kernel
theorem dL_word_3 : decode cL_word 3 = .ok (.iload_n 1, 1) := by decide +kernel
theorem dL_word_4 : decode cL_word 4 = .ok (.invokevirtual 40, 3) := by decide +kernel
theorem dL_word_7 : decode cL_word 7 = .ok (.i2l, 1) := by decide +kernel
theorem dL_word_8 : decode cL_word 8 = .ok (.lastore, 1) := by decide +kernel
theorem dL_word_9 : decode cL_word 9 = .ok (.goto 6, 3) := by decide +kernel
theorem dL_word_12 : decode cL_word 12 = .ok (.astore_n 3, 1) := by decide +kernel
theorem dL_word_13 : decode cL_word 13 = .ok (.iconst 1, 1) := by decide +kernel
theorem dL_word_14 : decode cL_word 14 = .ok (.ireturn, 1) := by decide +kernel
theorem dL_word_15 : decode cL_word 15 = .ok (.iconst 0, 1) := by decide +kernel
theorem dL_word_16 : decode cL_word 16 = .ok (.ireturn, 1) := by decide +kernel
theorem dL_head_0 : decode cL_head 0 = .ok (.aload_n 2, 1) := by decide +kernel
theorem dL_head_1 : decode cL_head 1 = .ok (.iconst 0, 1) := by decide +kernel
theorem dL_head_2 : decode cL_head 2 = .ok (.aload_n 0, 1) := by decide +kernel
theorem dL_head_3 : decode cL_head 3 = .ok (.iload_n 1, 1) := by decide +kernel
theorem dL_head_4 : decode cL_head 4 = .ok (.invokevirtual 43, 3) := by decide +kernel
theorem dL_head_7 : decode cL_head 7 = .ok (.i2l, 1) := by decide +kernel
theorem dL_head_8 : decode cL_head 8 = .ok (.lastore, 1) := by decide +kernel
theorem dL_head_9 : decode cL_head 9 = .ok (.goto 9, 3) := by decide +kernel
theorem dL_head_12 : decode cL_head 12 = .ok (.astore_n 3, 1) := by decide +kernel
theorem dL_head_13 : decode cL_head 13 = .ok (.iconst 1, 1) := by decide +kernel
theorem dL_head_14 : decode cL_head 14 = .ok (.ireturn, 1) := by decide +kernel
theorem dL_head_15 : decode cL_head 15 = .ok (.astore_n 3, 1) := by decide +kernel
theorem dL_head_16 : decode cL_head 16 = .ok (.iconst 2, 1) := by decide +kernel
theorem dL_head_17 : decode cL_head 17 = .ok (.ireturn, 1) := by decide +kernel
theorem dL_head_18 : decode cL_head 18 = .ok (.iconst 0, 1) := by decide +kernel
theorem dL_head_19 : decode cL_head 19 = .ok (.ireturn, 1) := by decide +kernel
theorem dL_pieces_0 : decode cL_pieces 0 = .ok (.aload_n 2, 1) := by decide +kernel
theorem dL_pieces_1 : decode cL_pieces 1 = .ok (.iconst 0, 1) := by decide +kernel
theorem dL_pieces_2 : decode cL_pieces 2 = .ok (.aload_n 0, 1) := by decide +kernel
theorem dL_pieces_3 : decode cL_pieces 3 = .ok (.iload_n 1, 1) := by decide +kernel
theorem dL_pieces_4 : decode cL_pieces 4 = .ok (.invokevirtual 46, 3) := by decide +kernel
theorem dL_pieces_7 : decode cL_pieces 7 = .ok (.i2l, 1) := by decide +kernel
theorem dL_pieces_8 : decode cL_pieces 8 = .ok (.lastore, 1) := by decide +kernel
theorem dL_pieces_9 : decode cL_pieces 9 = .ok (.goto 6, 3) := by decide +kernel
theorem dL_pieces_12 : decode cL_pieces 12 = .ok (.astore_n 3, 1) := by decide +kernel
theorem dL_pieces_13 : decode cL_pieces 13 = .ok (.iconst 1, 1) := by decide +kernel
theorem dL_pieces_14 : decode cL_pieces 14 = .ok (.ireturn, 1) := by decide +kernel
theorem dL_pieces_15 : decode cL_pieces 15 = .ok (.iconst 0, 1) := by decide +kernel
theorem dL_pieces_16 : decode cL_pieces 16 = .ok (.ireturn, 1) := by decide +kernel
theorem dL_time_0 : decode cL_time 0 = .ok (.aload_n 2, 1) := by decide +kernel
theorem dL_time_1 : decode cL_time 1 = .ok (.iconst 0, 1) := by decide +kernel
theorem dL_time_2 : decode cL_time 2 = .ok (.aload_n 0, 1) := by decide +kernel
theorem dL_time_3 : decode cL_time 3 = .ok (.iload_n 1, 1) := by decide +kernel
theorem dL_time_4 : decode cL_time 4 = .ok (.invokevirtual 49, 3) := by decide +kernel
theorem dL_time_7 : decode cL_time 7 = .ok (.i2l, 1) := by decide +kernel
theorem dL_time_8 : decode cL_time 8 = .ok (.lastore, 1) := by decide +kernel
theorem dL_time_9 : decode cL_time 9 = .ok (.goto 9, 3) := by decide +kernel
theorem dL_time_12 : decode cL_time 12 = .ok (.astore_n 3, 1) := by decide +kernel
theorem dL_time_13 : decode cL_time 13 = .ok (.iconst 1, 1) := by decide +kernel
theorem dL_time_14 : decode cL_time 14 = .ok (.ireturn, 1) := by decide +kernel
theorem dL_time_15 : decode cL_time 15 = .ok (.astore_n 3, 1) := by decide +kernel
theorem dL_time_16 : decode cL_time 16 = .ok (.iconst 2, 1) := by decide +kernel
theorem dL_time_17 : decode cL_time 17 = .ok (.ireturn, 1) := by decide +kernel
theorem dL_time_18 : decode cL_time 18 = .ok (.iconst 0, 1) := by decide +kernel
theorem dL_time_19 : decode cL_time 19 = .ok (.ireturn, 1) := by decide +kernel
theorem dL_lying_0 : decode cL_lying 0 = .ok (.aload_n 3, 1) := by decide +kernel
theorem dL_lying_1 : decode cL_lying 1 = .ok (.iconst 0, 1) := by decide +kernel
theorem dL_lying_2 : decode cL_lying 2 = .ok (.aload_n 0, 1) := by decide +kernel
theorem dL_lying_3 : decode cL_lying 3 = .ok (.iload_n 1, 1) := by decide +kernel
theorem dL_lying_4 : decode cL_lying 4 = .ok (.iload_n 2, 1) := by decide +kernel
theorem dL_lying_5 : decode cL_lying 5 = .ok (.invokevirtual 52, 3) := by decide +kernel
theorem dL_lying_8 : decode cL_lying 8 = .ok (.i2l, 1) := by decide +kernel
theorem dL_lying_9 : decode cL_lying 9 = .ok (.lastore, 1) := by decide +kernel
theorem dL_lying_10 : decode cL_lying 10 = .ok (.goto 7, 3) := by decide +kernel
theorem dL_lying_13 : decode cL_lying 13 = .ok (.astore 4, 2) := by decide +kernel
theorem dL_lying_15 : decode cL_lying 15 = .ok (.iconst 1, 1) := by decide +kernel
theorem dL_lying_16 : decode cL_lying 16 = .ok (.ireturn, 1) := by decide +kernel
theorem dL_lying_17 : decode cL_lying 17 = .ok (.iconst 0, 1) := by decide +kernel
theorem dL_lying_18 : decode cL_lying 18 = .ok (.ireturn, 1) := by decide +kernel
theorem dL_receive_0 : decode cL_receive 0 = .ok (.aload_n 3, 1) := by decide +kernel
theorem dL_receive_1 : decode cL_receive 1 = .ok (.iconst 0, 1) := by decide +kernel
theorem dL_receive_2 : decode cL_receive 2 = .ok (.aload_n 0, 1) := by decide +kernel
theorem dL_receive_3 : decode cL_receive 3 = .ok (.iload_n 1, 1) := by decide +kernel
theorem dL_receive_4 : decode cL_receive 4 = .ok (.iload_n 2, 1) := by decide +kernel
theorem dL_receive_5 : decode cL_receive 5 = .ok (.invokevirtual 56, 3) := by decide +kernel
theorem dL_receive_8 : decode cL_receive 8 = .ok (.i2l, 1) := by decide +kernel
theorem dL_receive_9 : decode cL_receive 9 = .ok (.lastore, 1) := by decide +kernel
theorem dL_receive_10 : decode cL_receive 10 = .ok (.goto 11, 3) := by decide +kernel
theorem dL_receive_13 : decode cL_receive 13 = .ok (.astore 4, 2) := by decide +kernel
theorem dL_receive_15 : decode cL_receive 15 = .ok (.iconst 1, 1) := by decide +kernel
theorem dL_receive_16 : decode cL_receive 16 = .ok (.ireturn, 1) := by decide +kernel
theorem dL_receive_17 : decode cL_receive 17 = .ok (.astore 4, 2) := by decide +kernel
theorem dL_receive_19 : decode cL_receive 19 = .ok (.iconst 2, 1) := by decide +kernel
theorem dL_receive_20 : decode cL_receive 20 = .ok (.ireturn, 1) := by decide +kernel
theorem dL_receive_21 : decode cL_receive 21 = .ok (.iconst 0, 1) := by decide +kernel
theorem dL_receive_22 : decode cL_receive 22 = .ok (.ireturn, 1) := by decide +kernel
theorem dL_net_0 : decode cL_net 0 = .ok (.aload_n 3, 1) := by decide +kernel
theorem dL_net_1 : decode cL_net 1 = .ok (.iconst 0, 1) := by decide +kernel
theorem dL_net_2 : decode cL_net 2 = .ok (.aload_n 0, 1) := by decide +kernel
theorem dL_net_3 : decode cL_net 3 = .ok (.iload_n 1, 1) := by decide +kernel
theorem dL_net_4 : decode cL_net 4 = .ok (.iload_n 2, 1) := by decide +kernel
theorem dL_net_5 : decode cL_net 5 = .ok (.invokevirtual 59, 3) := by decide +kernel
theorem dL_net_8 : decode cL_net 8 = .ok (.i2l, 1) := by decide +kernel
theorem dL_net_9 : decode cL_net 9 = .ok (.lastore, 1) := by decide +kernel
theorem dL_net_10 : decode cL_net 10 = .ok (.goto 7, 3) := by decide +kernel
theorem dL_net_13 : decode cL_net 13 = .ok (.astore 4, 2) := by decide +kernel
theorem dL_net_15 : decode cL_net 15 = .ok (.iconst 1, 1) := by decide +kernel
theorem dL_net_16 : decode cL_net 16 = .ok (.ireturn, 1) := by decide +kernel
theorem dL_net_17 : decode cL_net 17 = .ok (.iconst 0, 1) := by decide +kernel
theorem dL_net_18 : decode cL_net 18 = .ok (.ireturn, 1) := by decide +kernel
theorem dL_beats_0 : decode cL_beats 0 = .ok (.aload_n 2, 1) := by decide +kernel
theorem dL_beats_1 : decode cL_beats 1 = .ok (.iconst 0, 1) := by decide +kernel
theorem dL_beats_2 : decode cL_beats 2 = .ok (.aload_n 0, 1) := by decide +kernel
theorem dL_beats_3 : decode cL_beats 3 = .ok (.iload_n 1, 1) := by decide +kernel
theorem dL_beats_4 : decode cL_beats 4 = .ok (.invokevirtual 62, 3) := by decide +kernel
theorem dL_beats_7 : decode cL_beats 7 = .ok (.ifCond .eq 7, 3) := by decide +kernel
theorem dL_beats_10 : decode cL_beats 10 = .ok (.lconst 1, 1) := by decide +kernel
theorem dL_beats_11 : decode cL_beats 11 = .ok (.goto 4, 3) := by decide +kernel
theorem dL_beats_14 : decode cL_beats 14 = .ok (.lconst 0, 1) := by decide +kernel
theorem dL_beats_15 : decode cL_beats 15 = .ok (.lastore, 1) := by decide +kernel
theorem dL_beats_16 : decode cL_beats 16 = .ok (.goto 6, 3) := by decide +kernel
theorem dL_beats_19 : decode cL_beats 19 = .ok (.astore_n 3, 1) := by decide +kernel
theorem dL_beats_20 : decode cL_beats 20 = .ok (.iconst 1, 1) := by decide +kernel
theorem dL_beats_21 : decode cL_beats 21 = .ok (.ireturn, 1) := by decide +kernel
theorem dL_beats_22 : decode cL_beats 22 = .ok (.iconst 0, 1) := by decide +kernel
theorem dL_beats_23 : decode cL_beats 23 = .ok (.ireturn, 1) := by decide +kernel
theorem dL_way_0 : decode cL_way 0 = .ok (.aload_n 2, 1) := by decide +kernel
theorem dL_way_1 : decode cL_way 1 = .ok (.iconst 0, 1) := by decide +kernel
theorem dL_way_2 : decode cL_way 2 = .ok (.aload_n 0, 1) := by decide +kernel
theorem dL_way_3 : decode cL_way 3 = .ok (.iload_n 1, 1) := by decide +kernel
theorem dL_way_4 : decode cL_way 4 = .ok (.invokevirtual 66, 3) := by decide +kernel
theorem dL_way_7 : decode cL_way 7 = .ok (.i2l, 1) := by decide +kernel
theorem dL_way_8 : decode cL_way 8 = .ok (.lastore, 1) := by decide +kernel
theorem dL_way_9 : decode cL_way 9 = .ok (.goto 6, 3) := by decide +kernel
theorem dL_way_12 : decode cL_way 12 = .ok (.astore_n 3, 1) := by decide +kernel
theorem dL_way_13 : decode cL_way 13 = .ok (.iconst 1, 1) := by decide +kernel
theorem dL_way_14 : decode cL_way 14 = .ok (.ireturn, 1) := by decide +kernel
theorem dL_way_15 : decode cL_way 15 = .ok (.iconst 0, 1) := by decide +kernel
theorem dL_way_16 : decode cL_way 16 = .ok (.ireturn, 1) := by decide +kernel
theorem dL_places_0 : decode cL_places 0 = .ok (.aload_n 2, 1) := by decide +kernel
theorem dL_places_1 : decode cL_places 1 = .ok (.iconst 0, 1) := by decide +kernel
theorem dL_places_2 : decode cL_places 2 = .ok (.aload_n 0, 1) := by decide +kernel
theorem dL_places_3 : decode cL_places 3 = .ok (.iload_n 1, 1) := by decide +kernel
theorem dL_places_4 : decode cL_places 4 = .ok (.invokevirtual 70, 3) := by decide +kernel
theorem dL_places_7 : decode cL_places 7 = .ok (.i2l, 1) := by decide +kernel
theorem dL_places_8 : decode cL_places 8 = .ok (.lastore, 1) := by decide +kernel
theorem dL_places_9 : decode cL_places 9 = .ok (.goto 6, 3) := by decide +kernel
theorem dL_places_12 : decode cL_places 12 = .ok (.astore_n 3, 1) := by decide +kernel
theorem dL_places_13 : decode cL_places 13 = .ok (.iconst 1, 1) := by decide +kernel
theorem dL_places_14 : decode cL_places 14 = .ok (.ireturn, 1) := by decide +kernel
theorem dL_places_15 : decode cL_places 15 = .ok (.iconst 0, 1) := by decide +kernel
theorem dL_places_16 : decode cL_places 16 = .ok (.ireturn, 1) := by decide +kernel
theorem dL_row_0 : decode cL_row 0 = .ok (.aload 4, 2) := by decide +kernel
theorem dL_row_2 : decode cL_row 2 = .ok (.iconst 0, 1) := by decide +kernel
theorem dL_row_3 : decode cL_row 3 = .ok (.aload_n 0, 1) := by decide +kernel
theorem dL_row_4 : decode cL_row 4 = .ok (.iload_n 1, 1) := by decide +kernel
theorem dL_row_5 : decode cL_row 5 = .ok (.iload_n 2, 1) := by decide +kernel
theorem dL_row_6 : decode cL_row 6 = .ok (.iload_n 3, 1) := by decide +kernel
theorem dL_row_7 : decode cL_row 7 = .ok (.invokevirtual 73, 3) := by decide +kernel
theorem dL_row_10 : decode cL_row 10 = .ok (.i2l, 1) := by decide +kernel
theorem dL_row_11 : decode cL_row 11 = .ok (.lastore, 1) := by decide +kernel
theorem dL_row_12 : decode cL_row 12 = .ok (.goto 11, 3) := by decide +kernel
theorem dL_row_15 : decode cL_row 15 = .ok (.astore 5, 2) := by decide +kernel
theorem dL_row_17 : decode cL_row 17 = .ok (.iconst 1, 1) := by decide +kernel
theorem dL_row_18 : decode cL_row 18 = .ok (.ireturn, 1) := by decide +kernel
theorem dL_row_19 : decode cL_row 19 = .ok (.astore 5, 2) := by decide +kernel
theorem dL_row_21 : decode cL_row 21 = .ok (.iconst 2, 1) := by decide +kernel
theorem dL_row_22 : decode cL_row 22 = .ok (.ireturn, 1) := by decide +kernel
theorem dL_row_23 : decode cL_row 23 = .ok (.iconst 0, 1) := by decide +kernel
theorem dL_row_24 : decode cL_row 24 = .ok (.ireturn, 1) := by decide +kernel
theorem dL_owner_0 : decode cL_owner 0 = .ok (.aload 4, 2) := by decide +kernel
theorem dL_owner_2 : decode cL_owner 2 = .ok (.iconst 0, 1) := by decide +kernel
theorem dL_owner_3 : decode cL_owner 3 = .ok (.aload_n 0, 1) := by decide +kernel
theorem dL_owner_4 : decode cL_owner 4 = .ok (.iload_n 1, 1) := by decide +kernel
theorem dL_owner_5 : decode cL_owner 5 = .ok (.iload_n 2, 1) := by decide +kernel
theorem dL_owner_6 : decode cL_owner 6 = .ok (.iload_n 3, 1) := by decide +kernel
theorem dL_owner_7 : decode cL_owner 7 = .ok (.invokevirtual 77, 3) := by decide +kernel
theorem dL_owner_10 : decode cL_owner 10 = .ok (.i2l, 1) := by decide +kernel
theorem dL_owner_11 : decode cL_owner 11 = .ok (.lastore, 1) := by decide +kernel
theorem dL_owner_12 : decode cL_owner 12 = .ok (.goto 11, 3) := by decide +kernel
theorem dL_owner_15 : decode cL_owner 15 = .ok (.astore 5, 2) := by decide +kernel
theorem dL_owner_17 : decode cL_owner 17 = .ok (.iconst 1, 1) := by decide +kernel
theorem dL_owner_18 : decode cL_owner 18 = .ok (.ireturn, 1) := by decide +kernel
theorem dL_owner_19 : decode cL_owner 19 = .ok (.astore 5, 2) := by decide +kernel
theorem dL_owner_21 : decode cL_owner 21 = .ok (.iconst 2, 1) := by decide +kernel
theorem dL_owner_22 : decode cL_owner 22 = .ok (.ireturn, 1) := by decide +kernel
theorem dL_owner_23 : decode cL_owner 23 = .ok (.iconst 0, 1) := by decide +kernel
theorem dL_owner_24 : decode cL_owner 24 = .ok (.ireturn, 1) := by decide +kernel
theorem dL_fail_0 : decode cL_fail 0 = .ok (.aload 4, 2) := by decide +kernel
theorem dL_fail_2 : decode cL_fail 2 = .ok (.iconst 0, 1) := by decide +kernel
theorem dL_fail_3 : decode cL_fail 3 = .ok (.aload_n 0, 1) := by decide +kernel
theorem dL_fail_4 : decode cL_fail 4 = .ok (.iload_n 1, 1) := by decide +kernel
theorem dL_fail_5 : decode cL_fail 5 = .ok (.iload_n 2, 1) := by decide +kernel
theorem dL_fail_6 : decode cL_fail 6 = .ok (.iload_n 3, 1) := by decide +kernel
theorem dL_fail_7 : decode cL_fail 7 = .ok (.invokevirtual 80, 3) := by decide +kernel
theorem dL_fail_10 : decode cL_fail 10 = .ok (.ifCond .eq 7, 3) := by decide +kernel
theorem dL_fail_13 : decode cL_fail 13 = .ok (.lconst 1, 1) := by decide +kernel
theorem dL_fail_14 : decode cL_fail 14 = .ok (.goto 4, 3) := by decide +kernel
theorem dL_fail_17 : decode cL_fail 17 = .ok (.lconst 0, 1) := by decide +kernel
theorem dL_fail_18 : decode cL_fail 18 = .ok (.lastore, 1) := by decide +kernel
theorem dL_fail_19 : decode cL_fail 19 = .ok (.goto 15, 3) := by decide +kernel
theorem dL_fail_22 : decode cL_fail 22 = .ok (.astore 5, 2) := by decide +kernel
theorem dL_fail_24 : decode cL_fail 24 = .ok (.iconst 1, 1) := by decide +kernel
theorem dL_fail_25 : decode cL_fail 25 = .ok (.ireturn, 1) := by decide +kernel
theorem dL_fail_26 : decode cL_fail 26 = .ok (.astore 5, 2) := by decide +kernel
theorem dL_fail_28 : decode cL_fail 28 = .ok (.iconst 2, 1) := by decide +kernel
theorem dL_fail_29 : decode cL_fail 29 = .ok (.ireturn, 1) := by decide +kernel
theorem dL_fail_30 : decode cL_fail 30 = .ok (.astore 5, 2) := by decide +kernel
theorem dL_fail_32 : decode cL_fail 32 = .ok (.iconst 3, 1) := by decide +kernel
theorem dL_fail_33 : decode cL_fail 33 = .ok (.ireturn, 1) := by decide +kernel
theorem dL_fail_34 : decode cL_fail 34 = .ok (.iconst 0, 1) := by decide +kernel
theorem dL_fail_35 : decode cL_fail 35 = .ok (.ireturn, 1) := by decide +kernel
theorem dL_sleep_0 : decode cL_sleep 0 = .ok (.aload_n 2, 1) := by decide +kernel
theorem dL_sleep_1 : decode cL_sleep 1 = .ok (.iconst 0, 1) := by decide +kernel
theorem dL_sleep_2 : decode cL_sleep 2 = .ok (.aload_n 0, 1) := by decide +kernel
theorem dL_sleep_3 : decode cL_sleep 3 = .ok (.iload_n 1, 1) := by decide +kernel
theorem dL_sleep_4 : decode cL_sleep 4 = .ok (.invokevirtual 86, 3) := by decide +kernel
theorem dL_sleep_7 : decode cL_sleep 7 = .ok (.ifCond .eq 7, 3) := by decide +kernel
theorem dL_sleep_10 : decode cL_sleep 10 = .ok (.lconst 1, 1) := by decide +kernel
theorem dL_sleep_11 : decode cL_sleep 11 = .ok (.goto 4, 3) := by decide +kernel
theorem dL_sleep_14 : decode cL_sleep 14 = .ok (.lconst 0, 1) := by decide +kernel
theorem dL_sleep_15 : decode cL_sleep 15 = .ok (.lastore, 1) := by decide +kernel
theorem dL_sleep_16 : decode cL_sleep 16 = .ok (.goto 9, 3) := by decide +kernel
theorem dL_sleep_19 : decode cL_sleep 19 = .ok (.astore_n 3, 1) := by decide +kernel
theorem dL_sleep_20 : decode cL_sleep 20 = .ok (.iconst 1, 1) := by decide +kernel
theorem dL_sleep_21 : decode cL_sleep 21 = .ok (.ireturn, 1) := by decide +kernel
theorem dL_sleep_22 : decode cL_sleep 22 = .ok (.astore_n 3, 1) := by decide +kernel
theorem dL_sleep_23 : decode cL_sleep 23 = .ok (.iconst 2, 1) := by decide +kernel
theorem dL_sleep_24 : decode cL_sleep 24 = .ok (.ireturn, 1) := by decide +kernel
theorem dL_sleep_25 : decode cL_sleep 25 = .ok (.iconst 0, 1) := by decide +kernel
theorem dL_sleep_26 : decode cL_sleep 26 = .ok (.ireturn, 1) := by decide +kernel
theorem dL_isAwake_0 : decode cL_isAwake 0 = .ok (.aload_n 2, 1) := by decide +kernel
theorem dL_isAwake_1 : decode cL_isAwake 1 = .ok (.iconst 0, 1) := by decide +kernel
theorem dL_isAwake_2 : decode cL_isAwake 2 = .ok (.aload_n 0, 1) := by decide +kernel
theorem dL_isAwake_3 : decode cL_isAwake 3 = .ok (.iload_n 1, 1) := by decide +kernel
theorem dL_isAwake_4 : decode cL_isAwake 4 = .ok (.invokevirtual 89, 3) := by decide +kernel
theorem dL_isAwake_7 : decode cL_isAwake 7 = .ok (.ifCond .eq 7, 3) := by decide +kernel
theorem dL_isAwake_10 : decode cL_isAwake 10 = .ok (.lconst 1, 1) := by decide +kernel
theorem dL_isAwake_11 : decode cL_isAwake 11 = .ok (.goto 4, 3) := by decide +kernel
theorem dL_isAwake_14 : decode cL_isAwake 14 = .ok (.lconst 0, 1) := by decide +kernel
theorem dL_isAwake_15 : decode cL_isAwake 15 = .ok (.lastore, 1) := by decide +kernel
theorem dL_isAwake_16 : decode cL_isAwake 16 = .ok (.goto 6, 3) := by decide +kernel
theorem dL_isAwake_19 : decode cL_isAwake 19 = .ok (.astore_n 3, 1) := by decide +kernel
theorem dL_isAwake_20 : decode cL_isAwake 20 = .ok (.iconst 1, 1) := by decide +kernel
theorem dL_isAwake_21 : decode cL_isAwake 21 = .ok (.ireturn, 1) := by decide +kernel
theorem dL_isAwake_22 : decode cL_isAwake 22 = .ok (.iconst 0, 1) := by decide +kernel
theorem dL_isAwake_23 : decode cL_isAwake 23 = .ok (.ireturn, 1) := by decide +kernel
theorem dL_direction_0 : decode cL_direction 0 = .ok (.aload_n 3, 1) := by decide +kernel
theorem dL_direction_1 : decode cL_direction 1 = .ok (.iconst 0, 1) := by decide +kernel
theorem dL_direction_2 : decode cL_direction 2 = .ok (.aload_n 0, 1) := by decide +kernel
theorem dL_direction_3 : decode cL_direction 3 = .ok (.iload_n 1, 1) := by decide +kernel
theorem dL_direction_4 : decode cL_direction 4 = .ok (.iload_n 2, 1) := by decide +kernel
theorem dL_direction_5 : decode cL_direction 5 = .ok (.invokevirtual 92, 3) := by decide +kernel
theorem dL_direction_8 : decode cL_direction 8 = .ok (.i2l, 1) := by decide +kernel
theorem dL_direction_9 : decode cL_direction 9 = .ok (.lastore, 1) := by decide +kernel
theorem dL_direction_10 : decode cL_direction 10 = .ok (.goto 7, 3) := by decide +kernel
theorem dL_direction_13 : decode cL_direction 13 = .ok (.astore 4, 2) := by decide +kernel
theorem dL_direction_15 : decode cL_direction 15 = .ok (.iconst 1, 1) := by decide +kernel
theorem dL_direction_16 : decode cL_direction 16 = .ok (.ireturn, 1) := by decide +kernel
theorem dL_direction_17 : decode cL_direction 17 = .ok (.iconst 0, 1) := by decide +kernel
theorem dL_direction_18 : decode cL_direction 18 = .ok (.ireturn, 1) := by decide +kernel
theorem dL_program_0 : decode cL_program 0 = .ok (.aload 4, 2) := by decide +kernel
theorem dL_program_2 : decode cL_program 2 = .ok (.iconst 0, 1) := by decide +kernel
theorem dL_program_3 : decode cL_program 3 = .ok (.aload_n 0, 1) := by decide +kernel
theorem dL_program_4 : decode cL_program 4 = .ok (.iload_n 1, 1) := by decide +kernel
theorem dL_program_5 : decode cL_program 5 = .ok (.iload_n 2, 1) := by decide +kernel
theorem dL_program_6 : decode cL_program 6 = .ok (.iload_n 3, 1) := by decide +kernel
theorem dL_program_7 : decode cL_program 7 = .ok (.invokevirtual 96, 3) := by decide +kernel
theorem dL_program_10 : decode cL_program 10 = .ok (.i2l, 1) := by decide +kernel
theorem dL_program_11 : decode cL_program 11 = .ok (.lastore, 1) := by decide +kernel
theorem dL_program_12 : decode cL_program 12 = .ok (.goto 15, 3) := by decide +kernel
theorem dL_program_15 : decode cL_program 15 = .ok (.astore 5, 2) := by decide +kernel
theorem dL_program_17 : decode cL_program 17 = .ok (.iconst 1, 1) := by decide +kernel
theorem dL_program_18 : decode cL_program 18 = .ok (.ireturn, 1) := by decide +kernel
theorem dL_program_19 : decode cL_program 19 = .ok (.astore 5, 2) := by decide +kernel
theorem dL_program_21 : decode cL_program 21 = .ok (.iconst 2, 1) := by decide +kernel
theorem dL_program_22 : decode cL_program 22 = .ok (.ireturn, 1) := by decide +kernel
theorem dL_program_23 : decode cL_program 23 = .ok (.astore 5, 2) := by decide +kernel
theorem dL_program_25 : decode cL_program 25 = .ok (.iconst 3, 1) := by decide +kernel
theorem dL_program_26 : decode cL_program 26 = .ok (.ireturn, 1) := by decide +kernel
theorem dL_program_27 : decode cL_program 27 = .ok (.iconst 0, 1) := by decide +kernel
theorem dL_program_28 : decode cL_program 28 = .ok (.ireturn, 1) := by decide +kernel
theorem dL_clear_0 : decode cL_clear 0 = .ok (.aload_n 2, 1) := by decide +kernel
theorem dL_clear_1 : decode cL_clear 1 = .ok (.iconst 0, 1) := by decide +kernel
theorem dL_clear_2 : decode cL_clear 2 = .ok (.aload_n 0, 1) := by decide +kernel
theorem dL_clear_3 : decode cL_clear 3 = .ok (.iload_n 1, 1) := by decide +kernel
theorem dL_clear_4 : decode cL_clear 4 = .ok (.invokevirtual 99, 3) := by decide +kernel
theorem dL_clear_7 : decode cL_clear 7 = .ok (.i2l, 1) := by decide +kernel
theorem dL_clear_8 : decode cL_clear 8 = .ok (.lastore, 1) := by decide +kernel
theorem dL_clear_9 : decode cL_clear 9 = .ok (.goto 9, 3) := by decide +kernel
theorem dL_clear_12 : decode cL_clear 12 = .ok (.astore_n 3, 1) := by decide +kernel
theorem dL_clear_13 : decode cL_clear 13 = .ok (.iconst 1, 1) := by decide +kernel
theorem dL_clear_14 : decode cL_clear 14 = .ok (.ireturn, 1) := by decide +kernel
theorem dL_clear_15 : decode cL_clear 15 = .ok (.astore_n 3, 1) := by decide +kernel
theorem dL_clear_16 : decode cL_clear 16 = .ok (.iconst 2, 1) := by decide +kernel
theorem dL_clear_17 : decode cL_clear 17 = .ok (.ireturn, 1) := by decide +kernel
theorem dL_clear_18 : decode cL_clear 18 = .ok (.iconst 0, 1) := by decide +kernel
theorem dL_clear_19 : decode cL_clear 19 = .ok (.ireturn, 1) := by decide +kernel
theorem dL_start_0 : decode cL_start 0 = .ok (.aload_n 2, 1) := by decide +kernel
theorem dL_start_1 : decode cL_start 1 = .ok (.iconst 0, 1) := by decide +kernel
theorem dL_start_2 : decode cL_start 2 = .ok (.aload_n 0, 1) := by decide +kernel
theorem dL_start_3 : decode cL_start 3 = .ok (.iload_n 1, 1) := by decide +kernel
theorem dL_start_4 : decode cL_start 4 = .ok (.invokevirtual 102, 3) := by decide +kernel
theorem dL_start_7 : decode cL_start 7 = .ok (.i2l, 1) := by decide +kernel
theorem dL_start_8 : decode cL_start 8 = .ok (.lastore, 1) := by decide +kernel
theorem dL_start_9 : decode cL_start 9 = .ok (.goto 12, 3) := by decide +kernel
theorem dL_start_12 : decode cL_start 12 = .ok (.astore_n 3, 1) := by decide +kernel
theorem dL_start_13 : decode cL_start 13 = .ok (.iconst 1, 1) := by decide +kernel
theorem dL_start_14 : decode cL_start 14 = .ok (.ireturn, 1) := by decide +kernel
theorem dL_start_15 : decode cL_start 15 = .ok (.astore_n 3, 1) := by decide +kernel
theorem dL_start_16 : decode cL_start 16 = .ok (.iconst 2, 1) := by decide +kernel
theorem dL_start_17 : decode cL_start 17 = .ok (.ireturn, 1) := by decide +kernel
theorem dL_start_18 : decode cL_start 18 = .ok (.astore_n 3, 1) := by decide +kernel
theorem dL_start_19 : decode cL_start 19 = .ok (.iconst 3, 1) := by decide +kernel
theorem dL_start_20 : decode cL_start 20 = .ok (.ireturn, 1) := by decide +kernel
theorem dL_start_21 : decode cL_start 21 = .ok (.iconst 0, 1) := by decide +kernel
theorem dL_start_22 : decode cL_start 22 = .ok (.ireturn, 1) := by decide +kernel
theorem dL_core_0 : decode cL_core 0 = .ok (.aload_n 2, 1) := by decide +kernel
theorem dL_core_1 : decode cL_core 1 = .ok (.iconst 0, 1) := by decide +kernel
theorem dL_core_2 : decode cL_core 2 = .ok (.aload_n 0, 1) := by decide +kernel
theorem dL_core_3 : decode cL_core 3 = .ok (.iload_n 1, 1) := by decide +kernel
theorem dL_core_4 : decode cL_core 4 = .ok (.invokevirtual 105, 3) := by decide +kernel
theorem dL_core_7 : decode cL_core 7 = .ok (.i2l, 1) := by decide +kernel
theorem dL_core_8 : decode cL_core 8 = .ok (.lastore, 1) := by decide +kernel
theorem dL_core_9 : decode cL_core 9 = .ok (.goto 6, 3) := by decide +kernel
theorem dL_core_12 : decode cL_core 12 = .ok (.astore_n 3, 1) := by decide +kernel
theorem dL_core_13 : decode cL_core 13 = .ok (.iconst 1, 1) := by decide +kernel
theorem dL_core_14 : decode cL_core 14 = .ok (.ireturn, 1) := by decide +kernel
theorem dL_core_15 : decode cL_core 15 = .ok (.iconst 0, 1) := by decide +kernel
theorem dL_core_16 : decode cL_core 16 = .ok (.ireturn, 1) := by decide +kernel
theorem dL_fault_0 : decode cL_fault 0 = .ok (.aload_n 2, 1) := by decide +kernel
theorem dL_fault_1 : decode cL_fault 1 = .ok (.iconst 0, 1) := by decide +kernel
theorem dL_fault_2 : decode cL_fault 2 = .ok (.aload_n 0, 1) := by decide +kernel
theorem dL_fault_3 : decode cL_fault 3 = .ok (.iload_n 1, 1) := by decide +kernel
theorem dL_fault_4 : decode cL_fault 4 = .ok (.invokevirtual 108, 3) := by decide +kernel
theorem dL_fault_7 : decode cL_fault 7 = .ok (.i2l, 1) := by decide +kernel
theorem dL_fault_8 : decode cL_fault 8 = .ok (.lastore, 1) := by decide +kernel
theorem dL_fault_9 : decode cL_fault 9 = .ok (.goto 9, 3) := by decide +kernel
theorem dL_fault_12 : decode cL_fault 12 = .ok (.astore_n 3, 1) := by decide +kernel
theorem dL_fault_13 : decode cL_fault 13 = .ok (.iconst 1, 1) := by decide +kernel
theorem dL_fault_14 : decode cL_fault 14 = .ok (.ireturn, 1) := by decide +kernel
theorem dL_fault_15 : decode cL_fault 15 = .ok (.astore_n 3, 1) := by decide +kernel
theorem dL_fault_16 : decode cL_fault 16 = .ok (.iconst 2, 1) := by decide +kernel
theorem dL_fault_17 : decode cL_fault 17 = .ok (.ireturn, 1) := by decide +kernel
theorem dL_fault_18 : decode cL_fault 18 = .ok (.iconst 0, 1) := by decide +kernel
theorem dL_fault_19 : decode cL_fault 19 = .ok (.ireturn, 1) := by decide +kernel
theorem dL_memory_0 : decode cL_memory 0 = .ok (.aload_n 3, 1) := by decide +kernel
theorem dL_memory_1 : decode cL_memory 1 = .ok (.iconst 0, 1) := by decide +kernel
theorem dL_memory_2 : decode cL_memory 2 = .ok (.aload_n 0, 1) := by decide +kernel
theorem dL_memory_3 : decode cL_memory 3 = .ok (.iload_n 1, 1) := by decide +kernel
theorem dL_memory_4 : decode cL_memory 4 = .ok (.iload_n 2, 1) := by decide +kernel
theorem dL_memory_5 : decode cL_memory 5 = .ok (.invokevirtual 111, 3) := by decide +kernel
theorem dL_memory_8 : decode cL_memory 8 = .ok (.i2l, 1) := by decide +kernel
theorem dL_memory_9 : decode cL_memory 9 = .ok (.lastore, 1) := by decide +kernel
theorem dL_memory_10 : decode cL_memory 10 = .ok (.goto 11, 3) := by decide +kernel
theorem dL_memory_13 : decode cL_memory 13 = .ok (.astore 4, 2) := by decide +kernel
theorem dL_memory_15 : decode cL_memory 15 = .ok (.iconst 1, 1) := by decide +kernel
theorem dL_memory_16 : decode cL_memory 16 = .ok (.ireturn, 1) := by decide +kernel
theorem dL_memory_17 : decode cL_memory 17 = .ok (.astore 4, 2) := by decide +kernel
theorem dL_memory_19 : decode cL_memory 19 = .ok (.iconst 2, 1) := by decide +kernel
theorem dL_memory_20 : decode cL_memory 20 = .ok (.ireturn, 1) := by decide +kernel
theorem dL_memory_21 : decode cL_memory 21 = .ok (.iconst 0, 1) := by decide +kernel
theorem dL_memory_22 : decode cL_memory 22 = .ok (.ireturn, 1) := by decide +kernel
theorem dL_set_0 : decode cL_set 0 = .ok (.aload 4, 2) := by decide +kernel
theorem dL_set_2 : decode cL_set 2 = .ok (.iconst 0, 1) := by decide +kernel
theorem dL_set_3 : decode cL_set 3 = .ok (.aload_n 0, 1) := by decide +kernel
theorem dL_set_4 : decode cL_set 4 = .ok (.iload_n 1, 1) := by decide +kernel
theorem dL_set_5 : decode cL_set 5 = .ok (.iload_n 2, 1) := by decide +kernel
theorem dL_set_6 : decode cL_set 6 = .ok (.iload_n 3, 1) := by decide +kernel
theorem dL_set_7 : decode cL_set 7 = .ok (.invokevirtual 114, 3) := by decide +kernel
theorem dL_set_10 : decode cL_set 10 = .ok (.i2l, 1) := by decide +kernel
theorem dL_set_11 : decode cL_set 11 = .ok (.lastore, 1) := by decide +kernel
theorem dL_set_12 : decode cL_set 12 = .ok (.goto 11, 3) := by decide +kernel
theorem dL_set_15 : decode cL_set 15 = .ok (.astore 5, 2) := by decide +kernel
theorem dL_set_17 : decode cL_set 17 = .ok (.iconst 1, 1) := by decide +kernel
theorem dL_set_18 : decode cL_set 18 = .ok (.ireturn, 1) := by decide +kernel
theorem dL_set_19 : decode cL_set 19 = .ok (.astore 5, 2) := by decide +kernel
theorem dL_set_21 : decode cL_set 21 = .ok (.iconst 2, 1) := by decide +kernel
theorem dL_set_22 : decode cL_set 22 = .ok (.ireturn, 1) := by decide +kernel
theorem dL_set_23 : decode cL_set 23 = .ok (.iconst 0, 1) := by decide +kernel
theorem dL_set_24 : decode cL_set 24 = .ok (.ireturn, 1) := by decide +kernel
theorem dL_top_0 : decode cL_top 0 = .ok (.aload_n 2, 1) := by decide +kernel
theorem dL_top_1 : decode cL_top 1 = .ok (.iconst 0, 1) := by decide +kernel
theorem dL_top_2 : decode cL_top 2 = .ok (.aload_n 0, 1) := by decide +kernel
theorem dL_top_3 : decode cL_top 3 = .ok (.iload_n 1, 1) := by decide +kernel
theorem dL_top_4 : decode cL_top 4 = .ok (.invokevirtual 117, 3) := by decide +kernel
theorem dL_top_7 : decode cL_top 7 = .ok (.i2l, 1) := by decide +kernel
theorem dL_top_8 : decode cL_top 8 = .ok (.lastore, 1) := by decide +kernel
theorem dL_top_9 : decode cL_top 9 = .ok (.goto 9, 3) := by decide +kernel
theorem dL_top_12 : decode cL_top 12 = .ok (.astore_n 3, 1) := by decide +kernel
theorem dL_top_13 : decode cL_top 13 = .ok (.iconst 1, 1) := by decide +kernel
theorem dL_top_14 : decode cL_top 14 = .ok (.ireturn, 1) := by decide +kernel
theorem dL_top_15 : decode cL_top 15 = .ok (.astore_n 3, 1) := by decide +kernel
theorem dL_top_16 : decode cL_top 16 = .ok (.iconst 2, 1) := by decide +kernel
theorem dL_top_17 : decode cL_top 17 = .ok (.ireturn, 1) := by decide +kernel
theorem dL_top_18 : decode cL_top 18 = .ok (.iconst 0, 1) := by decide +kernel
theorem dL_top_19 : decode cL_top 19 = .ok (.ireturn, 1) := by decide +kernel
theorem dL_at_0 : decode cL_at 0 = .ok (.aload_n 2, 1) := by decide +kernel
theorem dL_at_1 : decode cL_at 1 = .ok (.iconst 0, 1) := by decide +kernel
theorem dL_at_2 : decode cL_at 2 = .ok (.aload_n 0, 1) := by decide +kernel
theorem dL_at_3 : decode cL_at 3 = .ok (.iload_n 1, 1) := by decide +kernel
theorem dL_at_4 : decode cL_at 4 = .ok (.invokevirtual 120, 3) := by decide +kernel
theorem dL_at_7 : decode cL_at 7 = .ok (.i2l, 1) := by decide +kernel
theorem dL_at_8 : decode cL_at 8 = .ok (.lastore, 1) := by decide +kernel
theorem dL_at_9 : decode cL_at 9 = .ok (.goto 9, 3) := by decide +kernel
theorem dL_at_12 : decode cL_at 12 = .ok (.astore_n 3, 1) := by decide +kernel
theorem dL_at_13 : decode cL_at 13 = .ok (.iconst 1, 1) := by decide +kernel
theorem dL_at_14 : decode cL_at 14 = .ok (.ireturn, 1) := by decide +kernel
theorem dL_at_15 : decode cL_at 15 = .ok (.astore_n 3, 1) := by decide +kernel
theorem dL_at_16 : decode cL_at 16 = .ok (.iconst 2, 1) := by decide +kernel
theorem dL_at_17 : decode cL_at 17 = .ok (.ireturn, 1) := by decide +kernel
theorem dL_at_18 : decode cL_at 18 = .ok (.iconst 0, 1) := by decide +kernel
theorem dL_at_19 : decode cL_at 19 = .ok (.ireturn, 1) := by decide +kernel
theorem dL_task_0 : decode cL_task 0 = .ok (.aload_n 2, 1) := by decide +kernel
theorem dL_task_1 : decode cL_task 1 = .ok (.iconst 0, 1) := by decide +kernel
theorem dL_task_2 : decode cL_task 2 = .ok (.aload_n 0, 1) := by decide +kernel
theorem dL_task_3 : decode cL_task 3 = .ok (.iload_n 1, 1) := by decide +kernel
theorem dL_task_4 : decode cL_task 4 = .ok (.invokevirtual 123, 3) := by decide +kernel
theorem dL_task_7 : decode cL_task 7 = .ok (.i2l, 1) := by decide +kernel
theorem dL_task_8 : decode cL_task 8 = .ok (.lastore, 1) := by decide +kernel
theorem dL_task_9 : decode cL_task 9 = .ok (.goto 9, 3) := by decide +kernel
theorem dL_task_12 : decode cL_task 12 = .ok (.astore_n 3, 1) := by decide +kernel
theorem dL_task_13 : decode cL_task 13 = .ok (.iconst 1, 1) := by decide +kernel
theorem dL_task_14 : decode cL_task 14 = .ok (.ireturn, 1) := by decide +kernel
theorem dL_task_15 : decode cL_task 15 = .ok (.astore_n 3, 1) := by decide +kernel
theorem dL_task_16 : decode cL_task 16 = .ok (.iconst 2, 1) := by decide +kernel
theorem dL_task_17 : decode cL_task 17 = .ok (.ireturn, 1) := by decide +kernel
theorem dL_task_18 : decode cL_task 18 = .ok (.iconst 0, 1) := by decide +kernel
theorem dL_task_19 : decode cL_task 19 = .ok (.ireturn, 1) := by decide +kernel
theorem dL_traffic_0 : decode cL_traffic 0 = .ok (.aload 4, 2) := by decide +kernel
theorem dL_traffic_2 : decode cL_traffic 2 = .ok (.iconst 0, 1) := by decide +kernel
theorem dL_traffic_3 : decode cL_traffic 3 = .ok (.aload_n 0, 1) := by decide +kernel
theorem dL_traffic_4 : decode cL_traffic 4 = .ok (.iload_n 1, 1) := by decide +kernel
theorem dL_traffic_5 : decode cL_traffic 5 = .ok (.iload_n 2, 1) := by decide +kernel
theorem dL_traffic_6 : decode cL_traffic 6 = .ok (.iload_n 3, 1) := by decide +kernel
theorem dL_traffic_7 : decode cL_traffic 7 = .ok (.invokevirtual 126, 3) := by decide +kernel
theorem dL_traffic_10 : decode cL_traffic 10 = .ok (.i2l, 1) := by decide +kernel
theorem dL_traffic_11 : decode cL_traffic 11 = .ok (.lastore, 1) := by decide +kernel
theorem dL_traffic_12 : decode cL_traffic 12 = .ok (.goto 11, 3) := by decide +kernel
theorem dL_traffic_15 : decode cL_traffic 15 = .ok (.astore 5, 2) := by decide +kernel
theorem dL_traffic_17 : decode cL_traffic 17 = .ok (.iconst 1, 1) := by decide +kernel
theorem dL_traffic_18 : decode cL_traffic 18 = .ok (.ireturn, 1) := by decide +kernel
theorem dL_traffic_19 : decode cL_traffic 19 = .ok (.astore 5, 2) := by decide +kernel
theorem dL_traffic_21 : decode cL_traffic 21 = .ok (.iconst 2, 1) := by decide +kernel
theorem dL_traffic_22 : decode cL_traffic 22 = .ok (.ireturn, 1) := by decide +kernel
theorem dL_traffic_23 : decode cL_traffic 23 = .ok (.iconst 0, 1) := by decide +kernel
theorem dL_traffic_24 : decode cL_traffic 24 = .ok (.ireturn, 1) := by decide +kernel
theorem dL_swap_0 : decode cL_swap 0 = .ok (.aload_n 1, 1) := by decide +kernel
theorem dL_swap_1 : decode cL_swap 1 = .ok (.iconst 0, 1) := by decide +kernel
theorem dL_swap_2 : decode cL_swap 2 = .ok (.aload_n 0, 1) := by decide +kernel
theorem dL_swap_3 : decode cL_swap 3 = .ok (.invokevirtual 129, 3) := by decide +kernel
theorem dL_swap_6 : decode cL_swap 6 = .ok (.i2l, 1) := by decide +kernel
theorem dL_swap_7 : decode cL_swap 7 = .ok (.lastore, 1) := by decide +kernel
theorem dL_swap_8 : decode cL_swap 8 = .ok (.goto 6, 3) := by decide +kernel
theorem dL_swap_11 : decode cL_swap 11 = .ok (.astore_n 2, 1) := by decide +kernel
theorem dL_swap_12 : decode cL_swap 12 = .ok (.iconst 1, 1) := by decide +kernel
theorem dL_swap_13 : decode cL_swap 13 = .ok (.ireturn, 1) := by decide +kernel
theorem dL_swap_14 : decode cL_swap 14 = .ok (.iconst 0, 1) := by decide +kernel
theorem dL_swap_15 : decode cL_swap 15 = .ok (.ireturn, 1) := by decide +kernel
theorem dL_nodeOf_0 : decode cL_nodeOf 0 = .ok (.aload_n 2, 1) := by decide +kernel
theorem dL_nodeOf_1 : decode cL_nodeOf 1 = .ok (.iconst 0, 1) := by decide +kernel
theorem dL_nodeOf_2 : decode cL_nodeOf 2 = .ok (.aload_n 0, 1) := by decide +kernel
theorem dL_nodeOf_3 : decode cL_nodeOf 3 = .ok (.iload_n 1, 1) := by decide +kernel
theorem dL_nodeOf_4 : decode cL_nodeOf 4 = .ok (.invokevirtual 133, 3) := by decide +kernel
theorem dL_nodeOf_7 : decode cL_nodeOf 7 = .ok (.i2l, 1) := by decide +kernel
theorem dL_nodeOf_8 : decode cL_nodeOf 8 = .ok (.lastore, 1) := by decide +kernel
theorem dL_nodeOf_9 : decode cL_nodeOf 9 = .ok (.goto 6, 3) := by decide +kernel
theorem dL_nodeOf_12 : decode cL_nodeOf 12 = .ok (.astore_n 3, 1) := by decide +kernel
theorem dL_nodeOf_13 : decode cL_nodeOf 13 = .ok (.iconst 1, 1) := by decide +kernel
theorem dL_nodeOf_14 : decode cL_nodeOf 14 = .ok (.ireturn, 1) := by decide +kernel
theorem dL_nodeOf_15 : decode cL_nodeOf 15 = .ok (.iconst 0, 1) := by decide +kernel
theorem dL_nodeOf_16 : decode cL_nodeOf 16 = .ok (.ireturn, 1) := by decide +kernel
theorem dL_lostShare_0 : decode cL_lostShare 0 = .ok (.aload_n 1, 1) := by decide +kernel
theorem dL_lostShare_1 : decode cL_lostShare 1 = .ok (.iconst 0, 1) := by decide +kernel
theorem dL_lostShare_2 : decode cL_lostShare 2 = .ok (.aload_n 0, 1) := by decide +kernel
theorem dL_lostShare_3 : decode cL_lostShare 3 = .ok (.invokevirtual 136, 3) := by decide +kernel
theorem dL_lostShare_6 : decode cL_lostShare 6 = .ok (.f2d, 1) := by decide +kernel
theorem dL_lostShare_7 : decode cL_lostShare 7 = .ok (.dastore, 1) := by decide +kernel
theorem dL_lostShare_8 : decode cL_lostShare 8 = .ok (.goto 6, 3) := by decide +kernel
theorem dL_lostShare_11 : decode cL_lostShare 11 = .ok (.astore_n 2, 1) := by decide +kernel
theorem dL_lostShare_12 : decode cL_lostShare 12 = .ok (.iconst 1, 1) := by decide +kernel
theorem dL_lostShare_13 : decode cL_lostShare 13 = .ok (.ireturn, 1) := by decide +kernel
theorem dL_lostShare_14 : decode cL_lostShare 14 = .ok (.iconst 0, 1) := by decide +kernel
theorem dL_lostShare_15 : decode cL_lostShare 15 = .ok (.ireturn, 1) := by decide +kernel
theorem dL_meanTime_0 : decode cL_meanTime 0 = .ok (.aload_n 1, 1) := by decide +kernel
theorem dL_meanTime_1 : decode cL_meanTime 1 = .ok (.iconst 0, 1) := by decide +kernel
theorem dL_meanTime_2 : decode cL_meanTime 2 = .ok (.aload_n 0, 1) := by decide +kernel
theorem dL_meanTime_3 : decode cL_meanTime 3 = .ok (.invokevirtual 140, 3) := by decide +kernel
theorem dL_meanTime_6 : decode cL_meanTime 6 = .ok (.dastore, 1) := by decide +kernel
theorem dL_meanTime_7 : decode cL_meanTime 7 = .ok (.goto 6, 3) := by decide +kernel
theorem dL_meanTime_10 : decode cL_meanTime 10 = .ok (.astore_n 2, 1) := by decide +kernel
theorem dL_meanTime_11 : decode cL_meanTime 11 = .ok (.iconst 1, 1) := by decide +kernel
theorem dL_meanTime_12 : decode cL_meanTime 12 = .ok (.ireturn, 1) := by decide +kernel
theorem dL_meanTime_13 : decode cL_meanTime 13 = .ok (.iconst 0, 1) := by decide +kernel
theorem dL_meanTime_14 : decode cL_meanTime 14 = .ok (.ireturn, 1) := by decide +kernel
def f_L_send (μ : me_M) (o : Int64 × UInt64) (v1 : Int32) (v2 : Int32) (v3 : Int32) (v4 : Int32) : Option (me_M × ((Int64 × UInt64) × Int32)) :=
  me_b2 (f_Y_send μ v1 v2 v3 v4) (fun μ1 r1 => me_xm r1 (fun v => some (μ1, (Int32.toInt64 v, o.2), (0 : Int32)))
    (fun k => if k = 1 then some (μ1, o, (1 : Int32)) else if k = 2 then some (μ1, o, (2 : Int32)) else if k = 3 then some (μ1, o, (3 : Int32)) else none))
set_option maxHeartbeats 4000000 in
set_option maxRecDepth 100000 in
theorem c_L_send {B : me_B} (hB : me_St B) (h1 : ∀ i, i < B.2.1 93 → i = 0) {μ : me_M} {v1 : Int32} {v2 : Int32} {v3 : Int32} {v4 : Int32} {μ' : me_M} {o' : Int64 × UInt64} {r : Int32} (hf : f_L_send μ B.2.2.2 v1 v2 v3 v4 = some (μ', o', r)) : ∀ l E z, l.stackTraces = false → me_MetH l yL_send cL_send 7 (some .int) [(0, 14, 17, 13), (0, 14, 21, 15), (0, 14, 25, 17)] 9 157 4 24 E B μ z [me_r 0 0, me_i v1, me_i v2, me_i v3, me_i v4, me_r 93 0] (me_ob B o', μ', .ok (some (me_i r))) := by
  intro l E z hl
  refine me_ofZH hl (by decide +kernel) (Nat.le_of_ble_eq_true rfl) (fun X C N hT => ?_)
  unfold f_L_send at hf
  refine me_aload C (Or.inr (Or.inl ⟨_, rfl⟩)) dL_send_0 rfl ?_
  refine me_iconst C (v := 0) dL_send_2 (by decide) ?_
  refine me_aload_n C 0 (Or.inr (Or.inl ⟨_, rfl⟩)) dL_send_3 rfl rfl ?_
  refine me_iload_n C 1 dL_send_4 rfl rfl ?_
  refine me_iload_n C 2 dL_send_5 rfl rfl ?_
  refine me_iload_n C 3 dL_send_6 rfl rfl ?_
  refine me_iload C dL_send_7 rfl ?_
  obtain ⟨μ1, r1, h_r, hf⟩ := me_bs2 hf
  rcases r1 with k | v
  · replace hf := me_xme hf
    refine me_callVE C N (As := [me_i v1, me_i v2, me_i v3, me_i v4]) (st := [me_i 0, me_r 93 0]) 4 24 (c_Y_send hB h_r) mv_Y_send ml_L_7 rfl rfl dL_send_9 rfl rfl ⟨by decide, by decide⟩ ⟨by decide, by decide, by decide, by decide⟩ (Nat.le_of_ble_eq_true rfl) ?_
    by_cases c0 : k = 1
    · subst c0
      replace hf := me_ip rfl hf
      refine me_catch C hT (k := 1) [] (0, 14, 17, 13) [(0, 14, 21, 15), (0, 14, 25, 17)] rfl (fun z hz => by cases hz) ⟨by decide, by decide⟩ (by decide) cl_L_13 ca_1 (fun q => ?_)
      refine me_astore C (Or.inr (Or.inr ⟨_, rfl⟩)) dL_send_17 (by decide) (L' := [(6, .inl (.ref q)), (0, me_r 0 0), (1, me_i v1), (2, me_i v2), (3, me_i v3), (4, me_i v4), (5, me_r 93 0)]) rfl ?_
      refine me_iconst C (v := 1) dL_send_19 (by decide) ?_
      exact me_iretO C N dL_send_20 (by cases hf; rfl) (by decide) (by decide)
    replace hf := me_in c0 hf
    by_cases c1 : k = 2
    · subst c1
      replace hf := me_ip rfl hf
      refine me_catch C hT (k := 2) [(0, 14, 17, 13)] (0, 14, 21, 15) [(0, 14, 25, 17)] rfl (List.forall_mem_cons.mpr ⟨⟨by decide, _, cl_L_13, by decide +kernel⟩, (fun z hz => nomatch hz)⟩) ⟨by decide, by decide⟩ (by decide) cl_L_15 ca_2 (fun q => ?_)
      refine me_astore C (Or.inr (Or.inr ⟨_, rfl⟩)) dL_send_21 (by decide) (L' := [(6, .inl (.ref q)), (0, me_r 0 0), (1, me_i v1), (2, me_i v2), (3, me_i v3), (4, me_i v4), (5, me_r 93 0)]) rfl ?_
      refine me_iconst C (v := 2) dL_send_23 (by decide) ?_
      exact me_iretO C N dL_send_24 (by cases hf; rfl) (by decide) (by decide)
    replace hf := me_in c1 hf
    by_cases c2 : k = 3
    · subst c2
      replace hf := me_ip rfl hf
      refine me_catch C hT (k := 3) [(0, 14, 17, 13), (0, 14, 21, 15)] (0, 14, 25, 17) [] rfl (List.forall_mem_cons.mpr ⟨⟨by decide, _, cl_L_13, by decide +kernel⟩, (List.forall_mem_cons.mpr ⟨⟨by decide, _, cl_L_15, by decide +kernel⟩, (fun z hz => nomatch hz)⟩)⟩) ⟨by decide, by decide⟩ (by decide) cl_L_17 ca_3 (fun q => ?_)
      refine me_astore C (Or.inr (Or.inr ⟨_, rfl⟩)) dL_send_25 (by decide) (L' := [(6, .inl (.ref q)), (0, me_r 0 0), (1, me_i v1), (2, me_i v2), (3, me_i v3), (4, me_i v4), (5, me_r 93 0)]) rfl ?_
      refine me_iconst C (v := 3) dL_send_27 (by decide) ?_
      exact me_iretO C N dL_send_28 (by cases hf; rfl) (by decide) (by decide)
    replace hf := me_in c2 hf
    cases hf
  · replace hf := me_xmo hf
    refine me_callV C N (As := [me_i v1, me_i v2, me_i v3, me_i v4]) (st := [me_i 0, me_r 93 0]) 4 24 (c_Y_send hB h_r) mv_Y_send ml_L_7 rfl rfl dL_send_9 rfl rfl ⟨by decide, by decide⟩ ⟨by decide, by decide, by decide, by decide⟩ (Nat.le_of_ble_eq_true rfl) ?_
    refine me_i2l C dL_send_12 ?_
    refine me_last C h1 dL_send_13 ?_
    have C1 := C.ob (Int32.toInt64 v, B.2.2.2.2)
    refine me_goto C1 (tgt := 29) dL_send_14 (by decide) ?_
    refine me_iconst C1 (v := 0) dL_send_29 (by decide) ?_
    exact me_iretO C1 N dL_send_30 (by cases hf; rfl) (by decide) (by decide)

def f_L_multicast (μ : me_M) (o : Int64 × UInt64) (v1 : Int32) (v2 : Int32) (v3 : Int32) : Option (me_M × ((Int64 × UInt64) × Int32)) :=
  me_b2 (f_Y_multicast μ v1 v2 v3) (fun μ1 r1 => me_xm r1 (fun v => some (μ1, (Int32.toInt64 v, o.2), (0 : Int32)))
    (fun k => if k = 1 then some (μ1, o, (1 : Int32)) else if k = 2 then some (μ1, o, (2 : Int32)) else if k = 3 then some (μ1, o, (3 : Int32)) else none))
set_option maxHeartbeats 4000000 in
set_option maxRecDepth 100000 in
theorem c_L_multicast {B : me_B} (hB : me_St B) (h1 : ∀ i, i < B.2.1 93 → i = 0) {μ : me_M} {v1 : Int32} {v2 : Int32} {v3 : Int32} {μ' : me_M} {o' : Int64 × UInt64} {r : Int32} (hf : f_L_multicast μ B.2.2.2 v1 v2 v3 = some (μ', o', r)) : ∀ l E z, l.stackTraces = false → me_MetH l yL_multicast cL_multicast 6 (some .int) [(0, 12, 15, 13), (0, 12, 19, 15), (0, 12, 23, 17)] 8 136 2 12 E B μ z [me_r 0 0, me_i v1, me_i v2, me_i v3, me_r 93 0] (me_ob B o', μ', .ok (some (me_i r))) := by
  intro l E z hl
  refine me_ofZH hl (by decide +kernel) (Nat.le_of_ble_eq_true rfl) (fun X C N hT => ?_)
  unfold f_L_multicast at hf
  refine me_aload C (Or.inr (Or.inl ⟨_, rfl⟩)) dL_multicast_0 rfl ?_
  refine me_iconst C (v := 0) dL_multicast_2 (by decide) ?_
  refine me_aload_n C 0 (Or.inr (Or.inl ⟨_, rfl⟩)) dL_multicast_3 rfl rfl ?_
  refine me_iload_n C 1 dL_multicast_4 rfl rfl ?_
  refine me_iload_n C 2 dL_multicast_5 rfl rfl ?_
  refine me_iload_n C 3 dL_multicast_6 rfl rfl ?_
  obtain ⟨μ1, r1, h_r, hf⟩ := me_bs2 hf
  rcases r1 with k | v
  · replace hf := me_xme hf
    refine me_callVE C N (As := [me_i v1, me_i v2, me_i v3]) (st := [me_i 0, me_r 93 0]) 2 12 (c_Y_multicast hB h_r) mv_Y_multicast ml_L_19 rfl rfl dL_multicast_7 rfl rfl ⟨by decide, by decide⟩ ⟨by decide, by decide, by decide, by decide⟩ (Nat.le_of_ble_eq_true rfl) ?_
    by_cases c0 : k = 1
    · subst c0
      replace hf := me_ip rfl hf
      refine me_catch C hT (k := 1) [] (0, 12, 15, 13) [(0, 12, 19, 15), (0, 12, 23, 17)] rfl (fun z hz => by cases hz) ⟨by decide, by decide⟩ (by decide) cl_L_13 ca_1 (fun q => ?_)
      refine me_astore C (Or.inr (Or.inr ⟨_, rfl⟩)) dL_multicast_15 (by decide) (L' := [(5, .inl (.ref q)), (0, me_r 0 0), (1, me_i v1), (2, me_i v2), (3, me_i v3), (4, me_r 93 0)]) rfl ?_
      refine me_iconst C (v := 1) dL_multicast_17 (by decide) ?_
      exact me_iretO C N dL_multicast_18 (by cases hf; rfl) (by decide) (by decide)
    replace hf := me_in c0 hf
    by_cases c1 : k = 2
    · subst c1
      replace hf := me_ip rfl hf
      refine me_catch C hT (k := 2) [(0, 12, 15, 13)] (0, 12, 19, 15) [(0, 12, 23, 17)] rfl (List.forall_mem_cons.mpr ⟨⟨by decide, _, cl_L_13, by decide +kernel⟩, (fun z hz => nomatch hz)⟩) ⟨by decide, by decide⟩ (by decide) cl_L_15 ca_2 (fun q => ?_)
      refine me_astore C (Or.inr (Or.inr ⟨_, rfl⟩)) dL_multicast_19 (by decide) (L' := [(5, .inl (.ref q)), (0, me_r 0 0), (1, me_i v1), (2, me_i v2), (3, me_i v3), (4, me_r 93 0)]) rfl ?_
      refine me_iconst C (v := 2) dL_multicast_21 (by decide) ?_
      exact me_iretO C N dL_multicast_22 (by cases hf; rfl) (by decide) (by decide)
    replace hf := me_in c1 hf
    by_cases c2 : k = 3
    · subst c2
      replace hf := me_ip rfl hf
      refine me_catch C hT (k := 3) [(0, 12, 15, 13), (0, 12, 19, 15)] (0, 12, 23, 17) [] rfl (List.forall_mem_cons.mpr ⟨⟨by decide, _, cl_L_13, by decide +kernel⟩, (List.forall_mem_cons.mpr ⟨⟨by decide, _, cl_L_15, by decide +kernel⟩, (fun z hz => nomatch hz)⟩)⟩) ⟨by decide, by decide⟩ (by decide) cl_L_17 ca_3 (fun q => ?_)
      refine me_astore C (Or.inr (Or.inr ⟨_, rfl⟩)) dL_multicast_23 (by decide) (L' := [(5, .inl (.ref q)), (0, me_r 0 0), (1, me_i v1), (2, me_i v2), (3, me_i v3), (4, me_r 93 0)]) rfl ?_
      refine me_iconst C (v := 3) dL_multicast_25 (by decide) ?_
      exact me_iretO C N dL_multicast_26 (by cases hf; rfl) (by decide) (by decide)
    replace hf := me_in c2 hf
    cases hf
  · replace hf := me_xmo hf
    refine me_callV C N (As := [me_i v1, me_i v2, me_i v3]) (st := [me_i 0, me_r 93 0]) 2 12 (c_Y_multicast hB h_r) mv_Y_multicast ml_L_19 rfl rfl dL_multicast_7 rfl rfl ⟨by decide, by decide⟩ ⟨by decide, by decide, by decide, by decide⟩ (Nat.le_of_ble_eq_true rfl) ?_
    refine me_i2l C dL_multicast_10 ?_
    refine me_last C h1 dL_multicast_11 ?_
    have C1 := C.ob (Int32.toInt64 v, B.2.2.2.2)
    refine me_goto C1 (tgt := 27) dL_multicast_12 (by decide) ?_
    refine me_iconst C1 (v := 0) dL_multicast_27 (by decide) ?_
    exact me_iretO C1 N dL_multicast_28 (by cases hf; rfl) (by decide) (by decide)

def f_L_ask (μ : me_M) (o : Int64 × UInt64) (v1 : Int32) (v2 : Int32) (v3 : Int32) (v4 : Int32) (v5 : Int32) : Option (me_M × ((Int64 × UInt64) × Int32)) :=
  me_b2 (f_Y_ask μ v1 v2 v3 v4 v5) (fun μ1 r1 => me_xm r1 (fun v => some (μ1, (Int32.toInt64 v, o.2), (0 : Int32)))
    (fun k => if k = 1 then some (μ1, o, (1 : Int32)) else if k = 2 then some (μ1, o, (2 : Int32)) else if k = 3 then some (μ1, o, (3 : Int32)) else none))
set_option maxHeartbeats 4000000 in
set_option maxRecDepth 100000 in
theorem c_L_ask {B : me_B} (hB : me_St B) (h1 : ∀ i, i < B.2.1 93 → i = 0) {μ : me_M} {v1 : Int32} {v2 : Int32} {v3 : Int32} {v4 : Int32} {v5 : Int32} {μ' : me_M} {o' : Int64 × UInt64} {r : Int32} (hf : f_L_ask μ B.2.2.2 v1 v2 v3 v4 v5 = some (μ', o', r)) : ∀ l E z, l.stackTraces = false → me_MetH l yL_ask cL_ask 8 (some .int) [(0, 16, 19, 13), (0, 16, 23, 15), (0, 16, 27, 17)] 9 160 4 24 E B μ z [me_r 0 0, me_i v1, me_i v2, me_i v3, me_i v4, me_i v5, me_r 93 0] (me_ob B o', μ', .ok (some (me_i r))) := by
  intro l E z hl
  refine me_ofZH hl (by decide +kernel) (Nat.le_of_ble_eq_true rfl) (fun X C N hT => ?_)
  unfold f_L_ask at hf
  refine me_aload C (Or.inr (Or.inl ⟨_, rfl⟩)) dL_ask_0 rfl ?_
  refine me_iconst C (v := 0) dL_ask_2 (by decide) ?_
  refine me_aload_n C 0 (Or.inr (Or.inl ⟨_, rfl⟩)) dL_ask_3 rfl rfl ?_
  refine me_iload_n C 1 dL_ask_4 rfl rfl ?_
  refine me_iload_n C 2 dL_ask_5 rfl rfl ?_
  refine me_iload_n C 3 dL_ask_6 rfl rfl ?_
  refine me_iload C dL_ask_7 rfl ?_
  refine me_iload C dL_ask_9 rfl ?_
  obtain ⟨μ1, r1, h_r, hf⟩ := me_bs2 hf
  rcases r1 with k | v
  · replace hf := me_xme hf
    refine me_callVE C N (As := [me_i v1, me_i v2, me_i v3, me_i v4, me_i v5]) (st := [me_i 0, me_r 93 0]) 4 24 (c_Y_ask hB h_r) mv_Y_ask ml_L_23 rfl rfl dL_ask_11 rfl rfl ⟨by decide, by decide⟩ ⟨by decide, by decide, by decide, by decide⟩ (Nat.le_of_ble_eq_true rfl) ?_
    by_cases c0 : k = 1
    · subst c0
      replace hf := me_ip rfl hf
      refine me_catch C hT (k := 1) [] (0, 16, 19, 13) [(0, 16, 23, 15), (0, 16, 27, 17)] rfl (fun z hz => by cases hz) ⟨by decide, by decide⟩ (by decide) cl_L_13 ca_1 (fun q => ?_)
      refine me_astore C (Or.inr (Or.inr ⟨_, rfl⟩)) dL_ask_19 (by decide) (L' := [(7, .inl (.ref q)), (0, me_r 0 0), (1, me_i v1), (2, me_i v2), (3, me_i v3), (4, me_i v4), (5, me_i v5), (6, me_r 93 0)]) rfl ?_
      refine me_iconst C (v := 1) dL_ask_21 (by decide) ?_
      exact me_iretO C N dL_ask_22 (by cases hf; rfl) (by decide) (by decide)
    replace hf := me_in c0 hf
    by_cases c1 : k = 2
    · subst c1
      replace hf := me_ip rfl hf
      refine me_catch C hT (k := 2) [(0, 16, 19, 13)] (0, 16, 23, 15) [(0, 16, 27, 17)] rfl (List.forall_mem_cons.mpr ⟨⟨by decide, _, cl_L_13, by decide +kernel⟩, (fun z hz => nomatch hz)⟩) ⟨by decide, by decide⟩ (by decide) cl_L_15 ca_2 (fun q => ?_)
      refine me_astore C (Or.inr (Or.inr ⟨_, rfl⟩)) dL_ask_23 (by decide) (L' := [(7, .inl (.ref q)), (0, me_r 0 0), (1, me_i v1), (2, me_i v2), (3, me_i v3), (4, me_i v4), (5, me_i v5), (6, me_r 93 0)]) rfl ?_
      refine me_iconst C (v := 2) dL_ask_25 (by decide) ?_
      exact me_iretO C N dL_ask_26 (by cases hf; rfl) (by decide) (by decide)
    replace hf := me_in c1 hf
    by_cases c2 : k = 3
    · subst c2
      replace hf := me_ip rfl hf
      refine me_catch C hT (k := 3) [(0, 16, 19, 13), (0, 16, 23, 15)] (0, 16, 27, 17) [] rfl (List.forall_mem_cons.mpr ⟨⟨by decide, _, cl_L_13, by decide +kernel⟩, (List.forall_mem_cons.mpr ⟨⟨by decide, _, cl_L_15, by decide +kernel⟩, (fun z hz => nomatch hz)⟩)⟩) ⟨by decide, by decide⟩ (by decide) cl_L_17 ca_3 (fun q => ?_)
      refine me_astore C (Or.inr (Or.inr ⟨_, rfl⟩)) dL_ask_27 (by decide) (L' := [(7, .inl (.ref q)), (0, me_r 0 0), (1, me_i v1), (2, me_i v2), (3, me_i v3), (4, me_i v4), (5, me_i v5), (6, me_r 93 0)]) rfl ?_
      refine me_iconst C (v := 3) dL_ask_29 (by decide) ?_
      exact me_iretO C N dL_ask_30 (by cases hf; rfl) (by decide) (by decide)
    replace hf := me_in c2 hf
    cases hf
  · replace hf := me_xmo hf
    refine me_callV C N (As := [me_i v1, me_i v2, me_i v3, me_i v4, me_i v5]) (st := [me_i 0, me_r 93 0]) 4 24 (c_Y_ask hB h_r) mv_Y_ask ml_L_23 rfl rfl dL_ask_11 rfl rfl ⟨by decide, by decide⟩ ⟨by decide, by decide, by decide, by decide⟩ (Nat.le_of_ble_eq_true rfl) ?_
    refine me_i2l C dL_ask_14 ?_
    refine me_last C h1 dL_ask_15 ?_
    have C1 := C.ob (Int32.toInt64 v, B.2.2.2.2)
    refine me_goto C1 (tgt := 31) dL_ask_16 (by decide) ?_
    refine me_iconst C1 (v := 0) dL_ask_31 (by decide) ?_
    exact me_iretO C1 N dL_ask_32 (by cases hf; rfl) (by decide) (by decide)

def f_L_answer (μ : me_M) (o : Int64 × UInt64) (v1 : Int32) : Option (me_M × ((Int64 × UInt64) × Int32)) :=
  me_bd (f_Y_answer μ v1) (fun r1 => me_xm r1 (fun v => some (μ, (Int32.toInt64 v, o.2), (0 : Int32)))
    (fun k => if k = 1 then some (μ, o, (1 : Int32)) else if k = 2 then some (μ, o, (2 : Int32)) else if k = 5 then some (μ, o, (3 : Int32)) else none))
set_option maxHeartbeats 4000000 in
set_option maxRecDepth 100000 in
theorem c_L_answer {B : me_B} (hB : me_St B) (h1 : ∀ i, i < B.2.1 93 → i = 0) {μ : me_M} {v1 : Int32} {μ' : me_M} {o' : Int64 × UInt64} {r : Int32} (hf : f_L_answer μ B.2.2.2 v1 = some (μ', o', r)) : ∀ l E z, l.stackTraces = false → me_MetH l yL_answer cL_answer 4 (some .int) [(0, 9, 12, 13), (0, 9, 15, 15), (0, 9, 18, 31)] 8 134 2 12 E B μ z [me_r 0 0, me_i v1, me_r 93 0] (me_ob B o', μ', .ok (some (me_i r))) := by
  intro l E z hl
  refine me_ofZH hl (by decide +kernel) (Nat.le_of_ble_eq_true rfl) (fun X C N hT => ?_)
  unfold f_L_answer at hf
  refine me_aload_n C 2 (Or.inr (Or.inl ⟨_, rfl⟩)) dL_answer_0 rfl rfl ?_
  refine me_iconst C (v := 0) dL_answer_1 (by decide) ?_
  refine me_aload_n C 0 (Or.inr (Or.inl ⟨_, rfl⟩)) dL_answer_2 rfl rfl ?_
  refine me_iload_n C 1 dL_answer_3 rfl rfl ?_
  obtain ⟨r1, h_r, hf⟩ := me_bs hf
  rcases r1 with k | v
  · replace hf := me_xme hf
    refine me_callVE C N (As := [me_i v1]) (st := [me_i 0, me_r 93 0]) 2 12 (c_Y_answer hB h_r) mv_Y_answer ml_L_27 rfl rfl dL_answer_4 rfl rfl ⟨by decide, by decide⟩ ⟨by decide, by decide, by decide, by decide⟩ (Nat.le_of_ble_eq_true rfl) ?_
    by_cases c0 : k = 1
    · subst c0
      replace hf := me_ip rfl hf
      refine me_catch C hT (k := 1) [] (0, 9, 12, 13) [(0, 9, 15, 15), (0, 9, 18, 31)] rfl (fun z hz => by cases hz) ⟨by decide, by decide⟩ (by decide) cl_L_13 ca_1 (fun q => ?_)
      refine me_astore_n C 3 (Or.inr (Or.inr ⟨_, rfl⟩)) dL_answer_12 rfl (by decide) (L' := [(3, .inl (.ref q)), (0, me_r 0 0), (1, me_i v1), (2, me_r 93 0)]) rfl ?_
      refine me_iconst C (v := 1) dL_answer_13 (by decide) ?_
      exact me_iretO C N dL_answer_14 (by cases hf; rfl) (by decide) (by decide)
    replace hf := me_in c0 hf
    by_cases c1 : k = 2
    · subst c1
      replace hf := me_ip rfl hf
      refine me_catch C hT (k := 2) [(0, 9, 12, 13)] (0, 9, 15, 15) [(0, 9, 18, 31)] rfl (List.forall_mem_cons.mpr ⟨⟨by decide, _, cl_L_13, by decide +kernel⟩, (fun z hz => nomatch hz)⟩) ⟨by decide, by decide⟩ (by decide) cl_L_15 ca_2 (fun q => ?_)
      refine me_astore_n C 3 (Or.inr (Or.inr ⟨_, rfl⟩)) dL_answer_15 rfl (by decide) (L' := [(3, .inl (.ref q)), (0, me_r 0 0), (1, me_i v1), (2, me_r 93 0)]) rfl ?_
      refine me_iconst C (v := 2) dL_answer_16 (by decide) ?_
      exact me_iretO C N dL_answer_17 (by cases hf; rfl) (by decide) (by decide)
    replace hf := me_in c1 hf
    by_cases c2 : k = 5
    · subst c2
      replace hf := me_ip rfl hf
      refine me_catch C hT (k := 5) [(0, 9, 12, 13), (0, 9, 15, 15)] (0, 9, 18, 31) [] rfl (List.forall_mem_cons.mpr ⟨⟨by decide, _, cl_L_13, by decide +kernel⟩, (List.forall_mem_cons.mpr ⟨⟨by decide, _, cl_L_15, by decide +kernel⟩, (fun z hz => nomatch hz)⟩)⟩) ⟨by decide, by decide⟩ (by decide) cl_L_31 ca_5 (fun q => ?_)
      refine me_astore_n C 3 (Or.inr (Or.inr ⟨_, rfl⟩)) dL_answer_18 rfl (by decide) (L' := [(3, .inl (.ref q)), (0, me_r 0 0), (1, me_i v1), (2, me_r 93 0)]) rfl ?_
      refine me_iconst C (v := 3) dL_answer_19 (by decide) ?_
      exact me_iretO C N dL_answer_20 (by cases hf; rfl) (by decide) (by decide)
    replace hf := me_in c2 hf
    cases hf
  · replace hf := me_xmo hf
    refine me_callV C N (As := [me_i v1]) (st := [me_i 0, me_r 93 0]) 2 12 (c_Y_answer hB h_r) mv_Y_answer ml_L_27 rfl rfl dL_answer_4 rfl rfl ⟨by decide, by decide⟩ ⟨by decide, by decide, by decide, by decide⟩ (Nat.le_of_ble_eq_true rfl) ?_
    refine me_i2l C dL_answer_7 ?_
    refine me_last C h1 dL_answer_8 ?_
    have C1 := C.ob (Int32.toInt64 v, B.2.2.2.2)
    refine me_goto C1 (tgt := 21) dL_answer_9 (by decide) ?_
    refine me_iconst C1 (v := 0) dL_answer_21 (by decide) ?_
    exact me_iretO C1 N dL_answer_22 (by cases hf; rfl) (by decide) (by decide)

def f_L_kind (μ : me_M) (o : Int64 × UInt64) (v1 : Int32) : Option (me_M × ((Int64 × UInt64) × Int32)) :=
  me_bd (f_Y_kind μ v1) (fun r1 => me_xm r1 (fun v => some (μ, (Int32.toInt64 v, o.2), (0 : Int32)))
    (fun k => if k = 1 then some (μ, o, (1 : Int32)) else none))
set_option maxHeartbeats 4000000 in
set_option maxRecDepth 100000 in
theorem c_L_kind {B : me_B} (hB : me_St B) (h1 : ∀ i, i < B.2.1 93 → i = 0) {μ : me_M} {v1 : Int32} {μ' : me_M} {o' : Int64 × UInt64} {r : Int32} (hf : f_L_kind μ B.2.2.2 v1 = some (μ', o', r)) : ∀ l E z, l.stackTraces = false → me_MetH l yL_kind cL_kind 4 (some .int) [(0, 9, 12, 13)] 8 133 1 6 E B μ z [me_r 0 0, me_i v1, me_r 93 0] (me_ob B o', μ', .ok (some (me_i r))) := by
  intro l E z hl
  refine me_ofZH hl (by decide +kernel) (Nat.le_of_ble_eq_true rfl) (fun X C N hT => ?_)
  unfold f_L_kind at hf
  refine me_aload_n C 2 (Or.inr (Or.inl ⟨_, rfl⟩)) dL_kind_0 rfl rfl ?_
  refine me_iconst C (v := 0) dL_kind_1 (by decide) ?_
  refine me_aload_n C 0 (Or.inr (Or.inl ⟨_, rfl⟩)) dL_kind_2 rfl rfl ?_
  refine me_iload_n C 1 dL_kind_3 rfl rfl ?_
  obtain ⟨r1, h_r, hf⟩ := me_bs hf
  rcases r1 with k | v
  · replace hf := me_xme hf
    refine me_callVE C N (As := [me_i v1]) (st := [me_i 0, me_r 93 0]) 1 6 (c_Y_kind hB h_r) mv_Y_kind ml_L_33 rfl rfl dL_kind_4 rfl rfl ⟨by decide, by decide⟩ ⟨by decide, by decide, by decide, by decide⟩ (Nat.le_of_ble_eq_true rfl) ?_
    by_cases c0 : k = 1
    · subst c0
      replace hf := me_ip rfl hf
      refine me_catch C hT (k := 1) [] (0, 9, 12, 13) [] rfl (fun z hz => by cases hz) ⟨by decide, by decide⟩ (by decide) cl_L_13 ca_1 (fun q => ?_)
      refine me_astore_n C 3 (Or.inr (Or.inr ⟨_, rfl⟩)) dL_kind_12 rfl (by decide) (L' := [(3, .inl (.ref q)), (0, me_r 0 0), (1, me_i v1), (2, me_r 93 0)]) rfl ?_
      refine me_iconst C (v := 1) dL_kind_13 (by decide) ?_
      exact me_iretO C N dL_kind_14 (by cases hf; rfl) (by decide) (by decide)
    replace hf := me_in c0 hf
    cases hf
  · replace hf := me_xmo hf
    refine me_callV C N (As := [me_i v1]) (st := [me_i 0, me_r 93 0]) 1 6 (c_Y_kind hB h_r) mv_Y_kind ml_L_33 rfl rfl dL_kind_4 rfl rfl ⟨by decide, by decide⟩ ⟨by decide, by decide, by decide, by decide⟩ (Nat.le_of_ble_eq_true rfl) ?_
    refine me_i2l C dL_kind_7 ?_
    refine me_last C h1 dL_kind_8 ?_
    have C1 := C.ob (Int32.toInt64 v, B.2.2.2.2)
    refine me_goto C1 (tgt := 15) dL_kind_9 (by decide) ?_
    refine me_iconst C1 (v := 0) dL_kind_15 (by decide) ?_
    exact me_iretO C1 N dL_kind_16 (by cases hf; rfl) (by decide) (by decide)

def f_L_state (μ : me_M) (o : Int64 × UInt64) (v1 : Int32) : Option (me_M × ((Int64 × UInt64) × Int32)) :=
  me_bd (f_Y_state μ v1) (fun r1 => me_xm r1 (fun v => some (μ, (Int32.toInt64 v, o.2), (0 : Int32)))
    (fun k => if k = 1 then some (μ, o, (1 : Int32)) else none))
set_option maxHeartbeats 4000000 in
set_option maxRecDepth 100000 in
theorem c_L_state {B : me_B} (hB : me_St B) (h1 : ∀ i, i < B.2.1 93 → i = 0) {μ : me_M} {v1 : Int32} {μ' : me_M} {o' : Int64 × UInt64} {r : Int32} (hf : f_L_state μ B.2.2.2 v1 = some (μ', o', r)) : ∀ l E z, l.stackTraces = false → me_MetH l yL_state cL_state 4 (some .int) [(0, 9, 12, 13)] 8 133 1 6 E B μ z [me_r 0 0, me_i v1, me_r 93 0] (me_ob B o', μ', .ok (some (me_i r))) := by
  intro l E z hl
  refine me_ofZH hl (by decide +kernel) (Nat.le_of_ble_eq_true rfl) (fun X C N hT => ?_)
  unfold f_L_state at hf
  refine me_aload_n C 2 (Or.inr (Or.inl ⟨_, rfl⟩)) dL_state_0 rfl rfl ?_
  refine me_iconst C (v := 0) dL_state_1 (by decide) ?_
  refine me_aload_n C 0 (Or.inr (Or.inl ⟨_, rfl⟩)) dL_state_2 rfl rfl ?_
  refine me_iload_n C 1 dL_state_3 rfl rfl ?_
  obtain ⟨r1, h_r, hf⟩ := me_bs hf
  rcases r1 with k | v
  · replace hf := me_xme hf
    refine me_callVE C N (As := [me_i v1]) (st := [me_i 0, me_r 93 0]) 1 6 (c_Y_state hB h_r) mv_Y_state ml_L_37 rfl rfl dL_state_4 rfl rfl ⟨by decide, by decide⟩ ⟨by decide, by decide, by decide, by decide⟩ (Nat.le_of_ble_eq_true rfl) ?_
    by_cases c0 : k = 1
    · subst c0
      replace hf := me_ip rfl hf
      refine me_catch C hT (k := 1) [] (0, 9, 12, 13) [] rfl (fun z hz => by cases hz) ⟨by decide, by decide⟩ (by decide) cl_L_13 ca_1 (fun q => ?_)
      refine me_astore_n C 3 (Or.inr (Or.inr ⟨_, rfl⟩)) dL_state_12 rfl (by decide) (L' := [(3, .inl (.ref q)), (0, me_r 0 0), (1, me_i v1), (2, me_r 93 0)]) rfl ?_
      refine me_iconst C (v := 1) dL_state_13 (by decide) ?_
      exact me_iretO C N dL_state_14 (by cases hf; rfl) (by decide) (by decide)
    replace hf := me_in c0 hf
    cases hf
  · replace hf := me_xmo hf
    refine me_callV C N (As := [me_i v1]) (st := [me_i 0, me_r 93 0]) 1 6 (c_Y_state hB h_r) mv_Y_state ml_L_37 rfl rfl dL_state_4 rfl rfl ⟨by decide, by decide⟩ ⟨by decide, by decide, by decide, by decide⟩ (Nat.le_of_ble_eq_true rfl) ?_
    refine me_i2l C dL_state_7 ?_
    refine me_last C h1 dL_state_8 ?_
    have C1 := C.ob (Int32.toInt64 v, B.2.2.2.2)
    refine me_goto C1 (tgt := 15) dL_state_9 (by decide) ?_
    refine me_iconst C1 (v := 0) dL_state_15 (by decide) ?_
    exact me_iretO C1 N dL_state_16 (by cases hf; rfl) (by decide) (by decide)

def f_L_word (μ : me_M) (o : Int64 × UInt64) (v1 : Int32) : Option (me_M × ((Int64 × UInt64) × Int32)) :=
  me_bd (f_Y_word μ v1) (fun r1 => me_xm r1 (fun v => some (μ, (Int32.toInt64 v, o.2), (0 : Int32)))
    (fun k => if k = 1 then some (μ, o, (1 : Int32)) else none))
set_option maxHeartbeats 4000000 in
set_option maxRecDepth 100000 in
theorem c_L_word {B : me_B} (hB : me_St B) (h1 : ∀ i, i < B.2.1 93 → i = 0) {μ : me_M} {v1 : Int32} {μ' : me_M} {o' : Int64 × UInt64} {r : Int32} (hf : f_L_word μ B.2.2.2 v1 = some (μ', o', r)) : ∀ l E z, l.stackTraces = false → me_MetH l yL_word cL_word 4 (some .int) [(0, 9, 12, 13)] 8 133 1 6 E B μ z [me_r 0 0, me_i v1, me_r 93 0] (me_ob B o', μ', .ok (some (me_i r))) := by
  intro l E z hl
  refine me_ofZH hl (by decide +kernel) (Nat.le_of_ble_eq_true rfl) (fun X C N hT => ?_)
  unfold f_L_word at hf
  refine me_aload_n C 2 (Or.inr (Or.inl ⟨_, rfl⟩)) dL_word_0 rfl rfl ?_
  refine me_iconst C (v := 0) dL_word_1 (by decide) ?_
  refine me_aload_n C 0 (Or.inr (Or.inl ⟨_, rfl⟩)) dL_word_2 rfl rfl ?_
  refine me_iload_n C 1 dL_word_3 rfl rfl ?_
  obtain ⟨r1, h_r, hf⟩ := me_bs hf
  rcases r1 with k | v
  · replace hf := me_xme hf
    refine me_callVE C N (As := [me_i v1]) (st := [me_i 0, me_r 93 0]) 1 6 (c_Y_word hB h_r) mv_Y_word ml_L_40 rfl rfl dL_word_4 rfl rfl ⟨by decide, by decide⟩ ⟨by decide, by decide, by decide, by decide⟩ (Nat.le_of_ble_eq_true rfl) ?_
    by_cases c0 : k = 1
    · subst c0
      replace hf := me_ip rfl hf
      refine me_catch C hT (k := 1) [] (0, 9, 12, 13) [] rfl (fun z hz => by cases hz) ⟨by decide, by decide⟩ (by decide) cl_L_13 ca_1 (fun q => ?_)
      refine me_astore_n C 3 (Or.inr (Or.inr ⟨_, rfl⟩)) dL_word_12 rfl (by decide) (L' := [(3, .inl (.ref q)), (0, me_r 0 0), (1, me_i v1), (2, me_r 93 0)]) rfl ?_
      refine me_iconst C (v := 1) dL_word_13 (by decide) ?_
      exact me_iretO C N dL_word_14 (by cases hf; rfl) (by decide) (by decide)
    replace hf := me_in c0 hf
    cases hf
  · replace hf := me_xmo hf
    refine me_callV C N (As := [me_i v1]) (st := [me_i 0, me_r 93 0]) 1 6 (c_Y_word hB h_r) mv_Y_word ml_L_40 rfl rfl dL_word_4 rfl rfl ⟨by decide, by decide⟩ ⟨by decide, by decide, by decide, by decide⟩ (Nat.le_of_ble_eq_true rfl) ?_
    refine me_i2l C dL_word_7 ?_
    refine me_last C h1 dL_word_8 ?_
    have C1 := C.ob (Int32.toInt64 v, B.2.2.2.2)
    refine me_goto C1 (tgt := 15) dL_word_9 (by decide) ?_
    refine me_iconst C1 (v := 0) dL_word_15 (by decide) ?_
    exact me_iretO C1 N dL_word_16 (by cases hf; rfl) (by decide) (by decide)

def f_L_head (μ : me_M) (o : Int64 × UInt64) (v1 : Int32) : Option (me_M × ((Int64 × UInt64) × Int32)) :=
  me_bd (f_Y_head μ v1) (fun r1 => me_xm r1 (fun v => some (μ, (Int32.toInt64 v, o.2), (0 : Int32)))
    (fun k => if k = 1 then some (μ, o, (1 : Int32)) else if k = 5 then some (μ, o, (2 : Int32)) else none))
set_option maxHeartbeats 4000000 in
set_option maxRecDepth 100000 in
theorem c_L_head {B : me_B} (hB : me_St B) (h1 : ∀ i, i < B.2.1 93 → i = 0) {μ : me_M} {v1 : Int32} {μ' : me_M} {o' : Int64 × UInt64} {r : Int32} (hf : f_L_head μ B.2.2.2 v1 = some (μ', o', r)) : ∀ l E z, l.stackTraces = false → me_MetH l yL_head cL_head 4 (some .int) [(0, 9, 12, 13), (0, 9, 15, 31)] 8 134 2 12 E B μ z [me_r 0 0, me_i v1, me_r 93 0] (me_ob B o', μ', .ok (some (me_i r))) := by
  intro l E z hl
  refine me_ofZH hl (by decide +kernel) (Nat.le_of_ble_eq_true rfl) (fun X C N hT => ?_)
  unfold f_L_head at hf
  refine me_aload_n C 2 (Or.inr (Or.inl ⟨_, rfl⟩)) dL_head_0 rfl rfl ?_
  refine me_iconst C (v := 0) dL_head_1 (by decide) ?_
  refine me_aload_n C 0 (Or.inr (Or.inl ⟨_, rfl⟩)) dL_head_2 rfl rfl ?_
  refine me_iload_n C 1 dL_head_3 rfl rfl ?_
  obtain ⟨r1, h_r, hf⟩ := me_bs hf
  rcases r1 with k | v
  · replace hf := me_xme hf
    refine me_callVE C N (As := [me_i v1]) (st := [me_i 0, me_r 93 0]) 2 12 (c_Y_head hB h_r) mv_Y_head ml_L_43 rfl rfl dL_head_4 rfl rfl ⟨by decide, by decide⟩ ⟨by decide, by decide, by decide, by decide⟩ (Nat.le_of_ble_eq_true rfl) ?_
    by_cases c0 : k = 1
    · subst c0
      replace hf := me_ip rfl hf
      refine me_catch C hT (k := 1) [] (0, 9, 12, 13) [(0, 9, 15, 31)] rfl (fun z hz => by cases hz) ⟨by decide, by decide⟩ (by decide) cl_L_13 ca_1 (fun q => ?_)
      refine me_astore_n C 3 (Or.inr (Or.inr ⟨_, rfl⟩)) dL_head_12 rfl (by decide) (L' := [(3, .inl (.ref q)), (0, me_r 0 0), (1, me_i v1), (2, me_r 93 0)]) rfl ?_
      refine me_iconst C (v := 1) dL_head_13 (by decide) ?_
      exact me_iretO C N dL_head_14 (by cases hf; rfl) (by decide) (by decide)
    replace hf := me_in c0 hf
    by_cases c1 : k = 5
    · subst c1
      replace hf := me_ip rfl hf
      refine me_catch C hT (k := 5) [(0, 9, 12, 13)] (0, 9, 15, 31) [] rfl (List.forall_mem_cons.mpr ⟨⟨by decide, _, cl_L_13, by decide +kernel⟩, (fun z hz => nomatch hz)⟩) ⟨by decide, by decide⟩ (by decide) cl_L_31 ca_5 (fun q => ?_)
      refine me_astore_n C 3 (Or.inr (Or.inr ⟨_, rfl⟩)) dL_head_15 rfl (by decide) (L' := [(3, .inl (.ref q)), (0, me_r 0 0), (1, me_i v1), (2, me_r 93 0)]) rfl ?_
      refine me_iconst C (v := 2) dL_head_16 (by decide) ?_
      exact me_iretO C N dL_head_17 (by cases hf; rfl) (by decide) (by decide)
    replace hf := me_in c1 hf
    cases hf
  · replace hf := me_xmo hf
    refine me_callV C N (As := [me_i v1]) (st := [me_i 0, me_r 93 0]) 2 12 (c_Y_head hB h_r) mv_Y_head ml_L_43 rfl rfl dL_head_4 rfl rfl ⟨by decide, by decide⟩ ⟨by decide, by decide, by decide, by decide⟩ (Nat.le_of_ble_eq_true rfl) ?_
    refine me_i2l C dL_head_7 ?_
    refine me_last C h1 dL_head_8 ?_
    have C1 := C.ob (Int32.toInt64 v, B.2.2.2.2)
    refine me_goto C1 (tgt := 18) dL_head_9 (by decide) ?_
    refine me_iconst C1 (v := 0) dL_head_18 (by decide) ?_
    exact me_iretO C1 N dL_head_19 (by cases hf; rfl) (by decide) (by decide)

def f_L_pieces (μ : me_M) (o : Int64 × UInt64) (v1 : Int32) : Option (me_M × ((Int64 × UInt64) × Int32)) :=
  me_bd (f_Y_pieces μ v1) (fun r1 => me_xm r1 (fun v => some (μ, (Int32.toInt64 v, o.2), (0 : Int32)))
    (fun k => if k = 1 then some (μ, o, (1 : Int32)) else none))
set_option maxHeartbeats 4000000 in
set_option maxRecDepth 100000 in
theorem c_L_pieces {B : me_B} (hB : me_St B) (h1 : ∀ i, i < B.2.1 93 → i = 0) {μ : me_M} {v1 : Int32} {μ' : me_M} {o' : Int64 × UInt64} {r : Int32} (hf : f_L_pieces μ B.2.2.2 v1 = some (μ', o', r)) : ∀ l E z, l.stackTraces = false → me_MetH l yL_pieces cL_pieces 4 (some .int) [(0, 9, 12, 13)] 8 133 1 6 E B μ z [me_r 0 0, me_i v1, me_r 93 0] (me_ob B o', μ', .ok (some (me_i r))) := by
  intro l E z hl
  refine me_ofZH hl (by decide +kernel) (Nat.le_of_ble_eq_true rfl) (fun X C N hT => ?_)
  unfold f_L_pieces at hf
  refine me_aload_n C 2 (Or.inr (Or.inl ⟨_, rfl⟩)) dL_pieces_0 rfl rfl ?_
  refine me_iconst C (v := 0) dL_pieces_1 (by decide) ?_
  refine me_aload_n C 0 (Or.inr (Or.inl ⟨_, rfl⟩)) dL_pieces_2 rfl rfl ?_
  refine me_iload_n C 1 dL_pieces_3 rfl rfl ?_
  obtain ⟨r1, h_r, hf⟩ := me_bs hf
  rcases r1 with k | v
  · replace hf := me_xme hf
    refine me_callVE C N (As := [me_i v1]) (st := [me_i 0, me_r 93 0]) 1 6 (c_Y_pieces hB h_r) mv_Y_pieces ml_L_46 rfl rfl dL_pieces_4 rfl rfl ⟨by decide, by decide⟩ ⟨by decide, by decide, by decide, by decide⟩ (Nat.le_of_ble_eq_true rfl) ?_
    by_cases c0 : k = 1
    · subst c0
      replace hf := me_ip rfl hf
      refine me_catch C hT (k := 1) [] (0, 9, 12, 13) [] rfl (fun z hz => by cases hz) ⟨by decide, by decide⟩ (by decide) cl_L_13 ca_1 (fun q => ?_)
      refine me_astore_n C 3 (Or.inr (Or.inr ⟨_, rfl⟩)) dL_pieces_12 rfl (by decide) (L' := [(3, .inl (.ref q)), (0, me_r 0 0), (1, me_i v1), (2, me_r 93 0)]) rfl ?_
      refine me_iconst C (v := 1) dL_pieces_13 (by decide) ?_
      exact me_iretO C N dL_pieces_14 (by cases hf; rfl) (by decide) (by decide)
    replace hf := me_in c0 hf
    cases hf
  · replace hf := me_xmo hf
    refine me_callV C N (As := [me_i v1]) (st := [me_i 0, me_r 93 0]) 1 6 (c_Y_pieces hB h_r) mv_Y_pieces ml_L_46 rfl rfl dL_pieces_4 rfl rfl ⟨by decide, by decide⟩ ⟨by decide, by decide, by decide, by decide⟩ (Nat.le_of_ble_eq_true rfl) ?_
    refine me_i2l C dL_pieces_7 ?_
    refine me_last C h1 dL_pieces_8 ?_
    have C1 := C.ob (Int32.toInt64 v, B.2.2.2.2)
    refine me_goto C1 (tgt := 15) dL_pieces_9 (by decide) ?_
    refine me_iconst C1 (v := 0) dL_pieces_15 (by decide) ?_
    exact me_iretO C1 N dL_pieces_16 (by cases hf; rfl) (by decide) (by decide)

def f_L_time (μ : me_M) (o : Int64 × UInt64) (v1 : Int32) : Option (me_M × ((Int64 × UInt64) × Int32)) :=
  me_bd (f_Y_time μ v1) (fun r1 => me_xm r1 (fun v => some (μ, (Int32.toInt64 v, o.2), (0 : Int32)))
    (fun k => if k = 1 then some (μ, o, (1 : Int32)) else if k = 5 then some (μ, o, (2 : Int32)) else none))
set_option maxHeartbeats 4000000 in
set_option maxRecDepth 100000 in
theorem c_L_time {B : me_B} (hB : me_St B) (h1 : ∀ i, i < B.2.1 93 → i = 0) {μ : me_M} {v1 : Int32} {μ' : me_M} {o' : Int64 × UInt64} {r : Int32} (hf : f_L_time μ B.2.2.2 v1 = some (μ', o', r)) : ∀ l E z, l.stackTraces = false → me_MetH l yL_time cL_time 4 (some .int) [(0, 9, 12, 13), (0, 9, 15, 31)] 8 134 2 12 E B μ z [me_r 0 0, me_i v1, me_r 93 0] (me_ob B o', μ', .ok (some (me_i r))) := by
  intro l E z hl
  refine me_ofZH hl (by decide +kernel) (Nat.le_of_ble_eq_true rfl) (fun X C N hT => ?_)
  unfold f_L_time at hf
  refine me_aload_n C 2 (Or.inr (Or.inl ⟨_, rfl⟩)) dL_time_0 rfl rfl ?_
  refine me_iconst C (v := 0) dL_time_1 (by decide) ?_
  refine me_aload_n C 0 (Or.inr (Or.inl ⟨_, rfl⟩)) dL_time_2 rfl rfl ?_
  refine me_iload_n C 1 dL_time_3 rfl rfl ?_
  obtain ⟨r1, h_r, hf⟩ := me_bs hf
  rcases r1 with k | v
  · replace hf := me_xme hf
    refine me_callVE C N (As := [me_i v1]) (st := [me_i 0, me_r 93 0]) 2 12 (c_Y_time hB h_r) mv_Y_time ml_L_49 rfl rfl dL_time_4 rfl rfl ⟨by decide, by decide⟩ ⟨by decide, by decide, by decide, by decide⟩ (Nat.le_of_ble_eq_true rfl) ?_
    by_cases c0 : k = 1
    · subst c0
      replace hf := me_ip rfl hf
      refine me_catch C hT (k := 1) [] (0, 9, 12, 13) [(0, 9, 15, 31)] rfl (fun z hz => by cases hz) ⟨by decide, by decide⟩ (by decide) cl_L_13 ca_1 (fun q => ?_)
      refine me_astore_n C 3 (Or.inr (Or.inr ⟨_, rfl⟩)) dL_time_12 rfl (by decide) (L' := [(3, .inl (.ref q)), (0, me_r 0 0), (1, me_i v1), (2, me_r 93 0)]) rfl ?_
      refine me_iconst C (v := 1) dL_time_13 (by decide) ?_
      exact me_iretO C N dL_time_14 (by cases hf; rfl) (by decide) (by decide)
    replace hf := me_in c0 hf
    by_cases c1 : k = 5
    · subst c1
      replace hf := me_ip rfl hf
      refine me_catch C hT (k := 5) [(0, 9, 12, 13)] (0, 9, 15, 31) [] rfl (List.forall_mem_cons.mpr ⟨⟨by decide, _, cl_L_13, by decide +kernel⟩, (fun z hz => nomatch hz)⟩) ⟨by decide, by decide⟩ (by decide) cl_L_31 ca_5 (fun q => ?_)
      refine me_astore_n C 3 (Or.inr (Or.inr ⟨_, rfl⟩)) dL_time_15 rfl (by decide) (L' := [(3, .inl (.ref q)), (0, me_r 0 0), (1, me_i v1), (2, me_r 93 0)]) rfl ?_
      refine me_iconst C (v := 2) dL_time_16 (by decide) ?_
      exact me_iretO C N dL_time_17 (by cases hf; rfl) (by decide) (by decide)
    replace hf := me_in c1 hf
    cases hf
  · replace hf := me_xmo hf
    refine me_callV C N (As := [me_i v1]) (st := [me_i 0, me_r 93 0]) 2 12 (c_Y_time hB h_r) mv_Y_time ml_L_49 rfl rfl dL_time_4 rfl rfl ⟨by decide, by decide⟩ ⟨by decide, by decide, by decide, by decide⟩ (Nat.le_of_ble_eq_true rfl) ?_
    refine me_i2l C dL_time_7 ?_
    refine me_last C h1 dL_time_8 ?_
    have C1 := C.ob (Int32.toInt64 v, B.2.2.2.2)
    refine me_goto C1 (tgt := 18) dL_time_9 (by decide) ?_
    refine me_iconst C1 (v := 0) dL_time_18 (by decide) ?_
    exact me_iretO C1 N dL_time_19 (by cases hf; rfl) (by decide) (by decide)

def f_L_lying (μ : me_M) (o : Int64 × UInt64) (v1 : Int32) (v2 : Int32) : Option (me_M × ((Int64 × UInt64) × Int32)) :=
  me_bd (f_Y_lying μ v1 v2) (fun r1 => me_xm r1 (fun v => some (μ, (Int32.toInt64 v, o.2), (0 : Int32)))
    (fun k => if k = 1 then some (μ, o, (1 : Int32)) else none))
set_option maxHeartbeats 4000000 in
set_option maxRecDepth 100000 in
theorem c_L_lying {B : me_B} (hB : me_St B) (h1 : ∀ i, i < B.2.1 93 → i = 0) {μ : me_M} {v1 : Int32} {v2 : Int32} {μ' : me_M} {o' : Int64 × UInt64} {r : Int32} (hf : f_L_lying μ B.2.2.2 v1 v2 = some (μ', o', r)) : ∀ l E z, l.stackTraces = false → me_MetH l yL_lying cL_lying 5 (some .int) [(0, 10, 13, 13)] 9 155 2 12 E B μ z [me_r 0 0, me_i v1, me_i v2, me_r 93 0] (me_ob B o', μ', .ok (some (me_i r))) := by
  intro l E z hl
  refine me_ofZH hl (by decide +kernel) (Nat.le_of_ble_eq_true rfl) (fun X C N hT => ?_)
  unfold f_L_lying at hf
  refine me_aload_n C 3 (Or.inr (Or.inl ⟨_, rfl⟩)) dL_lying_0 rfl rfl ?_
  refine me_iconst C (v := 0) dL_lying_1 (by decide) ?_
  refine me_aload_n C 0 (Or.inr (Or.inl ⟨_, rfl⟩)) dL_lying_2 rfl rfl ?_
  refine me_iload_n C 1 dL_lying_3 rfl rfl ?_
  refine me_iload_n C 2 dL_lying_4 rfl rfl ?_
  obtain ⟨r1, h_r, hf⟩ := me_bs hf
  rcases r1 with k | v
  · replace hf := me_xme hf
    refine me_callVE C N (As := [me_i v1, me_i v2]) (st := [me_i 0, me_r 93 0]) 2 12 (c_Y_lying hB h_r) mv_Y_lying ml_L_52 rfl rfl dL_lying_5 rfl rfl ⟨by decide, by decide⟩ ⟨by decide, by decide, by decide, by decide⟩ (Nat.le_of_ble_eq_true rfl) ?_
    by_cases c0 : k = 1
    · subst c0
      replace hf := me_ip rfl hf
      refine me_catch C hT (k := 1) [] (0, 10, 13, 13) [] rfl (fun z hz => by cases hz) ⟨by decide, by decide⟩ (by decide) cl_L_13 ca_1 (fun q => ?_)
      refine me_astore C (Or.inr (Or.inr ⟨_, rfl⟩)) dL_lying_13 (by decide) (L' := [(4, .inl (.ref q)), (0, me_r 0 0), (1, me_i v1), (2, me_i v2), (3, me_r 93 0)]) rfl ?_
      refine me_iconst C (v := 1) dL_lying_15 (by decide) ?_
      exact me_iretO C N dL_lying_16 (by cases hf; rfl) (by decide) (by decide)
    replace hf := me_in c0 hf
    cases hf
  · replace hf := me_xmo hf
    refine me_callV C N (As := [me_i v1, me_i v2]) (st := [me_i 0, me_r 93 0]) 2 12 (c_Y_lying hB h_r) mv_Y_lying ml_L_52 rfl rfl dL_lying_5 rfl rfl ⟨by decide, by decide⟩ ⟨by decide, by decide, by decide, by decide⟩ (Nat.le_of_ble_eq_true rfl) ?_
    refine me_i2l C dL_lying_8 ?_
    refine me_last C h1 dL_lying_9 ?_
    have C1 := C.ob (Int32.toInt64 v, B.2.2.2.2)
    refine me_goto C1 (tgt := 17) dL_lying_10 (by decide) ?_
    refine me_iconst C1 (v := 0) dL_lying_17 (by decide) ?_
    exact me_iretO C1 N dL_lying_18 (by cases hf; rfl) (by decide) (by decide)

def f_L_receive (μ : me_M) (o : Int64 × UInt64) (v1 : Int32) (v2 : Int32) : Option (me_M × ((Int64 × UInt64) × Int32)) :=
  me_b2 (f_Y_receive μ v1 v2) (fun μ1 r1 => me_xm r1 (fun v => some (μ1, (Int32.toInt64 v, o.2), (0 : Int32)))
    (fun k => if k = 1 then some (μ1, o, (1 : Int32)) else if k = 5 then some (μ1, o, (2 : Int32)) else none))
set_option maxHeartbeats 4000000 in
set_option maxRecDepth 100000 in
theorem c_L_receive {B : me_B} (hB : me_St B) (h1 : ∀ i, i < B.2.1 93 → i = 0) {μ : me_M} {v1 : Int32} {v2 : Int32} {μ' : me_M} {o' : Int64 × UInt64} {r : Int32} (hf : f_L_receive μ B.2.2.2 v1 v2 = some (μ', o', r)) : ∀ l E z, l.stackTraces = false → me_MetH l yL_receive cL_receive 5 (some .int) [(0, 10, 13, 13), (0, 10, 17, 31)] 9 156 3 18 E B μ z [me_r 0 0, me_i v1, me_i v2, me_r 93 0] (me_ob B o', μ', .ok (some (me_i r))) := by
  intro l E z hl
  refine me_ofZH hl (by decide +kernel) (Nat.le_of_ble_eq_true rfl) (fun X C N hT => ?_)
  unfold f_L_receive at hf
  refine me_aload_n C 3 (Or.inr (Or.inl ⟨_, rfl⟩)) dL_receive_0 rfl rfl ?_
  refine me_iconst C (v := 0) dL_receive_1 (by decide) ?_
  refine me_aload_n C 0 (Or.inr (Or.inl ⟨_, rfl⟩)) dL_receive_2 rfl rfl ?_
  refine me_iload_n C 1 dL_receive_3 rfl rfl ?_
  refine me_iload_n C 2 dL_receive_4 rfl rfl ?_
  obtain ⟨μ1, r1, h_r, hf⟩ := me_bs2 hf
  rcases r1 with k | v
  · replace hf := me_xme hf
    refine me_callVE C N (As := [me_i v1, me_i v2]) (st := [me_i 0, me_r 93 0]) 3 18 (c_Y_receive hB h_r) mv_Y_receive ml_L_56 rfl rfl dL_receive_5 rfl rfl ⟨by decide, by decide⟩ ⟨by decide, by decide, by decide, by decide⟩ (Nat.le_of_ble_eq_true rfl) ?_
    by_cases c0 : k = 1
    · subst c0
      replace hf := me_ip rfl hf
      refine me_catch C hT (k := 1) [] (0, 10, 13, 13) [(0, 10, 17, 31)] rfl (fun z hz => by cases hz) ⟨by decide, by decide⟩ (by decide) cl_L_13 ca_1 (fun q => ?_)
      refine me_astore C (Or.inr (Or.inr ⟨_, rfl⟩)) dL_receive_13 (by decide) (L' := [(4, .inl (.ref q)), (0, me_r 0 0), (1, me_i v1), (2, me_i v2), (3, me_r 93 0)]) rfl ?_
      refine me_iconst C (v := 1) dL_receive_15 (by decide) ?_
      exact me_iretO C N dL_receive_16 (by cases hf; rfl) (by decide) (by decide)
    replace hf := me_in c0 hf
    by_cases c1 : k = 5
    · subst c1
      replace hf := me_ip rfl hf
      refine me_catch C hT (k := 5) [(0, 10, 13, 13)] (0, 10, 17, 31) [] rfl (List.forall_mem_cons.mpr ⟨⟨by decide, _, cl_L_13, by decide +kernel⟩, (fun z hz => nomatch hz)⟩) ⟨by decide, by decide⟩ (by decide) cl_L_31 ca_5 (fun q => ?_)
      refine me_astore C (Or.inr (Or.inr ⟨_, rfl⟩)) dL_receive_17 (by decide) (L' := [(4, .inl (.ref q)), (0, me_r 0 0), (1, me_i v1), (2, me_i v2), (3, me_r 93 0)]) rfl ?_
      refine me_iconst C (v := 2) dL_receive_19 (by decide) ?_
      exact me_iretO C N dL_receive_20 (by cases hf; rfl) (by decide) (by decide)
    replace hf := me_in c1 hf
    cases hf
  · replace hf := me_xmo hf
    refine me_callV C N (As := [me_i v1, me_i v2]) (st := [me_i 0, me_r 93 0]) 3 18 (c_Y_receive hB h_r) mv_Y_receive ml_L_56 rfl rfl dL_receive_5 rfl rfl ⟨by decide, by decide⟩ ⟨by decide, by decide, by decide, by decide⟩ (Nat.le_of_ble_eq_true rfl) ?_
    refine me_i2l C dL_receive_8 ?_
    refine me_last C h1 dL_receive_9 ?_
    have C1 := C.ob (Int32.toInt64 v, B.2.2.2.2)
    refine me_goto C1 (tgt := 21) dL_receive_10 (by decide) ?_
    refine me_iconst C1 (v := 0) dL_receive_21 (by decide) ?_
    exact me_iretO C1 N dL_receive_22 (by cases hf; rfl) (by decide) (by decide)

def f_L_net (μ : me_M) (o : Int64 × UInt64) (v1 : Int32) (v2 : Int32) : Option (me_M × ((Int64 × UInt64) × Int32)) :=
  me_b2 (f_Y_net μ v1 v2) (fun μ1 r1 => me_xm r1 (fun v => some (μ1, (Int32.toInt64 v, o.2), (0 : Int32)))
    (fun k => if k = 2 then some (μ1, o, (1 : Int32)) else none))
set_option maxHeartbeats 4000000 in
set_option maxRecDepth 100000 in
theorem c_L_net {B : me_B} (hB : me_St B) (h1 : ∀ i, i < B.2.1 93 → i = 0) {μ : me_M} {v1 : Int32} {v2 : Int32} {μ' : me_M} {o' : Int64 × UInt64} {r : Int32} (hf : f_L_net μ B.2.2.2 v1 v2 = some (μ', o', r)) : ∀ l E z, l.stackTraces = false → me_MetH l yL_net cL_net 5 (some .int) [(0, 10, 13, 15)] 8 135 2 12 E B μ z [me_r 0 0, me_i v1, me_i v2, me_r 93 0] (me_ob B o', μ', .ok (some (me_i r))) := by
  intro l E z hl
  refine me_ofZH hl (by decide +kernel) (Nat.le_of_ble_eq_true rfl) (fun X C N hT => ?_)
  unfold f_L_net at hf
  refine me_aload_n C 3 (Or.inr (Or.inl ⟨_, rfl⟩)) dL_net_0 rfl rfl ?_
  refine me_iconst C (v := 0) dL_net_1 (by decide) ?_
  refine me_aload_n C 0 (Or.inr (Or.inl ⟨_, rfl⟩)) dL_net_2 rfl rfl ?_
  refine me_iload_n C 1 dL_net_3 rfl rfl ?_
  refine me_iload_n C 2 dL_net_4 rfl rfl ?_
  obtain ⟨μ1, r1, h_r, hf⟩ := me_bs2 hf
  rcases r1 with k | v
  · replace hf := me_xme hf
    refine me_callVE C N (As := [me_i v1, me_i v2]) (st := [me_i 0, me_r 93 0]) 2 12 (c_Y_net hB h_r) mv_Y_net ml_L_59 rfl rfl dL_net_5 rfl rfl ⟨by decide, by decide⟩ ⟨by decide, by decide, by decide, by decide⟩ (Nat.le_of_ble_eq_true rfl) ?_
    by_cases c0 : k = 2
    · subst c0
      replace hf := me_ip rfl hf
      refine me_catch C hT (k := 2) [] (0, 10, 13, 15) [] rfl (fun z hz => by cases hz) ⟨by decide, by decide⟩ (by decide) cl_L_15 ca_2 (fun q => ?_)
      refine me_astore C (Or.inr (Or.inr ⟨_, rfl⟩)) dL_net_13 (by decide) (L' := [(4, .inl (.ref q)), (0, me_r 0 0), (1, me_i v1), (2, me_i v2), (3, me_r 93 0)]) rfl ?_
      refine me_iconst C (v := 1) dL_net_15 (by decide) ?_
      exact me_iretO C N dL_net_16 (by cases hf; rfl) (by decide) (by decide)
    replace hf := me_in c0 hf
    cases hf
  · replace hf := me_xmo hf
    refine me_callV C N (As := [me_i v1, me_i v2]) (st := [me_i 0, me_r 93 0]) 2 12 (c_Y_net hB h_r) mv_Y_net ml_L_59 rfl rfl dL_net_5 rfl rfl ⟨by decide, by decide⟩ ⟨by decide, by decide, by decide, by decide⟩ (Nat.le_of_ble_eq_true rfl) ?_
    refine me_i2l C dL_net_8 ?_
    refine me_last C h1 dL_net_9 ?_
    have C1 := C.ob (Int32.toInt64 v, B.2.2.2.2)
    refine me_goto C1 (tgt := 17) dL_net_10 (by decide) ?_
    refine me_iconst C1 (v := 0) dL_net_17 (by decide) ?_
    exact me_iretO C1 N dL_net_18 (by cases hf; rfl) (by decide) (by decide)

def f_L_beats (μ : me_M) (o : Int64 × UInt64) (v1 : Int32) : Option (me_M × ((Int64 × UInt64) × Int32)) :=
  me_b2 (f_Y_beats μ v1) (fun μ1 r1 => me_xm r1 (fun v => if v = 0 then some (μ1, ((0 : Int64), o.2), (0 : Int32)) else some (μ1, ((1 : Int64), o.2), (0 : Int32)))
    (fun k => if k = 2 then some (μ1, o, (1 : Int32)) else none))
set_option maxHeartbeats 4000000 in
set_option maxRecDepth 100000 in
theorem c_L_beats {B : me_B} (hB : me_St B) (h1 : ∀ i, i < B.2.1 93 → i = 0) {μ : me_M} {v1 : Int32} {μ' : me_M} {o' : Int64 × UInt64} {r : Int32} (hf : f_L_beats μ B.2.2.2 v1 = some (μ', o', r)) : ∀ l E z, l.stackTraces = false → me_MetH l yL_beats cL_beats 4 (some .int) [(0, 16, 19, 15)] 8 194 1 6 E B μ z [me_r 0 0, me_i v1, me_r 93 0] (me_ob B o', μ', .ok (some (me_i r))) := by
  intro l E z hl
  refine me_ofZH hl (by decide +kernel) (Nat.le_of_ble_eq_true rfl) (fun X C N hT => ?_)
  unfold f_L_beats at hf
  refine me_aload_n C 2 (Or.inr (Or.inl ⟨_, rfl⟩)) dL_beats_0 rfl rfl ?_
  refine me_iconst C (v := 0) dL_beats_1 (by decide) ?_
  refine me_aload_n C 0 (Or.inr (Or.inl ⟨_, rfl⟩)) dL_beats_2 rfl rfl ?_
  refine me_iload_n C 1 dL_beats_3 rfl rfl ?_
  obtain ⟨μ1, r1, h_r, hf⟩ := me_bs2 hf
  rcases r1 with k | v
  · replace hf := me_xme hf
    refine me_callVE C N (As := [me_i v1]) (st := [me_i 0, me_r 93 0]) 1 6 (c_Y_beats hB h_r) mv_Y_beats ml_L_62 rfl rfl dL_beats_4 rfl rfl ⟨by decide, by decide⟩ ⟨by decide, by decide, by decide, by decide⟩ (Nat.le_of_ble_eq_true rfl) ?_
    by_cases c0 : k = 2
    · subst c0
      replace hf := me_ip rfl hf
      refine me_catch C hT (k := 2) [] (0, 16, 19, 15) [] rfl (fun z hz => by cases hz) ⟨by decide, by decide⟩ (by decide) cl_L_15 ca_2 (fun q => ?_)
      refine me_astore_n C 3 (Or.inr (Or.inr ⟨_, rfl⟩)) dL_beats_19 rfl (by decide) (L' := [(3, .inl (.ref q)), (0, me_r 0 0), (1, me_i v1), (2, me_r 93 0)]) rfl ?_
      refine me_iconst C (v := 1) dL_beats_20 (by decide) ?_
      exact me_iretO C N dL_beats_21 (by cases hf; rfl) (by decide) (by decide)
    replace hf := me_in c0 hf
    cases hf
  · replace hf := me_xmo hf
    refine me_callV C N (As := [me_i v1]) (st := [me_i 0, me_r 93 0]) 1 6 (c_Y_beats hB h_r) mv_Y_beats ml_L_62 rfl rfl dL_beats_4 rfl rfl ⟨by decide, by decide⟩ ⟨by decide, by decide, by decide, by decide⟩ (Nat.le_of_ble_eq_true rfl) ?_
    refine me_if_eq C (tgt := 14) dL_beats_7 (by decide) (fun c1 => ?_) (fun c1 => ?_)
    · replace hf := me_ip c1 hf
      refine me_lconst C (v := 0) dL_beats_14 (by decide) ?_
      refine me_last C h1 dL_beats_15 ?_
      have C1 := C.ob ((0 : Int64), B.2.2.2.2)
      refine me_goto C1 (tgt := 22) dL_beats_16 (by decide) ?_
      refine me_iconst C1 (v := 0) dL_beats_22 (by decide) ?_
      exact me_iretO C1 N dL_beats_23 (by cases hf; rfl) (by decide) (by decide)
    · replace hf := me_in c1 hf
      refine me_lconst C (v := 1) dL_beats_10 (by decide) ?_
      refine me_goto C (tgt := 15) dL_beats_11 (by decide) ?_
      refine me_last C h1 dL_beats_15 ?_
      have C1 := C.ob ((1 : Int64), B.2.2.2.2)
      refine me_goto C1 (tgt := 22) dL_beats_16 (by decide) ?_
      refine me_iconst C1 (v := 0) dL_beats_22 (by decide) ?_
      exact me_iretO C1 N dL_beats_23 (by cases hf; rfl) (by decide) (by decide)

def f_L_way (μ : me_M) (o : Int64 × UInt64) (v1 : Int32) : Option (me_M × ((Int64 × UInt64) × Int32)) :=
  me_b2 (f_Y_way μ v1) (fun μ1 r1 => me_xm r1 (fun v => some (μ1, (Int32.toInt64 v, o.2), (0 : Int32)))
    (fun k => if k = 2 then some (μ1, o, (1 : Int32)) else none))
set_option maxHeartbeats 4000000 in
set_option maxRecDepth 100000 in
theorem c_L_way {B : me_B} (hB : me_St B) (h1 : ∀ i, i < B.2.1 93 → i = 0) {μ : me_M} {v1 : Int32} {μ' : me_M} {o' : Int64 × UInt64} {r : Int32} (hf : f_L_way μ B.2.2.2 v1 = some (μ', o', r)) : ∀ l E z, l.stackTraces = false → me_MetH l yL_way cL_way 4 (some .int) [(0, 9, 12, 15)] 7 113 1 6 E B μ z [me_r 0 0, me_i v1, me_r 93 0] (me_ob B o', μ', .ok (some (me_i r))) := by
  intro l E z hl
  refine me_ofZH hl (by decide +kernel) (Nat.le_of_ble_eq_true rfl) (fun X C N hT => ?_)
  unfold f_L_way at hf
  refine me_aload_n C 2 (Or.inr (Or.inl ⟨_, rfl⟩)) dL_way_0 rfl rfl ?_
  refine me_iconst C (v := 0) dL_way_1 (by decide) ?_
  refine me_aload_n C 0 (Or.inr (Or.inl ⟨_, rfl⟩)) dL_way_2 rfl rfl ?_
  refine me_iload_n C 1 dL_way_3 rfl rfl ?_
  obtain ⟨μ1, r1, h_r, hf⟩ := me_bs2 hf
  rcases r1 with k | v
  · replace hf := me_xme hf
    refine me_callVE C N (As := [me_i v1]) (st := [me_i 0, me_r 93 0]) 1 6 (c_Y_way hB h_r) mv_Y_way ml_L_66 rfl rfl dL_way_4 rfl rfl ⟨by decide, by decide⟩ ⟨by decide, by decide, by decide, by decide⟩ (Nat.le_of_ble_eq_true rfl) ?_
    by_cases c0 : k = 2
    · subst c0
      replace hf := me_ip rfl hf
      refine me_catch C hT (k := 2) [] (0, 9, 12, 15) [] rfl (fun z hz => by cases hz) ⟨by decide, by decide⟩ (by decide) cl_L_15 ca_2 (fun q => ?_)
      refine me_astore_n C 3 (Or.inr (Or.inr ⟨_, rfl⟩)) dL_way_12 rfl (by decide) (L' := [(3, .inl (.ref q)), (0, me_r 0 0), (1, me_i v1), (2, me_r 93 0)]) rfl ?_
      refine me_iconst C (v := 1) dL_way_13 (by decide) ?_
      exact me_iretO C N dL_way_14 (by cases hf; rfl) (by decide) (by decide)
    replace hf := me_in c0 hf
    cases hf
  · replace hf := me_xmo hf
    refine me_callV C N (As := [me_i v1]) (st := [me_i 0, me_r 93 0]) 1 6 (c_Y_way hB h_r) mv_Y_way ml_L_66 rfl rfl dL_way_4 rfl rfl ⟨by decide, by decide⟩ ⟨by decide, by decide, by decide, by decide⟩ (Nat.le_of_ble_eq_true rfl) ?_
    refine me_i2l C dL_way_7 ?_
    refine me_last C h1 dL_way_8 ?_
    have C1 := C.ob (Int32.toInt64 v, B.2.2.2.2)
    refine me_goto C1 (tgt := 15) dL_way_9 (by decide) ?_
    refine me_iconst C1 (v := 0) dL_way_15 (by decide) ?_
    exact me_iretO C1 N dL_way_16 (by cases hf; rfl) (by decide) (by decide)

def f_L_places (μ : me_M) (o : Int64 × UInt64) (v1 : Int32) : Option (me_M × ((Int64 × UInt64) × Int32)) :=
  me_b2 (f_Y_places μ v1) (fun μ1 r1 => me_xm r1 (fun v => some (μ1, (Int32.toInt64 v, o.2), (0 : Int32)))
    (fun k => if k = 2 then some (μ1, o, (1 : Int32)) else none))
set_option maxHeartbeats 4000000 in
set_option maxRecDepth 100000 in
theorem c_L_places {B : me_B} (hB : me_St B) (h1 : ∀ i, i < B.2.1 93 → i = 0) {μ : me_M} {v1 : Int32} {μ' : me_M} {o' : Int64 × UInt64} {r : Int32} (hf : f_L_places μ B.2.2.2 v1 = some (μ', o', r)) : ∀ l E z, l.stackTraces = false → me_MetH l yL_places cL_places 4 (some .int) [(0, 9, 12, 15)] 8 135 1 6 E B μ z [me_r 0 0, me_i v1, me_r 93 0] (me_ob B o', μ', .ok (some (me_i r))) := by
  intro l E z hl
  refine me_ofZH hl (by decide +kernel) (Nat.le_of_ble_eq_true rfl) (fun X C N hT => ?_)
  unfold f_L_places at hf
  refine me_aload_n C 2 (Or.inr (Or.inl ⟨_, rfl⟩)) dL_places_0 rfl rfl ?_
  refine me_iconst C (v := 0) dL_places_1 (by decide) ?_
  refine me_aload_n C 0 (Or.inr (Or.inl ⟨_, rfl⟩)) dL_places_2 rfl rfl ?_
  refine me_iload_n C 1 dL_places_3 rfl rfl ?_
  obtain ⟨μ1, r1, h_r, hf⟩ := me_bs2 hf
  rcases r1 with k | v
  · replace hf := me_xme hf
    refine me_callVE C N (As := [me_i v1]) (st := [me_i 0, me_r 93 0]) 1 6 (c_Y_places hB h_r) mv_Y_places ml_L_70 rfl rfl dL_places_4 rfl rfl ⟨by decide, by decide⟩ ⟨by decide, by decide, by decide, by decide⟩ (Nat.le_of_ble_eq_true rfl) ?_
    by_cases c0 : k = 2
    · subst c0
      replace hf := me_ip rfl hf
      refine me_catch C hT (k := 2) [] (0, 9, 12, 15) [] rfl (fun z hz => by cases hz) ⟨by decide, by decide⟩ (by decide) cl_L_15 ca_2 (fun q => ?_)
      refine me_astore_n C 3 (Or.inr (Or.inr ⟨_, rfl⟩)) dL_places_12 rfl (by decide) (L' := [(3, .inl (.ref q)), (0, me_r 0 0), (1, me_i v1), (2, me_r 93 0)]) rfl ?_
      refine me_iconst C (v := 1) dL_places_13 (by decide) ?_
      exact me_iretO C N dL_places_14 (by cases hf; rfl) (by decide) (by decide)
    replace hf := me_in c0 hf
    cases hf
  · replace hf := me_xmo hf
    refine me_callV C N (As := [me_i v1]) (st := [me_i 0, me_r 93 0]) 1 6 (c_Y_places hB h_r) mv_Y_places ml_L_70 rfl rfl dL_places_4 rfl rfl ⟨by decide, by decide⟩ ⟨by decide, by decide, by decide, by decide⟩ (Nat.le_of_ble_eq_true rfl) ?_
    refine me_i2l C dL_places_7 ?_
    refine me_last C h1 dL_places_8 ?_
    have C1 := C.ob (Int32.toInt64 v, B.2.2.2.2)
    refine me_goto C1 (tgt := 15) dL_places_9 (by decide) ?_
    refine me_iconst C1 (v := 0) dL_places_15 (by decide) ?_
    exact me_iretO C1 N dL_places_16 (by cases hf; rfl) (by decide) (by decide)

def f_L_row (μ : me_M) (o : Int64 × UInt64) (v1 : Int32) (v2 : Int32) (v3 : Int32) : Option (me_M × ((Int64 × UInt64) × Int32)) :=
  me_bd (f_Y_row μ v1 v2 v3) (fun r1 => me_xm r1 (fun v => some (μ, (Int32.toInt64 v, o.2), (0 : Int32)))
    (fun k => if k = 1 then some (μ, o, (1 : Int32)) else if k = 2 then some (μ, o, (2 : Int32)) else none))
set_option maxHeartbeats 4000000 in
set_option maxRecDepth 100000 in
theorem c_L_row {B : me_B} (hB : me_St B) (h1 : ∀ i, i < B.2.1 93 → i = 0) {μ : me_M} {v1 : Int32} {v2 : Int32} {v3 : Int32} {μ' : me_M} {o' : Int64 × UInt64} {r : Int32} (hf : f_L_row μ B.2.2.2 v1 v2 v3 = some (μ', o', r)) : ∀ l E z, l.stackTraces = false → me_MetH l yL_row cL_row 6 (some .int) [(0, 12, 15, 13), (0, 12, 19, 15)] 8 139 2 12 E B μ z [me_r 0 0, me_i v1, me_i v2, me_i v3, me_r 93 0] (me_ob B o', μ', .ok (some (me_i r))) := by
  intro l E z hl
  refine me_ofZH hl (by decide +kernel) (Nat.le_of_ble_eq_true rfl) (fun X C N hT => ?_)
  unfold f_L_row at hf
  refine me_aload C (Or.inr (Or.inl ⟨_, rfl⟩)) dL_row_0 rfl ?_
  refine me_iconst C (v := 0) dL_row_2 (by decide) ?_
  refine me_aload_n C 0 (Or.inr (Or.inl ⟨_, rfl⟩)) dL_row_3 rfl rfl ?_
  refine me_iload_n C 1 dL_row_4 rfl rfl ?_
  refine me_iload_n C 2 dL_row_5 rfl rfl ?_
  refine me_iload_n C 3 dL_row_6 rfl rfl ?_
  obtain ⟨r1, h_r, hf⟩ := me_bs hf
  rcases r1 with k | v
  · replace hf := me_xme hf
    refine me_callVE C N (As := [me_i v1, me_i v2, me_i v3]) (st := [me_i 0, me_r 93 0]) 2 12 (c_Y_row hB h_r) mv_Y_row ml_L_73 rfl rfl dL_row_7 rfl rfl ⟨by decide, by decide⟩ ⟨by decide, by decide, by decide, by decide⟩ (Nat.le_of_ble_eq_true rfl) ?_
    by_cases c0 : k = 1
    · subst c0
      replace hf := me_ip rfl hf
      refine me_catch C hT (k := 1) [] (0, 12, 15, 13) [(0, 12, 19, 15)] rfl (fun z hz => by cases hz) ⟨by decide, by decide⟩ (by decide) cl_L_13 ca_1 (fun q => ?_)
      refine me_astore C (Or.inr (Or.inr ⟨_, rfl⟩)) dL_row_15 (by decide) (L' := [(5, .inl (.ref q)), (0, me_r 0 0), (1, me_i v1), (2, me_i v2), (3, me_i v3), (4, me_r 93 0)]) rfl ?_
      refine me_iconst C (v := 1) dL_row_17 (by decide) ?_
      exact me_iretO C N dL_row_18 (by cases hf; rfl) (by decide) (by decide)
    replace hf := me_in c0 hf
    by_cases c1 : k = 2
    · subst c1
      replace hf := me_ip rfl hf
      refine me_catch C hT (k := 2) [(0, 12, 15, 13)] (0, 12, 19, 15) [] rfl (List.forall_mem_cons.mpr ⟨⟨by decide, _, cl_L_13, by decide +kernel⟩, (fun z hz => nomatch hz)⟩) ⟨by decide, by decide⟩ (by decide) cl_L_15 ca_2 (fun q => ?_)
      refine me_astore C (Or.inr (Or.inr ⟨_, rfl⟩)) dL_row_19 (by decide) (L' := [(5, .inl (.ref q)), (0, me_r 0 0), (1, me_i v1), (2, me_i v2), (3, me_i v3), (4, me_r 93 0)]) rfl ?_
      refine me_iconst C (v := 2) dL_row_21 (by decide) ?_
      exact me_iretO C N dL_row_22 (by cases hf; rfl) (by decide) (by decide)
    replace hf := me_in c1 hf
    cases hf
  · replace hf := me_xmo hf
    refine me_callV C N (As := [me_i v1, me_i v2, me_i v3]) (st := [me_i 0, me_r 93 0]) 2 12 (c_Y_row hB h_r) mv_Y_row ml_L_73 rfl rfl dL_row_7 rfl rfl ⟨by decide, by decide⟩ ⟨by decide, by decide, by decide, by decide⟩ (Nat.le_of_ble_eq_true rfl) ?_
    refine me_i2l C dL_row_10 ?_
    refine me_last C h1 dL_row_11 ?_
    have C1 := C.ob (Int32.toInt64 v, B.2.2.2.2)
    refine me_goto C1 (tgt := 23) dL_row_12 (by decide) ?_
    refine me_iconst C1 (v := 0) dL_row_23 (by decide) ?_
    exact me_iretO C1 N dL_row_24 (by cases hf; rfl) (by decide) (by decide)

def f_L_owner (μ : me_M) (o : Int64 × UInt64) (v1 : Int32) (v2 : Int32) (v3 : Int32) : Option (me_M × ((Int64 × UInt64) × Int32)) :=
  me_bd (f_Y_owner μ v1 v2 v3) (fun r1 => me_xm r1 (fun v => some (μ, (Int32.toInt64 v, o.2), (0 : Int32)))
    (fun k => if k = 1 then some (μ, o, (1 : Int32)) else if k = 2 then some (μ, o, (2 : Int32)) else none))
set_option maxHeartbeats 4000000 in
set_option maxRecDepth 100000 in
theorem c_L_owner {B : me_B} (hB : me_St B) (h1 : ∀ i, i < B.2.1 93 → i = 0) {μ : me_M} {v1 : Int32} {v2 : Int32} {v3 : Int32} {μ' : me_M} {o' : Int64 × UInt64} {r : Int32} (hf : f_L_owner μ B.2.2.2 v1 v2 v3 = some (μ', o', r)) : ∀ l E z, l.stackTraces = false → me_MetH l yL_owner cL_owner 6 (some .int) [(0, 12, 15, 13), (0, 12, 19, 15)] 8 139 2 12 E B μ z [me_r 0 0, me_i v1, me_i v2, me_i v3, me_r 93 0] (me_ob B o', μ', .ok (some (me_i r))) := by
  intro l E z hl
  refine me_ofZH hl (by decide +kernel) (Nat.le_of_ble_eq_true rfl) (fun X C N hT => ?_)
  unfold f_L_owner at hf
  refine me_aload C (Or.inr (Or.inl ⟨_, rfl⟩)) dL_owner_0 rfl ?_
  refine me_iconst C (v := 0) dL_owner_2 (by decide) ?_
  refine me_aload_n C 0 (Or.inr (Or.inl ⟨_, rfl⟩)) dL_owner_3 rfl rfl ?_
  refine me_iload_n C 1 dL_owner_4 rfl rfl ?_
  refine me_iload_n C 2 dL_owner_5 rfl rfl ?_
  refine me_iload_n C 3 dL_owner_6 rfl rfl ?_
  obtain ⟨r1, h_r, hf⟩ := me_bs hf
  rcases r1 with k | v
  · replace hf := me_xme hf
    refine me_callVE C N (As := [me_i v1, me_i v2, me_i v3]) (st := [me_i 0, me_r 93 0]) 2 12 (c_Y_owner hB h_r) mv_Y_owner ml_L_77 rfl rfl dL_owner_7 rfl rfl ⟨by decide, by decide⟩ ⟨by decide, by decide, by decide, by decide⟩ (Nat.le_of_ble_eq_true rfl) ?_
    by_cases c0 : k = 1
    · subst c0
      replace hf := me_ip rfl hf
      refine me_catch C hT (k := 1) [] (0, 12, 15, 13) [(0, 12, 19, 15)] rfl (fun z hz => by cases hz) ⟨by decide, by decide⟩ (by decide) cl_L_13 ca_1 (fun q => ?_)
      refine me_astore C (Or.inr (Or.inr ⟨_, rfl⟩)) dL_owner_15 (by decide) (L' := [(5, .inl (.ref q)), (0, me_r 0 0), (1, me_i v1), (2, me_i v2), (3, me_i v3), (4, me_r 93 0)]) rfl ?_
      refine me_iconst C (v := 1) dL_owner_17 (by decide) ?_
      exact me_iretO C N dL_owner_18 (by cases hf; rfl) (by decide) (by decide)
    replace hf := me_in c0 hf
    by_cases c1 : k = 2
    · subst c1
      replace hf := me_ip rfl hf
      refine me_catch C hT (k := 2) [(0, 12, 15, 13)] (0, 12, 19, 15) [] rfl (List.forall_mem_cons.mpr ⟨⟨by decide, _, cl_L_13, by decide +kernel⟩, (fun z hz => nomatch hz)⟩) ⟨by decide, by decide⟩ (by decide) cl_L_15 ca_2 (fun q => ?_)
      refine me_astore C (Or.inr (Or.inr ⟨_, rfl⟩)) dL_owner_19 (by decide) (L' := [(5, .inl (.ref q)), (0, me_r 0 0), (1, me_i v1), (2, me_i v2), (3, me_i v3), (4, me_r 93 0)]) rfl ?_
      refine me_iconst C (v := 2) dL_owner_21 (by decide) ?_
      exact me_iretO C N dL_owner_22 (by cases hf; rfl) (by decide) (by decide)
    replace hf := me_in c1 hf
    cases hf
  · replace hf := me_xmo hf
    refine me_callV C N (As := [me_i v1, me_i v2, me_i v3]) (st := [me_i 0, me_r 93 0]) 2 12 (c_Y_owner hB h_r) mv_Y_owner ml_L_77 rfl rfl dL_owner_7 rfl rfl ⟨by decide, by decide⟩ ⟨by decide, by decide, by decide, by decide⟩ (Nat.le_of_ble_eq_true rfl) ?_
    refine me_i2l C dL_owner_10 ?_
    refine me_last C h1 dL_owner_11 ?_
    have C1 := C.ob (Int32.toInt64 v, B.2.2.2.2)
    refine me_goto C1 (tgt := 23) dL_owner_12 (by decide) ?_
    refine me_iconst C1 (v := 0) dL_owner_23 (by decide) ?_
    exact me_iretO C1 N dL_owner_24 (by cases hf; rfl) (by decide) (by decide)

def f_L_fail (μ : me_M) (o : Int64 × UInt64) (v1 : Int32) (v2 : Int32) (v3 : Int32) : Option (me_M × ((Int64 × UInt64) × Int32)) :=
  me_b2 (f_Y_fail μ v1 v2 v3) (fun μ1 r1 => me_xm r1 (fun v => if v = 0 then some (μ1, ((0 : Int64), o.2), (0 : Int32)) else some (μ1, ((1 : Int64), o.2), (0 : Int32)))
    (fun k => if k = 1 then some (μ1, o, (1 : Int32)) else if k = 2 then some (μ1, o, (2 : Int32)) else if k = 4 then some (μ1, o, (3 : Int32)) else none))
set_option maxHeartbeats 4000000 in
set_option maxRecDepth 100000 in
theorem c_L_fail {B : me_B} (hB : me_St B) (h1 : ∀ i, i < B.2.1 93 → i = 0) {μ : me_M} {v1 : Int32} {v2 : Int32} {v3 : Int32} {μ' : me_M} {o' : Int64 × UInt64} {r : Int32} (hf : f_L_fail μ B.2.2.2 v1 v2 v3 = some (μ', o', r)) : ∀ l E z, l.stackTraces = false → me_MetH l yL_fail cL_fail 6 (some .int) [(0, 19, 22, 13), (0, 19, 26, 15), (0, 19, 30, 84)] 8 136 2 12 E B μ z [me_r 0 0, me_i v1, me_i v2, me_i v3, me_r 93 0] (me_ob B o', μ', .ok (some (me_i r))) := by
  intro l E z hl
  refine me_ofZH hl (by decide +kernel) (Nat.le_of_ble_eq_true rfl) (fun X C N hT => ?_)
  unfold f_L_fail at hf
  refine me_aload C (Or.inr (Or.inl ⟨_, rfl⟩)) dL_fail_0 rfl ?_
  refine me_iconst C (v := 0) dL_fail_2 (by decide) ?_
  refine me_aload_n C 0 (Or.inr (Or.inl ⟨_, rfl⟩)) dL_fail_3 rfl rfl ?_
  refine me_iload_n C 1 dL_fail_4 rfl rfl ?_
  refine me_iload_n C 2 dL_fail_5 rfl rfl ?_
  refine me_iload_n C 3 dL_fail_6 rfl rfl ?_
  obtain ⟨μ1, r1, h_r, hf⟩ := me_bs2 hf
  rcases r1 with k | v
  · replace hf := me_xme hf
    refine me_callVE C N (As := [me_i v1, me_i v2, me_i v3]) (st := [me_i 0, me_r 93 0]) 2 12 (c_Y_fail hB h_r) mv_Y_fail ml_L_80 rfl rfl dL_fail_7 rfl rfl ⟨by decide, by decide⟩ ⟨by decide, by decide, by decide, by decide⟩ (Nat.le_of_ble_eq_true rfl) ?_
    by_cases c0 : k = 1
    · subst c0
      replace hf := me_ip rfl hf
      refine me_catch C hT (k := 1) [] (0, 19, 22, 13) [(0, 19, 26, 15), (0, 19, 30, 84)] rfl (fun z hz => by cases hz) ⟨by decide, by decide⟩ (by decide) cl_L_13 ca_1 (fun q => ?_)
      refine me_astore C (Or.inr (Or.inr ⟨_, rfl⟩)) dL_fail_22 (by decide) (L' := [(5, .inl (.ref q)), (0, me_r 0 0), (1, me_i v1), (2, me_i v2), (3, me_i v3), (4, me_r 93 0)]) rfl ?_
      refine me_iconst C (v := 1) dL_fail_24 (by decide) ?_
      exact me_iretO C N dL_fail_25 (by cases hf; rfl) (by decide) (by decide)
    replace hf := me_in c0 hf
    by_cases c1 : k = 2
    · subst c1
      replace hf := me_ip rfl hf
      refine me_catch C hT (k := 2) [(0, 19, 22, 13)] (0, 19, 26, 15) [(0, 19, 30, 84)] rfl (List.forall_mem_cons.mpr ⟨⟨by decide, _, cl_L_13, by decide +kernel⟩, (fun z hz => nomatch hz)⟩) ⟨by decide, by decide⟩ (by decide) cl_L_15 ca_2 (fun q => ?_)
      refine me_astore C (Or.inr (Or.inr ⟨_, rfl⟩)) dL_fail_26 (by decide) (L' := [(5, .inl (.ref q)), (0, me_r 0 0), (1, me_i v1), (2, me_i v2), (3, me_i v3), (4, me_r 93 0)]) rfl ?_
      refine me_iconst C (v := 2) dL_fail_28 (by decide) ?_
      exact me_iretO C N dL_fail_29 (by cases hf; rfl) (by decide) (by decide)
    replace hf := me_in c1 hf
    by_cases c2 : k = 4
    · subst c2
      replace hf := me_ip rfl hf
      refine me_catch C hT (k := 4) [(0, 19, 22, 13), (0, 19, 26, 15)] (0, 19, 30, 84) [] rfl (List.forall_mem_cons.mpr ⟨⟨by decide, _, cl_L_13, by decide +kernel⟩, (List.forall_mem_cons.mpr ⟨⟨by decide, _, cl_L_15, by decide +kernel⟩, (fun z hz => nomatch hz)⟩)⟩) ⟨by decide, by decide⟩ (by decide) cl_L_84 ca_4 (fun q => ?_)
      refine me_astore C (Or.inr (Or.inr ⟨_, rfl⟩)) dL_fail_30 (by decide) (L' := [(5, .inl (.ref q)), (0, me_r 0 0), (1, me_i v1), (2, me_i v2), (3, me_i v3), (4, me_r 93 0)]) rfl ?_
      refine me_iconst C (v := 3) dL_fail_32 (by decide) ?_
      exact me_iretO C N dL_fail_33 (by cases hf; rfl) (by decide) (by decide)
    replace hf := me_in c2 hf
    cases hf
  · replace hf := me_xmo hf
    refine me_callV C N (As := [me_i v1, me_i v2, me_i v3]) (st := [me_i 0, me_r 93 0]) 2 12 (c_Y_fail hB h_r) mv_Y_fail ml_L_80 rfl rfl dL_fail_7 rfl rfl ⟨by decide, by decide⟩ ⟨by decide, by decide, by decide, by decide⟩ (Nat.le_of_ble_eq_true rfl) ?_
    refine me_if_eq C (tgt := 17) dL_fail_10 (by decide) (fun c1 => ?_) (fun c1 => ?_)
    · replace hf := me_ip c1 hf
      refine me_lconst C (v := 0) dL_fail_17 (by decide) ?_
      refine me_last C h1 dL_fail_18 ?_
      have C1 := C.ob ((0 : Int64), B.2.2.2.2)
      refine me_goto C1 (tgt := 34) dL_fail_19 (by decide) ?_
      refine me_iconst C1 (v := 0) dL_fail_34 (by decide) ?_
      exact me_iretO C1 N dL_fail_35 (by cases hf; rfl) (by decide) (by decide)
    · replace hf := me_in c1 hf
      refine me_lconst C (v := 1) dL_fail_13 (by decide) ?_
      refine me_goto C (tgt := 18) dL_fail_14 (by decide) ?_
      refine me_last C h1 dL_fail_18 ?_
      have C1 := C.ob ((1 : Int64), B.2.2.2.2)
      refine me_goto C1 (tgt := 34) dL_fail_19 (by decide) ?_
      refine me_iconst C1 (v := 0) dL_fail_34 (by decide) ?_
      exact me_iretO C1 N dL_fail_35 (by cases hf; rfl) (by decide) (by decide)

def f_L_sleep (μ : me_M) (o : Int64 × UInt64) (v1 : Int32) : Option (me_M × ((Int64 × UInt64) × Int32)) :=
  me_b2 (f_Y_sleep μ v1) (fun μ1 r1 => me_xm r1 (fun v => if v = 0 then some (μ1, ((0 : Int64), o.2), (0 : Int32)) else some (μ1, ((1 : Int64), o.2), (0 : Int32)))
    (fun k => if k = 1 then some (μ1, o, (1 : Int32)) else if k = 4 then some (μ1, o, (2 : Int32)) else none))
set_option maxHeartbeats 4000000 in
set_option maxRecDepth 100000 in
theorem c_L_sleep {B : me_B} (hB : me_St B) (h1 : ∀ i, i < B.2.1 93 → i = 0) {μ : me_M} {v1 : Int32} {μ' : me_M} {o' : Int64 × UInt64} {r : Int32} (hf : f_L_sleep μ B.2.2.2 v1 = some (μ', o', r)) : ∀ l E z, l.stackTraces = false → me_MetH l yL_sleep cL_sleep 4 (some .int) [(0, 16, 19, 13), (0, 16, 22, 84)] 8 134 2 12 E B μ z [me_r 0 0, me_i v1, me_r 93 0] (me_ob B o', μ', .ok (some (me_i r))) := by
  intro l E z hl
  refine me_ofZH hl (by decide +kernel) (Nat.le_of_ble_eq_true rfl) (fun X C N hT => ?_)
  unfold f_L_sleep at hf
  refine me_aload_n C 2 (Or.inr (Or.inl ⟨_, rfl⟩)) dL_sleep_0 rfl rfl ?_
  refine me_iconst C (v := 0) dL_sleep_1 (by decide) ?_
  refine me_aload_n C 0 (Or.inr (Or.inl ⟨_, rfl⟩)) dL_sleep_2 rfl rfl ?_
  refine me_iload_n C 1 dL_sleep_3 rfl rfl ?_
  obtain ⟨μ1, r1, h_r, hf⟩ := me_bs2 hf
  rcases r1 with k | v
  · replace hf := me_xme hf
    refine me_callVE C N (As := [me_i v1]) (st := [me_i 0, me_r 93 0]) 2 12 (c_Y_sleep hB h_r) mv_Y_sleep ml_L_86 rfl rfl dL_sleep_4 rfl rfl ⟨by decide, by decide⟩ ⟨by decide, by decide, by decide, by decide⟩ (Nat.le_of_ble_eq_true rfl) ?_
    by_cases c0 : k = 1
    · subst c0
      replace hf := me_ip rfl hf
      refine me_catch C hT (k := 1) [] (0, 16, 19, 13) [(0, 16, 22, 84)] rfl (fun z hz => by cases hz) ⟨by decide, by decide⟩ (by decide) cl_L_13 ca_1 (fun q => ?_)
      refine me_astore_n C 3 (Or.inr (Or.inr ⟨_, rfl⟩)) dL_sleep_19 rfl (by decide) (L' := [(3, .inl (.ref q)), (0, me_r 0 0), (1, me_i v1), (2, me_r 93 0)]) rfl ?_
      refine me_iconst C (v := 1) dL_sleep_20 (by decide) ?_
      exact me_iretO C N dL_sleep_21 (by cases hf; rfl) (by decide) (by decide)
    replace hf := me_in c0 hf
    by_cases c1 : k = 4
    · subst c1
      replace hf := me_ip rfl hf
      refine me_catch C hT (k := 4) [(0, 16, 19, 13)] (0, 16, 22, 84) [] rfl (List.forall_mem_cons.mpr ⟨⟨by decide, _, cl_L_13, by decide +kernel⟩, (fun z hz => nomatch hz)⟩) ⟨by decide, by decide⟩ (by decide) cl_L_84 ca_4 (fun q => ?_)
      refine me_astore_n C 3 (Or.inr (Or.inr ⟨_, rfl⟩)) dL_sleep_22 rfl (by decide) (L' := [(3, .inl (.ref q)), (0, me_r 0 0), (1, me_i v1), (2, me_r 93 0)]) rfl ?_
      refine me_iconst C (v := 2) dL_sleep_23 (by decide) ?_
      exact me_iretO C N dL_sleep_24 (by cases hf; rfl) (by decide) (by decide)
    replace hf := me_in c1 hf
    cases hf
  · replace hf := me_xmo hf
    refine me_callV C N (As := [me_i v1]) (st := [me_i 0, me_r 93 0]) 2 12 (c_Y_sleep hB h_r) mv_Y_sleep ml_L_86 rfl rfl dL_sleep_4 rfl rfl ⟨by decide, by decide⟩ ⟨by decide, by decide, by decide, by decide⟩ (Nat.le_of_ble_eq_true rfl) ?_
    refine me_if_eq C (tgt := 14) dL_sleep_7 (by decide) (fun c1 => ?_) (fun c1 => ?_)
    · replace hf := me_ip c1 hf
      refine me_lconst C (v := 0) dL_sleep_14 (by decide) ?_
      refine me_last C h1 dL_sleep_15 ?_
      have C1 := C.ob ((0 : Int64), B.2.2.2.2)
      refine me_goto C1 (tgt := 25) dL_sleep_16 (by decide) ?_
      refine me_iconst C1 (v := 0) dL_sleep_25 (by decide) ?_
      exact me_iretO C1 N dL_sleep_26 (by cases hf; rfl) (by decide) (by decide)
    · replace hf := me_in c1 hf
      refine me_lconst C (v := 1) dL_sleep_10 (by decide) ?_
      refine me_goto C (tgt := 15) dL_sleep_11 (by decide) ?_
      refine me_last C h1 dL_sleep_15 ?_
      have C1 := C.ob ((1 : Int64), B.2.2.2.2)
      refine me_goto C1 (tgt := 25) dL_sleep_16 (by decide) ?_
      refine me_iconst C1 (v := 0) dL_sleep_25 (by decide) ?_
      exact me_iretO C1 N dL_sleep_26 (by cases hf; rfl) (by decide) (by decide)

def f_L_isAwake (μ : me_M) (o : Int64 × UInt64) (v1 : Int32) : Option (me_M × ((Int64 × UInt64) × Int32)) :=
  me_bd (f_Y_isAwake μ v1) (fun r1 => me_xm r1 (fun v => if v = 0 then some (μ, ((0 : Int64), o.2), (0 : Int32)) else some (μ, ((1 : Int64), o.2), (0 : Int32)))
    (fun k => if k = 1 then some (μ, o, (1 : Int32)) else none))
set_option maxHeartbeats 4000000 in
set_option maxRecDepth 100000 in
theorem c_L_isAwake {B : me_B} (hB : me_St B) (h1 : ∀ i, i < B.2.1 93 → i = 0) {μ : me_M} {v1 : Int32} {μ' : me_M} {o' : Int64 × UInt64} {r : Int32} (hf : f_L_isAwake μ B.2.2.2 v1 = some (μ', o', r)) : ∀ l E z, l.stackTraces = false → me_MetH l yL_isAwake cL_isAwake 4 (some .int) [(0, 16, 19, 13)] 8 132 1 6 E B μ z [me_r 0 0, me_i v1, me_r 93 0] (me_ob B o', μ', .ok (some (me_i r))) := by
  intro l E z hl
  refine me_ofZH hl (by decide +kernel) (Nat.le_of_ble_eq_true rfl) (fun X C N hT => ?_)
  unfold f_L_isAwake at hf
  refine me_aload_n C 2 (Or.inr (Or.inl ⟨_, rfl⟩)) dL_isAwake_0 rfl rfl ?_
  refine me_iconst C (v := 0) dL_isAwake_1 (by decide) ?_
  refine me_aload_n C 0 (Or.inr (Or.inl ⟨_, rfl⟩)) dL_isAwake_2 rfl rfl ?_
  refine me_iload_n C 1 dL_isAwake_3 rfl rfl ?_
  obtain ⟨r1, h_r, hf⟩ := me_bs hf
  rcases r1 with k | v
  · replace hf := me_xme hf
    refine me_callVE C N (As := [me_i v1]) (st := [me_i 0, me_r 93 0]) 1 6 (c_Y_isAwake hB h_r) mv_Y_isAwake ml_L_89 rfl rfl dL_isAwake_4 rfl rfl ⟨by decide, by decide⟩ ⟨by decide, by decide, by decide, by decide⟩ (Nat.le_of_ble_eq_true rfl) ?_
    by_cases c0 : k = 1
    · subst c0
      replace hf := me_ip rfl hf
      refine me_catch C hT (k := 1) [] (0, 16, 19, 13) [] rfl (fun z hz => by cases hz) ⟨by decide, by decide⟩ (by decide) cl_L_13 ca_1 (fun q => ?_)
      refine me_astore_n C 3 (Or.inr (Or.inr ⟨_, rfl⟩)) dL_isAwake_19 rfl (by decide) (L' := [(3, .inl (.ref q)), (0, me_r 0 0), (1, me_i v1), (2, me_r 93 0)]) rfl ?_
      refine me_iconst C (v := 1) dL_isAwake_20 (by decide) ?_
      exact me_iretO C N dL_isAwake_21 (by cases hf; rfl) (by decide) (by decide)
    replace hf := me_in c0 hf
    cases hf
  · replace hf := me_xmo hf
    refine me_callV C N (As := [me_i v1]) (st := [me_i 0, me_r 93 0]) 1 6 (c_Y_isAwake hB h_r) mv_Y_isAwake ml_L_89 rfl rfl dL_isAwake_4 rfl rfl ⟨by decide, by decide⟩ ⟨by decide, by decide, by decide, by decide⟩ (Nat.le_of_ble_eq_true rfl) ?_
    refine me_if_eq C (tgt := 14) dL_isAwake_7 (by decide) (fun c1 => ?_) (fun c1 => ?_)
    · replace hf := me_ip c1 hf
      refine me_lconst C (v := 0) dL_isAwake_14 (by decide) ?_
      refine me_last C h1 dL_isAwake_15 ?_
      have C1 := C.ob ((0 : Int64), B.2.2.2.2)
      refine me_goto C1 (tgt := 22) dL_isAwake_16 (by decide) ?_
      refine me_iconst C1 (v := 0) dL_isAwake_22 (by decide) ?_
      exact me_iretO C1 N dL_isAwake_23 (by cases hf; rfl) (by decide) (by decide)
    · replace hf := me_in c1 hf
      refine me_lconst C (v := 1) dL_isAwake_10 (by decide) ?_
      refine me_goto C (tgt := 15) dL_isAwake_11 (by decide) ?_
      refine me_last C h1 dL_isAwake_15 ?_
      have C1 := C.ob ((1 : Int64), B.2.2.2.2)
      refine me_goto C1 (tgt := 22) dL_isAwake_16 (by decide) ?_
      refine me_iconst C1 (v := 0) dL_isAwake_22 (by decide) ?_
      exact me_iretO C1 N dL_isAwake_23 (by cases hf; rfl) (by decide) (by decide)

def f_L_direction (μ : me_M) (o : Int64 × UInt64) (v1 : Int32) (v2 : Int32) : Option (me_M × ((Int64 × UInt64) × Int32)) :=
  me_bd (f_Y_direction μ v1 v2) (fun r1 => me_xm r1 (fun v => some (μ, (Int32.toInt64 v, o.2), (0 : Int32)))
    (fun k => if k = 1 then some (μ, o, (1 : Int32)) else none))
set_option maxHeartbeats 4000000 in
set_option maxRecDepth 100000 in
theorem c_L_direction {B : me_B} (hB : me_St B) (h1 : ∀ i, i < B.2.1 93 → i = 0) {μ : me_M} {v1 : Int32} {v2 : Int32} {μ' : me_M} {o' : Int64 × UInt64} {r : Int32} (hf : f_L_direction μ B.2.2.2 v1 v2 = some (μ', o', r)) : ∀ l E z, l.stackTraces = false → me_MetH l yL_direction cL_direction 5 (some .int) [(0, 10, 13, 13)] 9 156 2 12 E B μ z [me_r 0 0, me_i v1, me_i v2, me_r 93 0] (me_ob B o', μ', .ok (some (me_i r))) := by
  intro l E z hl
  refine me_ofZH hl (by decide +kernel) (Nat.le_of_ble_eq_true rfl) (fun X C N hT => ?_)
  unfold f_L_direction at hf
  refine me_aload_n C 3 (Or.inr (Or.inl ⟨_, rfl⟩)) dL_direction_0 rfl rfl ?_
  refine me_iconst C (v := 0) dL_direction_1 (by decide) ?_
  refine me_aload_n C 0 (Or.inr (Or.inl ⟨_, rfl⟩)) dL_direction_2 rfl rfl ?_
  refine me_iload_n C 1 dL_direction_3 rfl rfl ?_
  refine me_iload_n C 2 dL_direction_4 rfl rfl ?_
  obtain ⟨r1, h_r, hf⟩ := me_bs hf
  rcases r1 with k | v
  · replace hf := me_xme hf
    refine me_callVE C N (As := [me_i v1, me_i v2]) (st := [me_i 0, me_r 93 0]) 2 12 (c_Y_direction hB h_r) mv_Y_direction ml_L_92 rfl rfl dL_direction_5 rfl rfl ⟨by decide, by decide⟩ ⟨by decide, by decide, by decide, by decide⟩ (Nat.le_of_ble_eq_true rfl) ?_
    by_cases c0 : k = 1
    · subst c0
      replace hf := me_ip rfl hf
      refine me_catch C hT (k := 1) [] (0, 10, 13, 13) [] rfl (fun z hz => by cases hz) ⟨by decide, by decide⟩ (by decide) cl_L_13 ca_1 (fun q => ?_)
      refine me_astore C (Or.inr (Or.inr ⟨_, rfl⟩)) dL_direction_13 (by decide) (L' := [(4, .inl (.ref q)), (0, me_r 0 0), (1, me_i v1), (2, me_i v2), (3, me_r 93 0)]) rfl ?_
      refine me_iconst C (v := 1) dL_direction_15 (by decide) ?_
      exact me_iretO C N dL_direction_16 (by cases hf; rfl) (by decide) (by decide)
    replace hf := me_in c0 hf
    cases hf
  · replace hf := me_xmo hf
    refine me_callV C N (As := [me_i v1, me_i v2]) (st := [me_i 0, me_r 93 0]) 2 12 (c_Y_direction hB h_r) mv_Y_direction ml_L_92 rfl rfl dL_direction_5 rfl rfl ⟨by decide, by decide⟩ ⟨by decide, by decide, by decide, by decide⟩ (Nat.le_of_ble_eq_true rfl) ?_
    refine me_i2l C dL_direction_8 ?_
    refine me_last C h1 dL_direction_9 ?_
    have C1 := C.ob (Int32.toInt64 v, B.2.2.2.2)
    refine me_goto C1 (tgt := 17) dL_direction_10 (by decide) ?_
    refine me_iconst C1 (v := 0) dL_direction_17 (by decide) ?_
    exact me_iretO C1 N dL_direction_18 (by cases hf; rfl) (by decide) (by decide)

def f_L_program (μ : me_M) (o : Int64 × UInt64) (v1 : Int32) (v2 : Int32) (v3 : Int32) : Option (me_M × ((Int64 × UInt64) × Int32)) :=
  me_b2 (f_Y_program μ v1 v2 v3) (fun μ1 r1 => me_xm r1 (fun v => some (μ1, (Int32.toInt64 v, o.2), (0 : Int32)))
    (fun k => if k = 1 then some (μ1, o, (1 : Int32)) else if k = 2 then some (μ1, o, (2 : Int32)) else if k = 3 then some (μ1, o, (3 : Int32)) else none))
set_option maxHeartbeats 4000000 in
set_option maxRecDepth 100000 in
theorem c_L_program {B : me_B} (hB : me_St B) (h1 : ∀ i, i < B.2.1 93 → i = 0) {μ : me_M} {v1 : Int32} {v2 : Int32} {v3 : Int32} {μ' : me_M} {o' : Int64 × UInt64} {r : Int32} (hf : f_L_program μ B.2.2.2 v1 v2 v3 = some (μ', o', r)) : ∀ l E z, l.stackTraces = false → me_MetH l yL_program cL_program 6 (some .int) [(0, 12, 15, 13), (0, 12, 19, 15), (0, 12, 23, 17)] 8 135 2 12 E B μ z [me_r 0 0, me_i v1, me_i v2, me_i v3, me_r 93 0] (me_ob B o', μ', .ok (some (me_i r))) := by
  intro l E z hl
  refine me_ofZH hl (by decide +kernel) (Nat.le_of_ble_eq_true rfl) (fun X C N hT => ?_)
  unfold f_L_program at hf
  refine me_aload C (Or.inr (Or.inl ⟨_, rfl⟩)) dL_program_0 rfl ?_
  refine me_iconst C (v := 0) dL_program_2 (by decide) ?_
  refine me_aload_n C 0 (Or.inr (Or.inl ⟨_, rfl⟩)) dL_program_3 rfl rfl ?_
  refine me_iload_n C 1 dL_program_4 rfl rfl ?_
  refine me_iload_n C 2 dL_program_5 rfl rfl ?_
  refine me_iload_n C 3 dL_program_6 rfl rfl ?_
  obtain ⟨μ1, r1, h_r, hf⟩ := me_bs2 hf
  rcases r1 with k | v
  · replace hf := me_xme hf
    refine me_callVE C N (As := [me_i v1, me_i v2, me_i v3]) (st := [me_i 0, me_r 93 0]) 2 12 (c_Y_program hB h_r) mv_Y_program ml_L_96 rfl rfl dL_program_7 rfl rfl ⟨by decide, by decide⟩ ⟨by decide, by decide, by decide, by decide⟩ (Nat.le_of_ble_eq_true rfl) ?_
    by_cases c0 : k = 1
    · subst c0
      replace hf := me_ip rfl hf
      refine me_catch C hT (k := 1) [] (0, 12, 15, 13) [(0, 12, 19, 15), (0, 12, 23, 17)] rfl (fun z hz => by cases hz) ⟨by decide, by decide⟩ (by decide) cl_L_13 ca_1 (fun q => ?_)
      refine me_astore C (Or.inr (Or.inr ⟨_, rfl⟩)) dL_program_15 (by decide) (L' := [(5, .inl (.ref q)), (0, me_r 0 0), (1, me_i v1), (2, me_i v2), (3, me_i v3), (4, me_r 93 0)]) rfl ?_
      refine me_iconst C (v := 1) dL_program_17 (by decide) ?_
      exact me_iretO C N dL_program_18 (by cases hf; rfl) (by decide) (by decide)
    replace hf := me_in c0 hf
    by_cases c1 : k = 2
    · subst c1
      replace hf := me_ip rfl hf
      refine me_catch C hT (k := 2) [(0, 12, 15, 13)] (0, 12, 19, 15) [(0, 12, 23, 17)] rfl (List.forall_mem_cons.mpr ⟨⟨by decide, _, cl_L_13, by decide +kernel⟩, (fun z hz => nomatch hz)⟩) ⟨by decide, by decide⟩ (by decide) cl_L_15 ca_2 (fun q => ?_)
      refine me_astore C (Or.inr (Or.inr ⟨_, rfl⟩)) dL_program_19 (by decide) (L' := [(5, .inl (.ref q)), (0, me_r 0 0), (1, me_i v1), (2, me_i v2), (3, me_i v3), (4, me_r 93 0)]) rfl ?_
      refine me_iconst C (v := 2) dL_program_21 (by decide) ?_
      exact me_iretO C N dL_program_22 (by cases hf; rfl) (by decide) (by decide)
    replace hf := me_in c1 hf
    by_cases c2 : k = 3
    · subst c2
      replace hf := me_ip rfl hf
      refine me_catch C hT (k := 3) [(0, 12, 15, 13), (0, 12, 19, 15)] (0, 12, 23, 17) [] rfl (List.forall_mem_cons.mpr ⟨⟨by decide, _, cl_L_13, by decide +kernel⟩, (List.forall_mem_cons.mpr ⟨⟨by decide, _, cl_L_15, by decide +kernel⟩, (fun z hz => nomatch hz)⟩)⟩) ⟨by decide, by decide⟩ (by decide) cl_L_17 ca_3 (fun q => ?_)
      refine me_astore C (Or.inr (Or.inr ⟨_, rfl⟩)) dL_program_23 (by decide) (L' := [(5, .inl (.ref q)), (0, me_r 0 0), (1, me_i v1), (2, me_i v2), (3, me_i v3), (4, me_r 93 0)]) rfl ?_
      refine me_iconst C (v := 3) dL_program_25 (by decide) ?_
      exact me_iretO C N dL_program_26 (by cases hf; rfl) (by decide) (by decide)
    replace hf := me_in c2 hf
    cases hf
  · replace hf := me_xmo hf
    refine me_callV C N (As := [me_i v1, me_i v2, me_i v3]) (st := [me_i 0, me_r 93 0]) 2 12 (c_Y_program hB h_r) mv_Y_program ml_L_96 rfl rfl dL_program_7 rfl rfl ⟨by decide, by decide⟩ ⟨by decide, by decide, by decide, by decide⟩ (Nat.le_of_ble_eq_true rfl) ?_
    refine me_i2l C dL_program_10 ?_
    refine me_last C h1 dL_program_11 ?_
    have C1 := C.ob (Int32.toInt64 v, B.2.2.2.2)
    refine me_goto C1 (tgt := 27) dL_program_12 (by decide) ?_
    refine me_iconst C1 (v := 0) dL_program_27 (by decide) ?_
    exact me_iretO C1 N dL_program_28 (by cases hf; rfl) (by decide) (by decide)

def f_L_clear (μ : me_M) (o : Int64 × UInt64) (v1 : Int32) : Option (me_M × ((Int64 × UInt64) × Int32)) :=
  me_b2 (f_Y_clear μ v1) (fun μ1 r1 => me_xm r1 (fun v => some (μ1, (Int32.toInt64 v, o.2), (0 : Int32)))
    (fun k => if k = 1 then some (μ1, o, (1 : Int32)) else if k = 3 then some (μ1, o, (2 : Int32)) else none))
set_option maxHeartbeats 4000000 in
set_option maxRecDepth 100000 in
theorem c_L_clear {B : me_B} (hB : me_St B) (h1 : ∀ i, i < B.2.1 93 → i = 0) {μ : me_M} {v1 : Int32} {μ' : me_M} {o' : Int64 × UInt64} {r : Int32} (hf : f_L_clear μ B.2.2.2 v1 = some (μ', o', r)) : ∀ l E z, l.stackTraces = false → me_MetH l yL_clear cL_clear 4 (some .int) [(0, 9, 12, 13), (0, 9, 15, 17)] 8 133 2 12 E B μ z [me_r 0 0, me_i v1, me_r 93 0] (me_ob B o', μ', .ok (some (me_i r))) := by
  intro l E z hl
  refine me_ofZH hl (by decide +kernel) (Nat.le_of_ble_eq_true rfl) (fun X C N hT => ?_)
  unfold f_L_clear at hf
  refine me_aload_n C 2 (Or.inr (Or.inl ⟨_, rfl⟩)) dL_clear_0 rfl rfl ?_
  refine me_iconst C (v := 0) dL_clear_1 (by decide) ?_
  refine me_aload_n C 0 (Or.inr (Or.inl ⟨_, rfl⟩)) dL_clear_2 rfl rfl ?_
  refine me_iload_n C 1 dL_clear_3 rfl rfl ?_
  obtain ⟨μ1, r1, h_r, hf⟩ := me_bs2 hf
  rcases r1 with k | v
  · replace hf := me_xme hf
    refine me_callVE C N (As := [me_i v1]) (st := [me_i 0, me_r 93 0]) 2 12 (c_Y_clear hB h_r) mv_Y_clear ml_L_99 rfl rfl dL_clear_4 rfl rfl ⟨by decide, by decide⟩ ⟨by decide, by decide, by decide, by decide⟩ (Nat.le_of_ble_eq_true rfl) ?_
    by_cases c0 : k = 1
    · subst c0
      replace hf := me_ip rfl hf
      refine me_catch C hT (k := 1) [] (0, 9, 12, 13) [(0, 9, 15, 17)] rfl (fun z hz => by cases hz) ⟨by decide, by decide⟩ (by decide) cl_L_13 ca_1 (fun q => ?_)
      refine me_astore_n C 3 (Or.inr (Or.inr ⟨_, rfl⟩)) dL_clear_12 rfl (by decide) (L' := [(3, .inl (.ref q)), (0, me_r 0 0), (1, me_i v1), (2, me_r 93 0)]) rfl ?_
      refine me_iconst C (v := 1) dL_clear_13 (by decide) ?_
      exact me_iretO C N dL_clear_14 (by cases hf; rfl) (by decide) (by decide)
    replace hf := me_in c0 hf
    by_cases c1 : k = 3
    · subst c1
      replace hf := me_ip rfl hf
      refine me_catch C hT (k := 3) [(0, 9, 12, 13)] (0, 9, 15, 17) [] rfl (List.forall_mem_cons.mpr ⟨⟨by decide, _, cl_L_13, by decide +kernel⟩, (fun z hz => nomatch hz)⟩) ⟨by decide, by decide⟩ (by decide) cl_L_17 ca_3 (fun q => ?_)
      refine me_astore_n C 3 (Or.inr (Or.inr ⟨_, rfl⟩)) dL_clear_15 rfl (by decide) (L' := [(3, .inl (.ref q)), (0, me_r 0 0), (1, me_i v1), (2, me_r 93 0)]) rfl ?_
      refine me_iconst C (v := 2) dL_clear_16 (by decide) ?_
      exact me_iretO C N dL_clear_17 (by cases hf; rfl) (by decide) (by decide)
    replace hf := me_in c1 hf
    cases hf
  · replace hf := me_xmo hf
    refine me_callV C N (As := [me_i v1]) (st := [me_i 0, me_r 93 0]) 2 12 (c_Y_clear hB h_r) mv_Y_clear ml_L_99 rfl rfl dL_clear_4 rfl rfl ⟨by decide, by decide⟩ ⟨by decide, by decide, by decide, by decide⟩ (Nat.le_of_ble_eq_true rfl) ?_
    refine me_i2l C dL_clear_7 ?_
    refine me_last C h1 dL_clear_8 ?_
    have C1 := C.ob (Int32.toInt64 v, B.2.2.2.2)
    refine me_goto C1 (tgt := 18) dL_clear_9 (by decide) ?_
    refine me_iconst C1 (v := 0) dL_clear_18 (by decide) ?_
    exact me_iretO C1 N dL_clear_19 (by cases hf; rfl) (by decide) (by decide)

def f_L_start (μ : me_M) (o : Int64 × UInt64) (v1 : Int32) : Option (me_M × ((Int64 × UInt64) × Int32)) :=
  me_b2 (f_Y_start μ v1) (fun μ1 r1 => me_xm r1 (fun v => some (μ1, (Int32.toInt64 v, o.2), (0 : Int32)))
    (fun k => if k = 1 then some (μ1, o, (1 : Int32)) else if k = 4 then some (μ1, o, (2 : Int32)) else if k = 3 then some (μ1, o, (3 : Int32)) else none))
set_option maxHeartbeats 4000000 in
set_option maxRecDepth 100000 in
theorem c_L_start {B : me_B} (hB : me_St B) (h1 : ∀ i, i < B.2.1 93 → i = 0) {μ : me_M} {v1 : Int32} {μ' : me_M} {o' : Int64 × UInt64} {r : Int32} (hf : f_L_start μ B.2.2.2 v1 = some (μ', o', r)) : ∀ l E z, l.stackTraces = false → me_MetH l yL_start cL_start 4 (some .int) [(0, 9, 12, 13), (0, 9, 15, 84), (0, 9, 18, 17)] 8 132 2 12 E B μ z [me_r 0 0, me_i v1, me_r 93 0] (me_ob B o', μ', .ok (some (me_i r))) := by
  intro l E z hl
  refine me_ofZH hl (by decide +kernel) (Nat.le_of_ble_eq_true rfl) (fun X C N hT => ?_)
  unfold f_L_start at hf
  refine me_aload_n C 2 (Or.inr (Or.inl ⟨_, rfl⟩)) dL_start_0 rfl rfl ?_
  refine me_iconst C (v := 0) dL_start_1 (by decide) ?_
  refine me_aload_n C 0 (Or.inr (Or.inl ⟨_, rfl⟩)) dL_start_2 rfl rfl ?_
  refine me_iload_n C 1 dL_start_3 rfl rfl ?_
  obtain ⟨μ1, r1, h_r, hf⟩ := me_bs2 hf
  rcases r1 with k | v
  · replace hf := me_xme hf
    refine me_callVE C N (As := [me_i v1]) (st := [me_i 0, me_r 93 0]) 2 12 (c_Y_start hB h_r) mv_Y_start ml_L_102 rfl rfl dL_start_4 rfl rfl ⟨by decide, by decide⟩ ⟨by decide, by decide, by decide, by decide⟩ (Nat.le_of_ble_eq_true rfl) ?_
    by_cases c0 : k = 1
    · subst c0
      replace hf := me_ip rfl hf
      refine me_catch C hT (k := 1) [] (0, 9, 12, 13) [(0, 9, 15, 84), (0, 9, 18, 17)] rfl (fun z hz => by cases hz) ⟨by decide, by decide⟩ (by decide) cl_L_13 ca_1 (fun q => ?_)
      refine me_astore_n C 3 (Or.inr (Or.inr ⟨_, rfl⟩)) dL_start_12 rfl (by decide) (L' := [(3, .inl (.ref q)), (0, me_r 0 0), (1, me_i v1), (2, me_r 93 0)]) rfl ?_
      refine me_iconst C (v := 1) dL_start_13 (by decide) ?_
      exact me_iretO C N dL_start_14 (by cases hf; rfl) (by decide) (by decide)
    replace hf := me_in c0 hf
    by_cases c1 : k = 4
    · subst c1
      replace hf := me_ip rfl hf
      refine me_catch C hT (k := 4) [(0, 9, 12, 13)] (0, 9, 15, 84) [(0, 9, 18, 17)] rfl (List.forall_mem_cons.mpr ⟨⟨by decide, _, cl_L_13, by decide +kernel⟩, (fun z hz => nomatch hz)⟩) ⟨by decide, by decide⟩ (by decide) cl_L_84 ca_4 (fun q => ?_)
      refine me_astore_n C 3 (Or.inr (Or.inr ⟨_, rfl⟩)) dL_start_15 rfl (by decide) (L' := [(3, .inl (.ref q)), (0, me_r 0 0), (1, me_i v1), (2, me_r 93 0)]) rfl ?_
      refine me_iconst C (v := 2) dL_start_16 (by decide) ?_
      exact me_iretO C N dL_start_17 (by cases hf; rfl) (by decide) (by decide)
    replace hf := me_in c1 hf
    by_cases c2 : k = 3
    · subst c2
      replace hf := me_ip rfl hf
      refine me_catch C hT (k := 3) [(0, 9, 12, 13), (0, 9, 15, 84)] (0, 9, 18, 17) [] rfl (List.forall_mem_cons.mpr ⟨⟨by decide, _, cl_L_13, by decide +kernel⟩, (List.forall_mem_cons.mpr ⟨⟨by decide, _, cl_L_84, by decide +kernel⟩, (fun z hz => nomatch hz)⟩)⟩) ⟨by decide, by decide⟩ (by decide) cl_L_17 ca_3 (fun q => ?_)
      refine me_astore_n C 3 (Or.inr (Or.inr ⟨_, rfl⟩)) dL_start_18 rfl (by decide) (L' := [(3, .inl (.ref q)), (0, me_r 0 0), (1, me_i v1), (2, me_r 93 0)]) rfl ?_
      refine me_iconst C (v := 3) dL_start_19 (by decide) ?_
      exact me_iretO C N dL_start_20 (by cases hf; rfl) (by decide) (by decide)
    replace hf := me_in c2 hf
    cases hf
  · replace hf := me_xmo hf
    refine me_callV C N (As := [me_i v1]) (st := [me_i 0, me_r 93 0]) 2 12 (c_Y_start hB h_r) mv_Y_start ml_L_102 rfl rfl dL_start_4 rfl rfl ⟨by decide, by decide⟩ ⟨by decide, by decide, by decide, by decide⟩ (Nat.le_of_ble_eq_true rfl) ?_
    refine me_i2l C dL_start_7 ?_
    refine me_last C h1 dL_start_8 ?_
    have C1 := C.ob (Int32.toInt64 v, B.2.2.2.2)
    refine me_goto C1 (tgt := 21) dL_start_9 (by decide) ?_
    refine me_iconst C1 (v := 0) dL_start_21 (by decide) ?_
    exact me_iretO C1 N dL_start_22 (by cases hf; rfl) (by decide) (by decide)

def f_L_core (μ : me_M) (o : Int64 × UInt64) (v1 : Int32) : Option (me_M × ((Int64 × UInt64) × Int32)) :=
  me_bd (f_Y_core μ v1) (fun r1 => me_xm r1 (fun v => some (μ, (Int32.toInt64 v, o.2), (0 : Int32)))
    (fun k => if k = 1 then some (μ, o, (1 : Int32)) else none))
set_option maxHeartbeats 4000000 in
set_option maxRecDepth 100000 in
theorem c_L_core {B : me_B} (hB : me_St B) (h1 : ∀ i, i < B.2.1 93 → i = 0) {μ : me_M} {v1 : Int32} {μ' : me_M} {o' : Int64 × UInt64} {r : Int32} (hf : f_L_core μ B.2.2.2 v1 = some (μ', o', r)) : ∀ l E z, l.stackTraces = false → me_MetH l yL_core cL_core 4 (some .int) [(0, 9, 12, 13)] 8 132 1 6 E B μ z [me_r 0 0, me_i v1, me_r 93 0] (me_ob B o', μ', .ok (some (me_i r))) := by
  intro l E z hl
  refine me_ofZH hl (by decide +kernel) (Nat.le_of_ble_eq_true rfl) (fun X C N hT => ?_)
  unfold f_L_core at hf
  refine me_aload_n C 2 (Or.inr (Or.inl ⟨_, rfl⟩)) dL_core_0 rfl rfl ?_
  refine me_iconst C (v := 0) dL_core_1 (by decide) ?_
  refine me_aload_n C 0 (Or.inr (Or.inl ⟨_, rfl⟩)) dL_core_2 rfl rfl ?_
  refine me_iload_n C 1 dL_core_3 rfl rfl ?_
  obtain ⟨r1, h_r, hf⟩ := me_bs hf
  rcases r1 with k | v
  · replace hf := me_xme hf
    refine me_callVE C N (As := [me_i v1]) (st := [me_i 0, me_r 93 0]) 1 6 (c_Y_core hB h_r) mv_Y_core ml_L_105 rfl rfl dL_core_4 rfl rfl ⟨by decide, by decide⟩ ⟨by decide, by decide, by decide, by decide⟩ (Nat.le_of_ble_eq_true rfl) ?_
    by_cases c0 : k = 1
    · subst c0
      replace hf := me_ip rfl hf
      refine me_catch C hT (k := 1) [] (0, 9, 12, 13) [] rfl (fun z hz => by cases hz) ⟨by decide, by decide⟩ (by decide) cl_L_13 ca_1 (fun q => ?_)
      refine me_astore_n C 3 (Or.inr (Or.inr ⟨_, rfl⟩)) dL_core_12 rfl (by decide) (L' := [(3, .inl (.ref q)), (0, me_r 0 0), (1, me_i v1), (2, me_r 93 0)]) rfl ?_
      refine me_iconst C (v := 1) dL_core_13 (by decide) ?_
      exact me_iretO C N dL_core_14 (by cases hf; rfl) (by decide) (by decide)
    replace hf := me_in c0 hf
    cases hf
  · replace hf := me_xmo hf
    refine me_callV C N (As := [me_i v1]) (st := [me_i 0, me_r 93 0]) 1 6 (c_Y_core hB h_r) mv_Y_core ml_L_105 rfl rfl dL_core_4 rfl rfl ⟨by decide, by decide⟩ ⟨by decide, by decide, by decide, by decide⟩ (Nat.le_of_ble_eq_true rfl) ?_
    refine me_i2l C dL_core_7 ?_
    refine me_last C h1 dL_core_8 ?_
    have C1 := C.ob (Int32.toInt64 v, B.2.2.2.2)
    refine me_goto C1 (tgt := 15) dL_core_9 (by decide) ?_
    refine me_iconst C1 (v := 0) dL_core_15 (by decide) ?_
    exact me_iretO C1 N dL_core_16 (by cases hf; rfl) (by decide) (by decide)

def f_L_fault (μ : me_M) (o : Int64 × UInt64) (v1 : Int32) : Option (me_M × ((Int64 × UInt64) × Int32)) :=
  me_bd (f_Y_fault μ v1) (fun r1 => me_xm r1 (fun v => some (μ, (Int32.toInt64 v, o.2), (0 : Int32)))
    (fun k => if k = 1 then some (μ, o, (1 : Int32)) else if k = 5 then some (μ, o, (2 : Int32)) else none))
set_option maxHeartbeats 4000000 in
set_option maxRecDepth 100000 in
theorem c_L_fault {B : me_B} (hB : me_St B) (h1 : ∀ i, i < B.2.1 93 → i = 0) {μ : me_M} {v1 : Int32} {μ' : me_M} {o' : Int64 × UInt64} {r : Int32} (hf : f_L_fault μ B.2.2.2 v1 = some (μ', o', r)) : ∀ l E z, l.stackTraces = false → me_MetH l yL_fault cL_fault 4 (some .int) [(0, 9, 12, 13), (0, 9, 15, 31)] 8 132 2 12 E B μ z [me_r 0 0, me_i v1, me_r 93 0] (me_ob B o', μ', .ok (some (me_i r))) := by
  intro l E z hl
  refine me_ofZH hl (by decide +kernel) (Nat.le_of_ble_eq_true rfl) (fun X C N hT => ?_)
  unfold f_L_fault at hf
  refine me_aload_n C 2 (Or.inr (Or.inl ⟨_, rfl⟩)) dL_fault_0 rfl rfl ?_
  refine me_iconst C (v := 0) dL_fault_1 (by decide) ?_
  refine me_aload_n C 0 (Or.inr (Or.inl ⟨_, rfl⟩)) dL_fault_2 rfl rfl ?_
  refine me_iload_n C 1 dL_fault_3 rfl rfl ?_
  obtain ⟨r1, h_r, hf⟩ := me_bs hf
  rcases r1 with k | v
  · replace hf := me_xme hf
    refine me_callVE C N (As := [me_i v1]) (st := [me_i 0, me_r 93 0]) 2 12 (c_Y_fault hB h_r) mv_Y_fault ml_L_108 rfl rfl dL_fault_4 rfl rfl ⟨by decide, by decide⟩ ⟨by decide, by decide, by decide, by decide⟩ (Nat.le_of_ble_eq_true rfl) ?_
    by_cases c0 : k = 1
    · subst c0
      replace hf := me_ip rfl hf
      refine me_catch C hT (k := 1) [] (0, 9, 12, 13) [(0, 9, 15, 31)] rfl (fun z hz => by cases hz) ⟨by decide, by decide⟩ (by decide) cl_L_13 ca_1 (fun q => ?_)
      refine me_astore_n C 3 (Or.inr (Or.inr ⟨_, rfl⟩)) dL_fault_12 rfl (by decide) (L' := [(3, .inl (.ref q)), (0, me_r 0 0), (1, me_i v1), (2, me_r 93 0)]) rfl ?_
      refine me_iconst C (v := 1) dL_fault_13 (by decide) ?_
      exact me_iretO C N dL_fault_14 (by cases hf; rfl) (by decide) (by decide)
    replace hf := me_in c0 hf
    by_cases c1 : k = 5
    · subst c1
      replace hf := me_ip rfl hf
      refine me_catch C hT (k := 5) [(0, 9, 12, 13)] (0, 9, 15, 31) [] rfl (List.forall_mem_cons.mpr ⟨⟨by decide, _, cl_L_13, by decide +kernel⟩, (fun z hz => nomatch hz)⟩) ⟨by decide, by decide⟩ (by decide) cl_L_31 ca_5 (fun q => ?_)
      refine me_astore_n C 3 (Or.inr (Or.inr ⟨_, rfl⟩)) dL_fault_15 rfl (by decide) (L' := [(3, .inl (.ref q)), (0, me_r 0 0), (1, me_i v1), (2, me_r 93 0)]) rfl ?_
      refine me_iconst C (v := 2) dL_fault_16 (by decide) ?_
      exact me_iretO C N dL_fault_17 (by cases hf; rfl) (by decide) (by decide)
    replace hf := me_in c1 hf
    cases hf
  · replace hf := me_xmo hf
    refine me_callV C N (As := [me_i v1]) (st := [me_i 0, me_r 93 0]) 2 12 (c_Y_fault hB h_r) mv_Y_fault ml_L_108 rfl rfl dL_fault_4 rfl rfl ⟨by decide, by decide⟩ ⟨by decide, by decide, by decide, by decide⟩ (Nat.le_of_ble_eq_true rfl) ?_
    refine me_i2l C dL_fault_7 ?_
    refine me_last C h1 dL_fault_8 ?_
    have C1 := C.ob (Int32.toInt64 v, B.2.2.2.2)
    refine me_goto C1 (tgt := 18) dL_fault_9 (by decide) ?_
    refine me_iconst C1 (v := 0) dL_fault_18 (by decide) ?_
    exact me_iretO C1 N dL_fault_19 (by cases hf; rfl) (by decide) (by decide)

def f_L_memory (μ : me_M) (o : Int64 × UInt64) (v1 : Int32) (v2 : Int32) : Option (me_M × ((Int64 × UInt64) × Int32)) :=
  me_bd (f_Y_memory μ v1 v2) (fun r1 => me_xm r1 (fun v => some (μ, (Int32.toInt64 v, o.2), (0 : Int32)))
    (fun k => if k = 1 then some (μ, o, (1 : Int32)) else if k = 2 then some (μ, o, (2 : Int32)) else none))
set_option maxHeartbeats 4000000 in
set_option maxRecDepth 100000 in
theorem c_L_memory {B : me_B} (hB : me_St B) (h1 : ∀ i, i < B.2.1 93 → i = 0) {μ : me_M} {v1 : Int32} {v2 : Int32} {μ' : me_M} {o' : Int64 × UInt64} {r : Int32} (hf : f_L_memory μ B.2.2.2 v1 v2 = some (μ', o', r)) : ∀ l E z, l.stackTraces = false → me_MetH l yL_memory cL_memory 5 (some .int) [(0, 10, 13, 13), (0, 10, 17, 15)] 8 135 2 12 E B μ z [me_r 0 0, me_i v1, me_i v2, me_r 93 0] (me_ob B o', μ', .ok (some (me_i r))) := by
  intro l E z hl
  refine me_ofZH hl (by decide +kernel) (Nat.le_of_ble_eq_true rfl) (fun X C N hT => ?_)
  unfold f_L_memory at hf
  refine me_aload_n C 3 (Or.inr (Or.inl ⟨_, rfl⟩)) dL_memory_0 rfl rfl ?_
  refine me_iconst C (v := 0) dL_memory_1 (by decide) ?_
  refine me_aload_n C 0 (Or.inr (Or.inl ⟨_, rfl⟩)) dL_memory_2 rfl rfl ?_
  refine me_iload_n C 1 dL_memory_3 rfl rfl ?_
  refine me_iload_n C 2 dL_memory_4 rfl rfl ?_
  obtain ⟨r1, h_r, hf⟩ := me_bs hf
  rcases r1 with k | v
  · replace hf := me_xme hf
    refine me_callVE C N (As := [me_i v1, me_i v2]) (st := [me_i 0, me_r 93 0]) 2 12 (c_Y_memory hB h_r) mv_Y_memory ml_L_111 rfl rfl dL_memory_5 rfl rfl ⟨by decide, by decide⟩ ⟨by decide, by decide, by decide, by decide⟩ (Nat.le_of_ble_eq_true rfl) ?_
    by_cases c0 : k = 1
    · subst c0
      replace hf := me_ip rfl hf
      refine me_catch C hT (k := 1) [] (0, 10, 13, 13) [(0, 10, 17, 15)] rfl (fun z hz => by cases hz) ⟨by decide, by decide⟩ (by decide) cl_L_13 ca_1 (fun q => ?_)
      refine me_astore C (Or.inr (Or.inr ⟨_, rfl⟩)) dL_memory_13 (by decide) (L' := [(4, .inl (.ref q)), (0, me_r 0 0), (1, me_i v1), (2, me_i v2), (3, me_r 93 0)]) rfl ?_
      refine me_iconst C (v := 1) dL_memory_15 (by decide) ?_
      exact me_iretO C N dL_memory_16 (by cases hf; rfl) (by decide) (by decide)
    replace hf := me_in c0 hf
    by_cases c1 : k = 2
    · subst c1
      replace hf := me_ip rfl hf
      refine me_catch C hT (k := 2) [(0, 10, 13, 13)] (0, 10, 17, 15) [] rfl (List.forall_mem_cons.mpr ⟨⟨by decide, _, cl_L_13, by decide +kernel⟩, (fun z hz => nomatch hz)⟩) ⟨by decide, by decide⟩ (by decide) cl_L_15 ca_2 (fun q => ?_)
      refine me_astore C (Or.inr (Or.inr ⟨_, rfl⟩)) dL_memory_17 (by decide) (L' := [(4, .inl (.ref q)), (0, me_r 0 0), (1, me_i v1), (2, me_i v2), (3, me_r 93 0)]) rfl ?_
      refine me_iconst C (v := 2) dL_memory_19 (by decide) ?_
      exact me_iretO C N dL_memory_20 (by cases hf; rfl) (by decide) (by decide)
    replace hf := me_in c1 hf
    cases hf
  · replace hf := me_xmo hf
    refine me_callV C N (As := [me_i v1, me_i v2]) (st := [me_i 0, me_r 93 0]) 2 12 (c_Y_memory hB h_r) mv_Y_memory ml_L_111 rfl rfl dL_memory_5 rfl rfl ⟨by decide, by decide⟩ ⟨by decide, by decide, by decide, by decide⟩ (Nat.le_of_ble_eq_true rfl) ?_
    refine me_i2l C dL_memory_8 ?_
    refine me_last C h1 dL_memory_9 ?_
    have C1 := C.ob (Int32.toInt64 v, B.2.2.2.2)
    refine me_goto C1 (tgt := 21) dL_memory_10 (by decide) ?_
    refine me_iconst C1 (v := 0) dL_memory_21 (by decide) ?_
    exact me_iretO C1 N dL_memory_22 (by cases hf; rfl) (by decide) (by decide)

def f_L_set (μ : me_M) (o : Int64 × UInt64) (v1 : Int32) (v2 : Int32) (v3 : Int32) : Option (me_M × ((Int64 × UInt64) × Int32)) :=
  me_b2 (f_Y_set μ v1 v2 v3) (fun μ1 r1 => me_xm r1 (fun v => some (μ1, (Int32.toInt64 v, o.2), (0 : Int32)))
    (fun k => if k = 1 then some (μ1, o, (1 : Int32)) else if k = 2 then some (μ1, o, (2 : Int32)) else none))
set_option maxHeartbeats 4000000 in
set_option maxRecDepth 100000 in
theorem c_L_set {B : me_B} (hB : me_St B) (h1 : ∀ i, i < B.2.1 93 → i = 0) {μ : me_M} {v1 : Int32} {v2 : Int32} {v3 : Int32} {μ' : me_M} {o' : Int64 × UInt64} {r : Int32} (hf : f_L_set μ B.2.2.2 v1 v2 v3 = some (μ', o', r)) : ∀ l E z, l.stackTraces = false → me_MetH l yL_set cL_set 6 (some .int) [(0, 12, 15, 13), (0, 12, 19, 15)] 8 137 2 12 E B μ z [me_r 0 0, me_i v1, me_i v2, me_i v3, me_r 93 0] (me_ob B o', μ', .ok (some (me_i r))) := by
  intro l E z hl
  refine me_ofZH hl (by decide +kernel) (Nat.le_of_ble_eq_true rfl) (fun X C N hT => ?_)
  unfold f_L_set at hf
  refine me_aload C (Or.inr (Or.inl ⟨_, rfl⟩)) dL_set_0 rfl ?_
  refine me_iconst C (v := 0) dL_set_2 (by decide) ?_
  refine me_aload_n C 0 (Or.inr (Or.inl ⟨_, rfl⟩)) dL_set_3 rfl rfl ?_
  refine me_iload_n C 1 dL_set_4 rfl rfl ?_
  refine me_iload_n C 2 dL_set_5 rfl rfl ?_
  refine me_iload_n C 3 dL_set_6 rfl rfl ?_
  obtain ⟨μ1, r1, h_r, hf⟩ := me_bs2 hf
  rcases r1 with k | v
  · replace hf := me_xme hf
    refine me_callVE C N (As := [me_i v1, me_i v2, me_i v3]) (st := [me_i 0, me_r 93 0]) 2 12 (c_Y_set hB h_r) mv_Y_set ml_L_114 rfl rfl dL_set_7 rfl rfl ⟨by decide, by decide⟩ ⟨by decide, by decide, by decide, by decide⟩ (Nat.le_of_ble_eq_true rfl) ?_
    by_cases c0 : k = 1
    · subst c0
      replace hf := me_ip rfl hf
      refine me_catch C hT (k := 1) [] (0, 12, 15, 13) [(0, 12, 19, 15)] rfl (fun z hz => by cases hz) ⟨by decide, by decide⟩ (by decide) cl_L_13 ca_1 (fun q => ?_)
      refine me_astore C (Or.inr (Or.inr ⟨_, rfl⟩)) dL_set_15 (by decide) (L' := [(5, .inl (.ref q)), (0, me_r 0 0), (1, me_i v1), (2, me_i v2), (3, me_i v3), (4, me_r 93 0)]) rfl ?_
      refine me_iconst C (v := 1) dL_set_17 (by decide) ?_
      exact me_iretO C N dL_set_18 (by cases hf; rfl) (by decide) (by decide)
    replace hf := me_in c0 hf
    by_cases c1 : k = 2
    · subst c1
      replace hf := me_ip rfl hf
      refine me_catch C hT (k := 2) [(0, 12, 15, 13)] (0, 12, 19, 15) [] rfl (List.forall_mem_cons.mpr ⟨⟨by decide, _, cl_L_13, by decide +kernel⟩, (fun z hz => nomatch hz)⟩) ⟨by decide, by decide⟩ (by decide) cl_L_15 ca_2 (fun q => ?_)
      refine me_astore C (Or.inr (Or.inr ⟨_, rfl⟩)) dL_set_19 (by decide) (L' := [(5, .inl (.ref q)), (0, me_r 0 0), (1, me_i v1), (2, me_i v2), (3, me_i v3), (4, me_r 93 0)]) rfl ?_
      refine me_iconst C (v := 2) dL_set_21 (by decide) ?_
      exact me_iretO C N dL_set_22 (by cases hf; rfl) (by decide) (by decide)
    replace hf := me_in c1 hf
    cases hf
  · replace hf := me_xmo hf
    refine me_callV C N (As := [me_i v1, me_i v2, me_i v3]) (st := [me_i 0, me_r 93 0]) 2 12 (c_Y_set hB h_r) mv_Y_set ml_L_114 rfl rfl dL_set_7 rfl rfl ⟨by decide, by decide⟩ ⟨by decide, by decide, by decide, by decide⟩ (Nat.le_of_ble_eq_true rfl) ?_
    refine me_i2l C dL_set_10 ?_
    refine me_last C h1 dL_set_11 ?_
    have C1 := C.ob (Int32.toInt64 v, B.2.2.2.2)
    refine me_goto C1 (tgt := 23) dL_set_12 (by decide) ?_
    refine me_iconst C1 (v := 0) dL_set_23 (by decide) ?_
    exact me_iretO C1 N dL_set_24 (by cases hf; rfl) (by decide) (by decide)

def f_L_top (μ : me_M) (o : Int64 × UInt64) (v1 : Int32) : Option (me_M × ((Int64 × UInt64) × Int32)) :=
  me_bd (f_Y_top μ v1) (fun r1 => me_xm r1 (fun v => some (μ, (Int32.toInt64 v, o.2), (0 : Int32)))
    (fun k => if k = 1 then some (μ, o, (1 : Int32)) else if k = 5 then some (μ, o, (2 : Int32)) else none))
set_option maxHeartbeats 4000000 in
set_option maxRecDepth 100000 in
theorem c_L_top {B : me_B} (hB : me_St B) (h1 : ∀ i, i < B.2.1 93 → i = 0) {μ : me_M} {v1 : Int32} {μ' : me_M} {o' : Int64 × UInt64} {r : Int32} (hf : f_L_top μ B.2.2.2 v1 = some (μ', o', r)) : ∀ l E z, l.stackTraces = false → me_MetH l yL_top cL_top 4 (some .int) [(0, 9, 12, 13), (0, 9, 15, 31)] 8 133 2 12 E B μ z [me_r 0 0, me_i v1, me_r 93 0] (me_ob B o', μ', .ok (some (me_i r))) := by
  intro l E z hl
  refine me_ofZH hl (by decide +kernel) (Nat.le_of_ble_eq_true rfl) (fun X C N hT => ?_)
  unfold f_L_top at hf
  refine me_aload_n C 2 (Or.inr (Or.inl ⟨_, rfl⟩)) dL_top_0 rfl rfl ?_
  refine me_iconst C (v := 0) dL_top_1 (by decide) ?_
  refine me_aload_n C 0 (Or.inr (Or.inl ⟨_, rfl⟩)) dL_top_2 rfl rfl ?_
  refine me_iload_n C 1 dL_top_3 rfl rfl ?_
  obtain ⟨r1, h_r, hf⟩ := me_bs hf
  rcases r1 with k | v
  · replace hf := me_xme hf
    refine me_callVE C N (As := [me_i v1]) (st := [me_i 0, me_r 93 0]) 2 12 (c_Y_top hB h_r) mv_Y_top ml_L_117 rfl rfl dL_top_4 rfl rfl ⟨by decide, by decide⟩ ⟨by decide, by decide, by decide, by decide⟩ (Nat.le_of_ble_eq_true rfl) ?_
    by_cases c0 : k = 1
    · subst c0
      replace hf := me_ip rfl hf
      refine me_catch C hT (k := 1) [] (0, 9, 12, 13) [(0, 9, 15, 31)] rfl (fun z hz => by cases hz) ⟨by decide, by decide⟩ (by decide) cl_L_13 ca_1 (fun q => ?_)
      refine me_astore_n C 3 (Or.inr (Or.inr ⟨_, rfl⟩)) dL_top_12 rfl (by decide) (L' := [(3, .inl (.ref q)), (0, me_r 0 0), (1, me_i v1), (2, me_r 93 0)]) rfl ?_
      refine me_iconst C (v := 1) dL_top_13 (by decide) ?_
      exact me_iretO C N dL_top_14 (by cases hf; rfl) (by decide) (by decide)
    replace hf := me_in c0 hf
    by_cases c1 : k = 5
    · subst c1
      replace hf := me_ip rfl hf
      refine me_catch C hT (k := 5) [(0, 9, 12, 13)] (0, 9, 15, 31) [] rfl (List.forall_mem_cons.mpr ⟨⟨by decide, _, cl_L_13, by decide +kernel⟩, (fun z hz => nomatch hz)⟩) ⟨by decide, by decide⟩ (by decide) cl_L_31 ca_5 (fun q => ?_)
      refine me_astore_n C 3 (Or.inr (Or.inr ⟨_, rfl⟩)) dL_top_15 rfl (by decide) (L' := [(3, .inl (.ref q)), (0, me_r 0 0), (1, me_i v1), (2, me_r 93 0)]) rfl ?_
      refine me_iconst C (v := 2) dL_top_16 (by decide) ?_
      exact me_iretO C N dL_top_17 (by cases hf; rfl) (by decide) (by decide)
    replace hf := me_in c1 hf
    cases hf
  · replace hf := me_xmo hf
    refine me_callV C N (As := [me_i v1]) (st := [me_i 0, me_r 93 0]) 2 12 (c_Y_top hB h_r) mv_Y_top ml_L_117 rfl rfl dL_top_4 rfl rfl ⟨by decide, by decide⟩ ⟨by decide, by decide, by decide, by decide⟩ (Nat.le_of_ble_eq_true rfl) ?_
    refine me_i2l C dL_top_7 ?_
    refine me_last C h1 dL_top_8 ?_
    have C1 := C.ob (Int32.toInt64 v, B.2.2.2.2)
    refine me_goto C1 (tgt := 18) dL_top_9 (by decide) ?_
    refine me_iconst C1 (v := 0) dL_top_18 (by decide) ?_
    exact me_iretO C1 N dL_top_19 (by cases hf; rfl) (by decide) (by decide)

def f_L_at (μ : me_M) (o : Int64 × UInt64) (v1 : Int32) : Option (me_M × ((Int64 × UInt64) × Int32)) :=
  me_bd (f_Y_at μ v1) (fun r1 => me_xm r1 (fun v => some (μ, (Int32.toInt64 v, o.2), (0 : Int32)))
    (fun k => if k = 1 then some (μ, o, (1 : Int32)) else if k = 5 then some (μ, o, (2 : Int32)) else none))
set_option maxHeartbeats 4000000 in
set_option maxRecDepth 100000 in
theorem c_L_at {B : me_B} (hB : me_St B) (h1 : ∀ i, i < B.2.1 93 → i = 0) {μ : me_M} {v1 : Int32} {μ' : me_M} {o' : Int64 × UInt64} {r : Int32} (hf : f_L_at μ B.2.2.2 v1 = some (μ', o', r)) : ∀ l E z, l.stackTraces = false → me_MetH l yL_at cL_at 4 (some .int) [(0, 9, 12, 13), (0, 9, 15, 31)] 8 132 2 12 E B μ z [me_r 0 0, me_i v1, me_r 93 0] (me_ob B o', μ', .ok (some (me_i r))) := by
  intro l E z hl
  refine me_ofZH hl (by decide +kernel) (Nat.le_of_ble_eq_true rfl) (fun X C N hT => ?_)
  unfold f_L_at at hf
  refine me_aload_n C 2 (Or.inr (Or.inl ⟨_, rfl⟩)) dL_at_0 rfl rfl ?_
  refine me_iconst C (v := 0) dL_at_1 (by decide) ?_
  refine me_aload_n C 0 (Or.inr (Or.inl ⟨_, rfl⟩)) dL_at_2 rfl rfl ?_
  refine me_iload_n C 1 dL_at_3 rfl rfl ?_
  obtain ⟨r1, h_r, hf⟩ := me_bs hf
  rcases r1 with k | v
  · replace hf := me_xme hf
    refine me_callVE C N (As := [me_i v1]) (st := [me_i 0, me_r 93 0]) 2 12 (c_Y_at hB h_r) mv_Y_at ml_L_120 rfl rfl dL_at_4 rfl rfl ⟨by decide, by decide⟩ ⟨by decide, by decide, by decide, by decide⟩ (Nat.le_of_ble_eq_true rfl) ?_
    by_cases c0 : k = 1
    · subst c0
      replace hf := me_ip rfl hf
      refine me_catch C hT (k := 1) [] (0, 9, 12, 13) [(0, 9, 15, 31)] rfl (fun z hz => by cases hz) ⟨by decide, by decide⟩ (by decide) cl_L_13 ca_1 (fun q => ?_)
      refine me_astore_n C 3 (Or.inr (Or.inr ⟨_, rfl⟩)) dL_at_12 rfl (by decide) (L' := [(3, .inl (.ref q)), (0, me_r 0 0), (1, me_i v1), (2, me_r 93 0)]) rfl ?_
      refine me_iconst C (v := 1) dL_at_13 (by decide) ?_
      exact me_iretO C N dL_at_14 (by cases hf; rfl) (by decide) (by decide)
    replace hf := me_in c0 hf
    by_cases c1 : k = 5
    · subst c1
      replace hf := me_ip rfl hf
      refine me_catch C hT (k := 5) [(0, 9, 12, 13)] (0, 9, 15, 31) [] rfl (List.forall_mem_cons.mpr ⟨⟨by decide, _, cl_L_13, by decide +kernel⟩, (fun z hz => nomatch hz)⟩) ⟨by decide, by decide⟩ (by decide) cl_L_31 ca_5 (fun q => ?_)
      refine me_astore_n C 3 (Or.inr (Or.inr ⟨_, rfl⟩)) dL_at_15 rfl (by decide) (L' := [(3, .inl (.ref q)), (0, me_r 0 0), (1, me_i v1), (2, me_r 93 0)]) rfl ?_
      refine me_iconst C (v := 2) dL_at_16 (by decide) ?_
      exact me_iretO C N dL_at_17 (by cases hf; rfl) (by decide) (by decide)
    replace hf := me_in c1 hf
    cases hf
  · replace hf := me_xmo hf
    refine me_callV C N (As := [me_i v1]) (st := [me_i 0, me_r 93 0]) 2 12 (c_Y_at hB h_r) mv_Y_at ml_L_120 rfl rfl dL_at_4 rfl rfl ⟨by decide, by decide⟩ ⟨by decide, by decide, by decide, by decide⟩ (Nat.le_of_ble_eq_true rfl) ?_
    refine me_i2l C dL_at_7 ?_
    refine me_last C h1 dL_at_8 ?_
    have C1 := C.ob (Int32.toInt64 v, B.2.2.2.2)
    refine me_goto C1 (tgt := 18) dL_at_9 (by decide) ?_
    refine me_iconst C1 (v := 0) dL_at_18 (by decide) ?_
    exact me_iretO C1 N dL_at_19 (by cases hf; rfl) (by decide) (by decide)

def f_L_task (μ : me_M) (o : Int64 × UInt64) (v1 : Int32) : Option (me_M × ((Int64 × UInt64) × Int32)) :=
  me_b2 (f_Y_task μ v1) (fun μ1 r1 => me_xm r1 (fun v => some (μ1, (Int32.toInt64 v, o.2), (0 : Int32)))
    (fun k => if k = 1 then some (μ1, o, (1 : Int32)) else if k = 3 then some (μ1, o, (2 : Int32)) else none))
set_option maxHeartbeats 4000000 in
set_option maxRecDepth 100000 in
theorem c_L_task {B : me_B} (hB : me_St B) (h1 : ∀ i, i < B.2.1 93 → i = 0) {μ : me_M} {v1 : Int32} {μ' : me_M} {o' : Int64 × UInt64} {r : Int32} (hf : f_L_task μ B.2.2.2 v1 = some (μ', o', r)) : ∀ l E z, l.stackTraces = false → me_MetH l yL_task cL_task 4 (some .int) [(0, 9, 12, 13), (0, 9, 15, 17)] 8 132 2 12 E B μ z [me_r 0 0, me_i v1, me_r 93 0] (me_ob B o', μ', .ok (some (me_i r))) := by
  intro l E z hl
  refine me_ofZH hl (by decide +kernel) (Nat.le_of_ble_eq_true rfl) (fun X C N hT => ?_)
  unfold f_L_task at hf
  refine me_aload_n C 2 (Or.inr (Or.inl ⟨_, rfl⟩)) dL_task_0 rfl rfl ?_
  refine me_iconst C (v := 0) dL_task_1 (by decide) ?_
  refine me_aload_n C 0 (Or.inr (Or.inl ⟨_, rfl⟩)) dL_task_2 rfl rfl ?_
  refine me_iload_n C 1 dL_task_3 rfl rfl ?_
  obtain ⟨μ1, r1, h_r, hf⟩ := me_bs2 hf
  rcases r1 with k | v
  · replace hf := me_xme hf
    refine me_callVE C N (As := [me_i v1]) (st := [me_i 0, me_r 93 0]) 2 12 (c_Y_task hB h_r) mv_Y_task ml_L_123 rfl rfl dL_task_4 rfl rfl ⟨by decide, by decide⟩ ⟨by decide, by decide, by decide, by decide⟩ (Nat.le_of_ble_eq_true rfl) ?_
    by_cases c0 : k = 1
    · subst c0
      replace hf := me_ip rfl hf
      refine me_catch C hT (k := 1) [] (0, 9, 12, 13) [(0, 9, 15, 17)] rfl (fun z hz => by cases hz) ⟨by decide, by decide⟩ (by decide) cl_L_13 ca_1 (fun q => ?_)
      refine me_astore_n C 3 (Or.inr (Or.inr ⟨_, rfl⟩)) dL_task_12 rfl (by decide) (L' := [(3, .inl (.ref q)), (0, me_r 0 0), (1, me_i v1), (2, me_r 93 0)]) rfl ?_
      refine me_iconst C (v := 1) dL_task_13 (by decide) ?_
      exact me_iretO C N dL_task_14 (by cases hf; rfl) (by decide) (by decide)
    replace hf := me_in c0 hf
    by_cases c1 : k = 3
    · subst c1
      replace hf := me_ip rfl hf
      refine me_catch C hT (k := 3) [(0, 9, 12, 13)] (0, 9, 15, 17) [] rfl (List.forall_mem_cons.mpr ⟨⟨by decide, _, cl_L_13, by decide +kernel⟩, (fun z hz => nomatch hz)⟩) ⟨by decide, by decide⟩ (by decide) cl_L_17 ca_3 (fun q => ?_)
      refine me_astore_n C 3 (Or.inr (Or.inr ⟨_, rfl⟩)) dL_task_15 rfl (by decide) (L' := [(3, .inl (.ref q)), (0, me_r 0 0), (1, me_i v1), (2, me_r 93 0)]) rfl ?_
      refine me_iconst C (v := 2) dL_task_16 (by decide) ?_
      exact me_iretO C N dL_task_17 (by cases hf; rfl) (by decide) (by decide)
    replace hf := me_in c1 hf
    cases hf
  · replace hf := me_xmo hf
    refine me_callV C N (As := [me_i v1]) (st := [me_i 0, me_r 93 0]) 2 12 (c_Y_task hB h_r) mv_Y_task ml_L_123 rfl rfl dL_task_4 rfl rfl ⟨by decide, by decide⟩ ⟨by decide, by decide, by decide, by decide⟩ (Nat.le_of_ble_eq_true rfl) ?_
    refine me_i2l C dL_task_7 ?_
    refine me_last C h1 dL_task_8 ?_
    have C1 := C.ob (Int32.toInt64 v, B.2.2.2.2)
    refine me_goto C1 (tgt := 18) dL_task_9 (by decide) ?_
    refine me_iconst C1 (v := 0) dL_task_18 (by decide) ?_
    exact me_iretO C1 N dL_task_19 (by cases hf; rfl) (by decide) (by decide)

def f_L_traffic (μ : me_M) (o : Int64 × UInt64) (v1 : Int32) (v2 : Int32) (v3 : Int32) : Option (me_M × ((Int64 × UInt64) × Int32)) :=
  me_b2 (f_Y_traffic μ v1 v2 v3) (fun μ1 r1 => me_xm r1 (fun v => some (μ1, (Int32.toInt64 v, o.2), (0 : Int32)))
    (fun k => if k = 1 then some (μ1, o, (1 : Int32)) else if k = 2 then some (μ1, o, (2 : Int32)) else none))
set_option maxHeartbeats 4000000 in
set_option maxRecDepth 100000 in
theorem c_L_traffic {B : me_B} (hB : me_St B) (h1 : ∀ i, i < B.2.1 93 → i = 0) {μ : me_M} {v1 : Int32} {v2 : Int32} {v3 : Int32} {μ' : me_M} {o' : Int64 × UInt64} {r : Int32} (hf : f_L_traffic μ B.2.2.2 v1 v2 v3 = some (μ', o', r)) : ∀ l E z, l.stackTraces = false → me_MetH l yL_traffic cL_traffic 6 (some .int) [(0, 12, 15, 13), (0, 12, 19, 15)] 8 136 3 18 E B μ z [me_r 0 0, me_i v1, me_i v2, me_i v3, me_r 93 0] (me_ob B o', μ', .ok (some (me_i r))) := by
  intro l E z hl
  refine me_ofZH hl (by decide +kernel) (Nat.le_of_ble_eq_true rfl) (fun X C N hT => ?_)
  unfold f_L_traffic at hf
  refine me_aload C (Or.inr (Or.inl ⟨_, rfl⟩)) dL_traffic_0 rfl ?_
  refine me_iconst C (v := 0) dL_traffic_2 (by decide) ?_
  refine me_aload_n C 0 (Or.inr (Or.inl ⟨_, rfl⟩)) dL_traffic_3 rfl rfl ?_
  refine me_iload_n C 1 dL_traffic_4 rfl rfl ?_
  refine me_iload_n C 2 dL_traffic_5 rfl rfl ?_
  refine me_iload_n C 3 dL_traffic_6 rfl rfl ?_
  obtain ⟨μ1, r1, h_r, hf⟩ := me_bs2 hf
  rcases r1 with k | v
  · replace hf := me_xme hf
    refine me_callVE C N (As := [me_i v1, me_i v2, me_i v3]) (st := [me_i 0, me_r 93 0]) 3 18 (c_Y_traffic hB h_r) mv_Y_traffic ml_L_126 rfl rfl dL_traffic_7 rfl rfl ⟨by decide, by decide⟩ ⟨by decide, by decide, by decide, by decide⟩ (Nat.le_of_ble_eq_true rfl) ?_
    by_cases c0 : k = 1
    · subst c0
      replace hf := me_ip rfl hf
      refine me_catch C hT (k := 1) [] (0, 12, 15, 13) [(0, 12, 19, 15)] rfl (fun z hz => by cases hz) ⟨by decide, by decide⟩ (by decide) cl_L_13 ca_1 (fun q => ?_)
      refine me_astore C (Or.inr (Or.inr ⟨_, rfl⟩)) dL_traffic_15 (by decide) (L' := [(5, .inl (.ref q)), (0, me_r 0 0), (1, me_i v1), (2, me_i v2), (3, me_i v3), (4, me_r 93 0)]) rfl ?_
      refine me_iconst C (v := 1) dL_traffic_17 (by decide) ?_
      exact me_iretO C N dL_traffic_18 (by cases hf; rfl) (by decide) (by decide)
    replace hf := me_in c0 hf
    by_cases c1 : k = 2
    · subst c1
      replace hf := me_ip rfl hf
      refine me_catch C hT (k := 2) [(0, 12, 15, 13)] (0, 12, 19, 15) [] rfl (List.forall_mem_cons.mpr ⟨⟨by decide, _, cl_L_13, by decide +kernel⟩, (fun z hz => nomatch hz)⟩) ⟨by decide, by decide⟩ (by decide) cl_L_15 ca_2 (fun q => ?_)
      refine me_astore C (Or.inr (Or.inr ⟨_, rfl⟩)) dL_traffic_19 (by decide) (L' := [(5, .inl (.ref q)), (0, me_r 0 0), (1, me_i v1), (2, me_i v2), (3, me_i v3), (4, me_r 93 0)]) rfl ?_
      refine me_iconst C (v := 2) dL_traffic_21 (by decide) ?_
      exact me_iretO C N dL_traffic_22 (by cases hf; rfl) (by decide) (by decide)
    replace hf := me_in c1 hf
    cases hf
  · replace hf := me_xmo hf
    refine me_callV C N (As := [me_i v1, me_i v2, me_i v3]) (st := [me_i 0, me_r 93 0]) 3 18 (c_Y_traffic hB h_r) mv_Y_traffic ml_L_126 rfl rfl dL_traffic_7 rfl rfl ⟨by decide, by decide⟩ ⟨by decide, by decide, by decide, by decide⟩ (Nat.le_of_ble_eq_true rfl) ?_
    refine me_i2l C dL_traffic_10 ?_
    refine me_last C h1 dL_traffic_11 ?_
    have C1 := C.ob (Int32.toInt64 v, B.2.2.2.2)
    refine me_goto C1 (tgt := 23) dL_traffic_12 (by decide) ?_
    refine me_iconst C1 (v := 0) dL_traffic_23 (by decide) ?_
    exact me_iretO C1 N dL_traffic_24 (by cases hf; rfl) (by decide) (by decide)

def f_L_swap (μ : me_M) (o : Int64 × UInt64)  : Option (me_M × ((Int64 × UInt64) × Int32)) :=
  me_b2 (f_Y_swap μ) (fun μ1 r1 => me_xm r1 (fun v => some (μ1, (Int32.toInt64 v, o.2), (0 : Int32)))
    (fun k => if k = 5 then some (μ1, o, (1 : Int32)) else none))
set_option maxHeartbeats 4000000 in
set_option maxRecDepth 100000 in
theorem c_L_swap {B : me_B} (hB : me_St B) (h1 : ∀ i, i < B.2.1 93 → i = 0) {μ : me_M}  {μ' : me_M} {o' : Int64 × UInt64} {r : Int32} (hf : f_L_swap μ B.2.2.2 = some (μ', o', r)) : ∀ l E z, l.stackTraces = false → me_MetH l yL_swap cL_swap 3 (some .int) [(0, 8, 11, 31)] 7 117 1 6 E B μ z [me_r 0 0, me_r 93 0] (me_ob B o', μ', .ok (some (me_i r))) := by
  intro l E z hl
  refine me_ofZH hl (by decide +kernel) (Nat.le_of_ble_eq_true rfl) (fun X C N hT => ?_)
  unfold f_L_swap at hf
  refine me_aload_n C 1 (Or.inr (Or.inl ⟨_, rfl⟩)) dL_swap_0 rfl rfl ?_
  refine me_iconst C (v := 0) dL_swap_1 (by decide) ?_
  refine me_aload_n C 0 (Or.inr (Or.inl ⟨_, rfl⟩)) dL_swap_2 rfl rfl ?_
  obtain ⟨μ1, r1, h_r, hf⟩ := me_bs2 hf
  rcases r1 with k | v
  · replace hf := me_xme hf
    refine me_callVE C N (As := []) (st := [me_i 0, me_r 93 0]) 1 6 (c_Y_swap hB h_r) mv_Y_swap ml_L_129 rfl rfl dL_swap_3 rfl rfl ⟨by decide, by decide⟩ ⟨by decide, by decide, by decide, by decide⟩ (Nat.le_of_ble_eq_true rfl) ?_
    by_cases c0 : k = 5
    · subst c0
      replace hf := me_ip rfl hf
      refine me_catch C hT (k := 5) [] (0, 8, 11, 31) [] rfl (fun z hz => by cases hz) ⟨by decide, by decide⟩ (by decide) cl_L_31 ca_5 (fun q => ?_)
      refine me_astore_n C 2 (Or.inr (Or.inr ⟨_, rfl⟩)) dL_swap_11 rfl (by decide) (L' := [(2, .inl (.ref q)), (0, me_r 0 0), (1, me_r 93 0)]) rfl ?_
      refine me_iconst C (v := 1) dL_swap_12 (by decide) ?_
      exact me_iretO C N dL_swap_13 (by cases hf; rfl) (by decide) (by decide)
    replace hf := me_in c0 hf
    cases hf
  · replace hf := me_xmo hf
    refine me_callV C N (As := []) (st := [me_i 0, me_r 93 0]) 1 6 (c_Y_swap hB h_r) mv_Y_swap ml_L_129 rfl rfl dL_swap_3 rfl rfl ⟨by decide, by decide⟩ ⟨by decide, by decide, by decide, by decide⟩ (Nat.le_of_ble_eq_true rfl) ?_
    refine me_i2l C dL_swap_6 ?_
    refine me_last C h1 dL_swap_7 ?_
    have C1 := C.ob (Int32.toInt64 v, B.2.2.2.2)
    refine me_goto C1 (tgt := 14) dL_swap_8 (by decide) ?_
    refine me_iconst C1 (v := 0) dL_swap_14 (by decide) ?_
    exact me_iretO C1 N dL_swap_15 (by cases hf; rfl) (by decide) (by decide)

def f_L_nodeOf (μ : me_M) (o : Int64 × UInt64) (v1 : Int32) : Option (me_M × ((Int64 × UInt64) × Int32)) :=
  me_bd (f_Y_nodeOf μ v1) (fun r1 => me_xm r1 (fun v => some (μ, (Int32.toInt64 v, o.2), (0 : Int32)))
    (fun k => if k = 1 then some (μ, o, (1 : Int32)) else none))
set_option maxHeartbeats 4000000 in
set_option maxRecDepth 100000 in
theorem c_L_nodeOf {B : me_B} (hB : me_St B) (h1 : ∀ i, i < B.2.1 93 → i = 0) {μ : me_M} {v1 : Int32} {μ' : me_M} {o' : Int64 × UInt64} {r : Int32} (hf : f_L_nodeOf μ B.2.2.2 v1 = some (μ', o', r)) : ∀ l E z, l.stackTraces = false → me_MetH l yL_nodeOf cL_nodeOf 4 (some .int) [(0, 9, 12, 13)] 8 132 1 6 E B μ z [me_r 0 0, me_i v1, me_r 93 0] (me_ob B o', μ', .ok (some (me_i r))) := by
  intro l E z hl
  refine me_ofZH hl (by decide +kernel) (Nat.le_of_ble_eq_true rfl) (fun X C N hT => ?_)
  unfold f_L_nodeOf at hf
  refine me_aload_n C 2 (Or.inr (Or.inl ⟨_, rfl⟩)) dL_nodeOf_0 rfl rfl ?_
  refine me_iconst C (v := 0) dL_nodeOf_1 (by decide) ?_
  refine me_aload_n C 0 (Or.inr (Or.inl ⟨_, rfl⟩)) dL_nodeOf_2 rfl rfl ?_
  refine me_iload_n C 1 dL_nodeOf_3 rfl rfl ?_
  obtain ⟨r1, h_r, hf⟩ := me_bs hf
  rcases r1 with k | v
  · replace hf := me_xme hf
    refine me_callVE C N (As := [me_i v1]) (st := [me_i 0, me_r 93 0]) 1 6 (c_Y_nodeOf hB h_r) mv_Y_nodeOf ml_L_133 rfl rfl dL_nodeOf_4 rfl rfl ⟨by decide, by decide⟩ ⟨by decide, by decide, by decide, by decide⟩ (Nat.le_of_ble_eq_true rfl) ?_
    by_cases c0 : k = 1
    · subst c0
      replace hf := me_ip rfl hf
      refine me_catch C hT (k := 1) [] (0, 9, 12, 13) [] rfl (fun z hz => by cases hz) ⟨by decide, by decide⟩ (by decide) cl_L_13 ca_1 (fun q => ?_)
      refine me_astore_n C 3 (Or.inr (Or.inr ⟨_, rfl⟩)) dL_nodeOf_12 rfl (by decide) (L' := [(3, .inl (.ref q)), (0, me_r 0 0), (1, me_i v1), (2, me_r 93 0)]) rfl ?_
      refine me_iconst C (v := 1) dL_nodeOf_13 (by decide) ?_
      exact me_iretO C N dL_nodeOf_14 (by cases hf; rfl) (by decide) (by decide)
    replace hf := me_in c0 hf
    cases hf
  · replace hf := me_xmo hf
    refine me_callV C N (As := [me_i v1]) (st := [me_i 0, me_r 93 0]) 1 6 (c_Y_nodeOf hB h_r) mv_Y_nodeOf ml_L_133 rfl rfl dL_nodeOf_4 rfl rfl ⟨by decide, by decide⟩ ⟨by decide, by decide, by decide, by decide⟩ (Nat.le_of_ble_eq_true rfl) ?_
    refine me_i2l C dL_nodeOf_7 ?_
    refine me_last C h1 dL_nodeOf_8 ?_
    have C1 := C.ob (Int32.toInt64 v, B.2.2.2.2)
    refine me_goto C1 (tgt := 15) dL_nodeOf_9 (by decide) ?_
    refine me_iconst C1 (v := 0) dL_nodeOf_15 (by decide) ?_
    exact me_iretO C1 N dL_nodeOf_16 (by cases hf; rfl) (by decide) (by decide)

def f_L_lostShare (μ : me_M) (o : Int64 × UInt64)  : Option (me_M × ((Int64 × UInt64) × Int32)) :=
  me_bd (f_Y_lostShare μ) (fun r1 => me_xm r1 (fun v => me_gd (me_n64 (FP.f2d v)) (some (μ, (o.1, FP.f2d v), (0 : Int32))))
    (fun k => if k = 5 then some (μ, o, (1 : Int32)) else none))
set_option maxHeartbeats 4000000 in
set_option maxRecDepth 100000 in
theorem c_L_lostShare {B : me_B} (hB : me_St B) (h1 : ∀ i, i < B.2.1 94 → i = 0) {μ : me_M}  {μ' : me_M} {o' : Int64 × UInt64} {r : Int32} (hf : f_L_lostShare μ B.2.2.2 = some (μ', o', r)) : ∀ l E z, l.stackTraces = false → me_MetH l yL_lostShare cL_lostShare 3 (some .int) [(0, 8, 11, 31)] 7 110 1 6 E B μ z [me_r 0 0, me_r 94 0] (me_ob B o', μ', .ok (some (me_i r))) := by
  intro l E z hl
  refine me_ofZH hl (by decide +kernel) (Nat.le_of_ble_eq_true rfl) (fun X C N hT => ?_)
  unfold f_L_lostShare at hf
  refine me_aload_n C 1 (Or.inr (Or.inl ⟨_, rfl⟩)) dL_lostShare_0 rfl rfl ?_
  refine me_iconst C (v := 0) dL_lostShare_1 (by decide) ?_
  refine me_aload_n C 0 (Or.inr (Or.inl ⟨_, rfl⟩)) dL_lostShare_2 rfl rfl ?_
  obtain ⟨r1, h_r, hf⟩ := me_bs hf
  rcases r1 with k | v
  · replace hf := me_xme hf
    refine me_callVE C N (As := []) (st := [me_i 0, me_r 94 0]) 1 6 (c_Y_lostShare hB h_r) mv_Y_lostShare ml_L_136 rfl rfl dL_lostShare_3 rfl rfl ⟨by decide, by decide⟩ ⟨by decide, by decide, by decide, by decide⟩ (Nat.le_of_ble_eq_true rfl) ?_
    by_cases c0 : k = 5
    · subst c0
      replace hf := me_ip rfl hf
      refine me_catch C hT (k := 5) [] (0, 8, 11, 31) [] rfl (fun z hz => by cases hz) ⟨by decide, by decide⟩ (by decide) cl_L_31 ca_5 (fun q => ?_)
      refine me_astore_n C 2 (Or.inr (Or.inr ⟨_, rfl⟩)) dL_lostShare_11 rfl (by decide) (L' := [(2, .inl (.ref q)), (0, me_r 0 0), (1, me_r 94 0)]) rfl ?_
      refine me_iconst C (v := 1) dL_lostShare_12 (by decide) ?_
      exact me_iretO C N dL_lostShare_13 (by cases hf; rfl) (by decide) (by decide)
    replace hf := me_in c0 hf
    cases hf
  · replace hf := me_xmo hf
    refine me_callV C N (As := []) (st := [me_i 0, me_r 94 0]) 1 6 (c_Y_lostShare hB h_r) mv_Y_lostShare ml_L_136 rfl rfl dL_lostShare_3 rfl rfl ⟨by decide, by decide⟩ ⟨by decide, by decide, by decide, by decide⟩ (Nat.le_of_ble_eq_true rfl) ?_
    obtain ⟨g1, hf⟩ := me_gs hf
    refine me_f2d C dL_lostShare_6 (me_n64s g1) ?_
    refine me_dast C h1 dL_lostShare_7 ?_
    have C1 := C.ob (B.2.2.2.1, FP.f2d v)
    refine me_goto C1 (tgt := 14) dL_lostShare_8 (by decide) ?_
    refine me_iconst C1 (v := 0) dL_lostShare_14 (by decide) ?_
    exact me_iretO C1 N dL_lostShare_15 (by cases hf; rfl) (by decide) (by decide)

def f_L_meanTime (μ : me_M) (o : Int64 × UInt64)  : Option (me_M × ((Int64 × UInt64) × Int32)) :=
  me_bd (f_Y_meanTime μ) (fun r1 => me_xm r1 (fun v => some (μ, (o.1, v), (0 : Int32)))
    (fun k => if k = 5 then some (μ, o, (1 : Int32)) else none))
set_option maxHeartbeats 4000000 in
set_option maxRecDepth 100000 in
theorem c_L_meanTime {B : me_B} (hB : me_St B) (h1 : ∀ i, i < B.2.1 94 → i = 0) {μ : me_M}  {μ' : me_M} {o' : Int64 × UInt64} {r : Int32} (hf : f_L_meanTime μ B.2.2.2 = some (μ', o', r)) : ∀ l E z, l.stackTraces = false → me_MetH l yL_meanTime cL_meanTime 3 (some .int) [(0, 7, 10, 31)] 7 111 1 6 E B μ z [me_r 0 0, me_r 94 0] (me_ob B o', μ', .ok (some (me_i r))) := by
  intro l E z hl
  refine me_ofZH hl (by decide +kernel) (Nat.le_of_ble_eq_true rfl) (fun X C N hT => ?_)
  unfold f_L_meanTime at hf
  refine me_aload_n C 1 (Or.inr (Or.inl ⟨_, rfl⟩)) dL_meanTime_0 rfl rfl ?_
  refine me_iconst C (v := 0) dL_meanTime_1 (by decide) ?_
  refine me_aload_n C 0 (Or.inr (Or.inl ⟨_, rfl⟩)) dL_meanTime_2 rfl rfl ?_
  obtain ⟨r1, h_r, hf⟩ := me_bs hf
  rcases r1 with k | v
  · replace hf := me_xme hf
    refine me_callVE C N (As := []) (st := [me_i 0, me_r 94 0]) 1 6 (c_Y_meanTime hB h_r) mv_Y_meanTime ml_L_140 rfl rfl dL_meanTime_3 rfl rfl ⟨by decide, by decide⟩ ⟨by decide, by decide, by decide, by decide⟩ (Nat.le_of_ble_eq_true rfl) ?_
    by_cases c0 : k = 5
    · subst c0
      replace hf := me_ip rfl hf
      refine me_catch C hT (k := 5) [] (0, 7, 10, 31) [] rfl (fun z hz => by cases hz) ⟨by decide, by decide⟩ (by decide) cl_L_31 ca_5 (fun q => ?_)
      refine me_astore_n C 2 (Or.inr (Or.inr ⟨_, rfl⟩)) dL_meanTime_10 rfl (by decide) (L' := [(2, .inl (.ref q)), (0, me_r 0 0), (1, me_r 94 0)]) rfl ?_
      refine me_iconst C (v := 1) dL_meanTime_11 (by decide) ?_
      exact me_iretO C N dL_meanTime_12 (by cases hf; rfl) (by decide) (by decide)
    replace hf := me_in c0 hf
    cases hf
  · replace hf := me_xmo hf
    refine me_callV C N (As := []) (st := [me_i 0, me_r 94 0]) 1 6 (c_Y_meanTime hB h_r) mv_Y_meanTime ml_L_140 rfl rfl dL_meanTime_3 rfl rfl ⟨by decide, by decide⟩ ⟨by decide, by decide, by decide, by decide⟩ (Nat.le_of_ble_eq_true rfl) ?_
    refine me_dast C h1 dL_meanTime_6 ?_
    have C1 := C.ob (B.2.2.2.1, v)
    refine me_goto C1 (tgt := 13) dL_meanTime_7 (by decide) ?_
    refine me_iconst C1 (v := 0) dL_meanTime_13 (by decide) ?_
    exact me_iretO C1 N dL_meanTime_14 (by cases hf; rfl) (by decide) (by decide)
