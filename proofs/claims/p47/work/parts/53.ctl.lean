/-! CONSTRUCTORS WITH LOOPS (printed by gen/ctor2.py) -/
theorem ml_Router_3 : Cond.methodLink RX7 3 Lib.objectInit ∈ me_gw := (me_gm 328 (by decide +kernel) (by decide +kernel))
theorem cl_Router_9 : Cond.classLink RX7 9 "Meshyard$Row" ∈ me_gw := (me_gm 329 (by decide +kernel) (by decide +kernel))
theorem dv_17 : ∀ j, j < 8 → defaultValue (tyX8 j) = if me_kr 17 j = true then .null else .int 0 := fun j hj => match j, hj with
  | 0, _ => rfl
  | 1, _ => rfl
  | 2, _ => rfl
  | 3, _ => rfl
  | 4, _ => rfl
  | 5, _ => rfl
  | 6, _ => rfl
  | 7, _ => rfl
  | j + 8, h => absurd h (by omega)
theorem nl_Router_24 : Cond.methodLinkNest RX7 24 yX8_init "Meshyard" ∈ me_bw := me_bm 332 (by decide +kernel) (by decide +kernel)
theorem ml_Post_3 : Cond.methodLink RX6 3 Lib.objectInit ∈ me_gw := (me_gm 101 (by decide +kernel) (by decide +kernel))
theorem cl_Post_9 : Cond.classLink RX6 9 "Meshyard$Packet" ∈ me_gw := (me_gm 102 (by decide +kernel) (by decide +kernel))
theorem dv_8 : ∀ j, j < 15 → defaultValue (tyX4 j) = if me_kr 8 j = true then .null else .int 0 := fun j hj => match j, hj with
  | 0, _ => rfl
  | 1, _ => rfl
  | 2, _ => rfl
  | 3, _ => rfl
  | 4, _ => rfl
  | 5, _ => rfl
  | 6, _ => rfl
  | 7, _ => rfl
  | 8, _ => rfl
  | 9, _ => rfl
  | 10, _ => rfl
  | 11, _ => rfl
  | 12, _ => rfl
  | 13, _ => rfl
  | 14, _ => rfl
  | j + 15, h => absurd h (by omega)
theorem ml_Post_17 : Cond.methodLink RX6 17 yX4_init ∈ me_gw := (me_gm 105 (by decide +kernel) (by decide +kernel))
theorem ml_Y_1 : Cond.methodLink RX11 1 Lib.objectInit ∈ me_gw := (me_gm 61 (by decide +kernel) (by decide +kernel))
theorem cl_Y_7 : Cond.classLink RX11 7 "Meshyard$Net" ∈ me_gw := (me_gm 64 (by decide +kernel) (by decide +kernel))
theorem dv_1 : ∀ j, j < 5 → defaultValue (tyX3 j) = if me_kr 1 j = true then .null else .int 0 := fun j hj => match j, hj with
  | 0, _ => rfl
  | 1, _ => rfl
  | 2, _ => rfl
  | 3, _ => rfl
  | 4, _ => rfl
  | j + 5, h => absurd h (by omega)
theorem nl_Y_9 : Cond.methodLinkNest RX11 9 yX3_init "Meshyard" ∈ me_bw := me_bm 66 (by decide +kernel) (by decide +kernel)
theorem cl_Y_16 : Cond.classLink RX11 16 "Meshyard$Post" ∈ me_gw := (me_gm 96 (by decide +kernel) (by decide +kernel))
theorem dv_6 : ∀ j, j < 3 → defaultValue (tyX6 j) = if me_kr 6 j = true then .null else .int 0 := fun j hj => match j, hj with
  | 0, _ => rfl
  | 1, _ => rfl
  | 2, _ => rfl
  | j + 3, h => absurd h (by omega)
theorem ml_Y_18 : Cond.methodLink RX11 18 yX6_init ∈ me_gw := (me_gm 98 (by decide +kernel) (by decide +kernel))
theorem cl_Y_23 : Cond.classLink RX11 23 "Meshyard$Placing" ∈ me_gw := (me_gm 205 (by decide +kernel) (by decide +kernel))
theorem dv_9 : ∀ j, j < 4 → defaultValue (tyX5 j) = if me_kr 9 j = true then .null else .int 0 := fun j hj => match j, hj with
  | 0, _ => rfl
  | 1, _ => rfl
  | 2, _ => rfl
  | 3, _ => rfl
  | j + 4, h => absurd h (by omega)
theorem ml_Y_25 : Cond.methodLink RX11 25 yX5_init ∈ me_gw := (me_gm 207 (by decide +kernel) (by decide +kernel))
theorem cl_Y_32 : Cond.classLink RX11 32 "Meshyard$Router" ∈ me_gw := (me_gm 224 (by decide +kernel) (by decide +kernel))
theorem cl_Y_38 : Cond.classLink RX11 38 "Meshyard$Core" ∈ me_gw := (me_gm 226 (by decide +kernel) (by decide +kernel))
theorem cl_Y_44 : Cond.classLink RX11 44 "Meshyard$Ways" ∈ me_gw := (me_gm 228 (by decide +kernel) (by decide +kernel))
theorem dv_27 : ∀ j, j < 5 → defaultValue (tyX9 j) = if me_kr 27 j = true then .null else .int 0 := fun j hj => match j, hj with
  | 0, _ => rfl
  | 1, _ => rfl
  | 2, _ => rfl
  | 3, _ => rfl
  | 4, _ => rfl
  | j + 5, h => absurd h (by omega)
theorem ml_Y_46 : Cond.methodLink RX11 46 yX9_init ∈ me_gw := (me_gm 230 (by decide +kernel) (by decide +kernel))
theorem cl_Y_53 : Cond.classLink RX11 53 "Meshyard$Mover" ∈ me_gw := (me_gm 253 (by decide +kernel) (by decide +kernel))
theorem dv_30 : ∀ j, j < 8 → defaultValue (tyX2 j) = if me_kr 30 j = true then .null else .int 0 := fun j hj => match j, hj with
  | 0, _ => rfl
  | 1, _ => rfl
  | 2, _ => rfl
  | 3, _ => rfl
  | 4, _ => rfl
  | 5, _ => rfl
  | 6, _ => rfl
  | 7, _ => rfl
  | j + 8, h => absurd h (by omega)
theorem ml_Y_55 : Cond.methodLink RX11 55 yX2_init ∈ me_gw := (me_gm 255 (by decide +kernel) (by decide +kernel))
theorem cl_Y_62 : Cond.classLink RX11 62 "Meshyard$Works" ∈ me_gw := (me_gm 286 (by decide +kernel) (by decide +kernel))
theorem dv_31 : ∀ j, j < 3 → defaultValue (tyX10 j) = if me_kr 31 j = true then .null else .int 0 := fun j hj => match j, hj with
  | 0, _ => rfl
  | 1, _ => rfl
  | 2, _ => rfl
  | j + 3, h => absurd h (by omega)
theorem ml_Y_64 : Cond.methodLink RX11 64 yX10_init ∈ me_gw := (me_gm 288 (by decide +kernel) (by decide +kernel))
theorem cl_Y_71 : Cond.classLink RX11 71 "Meshyard$Audit" ∈ me_gw := (me_gm 302 (by decide +kernel) (by decide +kernel))
theorem dv_32 : ∀ j, j < 5 → defaultValue (tyX0 j) = if me_kr 32 j = true then .null else .int 0 := fun j hj => match j, hj with
  | 0, _ => rfl
  | 1, _ => rfl
  | 2, _ => rfl
  | 3, _ => rfl
  | 4, _ => rfl
  | j + 5, h => absurd h (by omega)
theorem ml_Y_73 : Cond.methodLink RX11 73 yX0_init ∈ me_gw := (me_gm 304 (by decide +kernel) (by decide +kernel))
theorem dv_13 : ∀ j, j < 5 → defaultValue (tyX7 j) = if me_kr 13 j = true then .null else .int 0 := fun j hj => match j, hj with
  | 0, _ => rfl
  | 1, _ => rfl
  | 2, _ => rfl
  | 3, _ => rfl
  | 4, _ => rfl
  | j + 5, h => absurd h (by omega)
theorem ml_Y_78 : Cond.methodLink RX11 78 yX7_init ∈ me_gw := (me_gm 325 (by decide +kernel) (by decide +kernel))
theorem dv_22 : ∀ j, j < 9 → defaultValue (tyX1 j) = if me_kr 22 j = true then .null else .int 0 := fun j hj => match j, hj with
  | 0, _ => rfl
  | 1, _ => rfl
  | 2, _ => rfl
  | 3, _ => rfl
  | 4, _ => rfl
  | 5, _ => rfl
  | 6, _ => rfl
  | 7, _ => rfl
  | 8, _ => rfl
  | j + 9, h => absurd h (by omega)
theorem nl_Y_79 : Cond.methodLinkNest RX11 79 yX1_init "Meshyard" ∈ me_bw := me_bm 401 (by decide +kernel) (by decide +kernel)
theorem dX7_init_0 : decode cX7_init 0 = .ok (.aload_n 0, 1) := by decide +kernel
theorem dX7_init_1 : decode cX7_init 1 = .ok (.invokespecial 3, 3) := by decide +kernel
theorem dX7_init_4 : decode cX7_init 4 = .ok (.aload_n 0, 1) := by decide +kernel
theorem dX7_init_5 : decode cX7_init 5 = .ok (.bipush 10, 2) := by decide +kernel
theorem dX7_init_7 : decode cX7_init 7 = .ok (.anewarray 9, 3) := by decide +kernel
theorem dX7_init_10 : decode cX7_init 10 = .ok (.putfield 11, 3) := by decide +kernel
theorem dX7_init_13 : decode cX7_init 13 = .ok (.aload_n 0, 1) := by decide +kernel
theorem dX7_init_14 : decode cX7_init 14 = .ok (.bipush 10, 2) := by decide +kernel
theorem dX7_init_16 : decode cX7_init 16 = .ok (.newarray .int, 2) := by decide +kernel
theorem dX7_init_18 : decode cX7_init 18 = .ok (.putfield 17, 3) := by decide +kernel
theorem dX7_init_21 : decode cX7_init 21 = .ok (.aload_n 0, 1) := by decide +kernel
theorem dX7_init_22 : decode cX7_init 22 = .ok (.iconst 2, 1) := by decide +kernel
theorem dX7_init_23 : decode cX7_init 23 = .ok (.newarray .int, 2) := by decide +kernel
theorem dX7_init_25 : decode cX7_init 25 = .ok (.putfield 21, 3) := by decide +kernel
theorem dX7_init_28 : decode cX7_init 28 = .ok (.iconst 0, 1) := by decide +kernel
theorem dX7_init_29 : decode cX7_init 29 = .ok (.istore_n 1, 1) := by decide +kernel
theorem dX7_init_30 : decode cX7_init 30 = .ok (.iload_n 1, 1) := by decide +kernel
theorem dX7_init_31 : decode cX7_init 31 = .ok (.aload_n 0, 1) := by decide +kernel
theorem dX7_init_32 : decode cX7_init 32 = .ok (.getfield 11, 3) := by decide +kernel
theorem dX7_init_35 : decode cX7_init 35 = .ok (.arraylength, 1) := by decide +kernel
theorem dX7_init_36 : decode cX7_init 36 = .ok (.if_icmp .ge 22, 3) := by decide +kernel
theorem dX7_init_39 : decode cX7_init 39 = .ok (.aload_n 0, 1) := by decide +kernel
theorem dX7_init_40 : decode cX7_init 40 = .ok (.getfield 11, 3) := by decide +kernel
theorem dX7_init_43 : decode cX7_init 43 = .ok (.iload_n 1, 1) := by decide +kernel
theorem dX7_init_44 : decode cX7_init 44 = .ok (.new 9, 3) := by decide +kernel
theorem dX7_init_47 : decode cX7_init 47 = .ok (.dup, 1) := by decide +kernel
theorem dX7_init_48 : decode cX7_init 48 = .ok (.invokespecial 24, 3) := by decide +kernel
theorem dX7_init_51 : decode cX7_init 51 = .ok (.aastore, 1) := by decide +kernel
theorem dX7_init_52 : decode cX7_init 52 = .ok (.iinc 1 1, 3) := by decide +kernel
theorem dX7_init_55 : decode cX7_init 55 = .ok (.goto (-25), 3) := by decide +kernel
theorem dX7_init_58 : decode cX7_init 58 = .ok (.return_, 1) := by decide +kernel
theorem dX6_init_0 : decode cX6_init 0 = .ok (.aload_n 0, 1) := by decide +kernel
theorem dX6_init_1 : decode cX6_init 1 = .ok (.invokespecial 3, 3) := by decide +kernel
theorem dX6_init_4 : decode cX6_init 4 = .ok (.aload_n 0, 1) := by decide +kernel
theorem dX6_init_5 : decode cX6_init 5 = .ok (.sipush 200, 3) := by decide +kernel
theorem dX6_init_8 : decode cX6_init 8 = .ok (.anewarray 9, 3) := by decide +kernel
theorem dX6_init_11 : decode cX6_init 11 = .ok (.putfield 11, 3) := by decide +kernel
theorem dX6_init_14 : decode cX6_init 14 = .ok (.iconst 0, 1) := by decide +kernel
theorem dX6_init_15 : decode cX6_init 15 = .ok (.istore_n 1, 1) := by decide +kernel
theorem dX6_init_16 : decode cX6_init 16 = .ok (.iload_n 1, 1) := by decide +kernel
theorem dX6_init_17 : decode cX6_init 17 = .ok (.sipush 200, 3) := by decide +kernel
theorem dX6_init_20 : decode cX6_init 20 = .ok (.if_icmp .ge 23, 3) := by decide +kernel
theorem dX6_init_23 : decode cX6_init 23 = .ok (.aload_n 0, 1) := by decide +kernel
theorem dX6_init_24 : decode cX6_init 24 = .ok (.getfield 11, 3) := by decide +kernel
theorem dX6_init_27 : decode cX6_init 27 = .ok (.iload_n 1, 1) := by decide +kernel
theorem dX6_init_28 : decode cX6_init 28 = .ok (.new 9, 3) := by decide +kernel
theorem dX6_init_31 : decode cX6_init 31 = .ok (.dup, 1) := by decide +kernel
theorem dX6_init_32 : decode cX6_init 32 = .ok (.iload_n 1, 1) := by decide +kernel
theorem dX6_init_33 : decode cX6_init 33 = .ok (.invokespecial 17, 3) := by decide +kernel
theorem dX6_init_36 : decode cX6_init 36 = .ok (.aastore, 1) := by decide +kernel
theorem dX6_init_37 : decode cX6_init 37 = .ok (.iinc 1 1, 3) := by decide +kernel
theorem dX6_init_40 : decode cX6_init 40 = .ok (.goto (-24), 3) := by decide +kernel
theorem dX6_init_43 : decode cX6_init 43 = .ok (.return_, 1) := by decide +kernel
theorem dX11_init_0 : decode cX11_init 0 = .ok (.aload_n 0, 1) := by decide +kernel
theorem dX11_init_1 : decode cX11_init 1 = .ok (.invokespecial 1, 3) := by decide +kernel
theorem dX11_init_4 : decode cX11_init 4 = .ok (.aload_n 0, 1) := by decide +kernel
theorem dX11_init_5 : decode cX11_init 5 = .ok (.new 7, 3) := by decide +kernel
theorem dX11_init_8 : decode cX11_init 8 = .ok (.dup, 1) := by decide +kernel
theorem dX11_init_9 : decode cX11_init 9 = .ok (.invokespecial 9, 3) := by decide +kernel
theorem dX11_init_12 : decode cX11_init 12 = .ok (.putfield 10, 3) := by decide +kernel
theorem dX11_init_15 : decode cX11_init 15 = .ok (.aload_n 0, 1) := by decide +kernel
theorem dX11_init_16 : decode cX11_init 16 = .ok (.new 16, 3) := by decide +kernel
theorem dX11_init_19 : decode cX11_init 19 = .ok (.dup, 1) := by decide +kernel
theorem dX11_init_20 : decode cX11_init 20 = .ok (.invokespecial 18, 3) := by decide +kernel
theorem dX11_init_23 : decode cX11_init 23 = .ok (.putfield 19, 3) := by decide +kernel
theorem dX11_init_26 : decode cX11_init 26 = .ok (.aload_n 0, 1) := by decide +kernel
theorem dX11_init_27 : decode cX11_init 27 = .ok (.new 23, 3) := by decide +kernel
theorem dX11_init_30 : decode cX11_init 30 = .ok (.dup, 1) := by decide +kernel
theorem dX11_init_31 : decode cX11_init 31 = .ok (.aload_n 0, 1) := by decide +kernel
theorem dX11_init_32 : decode cX11_init 32 = .ok (.getfield 10, 3) := by decide +kernel
theorem dX11_init_35 : decode cX11_init 35 = .ok (.invokespecial 25, 3) := by decide +kernel
theorem dX11_init_38 : decode cX11_init 38 = .ok (.putfield 28, 3) := by decide +kernel
theorem dX11_init_41 : decode cX11_init 41 = .ok (.aload_n 0, 1) := by decide +kernel
theorem dX11_init_42 : decode cX11_init 42 = .ok (.bipush 16, 2) := by decide +kernel
theorem dX11_init_44 : decode cX11_init 44 = .ok (.anewarray 32, 3) := by decide +kernel
theorem dX11_init_47 : decode cX11_init 47 = .ok (.putfield 34, 3) := by decide +kernel
theorem dX11_init_50 : decode cX11_init 50 = .ok (.aload_n 0, 1) := by decide +kernel
theorem dX11_init_51 : decode cX11_init 51 = .ok (.bipush 16, 2) := by decide +kernel
theorem dX11_init_53 : decode cX11_init 53 = .ok (.anewarray 38, 3) := by decide +kernel
theorem dX11_init_56 : decode cX11_init 56 = .ok (.putfield 40, 3) := by decide +kernel
theorem dX11_init_59 : decode cX11_init 59 = .ok (.aload_n 0, 1) := by decide +kernel
theorem dX11_init_60 : decode cX11_init 60 = .ok (.new 44, 3) := by decide +kernel
theorem dX11_init_63 : decode cX11_init 63 = .ok (.dup, 1) := by decide +kernel
theorem dX11_init_64 : decode cX11_init 64 = .ok (.aload_n 0, 1) := by decide +kernel
theorem dX11_init_65 : decode cX11_init 65 = .ok (.getfield 10, 3) := by decide +kernel
theorem dX11_init_68 : decode cX11_init 68 = .ok (.aload_n 0, 1) := by decide +kernel
theorem dX11_init_69 : decode cX11_init 69 = .ok (.getfield 34, 3) := by decide +kernel
theorem dX11_init_72 : decode cX11_init 72 = .ok (.invokespecial 46, 3) := by decide +kernel
theorem dX11_init_75 : decode cX11_init 75 = .ok (.putfield 49, 3) := by decide +kernel
theorem dX11_init_78 : decode cX11_init 78 = .ok (.aload_n 0, 1) := by decide +kernel
theorem dX11_init_79 : decode cX11_init 79 = .ok (.new 53, 3) := by decide +kernel
theorem dX11_init_82 : decode cX11_init 82 = .ok (.dup, 1) := by decide +kernel
theorem dX11_init_83 : decode cX11_init 83 = .ok (.aload_n 0, 1) := by decide +kernel
theorem dX11_init_84 : decode cX11_init 84 = .ok (.getfield 49, 3) := by decide +kernel
theorem dX11_init_87 : decode cX11_init 87 = .ok (.aload_n 0, 1) := by decide +kernel
theorem dX11_init_88 : decode cX11_init 88 = .ok (.getfield 19, 3) := by decide +kernel
theorem dX11_init_91 : decode cX11_init 91 = .ok (.aload_n 0, 1) := by decide +kernel
theorem dX11_init_92 : decode cX11_init 92 = .ok (.getfield 40, 3) := by decide +kernel
theorem dX11_init_95 : decode cX11_init 95 = .ok (.invokespecial 55, 3) := by decide +kernel
theorem dX11_init_98 : decode cX11_init 98 = .ok (.putfield 58, 3) := by decide +kernel
theorem dX11_init_101 : decode cX11_init 101 = .ok (.aload_n 0, 1) := by decide +kernel
theorem dX11_init_102 : decode cX11_init 102 = .ok (.new 62, 3) := by decide +kernel
theorem dX11_init_105 : decode cX11_init 105 = .ok (.dup, 1) := by decide +kernel
theorem dX11_init_106 : decode cX11_init 106 = .ok (.aload_n 0, 1) := by decide +kernel
theorem dX11_init_107 : decode cX11_init 107 = .ok (.getfield 10, 3) := by decide +kernel
theorem dX11_init_110 : decode cX11_init 110 = .ok (.aload_n 0, 1) := by decide +kernel
theorem dX11_init_111 : decode cX11_init 111 = .ok (.getfield 19, 3) := by decide +kernel
theorem dX11_init_114 : decode cX11_init 114 = .ok (.aload_n 0, 1) := by decide +kernel
theorem dX11_init_115 : decode cX11_init 115 = .ok (.getfield 40, 3) := by decide +kernel
theorem dX11_init_118 : decode cX11_init 118 = .ok (.invokespecial 64, 3) := by decide +kernel
theorem dX11_init_121 : decode cX11_init 121 = .ok (.putfield 67, 3) := by decide +kernel
theorem dX11_init_124 : decode cX11_init 124 = .ok (.aload_n 0, 1) := by decide +kernel
theorem dX11_init_125 : decode cX11_init 125 = .ok (.new 71, 3) := by decide +kernel
theorem dX11_init_128 : decode cX11_init 128 = .ok (.dup, 1) := by decide +kernel
theorem dX11_init_129 : decode cX11_init 129 = .ok (.aload_n 0, 1) := by decide +kernel
theorem dX11_init_130 : decode cX11_init 130 = .ok (.getfield 10, 3) := by decide +kernel
theorem dX11_init_133 : decode cX11_init 133 = .ok (.aload_n 0, 1) := by decide +kernel
theorem dX11_init_134 : decode cX11_init 134 = .ok (.getfield 34, 3) := by decide +kernel
theorem dX11_init_137 : decode cX11_init 137 = .ok (.invokespecial 73, 3) := by decide +kernel
theorem dX11_init_140 : decode cX11_init 140 = .ok (.putfield 74, 3) := by decide +kernel
theorem dX11_init_143 : decode cX11_init 143 = .ok (.iconst 0, 1) := by decide +kernel
theorem dX11_init_144 : decode cX11_init 144 = .ok (.istore_n 1, 1) := by decide +kernel
theorem dX11_init_145 : decode cX11_init 145 = .ok (.iload_n 1, 1) := by decide +kernel
theorem dX11_init_146 : decode cX11_init 146 = .ok (.bipush 16, 2) := by decide +kernel
theorem dX11_init_148 : decode cX11_init 148 = .ok (.if_icmp .ge 35, 3) := by decide +kernel
theorem dX11_init_151 : decode cX11_init 151 = .ok (.aload_n 0, 1) := by decide +kernel
theorem dX11_init_152 : decode cX11_init 152 = .ok (.getfield 34, 3) := by decide +kernel
theorem dX11_init_155 : decode cX11_init 155 = .ok (.iload_n 1, 1) := by decide +kernel
theorem dX11_init_156 : decode cX11_init 156 = .ok (.new 32, 3) := by decide +kernel
theorem dX11_init_159 : decode cX11_init 159 = .ok (.dup, 1) := by decide +kernel
theorem dX11_init_160 : decode cX11_init 160 = .ok (.invokespecial 78, 3) := by decide +kernel
theorem dX11_init_163 : decode cX11_init 163 = .ok (.aastore, 1) := by decide +kernel
theorem dX11_init_164 : decode cX11_init 164 = .ok (.aload_n 0, 1) := by decide +kernel
theorem dX11_init_165 : decode cX11_init 165 = .ok (.getfield 40, 3) := by decide +kernel
theorem dX11_init_168 : decode cX11_init 168 = .ok (.iload_n 1, 1) := by decide +kernel
theorem dX11_init_169 : decode cX11_init 169 = .ok (.new 38, 3) := by decide +kernel
theorem dX11_init_172 : decode cX11_init 172 = .ok (.dup, 1) := by decide +kernel
theorem dX11_init_173 : decode cX11_init 173 = .ok (.invokespecial 79, 3) := by decide +kernel
theorem dX11_init_176 : decode cX11_init 176 = .ok (.aastore, 1) := by decide +kernel
theorem dX11_init_177 : decode cX11_init 177 = .ok (.iinc 1 1, 3) := by decide +kernel
theorem dX11_init_180 : decode cX11_init 180 = .ok (.goto (-35), 3) := by decide +kernel
theorem dX11_init_183 : decode cX11_init 183 = .ok (.aload_n 0, 1) := by decide +kernel
theorem dX11_init_184 : decode cX11_init 184 = .ok (.iconst 4, 1) := by decide +kernel
theorem dX11_init_185 : decode cX11_init 185 = .ok (.iconst 4, 1) := by decide +kernel
theorem dX11_init_186 : decode cX11_init 186 = .ok (.invokevirtual 80, 3) := by decide +kernel
theorem dX11_init_189 : decode cX11_init 189 = .ok (.return_, 1) := by decide +kernel
def f_Router_lp (i0 rw : Nat) : Nat → me_Nt → me_Rt → me_M → Int32 → Option (me_Nt × me_Rt × me_M)
  | 0, _, _, _, _ => none
  | f + 1, n, r, μ, x => if r 13 i0 0 = some (14, rw) then (if 10 ≤ x then some (n, r, μ) else if me_inb x 10 = true then f_Router_lp i0 rw f (n_Row (me_np n 17)) (me_ru (r_Row (me_np n 17) (me_rn r 17 (n 17)) (n 17)) 14 rw (me_ix x) (17, (n 17))) (m_Row (me_np n 17) (me_zc μ 17 (n 17)) (n 17)) (me_inc x (1)) else none) else none
set_option maxHeartbeats 4000000 in
set_option maxRecDepth 100000 in
theorem z_Router_lp {X : me_X} {w : me_w} {i0 rw mc ms fr lo : Nat} {n' : me_Nt} {r' : me_Rt} {μ' : me_M} {a0 : Nat → Nat → Nat} {n0 : me_Nt} (hroom : me_Rm X fr lo mc ms) (hci : me_CI X) (hfl : 2 ≤ fr ∧ 60 ≤ lo)
    (kk : ∀ (a1 : Nat → Nat → Nat) (nc ns : Nat) (x : Int32), nc ≤ mc → ns ≤ ms → me_C X (a1, n', r', w) RX7 cX7_init 2 none → me_agr a0 n0 a1 n' → me_Z X (a1, n', r', w) nc ns μ' 58 [(0, me_r 13 i0), (1, me_i x)] []) :
    ∀ (f : Nat) (a : Nat → Nat → Nat) (n : me_Nt) (r : me_Rt) (μ : me_M) (x : Int32) (nc ns : Nat), nc + 4 * f ≤ mc → ns + 20 * f ≤ ms → me_C X (a, n, r, w) RX7 cX7_init 2 none → me_agr a0 n0 a n → f_Router_lp i0 rw f n r μ x = some (n', r', μ') → me_Z X (a, n, r, w) nc ns μ 30 [(0, me_r 13 i0), (1, me_i x)] [] := by
  intro f
  induction f with
  | zero => intro a n r μ x nc ns _ _ _ _ h; cases h
  | succ f ih =>
    intro a n r μ x nc ns hnc hns C ag hf
    unfold f_Router_lp at hf
    by_cases h0 : r 13 i0 0 = some (14, rw)
    case neg => rw [if_neg h0] at hf; cases hf
    rw [if_pos h0] at hf
    have hnc1 : 4 * (f + 1) = 4 * f + 4 := Nat.mul_succ _ _
    have hns1 : 20 * (f + 1) = 20 * f + 20 := Nat.mul_succ _ _
    refine me_iload_n C 1 dX7_init_30 rfl rfl ?_
    refine me_aload_n C 0 (Or.inr (Or.inl ⟨_, rfl⟩)) dX7_init_31 rfl rfl ?_
    refine me_getq C 0 fg_Router_11 dX7_init_32 rfl h0 ?_
    refine me_alen C (v := 10) rfl (Or.inr rfl) (fun _ => rfl) dX7_init_35 (by decide) ?_
    refine me_icmp_ge C (tgt := 58) dX7_init_36 (by decide) (fun c1 => ?_) (fun c1 => ?_)
    · rw [if_pos c1] at hf
      cases hf
      exact kk a nc ns x (by omega) (by omega) C ag
    · rw [if_neg c1] at hf
      by_cases hin : me_inb x 10 = true
      case neg => rw [if_neg hin] at hf; cases hf
      rw [if_pos hin] at hf
      refine me_aload_n C 0 (Or.inr (Or.inl ⟨_, rfl⟩)) dX7_init_39 rfl rfl ?_
      refine me_getq C 0 fg_Router_11 dX7_init_40 rfl h0 ?_
      refine me_iload_n C 1 dX7_init_43 rfl rfl ?_
      refine me_newO C hroom (k := 17) (by decide) kc_17 dv_17 cl_Router_9 (me_gm 331 (by decide +kernel) (by decide +kernel)) (me_gm 40 (by decide +kernel) (by decide +kernel)) dX7_init_44 ⟨by omega, by omega⟩ (fun a1 g1 C => ?_)
      replace ag := ag.tr g1
      refine me_dup C rfl dX7_init_47 ?_
      refine me_callKN C hroom hci.ao (As := []) (st := [me_r 17 (n 17), me_i x, me_r 14 rw]) (nc + 4) (ns + 20) (k_Row_init (i0 := (n 17))) mi_Row_init nl_Router_24 dX7_init_48 rfl rfl ⟨by omega, by omega⟩ ⟨by omega, by omega, by omega, by omega⟩ (Nat.le_of_ble_eq_true rfl) (fun a2 g2 C => ?_)
      replace ag := ag.tr g2
      refine me_aastR C (rc := vwCl.getD 8 default) rfl rfl rfl (fun _ => rfl) hin dX7_init_51 (fun C => ?_)
      refine me_iinc C (v := (me_inc x (1))) (L' := [(1, me_i (me_inc x (1))), (0, me_r 13 i0)]) dX7_init_52 rfl rfl (by decide) rfl ?_
      refine me_goto C (tgt := 30) dX7_init_55 (by decide) ?_
      refine me_dropI [(0, me_r 13 i0), (1, me_i (me_inc x 1))] [1, 0] rfl ?_
      exact ih _ _ _ _ _ (nc + 4) (ns + 20) (by omega) (by omega) C ag hf
def f_Router_init (i0 : Nat) (n : me_Nt) (r : me_Rt) (μ : me_M) : Option (me_Nt × me_Rt × me_M) := f_Router_lp i0 (n 14) 11 (me_np (me_np (me_np n 14) 15) 16) (me_ru (me_rn (me_ru (me_rn (me_ru (me_rn r 14 (n 14)) 13 i0 0 (14, (n 14))) 15 ((me_np n 14) 15)) 13 i0 1 (15, ((me_np n 14) 15))) 16 ((me_np (me_np n 14) 15) 16)) 13 i0 2 (16, ((me_np (me_np n 14) 15) 16))) (me_zc (me_zc (me_zc μ 14 (n 14)) 15 ((me_np n 14) 15)) 16 ((me_np (me_np n 14) 15) 16)) 0
set_option maxHeartbeats 4000000 in
set_option maxRecDepth 100000 in
theorem k_Router_init {a : Nat → Nat → Nat} {n : me_Nt} {r : me_Rt} {w : me_w} {μ : me_M} {i0 : Nat} {n' : me_Nt} {r' : me_Rt} {μ' : me_M} (hf : f_Router_init i0 n r μ = some (n', r', μ')) : ∀ l E z, l.stackTraces = false → me_MetK l yX7_init cX7_init 2 2 60 47 242 E a n r w μ z [me_r 13 i0] n' r' μ' := by
  intro l E z hl
  refine me_ofK hl (by decide +kernel) rfl (Nat.le_of_ble_eq_true rfl) (fun X C hroom hci K => ?_)
  have ag := me_agr.rf (a := a) (n := n)
  refine me_aload_n C 0 (Or.inr (Or.inl ⟨_, rfl⟩)) dX7_init_0 rfl rfl ?_
  refine me_objI C hroom ml_Router_3 oi_i oi_c dX7_init_1 ⟨by decide, by decide⟩ (Nat.le_of_ble_eq_true rfl) ?_
  refine me_aload_n C 0 (Or.inr (Or.inl ⟨_, rfl⟩)) dX7_init_4 rfl rfl ?_
  refine me_bipush C (v := 10) dX7_init_5 (by decide) ?_
  refine me_newQ C hroom (k := 14) (ai := 3) (N := 10) (Cn := "Meshyard$Row") (by decide) rfl (fun _ h => h.2.2.2) hci cl_Router_9 (fun _ => rfl) (by decide) (by decide) (by decide) dX7_init_7 ⟨by omega, by omega⟩ (fun a1 g1 C => ?_)
  replace ag := ag.tr g1
  refine me_putR C hci (j := 0) kc_13 (by decide) (me_gm 374 (by decide +kernel) (by decide +kernel)) rfl rfl rfl rfl dX7_init_10 (fun C => ?_)
  refine me_aload_n C 0 (Or.inr (Or.inl ⟨_, rfl⟩)) dX7_init_13 rfl rfl ?_
  refine me_bipush C (v := 10) dX7_init_14 (by decide) ?_
  refine me_newI C hroom (at0 := .int) (k := 15) (ai := 0) (N := 10) (by decide) rfl ac_int (fun _ => rfl) rfl (by decide) (by decide) (by decide) dX7_init_16 ⟨by omega, by omega⟩ (fun a2 g2 C => ?_)
  replace ag := ag.tr g2
  refine me_putR C hci (j := 1) kc_13 (by decide) (me_gm 379 (by decide +kernel) (by decide +kernel)) rfl rfl rfl rfl dX7_init_18 (fun C => ?_)
  refine me_aload_n C 0 (Or.inr (Or.inl ⟨_, rfl⟩)) dX7_init_21 rfl rfl ?_
  refine me_iconst C (v := 2) dX7_init_22 (by decide) ?_
  refine me_newI C hroom (at0 := .int) (k := 16) (ai := 0) (N := 2) (by decide) rfl ac_int (fun _ => rfl) rfl (by decide) (by decide) (by decide) dX7_init_23 ⟨by omega, by omega⟩ (fun a3 g3 C => ?_)
  replace ag := ag.tr g3
  refine me_putR C hci (j := 2) kc_13 (by decide) (me_gm 381 (by decide +kernel) (by decide +kernel)) rfl rfl rfl rfl dX7_init_25 (fun C => ?_)
  refine me_iconst C (v := 0) dX7_init_28 (by decide) ?_
  refine me_istore_n C 1 dX7_init_29 rfl (by decide) (L' := [(1, me_i 0), (0, me_r 13 i0)]) rfl ?_
  refine me_dropI [(0, me_r 13 i0), (1, me_i 0)] [1, 0] rfl ?_
  exact z_Router_lp hroom hci ⟨by decide, by decide⟩ (fun a1 nc ns x hnc hns C ag => me_vretK C K ag dX7_init_58 hnc hns) 11 _ _ _ _ 0 3 22 (by decide) (by decide) C ag hf
def f_Post_lp (i0 al : Nat) : Nat → me_Nt → me_Rt → me_M → Int32 → Option (me_Nt × me_Rt × me_M)
  | 0, _, _, _, _ => none
  | f + 1, n, r, μ, x => if 200 ≤ x then some (n, r, μ) else if r 6 i0 0 = some (7, al) then (if me_inb x 200 = true then f_Post_lp i0 al f (n_Packet (me_np n 8)) (me_ru (r_Packet (me_np n 8) (me_rn r 8 (n 8)) (n 8)) 7 al (me_ix x) (8, (n 8))) (m_Packet (me_np n 8) (me_zc μ 8 (n 8)) (n 8) x) (me_inc x (1)) else none) else none
set_option maxHeartbeats 4000000 in
set_option maxRecDepth 100000 in
theorem z_Post_lp {X : me_X} {w : me_w} {i0 al mc ms fr lo : Nat} {n' : me_Nt} {r' : me_Rt} {μ' : me_M} {a0 : Nat → Nat → Nat} {n0 : me_Nt} (hroom : me_Rm X fr lo mc ms) (hci : me_CI X) (hfl : 2 ≤ fr ∧ 60 ≤ lo)
    (kk : ∀ (a1 : Nat → Nat → Nat) (nc ns : Nat) (x : Int32), nc ≤ mc → ns ≤ ms → me_C X (a1, n', r', w) RX6 cX6_init 2 none → me_agr a0 n0 a1 n' → me_Z X (a1, n', r', w) nc ns μ' 43 [(0, me_r 6 i0), (1, me_i x)] []) :
    ∀ (f : Nat) (a : Nat → Nat → Nat) (n : me_Nt) (r : me_Rt) (μ : me_M) (x : Int32) (nc ns : Nat), nc + 1 * f ≤ mc → ns + 15 * f ≤ ms → me_C X (a, n, r, w) RX6 cX6_init 2 none → me_agr a0 n0 a n → f_Post_lp i0 al f n r μ x = some (n', r', μ') → me_Z X (a, n, r, w) nc ns μ 16 [(0, me_r 6 i0), (1, me_i x)] [] := by
  intro f
  induction f with
  | zero => intro a n r μ x nc ns _ _ _ _ h; cases h
  | succ f ih =>
    intro a n r μ x nc ns hnc hns C ag hf
    unfold f_Post_lp at hf
    have hnc1 : 1 * (f + 1) = 1 * f + 1 := Nat.mul_succ _ _
    have hns1 : 15 * (f + 1) = 15 * f + 15 := Nat.mul_succ _ _
    refine me_iload_n C 1 dX6_init_16 rfl rfl ?_
    refine me_sipush C (v := 200) dX6_init_17 (by decide) ?_
    refine me_icmp_ge C (tgt := 43) dX6_init_20 (by decide) (fun c1 => ?_) (fun c1 => ?_)
    · rw [if_pos c1] at hf
      cases hf
      exact kk a nc ns x (by omega) (by omega) C ag
    · rw [if_neg c1] at hf
      by_cases h0 : r 6 i0 0 = some (7, al)
      case neg => rw [if_neg h0] at hf; cases hf
      rw [if_pos h0] at hf
      by_cases hin : me_inb x 200 = true
      case neg => rw [if_neg hin] at hf; cases hf
      rw [if_pos hin] at hf
      refine me_aload_n C 0 (Or.inr (Or.inl ⟨_, rfl⟩)) dX6_init_23 rfl rfl ?_
      refine me_getq C 0 fg_Post_11 dX6_init_24 rfl h0 ?_
      refine me_iload_n C 1 dX6_init_27 rfl rfl ?_
      refine me_newO C hroom (k := 8) (by decide) kc_8 dv_8 cl_Post_9 (me_gm 104 (by decide +kernel) (by decide +kernel)) (me_gm 33 (by decide +kernel) (by decide +kernel)) dX6_init_28 ⟨by omega, by omega⟩ (fun a1 g1 C => ?_)
      replace ag := ag.tr g1
      refine me_dup C rfl dX6_init_31 ?_
      refine me_iload_n C 1 dX6_init_32 rfl rfl ?_
      refine me_callK C hroom hci.ao (As := [me_i x]) (st := [me_r 8 (n 8), me_i x, me_r 7 al]) (nc + 1) (ns + 15) (k_Packet_init (i0 := (n 8))) mi_Packet_init ml_Post_17 dX6_init_33 rfl rfl ⟨by omega, by omega⟩ ⟨by omega, by omega, by omega, by omega⟩ (Nat.le_of_ble_eq_true rfl) (fun a2 g2 C => ?_)
      replace ag := ag.tr g2
      refine me_aastR C (rc := vwCl.getD 4 default) rfl rfl rfl (fun _ => rfl) hin dX6_init_36 (fun C => ?_)
      refine me_iinc C (v := (me_inc x (1))) (L' := [(1, me_i (me_inc x (1))), (0, me_r 6 i0)]) dX6_init_37 rfl rfl (by decide) rfl ?_
      refine me_goto C (tgt := 16) dX6_init_40 (by decide) ?_
      refine me_dropI [(0, me_r 6 i0), (1, me_i (me_inc x 1))] [1, 0] rfl ?_
      exact ih _ _ _ _ _ (nc + 1) (ns + 15) (by omega) (by omega) C ag hf
def f_Post_init (i0 : Nat) (n : me_Nt) (r : me_Rt) (μ : me_M) : Option (me_Nt × me_Rt × me_M) := f_Post_lp i0 (n 7) 201 (me_np n 7) (me_ru (me_rn r 7 (n 7)) 6 i0 0 (7, (n 7))) (me_zc μ 7 (n 7)) 0
set_option maxHeartbeats 4000000 in
set_option maxRecDepth 100000 in
theorem k_Post_init {a : Nat → Nat → Nat} {n : me_Nt} {r : me_Rt} {w : me_w} {μ : me_M} {i0 : Nat} {n' : me_Nt} {r' : me_Rt} {μ' : me_M} (hf : f_Post_init i0 n r μ = some (n', r', μ')) : ∀ l E z, l.stackTraces = false → me_MetK l yX6_init cX6_init 2 2 60 202 3215 E a n r w μ z [me_r 6 i0] n' r' μ' := by
  intro l E z hl
  refine me_ofK hl (by decide +kernel) rfl (Nat.le_of_ble_eq_true rfl) (fun X C hroom hci K => ?_)
  have ag := me_agr.rf (a := a) (n := n)
  refine me_aload_n C 0 (Or.inr (Or.inl ⟨_, rfl⟩)) dX6_init_0 rfl rfl ?_
  refine me_objI C hroom ml_Post_3 oi_i oi_c dX6_init_1 ⟨by decide, by decide⟩ (Nat.le_of_ble_eq_true rfl) ?_
  refine me_aload_n C 0 (Or.inr (Or.inl ⟨_, rfl⟩)) dX6_init_4 rfl rfl ?_
  refine me_sipush C (v := 200) dX6_init_5 (by decide) ?_
  refine me_newQ C hroom (k := 7) (ai := 6) (N := 200) (Cn := "Meshyard$Packet") (by decide) rfl (fun _ h => h.1) hci cl_Post_9 (fun _ => rfl) (by decide) (by decide) (by decide) dX6_init_8 ⟨by omega, by omega⟩ (fun a1 g1 C => ?_)
  replace ag := ag.tr g1
  refine me_putR C hci (j := 0) kc_6 (by decide) (me_gm 190 (by decide +kernel) (by decide +kernel)) rfl rfl rfl rfl dX6_init_11 (fun C => ?_)
  refine me_iconst C (v := 0) dX6_init_14 (by decide) ?_
  refine me_istore_n C 1 dX6_init_15 rfl (by decide) (L' := [(1, me_i 0), (0, me_r 6 i0)]) rfl ?_
  refine me_dropI [(0, me_r 6 i0), (1, me_i 0)] [1, 0] rfl ?_
  exact z_Post_lp hroom hci ⟨by decide, by decide⟩ (fun a1 nc ns x hnc hns C ag => me_vretK C K ag dX6_init_43 hnc hns) 201 _ _ _ _ 0 1 200 (by decide) (by decide) C ag hf
def me_b3 {α : Type} (x : Option (me_Nt × me_Rt × me_M)) (f : me_Nt → me_Rt → me_M → Option α) : Option α := match x with
  | some a => f a.1 a.2.1 a.2.2
  | none => none
theorem me_bs3 {α : Type} {x : Option (me_Nt × me_Rt × me_M)} {f : me_Nt → me_Rt → me_M → Option α} {o : α} (h : me_b3 x f = some o) : ∃ a b c, x = some (a, b, c) ∧ f a b c = some o := by
  cases x with
  | some a => exact ⟨a.1, a.2.1, a.2.2, rfl, h⟩
  | none => cases h
theorem me_callVR0 {X : me_X} {own : String} {cc : ByteArray} {nL : Nat} {ret : Option FieldType} {B : me_B} {nc ns : Nat} {μ : me_M} {pc : Nat} {L : List (Nat × me_V)} {st S : List me_V} {fr lo mc ms : Nat} {y : MethodName} {cc' : ByteArray} {maxL' : Nat} {ret' : Option FieldType} {fr' lo' mc' ms' : Nat} {As : List me_V} {idx n : Nat} (C : me_C X B own cc nL ret) (hroom : me_Rm X fr lo mc ms) {k i ci N0 : Nat} {μ' : me_M} (nc' ns' : Nat) (hM : ∀ l E z, l.stackTraces = false → me_Met l y cc' maxL' ret' fr' lo' mc' ms' E B μ z (me_r k i :: As) (B, μ', .ok (none))) (mv : me_MV y cc' maxL' ret' n) (hl0 : Cond.methodLink own idx y ∈ me_gw) (hk : me_kt k = (0, ci, N0)) (hcl : (vwCl[ci]?).map (fun q => q.1) = some y.cls) (hdg : decode cc pc = .ok (.invokevirtual idx, 3)) (hs : S = As.reverse ++ me_r k i :: st) (hn : As.length = n) (hR : fr' + 1 ≤ fr ∧ 8 + (maxL' + 11) + lo' ≤ lo) (hc : nc + mc' ≤ nc' ∧ ns + ms' ≤ ns' ∧ nc' ≤ mc ∧ ns' ≤ ms) (hw : me_wd st ≤ 8)
    (kk : me_Z X B nc' ns' μ' (pc + 3) L (st)) : me_Z X B nc ns μ pc L S :=
  me_callVXR C hroom nc' ns' hM mv hl0 hk hcl hdg hs hn hR hc hw rfl (fun rv h => by cases h; exact kk) (fun k h => by cases h)
theorem me_nmK {X : me_X} {own : String} {cc : ByteArray} {nL : Nat} {ret : Option FieldType} {a a0 : Nat → Nat → Nat} {n n2 n0 : me_Nt} {r r2 : me_Rt} {w : me_w} {nc ns : Nat} {μ μ2 : me_M} {pc : Nat} {L : List (Nat × me_V)} {st : List me_V} (h1 : n2 = n) (h2 : r2 = r) (h3 : μ2 = μ) (C : me_C X (a, n, r, w) own cc nL ret) (ag : me_agr a0 n0 a n) (kk : me_C X (a, n2, r2, w) own cc nL ret → me_agr a0 n0 a n2 → me_Z X (a, n2, r2, w) nc ns μ2 pc L st) : me_Z X (a, n, r, w) nc ns μ pc L st := by
  subst h1
  subst h2
  subst h3
  exact kk C ag
/-- references lead where they lead when all is built -/
def me_Sn (n : me_Nt) (r : me_Rt) : Prop := ∀ k i j, k < me_NK → i < n k → j < (me_kt k).2.2 → r k i j = me_r0 k i j
noncomputable def me_gP {α : Type} (P : Prop) (k : Option α) : Option α := @ite _ P (Classical.propDecidable P) k none
theorem me_gPs {α : Type} {P : Prop} {k : Option α} {o : α} (h : me_gP P k = some o) : P ∧ k = some o := by
  unfold me_gP at h
  by_cases hp : P
  · rw [if_pos hp] at h
    exact ⟨hp, h⟩
  · rw [if_neg hp] at h
    cases h
def f_Y_lp (i0 ir ic : Nat) : Nat → me_Nt → me_Rt → me_M → Int32 → Option (me_Nt × me_Rt × me_M)
  | 0, _, _, _, _ => none
  | f + 1, n, r, μ, x => if 16 ≤ x then some (n, r, μ) else if me_inb x 16 = true then
  if r 0 i0 3 = some (12, ir) then (
  me_b3 (f_Router_init (n 13) (me_np n 13) (me_rn r 13 (n 13)) (me_zc μ 13 (n 13))) (fun no2 ro2 μo2 =>
  if (me_ru ro2 12 ir (me_ix x) (13, (n 13))) 0 i0 4 = some (21, ic) then (
  me_lt (n_Core (me_np no2 22)) (fun n1 =>
  me_lt (me_ru (r_Core (me_np no2 22) (me_rn (me_ru ro2 12 ir (me_ix x) (13, (n 13))) 22 (no2 22)) (no2 22)) 21 ic (me_ix x) (22, (no2 22))) (fun r1 =>
  me_lt (m_Core (me_np no2 22) (me_zc μo2 22 (no2 22)) (no2 22)) (fun μ1 =>
  f_Y_lp i0 ir ic f n1 r1 μ1 (me_inc x (1)))))) else none)) else none else none
set_option maxHeartbeats 4000000 in
set_option maxRecDepth 100000 in
theorem z_Y_lp {X : me_X} {w : me_w} {i0 ir ic mc ms fr lo : Nat} {n' : me_Nt} {r' : me_Rt} {μ' : me_M} {a0 : Nat → Nat → Nat} {n0 : me_Nt} (hroom : me_Rm X fr lo mc ms) (hci : me_CI X) (hfl : 6 ≤ fr ∧ 160 ≤ lo)
    (kk : ∀ (a1 : Nat → Nat → Nat) (nc ns : Nat) (x : Int32), nc ≤ mc → ns ≤ ms → me_C X (a1, n', r', w) RX11 cX11_init 2 none → me_agr a0 n0 a1 n' → me_Z X (a1, n', r', w) nc ns μ' 183 [(0, me_r 0 i0), (1, me_i x)] []) :
    ∀ (f : Nat) (a : Nat → Nat → Nat) (n : me_Nt) (r : me_Rt) (μ : me_M) (x : Int32) (nc ns : Nat), nc + 53 * f ≤ mc → ns + 294 * f ≤ ms → me_C X (a, n, r, w) RX11 cX11_init 2 none → me_agr a0 n0 a n → f_Y_lp i0 ir ic f n r μ x = some (n', r', μ') → me_Z X (a, n, r, w) nc ns μ 145 [(0, me_r 0 i0), (1, me_i x)] [] := by
  intro f
  induction f with
  | zero => intro a n r μ x nc ns _ _ _ _ h; cases h
  | succ f ih =>
    intro a n r μ x nc ns hnc hns C ag hf
    unfold f_Y_lp at hf
    have hnc1 : 53 * (f + 1) = 53 * f + 53 := Nat.mul_succ _ _
    have hns1 : 294 * (f + 1) = 294 * f + 294 := Nat.mul_succ _ _
    refine me_iload_n C 1 dX11_init_145 rfl rfl ?_
    refine me_bipush C (v := 16) dX11_init_146 (by decide) ?_
    refine me_icmp_ge C (tgt := 183) dX11_init_148 (by decide) (fun c1 => ?_) (fun c1 => ?_)
    · rw [if_pos c1] at hf
      cases hf
      exact kk a nc ns x (by omega) (by omega) C ag
    · rw [if_neg c1] at hf
      by_cases hin : me_inb x 16 = true
      case neg => rw [if_neg hin] at hf; cases hf
      rw [if_pos hin] at hf
      refine me_aload_n C 0 (Or.inr (Or.inl ⟨_, rfl⟩)) dX11_init_151 rfl rfl ?_
      by_cases hg1 : r 0 i0 3 = some (12, ir)
      case neg => rw [if_neg hg1] at hf; cases hf
      rw [if_pos hg1] at hf
      refine me_getq C 3 fg_Y_34 dX11_init_152 rfl hg1 ?_
      refine me_iload_n C 1 dX11_init_155 rfl rfl ?_
      refine me_newO C hroom (k := 13) (by decide) kc_13 dv_13 cl_Y_32 (me_gm 324 (by decide +kernel) (by decide +kernel)) (me_gm 39 (by decide +kernel) (by decide +kernel)) dX11_init_156 ⟨by omega, by omega⟩ (fun a1 g1 C => ?_)
      replace ag := ag.tr g1
      refine me_dup C rfl dX11_init_159 ?_
      obtain ⟨no2, ro2, μo2, ho2, hf⟩ := me_bs3 hf
      refine me_callK C hroom hci.ao (As := []) (st := [me_r 13 (n 13), me_i x, me_r 12 ir]) (nc + 48) (ns + 247) (k_Router_init ho2) mi_Router_init ml_Y_78 dX11_init_160 rfl rfl ⟨by omega, by omega⟩ ⟨by omega, by omega, by omega, by omega⟩ (Nat.le_of_ble_eq_true rfl) (fun a2 g2 C => ?_)
      replace ag := ag.tr g2
      refine me_aastR C (rc := vwCl.getD 7 default) rfl rfl rfl (fun _ => rfl) hin dX11_init_163 (fun C => ?_)
      refine me_aload_n C 0 (Or.inr (Or.inl ⟨_, rfl⟩)) dX11_init_164 rfl rfl ?_
      by_cases hg2 : (me_ru ro2 12 ir (me_ix x) (13, (n 13))) 0 i0 4 = some (21, ic)
      case neg => rw [if_neg hg2] at hf; cases hf
      rw [if_pos hg2] at hf
      refine me_getq C 4 fg_Y_40 dX11_init_165 rfl hg2 ?_
      refine me_iload_n C 1 dX11_init_168 rfl rfl ?_
      refine me_newO C hroom (k := 22) (by decide) kc_22 dv_22 cl_Y_38 (me_gm 400 (by decide +kernel) (by decide +kernel)) (me_gm 41 (by decide +kernel) (by decide +kernel)) dX11_init_169 ⟨by omega, by omega⟩ (fun a3 g3 C => ?_)
      replace ag := ag.tr g3
      refine me_dup C rfl dX11_init_172 ?_
      refine me_callKN C hroom hci.ao (As := []) (st := [me_r 22 (no2 22), me_i x, me_r 21 ic]) (nc + 53) (ns + 294) (k_Core_init (i0 := (no2 22))) mi_Core_init nl_Y_79 dX11_init_173 rfl rfl ⟨by omega, by omega⟩ ⟨by omega, by omega, by omega, by omega⟩ (Nat.le_of_ble_eq_true rfl) (fun a4 g4 C => ?_)
      replace ag := ag.tr g4
      refine me_aastR C (rc := vwCl.getD 1 default) rfl rfl rfl (fun _ => rfl) hin dX11_init_176 (fun C => ?_)
      refine me_iinc C (v := (me_inc x (1))) (L' := [(1, me_i (me_inc x (1))), (0, me_r 0 i0)]) dX11_init_177 rfl rfl (by decide) rfl ?_
      obtain ⟨n1, e_n1, hf⟩ := me_lts hf
      obtain ⟨r1, e_r1, hf⟩ := me_lts hf
      obtain ⟨μ1, e_μ1, hf⟩ := me_lts hf
      refine me_nmK e_n1 e_r1 e_μ1 C ag (fun C ag => ?_)
      refine me_goto C (tgt := 145) dX11_init_180 (by decide) ?_
      refine me_dropI [(0, me_r 0 i0), (1, me_i (me_inc x 1))] [1, 0] rfl ?_
      exact ih _ _ _ _ _ (nc + 53) (ns + 294) (by omega) (by omega) C ag hf
