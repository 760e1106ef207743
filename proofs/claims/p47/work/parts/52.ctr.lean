/-! STRAIGHT CONSTRUCTORS (printed by gen/ctor.py) -/
theorem oi_i : Cond.instanceMethod Lib.objectInit ∈ me_gw := (me_gm 62 (by decide +kernel) (by decide +kernel))
theorem oi_c : Cond.code Lib.objectInit ⟨#[0xb1]⟩ 1 none ∈ me_gw := (me_gm 63 (by decide +kernel) (by decide +kernel))
theorem ml_Row_3 : Cond.methodLink RX8 3 Lib.objectInit ∈ me_gw := (me_gm 335 (by decide +kernel) (by decide +kernel))
theorem ac_int : Cond.arrayClass .int ∈ me_gw := (me_gm 94 (by decide +kernel) (by decide +kernel))
theorem ml_Packet_1 : Cond.methodLink RX4 1 Lib.objectInit ∈ me_gw := (me_gm 108 (by decide +kernel) (by decide +kernel))
theorem ml_Net_3 : Cond.methodLink RX3 3 Lib.objectInit ∈ me_gw := (me_gm 69 (by decide +kernel) (by decide +kernel))
theorem ac_boolean : Cond.arrayClass .boolean ∈ me_gw := (me_gm 95 (by decide +kernel) (by decide +kernel))
theorem ml_Core_3 : Cond.methodLink RX1 3 Lib.objectInit ∈ me_gw := (me_gm 404 (by decide +kernel) (by decide +kernel))
theorem ac_char : Cond.arrayClass .char ∈ me_gw := (me_gm 441 (by decide +kernel) (by decide +kernel))
theorem ml_Placing_3 : Cond.methodLink RX5 3 Lib.objectInit ∈ me_gw := (me_gm 210 (by decide +kernel) (by decide +kernel))
theorem ml_Ways_3 : Cond.methodLink RX9 3 Lib.objectInit ∈ me_gw := (me_gm 233 (by decide +kernel) (by decide +kernel))
theorem fw_Ways_19 : me_FW RX9 19 27 4 .char := ⟨_, _, _, _, _, kc_27, by decide, (me_gm 240 (by decide +kernel) (by decide +kernel)), rfl, rfl⟩
theorem ml_Mover_3 : Cond.methodLink RX2 3 Lib.objectInit ∈ me_gw := (me_gm 258 (by decide +kernel) (by decide +kernel))
theorem fg_Mover_9 : me_FG RX2 9 27 0 := ⟨_, _, _, _, _, kc_27, by decide, (me_gm 234 (by decide +kernel) (by decide +kernel))⟩
theorem fg_Mover_22 : me_FG RX2 22 27 1 := ⟨_, _, _, _, _, kc_27, by decide, (me_gm 236 (by decide +kernel) (by decide +kernel))⟩
theorem ml_Works_1 : Cond.methodLink RX10 1 Lib.objectInit ∈ me_gw := (me_gm 291 (by decide +kernel) (by decide +kernel))
theorem ml_Audit_3 : Cond.methodLink RX0 3 Lib.objectInit ∈ me_gw := (me_gm 307 (by decide +kernel) (by decide +kernel))
theorem mi_Row_init : me_MI yX8_init cX8_init 1 0 := ⟨(me_gm 334 (by decide +kernel) (by decide +kernel)), (me_gm 40 (by decide +kernel) (by decide +kernel)), ⟨by decide +kernel, by decide +kernel⟩, by decide +kernel, rfl, (me_gm 333 (by decide +kernel) (by decide +kernel))⟩
theorem mi_Packet_init : me_MI yX4_init cX4_init 2 1 := ⟨(me_gm 107 (by decide +kernel) (by decide +kernel)), (me_gm 33 (by decide +kernel) (by decide +kernel)), ⟨by decide +kernel, by decide +kernel⟩, by decide +kernel, rfl, (me_gm 106 (by decide +kernel) (by decide +kernel))⟩
theorem mi_Net_init : me_MI yX3_init cX3_init 1 0 := ⟨(me_gm 68 (by decide +kernel) (by decide +kernel)), (me_gm 31 (by decide +kernel) (by decide +kernel)), ⟨by decide +kernel, by decide +kernel⟩, by decide +kernel, rfl, (me_gm 67 (by decide +kernel) (by decide +kernel))⟩
theorem mi_Core_init : me_MI yX1_init cX1_init 1 0 := ⟨(me_gm 403 (by decide +kernel) (by decide +kernel)), (me_gm 41 (by decide +kernel) (by decide +kernel)), ⟨by decide +kernel, by decide +kernel⟩, by decide +kernel, rfl, (me_gm 402 (by decide +kernel) (by decide +kernel))⟩
theorem mi_Placing_init : me_MI yX5_init cX5_init 2 1 := ⟨(me_gm 209 (by decide +kernel) (by decide +kernel)), (me_gm 34 (by decide +kernel) (by decide +kernel)), ⟨by decide +kernel, by decide +kernel⟩, by decide +kernel, rfl, (me_gm 208 (by decide +kernel) (by decide +kernel))⟩
theorem mi_Ways_init : me_MI yX9_init cX9_init 3 2 := ⟨(me_gm 232 (by decide +kernel) (by decide +kernel)), (me_gm 35 (by decide +kernel) (by decide +kernel)), ⟨by decide +kernel, by decide +kernel⟩, by decide +kernel, rfl, (me_gm 231 (by decide +kernel) (by decide +kernel))⟩
theorem mi_Mover_init : me_MI yX2_init cX2_init 4 3 := ⟨(me_gm 257 (by decide +kernel) (by decide +kernel)), (me_gm 36 (by decide +kernel) (by decide +kernel)), ⟨by decide +kernel, by decide +kernel⟩, by decide +kernel, rfl, (me_gm 256 (by decide +kernel) (by decide +kernel))⟩
theorem mi_Works_init : me_MI yX10_init cX10_init 4 3 := ⟨(me_gm 290 (by decide +kernel) (by decide +kernel)), (me_gm 37 (by decide +kernel) (by decide +kernel)), ⟨by decide +kernel, by decide +kernel⟩, by decide +kernel, rfl, (me_gm 289 (by decide +kernel) (by decide +kernel))⟩
theorem mi_Audit_init : me_MI yX0_init cX0_init 3 2 := ⟨(me_gm 306 (by decide +kernel) (by decide +kernel)), (me_gm 38 (by decide +kernel) (by decide +kernel)), ⟨by decide +kernel, by decide +kernel⟩, by decide +kernel, rfl, (me_gm 305 (by decide +kernel) (by decide +kernel))⟩
theorem mi_Router_init : me_MI yX7_init cX7_init 2 0 := ⟨(me_gm 327 (by decide +kernel) (by decide +kernel)), (me_gm 39 (by decide +kernel) (by decide +kernel)), ⟨by decide +kernel, by decide +kernel⟩, by decide +kernel, rfl, (me_gm 326 (by decide +kernel) (by decide +kernel))⟩
theorem mi_Post_init : me_MI yX6_init cX6_init 2 0 := ⟨(me_gm 100 (by decide +kernel) (by decide +kernel)), (me_gm 32 (by decide +kernel) (by decide +kernel)), ⟨by decide +kernel, by decide +kernel⟩, by decide +kernel, rfl, (me_gm 99 (by decide +kernel) (by decide +kernel))⟩
theorem mi_Y_init : me_MI yX11_init cX11_init 2 0 := ⟨(me_gm 60 (by decide +kernel) (by decide +kernel)), (me_gm 30 (by decide +kernel) (by decide +kernel)), ⟨by decide +kernel, by decide +kernel⟩, by decide +kernel, rfl, (me_gm 59 (by decide +kernel) (by decide +kernel))⟩
theorem dX8_init_0 : decode cX8_init 0 = .ok (.aload_n 0, 1) := by decide +kernel
theorem dX8_init_1 : decode cX8_init 1 = .ok (.invokespecial 3, 3) := by decide +kernel
theorem dX8_init_4 : decode cX8_init 4 = .ok (.aload_n 0, 1) := by decide +kernel
theorem dX8_init_5 : decode cX8_init 5 = .ok (.iconst 4, 1) := by decide +kernel
theorem dX8_init_6 : decode cX8_init 6 = .ok (.newarray .int, 2) := by decide +kernel
theorem dX8_init_8 : decode cX8_init 8 = .ok (.putfield 9, 3) := by decide +kernel
theorem dX8_init_11 : decode cX8_init 11 = .ok (.aload_n 0, 1) := by decide +kernel
theorem dX8_init_12 : decode cX8_init 12 = .ok (.iconst 4, 1) := by decide +kernel
theorem dX8_init_13 : decode cX8_init 13 = .ok (.newarray .int, 2) := by decide +kernel
theorem dX8_init_15 : decode cX8_init 15 = .ok (.putfield 15, 3) := by decide +kernel
theorem dX8_init_18 : decode cX8_init 18 = .ok (.aload_n 0, 1) := by decide +kernel
theorem dX8_init_19 : decode cX8_init 19 = .ok (.iconst 4, 1) := by decide +kernel
theorem dX8_init_20 : decode cX8_init 20 = .ok (.newarray .int, 2) := by decide +kernel
theorem dX8_init_22 : decode cX8_init 22 = .ok (.putfield 18, 3) := by decide +kernel
theorem dX8_init_25 : decode cX8_init 25 = .ok (.return_, 1) := by decide +kernel
theorem dX4_init_0 : decode cX4_init 0 = .ok (.aload_n 0, 1) := by decide +kernel
theorem dX4_init_1 : decode cX4_init 1 = .ok (.invokespecial 1, 3) := by decide +kernel
theorem dX4_init_4 : decode cX4_init 4 = .ok (.aload_n 0, 1) := by decide +kernel
theorem dX4_init_5 : decode cX4_init 5 = .ok (.iload_n 1, 1) := by decide +kernel
theorem dX4_init_6 : decode cX4_init 6 = .ok (.putfield 7, 3) := by decide +kernel
theorem dX4_init_9 : decode cX4_init 9 = .ok (.return_, 1) := by decide +kernel
theorem dX3_init_0 : decode cX3_init 0 = .ok (.aload_n 0, 1) := by decide +kernel
theorem dX3_init_1 : decode cX3_init 1 = .ok (.invokespecial 3, 3) := by decide +kernel
theorem dX3_init_4 : decode cX3_init 4 = .ok (.aload_n 0, 1) := by decide +kernel
theorem dX3_init_5 : decode cX3_init 5 = .ok (.bipush 64, 2) := by decide +kernel
theorem dX3_init_7 : decode cX3_init 7 = .ok (.newarray .int, 2) := by decide +kernel
theorem dX3_init_9 : decode cX3_init 9 = .ok (.putfield 9, 3) := by decide +kernel
theorem dX3_init_12 : decode cX3_init 12 = .ok (.aload_n 0, 1) := by decide +kernel
theorem dX3_init_13 : decode cX3_init 13 = .ok (.bipush 64, 2) := by decide +kernel
theorem dX3_init_15 : decode cX3_init 15 = .ok (.newarray .boolean, 2) := by decide +kernel
theorem dX3_init_17 : decode cX3_init 17 = .ok (.putfield 15, 3) := by decide +kernel
theorem dX3_init_20 : decode cX3_init 20 = .ok (.aload_n 0, 1) := by decide +kernel
theorem dX3_init_21 : decode cX3_init 21 = .ok (.bipush 16, 2) := by decide +kernel
theorem dX3_init_23 : decode cX3_init 23 = .ok (.newarray .int, 2) := by decide +kernel
theorem dX3_init_25 : decode cX3_init 25 = .ok (.putfield 19, 3) := by decide +kernel
theorem dX3_init_28 : decode cX3_init 28 = .ok (.aload_n 0, 1) := by decide +kernel
theorem dX3_init_29 : decode cX3_init 29 = .ok (.bipush 16, 2) := by decide +kernel
theorem dX3_init_31 : decode cX3_init 31 = .ok (.newarray .int, 2) := by decide +kernel
theorem dX3_init_33 : decode cX3_init 33 = .ok (.putfield 22, 3) := by decide +kernel
theorem dX3_init_36 : decode cX3_init 36 = .ok (.return_, 1) := by decide +kernel
theorem dX1_init_0 : decode cX1_init 0 = .ok (.aload_n 0, 1) := by decide +kernel
theorem dX1_init_1 : decode cX1_init 1 = .ok (.invokespecial 3, 3) := by decide +kernel
theorem dX1_init_4 : decode cX1_init 4 = .ok (.aload_n 0, 1) := by decide +kernel
theorem dX1_init_5 : decode cX1_init 5 = .ok (.bipush 8, 2) := by decide +kernel
theorem dX1_init_7 : decode cX1_init 7 = .ok (.newarray .int, 2) := by decide +kernel
theorem dX1_init_9 : decode cX1_init 9 = .ok (.putfield 9, 3) := by decide +kernel
theorem dX1_init_12 : decode cX1_init 12 = .ok (.aload_n 0, 1) := by decide +kernel
theorem dX1_init_13 : decode cX1_init 13 = .ok (.bipush 6, 2) := by decide +kernel
theorem dX1_init_15 : decode cX1_init 15 = .ok (.newarray .int, 2) := by decide +kernel
theorem dX1_init_17 : decode cX1_init 17 = .ok (.putfield 15, 3) := by decide +kernel
theorem dX1_init_20 : decode cX1_init 20 = .ok (.aload_n 0, 1) := by decide +kernel
theorem dX1_init_21 : decode cX1_init 21 = .ok (.bipush 12, 2) := by decide +kernel
theorem dX1_init_23 : decode cX1_init 23 = .ok (.newarray .char, 2) := by decide +kernel
theorem dX1_init_25 : decode cX1_init 25 = .ok (.putfield 18, 3) := by decide +kernel
theorem dX1_init_28 : decode cX1_init 28 = .ok (.aload_n 0, 1) := by decide +kernel
theorem dX1_init_29 : decode cX1_init 29 = .ok (.bipush 12, 2) := by decide +kernel
theorem dX1_init_31 : decode cX1_init 31 = .ok (.newarray .int, 2) := by decide +kernel
theorem dX1_init_33 : decode cX1_init 33 = .ok (.putfield 22, 3) := by decide +kernel
theorem dX1_init_36 : decode cX1_init 36 = .ok (.return_, 1) := by decide +kernel
theorem dX5_init_0 : decode cX5_init 0 = .ok (.aload_n 0, 1) := by decide +kernel
theorem dX5_init_1 : decode cX5_init 1 = .ok (.invokespecial 3, 3) := by decide +kernel
theorem dX5_init_4 : decode cX5_init 4 = .ok (.aload_n 0, 1) := by decide +kernel
theorem dX5_init_5 : decode cX5_init 5 = .ok (.bipush 8, 2) := by decide +kernel
theorem dX5_init_7 : decode cX5_init 7 = .ok (.newarray .int, 2) := by decide +kernel
theorem dX5_init_9 : decode cX5_init 9 = .ok (.putfield 9, 3) := by decide +kernel
theorem dX5_init_12 : decode cX5_init 12 = .ok (.aload_n 0, 1) := by decide +kernel
theorem dX5_init_13 : decode cX5_init 13 = .ok (.bipush 64, 2) := by decide +kernel
theorem dX5_init_15 : decode cX5_init 15 = .ok (.newarray .int, 2) := by decide +kernel
theorem dX5_init_17 : decode cX5_init 17 = .ok (.putfield 15, 3) := by decide +kernel
theorem dX5_init_20 : decode cX5_init 20 = .ok (.aload_n 0, 1) := by decide +kernel
theorem dX5_init_21 : decode cX5_init 21 = .ok (.aload_n 1, 1) := by decide +kernel
theorem dX5_init_22 : decode cX5_init 22 = .ok (.putfield 18, 3) := by decide +kernel
theorem dX5_init_25 : decode cX5_init 25 = .ok (.return_, 1) := by decide +kernel
theorem dX9_init_0 : decode cX9_init 0 = .ok (.aload_n 0, 1) := by decide +kernel
theorem dX9_init_1 : decode cX9_init 1 = .ok (.invokespecial 3, 3) := by decide +kernel
theorem dX9_init_4 : decode cX9_init 4 = .ok (.aload_n 0, 1) := by decide +kernel
theorem dX9_init_5 : decode cX9_init 5 = .ok (.bipush 64, 2) := by decide +kernel
theorem dX9_init_7 : decode cX9_init 7 = .ok (.newarray .int, 2) := by decide +kernel
theorem dX9_init_9 : decode cX9_init 9 = .ok (.putfield 9, 3) := by decide +kernel
theorem dX9_init_12 : decode cX9_init 12 = .ok (.aload_n 0, 1) := by decide +kernel
theorem dX9_init_13 : decode cX9_init 13 = .ok (.bipush 64, 2) := by decide +kernel
theorem dX9_init_15 : decode cX9_init 15 = .ok (.newarray .boolean, 2) := by decide +kernel
theorem dX9_init_17 : decode cX9_init 17 = .ok (.putfield 15, 3) := by decide +kernel
theorem dX9_init_20 : decode cX9_init 20 = .ok (.aload_n 0, 1) := by decide +kernel
theorem dX9_init_21 : decode cX9_init 21 = .ok (.bipush 120, 2) := by decide +kernel
theorem dX9_init_23 : decode cX9_init 23 = .ok (.putfield 19, 3) := by decide +kernel
theorem dX9_init_26 : decode cX9_init 26 = .ok (.aload_n 0, 1) := by decide +kernel
theorem dX9_init_27 : decode cX9_init 27 = .ok (.aload_n 1, 1) := by decide +kernel
theorem dX9_init_28 : decode cX9_init 28 = .ok (.putfield 23, 3) := by decide +kernel
theorem dX9_init_31 : decode cX9_init 31 = .ok (.aload_n 0, 1) := by decide +kernel
theorem dX9_init_32 : decode cX9_init 32 = .ok (.aload_n 2, 1) := by decide +kernel
theorem dX9_init_33 : decode cX9_init 33 = .ok (.putfield 27, 3) := by decide +kernel
theorem dX9_init_36 : decode cX9_init 36 = .ok (.return_, 1) := by decide +kernel
theorem dX2_init_0 : decode cX2_init 0 = .ok (.aload_n 0, 1) := by decide +kernel
theorem dX2_init_1 : decode cX2_init 1 = .ok (.invokespecial 3, 3) := by decide +kernel
theorem dX2_init_4 : decode cX2_init 4 = .ok (.aload_n 0, 1) := by decide +kernel
theorem dX2_init_5 : decode cX2_init 5 = .ok (.aload_n 1, 1) := by decide +kernel
theorem dX2_init_6 : decode cX2_init 6 = .ok (.getfield 9, 3) := by decide +kernel
theorem dX2_init_9 : decode cX2_init 9 = .ok (.putfield 15, 3) := by decide +kernel
theorem dX2_init_12 : decode cX2_init 12 = .ok (.aload_n 0, 1) := by decide +kernel
theorem dX2_init_13 : decode cX2_init 13 = .ok (.aload_n 1, 1) := by decide +kernel
theorem dX2_init_14 : decode cX2_init 14 = .ok (.putfield 18, 3) := by decide +kernel
theorem dX2_init_17 : decode cX2_init 17 = .ok (.aload_n 0, 1) := by decide +kernel
theorem dX2_init_18 : decode cX2_init 18 = .ok (.aload_n 1, 1) := by decide +kernel
theorem dX2_init_19 : decode cX2_init 19 = .ok (.getfield 22, 3) := by decide +kernel
theorem dX2_init_22 : decode cX2_init 22 = .ok (.putfield 26, 3) := by decide +kernel
theorem dX2_init_25 : decode cX2_init 25 = .ok (.aload_n 0, 1) := by decide +kernel
theorem dX2_init_26 : decode cX2_init 26 = .ok (.aload_n 2, 1) := by decide +kernel
theorem dX2_init_27 : decode cX2_init 27 = .ok (.putfield 27, 3) := by decide +kernel
theorem dX2_init_30 : decode cX2_init 30 = .ok (.aload_n 0, 1) := by decide +kernel
theorem dX2_init_31 : decode cX2_init 31 = .ok (.aload_n 3, 1) := by decide +kernel
theorem dX2_init_32 : decode cX2_init 32 = .ok (.putfield 31, 3) := by decide +kernel
theorem dX2_init_35 : decode cX2_init 35 = .ok (.return_, 1) := by decide +kernel
theorem dX10_init_0 : decode cX10_init 0 = .ok (.aload_n 0, 1) := by decide +kernel
theorem dX10_init_1 : decode cX10_init 1 = .ok (.invokespecial 1, 3) := by decide +kernel
theorem dX10_init_4 : decode cX10_init 4 = .ok (.aload_n 0, 1) := by decide +kernel
theorem dX10_init_5 : decode cX10_init 5 = .ok (.aload_n 1, 1) := by decide +kernel
theorem dX10_init_6 : decode cX10_init 6 = .ok (.putfield 7, 3) := by decide +kernel
theorem dX10_init_9 : decode cX10_init 9 = .ok (.aload_n 0, 1) := by decide +kernel
theorem dX10_init_10 : decode cX10_init 10 = .ok (.aload_n 2, 1) := by decide +kernel
theorem dX10_init_11 : decode cX10_init 11 = .ok (.putfield 13, 3) := by decide +kernel
theorem dX10_init_14 : decode cX10_init 14 = .ok (.aload_n 0, 1) := by decide +kernel
theorem dX10_init_15 : decode cX10_init 15 = .ok (.aload_n 3, 1) := by decide +kernel
theorem dX10_init_16 : decode cX10_init 16 = .ok (.putfield 17, 3) := by decide +kernel
theorem dX10_init_19 : decode cX10_init 19 = .ok (.return_, 1) := by decide +kernel
theorem dX0_init_0 : decode cX0_init 0 = .ok (.aload_n 0, 1) := by decide +kernel
theorem dX0_init_1 : decode cX0_init 1 = .ok (.invokespecial 3, 3) := by decide +kernel
theorem dX0_init_4 : decode cX0_init 4 = .ok (.aload_n 0, 1) := by decide +kernel
theorem dX0_init_5 : decode cX0_init 5 = .ok (.iconst 5, 1) := by decide +kernel
theorem dX0_init_6 : decode cX0_init 6 = .ok (.newarray .int, 2) := by decide +kernel
theorem dX0_init_8 : decode cX0_init 8 = .ok (.putfield 9, 3) := by decide +kernel
theorem dX0_init_11 : decode cX0_init 11 = .ok (.aload_n 0, 1) := by decide +kernel
theorem dX0_init_12 : decode cX0_init 12 = .ok (.iconst 5, 1) := by decide +kernel
theorem dX0_init_13 : decode cX0_init 13 = .ok (.newarray .int, 2) := by decide +kernel
theorem dX0_init_15 : decode cX0_init 15 = .ok (.putfield 15, 3) := by decide +kernel
theorem dX0_init_18 : decode cX0_init 18 = .ok (.aload_n 0, 1) := by decide +kernel
theorem dX0_init_19 : decode cX0_init 19 = .ok (.iconst 5, 1) := by decide +kernel
theorem dX0_init_20 : decode cX0_init 20 = .ok (.newarray .int, 2) := by decide +kernel
theorem dX0_init_22 : decode cX0_init 22 = .ok (.putfield 18, 3) := by decide +kernel
theorem dX0_init_25 : decode cX0_init 25 = .ok (.aload_n 0, 1) := by decide +kernel
theorem dX0_init_26 : decode cX0_init 26 = .ok (.aload_n 1, 1) := by decide +kernel
theorem dX0_init_27 : decode cX0_init 27 = .ok (.putfield 21, 3) := by decide +kernel
theorem dX0_init_30 : decode cX0_init 30 = .ok (.aload_n 0, 1) := by decide +kernel
theorem dX0_init_31 : decode cX0_init 31 = .ok (.aload_n 2, 1) := by decide +kernel
theorem dX0_init_32 : decode cX0_init 32 = .ok (.putfield 25, 3) := by decide +kernel
theorem dX0_init_35 : decode cX0_init 35 = .ok (.return_, 1) := by decide +kernel
def n_Row (n : me_Nt) : me_Nt := (me_np (me_np (me_np n 18) 19) 20)
def r_Row (n : me_Nt) (r : me_Rt) (i0 : Nat)  : me_Rt := (me_ru (me_rn (me_ru (me_rn (me_ru (me_rn r 18 (n 18)) 17 i0 0 (18, (n 18))) 19 ((me_np n 18) 19)) 17 i0 1 (19, ((me_np n 18) 19))) 20 ((me_np (me_np n 18) 19) 20)) 17 i0 2 (20, ((me_np (me_np n 18) 19) 20)))
def m_Row (n : me_Nt) (μ : me_M) (i0 : Nat)  : me_M := (me_zc (me_zc (me_zc μ 18 (n 18)) 19 ((me_np n 18) 19)) 20 ((me_np (me_np n 18) 19) 20))
set_option maxHeartbeats 4000000 in
set_option maxRecDepth 100000 in
theorem k_Row_init {a : Nat → Nat → Nat} {n : me_Nt} {r : me_Rt} {w : me_w} {μ : me_M} {i0 : Nat}   : ∀ l E z, l.stackTraces = false → me_MetK l yX8_init cX8_init 1 1 20 3 12 E a n r w μ z [me_r 17 i0] (n_Row n) (r_Row n r i0 ) (m_Row n μ i0 ) := by
  intro l E z hl
  refine me_ofK hl (by decide +kernel) rfl (Nat.le_of_ble_eq_true rfl) (fun X C hroom hci K => ?_)
  have ag := me_agr.rf (a := a) (n := n)
  refine me_aload_n C 0 (Or.inr (Or.inl ⟨_, rfl⟩)) dX8_init_0 rfl rfl ?_
  refine me_objI C hroom ml_Row_3 oi_i oi_c dX8_init_1 ⟨by decide, by decide⟩ (Nat.le_of_ble_eq_true rfl) ?_
  refine me_aload_n C 0 (Or.inr (Or.inl ⟨_, rfl⟩)) dX8_init_4 rfl rfl ?_
  refine me_iconst C (v := 4) dX8_init_5 (by decide) ?_
  refine me_newI C hroom (at0 := .int) (k := 18) (ai := 0) (N := 4) (by decide) rfl ac_int (fun _ => rfl) rfl (by decide) (by decide) (by decide) dX8_init_6 ⟨by omega, by omega⟩ (fun a1 g1 C => ?_)
  replace ag := ag.tr g1
  refine me_putR C hci (j := 0) kc_17 (by decide) (me_gm 336 (by decide +kernel) (by decide +kernel)) rfl rfl rfl rfl dX8_init_8 (fun C => ?_)
  refine me_aload_n C 0 (Or.inr (Or.inl ⟨_, rfl⟩)) dX8_init_11 rfl rfl ?_
  refine me_iconst C (v := 4) dX8_init_12 (by decide) ?_
  refine me_newI C hroom (at0 := .int) (k := 19) (ai := 0) (N := 4) (by decide) rfl ac_int (fun _ => rfl) rfl (by decide) (by decide) (by decide) dX8_init_13 ⟨by omega, by omega⟩ (fun a2 g2 C => ?_)
  replace ag := ag.tr g2
  refine me_putR C hci (j := 1) kc_17 (by decide) (me_gm 339 (by decide +kernel) (by decide +kernel)) rfl rfl rfl rfl dX8_init_15 (fun C => ?_)
  refine me_aload_n C 0 (Or.inr (Or.inl ⟨_, rfl⟩)) dX8_init_18 rfl rfl ?_
  refine me_iconst C (v := 4) dX8_init_19 (by decide) ?_
  refine me_newI C hroom (at0 := .int) (k := 20) (ai := 0) (N := 4) (by decide) rfl ac_int (fun _ => rfl) rfl (by decide) (by decide) (by decide) dX8_init_20 ⟨by omega, by omega⟩ (fun a3 g3 C => ?_)
  replace ag := ag.tr g3
  refine me_putR C hci (j := 2) kc_17 (by decide) (me_gm 342 (by decide +kernel) (by decide +kernel)) rfl rfl rfl rfl dX8_init_22 (fun C => ?_)
  exact me_vretK C K ag dX8_init_25 (by decide) (by decide)

def n_Packet (n : me_Nt) : me_Nt := n
def r_Packet (n : me_Nt) (r : me_Rt) (i0 : Nat)  : me_Rt := r
def m_Packet (n : me_Nt) (μ : me_M) (i0 : Nat) (x1 : Int32) : me_M := (me_up μ 8 i0 0 x1)
set_option maxHeartbeats 4000000 in
set_option maxRecDepth 100000 in
theorem k_Packet_init {a : Nat → Nat → Nat} {n : me_Nt} {r : me_Rt} {w : me_w} {μ : me_M} {i0 : Nat}  {x1 : Int32} : ∀ l E z, l.stackTraces = false → me_MetK l yX4_init cX4_init 2 1 20 0 0 E a n r w μ z [me_r 8 i0, me_i x1] (n_Packet n) (r_Packet n r i0 ) (m_Packet n μ i0 x1) := by
  intro l E z hl
  refine me_ofK hl (by decide +kernel) rfl (Nat.le_of_ble_eq_true rfl) (fun X C hroom hci K => ?_)
  have ag := me_agr.rf (a := a) (n := n)
  refine me_aload_n C 0 (Or.inr (Or.inl ⟨_, rfl⟩)) dX4_init_0 rfl rfl ?_
  refine me_objI C hroom ml_Packet_1 oi_i oi_c dX4_init_1 ⟨by decide, by decide⟩ (Nat.le_of_ble_eq_true rfl) ?_
  refine me_aload_n C 0 (Or.inr (Or.inl ⟨_, rfl⟩)) dX4_init_4 rfl rfl ?_
  refine me_iload_n C 1 dX4_init_5 rfl rfl ?_
  refine me_putF C hci (j := 0) kc_8 (by decide) (me_gm 109 (by decide +kernel) (by decide +kernel)) rfl rfl (me_nri _) rfl dX4_init_6 ?_
  exact me_vretK C K ag dX4_init_9 (by decide) (by decide)

def n_Net (n : me_Nt) : me_Nt := (me_np (me_np (me_np (me_np n 2) 3) 4) 5)
def r_Net (n : me_Nt) (r : me_Rt) (i0 : Nat)  : me_Rt := (me_ru (me_rn (me_ru (me_rn (me_ru (me_rn (me_ru (me_rn r 2 (n 2)) 1 i0 0 (2, (n 2))) 3 ((me_np n 2) 3)) 1 i0 1 (3, ((me_np n 2) 3))) 4 ((me_np (me_np n 2) 3) 4)) 1 i0 2 (4, ((me_np (me_np n 2) 3) 4))) 5 ((me_np (me_np (me_np n 2) 3) 4) 5)) 1 i0 3 (5, ((me_np (me_np (me_np n 2) 3) 4) 5)))
def m_Net (n : me_Nt) (μ : me_M) (i0 : Nat)  : me_M := (me_zc (me_zc (me_zc (me_zc μ 2 (n 2)) 3 ((me_np n 2) 3)) 4 ((me_np (me_np n 2) 3) 4)) 5 ((me_np (me_np (me_np n 2) 3) 4) 5))
set_option maxHeartbeats 4000000 in
set_option maxRecDepth 100000 in
theorem k_Net_init {a : Nat → Nat → Nat} {n : me_Nt} {r : me_Rt} {w : me_w} {μ : me_M} {i0 : Nat}   : ∀ l E z, l.stackTraces = false → me_MetK l yX3_init cX3_init 1 1 20 4 160 E a n r w μ z [me_r 1 i0] (n_Net n) (r_Net n r i0 ) (m_Net n μ i0 ) := by
  intro l E z hl
  refine me_ofK hl (by decide +kernel) rfl (Nat.le_of_ble_eq_true rfl) (fun X C hroom hci K => ?_)
  have ag := me_agr.rf (a := a) (n := n)
  refine me_aload_n C 0 (Or.inr (Or.inl ⟨_, rfl⟩)) dX3_init_0 rfl rfl ?_
  refine me_objI C hroom ml_Net_3 oi_i oi_c dX3_init_1 ⟨by decide, by decide⟩ (Nat.le_of_ble_eq_true rfl) ?_
  refine me_aload_n C 0 (Or.inr (Or.inl ⟨_, rfl⟩)) dX3_init_4 rfl rfl ?_
  refine me_bipush C (v := 64) dX3_init_5 (by decide) ?_
  refine me_newI C hroom (at0 := .int) (k := 2) (ai := 0) (N := 64) (by decide) rfl ac_int (fun _ => rfl) rfl (by decide) (by decide) (by decide) dX3_init_7 ⟨by omega, by omega⟩ (fun a1 g1 C => ?_)
  replace ag := ag.tr g1
  refine me_putR C hci (j := 0) kc_1 (by decide) (me_gm 70 (by decide +kernel) (by decide +kernel)) rfl rfl rfl rfl dX3_init_9 (fun C => ?_)
  refine me_aload_n C 0 (Or.inr (Or.inl ⟨_, rfl⟩)) dX3_init_12 rfl rfl ?_
  refine me_bipush C (v := 64) dX3_init_13 (by decide) ?_
  refine me_newI C hroom (at0 := .boolean) (k := 3) (ai := 1) (N := 64) (by decide) rfl ac_boolean (fun _ => rfl) rfl (by decide) (by decide) (by decide) dX3_init_15 ⟨by omega, by omega⟩ (fun a2 g2 C => ?_)
  replace ag := ag.tr g2
  refine me_putR C hci (j := 1) kc_1 (by decide) (me_gm 73 (by decide +kernel) (by decide +kernel)) rfl rfl rfl rfl dX3_init_17 (fun C => ?_)
  refine me_aload_n C 0 (Or.inr (Or.inl ⟨_, rfl⟩)) dX3_init_20 rfl rfl ?_
  refine me_bipush C (v := 16) dX3_init_21 (by decide) ?_
  refine me_newI C hroom (at0 := .int) (k := 4) (ai := 0) (N := 16) (by decide) rfl ac_int (fun _ => rfl) rfl (by decide) (by decide) (by decide) dX3_init_23 ⟨by omega, by omega⟩ (fun a3 g3 C => ?_)
  replace ag := ag.tr g3
  refine me_putR C hci (j := 2) kc_1 (by decide) (me_gm 76 (by decide +kernel) (by decide +kernel)) rfl rfl rfl rfl dX3_init_25 (fun C => ?_)
  refine me_aload_n C 0 (Or.inr (Or.inl ⟨_, rfl⟩)) dX3_init_28 rfl rfl ?_
  refine me_bipush C (v := 16) dX3_init_29 (by decide) ?_
  refine me_newI C hroom (at0 := .int) (k := 5) (ai := 0) (N := 16) (by decide) rfl ac_int (fun _ => rfl) rfl (by decide) (by decide) (by decide) dX3_init_31 ⟨by omega, by omega⟩ (fun a4 g4 C => ?_)
  replace ag := ag.tr g4
  refine me_putR C hci (j := 3) kc_1 (by decide) (me_gm 77 (by decide +kernel) (by decide +kernel)) rfl rfl rfl rfl dX3_init_33 (fun C => ?_)
  exact me_vretK C K ag dX3_init_36 (by decide) (by decide)

def n_Core (n : me_Nt) : me_Nt := (me_np (me_np (me_np (me_np n 23) 24) 25) 26)
def r_Core (n : me_Nt) (r : me_Rt) (i0 : Nat)  : me_Rt := (me_ru (me_rn (me_ru (me_rn (me_ru (me_rn (me_ru (me_rn r 23 (n 23)) 22 i0 0 (23, (n 23))) 24 ((me_np n 23) 24)) 22 i0 1 (24, ((me_np n 23) 24))) 25 ((me_np (me_np n 23) 24) 25)) 22 i0 2 (25, ((me_np (me_np n 23) 24) 25))) 26 ((me_np (me_np (me_np n 23) 24) 25) 26)) 22 i0 3 (26, ((me_np (me_np (me_np n 23) 24) 25) 26)))
def m_Core (n : me_Nt) (μ : me_M) (i0 : Nat)  : me_M := (me_zc (me_zc (me_zc (me_zc μ 23 (n 23)) 24 ((me_np n 23) 24)) 25 ((me_np (me_np n 23) 24) 25)) 26 ((me_np (me_np (me_np n 23) 24) 25) 26))
set_option maxHeartbeats 4000000 in
set_option maxRecDepth 100000 in
theorem k_Core_init {a : Nat → Nat → Nat} {n : me_Nt} {r : me_Rt} {w : me_w} {μ : me_M} {i0 : Nat}   : ∀ l E z, l.stackTraces = false → me_MetK l yX1_init cX1_init 1 1 20 4 38 E a n r w μ z [me_r 22 i0] (n_Core n) (r_Core n r i0 ) (m_Core n μ i0 ) := by
  intro l E z hl
  refine me_ofK hl (by decide +kernel) rfl (Nat.le_of_ble_eq_true rfl) (fun X C hroom hci K => ?_)
  have ag := me_agr.rf (a := a) (n := n)
  refine me_aload_n C 0 (Or.inr (Or.inl ⟨_, rfl⟩)) dX1_init_0 rfl rfl ?_
  refine me_objI C hroom ml_Core_3 oi_i oi_c dX1_init_1 ⟨by decide, by decide⟩ (Nat.le_of_ble_eq_true rfl) ?_
  refine me_aload_n C 0 (Or.inr (Or.inl ⟨_, rfl⟩)) dX1_init_4 rfl rfl ?_
  refine me_bipush C (v := 8) dX1_init_5 (by decide) ?_
  refine me_newI C hroom (at0 := .int) (k := 23) (ai := 0) (N := 8) (by decide) rfl ac_int (fun _ => rfl) rfl (by decide) (by decide) (by decide) dX1_init_7 ⟨by omega, by omega⟩ (fun a1 g1 C => ?_)
  replace ag := ag.tr g1
  refine me_putR C hci (j := 0) kc_22 (by decide) (me_gm 405 (by decide +kernel) (by decide +kernel)) rfl rfl rfl rfl dX1_init_9 (fun C => ?_)
  refine me_aload_n C 0 (Or.inr (Or.inl ⟨_, rfl⟩)) dX1_init_12 rfl rfl ?_
  refine me_bipush C (v := 6) dX1_init_13 (by decide) ?_
  refine me_newI C hroom (at0 := .int) (k := 24) (ai := 0) (N := 6) (by decide) rfl ac_int (fun _ => rfl) rfl (by decide) (by decide) (by decide) dX1_init_15 ⟨by omega, by omega⟩ (fun a2 g2 C => ?_)
  replace ag := ag.tr g2
  refine me_putR C hci (j := 1) kc_22 (by decide) (me_gm 408 (by decide +kernel) (by decide +kernel)) rfl rfl rfl rfl dX1_init_17 (fun C => ?_)
  refine me_aload_n C 0 (Or.inr (Or.inl ⟨_, rfl⟩)) dX1_init_20 rfl rfl ?_
  refine me_bipush C (v := 12) dX1_init_21 (by decide) ?_
  refine me_newI C hroom (at0 := .char) (k := 25) (ai := 2) (N := 12) (by decide) rfl ac_char (fun _ => rfl) rfl (by decide) (by decide) (by decide) dX1_init_23 ⟨by omega, by omega⟩ (fun a3 g3 C => ?_)
  replace ag := ag.tr g3
  refine me_putR C hci (j := 2) kc_22 (by decide) (me_gm 410 (by decide +kernel) (by decide +kernel)) rfl rfl rfl rfl dX1_init_25 (fun C => ?_)
  refine me_aload_n C 0 (Or.inr (Or.inl ⟨_, rfl⟩)) dX1_init_28 rfl rfl ?_
  refine me_bipush C (v := 12) dX1_init_29 (by decide) ?_
  refine me_newI C hroom (at0 := .int) (k := 26) (ai := 0) (N := 12) (by decide) rfl ac_int (fun _ => rfl) rfl (by decide) (by decide) (by decide) dX1_init_31 ⟨by omega, by omega⟩ (fun a4 g4 C => ?_)
  replace ag := ag.tr g4
  refine me_putR C hci (j := 3) kc_22 (by decide) (me_gm 412 (by decide +kernel) (by decide +kernel)) rfl rfl rfl rfl dX1_init_33 (fun C => ?_)
  exact me_vretK C K ag dX1_init_36 (by decide) (by decide)

def n_Placing (n : me_Nt) : me_Nt := (me_np (me_np n 10) 11)
def r_Placing (n : me_Nt) (r : me_Rt) (i0 : Nat) (j1 : Nat) : me_Rt := (me_ru (me_ru (me_rn (me_ru (me_rn r 10 (n 10)) 9 i0 1 (10, (n 10))) 11 ((me_np n 10) 11)) 9 i0 2 (11, ((me_np n 10) 11))) 9 i0 0 (1, j1))
def m_Placing (n : me_Nt) (μ : me_M) (i0 : Nat)  : me_M := (me_zc (me_zc μ 10 (n 10)) 11 ((me_np n 10) 11))
set_option maxHeartbeats 4000000 in
set_option maxRecDepth 100000 in
theorem k_Placing_init {a : Nat → Nat → Nat} {n : me_Nt} {r : me_Rt} {w : me_w} {μ : me_M} {i0 : Nat} {j1 : Nat}  : ∀ l E z, l.stackTraces = false → me_MetK l yX5_init cX5_init 2 1 20 2 72 E a n r w μ z [me_r 9 i0, me_r 1 j1] (n_Placing n) (r_Placing n r i0 j1) (m_Placing n μ i0 ) := by
  intro l E z hl
  refine me_ofK hl (by decide +kernel) rfl (Nat.le_of_ble_eq_true rfl) (fun X C hroom hci K => ?_)
  have ag := me_agr.rf (a := a) (n := n)
  refine me_aload_n C 0 (Or.inr (Or.inl ⟨_, rfl⟩)) dX5_init_0 rfl rfl ?_
  refine me_objI C hroom ml_Placing_3 oi_i oi_c dX5_init_1 ⟨by decide, by decide⟩ (Nat.le_of_ble_eq_true rfl) ?_
  refine me_aload_n C 0 (Or.inr (Or.inl ⟨_, rfl⟩)) dX5_init_4 rfl rfl ?_
  refine me_bipush C (v := 8) dX5_init_5 (by decide) ?_
  refine me_newI C hroom (at0 := .int) (k := 10) (ai := 0) (N := 8) (by decide) rfl ac_int (fun _ => rfl) rfl (by decide) (by decide) (by decide) dX5_init_7 ⟨by omega, by omega⟩ (fun a1 g1 C => ?_)
  replace ag := ag.tr g1
  refine me_putR C hci (j := 1) kc_9 (by decide) (me_gm 212 (by decide +kernel) (by decide +kernel)) rfl rfl rfl rfl dX5_init_9 (fun C => ?_)
  refine me_aload_n C 0 (Or.inr (Or.inl ⟨_, rfl⟩)) dX5_init_12 rfl rfl ?_
  refine me_bipush C (v := 64) dX5_init_13 (by decide) ?_
  refine me_newI C hroom (at0 := .int) (k := 11) (ai := 0) (N := 64) (by decide) rfl ac_int (fun _ => rfl) rfl (by decide) (by decide) (by decide) dX5_init_15 ⟨by omega, by omega⟩ (fun a2 g2 C => ?_)
  replace ag := ag.tr g2
  refine me_putR C hci (j := 2) kc_9 (by decide) (me_gm 213 (by decide +kernel) (by decide +kernel)) rfl rfl rfl rfl dX5_init_17 (fun C => ?_)
  refine me_aload_n C 0 (Or.inr (Or.inl ⟨_, rfl⟩)) dX5_init_20 rfl rfl ?_
  refine me_aload_n C 1 (Or.inr (Or.inl ⟨_, rfl⟩)) dX5_init_21 rfl rfl ?_
  refine me_putR C hci (j := 0) kc_9 (by decide) (me_gm 211 (by decide +kernel) (by decide +kernel)) rfl rfl rfl rfl dX5_init_22 (fun C => ?_)
  exact me_vretK C K ag dX5_init_25 (by decide) (by decide)

def n_Ways (n : me_Nt) : me_Nt := (me_np (me_np n 28) 29)
def r_Ways (n : me_Nt) (r : me_Rt) (i0 : Nat) (j1 : Nat) (j2 : Nat) : me_Rt := (me_ru (me_ru (me_ru (me_rn (me_ru (me_rn r 28 (n 28)) 27 i0 2 (28, (n 28))) 29 ((me_np n 28) 29)) 27 i0 3 (29, ((me_np n 28) 29))) 27 i0 0 (1, j1)) 27 i0 1 (12, j2))
def m_Ways (n : me_Nt) (μ : me_M) (i0 : Nat)  : me_M := (me_up (me_zc (me_zc μ 28 (n 28)) 29 ((me_np n 28) 29)) 27 i0 4 120)
set_option maxHeartbeats 4000000 in
set_option maxRecDepth 100000 in
theorem k_Ways_init {a : Nat → Nat → Nat} {n : me_Nt} {r : me_Rt} {w : me_w} {μ : me_M} {i0 : Nat} {j1 : Nat} {j2 : Nat}  : ∀ l E z, l.stackTraces = false → me_MetK l yX9_init cX9_init 3 1 20 2 128 E a n r w μ z [me_r 27 i0, me_r 1 j1, me_r 12 j2] (n_Ways n) (r_Ways n r i0 j1 j2) (m_Ways n μ i0 ) := by
  intro l E z hl
  refine me_ofK hl (by decide +kernel) rfl (Nat.le_of_ble_eq_true rfl) (fun X C hroom hci K => ?_)
  have ag := me_agr.rf (a := a) (n := n)
  refine me_aload_n C 0 (Or.inr (Or.inl ⟨_, rfl⟩)) dX9_init_0 rfl rfl ?_
  refine me_objI C hroom ml_Ways_3 oi_i oi_c dX9_init_1 ⟨by decide, by decide⟩ (Nat.le_of_ble_eq_true rfl) ?_
  refine me_aload_n C 0 (Or.inr (Or.inl ⟨_, rfl⟩)) dX9_init_4 rfl rfl ?_
  refine me_bipush C (v := 64) dX9_init_5 (by decide) ?_
  refine me_newI C hroom (at0 := .int) (k := 28) (ai := 0) (N := 64) (by decide) rfl ac_int (fun _ => rfl) rfl (by decide) (by decide) (by decide) dX9_init_7 ⟨by omega, by omega⟩ (fun a1 g1 C => ?_)
  replace ag := ag.tr g1
  refine me_putR C hci (j := 2) kc_27 (by decide) (me_gm 238 (by decide +kernel) (by decide +kernel)) rfl rfl rfl rfl dX9_init_9 (fun C => ?_)
  refine me_aload_n C 0 (Or.inr (Or.inl ⟨_, rfl⟩)) dX9_init_12 rfl rfl ?_
  refine me_bipush C (v := 64) dX9_init_13 (by decide) ?_
  refine me_newI C hroom (at0 := .boolean) (k := 29) (ai := 1) (N := 64) (by decide) rfl ac_boolean (fun _ => rfl) rfl (by decide) (by decide) (by decide) dX9_init_15 ⟨by omega, by omega⟩ (fun a2 g2 C => ?_)
  replace ag := ag.tr g2
  refine me_putR C hci (j := 3) kc_27 (by decide) (me_gm 239 (by decide +kernel) (by decide +kernel)) rfl rfl rfl rfl dX9_init_17 (fun C => ?_)
  refine me_aload_n C 0 (Or.inr (Or.inl ⟨_, rfl⟩)) dX9_init_20 rfl rfl ?_
  refine me_bipush C (v := 120) dX9_init_21 (by decide) ?_
  refine me_puti C 4 fw_Ways_19 dX9_init_23 rfl (by decide +kernel) rfl ?_
  refine me_aload_n C 0 (Or.inr (Or.inl ⟨_, rfl⟩)) dX9_init_26 rfl rfl ?_
  refine me_aload_n C 1 (Or.inr (Or.inl ⟨_, rfl⟩)) dX9_init_27 rfl rfl ?_
  refine me_putR C hci (j := 0) kc_27 (by decide) (me_gm 235 (by decide +kernel) (by decide +kernel)) rfl rfl rfl rfl dX9_init_28 (fun C => ?_)
  refine me_aload_n C 0 (Or.inr (Or.inl ⟨_, rfl⟩)) dX9_init_31 rfl rfl ?_
  refine me_aload_n C 2 (Or.inr (Or.inl ⟨_, rfl⟩)) dX9_init_32 rfl rfl ?_
  refine me_putR C hci (j := 1) kc_27 (by decide) (me_gm 237 (by decide +kernel) (by decide +kernel)) rfl rfl rfl rfl dX9_init_33 (fun C => ?_)
  exact me_vretK C K ag dX9_init_36 (by decide) (by decide)

def n_Mover (n : me_Nt) : me_Nt := n
def r_Mover (n : me_Nt) (r : me_Rt) (i0 : Nat) (j1 : Nat) (j2 : Nat) (j3 : Nat) (q1 : Nat) (q2 : Nat) : me_Rt := (me_ru (me_ru (me_ru (me_ru (me_ru r 30 i0 0 (1, q1)) 30 i0 1 (27, j1)) 30 i0 2 (12, q2)) 30 i0 3 (6, j2)) 30 i0 4 (21, j3))
def m_Mover (n : me_Nt) (μ : me_M) (i0 : Nat)  : me_M := μ
set_option maxHeartbeats 4000000 in
set_option maxRecDepth 100000 in
theorem k_Mover_init {a : Nat → Nat → Nat} {n : me_Nt} {r : me_Rt} {w : me_w} {μ : me_M} {i0 : Nat} {j1 : Nat} {j2 : Nat} {j3 : Nat} {q1 : Nat} {q2 : Nat}  (h1 : r 27 j1 0 = some (1, q1)) (h2 : r 27 j1 1 = some (12, q2)) : ∀ l E z, l.stackTraces = false → me_MetK l yX2_init cX2_init 4 1 20 0 0 E a n r w μ z [me_r 30 i0, me_r 27 j1, me_r 6 j2, me_r 21 j3] (n_Mover n) (r_Mover n r i0 j1 j2 j3 q1 q2) (m_Mover n μ i0 ) := by
  intro l E z hl
  refine me_ofK hl (by decide +kernel) rfl (Nat.le_of_ble_eq_true rfl) (fun X C hroom hci K => ?_)
  have ag := me_agr.rf (a := a) (n := n)
  refine me_aload_n C 0 (Or.inr (Or.inl ⟨_, rfl⟩)) dX2_init_0 rfl rfl ?_
  refine me_objI C hroom ml_Mover_3 oi_i oi_c dX2_init_1 ⟨by decide, by decide⟩ (Nat.le_of_ble_eq_true rfl) ?_
  refine me_aload_n C 0 (Or.inr (Or.inl ⟨_, rfl⟩)) dX2_init_4 rfl rfl ?_
  refine me_aload_n C 1 (Or.inr (Or.inl ⟨_, rfl⟩)) dX2_init_5 rfl rfl ?_
  refine me_getq C 0 fg_Mover_9 dX2_init_6 rfl h1 ?_
  refine me_putR C hci (j := 0) kc_30 (by decide) (me_gm 259 (by decide +kernel) (by decide +kernel)) rfl rfl rfl rfl dX2_init_9 (fun C => ?_)
  refine me_aload_n C 0 (Or.inr (Or.inl ⟨_, rfl⟩)) dX2_init_12 rfl rfl ?_
  refine me_aload_n C 1 (Or.inr (Or.inl ⟨_, rfl⟩)) dX2_init_13 rfl rfl ?_
  refine me_putR C hci (j := 1) kc_30 (by decide) (me_gm 260 (by decide +kernel) (by decide +kernel)) rfl rfl rfl rfl dX2_init_14 (fun C => ?_)
  refine me_aload_n C 0 (Or.inr (Or.inl ⟨_, rfl⟩)) dX2_init_17 rfl rfl ?_
  refine me_aload_n C 1 (Or.inr (Or.inl ⟨_, rfl⟩)) dX2_init_18 rfl rfl ?_
  refine me_getq C 1 fg_Mover_22 dX2_init_19 rfl h2 ?_
  refine me_putR C hci (j := 2) kc_30 (by decide) (me_gm 261 (by decide +kernel) (by decide +kernel)) rfl rfl rfl rfl dX2_init_22 (fun C => ?_)
  refine me_aload_n C 0 (Or.inr (Or.inl ⟨_, rfl⟩)) dX2_init_25 rfl rfl ?_
  refine me_aload_n C 2 (Or.inr (Or.inl ⟨_, rfl⟩)) dX2_init_26 rfl rfl ?_
  refine me_putR C hci (j := 3) kc_30 (by decide) (me_gm 262 (by decide +kernel) (by decide +kernel)) rfl rfl rfl rfl dX2_init_27 (fun C => ?_)
  refine me_aload_n C 0 (Or.inr (Or.inl ⟨_, rfl⟩)) dX2_init_30 rfl rfl ?_
  refine me_aload_n C 3 (Or.inr (Or.inl ⟨_, rfl⟩)) dX2_init_31 rfl rfl ?_
  refine me_putR C hci (j := 4) kc_30 (by decide) (me_gm 263 (by decide +kernel) (by decide +kernel)) rfl rfl rfl rfl dX2_init_32 (fun C => ?_)
  exact me_vretK C K ag dX2_init_35 (by decide) (by decide)

def n_Works (n : me_Nt) : me_Nt := n
def r_Works (n : me_Nt) (r : me_Rt) (i0 : Nat) (j1 : Nat) (j2 : Nat) (j3 : Nat) : me_Rt := (me_ru (me_ru (me_ru r 31 i0 0 (1, j1)) 31 i0 1 (6, j2)) 31 i0 2 (21, j3))
def m_Works (n : me_Nt) (μ : me_M) (i0 : Nat)  : me_M := μ
set_option maxHeartbeats 4000000 in
set_option maxRecDepth 100000 in
theorem k_Works_init {a : Nat → Nat → Nat} {n : me_Nt} {r : me_Rt} {w : me_w} {μ : me_M} {i0 : Nat} {j1 : Nat} {j2 : Nat} {j3 : Nat}  : ∀ l E z, l.stackTraces = false → me_MetK l yX10_init cX10_init 4 1 20 0 0 E a n r w μ z [me_r 31 i0, me_r 1 j1, me_r 6 j2, me_r 21 j3] (n_Works n) (r_Works n r i0 j1 j2 j3) (m_Works n μ i0 ) := by
  intro l E z hl
  refine me_ofK hl (by decide +kernel) rfl (Nat.le_of_ble_eq_true rfl) (fun X C hroom hci K => ?_)
  have ag := me_agr.rf (a := a) (n := n)
  refine me_aload_n C 0 (Or.inr (Or.inl ⟨_, rfl⟩)) dX10_init_0 rfl rfl ?_
  refine me_objI C hroom ml_Works_1 oi_i oi_c dX10_init_1 ⟨by decide, by decide⟩ (Nat.le_of_ble_eq_true rfl) ?_
  refine me_aload_n C 0 (Or.inr (Or.inl ⟨_, rfl⟩)) dX10_init_4 rfl rfl ?_
  refine me_aload_n C 1 (Or.inr (Or.inl ⟨_, rfl⟩)) dX10_init_5 rfl rfl ?_
  refine me_putR C hci (j := 0) kc_31 (by decide) (me_gm 292 (by decide +kernel) (by decide +kernel)) rfl rfl rfl rfl dX10_init_6 (fun C => ?_)
  refine me_aload_n C 0 (Or.inr (Or.inl ⟨_, rfl⟩)) dX10_init_9 rfl rfl ?_
  refine me_aload_n C 2 (Or.inr (Or.inl ⟨_, rfl⟩)) dX10_init_10 rfl rfl ?_
  refine me_putR C hci (j := 1) kc_31 (by decide) (me_gm 293 (by decide +kernel) (by decide +kernel)) rfl rfl rfl rfl dX10_init_11 (fun C => ?_)
  refine me_aload_n C 0 (Or.inr (Or.inl ⟨_, rfl⟩)) dX10_init_14 rfl rfl ?_
  refine me_aload_n C 3 (Or.inr (Or.inl ⟨_, rfl⟩)) dX10_init_15 rfl rfl ?_
  refine me_putR C hci (j := 2) kc_31 (by decide) (me_gm 294 (by decide +kernel) (by decide +kernel)) rfl rfl rfl rfl dX10_init_16 (fun C => ?_)
  exact me_vretK C K ag dX10_init_19 (by decide) (by decide)

def n_Audit (n : me_Nt) : me_Nt := (me_np (me_np (me_np n 33) 34) 35)
def r_Audit (n : me_Nt) (r : me_Rt) (i0 : Nat) (j1 : Nat) (j2 : Nat) : me_Rt := (me_ru (me_ru (me_ru (me_rn (me_ru (me_rn (me_ru (me_rn r 33 (n 33)) 32 i0 2 (33, (n 33))) 34 ((me_np n 33) 34)) 32 i0 3 (34, ((me_np n 33) 34))) 35 ((me_np (me_np n 33) 34) 35)) 32 i0 4 (35, ((me_np (me_np n 33) 34) 35))) 32 i0 0 (1, j1)) 32 i0 1 (12, j2))
def m_Audit (n : me_Nt) (μ : me_M) (i0 : Nat)  : me_M := (me_zc (me_zc (me_zc μ 33 (n 33)) 34 ((me_np n 33) 34)) 35 ((me_np (me_np n 33) 34) 35))
set_option maxHeartbeats 4000000 in
set_option maxRecDepth 100000 in
theorem k_Audit_init {a : Nat → Nat → Nat} {n : me_Nt} {r : me_Rt} {w : me_w} {μ : me_M} {i0 : Nat} {j1 : Nat} {j2 : Nat}  : ∀ l E z, l.stackTraces = false → me_MetK l yX0_init cX0_init 3 1 20 3 15 E a n r w μ z [me_r 32 i0, me_r 1 j1, me_r 12 j2] (n_Audit n) (r_Audit n r i0 j1 j2) (m_Audit n μ i0 ) := by
  intro l E z hl
  refine me_ofK hl (by decide +kernel) rfl (Nat.le_of_ble_eq_true rfl) (fun X C hroom hci K => ?_)
  have ag := me_agr.rf (a := a) (n := n)
  refine me_aload_n C 0 (Or.inr (Or.inl ⟨_, rfl⟩)) dX0_init_0 rfl rfl ?_
  refine me_objI C hroom ml_Audit_3 oi_i oi_c dX0_init_1 ⟨by decide, by decide⟩ (Nat.le_of_ble_eq_true rfl) ?_
  refine me_aload_n C 0 (Or.inr (Or.inl ⟨_, rfl⟩)) dX0_init_4 rfl rfl ?_
  refine me_iconst C (v := 5) dX0_init_5 (by decide) ?_
  refine me_newI C hroom (at0 := .int) (k := 33) (ai := 0) (N := 5) (by decide) rfl ac_int (fun _ => rfl) rfl (by decide) (by decide) (by decide) dX0_init_6 ⟨by omega, by omega⟩ (fun a1 g1 C => ?_)
  replace ag := ag.tr g1
  refine me_putR C hci (j := 2) kc_32 (by decide) (me_gm 310 (by decide +kernel) (by decide +kernel)) rfl rfl rfl rfl dX0_init_8 (fun C => ?_)
  refine me_aload_n C 0 (Or.inr (Or.inl ⟨_, rfl⟩)) dX0_init_11 rfl rfl ?_
  refine me_iconst C (v := 5) dX0_init_12 (by decide) ?_
  refine me_newI C hroom (at0 := .int) (k := 34) (ai := 0) (N := 5) (by decide) rfl ac_int (fun _ => rfl) rfl (by decide) (by decide) (by decide) dX0_init_13 ⟨by omega, by omega⟩ (fun a2 g2 C => ?_)
  replace ag := ag.tr g2
  refine me_putR C hci (j := 3) kc_32 (by decide) (me_gm 311 (by decide +kernel) (by decide +kernel)) rfl rfl rfl rfl dX0_init_15 (fun C => ?_)
  refine me_aload_n C 0 (Or.inr (Or.inl ⟨_, rfl⟩)) dX0_init_18 rfl rfl ?_
  refine me_iconst C (v := 5) dX0_init_19 (by decide) ?_
  refine me_newI C hroom (at0 := .int) (k := 35) (ai := 0) (N := 5) (by decide) rfl ac_int (fun _ => rfl) rfl (by decide) (by decide) (by decide) dX0_init_20 ⟨by omega, by omega⟩ (fun a3 g3 C => ?_)
  replace ag := ag.tr g3
  refine me_putR C hci (j := 4) kc_32 (by decide) (me_gm 312 (by decide +kernel) (by decide +kernel)) rfl rfl rfl rfl dX0_init_22 (fun C => ?_)
  refine me_aload_n C 0 (Or.inr (Or.inl ⟨_, rfl⟩)) dX0_init_25 rfl rfl ?_
  refine me_aload_n C 1 (Or.inr (Or.inl ⟨_, rfl⟩)) dX0_init_26 rfl rfl ?_
  refine me_putR C hci (j := 0) kc_32 (by decide) (me_gm 308 (by decide +kernel) (by decide +kernel)) rfl rfl rfl rfl dX0_init_27 (fun C => ?_)
  refine me_aload_n C 0 (Or.inr (Or.inl ⟨_, rfl⟩)) dX0_init_30 rfl rfl ?_
  refine me_aload_n C 2 (Or.inr (Or.inl ⟨_, rfl⟩)) dX0_init_31 rfl rfl ?_
  refine me_putR C hci (j := 1) kc_32 (by decide) (me_gm 309 (by decide +kernel) (by decide +kernel)) rfl rfl rfl rfl dX0_init_32 (fun C => ?_)
  exact me_vretK C K ag dX0_init_35 (by decide) (by decide)
