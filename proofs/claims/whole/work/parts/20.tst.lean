theorem dX8_reset_0 : decode cX8_reset 0 = .ok (.aload_n 0, 1) := by decide +kernel
theorem dX8_reset_1 : decode cX8_reset 1 = .ok (.iconst 0, 1) := by decide +kernel
theorem dX8_reset_2 : decode cX8_reset 2 = .ok (.putfield 21, 3) := by decide +kernel
theorem dX8_reset_5 : decode cX8_reset 5 = .ok (.aload_n 0, 1) := by decide +kernel
theorem dX8_reset_6 : decode cX8_reset 6 = .ok (.iconst (-1), 1) := by decide +kernel
theorem dX8_reset_7 : decode cX8_reset 7 = .ok (.putfield 25, 3) := by decide +kernel
theorem dX8_reset_10 : decode cX8_reset 10 = .ok (.aload_n 0, 1) := by decide +kernel
theorem dX8_reset_11 : decode cX8_reset 11 = .ok (.iconst (-1), 1) := by decide +kernel
theorem dX8_reset_12 : decode cX8_reset 12 = .ok (.putfield 28, 3) := by decide +kernel
theorem dX8_reset_15 : decode cX8_reset 15 = .ok (.aload_n 0, 1) := by decide +kernel
theorem dX8_reset_16 : decode cX8_reset 16 = .ok (.iconst 0, 1) := by decide +kernel
theorem dX8_reset_17 : decode cX8_reset 17 = .ok (.putfield 31, 3) := by decide +kernel
theorem dX8_reset_20 : decode cX8_reset 20 = .ok (.return_, 1) := by decide +kernel
theorem dX8_hasPlace_0 : decode cX8_hasPlace 0 = .ok (.aload_n 0, 1) := by decide +kernel
theorem dX8_hasPlace_1 : decode cX8_hasPlace 1 = .ok (.getfield 21, 3) := by decide +kernel
theorem dX8_hasPlace_4 : decode cX8_hasPlace 4 = .ok (.aload_n 0, 1) := by decide +kernel
theorem dX8_hasPlace_5 : decode cX8_hasPlace 5 = .ok (.getfield 34, 3) := by decide +kernel
theorem dX8_hasPlace_8 : decode cX8_hasPlace 8 = .ok (.if_icmp .ge 15, 3) := by decide +kernel
theorem dX8_hasPlace_11 : decode cX8_hasPlace 11 = .ok (.aload_n 0, 1) := by decide +kernel
theorem dX8_hasPlace_12 : decode cX8_hasPlace 12 = .ok (.getfield 21, 3) := by decide +kernel
theorem dX8_hasPlace_15 : decode cX8_hasPlace 15 = .ok (.iconst 4, 1) := by decide +kernel
theorem dX8_hasPlace_16 : decode cX8_hasPlace 16 = .ok (.if_icmp .ge 7, 3) := by decide +kernel
theorem dX8_hasPlace_19 : decode cX8_hasPlace 19 = .ok (.iconst 1, 1) := by decide +kernel
theorem dX8_hasPlace_20 : decode cX8_hasPlace 20 = .ok (.goto 4, 3) := by decide +kernel
theorem dX8_hasPlace_23 : decode cX8_hasPlace 23 = .ok (.iconst 0, 1) := by decide +kernel
theorem dX8_hasPlace_24 : decode cX8_hasPlace 24 = .ok (.ireturn, 1) := by decide +kernel
theorem dX8_canBeLookedAt_0 : decode cX8_canBeLookedAt 0 = .ok (.aload_n 0, 1) := by decide +kernel
theorem dX8_canBeLookedAt_1 : decode cX8_canBeLookedAt 1 = .ok (.getfield 21, 3) := by decide +kernel
theorem dX8_canBeLookedAt_4 : decode cX8_canBeLookedAt 4 = .ok (.ifCond .le 25, 3) := by decide +kernel
theorem dX8_canBeLookedAt_7 : decode cX8_canBeLookedAt 7 = .ok (.aload_n 0, 1) := by decide +kernel
theorem dX8_canBeLookedAt_8 : decode cX8_canBeLookedAt 8 = .ok (.getfield 31, 3) := by decide +kernel
theorem dX8_canBeLookedAt_11 : decode cX8_canBeLookedAt 11 = .ok (.iload_n 1, 1) := by decide +kernel
theorem dX8_canBeLookedAt_12 : decode cX8_canBeLookedAt 12 = .ok (.if_icmp .eq 17, 3) := by decide +kernel
theorem dX8_canBeLookedAt_15 : decode cX8_canBeLookedAt 15 = .ok (.aload_n 0, 1) := by decide +kernel
theorem dX8_canBeLookedAt_16 : decode cX8_canBeLookedAt 16 = .ok (.getfield 18, 3) := by decide +kernel
theorem dX8_canBeLookedAt_19 : decode cX8_canBeLookedAt 19 = .ok (.iconst 0, 1) := by decide +kernel
theorem dX8_canBeLookedAt_20 : decode cX8_canBeLookedAt 20 = .ok (.iaload, 1) := by decide +kernel
theorem dX8_canBeLookedAt_21 : decode cX8_canBeLookedAt 21 = .ok (.iload_n 1, 1) := by decide +kernel
theorem dX8_canBeLookedAt_22 : decode cX8_canBeLookedAt 22 = .ok (.if_icmp .eq 7, 3) := by decide +kernel
theorem dX8_canBeLookedAt_25 : decode cX8_canBeLookedAt 25 = .ok (.iconst 1, 1) := by decide +kernel
theorem dX8_canBeLookedAt_26 : decode cX8_canBeLookedAt 26 = .ok (.goto 4, 3) := by decide +kernel
theorem dX8_canBeLookedAt_29 : decode cX8_canBeLookedAt 29 = .ok (.iconst 0, 1) := by decide +kernel
theorem dX8_canBeLookedAt_30 : decode cX8_canBeLookedAt 30 = .ok (.ireturn, 1) := by decide +kernel
theorem dX8_addPiece_0 : decode cX8_addPiece 0 = .ok (.aload_n 0, 1) := by decide +kernel
theorem dX8_addPiece_1 : decode cX8_addPiece 1 = .ok (.getfield 21, 3) := by decide +kernel
theorem dX8_addPiece_4 : decode cX8_addPiece 4 = .ok (.iconst 4, 1) := by decide +kernel
theorem dX8_addPiece_5 : decode cX8_addPiece 5 = .ok (.if_icmp .ge 43, 3) := by decide +kernel
theorem dX8_addPiece_8 : decode cX8_addPiece 8 = .ok (.aload_n 0, 1) := by decide +kernel
theorem dX8_addPiece_9 : decode cX8_addPiece 9 = .ok (.getfield 9, 3) := by decide +kernel
theorem dX8_addPiece_12 : decode cX8_addPiece 12 = .ok (.aload_n 0, 1) := by decide +kernel
theorem dX8_addPiece_13 : decode cX8_addPiece 13 = .ok (.getfield 21, 3) := by decide +kernel
theorem dX8_addPiece_16 : decode cX8_addPiece 16 = .ok (.iload_n 1, 1) := by decide +kernel
theorem dX8_addPiece_17 : decode cX8_addPiece 17 = .ok (.iastore, 1) := by decide +kernel
theorem dX8_addPiece_18 : decode cX8_addPiece 18 = .ok (.aload_n 0, 1) := by decide +kernel
theorem dX8_addPiece_19 : decode cX8_addPiece 19 = .ok (.getfield 15, 3) := by decide +kernel
theorem dX8_addPiece_22 : decode cX8_addPiece 22 = .ok (.aload_n 0, 1) := by decide +kernel
theorem dX8_addPiece_23 : decode cX8_addPiece 23 = .ok (.getfield 21, 3) := by decide +kernel
theorem dX8_addPiece_26 : decode cX8_addPiece 26 = .ok (.iload_n 2, 1) := by decide +kernel
theorem dX8_addPiece_27 : decode cX8_addPiece 27 = .ok (.iastore, 1) := by decide +kernel
theorem dX8_addPiece_28 : decode cX8_addPiece 28 = .ok (.aload_n 0, 1) := by decide +kernel
theorem dX8_addPiece_29 : decode cX8_addPiece 29 = .ok (.getfield 18, 3) := by decide +kernel
theorem dX8_addPiece_32 : decode cX8_addPiece 32 = .ok (.aload_n 0, 1) := by decide +kernel
theorem dX8_addPiece_33 : decode cX8_addPiece 33 = .ok (.getfield 21, 3) := by decide +kernel
theorem dX8_addPiece_36 : decode cX8_addPiece 36 = .ok (.iload_n 3, 1) := by decide +kernel
theorem dX8_addPiece_37 : decode cX8_addPiece 37 = .ok (.iastore, 1) := by decide +kernel
theorem dX8_addPiece_38 : decode cX8_addPiece 38 = .ok (.aload_n 0, 1) := by decide +kernel
theorem dX8_addPiece_39 : decode cX8_addPiece 39 = .ok (.dup, 1) := by decide +kernel
theorem dX8_addPiece_40 : decode cX8_addPiece 40 = .ok (.getfield 21, 3) := by decide +kernel
theorem dX8_addPiece_43 : decode cX8_addPiece 43 = .ok (.iconst 1, 1) := by decide +kernel
theorem dX8_addPiece_44 : decode cX8_addPiece 44 = .ok (.iadd, 1) := by decide +kernel
theorem dX8_addPiece_45 : decode cX8_addPiece 45 = .ok (.putfield 21, 3) := by decide +kernel
theorem dX8_addPiece_48 : decode cX8_addPiece 48 = .ok (.return_, 1) := by decide +kernel
theorem dX8_copyPiece_0 : decode cX8_copyPiece 0 = .ok (.aload_n 0, 1) := by decide +kernel
theorem dX8_copyPiece_1 : decode cX8_copyPiece 1 = .ok (.getfield 9, 3) := by decide +kernel
theorem dX8_copyPiece_4 : decode cX8_copyPiece 4 = .ok (.iload_n 2, 1) := by decide +kernel
theorem dX8_copyPiece_5 : decode cX8_copyPiece 5 = .ok (.aload_n 0, 1) := by decide +kernel
theorem dX8_copyPiece_6 : decode cX8_copyPiece 6 = .ok (.getfield 9, 3) := by decide +kernel
theorem dX8_copyPiece_9 : decode cX8_copyPiece 9 = .ok (.iload_n 1, 1) := by decide +kernel
theorem dX8_copyPiece_10 : decode cX8_copyPiece 10 = .ok (.iaload, 1) := by decide +kernel
theorem dX8_copyPiece_11 : decode cX8_copyPiece 11 = .ok (.iastore, 1) := by decide +kernel
theorem dX8_copyPiece_12 : decode cX8_copyPiece 12 = .ok (.aload_n 0, 1) := by decide +kernel
theorem dX8_copyPiece_13 : decode cX8_copyPiece 13 = .ok (.getfield 15, 3) := by decide +kernel
theorem dX8_copyPiece_16 : decode cX8_copyPiece 16 = .ok (.iload_n 2, 1) := by decide +kernel
theorem dX8_copyPiece_17 : decode cX8_copyPiece 17 = .ok (.aload_n 0, 1) := by decide +kernel
theorem dX8_copyPiece_18 : decode cX8_copyPiece 18 = .ok (.getfield 15, 3) := by decide +kernel
theorem dX8_copyPiece_21 : decode cX8_copyPiece 21 = .ok (.iload_n 1, 1) := by decide +kernel
theorem dX8_copyPiece_22 : decode cX8_copyPiece 22 = .ok (.iaload, 1) := by decide +kernel
theorem dX8_copyPiece_23 : decode cX8_copyPiece 23 = .ok (.iastore, 1) := by decide +kernel
theorem dX8_copyPiece_24 : decode cX8_copyPiece 24 = .ok (.aload_n 0, 1) := by decide +kernel
theorem dX8_copyPiece_25 : decode cX8_copyPiece 25 = .ok (.getfield 18, 3) := by decide +kernel
theorem dX8_copyPiece_28 : decode cX8_copyPiece 28 = .ok (.iload_n 2, 1) := by decide +kernel
theorem dX8_copyPiece_29 : decode cX8_copyPiece 29 = .ok (.aload_n 0, 1) := by decide +kernel
theorem dX8_copyPiece_30 : decode cX8_copyPiece 30 = .ok (.getfield 18, 3) := by decide +kernel
theorem dX8_copyPiece_33 : decode cX8_copyPiece 33 = .ok (.iload_n 1, 1) := by decide +kernel
theorem dX8_copyPiece_34 : decode cX8_copyPiece 34 = .ok (.iaload, 1) := by decide +kernel
theorem dX8_copyPiece_35 : decode cX8_copyPiece 35 = .ok (.iastore, 1) := by decide +kernel
theorem dX8_copyPiece_36 : decode cX8_copyPiece 36 = .ok (.return_, 1) := by decide +kernel
theorem dX8_giveFirst_0 : decode cX8_giveFirst 0 = .ok (.aload_n 0, 1) := by decide +kernel
theorem dX8_giveFirst_1 : decode cX8_giveFirst 1 = .ok (.iload_n 2, 1) := by decide +kernel
theorem dX8_giveFirst_2 : decode cX8_giveFirst 2 = .ok (.putfield 31, 3) := by decide +kernel
theorem dX8_giveFirst_5 : decode cX8_giveFirst 5 = .ok (.iload_n 1, 1) := by decide +kernel
theorem dX8_giveFirst_6 : decode cX8_giveFirst 6 = .ok (.ifCond .eq 8, 3) := by decide +kernel
theorem dX8_giveFirst_9 : decode cX8_giveFirst 9 = .ok (.aload_n 0, 1) := by decide +kernel
theorem dX8_giveFirst_10 : decode cX8_giveFirst 10 = .ok (.iconst (-1), 1) := by decide +kernel
theorem dX8_giveFirst_11 : decode cX8_giveFirst 11 = .ok (.putfield 25, 3) := by decide +kernel
theorem dX8_giveFirst_14 : decode cX8_giveFirst 14 = .ok (.iconst 1, 1) := by decide +kernel
theorem dX8_giveFirst_15 : decode cX8_giveFirst 15 = .ok (.istore_n 3, 1) := by decide +kernel
theorem dX8_giveFirst_16 : decode cX8_giveFirst 16 = .ok (.iload_n 3, 1) := by decide +kernel
theorem dX8_giveFirst_17 : decode cX8_giveFirst 17 = .ok (.aload_n 0, 1) := by decide +kernel
theorem dX8_giveFirst_18 : decode cX8_giveFirst 18 = .ok (.getfield 21, 3) := by decide +kernel
theorem dX8_giveFirst_21 : decode cX8_giveFirst 21 = .ok (.if_icmp .ge 17, 3) := by decide +kernel
theorem dX8_giveFirst_24 : decode cX8_giveFirst 24 = .ok (.aload_n 0, 1) := by decide +kernel
theorem dX8_giveFirst_25 : decode cX8_giveFirst 25 = .ok (.iload_n 3, 1) := by decide +kernel
theorem dX8_giveFirst_26 : decode cX8_giveFirst 26 = .ok (.iload_n 3, 1) := by decide +kernel
theorem dX8_giveFirst_27 : decode cX8_giveFirst 27 = .ok (.iconst 1, 1) := by decide +kernel
theorem dX8_giveFirst_28 : decode cX8_giveFirst 28 = .ok (.isub, 1) := by decide +kernel
theorem dX8_giveFirst_29 : decode cX8_giveFirst 29 = .ok (.invokevirtual 37, 3) := by decide +kernel
theorem dX8_giveFirst_32 : decode cX8_giveFirst 32 = .ok (.iinc 3 1, 3) := by decide +kernel
theorem dX8_giveFirst_35 : decode cX8_giveFirst 35 = .ok (.goto (-19), 3) := by decide +kernel
theorem dX8_giveFirst_38 : decode cX8_giveFirst 38 = .ok (.aload_n 0, 1) := by decide +kernel
theorem dX8_giveFirst_39 : decode cX8_giveFirst 39 = .ok (.iconst 0, 1) := by decide +kernel
theorem dX8_giveFirst_40 : decode cX8_giveFirst 40 = .ok (.aload_n 0, 1) := by decide +kernel
theorem dX8_giveFirst_41 : decode cX8_giveFirst 41 = .ok (.getfield 21, 3) := by decide +kernel
theorem dX8_giveFirst_44 : decode cX8_giveFirst 44 = .ok (.iconst 1, 1) := by decide +kernel
theorem dX8_giveFirst_45 : decode cX8_giveFirst 45 = .ok (.isub, 1) := by decide +kernel
theorem dX8_giveFirst_46 : decode cX8_giveFirst 46 = .ok (.invokestatic 41, 3) := by decide +kernel
theorem dX8_giveFirst_49 : decode cX8_giveFirst 49 = .ok (.putfield 21, 3) := by decide +kernel
theorem dX8_giveFirst_52 : decode cX8_giveFirst 52 = .ok (.return_, 1) := by decide +kernel
theorem dX8_dropPacket_0 : decode cX8_dropPacket 0 = .ok (.iconst 0, 1) := by decide +kernel
theorem dX8_dropPacket_1 : decode cX8_dropPacket 1 = .ok (.istore_n 2, 1) := by decide +kernel
theorem dX8_dropPacket_2 : decode cX8_dropPacket 2 = .ok (.iconst 0, 1) := by decide +kernel
theorem dX8_dropPacket_3 : decode cX8_dropPacket 3 = .ok (.istore_n 3, 1) := by decide +kernel
theorem dX8_dropPacket_4 : decode cX8_dropPacket 4 = .ok (.iload_n 3, 1) := by decide +kernel
theorem dX8_dropPacket_5 : decode cX8_dropPacket 5 = .ok (.aload_n 0, 1) := by decide +kernel
theorem dX8_dropPacket_6 : decode cX8_dropPacket 6 = .ok (.getfield 21, 3) := by decide +kernel
theorem dX8_dropPacket_9 : decode cX8_dropPacket 9 = .ok (.if_icmp .ge 28, 3) := by decide +kernel
theorem dX8_dropPacket_12 : decode cX8_dropPacket 12 = .ok (.aload_n 0, 1) := by decide +kernel
theorem dX8_dropPacket_13 : decode cX8_dropPacket 13 = .ok (.getfield 9, 3) := by decide +kernel
theorem dX8_dropPacket_16 : decode cX8_dropPacket 16 = .ok (.iload_n 3, 1) := by decide +kernel
theorem dX8_dropPacket_17 : decode cX8_dropPacket 17 = .ok (.iaload, 1) := by decide +kernel
theorem dX8_dropPacket_18 : decode cX8_dropPacket 18 = .ok (.iload_n 1, 1) := by decide +kernel
theorem dX8_dropPacket_19 : decode cX8_dropPacket 19 = .ok (.if_icmp .eq 12, 3) := by decide +kernel
theorem dX8_dropPacket_22 : decode cX8_dropPacket 22 = .ok (.aload_n 0, 1) := by decide +kernel
theorem dX8_dropPacket_23 : decode cX8_dropPacket 23 = .ok (.iload_n 3, 1) := by decide +kernel
theorem dX8_dropPacket_24 : decode cX8_dropPacket 24 = .ok (.iload_n 2, 1) := by decide +kernel
theorem dX8_dropPacket_25 : decode cX8_dropPacket 25 = .ok (.invokevirtual 37, 3) := by decide +kernel
theorem dX8_dropPacket_28 : decode cX8_dropPacket 28 = .ok (.iinc 2 1, 3) := by decide +kernel
theorem dX8_dropPacket_31 : decode cX8_dropPacket 31 = .ok (.iinc 3 1, 3) := by decide +kernel
theorem dX8_dropPacket_34 : decode cX8_dropPacket 34 = .ok (.goto (-30), 3) := by decide +kernel
theorem dX8_dropPacket_37 : decode cX8_dropPacket 37 = .ok (.aload_n 0, 1) := by decide +kernel
theorem dX8_dropPacket_38 : decode cX8_dropPacket 38 = .ok (.iload_n 2, 1) := by decide +kernel
theorem dX8_dropPacket_39 : decode cX8_dropPacket 39 = .ok (.putfield 21, 3) := by decide +kernel
theorem dX8_dropPacket_42 : decode cX8_dropPacket 42 = .ok (.aload_n 0, 1) := by decide +kernel
theorem dX8_dropPacket_43 : decode cX8_dropPacket 43 = .ok (.getfield 25, 3) := by decide +kernel
theorem dX8_dropPacket_46 : decode cX8_dropPacket 46 = .ok (.iload_n 1, 1) := by decide +kernel
theorem dX8_dropPacket_47 : decode cX8_dropPacket 47 = .ok (.if_icmp .ne 8, 3) := by decide +kernel
theorem dX8_dropPacket_50 : decode cX8_dropPacket 50 = .ok (.aload_n 0, 1) := by decide +kernel
theorem dX8_dropPacket_51 : decode cX8_dropPacket 51 = .ok (.iconst (-1), 1) := by decide +kernel
theorem dX8_dropPacket_52 : decode cX8_dropPacket 52 = .ok (.putfield 25, 3) := by decide +kernel
theorem dX8_dropPacket_55 : decode cX8_dropPacket 55 = .ok (.return_, 1) := by decide +kernel
theorem kc_17 : me_KC 17 8 8 RX8 TX8 tyX8 := ⟨rfl, rfl, me_gms [411, 413, 415, 417, 419, 421, 423, 425] (by decide +kernel) (by decide +kernel), tyX8_ok, nmX8⟩
theorem fg_Row_21 : me_FG RX8 21 17 3 := ⟨_, _, _, _, _, kc_17, by decide, (me_gm 397 (by decide +kernel) (by decide +kernel))⟩
theorem fw_Row_21 : me_FW RX8 21 17 3 .int := ⟨_, _, _, _, _, kc_17, by decide, (me_gm 397 (by decide +kernel) (by decide +kernel)), rfl, rfl⟩
theorem fg_Row_25 : me_FG RX8 25 17 5 := ⟨_, _, _, _, _, kc_17, by decide, (me_gm 403 (by decide +kernel) (by decide +kernel))⟩
theorem fw_Row_25 : me_FW RX8 25 17 5 .int := ⟨_, _, _, _, _, kc_17, by decide, (me_gm 403 (by decide +kernel) (by decide +kernel)), rfl, rfl⟩
theorem fg_Row_28 : me_FG RX8 28 17 6 := ⟨_, _, _, _, _, kc_17, by decide, (me_gm 408 (by decide +kernel) (by decide +kernel))⟩
theorem fw_Row_28 : me_FW RX8 28 17 6 .int := ⟨_, _, _, _, _, kc_17, by decide, (me_gm 408 (by decide +kernel) (by decide +kernel)), rfl, rfl⟩
theorem fg_Row_31 : me_FG RX8 31 17 7 := ⟨_, _, _, _, _, kc_17, by decide, (me_gm 410 (by decide +kernel) (by decide +kernel))⟩
theorem fw_Row_31 : me_FW RX8 31 17 7 .int := ⟨_, _, _, _, _, kc_17, by decide, (me_gm 410 (by decide +kernel) (by decide +kernel)), rfl, rfl⟩
theorem fg_Row_34 : me_FG RX8 34 17 4 := ⟨_, _, _, _, _, kc_17, by decide, (me_gm 401 (by decide +kernel) (by decide +kernel))⟩
theorem fg_Row_18 : me_FG RX8 18 17 2 := ⟨_, _, _, _, _, kc_17, by decide, (me_gm 396 (by decide +kernel) (by decide +kernel))⟩
theorem fg_Row_9 : me_FG RX8 9 17 0 := ⟨_, _, _, _, _, kc_17, by decide, (me_gm 390 (by decide +kernel) (by decide +kernel))⟩
theorem fg_Row_15 : me_FG RX8 15 17 1 := ⟨_, _, _, _, _, kc_17, by decide, (me_gm 393 (by decide +kernel) (by decide +kernel))⟩
theorem bl_Row_41 : Cond.methodLink RX8 41 Lib.Math.max.name ∈ me_gw := (me_gm 1108 (by decide +kernel) (by decide +kernel))
theorem ml_Row_37 : Cond.methodLink RX8 37 yX8_copyPiece ∈ me_gw := (me_gm 1104 (by decide +kernel) (by decide +kernel))
theorem mv_Row_copyPiece : me_MV yX8_copyPiece cX8_copyPiece 3 none 2 := ⟨(me_gm 1107 (by decide +kernel) (by decide +kernel)), (me_gm 86 (by decide +kernel) (by decide +kernel)), ⟨by decide +kernel, by decide +kernel⟩, by decide +kernel, (me_gm 1106 (by decide +kernel) (by decide +kernel)), (me_gm 24 (by decide +kernel) (by decide +kernel))⟩
def f_Row_reset (μ : me_M) (v0 : Nat) : Option (me_M × Unit) :=
  me_lt (me_up μ 17 v0 3 (0 : Int32)) (fun μ1 =>
  me_lt (me_up μ1 17 v0 5 (-1 : Int32)) (fun μ2 =>
  me_lt (me_up μ2 17 v0 6 (-1 : Int32)) (fun μ3 =>
  me_lt (me_up μ3 17 v0 7 (0 : Int32)) (fun μ4 =>
  some (μ4, ())))))
set_option maxHeartbeats 4000000 in
set_option maxRecDepth 100000 in
theorem z_Row_reset {X : me_X} {B : me_B} {sz : Nat} (C : me_C X RX8 cX8_reset 1 none) {μ : me_M} {v0 : Nat}  {r : me_M × Unit} (N : me_En X B sz (B, r.1, .ok (none)) 0 0 0 0) (hNx : me_Nx X) (hB : me_St B)  (hf : f_Row_reset μ v0 = some r) : me_Z X B 0 0 μ 0 [(0, me_r 17 v0)] [] := by
  unfold f_Row_reset at hf
  refine me_aload_n C 0 (Or.inr (Or.inl ⟨_, rfl⟩)) dX8_reset_0 rfl rfl ?_
  refine me_iconst C (v := 0) dX8_reset_1 (by decide) ?_
  obtain ⟨μ1, e_μ1, hf⟩ := me_lts hf
  refine me_puti C 3 fw_Row_21 dX8_reset_2 rfl (me_nri _) e_μ1 ?_
  refine me_aload_n C 0 (Or.inr (Or.inl ⟨_, rfl⟩)) dX8_reset_5 rfl rfl ?_
  refine me_iconst C (v := -1) dX8_reset_6 (by decide) ?_
  obtain ⟨μ2, e_μ2, hf⟩ := me_lts hf
  refine me_puti C 5 fw_Row_25 dX8_reset_7 rfl (me_nri _) e_μ2 ?_
  refine me_aload_n C 0 (Or.inr (Or.inl ⟨_, rfl⟩)) dX8_reset_10 rfl rfl ?_
  refine me_iconst C (v := -1) dX8_reset_11 (by decide) ?_
  obtain ⟨μ3, e_μ3, hf⟩ := me_lts hf
  refine me_puti C 6 fw_Row_28 dX8_reset_12 rfl (me_nri _) e_μ3 ?_
  refine me_aload_n C 0 (Or.inr (Or.inl ⟨_, rfl⟩)) dX8_reset_15 rfl rfl ?_
  refine me_iconst C (v := 0) dX8_reset_16 (by decide) ?_
  obtain ⟨μ4, e_μ4, hf⟩ := me_lts hf
  refine me_puti C 7 fw_Row_31 dX8_reset_17 rfl (me_nri _) e_μ4 ?_
  exact me_vret C N dX8_reset_20 (by cases hf; rfl) (by decide) (by decide)
theorem c_Row_reset {B : me_B} (hB : me_St B) {μ : me_M} {v0 : Nat} {μ' : me_M} {r : Unit} (hf : f_Row_reset μ v0 = some (μ', r)) : ∀ l E z, l.stackTraces = false → me_Met l yX8_reset cX8_reset 1 none 0 0 0 0 E B μ z [me_r 17 v0] (B, μ', .ok (none)) :=
  fun _ _ _ hl => me_ofZ hl (by decide +kernel) (Nat.le_of_ble_eq_true rfl) (fun _ C N hNx => z_Row_reset C N hNx hB hf)

def f_Row_hasPlace (μ : me_M) (v0 : Nat) : Option Int32 :=
  if (μ 17 v0 4) ≤ (μ 17 v0 3) then
  (some (0 : Int32))
  else
  (if (4 : Int32) ≤ (μ 17 v0 3) then
  (some (0 : Int32))
  else
  (some (1 : Int32)))
set_option maxHeartbeats 4000000 in
set_option maxRecDepth 100000 in
theorem z_Row_hasPlace {X : me_X} {B : me_B} {sz : Nat} (C : me_C X RX8 cX8_hasPlace 1 (some .boolean)) {μ : me_M} {v0 : Nat}  {r : Int32} (N : me_En X B sz (B, μ, .ok (some (me_i r))) 0 0 0 0) (hNx : me_Nx X) (hB : me_St B)  (hf : f_Row_hasPlace μ v0 = some r) : me_Z X B 0 0 μ 0 [(0, me_r 17 v0)] [] := by
  unfold f_Row_hasPlace at hf
  refine me_aload_n C 0 (Or.inr (Or.inl ⟨_, rfl⟩)) dX8_hasPlace_0 rfl rfl ?_
  refine me_geti C 3 fg_Row_21 dX8_hasPlace_1 rfl ?_
  refine me_aload_n C 0 (Or.inr (Or.inl ⟨_, rfl⟩)) dX8_hasPlace_4 rfl rfl ?_
  refine me_geti C 4 fg_Row_34 dX8_hasPlace_5 rfl ?_
  refine me_icmp_ge C (tgt := 23) dX8_hasPlace_8 (by decide) (fun c1 => ?_) (fun c1 => ?_)
  · replace hf := me_ip c1 hf
    refine me_iconst C (v := 0) dX8_hasPlace_23 (by decide) ?_
    exact me_iret C N dX8_hasPlace_24 (by decide +kernel) (by cases hf; rfl) (by decide) (by decide)
  · replace hf := me_in c1 hf
    refine me_aload_n C 0 (Or.inr (Or.inl ⟨_, rfl⟩)) dX8_hasPlace_11 rfl rfl ?_
    refine me_geti C 3 fg_Row_21 dX8_hasPlace_12 rfl ?_
    refine me_iconst C (v := 4) dX8_hasPlace_15 (by decide) ?_
    refine me_icmp_ge C (tgt := 23) dX8_hasPlace_16 (by decide) (fun c2 => ?_) (fun c2 => ?_)
    · replace hf := me_ip c2 hf
      refine me_iconst C (v := 0) dX8_hasPlace_23 (by decide) ?_
      exact me_iret C N dX8_hasPlace_24 (by decide +kernel) (by cases hf; rfl) (by decide) (by decide)
    · replace hf := me_in c2 hf
      refine me_iconst C (v := 1) dX8_hasPlace_19 (by decide) ?_
      refine me_goto C (tgt := 24) dX8_hasPlace_20 (by decide) ?_
      exact me_iret C N dX8_hasPlace_24 (by decide +kernel) (by cases hf; rfl) (by decide) (by decide)
theorem c_Row_hasPlace {B : me_B} (hB : me_St B) {μ : me_M} {v0 : Nat} {r : Int32} (hf : f_Row_hasPlace μ v0 = some r) : ∀ l E z, l.stackTraces = false → me_Met l yX8_hasPlace cX8_hasPlace 1 (some .boolean) 0 0 0 0 E B μ z [me_r 17 v0] (B, μ, .ok (some (me_i r))) :=
  fun _ _ _ hl => me_ofZ hl (by decide +kernel) (Nat.le_of_ble_eq_true rfl) (fun _ C N hNx => z_Row_hasPlace C N hNx hB hf)

def f_Row_canBeLookedAt (μ : me_M) (v0 : Nat) (v1 : Int32) : Option Int32 :=
  if (μ 17 v0 3) ≤ 0 then
  (some (0 : Int32))
  else
  (if (μ 17 v0 7) = v1 then
  (some (0 : Int32))
  else
  (if (μ 20 v0 0) = v1 then
  (some (0 : Int32))
  else
  (some (1 : Int32))))
set_option maxHeartbeats 4000000 in
set_option maxRecDepth 100000 in
theorem z_Row_canBeLookedAt {X : me_X} {B : me_B} {sz : Nat} (C : me_C X RX8 cX8_canBeLookedAt 2 (some .boolean)) {μ : me_M} {v0 : Nat} {v1 : Int32}  {r : Int32} (N : me_En X B sz (B, μ, .ok (some (me_i r))) 0 0 0 0) (hNx : me_Nx X) (hB : me_St B)  (hf : f_Row_canBeLookedAt μ v0 v1 = some r) : me_Z X B 0 0 μ 0 [(0, me_r 17 v0), (1, me_i v1)] [] := by
  unfold f_Row_canBeLookedAt at hf
  refine me_aload_n C 0 (Or.inr (Or.inl ⟨_, rfl⟩)) dX8_canBeLookedAt_0 rfl rfl ?_
  refine me_geti C 3 fg_Row_21 dX8_canBeLookedAt_1 rfl ?_
  refine me_if_le C (tgt := 29) dX8_canBeLookedAt_4 (by decide) (fun c1 => ?_) (fun c1 => ?_)
  · replace hf := me_ip c1 hf
    refine me_iconst C (v := 0) dX8_canBeLookedAt_29 (by decide) ?_
    exact me_iret C N dX8_canBeLookedAt_30 (by decide +kernel) (by cases hf; rfl) (by decide) (by decide)
  · replace hf := me_in c1 hf
    refine me_aload_n C 0 (Or.inr (Or.inl ⟨_, rfl⟩)) dX8_canBeLookedAt_7 rfl rfl ?_
    refine me_geti C 7 fg_Row_31 dX8_canBeLookedAt_8 rfl ?_
    refine me_iload_n C 1 dX8_canBeLookedAt_11 rfl rfl ?_
    refine me_icmp_eq C (tgt := 29) dX8_canBeLookedAt_12 (by decide) (fun c2 => ?_) (fun c2 => ?_)
    · replace hf := me_ip c2 hf
      refine me_iconst C (v := 0) dX8_canBeLookedAt_29 (by decide) ?_
      exact me_iret C N dX8_canBeLookedAt_30 (by decide +kernel) (by cases hf; rfl) (by decide) (by decide)
    · replace hf := me_in c2 hf
      refine me_aload_n C 0 (Or.inr (Or.inl ⟨_, rfl⟩)) dX8_canBeLookedAt_15 rfl rfl ?_
      refine me_getr C hB 2 (k' := 20) (i' := v0) fg_Row_18 dX8_canBeLookedAt_16 rfl rfl ?_
      refine me_iconst C (v := 0) dX8_canBeLookedAt_19 (by decide) ?_
      refine me_iald C rfl (fun _ => rfl) (by decide +kernel) dX8_canBeLookedAt_20 ?_
      refine me_iload_n C 1 dX8_canBeLookedAt_21 rfl rfl ?_
      refine me_icmp_eq C (tgt := 29) dX8_canBeLookedAt_22 (by decide) (fun c3 => ?_) (fun c3 => ?_)
      · replace hf := me_ip c3 hf
        refine me_iconst C (v := 0) dX8_canBeLookedAt_29 (by decide) ?_
        exact me_iret C N dX8_canBeLookedAt_30 (by decide +kernel) (by cases hf; rfl) (by decide) (by decide)
      · replace hf := me_in c3 hf
        refine me_iconst C (v := 1) dX8_canBeLookedAt_25 (by decide) ?_
        refine me_goto C (tgt := 30) dX8_canBeLookedAt_26 (by decide) ?_
        exact me_iret C N dX8_canBeLookedAt_30 (by decide +kernel) (by cases hf; rfl) (by decide) (by decide)
theorem c_Row_canBeLookedAt {B : me_B} (hB : me_St B) {μ : me_M} {v0 : Nat} {v1 : Int32} {r : Int32} (hf : f_Row_canBeLookedAt μ v0 v1 = some r) : ∀ l E z, l.stackTraces = false → me_Met l yX8_canBeLookedAt cX8_canBeLookedAt 2 (some .boolean) 0 0 0 0 E B μ z [me_r 17 v0, me_i v1] (B, μ, .ok (some (me_i r))) :=
  fun _ _ _ hl => me_ofZ hl (by decide +kernel) (Nat.le_of_ble_eq_true rfl) (fun _ C N hNx => z_Row_canBeLookedAt C N hNx hB hf)

def f_Row_addPiece (μ : me_M) (v0 : Nat) (v1 : Int32) (v2 : Int32) (v3 : Int32) : Option (me_M × Unit) :=
  if (4 : Int32) ≤ (μ 17 v0 3) then
  (some (μ, ()))
  else
  (me_gd (me_inb (μ 17 v0 3) 4) (
  me_lt (me_up μ 18 v0 (me_ix (μ 17 v0 3)) v1) (fun μ3 =>
  me_gd (me_inb (μ3 17 v0 3) 4) (
  me_lt (me_up μ3 19 v0 (me_ix (μ3 17 v0 3)) v2) (fun μ5 =>
  me_gd (me_inb (μ5 17 v0 3) 4) (
  me_lt (me_up μ5 20 v0 (me_ix (μ5 17 v0 3)) v3) (fun μ7 =>
  me_lt (me_up μ7 17 v0 3 ((μ7 17 v0 3) + (1 : Int32))) (fun μ8 =>
  some (μ8, ())))))))))
set_option maxHeartbeats 4000000 in
set_option maxRecDepth 100000 in
theorem z_Row_addPiece {X : me_X} {B : me_B} {sz : Nat} (C : me_C X RX8 cX8_addPiece 4 none) {μ : me_M} {v0 : Nat} {v1 : Int32} {v2 : Int32} {v3 : Int32}  {r : me_M × Unit} (N : me_En X B sz (B, r.1, .ok (none)) 0 0 0 0) (hNx : me_Nx X) (hB : me_St B)  (hf : f_Row_addPiece μ v0 v1 v2 v3 = some r) : me_Z X B 0 0 μ 0 [(0, me_r 17 v0), (1, me_i v1), (2, me_i v2), (3, me_i v3)] [] := by
  unfold f_Row_addPiece at hf
  refine me_aload_n C 0 (Or.inr (Or.inl ⟨_, rfl⟩)) dX8_addPiece_0 rfl rfl ?_
  refine me_geti C 3 fg_Row_21 dX8_addPiece_1 rfl ?_
  refine me_iconst C (v := 4) dX8_addPiece_4 (by decide) ?_
  refine me_icmp_ge C (tgt := 48) dX8_addPiece_5 (by decide) (fun c1 => ?_) (fun c1 => ?_)
  · replace hf := me_ip c1 hf
    exact me_vret C N dX8_addPiece_48 (by cases hf; rfl) (by decide) (by decide)
  · replace hf := me_in c1 hf
    refine me_aload_n C 0 (Or.inr (Or.inl ⟨_, rfl⟩)) dX8_addPiece_8 rfl rfl ?_
    refine me_getr C hB 0 (k' := 18) (i' := v0) fg_Row_9 dX8_addPiece_9 rfl rfl ?_
    refine me_aload_n C 0 (Or.inr (Or.inl ⟨_, rfl⟩)) dX8_addPiece_12 rfl rfl ?_
    refine me_geti C 3 fg_Row_21 dX8_addPiece_13 rfl ?_
    refine me_iload_n C 1 dX8_addPiece_16 rfl rfl ?_
    obtain ⟨g2, hf⟩ := me_gs hf
    obtain ⟨μ3, e_μ3, hf⟩ := me_lts hf
    refine me_iast C rfl (fun _ => rfl) g2 dX8_addPiece_17 e_μ3 ?_
    refine me_aload_n C 0 (Or.inr (Or.inl ⟨_, rfl⟩)) dX8_addPiece_18 rfl rfl ?_
    refine me_getr C hB 1 (k' := 19) (i' := v0) fg_Row_15 dX8_addPiece_19 rfl rfl ?_
    refine me_aload_n C 0 (Or.inr (Or.inl ⟨_, rfl⟩)) dX8_addPiece_22 rfl rfl ?_
    refine me_geti C 3 fg_Row_21 dX8_addPiece_23 rfl ?_
    refine me_iload_n C 2 dX8_addPiece_26 rfl rfl ?_
    obtain ⟨g4, hf⟩ := me_gs hf
    obtain ⟨μ5, e_μ5, hf⟩ := me_lts hf
    refine me_iast C rfl (fun _ => rfl) g4 dX8_addPiece_27 e_μ5 ?_
    refine me_aload_n C 0 (Or.inr (Or.inl ⟨_, rfl⟩)) dX8_addPiece_28 rfl rfl ?_
    refine me_getr C hB 2 (k' := 20) (i' := v0) fg_Row_18 dX8_addPiece_29 rfl rfl ?_
    refine me_aload_n C 0 (Or.inr (Or.inl ⟨_, rfl⟩)) dX8_addPiece_32 rfl rfl ?_
    refine me_geti C 3 fg_Row_21 dX8_addPiece_33 rfl ?_
    refine me_iload_n C 3 dX8_addPiece_36 rfl rfl ?_
    obtain ⟨g6, hf⟩ := me_gs hf
    obtain ⟨μ7, e_μ7, hf⟩ := me_lts hf
    refine me_iast C rfl (fun _ => rfl) g6 dX8_addPiece_37 e_μ7 ?_
    refine me_aload_n C 0 (Or.inr (Or.inl ⟨_, rfl⟩)) dX8_addPiece_38 rfl rfl ?_
    refine me_dup C rfl dX8_addPiece_39 ?_
    refine me_geti C 3 fg_Row_21 dX8_addPiece_40 rfl ?_
    refine me_iconst C (v := 1) dX8_addPiece_43 (by decide) ?_
    refine me_iadd C dX8_addPiece_44 ?_
    obtain ⟨μ8, e_μ8, hf⟩ := me_lts hf
    refine me_puti C 3 fw_Row_21 dX8_addPiece_45 rfl (me_nri _) e_μ8 ?_
    exact me_vret C N dX8_addPiece_48 (by cases hf; rfl) (by decide) (by decide)
theorem c_Row_addPiece {B : me_B} (hB : me_St B) {μ : me_M} {v0 : Nat} {v1 : Int32} {v2 : Int32} {v3 : Int32} {μ' : me_M} {r : Unit} (hf : f_Row_addPiece μ v0 v1 v2 v3 = some (μ', r)) : ∀ l E z, l.stackTraces = false → me_Met l yX8_addPiece cX8_addPiece 4 none 0 0 0 0 E B μ z [me_r 17 v0, me_i v1, me_i v2, me_i v3] (B, μ', .ok (none)) :=
  fun _ _ _ hl => me_ofZ hl (by decide +kernel) (Nat.le_of_ble_eq_true rfl) (fun _ C N hNx => z_Row_addPiece C N hNx hB hf)

def f_Row_copyPiece (μ : me_M) (v0 : Nat) (v1 : Int32) (v2 : Int32) : Option (me_M × Unit) :=
  me_gd (me_inb v1 4) (
  me_gd (me_inb v2 4) (
  me_lt (me_up μ 18 v0 (me_ix v2) (μ 18 v0 (me_ix v1))) (fun μ3 =>
  me_gd (me_inb v1 4) (
  me_gd (me_inb v2 4) (
  me_lt (me_up μ3 19 v0 (me_ix v2) (μ3 19 v0 (me_ix v1))) (fun μ6 =>
  me_gd (me_inb v1 4) (
  me_gd (me_inb v2 4) (
  me_lt (me_up μ6 20 v0 (me_ix v2) (μ6 20 v0 (me_ix v1))) (fun μ9 =>
  some (μ9, ()))))))))))
set_option maxHeartbeats 4000000 in
set_option maxRecDepth 100000 in
theorem z_Row_copyPiece {X : me_X} {B : me_B} {sz : Nat} (C : me_C X RX8 cX8_copyPiece 3 none) {μ : me_M} {v0 : Nat} {v1 : Int32} {v2 : Int32}  {r : me_M × Unit} (N : me_En X B sz (B, r.1, .ok (none)) 0 0 0 0) (hNx : me_Nx X) (hB : me_St B)  (hf : f_Row_copyPiece μ v0 v1 v2 = some r) : me_Z X B 0 0 μ 0 [(0, me_r 17 v0), (1, me_i v1), (2, me_i v2)] [] := by
  unfold f_Row_copyPiece at hf
  refine me_aload_n C 0 (Or.inr (Or.inl ⟨_, rfl⟩)) dX8_copyPiece_0 rfl rfl ?_
  refine me_getr C hB 0 (k' := 18) (i' := v0) fg_Row_9 dX8_copyPiece_1 rfl rfl ?_
  refine me_iload_n C 2 dX8_copyPiece_4 rfl rfl ?_
  refine me_aload_n C 0 (Or.inr (Or.inl ⟨_, rfl⟩)) dX8_copyPiece_5 rfl rfl ?_
  refine me_getr C hB 0 (k' := 18) (i' := v0) fg_Row_9 dX8_copyPiece_6 rfl rfl ?_
  refine me_iload_n C 1 dX8_copyPiece_9 rfl rfl ?_
  obtain ⟨g1, hf⟩ := me_gs hf
  refine me_iald C rfl (fun _ => rfl) g1 dX8_copyPiece_10 ?_
  obtain ⟨g2, hf⟩ := me_gs hf
  obtain ⟨μ3, e_μ3, hf⟩ := me_lts hf
  refine me_iast C rfl (fun _ => rfl) g2 dX8_copyPiece_11 e_μ3 ?_
  refine me_aload_n C 0 (Or.inr (Or.inl ⟨_, rfl⟩)) dX8_copyPiece_12 rfl rfl ?_
  refine me_getr C hB 1 (k' := 19) (i' := v0) fg_Row_15 dX8_copyPiece_13 rfl rfl ?_
  refine me_iload_n C 2 dX8_copyPiece_16 rfl rfl ?_
  refine me_aload_n C 0 (Or.inr (Or.inl ⟨_, rfl⟩)) dX8_copyPiece_17 rfl rfl ?_
  refine me_getr C hB 1 (k' := 19) (i' := v0) fg_Row_15 dX8_copyPiece_18 rfl rfl ?_
  refine me_iload_n C 1 dX8_copyPiece_21 rfl rfl ?_
  obtain ⟨g4, hf⟩ := me_gs hf
  refine me_iald C rfl (fun _ => rfl) g4 dX8_copyPiece_22 ?_
  obtain ⟨g5, hf⟩ := me_gs hf
  obtain ⟨μ6, e_μ6, hf⟩ := me_lts hf
  refine me_iast C rfl (fun _ => rfl) g5 dX8_copyPiece_23 e_μ6 ?_
  refine me_aload_n C 0 (Or.inr (Or.inl ⟨_, rfl⟩)) dX8_copyPiece_24 rfl rfl ?_
  refine me_getr C hB 2 (k' := 20) (i' := v0) fg_Row_18 dX8_copyPiece_25 rfl rfl ?_
  refine me_iload_n C 2 dX8_copyPiece_28 rfl rfl ?_
  refine me_aload_n C 0 (Or.inr (Or.inl ⟨_, rfl⟩)) dX8_copyPiece_29 rfl rfl ?_
  refine me_getr C hB 2 (k' := 20) (i' := v0) fg_Row_18 dX8_copyPiece_30 rfl rfl ?_
  refine me_iload_n C 1 dX8_copyPiece_33 rfl rfl ?_
  obtain ⟨g7, hf⟩ := me_gs hf
  refine me_iald C rfl (fun _ => rfl) g7 dX8_copyPiece_34 ?_
  obtain ⟨g8, hf⟩ := me_gs hf
  obtain ⟨μ9, e_μ9, hf⟩ := me_lts hf
  refine me_iast C rfl (fun _ => rfl) g8 dX8_copyPiece_35 e_μ9 ?_
  exact me_vret C N dX8_copyPiece_36 (by cases hf; rfl) (by decide) (by decide)
theorem c_Row_copyPiece {B : me_B} (hB : me_St B) {μ : me_M} {v0 : Nat} {v1 : Int32} {v2 : Int32} {μ' : me_M} {r : Unit} (hf : f_Row_copyPiece μ v0 v1 v2 = some (μ', r)) : ∀ l E z, l.stackTraces = false → me_Met l yX8_copyPiece cX8_copyPiece 3 none 0 0 0 0 E B μ z [me_r 17 v0, me_i v1, me_i v2] (B, μ', .ok (none)) :=
  fun _ _ _ hl => me_ofZ hl (by decide +kernel) (Nat.le_of_ble_eq_true rfl) (fun _ C N hNx => z_Row_copyPiece C N hNx hB hf)

def f_Row_giveFirst_b16 (K16 : me_M → Nat → Int32 → Option (me_M × Unit)) (μ : me_M) (v0 : Nat) (v3 : Int32) : Option (me_M × Unit) :=
  if (μ 17 v0 3) ≤ v3 then
  (me_lt (me_up μ 17 v0 3 (me_max' (0 : Int32) ((μ 17 v0 3) - (1 : Int32)))) (fun μ2 =>
  some (μ2, ())))
  else
  (me_b2 (f_Row_copyPiece μ v0 v3 (v3 - (1 : Int32))) (fun μ4 r3 =>
  me_lt (me_inc v3 (1)) (fun x5 =>
  K16 μ4 v0 x5)))
set_option maxHeartbeats 4000000 in
set_option maxRecDepth 100000 in
theorem z_Row_giveFirst_b16 {X : me_X} {B : me_B} {sz : Nat} (C : me_C X RX8 cX8_giveFirst 4 none) {μ : me_M} {v0 : Nat} {v3 : Int32} {K16 : me_M → Nat → Int32 → Option (me_M × Unit)} {r : me_M × Unit} (N : me_En X B sz (B, r.1, .ok (none)) 1 24 0 0) (hNx : me_Nx X) (hB : me_St B) (hK16 : ∀ (μ : me_M) (v0 : Nat) (v3 : Int32), K16 μ v0 v3 = some r → me_Z X B 0 0 μ 16 [(0, me_r 17 v0), (3, me_i v3)] []) (hf : f_Row_giveFirst_b16 K16 μ v0 v3 = some r) : me_Z X B 0 0 μ 16 [(0, me_r 17 v0), (3, me_i v3)] [] := by
  unfold f_Row_giveFirst_b16 at hf
  refine me_iload_n C 3 dX8_giveFirst_16 rfl rfl ?_
  refine me_aload_n C 0 (Or.inr (Or.inl ⟨_, rfl⟩)) dX8_giveFirst_17 rfl rfl ?_
  refine me_geti C 3 fg_Row_21 dX8_giveFirst_18 rfl ?_
  refine me_icmp_ge C (tgt := 38) dX8_giveFirst_21 (by decide) (fun c1 => ?_) (fun c1 => ?_)
  · replace hf := me_ip c1 hf
    refine me_aload_n C 0 (Or.inr (Or.inl ⟨_, rfl⟩)) dX8_giveFirst_38 rfl rfl ?_
    refine me_iconst C (v := 0) dX8_giveFirst_39 (by decide) ?_
    refine me_aload_n C 0 (Or.inr (Or.inl ⟨_, rfl⟩)) dX8_giveFirst_40 rfl rfl ?_
    refine me_geti C 3 fg_Row_21 dX8_giveFirst_41 rfl ?_
    refine me_iconst C (v := 1) dX8_giveFirst_44 (by decide) ?_
    refine me_isub C dX8_giveFirst_45 ?_
    refine me_mmax C N bl_Row_41 dX8_giveFirst_46 ⟨by decide, by decide⟩ (Nat.le_of_ble_eq_true rfl) (by decide) (by decide) ?_
    obtain ⟨μ2, e_μ2, hf⟩ := me_lts hf
    refine me_puti C 3 fw_Row_21 dX8_giveFirst_49 rfl (me_nri _) e_μ2 ?_
    exact me_vret C N dX8_giveFirst_52 (by cases hf; rfl) (by decide) (by decide)
  · replace hf := me_in c1 hf
    refine me_aload_n C 0 (Or.inr (Or.inl ⟨_, rfl⟩)) dX8_giveFirst_24 rfl rfl ?_
    refine me_iload_n C 3 dX8_giveFirst_25 rfl rfl ?_
    refine me_iload_n C 3 dX8_giveFirst_26 rfl rfl ?_
    refine me_iconst C (v := 1) dX8_giveFirst_27 (by decide) ?_
    refine me_isub C dX8_giveFirst_28 ?_
    obtain ⟨μ4, r3, h_r3, hf⟩ := me_bs2 hf
    refine me_callV0 C N (As := [me_i v3, me_i (v3 - (1 : Int32))]) (st := []) 0 0 (c_Row_copyPiece hB h_r3) mv_Row_copyPiece ml_Row_37 rfl rfl dX8_giveFirst_29 rfl rfl ⟨by decide, by decide⟩ ⟨by decide, by decide, by decide, by decide⟩ (Nat.le_of_ble_eq_true rfl) ?_
    obtain ⟨x5, e_x5, hf⟩ := me_lts hf
    refine me_iinc C (v := x5) (L' := [(3, me_i x5), (0, me_r 17 v0)]) dX8_giveFirst_32 rfl e_x5.symm (by decide) rfl ?_
    refine me_goto C (tgt := 16) dX8_giveFirst_35 (by decide) ?_
    refine me_dropI [(0, me_r 17 v0), (3, me_i x5)] [1, 0] rfl ?_
    exact hK16 μ4 v0 x5 hf
def f_Row_giveFirst_h16  : Nat → me_M → Nat → Int32 → Option (me_M × Unit)
  | 0, _, _, _ => none
  | n + 1, μ, v0, v3 => f_Row_giveFirst_b16 (f_Row_giveFirst_h16 n) μ v0 v3
set_option maxHeartbeats 4000000 in
set_option maxRecDepth 100000 in
theorem z_Row_giveFirst_h16 {X : me_X} {B : me_B} {sz : Nat} (C : me_C X RX8 cX8_giveFirst 4 none)  {r : me_M × Unit} (N : me_En X B sz (B, r.1, .ok (none)) 1 24 0 0) (hNx : me_Nx X) (hB : me_St B)  : ∀ (n : Nat) (μ : me_M) (v0 : Nat) (v3 : Int32), f_Row_giveFirst_h16 n μ v0 v3 = some r → me_Z X B 0 0 μ 16 [(0, me_r 17 v0), (3, me_i v3)] [] := by
  intro n
  induction n with
  | zero => intro μ v0 v3 h; exact absurd (show (none : Option (me_M × Unit)) = some r from h) (fun q => by cases q)
  | succ n ih => intro μ v0 v3 h; exact z_Row_giveFirst_b16 C N hNx hB  (K16 := f_Row_giveFirst_h16 n) ih h
def f_Row_giveFirst (μ : me_M) (v0 : Nat) (v1 : Int32) (v2 : Int32) : Option (me_M × Unit) :=
  me_lt (me_up μ 17 v0 7 v2) (fun μ1 =>
  if v1 = 0 then
  (f_Row_giveFirst_h16 me_FU μ1 v0 (1 : Int32))
  else
  (me_lt (me_up μ1 17 v0 5 (-1 : Int32)) (fun μ3 =>
  f_Row_giveFirst_h16 me_FU μ3 v0 (1 : Int32))))
set_option maxHeartbeats 4000000 in
set_option maxRecDepth 100000 in
theorem z_Row_giveFirst {X : me_X} {B : me_B} {sz : Nat} (C : me_C X RX8 cX8_giveFirst 4 none) {μ : me_M} {v0 : Nat} {v1 : Int32} {v2 : Int32}  {r : me_M × Unit} (N : me_En X B sz (B, r.1, .ok (none)) 1 24 0 0) (hNx : me_Nx X) (hB : me_St B)  (hf : f_Row_giveFirst μ v0 v1 v2 = some r) : me_Z X B 0 0 μ 0 [(0, me_r 17 v0), (1, me_i v1), (2, me_i v2)] [] := by
  unfold f_Row_giveFirst at hf
  refine me_aload_n C 0 (Or.inr (Or.inl ⟨_, rfl⟩)) dX8_giveFirst_0 rfl rfl ?_
  refine me_iload_n C 2 dX8_giveFirst_1 rfl rfl ?_
  obtain ⟨μ1, e_μ1, hf⟩ := me_lts hf
  refine me_puti C 7 fw_Row_31 dX8_giveFirst_2 rfl (me_nri _) e_μ1 ?_
  refine me_iload_n C 1 dX8_giveFirst_5 rfl rfl ?_
  refine me_if_eq C (tgt := 14) dX8_giveFirst_6 (by decide) (fun c2 => ?_) (fun c2 => ?_)
  · replace hf := me_ip c2 hf
    refine me_iconst C (v := 1) dX8_giveFirst_14 (by decide) ?_
    refine me_istore_n C 3 dX8_giveFirst_15 rfl (by decide) (L' := [(3, me_i (1 : Int32)), (0, me_r 17 v0), (1, me_i v1), (2, me_i v2)]) rfl ?_
    refine me_dropI [(0, me_r 17 v0), (3, me_i (1 : Int32))] [1, 0] rfl ?_
    exact z_Row_giveFirst_h16 C N hNx hB me_FU μ1 v0 (1 : Int32) hf
  · replace hf := me_in c2 hf
    refine me_aload_n C 0 (Or.inr (Or.inl ⟨_, rfl⟩)) dX8_giveFirst_9 rfl rfl ?_
    refine me_iconst C (v := -1) dX8_giveFirst_10 (by decide) ?_
    obtain ⟨μ3, e_μ3, hf⟩ := me_lts hf
    refine me_puti C 5 fw_Row_25 dX8_giveFirst_11 rfl (me_nri _) e_μ3 ?_
    refine me_iconst C (v := 1) dX8_giveFirst_14 (by decide) ?_
    refine me_istore_n C 3 dX8_giveFirst_15 rfl (by decide) (L' := [(3, me_i (1 : Int32)), (0, me_r 17 v0), (1, me_i v1), (2, me_i v2)]) rfl ?_
    refine me_dropI [(0, me_r 17 v0), (3, me_i (1 : Int32))] [1, 0] rfl ?_
    exact z_Row_giveFirst_h16 C N hNx hB me_FU μ3 v0 (1 : Int32) hf
theorem c_Row_giveFirst {B : me_B} (hB : me_St B) {μ : me_M} {v0 : Nat} {v1 : Int32} {v2 : Int32} {μ' : me_M} {r : Unit} (hf : f_Row_giveFirst μ v0 v1 v2 = some (μ', r)) : ∀ l E z, l.stackTraces = false → me_Met l yX8_giveFirst cX8_giveFirst 4 none 1 24 0 0 E B μ z [me_r 17 v0, me_i v1, me_i v2] (B, μ', .ok (none)) :=
  fun _ _ _ hl => me_ofZ hl (by decide +kernel) (Nat.le_of_ble_eq_true rfl) (fun _ C N hNx => z_Row_giveFirst C N hNx hB hf)

def f_Row_dropPacket_b4 (K4 : me_M → Nat → Int32 → Int32 → Int32 → Option (me_M × Unit)) (μ : me_M) (v0 : Nat) (v1 : Int32) (v2 : Int32) (v3 : Int32) : Option (me_M × Unit) :=
  if (μ 17 v0 3) ≤ v3 then
  (me_lt (me_up μ 17 v0 3 v2) (fun μ2 =>
  if (μ2 17 v0 5) = v1 then
  (me_lt (me_up μ2 17 v0 5 (-1 : Int32)) (fun μ4 =>
  some (μ4, ())))
  else
  (some (μ2, ()))))
  else
  (me_gd (me_inb v3 4) (
  if (μ 18 v0 (me_ix v3)) = v1 then
  (me_lt (me_inc v3 (1)) (fun x7 =>
  K4 μ v0 v1 v2 x7))
  else
  (me_b2 (f_Row_copyPiece μ v0 v3 v2) (fun μ9 r8 =>
  me_lt (me_inc v2 (1)) (fun x10 =>
  me_lt (me_inc v3 (1)) (fun x11 =>
  K4 μ9 v0 v1 x10 x11))))))
set_option maxHeartbeats 4000000 in
set_option maxRecDepth 100000 in
theorem z_Row_dropPacket_b4 {X : me_X} {B : me_B} {sz : Nat} (C : me_C X RX8 cX8_dropPacket 4 none) {μ : me_M} {v0 : Nat} {v1 : Int32} {v2 : Int32} {v3 : Int32} {K4 : me_M → Nat → Int32 → Int32 → Int32 → Option (me_M × Unit)} {r : me_M × Unit} (N : me_En X B sz (B, r.1, .ok (none)) 1 22 0 0) (hNx : me_Nx X) (hB : me_St B) (hK4 : ∀ (μ : me_M) (v0 : Nat) (v1 : Int32) (v2 : Int32) (v3 : Int32), K4 μ v0 v1 v2 v3 = some r → me_Z X B 0 0 μ 4 [(0, me_r 17 v0), (1, me_i v1), (2, me_i v2), (3, me_i v3)] []) (hf : f_Row_dropPacket_b4 K4 μ v0 v1 v2 v3 = some r) : me_Z X B 0 0 μ 4 [(0, me_r 17 v0), (1, me_i v1), (2, me_i v2), (3, me_i v3)] [] := by
  unfold f_Row_dropPacket_b4 at hf
  refine me_iload_n C 3 dX8_dropPacket_4 rfl rfl ?_
  refine me_aload_n C 0 (Or.inr (Or.inl ⟨_, rfl⟩)) dX8_dropPacket_5 rfl rfl ?_
  refine me_geti C 3 fg_Row_21 dX8_dropPacket_6 rfl ?_
  refine me_icmp_ge C (tgt := 37) dX8_dropPacket_9 (by decide) (fun c1 => ?_) (fun c1 => ?_)
  · replace hf := me_ip c1 hf
    refine me_aload_n C 0 (Or.inr (Or.inl ⟨_, rfl⟩)) dX8_dropPacket_37 rfl rfl ?_
    refine me_iload_n C 2 dX8_dropPacket_38 rfl rfl ?_
    obtain ⟨μ2, e_μ2, hf⟩ := me_lts hf
    refine me_puti C 3 fw_Row_21 dX8_dropPacket_39 rfl (me_nri _) e_μ2 ?_
    refine me_aload_n C 0 (Or.inr (Or.inl ⟨_, rfl⟩)) dX8_dropPacket_42 rfl rfl ?_
    refine me_geti C 5 fg_Row_25 dX8_dropPacket_43 rfl ?_
    refine me_iload_n C 1 dX8_dropPacket_46 rfl rfl ?_
    refine me_icmp_ne C (tgt := 55) dX8_dropPacket_47 (by decide) (fun c3 => ?_) (fun c3 => ?_)
    · replace hf := me_in c3 hf
      exact me_vret C N dX8_dropPacket_55 (by cases hf; rfl) (by decide) (by decide)
    · replace hf := me_ip c3 hf
      refine me_aload_n C 0 (Or.inr (Or.inl ⟨_, rfl⟩)) dX8_dropPacket_50 rfl rfl ?_
      refine me_iconst C (v := -1) dX8_dropPacket_51 (by decide) ?_
      obtain ⟨μ4, e_μ4, hf⟩ := me_lts hf
      refine me_puti C 5 fw_Row_25 dX8_dropPacket_52 rfl (me_nri _) e_μ4 ?_
      exact me_vret C N dX8_dropPacket_55 (by cases hf; rfl) (by decide) (by decide)
  · replace hf := me_in c1 hf
    refine me_aload_n C 0 (Or.inr (Or.inl ⟨_, rfl⟩)) dX8_dropPacket_12 rfl rfl ?_
    refine me_getr C hB 0 (k' := 18) (i' := v0) fg_Row_9 dX8_dropPacket_13 rfl rfl ?_
    refine me_iload_n C 3 dX8_dropPacket_16 rfl rfl ?_
    obtain ⟨g5, hf⟩ := me_gs hf
    refine me_iald C rfl (fun _ => rfl) g5 dX8_dropPacket_17 ?_
    refine me_iload_n C 1 dX8_dropPacket_18 rfl rfl ?_
    refine me_icmp_eq C (tgt := 31) dX8_dropPacket_19 (by decide) (fun c6 => ?_) (fun c6 => ?_)
    · replace hf := me_ip c6 hf
      obtain ⟨x7, e_x7, hf⟩ := me_lts hf
      refine me_iinc C (v := x7) (L' := [(3, me_i x7), (0, me_r 17 v0), (1, me_i v1), (2, me_i v2)]) dX8_dropPacket_31 rfl e_x7.symm (by decide) rfl ?_
      refine me_goto C (tgt := 4) dX8_dropPacket_34 (by decide) ?_
      refine me_dropI [(0, me_r 17 v0), (1, me_i v1), (2, me_i v2), (3, me_i x7)] [1, 2, 3, 0] rfl ?_
      exact hK4 μ v0 v1 v2 x7 hf
    · replace hf := me_in c6 hf
      refine me_aload_n C 0 (Or.inr (Or.inl ⟨_, rfl⟩)) dX8_dropPacket_22 rfl rfl ?_
      refine me_iload_n C 3 dX8_dropPacket_23 rfl rfl ?_
      refine me_iload_n C 2 dX8_dropPacket_24 rfl rfl ?_
      obtain ⟨μ9, r8, h_r8, hf⟩ := me_bs2 hf
      refine me_callV0 C N (As := [me_i v3, me_i v2]) (st := []) 0 0 (c_Row_copyPiece hB h_r8) mv_Row_copyPiece ml_Row_37 rfl rfl dX8_dropPacket_25 rfl rfl ⟨by decide, by decide⟩ ⟨by decide, by decide, by decide, by decide⟩ (Nat.le_of_ble_eq_true rfl) ?_
      obtain ⟨x10, e_x10, hf⟩ := me_lts hf
      refine me_iinc C (v := x10) (L' := [(2, me_i x10), (0, me_r 17 v0), (1, me_i v1), (3, me_i v3)]) dX8_dropPacket_28 rfl e_x10.symm (by decide) rfl ?_
      obtain ⟨x11, e_x11, hf⟩ := me_lts hf
      refine me_iinc C (v := x11) (L' := [(3, me_i x11), (2, me_i x10), (0, me_r 17 v0), (1, me_i v1)]) dX8_dropPacket_31 rfl e_x11.symm (by decide) rfl ?_
      refine me_goto C (tgt := 4) dX8_dropPacket_34 (by decide) ?_
      refine me_dropI [(0, me_r 17 v0), (1, me_i v1), (2, me_i x10), (3, me_i x11)] [2, 3, 1, 0] rfl ?_
      exact hK4 μ9 v0 v1 x10 x11 hf
def f_Row_dropPacket_h4  : Nat → me_M → Nat → Int32 → Int32 → Int32 → Option (me_M × Unit)
  | 0, _, _, _, _, _ => none
  | n + 1, μ, v0, v1, v2, v3 => f_Row_dropPacket_b4 (f_Row_dropPacket_h4 n) μ v0 v1 v2 v3
set_option maxHeartbeats 4000000 in
set_option maxRecDepth 100000 in
theorem z_Row_dropPacket_h4 {X : me_X} {B : me_B} {sz : Nat} (C : me_C X RX8 cX8_dropPacket 4 none)  {r : me_M × Unit} (N : me_En X B sz (B, r.1, .ok (none)) 1 22 0 0) (hNx : me_Nx X) (hB : me_St B)  : ∀ (n : Nat) (μ : me_M) (v0 : Nat) (v1 : Int32) (v2 : Int32) (v3 : Int32), f_Row_dropPacket_h4 n μ v0 v1 v2 v3 = some r → me_Z X B 0 0 μ 4 [(0, me_r 17 v0), (1, me_i v1), (2, me_i v2), (3, me_i v3)] [] := by
  intro n
  induction n with
  | zero => intro μ v0 v1 v2 v3 h; exact absurd (show (none : Option (me_M × Unit)) = some r from h) (fun q => by cases q)
  | succ n ih => intro μ v0 v1 v2 v3 h; exact z_Row_dropPacket_b4 C N hNx hB  (K4 := f_Row_dropPacket_h4 n) ih h
def f_Row_dropPacket (μ : me_M) (v0 : Nat) (v1 : Int32) : Option (me_M × Unit) :=
  f_Row_dropPacket_h4 me_FU μ v0 v1 (0 : Int32) (0 : Int32)
set_option maxHeartbeats 4000000 in
set_option maxRecDepth 100000 in
theorem z_Row_dropPacket {X : me_X} {B : me_B} {sz : Nat} (C : me_C X RX8 cX8_dropPacket 4 none) {μ : me_M} {v0 : Nat} {v1 : Int32}  {r : me_M × Unit} (N : me_En X B sz (B, r.1, .ok (none)) 1 22 0 0) (hNx : me_Nx X) (hB : me_St B)  (hf : f_Row_dropPacket μ v0 v1 = some r) : me_Z X B 0 0 μ 0 [(0, me_r 17 v0), (1, me_i v1)] [] := by
  unfold f_Row_dropPacket at hf
  refine me_iconst C (v := 0) dX8_dropPacket_0 (by decide) ?_
  refine me_istore_n C 2 dX8_dropPacket_1 rfl (by decide) (L' := [(2, me_i (0 : Int32)), (0, me_r 17 v0), (1, me_i v1)]) rfl ?_
  refine me_iconst C (v := 0) dX8_dropPacket_2 (by decide) ?_
  refine me_istore_n C 3 dX8_dropPacket_3 rfl (by decide) (L' := [(3, me_i (0 : Int32)), (2, me_i (0 : Int32)), (0, me_r 17 v0), (1, me_i v1)]) rfl ?_
  refine me_dropI [(0, me_r 17 v0), (1, me_i v1), (2, me_i (0 : Int32)), (3, me_i (0 : Int32))] [2, 3, 1, 0] rfl ?_
  exact z_Row_dropPacket_h4 C N hNx hB me_FU μ v0 v1 (0 : Int32) (0 : Int32) hf
theorem c_Row_dropPacket {B : me_B} (hB : me_St B) {μ : me_M} {v0 : Nat} {v1 : Int32} {μ' : me_M} {r : Unit} (hf : f_Row_dropPacket μ v0 v1 = some (μ', r)) : ∀ l E z, l.stackTraces = false → me_Met l yX8_dropPacket cX8_dropPacket 4 none 1 22 0 0 E B μ z [me_r 17 v0, me_i v1] (B, μ', .ok (none)) :=
  fun _ _ _ hl => me_ofZ hl (by decide +kernel) (Nat.le_of_ble_eq_true rfl) (fun _ C N hNx => z_Row_dropPacket C N hNx hB hf)
