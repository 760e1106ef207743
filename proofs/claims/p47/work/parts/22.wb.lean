/-! WALKS: Core_pushAndGoOn, Core_load, Core_store, Core_reckon, Core_jump, Mover_reset, Mover_beginBeat, Mover_endBeat, Row_canBeLookedAt, Post_find, Net_alongX, Net_alongY, Net_opposite, Row_hasPlace, Ways_isFreeAhead, Net_isWhole, Ways_headingByTurns -/
theorem dX1_pushAndGoOn_0 : decode cX1_pushAndGoOn 0 = .ok (.aload_n 0, 1) := by decide +kernel
theorem dX1_pushAndGoOn_1 : decode cX1_pushAndGoOn 1 = .ok (.invokevirtual 50, 3) := by decide +kernel
theorem dX1_pushAndGoOn_4 : decode cX1_pushAndGoOn 4 = .ok (.ifCond .eq 10, 3) := by decide +kernel
theorem dX1_pushAndGoOn_7 : decode cX1_pushAndGoOn 7 = .ok (.aload_n 0, 1) := by decide +kernel
theorem dX1_pushAndGoOn_8 : decode cX1_pushAndGoOn 8 = .ok (.bipush 111, 2) := by decide +kernel
theorem dX1_pushAndGoOn_10 : decode cX1_pushAndGoOn 10 = .ok (.invokevirtual 46, 3) := by decide +kernel
theorem dX1_pushAndGoOn_13 : decode cX1_pushAndGoOn 13 = .ok (.return_, 1) := by decide +kernel
theorem dX1_pushAndGoOn_14 : decode cX1_pushAndGoOn 14 = .ok (.aload_n 0, 1) := by decide +kernel
theorem dX1_pushAndGoOn_15 : decode cX1_pushAndGoOn 15 = .ok (.getfield 15, 3) := by decide +kernel
theorem dX1_pushAndGoOn_18 : decode cX1_pushAndGoOn 18 = .ok (.aload_n 0, 1) := by decide +kernel
theorem dX1_pushAndGoOn_19 : decode cX1_pushAndGoOn 19 = .ok (.getfield 25, 3) := by decide +kernel
theorem dX1_pushAndGoOn_22 : decode cX1_pushAndGoOn 22 = .ok (.iload_n 1, 1) := by decide +kernel
theorem dX1_pushAndGoOn_23 : decode cX1_pushAndGoOn 23 = .ok (.iastore, 1) := by decide +kernel
theorem dX1_pushAndGoOn_24 : decode cX1_pushAndGoOn 24 = .ok (.aload_n 0, 1) := by decide +kernel
theorem dX1_pushAndGoOn_25 : decode cX1_pushAndGoOn 25 = .ok (.dup, 1) := by decide +kernel
theorem dX1_pushAndGoOn_26 : decode cX1_pushAndGoOn 26 = .ok (.getfield 25, 3) := by decide +kernel
theorem dX1_pushAndGoOn_29 : decode cX1_pushAndGoOn 29 = .ok (.iconst 1, 1) := by decide +kernel
theorem dX1_pushAndGoOn_30 : decode cX1_pushAndGoOn 30 = .ok (.iadd, 1) := by decide +kernel
theorem dX1_pushAndGoOn_31 : decode cX1_pushAndGoOn 31 = .ok (.putfield 25, 3) := by decide +kernel
theorem dX1_pushAndGoOn_34 : decode cX1_pushAndGoOn 34 = .ok (.aload_n 0, 1) := by decide +kernel
theorem dX1_pushAndGoOn_35 : decode cX1_pushAndGoOn 35 = .ok (.dup, 1) := by decide +kernel
theorem dX1_pushAndGoOn_36 : decode cX1_pushAndGoOn 36 = .ok (.getfield 32, 3) := by decide +kernel
theorem dX1_pushAndGoOn_39 : decode cX1_pushAndGoOn 39 = .ok (.iconst 1, 1) := by decide +kernel
theorem dX1_pushAndGoOn_40 : decode cX1_pushAndGoOn 40 = .ok (.iadd, 1) := by decide +kernel
theorem dX1_pushAndGoOn_41 : decode cX1_pushAndGoOn 41 = .ok (.putfield 32, 3) := by decide +kernel
theorem dX1_pushAndGoOn_44 : decode cX1_pushAndGoOn 44 = .ok (.return_, 1) := by decide +kernel
theorem dX1_load_0 : decode cX1_load 0 = .ok (.iload_n 1, 1) := by decide +kernel
theorem dX1_load_1 : decode cX1_load 1 = .ok (.ifCond .lt 19, 3) := by decide +kernel
theorem dX1_load_4 : decode cX1_load 4 = .ok (.iload_n 1, 1) := by decide +kernel
theorem dX1_load_5 : decode cX1_load 5 = .ok (.bipush 8, 2) := by decide +kernel
theorem dX1_load_7 : decode cX1_load 7 = .ok (.if_icmp .ge 13, 3) := by decide +kernel
theorem dX1_load_10 : decode cX1_load 10 = .ok (.aload_n 0, 1) := by decide +kernel
theorem dX1_load_11 : decode cX1_load 11 = .ok (.aload_n 0, 1) := by decide +kernel
theorem dX1_load_12 : decode cX1_load 12 = .ok (.getfield 9, 3) := by decide +kernel
theorem dX1_load_15 : decode cX1_load 15 = .ok (.iload_n 1, 1) := by decide +kernel
theorem dX1_load_16 : decode cX1_load 16 = .ok (.iaload, 1) := by decide +kernel
theorem dX1_load_17 : decode cX1_load 17 = .ok (.invokevirtual 53, 3) := by decide +kernel
theorem dX1_load_20 : decode cX1_load 20 = .ok (.return_, 1) := by decide +kernel
theorem dX1_store_0 : decode cX1_store 0 = .ok (.iload_n 1, 1) := by decide +kernel
theorem dX1_store_1 : decode cX1_store 1 = .ok (.ifCond .lt 52, 3) := by decide +kernel
theorem dX1_store_4 : decode cX1_store 4 = .ok (.iload_n 1, 1) := by decide +kernel
theorem dX1_store_5 : decode cX1_store 5 = .ok (.bipush 8, 2) := by decide +kernel
theorem dX1_store_7 : decode cX1_store 7 = .ok (.if_icmp .ge 46, 3) := by decide +kernel
theorem dX1_store_10 : decode cX1_store 10 = .ok (.aload_n 0, 1) := by decide +kernel
theorem dX1_store_11 : decode cX1_store 11 = .ok (.iconst 1, 1) := by decide +kernel
theorem dX1_store_12 : decode cX1_store 12 = .ok (.invokevirtual 57, 3) := by decide +kernel
theorem dX1_store_15 : decode cX1_store 15 = .ok (.ifCond .eq 38, 3) := by decide +kernel
theorem dX1_store_18 : decode cX1_store 18 = .ok (.aload_n 0, 1) := by decide +kernel
theorem dX1_store_19 : decode cX1_store 19 = .ok (.dup, 1) := by decide +kernel
theorem dX1_store_20 : decode cX1_store 20 = .ok (.getfield 25, 3) := by decide +kernel
theorem dX1_store_23 : decode cX1_store 23 = .ok (.iconst 1, 1) := by decide +kernel
theorem dX1_store_24 : decode cX1_store 24 = .ok (.isub, 1) := by decide +kernel
theorem dX1_store_25 : decode cX1_store 25 = .ok (.putfield 25, 3) := by decide +kernel
theorem dX1_store_28 : decode cX1_store 28 = .ok (.aload_n 0, 1) := by decide +kernel
theorem dX1_store_29 : decode cX1_store 29 = .ok (.getfield 9, 3) := by decide +kernel
theorem dX1_store_32 : decode cX1_store 32 = .ok (.iload_n 1, 1) := by decide +kernel
theorem dX1_store_33 : decode cX1_store 33 = .ok (.aload_n 0, 1) := by decide +kernel
theorem dX1_store_34 : decode cX1_store 34 = .ok (.getfield 15, 3) := by decide +kernel
theorem dX1_store_37 : decode cX1_store 37 = .ok (.aload_n 0, 1) := by decide +kernel
theorem dX1_store_38 : decode cX1_store 38 = .ok (.getfield 25, 3) := by decide +kernel
theorem dX1_store_41 : decode cX1_store 41 = .ok (.iaload, 1) := by decide +kernel
theorem dX1_store_42 : decode cX1_store 42 = .ok (.iastore, 1) := by decide +kernel
theorem dX1_store_43 : decode cX1_store 43 = .ok (.aload_n 0, 1) := by decide +kernel
theorem dX1_store_44 : decode cX1_store 44 = .ok (.dup, 1) := by decide +kernel
theorem dX1_store_45 : decode cX1_store 45 = .ok (.getfield 32, 3) := by decide +kernel
theorem dX1_store_48 : decode cX1_store 48 = .ok (.iconst 1, 1) := by decide +kernel
theorem dX1_store_49 : decode cX1_store 49 = .ok (.iadd, 1) := by decide +kernel
theorem dX1_store_50 : decode cX1_store 50 = .ok (.putfield 32, 3) := by decide +kernel
theorem dX1_store_53 : decode cX1_store 53 = .ok (.return_, 1) := by decide +kernel
theorem dX1_reckon_0 : decode cX1_reckon 0 = .ok (.aload_n 0, 1) := by decide +kernel
theorem dX1_reckon_1 : decode cX1_reckon 1 = .ok (.iconst 2, 1) := by decide +kernel
theorem dX1_reckon_2 : decode cX1_reckon 2 = .ok (.invokevirtual 57, 3) := by decide +kernel
theorem dX1_reckon_5 : decode cX1_reckon 5 = .ok (.ifCond .eq 89, 3) := by decide +kernel
theorem dX1_reckon_8 : decode cX1_reckon 8 = .ok (.aload_n 0, 1) := by decide +kernel
theorem dX1_reckon_9 : decode cX1_reckon 9 = .ok (.getfield 15, 3) := by decide +kernel
theorem dX1_reckon_12 : decode cX1_reckon 12 = .ok (.aload_n 0, 1) := by decide +kernel
theorem dX1_reckon_13 : decode cX1_reckon 13 = .ok (.getfield 25, 3) := by decide +kernel
theorem dX1_reckon_16 : decode cX1_reckon 16 = .ok (.iconst 1, 1) := by decide +kernel
theorem dX1_reckon_17 : decode cX1_reckon 17 = .ok (.isub, 1) := by decide +kernel
theorem dX1_reckon_18 : decode cX1_reckon 18 = .ok (.iaload, 1) := by decide +kernel
theorem dX1_reckon_19 : decode cX1_reckon 19 = .ok (.istore_n 2, 1) := by decide +kernel
theorem dX1_reckon_20 : decode cX1_reckon 20 = .ok (.aload_n 0, 1) := by decide +kernel
theorem dX1_reckon_21 : decode cX1_reckon 21 = .ok (.getfield 15, 3) := by decide +kernel
theorem dX1_reckon_24 : decode cX1_reckon 24 = .ok (.aload_n 0, 1) := by decide +kernel
theorem dX1_reckon_25 : decode cX1_reckon 25 = .ok (.getfield 25, 3) := by decide +kernel
theorem dX1_reckon_28 : decode cX1_reckon 28 = .ok (.iconst 2, 1) := by decide +kernel
theorem dX1_reckon_29 : decode cX1_reckon 29 = .ok (.isub, 1) := by decide +kernel
theorem dX1_reckon_30 : decode cX1_reckon 30 = .ok (.iaload, 1) := by decide +kernel
theorem dX1_reckon_31 : decode cX1_reckon 31 = .ok (.istore_n 3, 1) := by decide +kernel
theorem dX1_reckon_32 : decode cX1_reckon 32 = .ok (.iload_n 1, 1) := by decide +kernel
theorem dX1_reckon_33 : decode cX1_reckon 33 = .ok (.bipush 43, 2) := by decide +kernel
theorem dX1_reckon_35 : decode cX1_reckon 35 = .ok (.if_icmp .ne 9, 3) := by decide +kernel
theorem dX1_reckon_38 : decode cX1_reckon 38 = .ok (.iload_n 3, 1) := by decide +kernel
theorem dX1_reckon_39 : decode cX1_reckon 39 = .ok (.iload_n 2, 1) := by decide +kernel
theorem dX1_reckon_40 : decode cX1_reckon 40 = .ok (.iadd, 1) := by decide +kernel
theorem dX1_reckon_41 : decode cX1_reckon 41 = .ok (.goto 6, 3) := by decide +kernel
theorem dX1_reckon_44 : decode cX1_reckon 44 = .ok (.iload_n 3, 1) := by decide +kernel
theorem dX1_reckon_45 : decode cX1_reckon 45 = .ok (.iload_n 2, 1) := by decide +kernel
theorem dX1_reckon_46 : decode cX1_reckon 46 = .ok (.isub, 1) := by decide +kernel
theorem dX1_reckon_47 : decode cX1_reckon 47 = .ok (.istore 4, 2) := by decide +kernel
theorem dX1_reckon_49 : decode cX1_reckon 49 = .ok (.aload_n 0, 1) := by decide +kernel
theorem dX1_reckon_50 : decode cX1_reckon 50 = .ok (.getfield 15, 3) := by decide +kernel
theorem dX1_reckon_53 : decode cX1_reckon 53 = .ok (.aload_n 0, 1) := by decide +kernel
theorem dX1_reckon_54 : decode cX1_reckon 54 = .ok (.getfield 25, 3) := by decide +kernel
theorem dX1_reckon_57 : decode cX1_reckon 57 = .ok (.iconst 2, 1) := by decide +kernel
theorem dX1_reckon_58 : decode cX1_reckon 58 = .ok (.isub, 1) := by decide +kernel
theorem dX1_reckon_59 : decode cX1_reckon 59 = .ok (.iload_n 1, 1) := by decide +kernel
theorem dX1_reckon_60 : decode cX1_reckon 60 = .ok (.bipush 42, 2) := by decide +kernel
theorem dX1_reckon_62 : decode cX1_reckon 62 = .ok (.if_icmp .ne 9, 3) := by decide +kernel
theorem dX1_reckon_65 : decode cX1_reckon 65 = .ok (.iload_n 3, 1) := by decide +kernel
theorem dX1_reckon_66 : decode cX1_reckon 66 = .ok (.iload_n 2, 1) := by decide +kernel
theorem dX1_reckon_67 : decode cX1_reckon 67 = .ok (.imul, 1) := by decide +kernel
theorem dX1_reckon_68 : decode cX1_reckon 68 = .ok (.goto 5, 3) := by decide +kernel
theorem dX1_reckon_71 : decode cX1_reckon 71 = .ok (.iload 4, 2) := by decide +kernel
theorem dX1_reckon_73 : decode cX1_reckon 73 = .ok (.iastore, 1) := by decide +kernel
theorem dX1_reckon_74 : decode cX1_reckon 74 = .ok (.aload_n 0, 1) := by decide +kernel
theorem dX1_reckon_75 : decode cX1_reckon 75 = .ok (.dup, 1) := by decide +kernel
theorem dX1_reckon_76 : decode cX1_reckon 76 = .ok (.getfield 25, 3) := by decide +kernel
theorem dX1_reckon_79 : decode cX1_reckon 79 = .ok (.iconst 1, 1) := by decide +kernel
theorem dX1_reckon_80 : decode cX1_reckon 80 = .ok (.isub, 1) := by decide +kernel
theorem dX1_reckon_81 : decode cX1_reckon 81 = .ok (.putfield 25, 3) := by decide +kernel
theorem dX1_reckon_84 : decode cX1_reckon 84 = .ok (.aload_n 0, 1) := by decide +kernel
theorem dX1_reckon_85 : decode cX1_reckon 85 = .ok (.dup, 1) := by decide +kernel
theorem dX1_reckon_86 : decode cX1_reckon 86 = .ok (.getfield 32, 3) := by decide +kernel
theorem dX1_reckon_89 : decode cX1_reckon 89 = .ok (.iconst 1, 1) := by decide +kernel
theorem dX1_reckon_90 : decode cX1_reckon 90 = .ok (.iadd, 1) := by decide +kernel
theorem dX1_reckon_91 : decode cX1_reckon 91 = .ok (.putfield 32, 3) := by decide +kernel
theorem dX1_reckon_94 : decode cX1_reckon 94 = .ok (.return_, 1) := by decide +kernel
theorem dX1_jump_0 : decode cX1_jump 0 = .ok (.aload_n 0, 1) := by decide +kernel
theorem dX1_jump_1 : decode cX1_jump 1 = .ok (.iconst 1, 1) := by decide +kernel
theorem dX1_jump_2 : decode cX1_jump 2 = .ok (.invokevirtual 57, 3) := by decide +kernel
theorem dX1_jump_5 : decode cX1_jump 5 = .ok (.ifCond .eq 39, 3) := by decide +kernel
theorem dX1_jump_8 : decode cX1_jump 8 = .ok (.aload_n 0, 1) := by decide +kernel
theorem dX1_jump_9 : decode cX1_jump 9 = .ok (.dup, 1) := by decide +kernel
theorem dX1_jump_10 : decode cX1_jump 10 = .ok (.getfield 25, 3) := by decide +kernel
theorem dX1_jump_13 : decode cX1_jump 13 = .ok (.iconst 1, 1) := by decide +kernel
theorem dX1_jump_14 : decode cX1_jump 14 = .ok (.isub, 1) := by decide +kernel
theorem dX1_jump_15 : decode cX1_jump 15 = .ok (.putfield 25, 3) := by decide +kernel
theorem dX1_jump_18 : decode cX1_jump 18 = .ok (.aload_n 0, 1) := by decide +kernel
theorem dX1_jump_19 : decode cX1_jump 19 = .ok (.aload_n 0, 1) := by decide +kernel
theorem dX1_jump_20 : decode cX1_jump 20 = .ok (.getfield 15, 3) := by decide +kernel
theorem dX1_jump_23 : decode cX1_jump 23 = .ok (.aload_n 0, 1) := by decide +kernel
theorem dX1_jump_24 : decode cX1_jump 24 = .ok (.getfield 25, 3) := by decide +kernel
theorem dX1_jump_27 : decode cX1_jump 27 = .ok (.iaload, 1) := by decide +kernel
theorem dX1_jump_28 : decode cX1_jump 28 = .ok (.ifCond .eq 7, 3) := by decide +kernel
theorem dX1_jump_31 : decode cX1_jump 31 = .ok (.iload_n 1, 1) := by decide +kernel
theorem dX1_jump_32 : decode cX1_jump 32 = .ok (.goto 9, 3) := by decide +kernel
theorem dX1_jump_35 : decode cX1_jump 35 = .ok (.aload_n 0, 1) := by decide +kernel
theorem dX1_jump_36 : decode cX1_jump 36 = .ok (.getfield 32, 3) := by decide +kernel
theorem dX1_jump_39 : decode cX1_jump 39 = .ok (.iconst 1, 1) := by decide +kernel
theorem dX1_jump_40 : decode cX1_jump 40 = .ok (.iadd, 1) := by decide +kernel
theorem dX1_jump_41 : decode cX1_jump 41 = .ok (.putfield 32, 3) := by decide +kernel
theorem dX1_jump_44 : decode cX1_jump 44 = .ok (.return_, 1) := by decide +kernel
theorem dX2_reset_0 : decode cX2_reset 0 = .ok (.aload_n 0, 1) := by decide +kernel
theorem dX2_reset_1 : decode cX2_reset 1 = .ok (.iconst 0, 1) := by decide +kernel
theorem dX2_reset_2 : decode cX2_reset 2 = .ok (.putfield 35, 3) := by decide +kernel
theorem dX2_reset_5 : decode cX2_reset 5 = .ok (.aload_n 0, 1) := by decide +kernel
theorem dX2_reset_6 : decode cX2_reset 6 = .ok (.iconst 0, 1) := by decide +kernel
theorem dX2_reset_7 : decode cX2_reset 7 = .ok (.putfield 39, 3) := by decide +kernel
theorem dX2_reset_10 : decode cX2_reset 10 = .ok (.aload_n 0, 1) := by decide +kernel
theorem dX2_reset_11 : decode cX2_reset 11 = .ok (.iconst 0, 1) := by decide +kernel
theorem dX2_reset_12 : decode cX2_reset 12 = .ok (.putfield 42, 3) := by decide +kernel
theorem dX2_reset_15 : decode cX2_reset 15 = .ok (.return_, 1) := by decide +kernel
theorem dX2_beginBeat_0 : decode cX2_beginBeat 0 = .ok (.aload_n 0, 1) := by decide +kernel
theorem dX2_beginBeat_1 : decode cX2_beginBeat 1 = .ok (.aload_n 0, 1) := by decide +kernel
theorem dX2_beginBeat_2 : decode cX2_beginBeat 2 = .ok (.getfield 35, 3) := by decide +kernel
theorem dX2_beginBeat_5 : decode cX2_beginBeat 5 = .ok (.iconst 1, 1) := by decide +kernel
theorem dX2_beginBeat_6 : decode cX2_beginBeat 6 = .ok (.iadd, 1) := by decide +kernel
theorem dX2_beginBeat_7 : decode cX2_beginBeat 7 = .ok (.putfield 39, 3) := by decide +kernel
theorem dX2_beginBeat_10 : decode cX2_beginBeat 10 = .ok (.aload_n 0, 1) := by decide +kernel
theorem dX2_beginBeat_11 : decode cX2_beginBeat 11 = .ok (.iconst 0, 1) := by decide +kernel
theorem dX2_beginBeat_12 : decode cX2_beginBeat 12 = .ok (.putfield 42, 3) := by decide +kernel
theorem dX2_beginBeat_15 : decode cX2_beginBeat 15 = .ok (.return_, 1) := by decide +kernel
theorem dX2_endBeat_0 : decode cX2_endBeat 0 = .ok (.iconst 0, 1) := by decide +kernel
theorem dX2_endBeat_1 : decode cX2_endBeat 1 = .ok (.istore_n 1, 1) := by decide +kernel
theorem dX2_endBeat_2 : decode cX2_endBeat 2 = .ok (.iload_n 1, 1) := by decide +kernel
theorem dX2_endBeat_3 : decode cX2_endBeat 3 = .ok (.aload_n 0, 1) := by decide +kernel
theorem dX2_endBeat_4 : decode cX2_endBeat 4 = .ok (.getfield 15, 3) := by decide +kernel
theorem dX2_endBeat_7 : decode cX2_endBeat 7 = .ok (.getfield 46, 3) := by decide +kernel
theorem dX2_endBeat_10 : decode cX2_endBeat 10 = .ok (.if_icmp .ge 33, 3) := by decide +kernel
theorem dX2_endBeat_13 : decode cX2_endBeat 13 = .ok (.aload_n 0, 1) := by decide +kernel
theorem dX2_endBeat_14 : decode cX2_endBeat 14 = .ok (.getfield 26, 3) := by decide +kernel
theorem dX2_endBeat_17 : decode cX2_endBeat 17 = .ok (.iload_n 1, 1) := by decide +kernel
theorem dX2_endBeat_18 : decode cX2_endBeat 18 = .ok (.aaload, 1) := by decide +kernel
theorem dX2_endBeat_19 : decode cX2_endBeat 19 = .ok (.astore_n 2, 1) := by decide +kernel
theorem dX2_endBeat_20 : decode cX2_endBeat 20 = .ok (.aload_n 2, 1) := by decide +kernel
theorem dX2_endBeat_21 : decode cX2_endBeat 21 = .ok (.getfield 51, 3) := by decide +kernel
theorem dX2_endBeat_24 : decode cX2_endBeat 24 = .ok (.ifCond .eq 13, 3) := by decide +kernel
theorem dX2_endBeat_27 : decode cX2_endBeat 27 = .ok (.aload_n 2, 1) := by decide +kernel
theorem dX2_endBeat_28 : decode cX2_endBeat 28 = .ok (.iconst 1, 1) := by decide +kernel
theorem dX2_endBeat_29 : decode cX2_endBeat 29 = .ok (.putfield 56, 3) := by decide +kernel
theorem dX2_endBeat_32 : decode cX2_endBeat 32 = .ok (.aload_n 2, 1) := by decide +kernel
theorem dX2_endBeat_33 : decode cX2_endBeat 33 = .ok (.iconst 0, 1) := by decide +kernel
theorem dX2_endBeat_34 : decode cX2_endBeat 34 = .ok (.putfield 51, 3) := by decide +kernel
theorem dX2_endBeat_37 : decode cX2_endBeat 37 = .ok (.iinc 1 1, 3) := by decide +kernel
theorem dX2_endBeat_40 : decode cX2_endBeat 40 = .ok (.goto (-38), 3) := by decide +kernel
theorem dX2_endBeat_43 : decode cX2_endBeat 43 = .ok (.aload_n 0, 1) := by decide +kernel
theorem dX2_endBeat_44 : decode cX2_endBeat 44 = .ok (.aload_n 0, 1) := by decide +kernel
theorem dX2_endBeat_45 : decode cX2_endBeat 45 = .ok (.getfield 39, 3) := by decide +kernel
theorem dX2_endBeat_48 : decode cX2_endBeat 48 = .ok (.putfield 35, 3) := by decide +kernel
theorem dX2_endBeat_51 : decode cX2_endBeat 51 = .ok (.return_, 1) := by decide +kernel
theorem dX8_canBeLookedAt_0 : decode cX8_canBeLookedAt 0 = .ok (.aload_n 0, 1) := by decide +kernel
theorem dX8_canBeLookedAt_1 : decode cX8_canBeLookedAt 1 = .ok (.getfield 21, 3) := by decide +kernel
theorem dX8_canBeLookedAt_4 : decode cX8_canBeLookedAt 4 = .ok (.ifCond .le 25, 3) := by decide +kernel
theorem dX8_canBeLookedAt_7 : decode cX8_canBeLookedAt 7 = .ok (.aload_n 0, 1) := by decide +kernel
theorem dX8_canBeLookedAt_8 : decode cX8_canBeLookedAt 8 = .ok (.getfield 31, 3) := by decide +kernel
theorem dX8_canBeLookedAt_11 : decode cX8_canBeLookedAt 11 = .ok (.iload_n 1, 1) := by decide +kernel
theorem dX8_canBeLookedAt_12 : decode cX8_canBeLookedAt 12 = .ok (.if_icmp .eq 17, 3) := by decide +kernel
theorem dX8_canBeLookedAt_15 : decode cX8_canBeLookedAt 15 = .ok (.aload_n 0, 1) := by decide +kernel
theorem dX8_canBeLookedAt_16 : decode cX8_canBeLookedAt 16 = .ok (.getfield 18, 3) := by decide +kernel
theorem dX8_canBeLookedAt_19 : decode cX8_canBeLookedAt 19 = .ok (.iconst 0, 1) := by decide +kernel
theorem dX8_canBeLookedAt_20 : decode cX8_canBeLookedAt 20 = .ok (.iaload, 1) := by decide +kernel
theorem dX8_canBeLookedAt_21 : decode cX8_canBeLookedAt 21 = .ok (.iload_n 1, 1) := by decide +kernel
theorem dX8_canBeLookedAt_22 : decode cX8_canBeLookedAt 22 = .ok (.if_icmp .eq 7, 3) := by decide +kernel
theorem dX8_canBeLookedAt_25 : decode cX8_canBeLookedAt 25 = .ok (.iconst 1, 1) := by decide +kernel
theorem dX8_canBeLookedAt_26 : decode cX8_canBeLookedAt 26 = .ok (.goto 4, 3) := by decide +kernel
theorem dX8_canBeLookedAt_29 : decode cX8_canBeLookedAt 29 = .ok (.iconst 0, 1) := by decide +kernel
theorem dX8_canBeLookedAt_30 : decode cX8_canBeLookedAt 30 = .ok (.ireturn, 1) := by decide +kernel
theorem dX6_find_0 : decode cX6_find 0 = .ok (.iload_n 1, 1) := by decide +kernel
theorem dX6_find_1 : decode cX6_find 1 = .ok (.ifCond .lt 27, 3) := by decide +kernel
theorem dX6_find_4 : decode cX6_find 4 = .ok (.iload_n 1, 1) := by decide +kernel
theorem dX6_find_5 : decode cX6_find 5 = .ok (.aload_n 0, 1) := by decide +kernel
theorem dX6_find_6 : decode cX6_find 6 = .ok (.getfield 20, 3) := by decide +kernel
theorem dX6_find_9 : decode cX6_find 9 = .ok (.if_icmp .ge 19, 3) := by decide +kernel
theorem dX6_find_12 : decode cX6_find 12 = .ok (.iload_n 1, 1) := by decide +kernel
theorem dX6_find_13 : decode cX6_find 13 = .ok (.sipush 200, 3) := by decide +kernel
theorem dX6_find_16 : decode cX6_find 16 = .ok (.if_icmp .ge 12, 3) := by decide +kernel
theorem dX6_find_19 : decode cX6_find 19 = .ok (.aload_n 0, 1) := by decide +kernel
theorem dX6_find_20 : decode cX6_find 20 = .ok (.getfield 11, 3) := by decide +kernel
theorem dX6_find_23 : decode cX6_find 23 = .ok (.iload_n 1, 1) := by decide +kernel
theorem dX6_find_24 : decode cX6_find 24 = .ok (.aaload, 1) := by decide +kernel
theorem dX6_find_25 : decode cX6_find 25 = .ok (.goto 4, 3) := by decide +kernel
theorem dX6_find_28 : decode cX6_find 28 = .ok (.aconst_null, 1) := by decide +kernel
theorem dX6_find_29 : decode cX6_find 29 = .ok (.areturn, 1) := by decide +kernel
theorem dX3_alongX_0 : decode cX3_alongX 0 = .ok (.aload_n 0, 1) := by decide +kernel
theorem dX3_alongX_1 : decode cX3_alongX 1 = .ok (.getfield 19, 3) := by decide +kernel
theorem dX3_alongX_4 : decode cX3_alongX 4 = .ok (.iload_n 2, 1) := by decide +kernel
theorem dX3_alongX_5 : decode cX3_alongX 5 = .ok (.iaload, 1) := by decide +kernel
theorem dX3_alongX_6 : decode cX3_alongX 6 = .ok (.aload_n 0, 1) := by decide +kernel
theorem dX3_alongX_7 : decode cX3_alongX 7 = .ok (.getfield 19, 3) := by decide +kernel
theorem dX3_alongX_10 : decode cX3_alongX 10 = .ok (.iload_n 1, 1) := by decide +kernel
theorem dX3_alongX_11 : decode cX3_alongX 11 = .ok (.iaload, 1) := by decide +kernel
theorem dX3_alongX_12 : decode cX3_alongX 12 = .ok (.if_icmp .ne 5, 3) := by decide +kernel
theorem dX3_alongX_15 : decode cX3_alongX 15 = .ok (.iconst (-1), 1) := by decide +kernel
theorem dX3_alongX_16 : decode cX3_alongX 16 = .ok (.ireturn, 1) := by decide +kernel
theorem dX3_alongX_17 : decode cX3_alongX 17 = .ok (.aload_n 0, 1) := by decide +kernel
theorem dX3_alongX_18 : decode cX3_alongX 18 = .ok (.getfield 19, 3) := by decide +kernel
theorem dX3_alongX_21 : decode cX3_alongX 21 = .ok (.iload_n 2, 1) := by decide +kernel
theorem dX3_alongX_22 : decode cX3_alongX 22 = .ok (.iaload, 1) := by decide +kernel
theorem dX3_alongX_23 : decode cX3_alongX 23 = .ok (.aload_n 0, 1) := by decide +kernel
theorem dX3_alongX_24 : decode cX3_alongX 24 = .ok (.getfield 19, 3) := by decide +kernel
theorem dX3_alongX_27 : decode cX3_alongX 27 = .ok (.iload_n 1, 1) := by decide +kernel
theorem dX3_alongX_28 : decode cX3_alongX 28 = .ok (.iaload, 1) := by decide +kernel
theorem dX3_alongX_29 : decode cX3_alongX 29 = .ok (.if_icmp .le 7, 3) := by decide +kernel
theorem dX3_alongX_32 : decode cX3_alongX 32 = .ok (.iconst 0, 1) := by decide +kernel
theorem dX3_alongX_33 : decode cX3_alongX 33 = .ok (.goto 4, 3) := by decide +kernel
theorem dX3_alongX_36 : decode cX3_alongX 36 = .ok (.iconst 1, 1) := by decide +kernel
theorem dX3_alongX_37 : decode cX3_alongX 37 = .ok (.ireturn, 1) := by decide +kernel
theorem dX3_alongY_0 : decode cX3_alongY 0 = .ok (.aload_n 0, 1) := by decide +kernel
theorem dX3_alongY_1 : decode cX3_alongY 1 = .ok (.getfield 22, 3) := by decide +kernel
theorem dX3_alongY_4 : decode cX3_alongY 4 = .ok (.iload_n 2, 1) := by decide +kernel
theorem dX3_alongY_5 : decode cX3_alongY 5 = .ok (.iaload, 1) := by decide +kernel
theorem dX3_alongY_6 : decode cX3_alongY 6 = .ok (.aload_n 0, 1) := by decide +kernel
theorem dX3_alongY_7 : decode cX3_alongY 7 = .ok (.getfield 22, 3) := by decide +kernel
theorem dX3_alongY_10 : decode cX3_alongY 10 = .ok (.iload_n 1, 1) := by decide +kernel
theorem dX3_alongY_11 : decode cX3_alongY 11 = .ok (.iaload, 1) := by decide +kernel
theorem dX3_alongY_12 : decode cX3_alongY 12 = .ok (.if_icmp .ne 5, 3) := by decide +kernel
theorem dX3_alongY_15 : decode cX3_alongY 15 = .ok (.iconst (-1), 1) := by decide +kernel
theorem dX3_alongY_16 : decode cX3_alongY 16 = .ok (.ireturn, 1) := by decide +kernel
theorem dX3_alongY_17 : decode cX3_alongY 17 = .ok (.aload_n 0, 1) := by decide +kernel
theorem dX3_alongY_18 : decode cX3_alongY 18 = .ok (.getfield 22, 3) := by decide +kernel
theorem dX3_alongY_21 : decode cX3_alongY 21 = .ok (.iload_n 2, 1) := by decide +kernel
theorem dX3_alongY_22 : decode cX3_alongY 22 = .ok (.iaload, 1) := by decide +kernel
theorem dX3_alongY_23 : decode cX3_alongY 23 = .ok (.aload_n 0, 1) := by decide +kernel
theorem dX3_alongY_24 : decode cX3_alongY 24 = .ok (.getfield 22, 3) := by decide +kernel
theorem dX3_alongY_27 : decode cX3_alongY 27 = .ok (.iload_n 1, 1) := by decide +kernel
theorem dX3_alongY_28 : decode cX3_alongY 28 = .ok (.iaload, 1) := by decide +kernel
theorem dX3_alongY_29 : decode cX3_alongY 29 = .ok (.if_icmp .le 7, 3) := by decide +kernel
theorem dX3_alongY_32 : decode cX3_alongY 32 = .ok (.iconst 2, 1) := by decide +kernel
theorem dX3_alongY_33 : decode cX3_alongY 33 = .ok (.goto 4, 3) := by decide +kernel
theorem dX3_alongY_36 : decode cX3_alongY 36 = .ok (.iconst 3, 1) := by decide +kernel
theorem dX3_alongY_37 : decode cX3_alongY 37 = .ok (.ireturn, 1) := by decide +kernel
theorem dX3_opposite_0 : decode cX3_opposite 0 = .ok (.iload_n 1, 1) := by decide +kernel
theorem dX3_opposite_1 : decode cX3_opposite 1 = .ok (.iconst 1, 1) := by decide +kernel
theorem dX3_opposite_2 : decode cX3_opposite 2 = .ok (.ixor, 1) := by decide +kernel
theorem dX3_opposite_3 : decode cX3_opposite 3 = .ok (.ireturn, 1) := by decide +kernel
theorem dX8_hasPlace_0 : decode cX8_hasPlace 0 = .ok (.aload_n 0, 1) := by decide +kernel
theorem dX8_hasPlace_1 : decode cX8_hasPlace 1 = .ok (.getfield 21, 3) := by decide +kernel
theorem dX8_hasPlace_4 : decode cX8_hasPlace 4 = .ok (.aload_n 0, 1) := by decide +kernel
theorem dX8_hasPlace_5 : decode cX8_hasPlace 5 = .ok (.getfield 34, 3) := by decide +kernel
theorem dX8_hasPlace_8 : decode cX8_hasPlace 8 = .ok (.if_icmp .ge 15, 3) := by decide +kernel
theorem dX8_hasPlace_11 : decode cX8_hasPlace 11 = .ok (.aload_n 0, 1) := by decide +kernel
theorem dX8_hasPlace_12 : decode cX8_hasPlace 12 = .ok (.getfield 21, 3) := by decide +kernel
theorem dX8_hasPlace_15 : decode cX8_hasPlace 15 = .ok (.iconst 4, 1) := by decide +kernel
theorem dX8_hasPlace_16 : decode cX8_hasPlace 16 = .ok (.if_icmp .ge 7, 3) := by decide +kernel
theorem dX8_hasPlace_19 : decode cX8_hasPlace 19 = .ok (.iconst 1, 1) := by decide +kernel
theorem dX8_hasPlace_20 : decode cX8_hasPlace 20 = .ok (.goto 4, 3) := by decide +kernel
theorem dX8_hasPlace_23 : decode cX8_hasPlace 23 = .ok (.iconst 0, 1) := by decide +kernel
theorem dX8_hasPlace_24 : decode cX8_hasPlace 24 = .ok (.ireturn, 1) := by decide +kernel
theorem dX9_isFreeAhead_0 : decode cX9_isFreeAhead 0 = .ok (.iload_n 1, 1) := by decide +kernel
theorem dX9_isFreeAhead_1 : decode cX9_isFreeAhead 1 = .ok (.iconst 4, 1) := by decide +kernel
theorem dX9_isFreeAhead_2 : decode cX9_isFreeAhead 2 = .ok (.imul, 1) := by decide +kernel
theorem dX9_isFreeAhead_3 : decode cX9_isFreeAhead 3 = .ok (.iload_n 2, 1) := by decide +kernel
theorem dX9_isFreeAhead_4 : decode cX9_isFreeAhead 4 = .ok (.iadd, 1) := by decide +kernel
theorem dX9_isFreeAhead_5 : decode cX9_isFreeAhead 5 = .ok (.istore 4, 2) := by decide +kernel
theorem dX9_isFreeAhead_7 : decode cX9_isFreeAhead 7 = .ok (.aload_n 0, 1) := by decide +kernel
theorem dX9_isFreeAhead_8 : decode cX9_isFreeAhead 8 = .ok (.getfield 23, 3) := by decide +kernel
theorem dX9_isFreeAhead_11 : decode cX9_isFreeAhead 11 = .ok (.getfield 52, 3) := by decide +kernel
theorem dX9_isFreeAhead_14 : decode cX9_isFreeAhead 14 = .ok (.iload 4, 2) := by decide +kernel
theorem dX9_isFreeAhead_16 : decode cX9_isFreeAhead 16 = .ok (.iaload, 1) := by decide +kernel
theorem dX9_isFreeAhead_17 : decode cX9_isFreeAhead 17 = .ok (.iconst (-1), 1) := by decide +kernel
theorem dX9_isFreeAhead_18 : decode cX9_isFreeAhead 18 = .ok (.if_icmp .eq 16, 3) := by decide +kernel
theorem dX9_isFreeAhead_21 : decode cX9_isFreeAhead 21 = .ok (.aload_n 0, 1) := by decide +kernel
theorem dX9_isFreeAhead_22 : decode cX9_isFreeAhead 22 = .ok (.getfield 23, 3) := by decide +kernel
theorem dX9_isFreeAhead_25 : decode cX9_isFreeAhead 25 = .ok (.getfield 55, 3) := by decide +kernel
theorem dX9_isFreeAhead_28 : decode cX9_isFreeAhead 28 = .ok (.iload 4, 2) := by decide +kernel
theorem dX9_isFreeAhead_30 : decode cX9_isFreeAhead 30 = .ok (.baload, 1) := by decide +kernel
theorem dX9_isFreeAhead_31 : decode cX9_isFreeAhead 31 = .ok (.ifCond .eq 5, 3) := by decide +kernel
theorem dX9_isFreeAhead_34 : decode cX9_isFreeAhead 34 = .ok (.iconst 0, 1) := by decide +kernel
theorem dX9_isFreeAhead_35 : decode cX9_isFreeAhead 35 = .ok (.ireturn, 1) := by decide +kernel
theorem dX9_isFreeAhead_36 : decode cX9_isFreeAhead 36 = .ok (.aload_n 0, 1) := by decide +kernel
theorem dX9_isFreeAhead_37 : decode cX9_isFreeAhead 37 = .ok (.getfield 27, 3) := by decide +kernel
theorem dX9_isFreeAhead_40 : decode cX9_isFreeAhead 40 = .ok (.aload_n 0, 1) := by decide +kernel
theorem dX9_isFreeAhead_41 : decode cX9_isFreeAhead 41 = .ok (.getfield 23, 3) := by decide +kernel
theorem dX9_isFreeAhead_44 : decode cX9_isFreeAhead 44 = .ok (.getfield 52, 3) := by decide +kernel
theorem dX9_isFreeAhead_47 : decode cX9_isFreeAhead 47 = .ok (.iload 4, 2) := by decide +kernel
theorem dX9_isFreeAhead_49 : decode cX9_isFreeAhead 49 = .ok (.iaload, 1) := by decide +kernel
theorem dX9_isFreeAhead_50 : decode cX9_isFreeAhead 50 = .ok (.aaload, 1) := by decide +kernel
theorem dX9_isFreeAhead_51 : decode cX9_isFreeAhead 51 = .ok (.getfield 58, 3) := by decide +kernel
theorem dX9_isFreeAhead_54 : decode cX9_isFreeAhead 54 = .ok (.iload_n 3, 1) := by decide +kernel
theorem dX9_isFreeAhead_55 : decode cX9_isFreeAhead 55 = .ok (.iconst 5, 1) := by decide +kernel
theorem dX9_isFreeAhead_56 : decode cX9_isFreeAhead 56 = .ok (.imul, 1) := by decide +kernel
theorem dX9_isFreeAhead_57 : decode cX9_isFreeAhead 57 = .ok (.aload_n 0, 1) := by decide +kernel
theorem dX9_isFreeAhead_58 : decode cX9_isFreeAhead 58 = .ok (.getfield 23, 3) := by decide +kernel
theorem dX9_isFreeAhead_61 : decode cX9_isFreeAhead 61 = .ok (.iload_n 2, 1) := by decide +kernel
theorem dX9_isFreeAhead_62 : decode cX9_isFreeAhead 62 = .ok (.invokevirtual 64, 3) := by decide +kernel
theorem dX9_isFreeAhead_65 : decode cX9_isFreeAhead 65 = .ok (.iadd, 1) := by decide +kernel
theorem dX9_isFreeAhead_66 : decode cX9_isFreeAhead 66 = .ok (.aaload, 1) := by decide +kernel
theorem dX9_isFreeAhead_67 : decode cX9_isFreeAhead 67 = .ok (.astore 5, 2) := by decide +kernel
theorem dX9_isFreeAhead_69 : decode cX9_isFreeAhead 69 = .ok (.aload 5, 2) := by decide +kernel
theorem dX9_isFreeAhead_71 : decode cX9_isFreeAhead 71 = .ok (.getfield 68, 3) := by decide +kernel
theorem dX9_isFreeAhead_74 : decode cX9_isFreeAhead 74 = .ok (.iconst (-1), 1) := by decide +kernel
theorem dX9_isFreeAhead_75 : decode cX9_isFreeAhead 75 = .ok (.if_icmp .ne 15, 3) := by decide +kernel
theorem dX9_isFreeAhead_78 : decode cX9_isFreeAhead 78 = .ok (.aload 5, 2) := by decide +kernel
theorem dX9_isFreeAhead_80 : decode cX9_isFreeAhead 80 = .ok (.invokevirtual 74, 3) := by decide +kernel
theorem dX9_isFreeAhead_83 : decode cX9_isFreeAhead 83 = .ok (.ifCond .eq 7, 3) := by decide +kernel
theorem dX9_isFreeAhead_86 : decode cX9_isFreeAhead 86 = .ok (.iconst 1, 1) := by decide +kernel
theorem dX9_isFreeAhead_87 : decode cX9_isFreeAhead 87 = .ok (.goto 4, 3) := by decide +kernel
theorem dX9_isFreeAhead_90 : decode cX9_isFreeAhead 90 = .ok (.iconst 0, 1) := by decide +kernel
theorem dX9_isFreeAhead_91 : decode cX9_isFreeAhead 91 = .ok (.ireturn, 1) := by decide +kernel
theorem dX3_isWhole_0 : decode cX3_isWhole 0 = .ok (.aload_n 0, 1) := by decide +kernel
theorem dX3_isWhole_1 : decode cX3_isWhole 1 = .ok (.getfield 9, 3) := by decide +kernel
theorem dX3_isWhole_4 : decode cX3_isWhole 4 = .ok (.iload_n 1, 1) := by decide +kernel
theorem dX3_isWhole_5 : decode cX3_isWhole 5 = .ok (.iaload, 1) := by decide +kernel
theorem dX3_isWhole_6 : decode cX3_isWhole 6 = .ok (.iconst (-1), 1) := by decide +kernel
theorem dX3_isWhole_7 : decode cX3_isWhole 7 = .ok (.if_icmp .eq 16, 3) := by decide +kernel
theorem dX3_isWhole_10 : decode cX3_isWhole 10 = .ok (.aload_n 0, 1) := by decide +kernel
theorem dX3_isWhole_11 : decode cX3_isWhole 11 = .ok (.getfield 15, 3) := by decide +kernel
theorem dX3_isWhole_14 : decode cX3_isWhole 14 = .ok (.iload_n 1, 1) := by decide +kernel
theorem dX3_isWhole_15 : decode cX3_isWhole 15 = .ok (.baload, 1) := by decide +kernel
theorem dX3_isWhole_16 : decode cX3_isWhole 16 = .ok (.ifCond .ne 7, 3) := by decide +kernel
theorem dX3_isWhole_19 : decode cX3_isWhole 19 = .ok (.iconst 1, 1) := by decide +kernel
theorem dX3_isWhole_20 : decode cX3_isWhole 20 = .ok (.goto 4, 3) := by decide +kernel
theorem dX3_isWhole_23 : decode cX3_isWhole 23 = .ok (.iconst 0, 1) := by decide +kernel
theorem dX3_isWhole_24 : decode cX3_isWhole 24 = .ok (.ireturn, 1) := by decide +kernel
theorem dX9_headingByTurns_0 : decode cX9_headingByTurns 0 = .ok (.aload_n 0, 1) := by decide +kernel
theorem dX9_headingByTurns_1 : decode cX9_headingByTurns 1 = .ok (.getfield 23, 3) := by decide +kernel
theorem dX9_headingByTurns_4 : decode cX9_headingByTurns 4 = .ok (.iload_n 1, 1) := by decide +kernel
theorem dX9_headingByTurns_5 : decode cX9_headingByTurns 5 = .ok (.iload_n 2, 1) := by decide +kernel
theorem dX9_headingByTurns_6 : decode cX9_headingByTurns 6 = .ok (.invokevirtual 35, 3) := by decide +kernel
theorem dX9_headingByTurns_9 : decode cX9_headingByTurns 9 = .ok (.istore 4, 2) := by decide +kernel
theorem dX9_headingByTurns_11 : decode cX9_headingByTurns 11 = .ok (.aload_n 0, 1) := by decide +kernel
theorem dX9_headingByTurns_12 : decode cX9_headingByTurns 12 = .ok (.getfield 23, 3) := by decide +kernel
theorem dX9_headingByTurns_15 : decode cX9_headingByTurns 15 = .ok (.iload_n 1, 1) := by decide +kernel
theorem dX9_headingByTurns_16 : decode cX9_headingByTurns 16 = .ok (.iload_n 2, 1) := by decide +kernel
theorem dX9_headingByTurns_17 : decode cX9_headingByTurns 17 = .ok (.invokevirtual 41, 3) := by decide +kernel
theorem dX9_headingByTurns_20 : decode cX9_headingByTurns 20 = .ok (.istore 5, 2) := by decide +kernel
theorem dX9_headingByTurns_22 : decode cX9_headingByTurns 22 = .ok (.iload 4, 2) := by decide +kernel
theorem dX9_headingByTurns_24 : decode cX9_headingByTurns 24 = .ok (.iconst 1, 1) := by decide +kernel
theorem dX9_headingByTurns_25 : decode cX9_headingByTurns 25 = .ok (.if_icmp .eq 9, 3) := by decide +kernel
theorem dX9_headingByTurns_28 : decode cX9_headingByTurns 28 = .ok (.iload 5, 2) := by decide +kernel
theorem dX9_headingByTurns_30 : decode cX9_headingByTurns 30 = .ok (.iconst (-1), 1) := by decide +kernel
theorem dX9_headingByTurns_31 : decode cX9_headingByTurns 31 = .ok (.if_icmp .ne 6, 3) := by decide +kernel
theorem dX9_headingByTurns_34 : decode cX9_headingByTurns 34 = .ok (.iload 4, 2) := by decide +kernel
theorem dX9_headingByTurns_36 : decode cX9_headingByTurns 36 = .ok (.ireturn, 1) := by decide +kernel
theorem dX9_headingByTurns_37 : decode cX9_headingByTurns 37 = .ok (.iload 4, 2) := by decide +kernel
theorem dX9_headingByTurns_39 : decode cX9_headingByTurns 39 = .ok (.iconst (-1), 1) := by decide +kernel
theorem dX9_headingByTurns_40 : decode cX9_headingByTurns 40 = .ok (.if_icmp .ne 6, 3) := by decide +kernel
theorem dX9_headingByTurns_43 : decode cX9_headingByTurns 43 = .ok (.iload 5, 2) := by decide +kernel
theorem dX9_headingByTurns_45 : decode cX9_headingByTurns 45 = .ok (.ireturn, 1) := by decide +kernel
theorem dX9_headingByTurns_46 : decode cX9_headingByTurns 46 = .ok (.aload_n 0, 1) := by decide +kernel
theorem dX9_headingByTurns_47 : decode cX9_headingByTurns 47 = .ok (.iload_n 1, 1) := by decide +kernel
theorem dX9_headingByTurns_48 : decode cX9_headingByTurns 48 = .ok (.iload 4, 2) := by decide +kernel
theorem dX9_headingByTurns_50 : decode cX9_headingByTurns 50 = .ok (.iload_n 3, 1) := by decide +kernel
theorem dX9_headingByTurns_51 : decode cX9_headingByTurns 51 = .ok (.invokevirtual 44, 3) := by decide +kernel
theorem dX9_headingByTurns_54 : decode cX9_headingByTurns 54 = .ok (.ifCond .eq 6, 3) := by decide +kernel
theorem dX9_headingByTurns_57 : decode cX9_headingByTurns 57 = .ok (.iload 4, 2) := by decide +kernel
theorem dX9_headingByTurns_59 : decode cX9_headingByTurns 59 = .ok (.ireturn, 1) := by decide +kernel
theorem dX9_headingByTurns_60 : decode cX9_headingByTurns 60 = .ok (.aload_n 0, 1) := by decide +kernel
theorem dX9_headingByTurns_61 : decode cX9_headingByTurns 61 = .ok (.iload_n 1, 1) := by decide +kernel
theorem dX9_headingByTurns_62 : decode cX9_headingByTurns 62 = .ok (.iload 5, 2) := by decide +kernel
theorem dX9_headingByTurns_64 : decode cX9_headingByTurns 64 = .ok (.iload_n 3, 1) := by decide +kernel
theorem dX9_headingByTurns_65 : decode cX9_headingByTurns 65 = .ok (.invokevirtual 44, 3) := by decide +kernel
theorem dX9_headingByTurns_68 : decode cX9_headingByTurns 68 = .ok (.ifCond .eq 6, 3) := by decide +kernel
theorem dX9_headingByTurns_71 : decode cX9_headingByTurns 71 = .ok (.iload 5, 2) := by decide +kernel
theorem dX9_headingByTurns_73 : decode cX9_headingByTurns 73 = .ok (.ireturn, 1) := by decide +kernel
theorem dX9_headingByTurns_74 : decode cX9_headingByTurns 74 = .ok (.aload_n 0, 1) := by decide +kernel
theorem dX9_headingByTurns_75 : decode cX9_headingByTurns 75 = .ok (.getfield 23, 3) := by decide +kernel
theorem dX9_headingByTurns_78 : decode cX9_headingByTurns 78 = .ok (.iload_n 1, 1) := by decide +kernel
theorem dX9_headingByTurns_79 : decode cX9_headingByTurns 79 = .ok (.iconst 4, 1) := by decide +kernel
theorem dX9_headingByTurns_80 : decode cX9_headingByTurns 80 = .ok (.imul, 1) := by decide +kernel
theorem dX9_headingByTurns_81 : decode cX9_headingByTurns 81 = .ok (.iload 4, 2) := by decide +kernel
theorem dX9_headingByTurns_83 : decode cX9_headingByTurns 83 = .ok (.iadd, 1) := by decide +kernel
theorem dX9_headingByTurns_84 : decode cX9_headingByTurns 84 = .ok (.invokevirtual 48, 3) := by decide +kernel
theorem dX9_headingByTurns_87 : decode cX9_headingByTurns 87 = .ok (.ifCond .ne 23, 3) := by decide +kernel
theorem dX9_headingByTurns_90 : decode cX9_headingByTurns 90 = .ok (.aload_n 0, 1) := by decide +kernel
theorem dX9_headingByTurns_91 : decode cX9_headingByTurns 91 = .ok (.getfield 23, 3) := by decide +kernel
theorem dX9_headingByTurns_94 : decode cX9_headingByTurns 94 = .ok (.iload_n 1, 1) := by decide +kernel
theorem dX9_headingByTurns_95 : decode cX9_headingByTurns 95 = .ok (.iconst 4, 1) := by decide +kernel
theorem dX9_headingByTurns_96 : decode cX9_headingByTurns 96 = .ok (.imul, 1) := by decide +kernel
theorem dX9_headingByTurns_97 : decode cX9_headingByTurns 97 = .ok (.iload 5, 2) := by decide +kernel
theorem dX9_headingByTurns_99 : decode cX9_headingByTurns 99 = .ok (.iadd, 1) := by decide +kernel
theorem dX9_headingByTurns_100 : decode cX9_headingByTurns 100 = .ok (.invokevirtual 48, 3) := by decide +kernel
theorem dX9_headingByTurns_103 : decode cX9_headingByTurns 103 = .ok (.ifCond .eq 7, 3) := by decide +kernel
theorem dX9_headingByTurns_106 : decode cX9_headingByTurns 106 = .ok (.iconst 1, 1) := by decide +kernel
theorem dX9_headingByTurns_107 : decode cX9_headingByTurns 107 = .ok (.goto 4, 3) := by decide +kernel
theorem dX9_headingByTurns_110 : decode cX9_headingByTurns 110 = .ok (.iconst 0, 1) := by decide +kernel
theorem dX9_headingByTurns_111 : decode cX9_headingByTurns 111 = .ok (.istore 6, 2) := by decide +kernel
theorem dX9_headingByTurns_113 : decode cX9_headingByTurns 113 = .ok (.iload 6, 2) := by decide +kernel
theorem dX9_headingByTurns_115 : decode cX9_headingByTurns 115 = .ok (.ifCond .eq 8, 3) := by decide +kernel
theorem dX9_headingByTurns_118 : decode cX9_headingByTurns 118 = .ok (.iload 5, 2) := by decide +kernel
theorem dX9_headingByTurns_120 : decode cX9_headingByTurns 120 = .ok (.goto 5, 3) := by decide +kernel
theorem dX9_headingByTurns_123 : decode cX9_headingByTurns 123 = .ok (.iload 4, 2) := by decide +kernel
theorem dX9_headingByTurns_125 : decode cX9_headingByTurns 125 = .ok (.ireturn, 1) := by decide +kernel
def f_Core_pushAndGoOn (μ : me_M) (v0 : Nat) (v1 : Int32) : Option (me_M × Unit) :=
  me_bd (f_Core_isFull μ v0) (fun r1 =>
  if r1 = 0 then
  (me_gd (me_inb (μ 22 v0 4) 6) (
  me_lt (me_up μ 24 v0 (me_ix (μ 22 v0 4)) v1) (fun μ4 =>
  me_lt (me_up μ4 22 v0 4 ((μ4 22 v0 4) + (1 : Int32))) (fun μ5 =>
  me_lt (me_up μ5 22 v0 6 ((μ5 22 v0 6) + (1 : Int32))) (fun μ6 =>
  some (μ6, ()))))))
  else
  (me_b2 (f_Core_stopBy μ v0 (111 : Int32)) (fun μ8 r7 =>
  some (μ8, ()))))
set_option maxHeartbeats 4000000 in
set_option maxRecDepth 100000 in
theorem z_Core_pushAndGoOn {X : me_X} {B : me_B} {sz : Nat} (C : me_C X B RX1 cX1_pushAndGoOn 2 none) {μ : me_M} {v0 : Nat} {v1 : Int32}   {r : me_M × Unit} (N : me_En X B sz (B, r.1, .ok (none)) 1 21 0 0) (hNx : me_Nx X) (hB : me_St B)   (hf : f_Core_pushAndGoOn μ v0 v1 = some r) : me_Z X B 0 0 μ 0 [(0, me_r 22 v0), (1, me_i v1)] [] := by
  unfold f_Core_pushAndGoOn at hf
  refine me_aload_n C 0 (Or.inr (Or.inl ⟨_, rfl⟩)) dX1_pushAndGoOn_0 rfl rfl ?_
  obtain ⟨r1, h_r1, hf⟩ := me_bs hf
  refine me_callV C N  (As := []) (st := []) 0 0 (c_Core_isFull hB h_r1) mv_Core_isFull ml_Core_50 rfl rfl dX1_pushAndGoOn_1 rfl rfl ⟨by decide, by decide⟩ ⟨by decide, by decide, by decide, by decide⟩ (Nat.le_of_ble_eq_true rfl) ?_
  refine me_if_eq C (tgt := 14) dX1_pushAndGoOn_4 (by decide) (fun c2 => ?_) (fun c2 => ?_)
  · replace hf := me_ip c2 hf
    refine me_aload_n C 0 (Or.inr (Or.inl ⟨_, rfl⟩)) dX1_pushAndGoOn_14 rfl rfl ?_
    refine me_getr C hB 1 (k' := 24) (i' := v0) fg_Core_15 dX1_pushAndGoOn_15 rfl rfl ?_
    refine me_aload_n C 0 (Or.inr (Or.inl ⟨_, rfl⟩)) dX1_pushAndGoOn_18 rfl rfl ?_
    refine me_geti C 4 fg_Core_25 dX1_pushAndGoOn_19 rfl ?_
    refine me_iload_n C 1 dX1_pushAndGoOn_22 rfl rfl ?_
    obtain ⟨g3, hf⟩ := me_gs hf
    obtain ⟨μ4, e_μ4, hf⟩ := me_lts hf
    refine me_iast C rfl (fun _ => rfl) g3 dX1_pushAndGoOn_23 e_μ4 ?_
    refine me_aload_n C 0 (Or.inr (Or.inl ⟨_, rfl⟩)) dX1_pushAndGoOn_24 rfl rfl ?_
    refine me_dup C rfl dX1_pushAndGoOn_25 ?_
    refine me_geti C 4 fg_Core_25 dX1_pushAndGoOn_26 rfl ?_
    refine me_iconst C (v := 1) dX1_pushAndGoOn_29 (by decide) ?_
    refine me_iadd C dX1_pushAndGoOn_30 ?_
    obtain ⟨μ5, e_μ5, hf⟩ := me_lts hf
    refine me_puti C 4 fw_Core_25 dX1_pushAndGoOn_31 rfl (me_nri _) e_μ5 ?_
    refine me_aload_n C 0 (Or.inr (Or.inl ⟨_, rfl⟩)) dX1_pushAndGoOn_34 rfl rfl ?_
    refine me_dup C rfl dX1_pushAndGoOn_35 ?_
    refine me_geti C 6 fg_Core_32 dX1_pushAndGoOn_36 rfl ?_
    refine me_iconst C (v := 1) dX1_pushAndGoOn_39 (by decide) ?_
    refine me_iadd C dX1_pushAndGoOn_40 ?_
    obtain ⟨μ6, e_μ6, hf⟩ := me_lts hf
    refine me_puti C 6 fw_Core_32 dX1_pushAndGoOn_41 rfl (me_nri _) e_μ6 ?_
    exact me_vret C N dX1_pushAndGoOn_44 (by cases hf; rfl) (by decide) (by decide)
  · replace hf := me_in c2 hf
    refine me_aload_n C 0 (Or.inr (Or.inl ⟨_, rfl⟩)) dX1_pushAndGoOn_7 rfl rfl ?_
    refine me_bipush C (v := 111) dX1_pushAndGoOn_8 (by decide) ?_
    obtain ⟨μ8, r7, h_r7, hf⟩ := me_bs2 hf
    refine me_callV0 C N  (As := [me_i (111 : Int32)]) (st := []) 0 0 (c_Core_stopBy hB h_r7) mv_Core_stopBy ml_Core_46 rfl rfl dX1_pushAndGoOn_10 rfl rfl ⟨by decide, by decide⟩ ⟨by decide, by decide, by decide, by decide⟩ (Nat.le_of_ble_eq_true rfl) ?_
    exact me_vret C N dX1_pushAndGoOn_13 (by cases hf; rfl) (by decide) (by decide)
theorem c_Core_pushAndGoOn {B : me_B} (hB : me_St B) {μ : me_M} {v0 : Nat} {v1 : Int32} {μ' : me_M} {r : Unit}  (hf : f_Core_pushAndGoOn μ v0 v1 = some (μ', r)) : ∀ l E z, l.stackTraces = false → me_Met l yX1_pushAndGoOn cX1_pushAndGoOn 2 none 1 21 0 0 E B μ z [me_r 22 v0, me_i v1] (B, μ', .ok (none)) :=
  fun _ _ _ hl => me_ofZ hl (by decide +kernel) (Nat.le_of_ble_eq_true rfl) (fun _ C N hNx => z_Core_pushAndGoOn C N hNx hB  hf)

def f_Core_load (μ : me_M) (v0 : Nat) (v1 : Int32) : Option (me_M × Unit) :=
  if v1 < 0 then
  (some (μ, ()))
  else
  (if (8 : Int32) ≤ v1 then
  (some (μ, ()))
  else
  (me_gd (me_inb v1 8) (
  me_b2 (f_Core_pushAndGoOn μ v0 (μ 23 v0 (me_ix v1))) (fun μ5 r4 =>
  some (μ5, ())))))
set_option maxHeartbeats 4000000 in
set_option maxRecDepth 100000 in
theorem z_Core_load {X : me_X} {B : me_B} {sz : Nat} (C : me_C X B RX1 cX1_load 2 none) {μ : me_M} {v0 : Nat} {v1 : Int32}   {r : me_M × Unit} (N : me_En X B sz (B, r.1, .ok (none)) 2 42 0 0) (hNx : me_Nx X) (hB : me_St B)   (hf : f_Core_load μ v0 v1 = some r) : me_Z X B 0 0 μ 0 [(0, me_r 22 v0), (1, me_i v1)] [] := by
  unfold f_Core_load at hf
  refine me_iload_n C 1 dX1_load_0 rfl rfl ?_
  refine me_if_lt C (tgt := 20) dX1_load_1 (by decide) (fun c1 => ?_) (fun c1 => ?_)
  · replace hf := me_ip c1 hf
    exact me_vret C N dX1_load_20 (by cases hf; rfl) (by decide) (by decide)
  · replace hf := me_in c1 hf
    refine me_iload_n C 1 dX1_load_4 rfl rfl ?_
    refine me_bipush C (v := 8) dX1_load_5 (by decide) ?_
    refine me_icmp_ge C (tgt := 20) dX1_load_7 (by decide) (fun c2 => ?_) (fun c2 => ?_)
    · replace hf := me_ip c2 hf
      exact me_vret C N dX1_load_20 (by cases hf; rfl) (by decide) (by decide)
    · replace hf := me_in c2 hf
      refine me_aload_n C 0 (Or.inr (Or.inl ⟨_, rfl⟩)) dX1_load_10 rfl rfl ?_
      refine me_aload_n C 0 (Or.inr (Or.inl ⟨_, rfl⟩)) dX1_load_11 rfl rfl ?_
      refine me_getr C hB 0 (k' := 23) (i' := v0) fg_Core_9 dX1_load_12 rfl rfl ?_
      refine me_iload_n C 1 dX1_load_15 rfl rfl ?_
      obtain ⟨g3, hf⟩ := me_gs hf
      refine me_iald C rfl (fun _ => rfl) g3 dX1_load_16 ?_
      obtain ⟨μ5, r4, h_r4, hf⟩ := me_bs2 hf
      refine me_callV0 C N  (As := [me_i (μ 23 v0 (me_ix v1))]) (st := []) 0 0 (c_Core_pushAndGoOn hB h_r4) mv_Core_pushAndGoOn ml_Core_53 rfl rfl dX1_load_17 rfl rfl ⟨by decide, by decide⟩ ⟨by decide, by decide, by decide, by decide⟩ (Nat.le_of_ble_eq_true rfl) ?_
      exact me_vret C N dX1_load_20 (by cases hf; rfl) (by decide) (by decide)
theorem c_Core_load {B : me_B} (hB : me_St B) {μ : me_M} {v0 : Nat} {v1 : Int32} {μ' : me_M} {r : Unit}  (hf : f_Core_load μ v0 v1 = some (μ', r)) : ∀ l E z, l.stackTraces = false → me_Met l yX1_load cX1_load 2 none 2 42 0 0 E B μ z [me_r 22 v0, me_i v1] (B, μ', .ok (none)) :=
  fun _ _ _ hl => me_ofZ hl (by decide +kernel) (Nat.le_of_ble_eq_true rfl) (fun _ C N hNx => z_Core_load C N hNx hB  hf)

def f_Core_store (μ : me_M) (v0 : Nat) (v1 : Int32) : Option (me_M × Unit) :=
  if v1 < 0 then
  (some (μ, ()))
  else
  (if (8 : Int32) ≤ v1 then
  (some (μ, ()))
  else
  (me_b2 (f_Core_canPop μ v0 (1 : Int32)) (fun μ4 r3 =>
  if r3 = 0 then
  (some (μ4, ()))
  else
  (me_lt (me_up μ4 22 v0 4 ((μ4 22 v0 4) - (1 : Int32))) (fun μ6 =>
  me_gd (me_inb (μ6 22 v0 4) 6) (
  me_gd (me_inb v1 8) (
  me_lt (me_up μ6 23 v0 (me_ix v1) (μ6 24 v0 (me_ix (μ6 22 v0 4)))) (fun μ9 =>
  me_lt (me_up μ9 22 v0 6 ((μ9 22 v0 6) + (1 : Int32))) (fun μ10 =>
  some (μ10, ()))))))))))
set_option maxHeartbeats 4000000 in
set_option maxRecDepth 100000 in
theorem z_Core_store {X : me_X} {B : me_B} {sz : Nat} (C : me_C X B RX1 cX1_store 2 none) {μ : me_M} {v0 : Nat} {v1 : Int32}   {r : me_M × Unit} (N : me_En X B sz (B, r.1, .ok (none)) 2 42 0 0) (hNx : me_Nx X) (hB : me_St B)   (hf : f_Core_store μ v0 v1 = some r) : me_Z X B 0 0 μ 0 [(0, me_r 22 v0), (1, me_i v1)] [] := by
  unfold f_Core_store at hf
  refine me_iload_n C 1 dX1_store_0 rfl rfl ?_
  refine me_if_lt C (tgt := 53) dX1_store_1 (by decide) (fun c1 => ?_) (fun c1 => ?_)
  · replace hf := me_ip c1 hf
    exact me_vret C N dX1_store_53 (by cases hf; rfl) (by decide) (by decide)
  · replace hf := me_in c1 hf
    refine me_iload_n C 1 dX1_store_4 rfl rfl ?_
    refine me_bipush C (v := 8) dX1_store_5 (by decide) ?_
    refine me_icmp_ge C (tgt := 53) dX1_store_7 (by decide) (fun c2 => ?_) (fun c2 => ?_)
    · replace hf := me_ip c2 hf
      exact me_vret C N dX1_store_53 (by cases hf; rfl) (by decide) (by decide)
    · replace hf := me_in c2 hf
      refine me_aload_n C 0 (Or.inr (Or.inl ⟨_, rfl⟩)) dX1_store_10 rfl rfl ?_
      refine me_iconst C (v := 1) dX1_store_11 (by decide) ?_
      obtain ⟨μ4, r3, h_r3, hf⟩ := me_bs2 hf
      refine me_callV C N  (As := [me_i (1 : Int32)]) (st := []) 0 0 (c_Core_canPop hB h_r3) mv_Core_canPop ml_Core_57 rfl rfl dX1_store_12 rfl rfl ⟨by decide, by decide⟩ ⟨by decide, by decide, by decide, by decide⟩ (Nat.le_of_ble_eq_true rfl) ?_
      refine me_if_eq C (tgt := 53) dX1_store_15 (by decide) (fun c5 => ?_) (fun c5 => ?_)
      · replace hf := me_ip c5 hf
        exact me_vret C N dX1_store_53 (by cases hf; rfl) (by decide) (by decide)
      · replace hf := me_in c5 hf
        refine me_aload_n C 0 (Or.inr (Or.inl ⟨_, rfl⟩)) dX1_store_18 rfl rfl ?_
        refine me_dup C rfl dX1_store_19 ?_
        refine me_geti C 4 fg_Core_25 dX1_store_20 rfl ?_
        refine me_iconst C (v := 1) dX1_store_23 (by decide) ?_
        refine me_isub C dX1_store_24 ?_
        obtain ⟨μ6, e_μ6, hf⟩ := me_lts hf
        refine me_puti C 4 fw_Core_25 dX1_store_25 rfl (me_nri _) e_μ6 ?_
        refine me_aload_n C 0 (Or.inr (Or.inl ⟨_, rfl⟩)) dX1_store_28 rfl rfl ?_
        refine me_getr C hB 0 (k' := 23) (i' := v0) fg_Core_9 dX1_store_29 rfl rfl ?_
        refine me_iload_n C 1 dX1_store_32 rfl rfl ?_
        refine me_aload_n C 0 (Or.inr (Or.inl ⟨_, rfl⟩)) dX1_store_33 rfl rfl ?_
        refine me_getr C hB 1 (k' := 24) (i' := v0) fg_Core_15 dX1_store_34 rfl rfl ?_
        refine me_aload_n C 0 (Or.inr (Or.inl ⟨_, rfl⟩)) dX1_store_37 rfl rfl ?_
        refine me_geti C 4 fg_Core_25 dX1_store_38 rfl ?_
        obtain ⟨g7, hf⟩ := me_gs hf
        refine me_iald C rfl (fun _ => rfl) g7 dX1_store_41 ?_
        obtain ⟨g8, hf⟩ := me_gs hf
        obtain ⟨μ9, e_μ9, hf⟩ := me_lts hf
        refine me_iast C rfl (fun _ => rfl) g8 dX1_store_42 e_μ9 ?_
        refine me_aload_n C 0 (Or.inr (Or.inl ⟨_, rfl⟩)) dX1_store_43 rfl rfl ?_
        refine me_dup C rfl dX1_store_44 ?_
        refine me_geti C 6 fg_Core_32 dX1_store_45 rfl ?_
        refine me_iconst C (v := 1) dX1_store_48 (by decide) ?_
        refine me_iadd C dX1_store_49 ?_
        obtain ⟨μ10, e_μ10, hf⟩ := me_lts hf
        refine me_puti C 6 fw_Core_32 dX1_store_50 rfl (me_nri _) e_μ10 ?_
        exact me_vret C N dX1_store_53 (by cases hf; rfl) (by decide) (by decide)
theorem c_Core_store {B : me_B} (hB : me_St B) {μ : me_M} {v0 : Nat} {v1 : Int32} {μ' : me_M} {r : Unit}  (hf : f_Core_store μ v0 v1 = some (μ', r)) : ∀ l E z, l.stackTraces = false → me_Met l yX1_store cX1_store 2 none 2 42 0 0 E B μ z [me_r 22 v0, me_i v1] (B, μ', .ok (none)) :=
  fun _ _ _ hl => me_ofZ hl (by decide +kernel) (Nat.le_of_ble_eq_true rfl) (fun _ C N hNx => z_Core_store C N hNx hB  hf)

def f_Core_reckon_b73 (μ : me_M) (v0 : Nat) (s0 : Int32) (s1 : Int32) (s2 : Nat) : Option (me_M × Unit) :=
  me_gd (me_inb s1 6) (
  me_lt (me_up μ 24 s2 (me_ix s1) s0) (fun μ2 =>
  me_lt (me_up μ2 22 v0 4 ((μ2 22 v0 4) - (1 : Int32))) (fun μ3 =>
  me_lt (me_up μ3 22 v0 6 ((μ3 22 v0 6) + (1 : Int32))) (fun μ4 =>
  some (μ4, ())))))
set_option maxHeartbeats 4000000 in
set_option maxRecDepth 100000 in
theorem z_Core_reckon_b73 {X : me_X} {B : me_B} {sz : Nat} (C : me_C X B RX1 cX1_reckon 5 none) {μ : me_M} {v0 : Nat} {s0 : Int32} {s1 : Int32} {s2 : Nat}   {r : me_M × Unit} (N : me_En X B sz (B, r.1, .ok (none)) 2 42 0 0) (hNx : me_Nx X) (hB : me_St B)   (hf : f_Core_reckon_b73 μ v0 s0 s1 s2 = some r) : me_Z X B 0 0 μ 73 [(0, me_r 22 v0)] [me_i s0, me_i s1, me_r 24 s2] := by
  unfold f_Core_reckon_b73 at hf
  obtain ⟨g1, hf⟩ := me_gs hf
  obtain ⟨μ2, e_μ2, hf⟩ := me_lts hf
  refine me_iast C rfl (fun _ => rfl) g1 dX1_reckon_73 e_μ2 ?_
  refine me_aload_n C 0 (Or.inr (Or.inl ⟨_, rfl⟩)) dX1_reckon_74 rfl rfl ?_
  refine me_dup C rfl dX1_reckon_75 ?_
  refine me_geti C 4 fg_Core_25 dX1_reckon_76 rfl ?_
  refine me_iconst C (v := 1) dX1_reckon_79 (by decide) ?_
  refine me_isub C dX1_reckon_80 ?_
  obtain ⟨μ3, e_μ3, hf⟩ := me_lts hf
  refine me_puti C 4 fw_Core_25 dX1_reckon_81 rfl (me_nri _) e_μ3 ?_
  refine me_aload_n C 0 (Or.inr (Or.inl ⟨_, rfl⟩)) dX1_reckon_84 rfl rfl ?_
  refine me_dup C rfl dX1_reckon_85 ?_
  refine me_geti C 6 fg_Core_32 dX1_reckon_86 rfl ?_
  refine me_iconst C (v := 1) dX1_reckon_89 (by decide) ?_
  refine me_iadd C dX1_reckon_90 ?_
  obtain ⟨μ4, e_μ4, hf⟩ := me_lts hf
  refine me_puti C 6 fw_Core_32 dX1_reckon_91 rfl (me_nri _) e_μ4 ?_
  exact me_vret C N dX1_reckon_94 (by cases hf; rfl) (by decide) (by decide)
def f_Core_reckon_b47 (μ : me_M) (v0 : Nat) (v1 : Int32) (v2 : Int32) (v3 : Int32) (s0 : Int32) : Option (me_M × Unit) :=
  if v1 = (42 : Int32) then
  (f_Core_reckon_b73 μ v0 (v3 * v2) ((μ 22 v0 4) - (2 : Int32)) v0)
  else
  (f_Core_reckon_b73 μ v0 s0 ((μ 22 v0 4) - (2 : Int32)) v0)
set_option maxHeartbeats 4000000 in
set_option maxRecDepth 100000 in
theorem z_Core_reckon_b47 {X : me_X} {B : me_B} {sz : Nat} (C : me_C X B RX1 cX1_reckon 5 none) {μ : me_M} {v0 : Nat} {v1 : Int32} {v2 : Int32} {v3 : Int32} {s0 : Int32}   {r : me_M × Unit} (N : me_En X B sz (B, r.1, .ok (none)) 2 42 0 0) (hNx : me_Nx X) (hB : me_St B)   (hf : f_Core_reckon_b47 μ v0 v1 v2 v3 s0 = some r) : me_Z X B 0 0 μ 47 [(0, me_r 22 v0), (1, me_i v1), (2, me_i v2), (3, me_i v3)] [me_i s0] := by
  unfold f_Core_reckon_b47 at hf
  refine me_istore C dX1_reckon_47 (by decide) (L' := [(4, me_i s0), (0, me_r 22 v0), (1, me_i v1), (2, me_i v2), (3, me_i v3)]) rfl ?_
  refine me_aload_n C 0 (Or.inr (Or.inl ⟨_, rfl⟩)) dX1_reckon_49 rfl rfl ?_
  refine me_getr C hB 1 (k' := 24) (i' := v0) fg_Core_15 dX1_reckon_50 rfl rfl ?_
  refine me_aload_n C 0 (Or.inr (Or.inl ⟨_, rfl⟩)) dX1_reckon_53 rfl rfl ?_
  refine me_geti C 4 fg_Core_25 dX1_reckon_54 rfl ?_
  refine me_iconst C (v := 2) dX1_reckon_57 (by decide) ?_
  refine me_isub C dX1_reckon_58 ?_
  refine me_iload_n C 1 dX1_reckon_59 rfl rfl ?_
  refine me_bipush C (v := 42) dX1_reckon_60 (by decide) ?_
  refine me_icmp_ne C (tgt := 71) dX1_reckon_62 (by decide) (fun c1 => ?_) (fun c1 => ?_)
  · replace hf := me_in c1 hf
    refine me_iload C dX1_reckon_71 rfl ?_
    refine me_dropI [(0, me_r 22 v0)] [1] rfl ?_
    exact z_Core_reckon_b73 C N hNx hB hf
  · replace hf := me_ip c1 hf
    refine me_iload_n C 3 dX1_reckon_65 rfl rfl ?_
    refine me_iload_n C 2 dX1_reckon_66 rfl rfl ?_
    refine me_imul C dX1_reckon_67 ?_
    refine me_goto C (tgt := 73) dX1_reckon_68 (by decide) ?_
    refine me_dropI [(0, me_r 22 v0)] [1] rfl ?_
    exact z_Core_reckon_b73 C N hNx hB hf
def f_Core_reckon (μ : me_M) (v0 : Nat) (v1 : Int32) : Option (me_M × Unit) :=
  me_b2 (f_Core_canPop μ v0 (2 : Int32)) (fun μ2 r1 =>
  if r1 = 0 then
  (some (μ2, ()))
  else
  (me_gd (me_inb ((μ2 22 v0 4) - (1 : Int32)) 6) (
  me_lt ((μ2 24 v0 (me_ix ((μ2 22 v0 4) - (1 : Int32))))) (fun x5 =>
  me_gd (me_inb ((μ2 22 v0 4) - (2 : Int32)) 6) (
  me_lt ((μ2 24 v0 (me_ix ((μ2 22 v0 4) - (2 : Int32))))) (fun x7 =>
  if v1 = (43 : Int32) then
  (f_Core_reckon_b47 μ2 v0 v1 x5 x7 (x7 + x5))
  else
  (f_Core_reckon_b47 μ2 v0 v1 x5 x7 (x7 - x5))))))))
set_option maxHeartbeats 4000000 in
set_option maxRecDepth 100000 in
theorem z_Core_reckon {X : me_X} {B : me_B} {sz : Nat} (C : me_C X B RX1 cX1_reckon 5 none) {μ : me_M} {v0 : Nat} {v1 : Int32}   {r : me_M × Unit} (N : me_En X B sz (B, r.1, .ok (none)) 2 42 0 0) (hNx : me_Nx X) (hB : me_St B)   (hf : f_Core_reckon μ v0 v1 = some r) : me_Z X B 0 0 μ 0 [(0, me_r 22 v0), (1, me_i v1)] [] := by
  unfold f_Core_reckon at hf
  refine me_aload_n C 0 (Or.inr (Or.inl ⟨_, rfl⟩)) dX1_reckon_0 rfl rfl ?_
  refine me_iconst C (v := 2) dX1_reckon_1 (by decide) ?_
  obtain ⟨μ2, r1, h_r1, hf⟩ := me_bs2 hf
  refine me_callV C N  (As := [me_i (2 : Int32)]) (st := []) 0 0 (c_Core_canPop hB h_r1) mv_Core_canPop ml_Core_57 rfl rfl dX1_reckon_2 rfl rfl ⟨by decide, by decide⟩ ⟨by decide, by decide, by decide, by decide⟩ (Nat.le_of_ble_eq_true rfl) ?_
  refine me_if_eq C (tgt := 94) dX1_reckon_5 (by decide) (fun c3 => ?_) (fun c3 => ?_)
  · replace hf := me_ip c3 hf
    exact me_vret C N dX1_reckon_94 (by cases hf; rfl) (by decide) (by decide)
  · replace hf := me_in c3 hf
    refine me_aload_n C 0 (Or.inr (Or.inl ⟨_, rfl⟩)) dX1_reckon_8 rfl rfl ?_
    refine me_getr C hB 1 (k' := 24) (i' := v0) fg_Core_15 dX1_reckon_9 rfl rfl ?_
    refine me_aload_n C 0 (Or.inr (Or.inl ⟨_, rfl⟩)) dX1_reckon_12 rfl rfl ?_
    refine me_geti C 4 fg_Core_25 dX1_reckon_13 rfl ?_
    refine me_iconst C (v := 1) dX1_reckon_16 (by decide) ?_
    refine me_isub C dX1_reckon_17 ?_
    obtain ⟨g4, hf⟩ := me_gs hf
    refine me_iald C rfl (fun _ => rfl) g4 dX1_reckon_18 ?_
    obtain ⟨x5, e_x5, hf⟩ := me_lts hf
    refine me_nm e_x5 ?_
    refine me_istore_n C 2 dX1_reckon_19 rfl (by decide) (L' := [(2, me_i x5), (0, me_r 22 v0), (1, me_i v1)]) rfl ?_
    refine me_aload_n C 0 (Or.inr (Or.inl ⟨_, rfl⟩)) dX1_reckon_20 rfl rfl ?_
    refine me_getr C hB 1 (k' := 24) (i' := v0) fg_Core_15 dX1_reckon_21 rfl rfl ?_
    refine me_aload_n C 0 (Or.inr (Or.inl ⟨_, rfl⟩)) dX1_reckon_24 rfl rfl ?_
    refine me_geti C 4 fg_Core_25 dX1_reckon_25 rfl ?_
    refine me_iconst C (v := 2) dX1_reckon_28 (by decide) ?_
    refine me_isub C dX1_reckon_29 ?_
    obtain ⟨g6, hf⟩ := me_gs hf
    refine me_iald C rfl (fun _ => rfl) g6 dX1_reckon_30 ?_
    obtain ⟨x7, e_x7, hf⟩ := me_lts hf
    refine me_nm e_x7 ?_
    refine me_istore_n C 3 dX1_reckon_31 rfl (by decide) (L' := [(3, me_i x7), (2, me_i x5), (0, me_r 22 v0), (1, me_i v1)]) rfl ?_
    refine me_iload_n C 1 dX1_reckon_32 rfl rfl ?_
    refine me_bipush C (v := 43) dX1_reckon_33 (by decide) ?_
    refine me_icmp_ne C (tgt := 44) dX1_reckon_35 (by decide) (fun c8 => ?_) (fun c8 => ?_)
    · replace hf := me_in c8 hf
      refine me_iload_n C 3 dX1_reckon_44 rfl rfl ?_
      refine me_iload_n C 2 dX1_reckon_45 rfl rfl ?_
      refine me_isub C dX1_reckon_46 ?_
      refine me_dropI [(0, me_r 22 v0), (1, me_i v1), (2, me_i x5), (3, me_i x7)] [2, 3, 1, 0] rfl ?_
      exact z_Core_reckon_b47 C N hNx hB hf
    · replace hf := me_ip c8 hf
      refine me_iload_n C 3 dX1_reckon_38 rfl rfl ?_
      refine me_iload_n C 2 dX1_reckon_39 rfl rfl ?_
      refine me_iadd C dX1_reckon_40 ?_
      refine me_goto C (tgt := 47) dX1_reckon_41 (by decide) ?_
      refine me_dropI [(0, me_r 22 v0), (1, me_i v1), (2, me_i x5), (3, me_i x7)] [2, 3, 1, 0] rfl ?_
      exact z_Core_reckon_b47 C N hNx hB hf
theorem c_Core_reckon {B : me_B} (hB : me_St B) {μ : me_M} {v0 : Nat} {v1 : Int32} {μ' : me_M} {r : Unit}  (hf : f_Core_reckon μ v0 v1 = some (μ', r)) : ∀ l E z, l.stackTraces = false → me_Met l yX1_reckon cX1_reckon 5 none 2 42 0 0 E B μ z [me_r 22 v0, me_i v1] (B, μ', .ok (none)) :=
  fun _ _ _ hl => me_ofZ hl (by decide +kernel) (Nat.le_of_ble_eq_true rfl) (fun _ C N hNx => z_Core_reckon C N hNx hB  hf)

def f_Core_jump (μ : me_M) (v0 : Nat) (v1 : Int32) : Option (me_M × Unit) :=
  me_b2 (f_Core_canPop μ v0 (1 : Int32)) (fun μ2 r1 =>
  if r1 = 0 then
  (some (μ2, ()))
  else
  (me_lt (me_up μ2 22 v0 4 ((μ2 22 v0 4) - (1 : Int32))) (fun μ4 =>
  me_gd (me_inb (μ4 22 v0 4) 6) (
  if (μ4 24 v0 (me_ix (μ4 22 v0 4))) = 0 then
  (me_lt (me_up μ4 22 v0 6 ((μ4 22 v0 6) + (1 : Int32))) (fun μ7 =>
  some (μ7, ())))
  else
  (me_lt (me_up μ4 22 v0 6 v1) (fun μ8 =>
  some (μ8, ())))))))
set_option maxHeartbeats 4000000 in
set_option maxRecDepth 100000 in
theorem z_Core_jump {X : me_X} {B : me_B} {sz : Nat} (C : me_C X B RX1 cX1_jump 2 none) {μ : me_M} {v0 : Nat} {v1 : Int32}   {r : me_M × Unit} (N : me_En X B sz (B, r.1, .ok (none)) 2 42 0 0) (hNx : me_Nx X) (hB : me_St B)   (hf : f_Core_jump μ v0 v1 = some r) : me_Z X B 0 0 μ 0 [(0, me_r 22 v0), (1, me_i v1)] [] := by
  unfold f_Core_jump at hf
  refine me_aload_n C 0 (Or.inr (Or.inl ⟨_, rfl⟩)) dX1_jump_0 rfl rfl ?_
  refine me_iconst C (v := 1) dX1_jump_1 (by decide) ?_
  obtain ⟨μ2, r1, h_r1, hf⟩ := me_bs2 hf
  refine me_callV C N  (As := [me_i (1 : Int32)]) (st := []) 0 0 (c_Core_canPop hB h_r1) mv_Core_canPop ml_Core_57 rfl rfl dX1_jump_2 rfl rfl ⟨by decide, by decide⟩ ⟨by decide, by decide, by decide, by decide⟩ (Nat.le_of_ble_eq_true rfl) ?_
  refine me_if_eq C (tgt := 44) dX1_jump_5 (by decide) (fun c3 => ?_) (fun c3 => ?_)
  · replace hf := me_ip c3 hf
    exact me_vret C N dX1_jump_44 (by cases hf; rfl) (by decide) (by decide)
  · replace hf := me_in c3 hf
    refine me_aload_n C 0 (Or.inr (Or.inl ⟨_, rfl⟩)) dX1_jump_8 rfl rfl ?_
    refine me_dup C rfl dX1_jump_9 ?_
    refine me_geti C 4 fg_Core_25 dX1_jump_10 rfl ?_
    refine me_iconst C (v := 1) dX1_jump_13 (by decide) ?_
    refine me_isub C dX1_jump_14 ?_
    obtain ⟨μ4, e_μ4, hf⟩ := me_lts hf
    refine me_puti C 4 fw_Core_25 dX1_jump_15 rfl (me_nri _) e_μ4 ?_
    refine me_aload_n C 0 (Or.inr (Or.inl ⟨_, rfl⟩)) dX1_jump_18 rfl rfl ?_
    refine me_aload_n C 0 (Or.inr (Or.inl ⟨_, rfl⟩)) dX1_jump_19 rfl rfl ?_
    refine me_getr C hB 1 (k' := 24) (i' := v0) fg_Core_15 dX1_jump_20 rfl rfl ?_
    refine me_aload_n C 0 (Or.inr (Or.inl ⟨_, rfl⟩)) dX1_jump_23 rfl rfl ?_
    refine me_geti C 4 fg_Core_25 dX1_jump_24 rfl ?_
    obtain ⟨g5, hf⟩ := me_gs hf
    refine me_iald C rfl (fun _ => rfl) g5 dX1_jump_27 ?_
    refine me_if_eq C (tgt := 35) dX1_jump_28 (by decide) (fun c6 => ?_) (fun c6 => ?_)
    · replace hf := me_ip c6 hf
      refine me_aload_n C 0 (Or.inr (Or.inl ⟨_, rfl⟩)) dX1_jump_35 rfl rfl ?_
      refine me_geti C 6 fg_Core_32 dX1_jump_36 rfl ?_
      refine me_iconst C (v := 1) dX1_jump_39 (by decide) ?_
      refine me_iadd C dX1_jump_40 ?_
      obtain ⟨μ7, e_μ7, hf⟩ := me_lts hf
      refine me_puti C 6 fw_Core_32 dX1_jump_41 rfl (me_nri _) e_μ7 ?_
      exact me_vret C N dX1_jump_44 (by cases hf; rfl) (by decide) (by decide)
    · replace hf := me_in c6 hf
      refine me_iload_n C 1 dX1_jump_31 rfl rfl ?_
      refine me_goto C (tgt := 41) dX1_jump_32 (by decide) ?_
      obtain ⟨μ8, e_μ8, hf⟩ := me_lts hf
      refine me_puti C 6 fw_Core_32 dX1_jump_41 rfl (me_nri _) e_μ8 ?_
      exact me_vret C N dX1_jump_44 (by cases hf; rfl) (by decide) (by decide)
theorem c_Core_jump {B : me_B} (hB : me_St B) {μ : me_M} {v0 : Nat} {v1 : Int32} {μ' : me_M} {r : Unit}  (hf : f_Core_jump μ v0 v1 = some (μ', r)) : ∀ l E z, l.stackTraces = false → me_Met l yX1_jump cX1_jump 2 none 2 42 0 0 E B μ z [me_r 22 v0, me_i v1] (B, μ', .ok (none)) :=
  fun _ _ _ hl => me_ofZ hl (by decide +kernel) (Nat.le_of_ble_eq_true rfl) (fun _ C N hNx => z_Core_jump C N hNx hB  hf)

def f_Mover_reset (μ : me_M) : Option (me_M × Unit) :=
  me_lt (me_up μ 30 0 5 (0 : Int32)) (fun μ1 =>
  me_lt (me_up μ1 30 0 6 (0 : Int32)) (fun μ2 =>
  me_lt (me_up μ2 30 0 7 (0 : Int32)) (fun μ3 =>
  some (μ3, ()))))
set_option maxHeartbeats 4000000 in
set_option maxRecDepth 100000 in
theorem z_Mover_reset {X : me_X} {B : me_B} {sz : Nat} (C : me_C X B RX2 cX2_reset 1 none) {μ : me_M}    {r : me_M × Unit} (N : me_En X B sz (B, r.1, .ok (none)) 0 0 0 0) (hNx : me_Nx X) (hB : me_St B)   (hf : f_Mover_reset μ = some r) : me_Z X B 0 0 μ 0 [(0, me_r 30 0)] [] := by
  unfold f_Mover_reset at hf
  refine me_aload_n C 0 (Or.inr (Or.inl ⟨_, rfl⟩)) dX2_reset_0 rfl rfl ?_
  refine me_iconst C (v := 0) dX2_reset_1 (by decide) ?_
  obtain ⟨μ1, e_μ1, hf⟩ := me_lts hf
  refine me_puti C 5 fw_Mover_35 dX2_reset_2 rfl (me_nri _) e_μ1 ?_
  refine me_aload_n C 0 (Or.inr (Or.inl ⟨_, rfl⟩)) dX2_reset_5 rfl rfl ?_
  refine me_iconst C (v := 0) dX2_reset_6 (by decide) ?_
  obtain ⟨μ2, e_μ2, hf⟩ := me_lts hf
  refine me_puti C 6 fw_Mover_39 dX2_reset_7 rfl (me_nri _) e_μ2 ?_
  refine me_aload_n C 0 (Or.inr (Or.inl ⟨_, rfl⟩)) dX2_reset_10 rfl rfl ?_
  refine me_iconst C (v := 0) dX2_reset_11 (by decide) ?_
  obtain ⟨μ3, e_μ3, hf⟩ := me_lts hf
  refine me_puti C 7 fw_Mover_42 dX2_reset_12 rfl (by decide +kernel) e_μ3 ?_
  exact me_vret C N dX2_reset_15 (by cases hf; rfl) (by decide) (by decide)
theorem c_Mover_reset {B : me_B} (hB : me_St B) {μ : me_M}  {μ' : me_M} {r : Unit}  (hf : f_Mover_reset μ = some (μ', r)) : ∀ l E z, l.stackTraces = false → me_Met l yX2_reset cX2_reset 1 none 0 0 0 0 E B μ z [me_r 30 0] (B, μ', .ok (none)) :=
  fun _ _ _ hl => me_ofZ hl (by decide +kernel) (Nat.le_of_ble_eq_true rfl) (fun _ C N hNx => z_Mover_reset C N hNx hB  hf)

def f_Mover_beginBeat (μ : me_M) : Option (me_M × Unit) :=
  me_lt (me_up μ 30 0 6 ((μ 30 0 5) + (1 : Int32))) (fun μ1 =>
  me_lt (me_up μ1 30 0 7 (0 : Int32)) (fun μ2 =>
  some (μ2, ())))
set_option maxHeartbeats 4000000 in
set_option maxRecDepth 100000 in
theorem z_Mover_beginBeat {X : me_X} {B : me_B} {sz : Nat} (C : me_C X B RX2 cX2_beginBeat 1 none) {μ : me_M}    {r : me_M × Unit} (N : me_En X B sz (B, r.1, .ok (none)) 0 0 0 0) (hNx : me_Nx X) (hB : me_St B)   (hf : f_Mover_beginBeat μ = some r) : me_Z X B 0 0 μ 0 [(0, me_r 30 0)] [] := by
  unfold f_Mover_beginBeat at hf
  refine me_aload_n C 0 (Or.inr (Or.inl ⟨_, rfl⟩)) dX2_beginBeat_0 rfl rfl ?_
  refine me_aload_n C 0 (Or.inr (Or.inl ⟨_, rfl⟩)) dX2_beginBeat_1 rfl rfl ?_
  refine me_geti C 5 fg_Mover_35 dX2_beginBeat_2 rfl ?_
  refine me_iconst C (v := 1) dX2_beginBeat_5 (by decide) ?_
  refine me_iadd C dX2_beginBeat_6 ?_
  obtain ⟨μ1, e_μ1, hf⟩ := me_lts hf
  refine me_puti C 6 fw_Mover_39 dX2_beginBeat_7 rfl (me_nri _) e_μ1 ?_
  refine me_aload_n C 0 (Or.inr (Or.inl ⟨_, rfl⟩)) dX2_beginBeat_10 rfl rfl ?_
  refine me_iconst C (v := 0) dX2_beginBeat_11 (by decide) ?_
  obtain ⟨μ2, e_μ2, hf⟩ := me_lts hf
  refine me_puti C 7 fw_Mover_42 dX2_beginBeat_12 rfl (by decide +kernel) e_μ2 ?_
  exact me_vret C N dX2_beginBeat_15 (by cases hf; rfl) (by decide) (by decide)
theorem c_Mover_beginBeat {B : me_B} (hB : me_St B) {μ : me_M}  {μ' : me_M} {r : Unit}  (hf : f_Mover_beginBeat μ = some (μ', r)) : ∀ l E z, l.stackTraces = false → me_Met l yX2_beginBeat cX2_beginBeat 1 none 0 0 0 0 E B μ z [me_r 30 0] (B, μ', .ok (none)) :=
  fun _ _ _ hl => me_ofZ hl (by decide +kernel) (Nat.le_of_ble_eq_true rfl) (fun _ C N hNx => z_Mover_beginBeat C N hNx hB  hf)

def f_Mover_endBeat_b2 (K2 : me_M → Int32 → Option (me_M × Unit)) (μ : me_M) (v1 : Int32) : Option (me_M × Unit) :=
  if (μ 1 0 4) ≤ v1 then
  (me_lt (me_up μ 30 0 5 (μ 30 0 6)) (fun μ2 =>
  some (μ2, ())))
  else
  (me_gd (me_inb v1 16) (
  if (μ 13 (me_ix v1) 4) = 0 then
  (me_lt (me_inc v1 (1)) (fun x5 =>
  K2 μ x5))
  else
  (me_lt (me_up μ 13 (me_ix v1) 3 (1 : Int32)) (fun μ6 =>
  me_lt (me_up μ6 13 (me_ix v1) 4 (0 : Int32)) (fun μ7 =>
  me_lt (me_inc v1 (1)) (fun x8 =>
  K2 μ7 x8))))))
set_option maxHeartbeats 4000000 in
set_option maxRecDepth 100000 in
theorem z_Mover_endBeat_b2 {X : me_X} {B : me_B} {sz : Nat} (C : me_C X B RX2 cX2_endBeat 3 none) {μ : me_M} {v1 : Int32}  {K2 : me_M → Int32 → Option (me_M × Unit)} {r : me_M × Unit} (N : me_En X B sz (B, r.1, .ok (none)) 0 0 0 0) (hNx : me_Nx X) (hB : me_St B) (hK2 : ∀ (μ : me_M) (v1 : Int32), K2 μ v1 = some r → me_Z X B 0 0 μ 2 [(0, me_r 30 0), (1, me_i v1)] [])  (hf : f_Mover_endBeat_b2 K2 μ v1 = some r) : me_Z X B 0 0 μ 2 [(0, me_r 30 0), (1, me_i v1)] [] := by
  unfold f_Mover_endBeat_b2 at hf
  refine me_iload_n C 1 dX2_endBeat_2 rfl rfl ?_
  refine me_aload_n C 0 (Or.inr (Or.inl ⟨_, rfl⟩)) dX2_endBeat_3 rfl rfl ?_
  refine me_getr C hB 0 (k' := 1) (i' := 0) fg_Mover_15 dX2_endBeat_4 rfl rfl ?_
  refine me_geti C 4 fg_Mover_46 dX2_endBeat_7 rfl ?_
  refine me_icmp_ge C (tgt := 43) dX2_endBeat_10 (by decide) (fun c1 => ?_) (fun c1 => ?_)
  · replace hf := me_ip c1 hf
    refine me_aload_n C 0 (Or.inr (Or.inl ⟨_, rfl⟩)) dX2_endBeat_43 rfl rfl ?_
    refine me_aload_n C 0 (Or.inr (Or.inl ⟨_, rfl⟩)) dX2_endBeat_44 rfl rfl ?_
    refine me_geti C 6 fg_Mover_39 dX2_endBeat_45 rfl ?_
    obtain ⟨μ2, e_μ2, hf⟩ := me_lts hf
    refine me_puti C 5 fw_Mover_35 dX2_endBeat_48 rfl (me_nri _) e_μ2 ?_
    exact me_vret C N dX2_endBeat_51 (by cases hf; rfl) (by decide) (by decide)
  · replace hf := me_in c1 hf
    refine me_aload_n C 0 (Or.inr (Or.inl ⟨_, rfl⟩)) dX2_endBeat_13 rfl rfl ?_
    refine me_getr C hB 2 (k' := 12) (i' := 0) fg_Mover_26 dX2_endBeat_14 rfl rfl ?_
    refine me_iload_n C 1 dX2_endBeat_17 rfl rfl ?_
    obtain ⟨g3, hf⟩ := me_gs hf
    refine me_aald C hB (k' := 13) (i' := (me_ix v1)) rfl (fun _ => rfl) rfl g3 dX2_endBeat_18 rfl ?_
    refine me_astore_n C 2 (Or.inr (Or.inl ⟨_, rfl⟩)) dX2_endBeat_19 rfl (by decide) (L' := [(2, me_r 13 (me_ix v1)), (0, me_r 30 0), (1, me_i v1)]) rfl ?_
    refine me_aload_n C 2 (Or.inr (Or.inl ⟨_, rfl⟩)) dX2_endBeat_20 rfl rfl ?_
    refine me_geti C 4 fg_Mover_51 dX2_endBeat_21 rfl ?_
    refine me_if_eq C (tgt := 37) dX2_endBeat_24 (by decide) (fun c4 => ?_) (fun c4 => ?_)
    · replace hf := me_ip c4 hf
      obtain ⟨x5, e_x5, hf⟩ := me_lts hf
      refine me_iinc C (v := x5) (L' := [(1, me_i x5), (2, me_r 13 (me_ix v1)), (0, me_r 30 0)]) dX2_endBeat_37 rfl e_x5.symm (by decide) rfl ?_
      refine me_goto C (tgt := 2) dX2_endBeat_40 (by decide) ?_
      refine me_dropI [(0, me_r 30 0), (1, me_i x5)] [2, 0] rfl ?_
      exact hK2 μ x5 hf
    · replace hf := me_in c4 hf
      refine me_aload_n C 2 (Or.inr (Or.inl ⟨_, rfl⟩)) dX2_endBeat_27 rfl rfl ?_
      refine me_iconst C (v := 1) dX2_endBeat_28 (by decide) ?_
      obtain ⟨μ6, e_μ6, hf⟩ := me_lts hf
      refine me_puti C 3 fw_Mover_56 dX2_endBeat_29 rfl (by decide +kernel) e_μ6 ?_
      refine me_aload_n C 2 (Or.inr (Or.inl ⟨_, rfl⟩)) dX2_endBeat_32 rfl rfl ?_
      refine me_iconst C (v := 0) dX2_endBeat_33 (by decide) ?_
      obtain ⟨μ7, e_μ7, hf⟩ := me_lts hf
      refine me_puti C 4 fw_Mover_51 dX2_endBeat_34 rfl (by decide +kernel) e_μ7 ?_
      obtain ⟨x8, e_x8, hf⟩ := me_lts hf
      refine me_iinc C (v := x8) (L' := [(1, me_i x8), (2, me_r 13 (me_ix v1)), (0, me_r 30 0)]) dX2_endBeat_37 rfl e_x8.symm (by decide) rfl ?_
      refine me_goto C (tgt := 2) dX2_endBeat_40 (by decide) ?_
      refine me_dropI [(0, me_r 30 0), (1, me_i x8)] [2, 0] rfl ?_
      exact hK2 μ7 x8 hf
def f_Mover_endBeat_h2  : Nat → me_M → Int32 → Option (me_M × Unit)
  | 0, _, _ => none
  | n + 1, μ, v1 => f_Mover_endBeat_b2 (f_Mover_endBeat_h2 n) μ v1
set_option maxHeartbeats 4000000 in
set_option maxRecDepth 100000 in
theorem z_Mover_endBeat_h2 {X : me_X} {B : me_B} {sz : Nat} (C : me_C X B RX2 cX2_endBeat 3 none)  {r : me_M × Unit} (N : me_En X B sz (B, r.1, .ok (none)) 0 0 0 0) (hNx : me_Nx X) (hB : me_St B)  : ∀ (n : Nat) (μ : me_M) (v1 : Int32), f_Mover_endBeat_h2 n μ v1 = some r → me_Z X B 0 0 μ 2 [(0, me_r 30 0), (1, me_i v1)] [] := by
  intro n
  induction n with
  | zero => intro μ v1  h; exact absurd (show (none : Option (me_M × Unit)) = some r from h) (fun q => by cases q)
  | succ n ih => intro μ v1  h; exact z_Mover_endBeat_b2 C N hNx hB  (K2 := f_Mover_endBeat_h2 n) ih  h
def f_Mover_endBeat (μ : me_M) : Option (me_M × Unit) :=
  f_Mover_endBeat_h2 me_FU μ (0 : Int32)
set_option maxHeartbeats 4000000 in
set_option maxRecDepth 100000 in
theorem z_Mover_endBeat {X : me_X} {B : me_B} {sz : Nat} (C : me_C X B RX2 cX2_endBeat 3 none) {μ : me_M}    {r : me_M × Unit} (N : me_En X B sz (B, r.1, .ok (none)) 0 0 0 0) (hNx : me_Nx X) (hB : me_St B)   (hf : f_Mover_endBeat μ = some r) : me_Z X B 0 0 μ 0 [(0, me_r 30 0)] [] := by
  unfold f_Mover_endBeat at hf
  refine me_iconst C (v := 0) dX2_endBeat_0 (by decide) ?_
  refine me_istore_n C 1 dX2_endBeat_1 rfl (by decide) (L' := [(1, me_i (0 : Int32)), (0, me_r 30 0)]) rfl ?_
  refine me_dropI [(0, me_r 30 0), (1, me_i (0 : Int32))] [1, 0] rfl ?_
  exact z_Mover_endBeat_h2 C N hNx hB me_FU μ (0 : Int32) hf
theorem c_Mover_endBeat {B : me_B} (hB : me_St B) {μ : me_M}  {μ' : me_M} {r : Unit}  (hf : f_Mover_endBeat μ = some (μ', r)) : ∀ l E z, l.stackTraces = false → me_Met l yX2_endBeat cX2_endBeat 3 none 0 0 0 0 E B μ z [me_r 30 0] (B, μ', .ok (none)) :=
  fun _ _ _ hl => me_ofZ hl (by decide +kernel) (Nat.le_of_ble_eq_true rfl) (fun _ C N hNx => z_Mover_endBeat C N hNx hB  hf)

def f_Row_canBeLookedAt (μ : me_M) (v0 : Nat) (v1 : Int32) : Option Int32 :=
  if (μ 17 v0 3) ≤ 0 then
  (some (0 : Int32))
  else
  (if (μ 17 v0 7) = v1 then
  (some (0 : Int32))
  else
  (if (μ 20 v0 0) = v1 then
  (some (0 : Int32))
  else
  (some (1 : Int32))))
set_option maxHeartbeats 4000000 in
set_option maxRecDepth 100000 in
theorem z_Row_canBeLookedAt {X : me_X} {B : me_B} {sz : Nat} (C : me_C X B RX8 cX8_canBeLookedAt 2 (some .boolean)) {μ : me_M} {v0 : Nat} {v1 : Int32}   {r : Int32} (N : me_En X B sz (B, μ, .ok (some (me_i r))) 0 0 0 0) (hNx : me_Nx X) (hB : me_St B)   (hf : f_Row_canBeLookedAt μ v0 v1 = some r) : me_Z X B 0 0 μ 0 [(0, me_r 17 v0), (1, me_i v1)] [] := by
  unfold f_Row_canBeLookedAt at hf
  refine me_aload_n C 0 (Or.inr (Or.inl ⟨_, rfl⟩)) dX8_canBeLookedAt_0 rfl rfl ?_
  refine me_geti C 3 fg_Row_21 dX8_canBeLookedAt_1 rfl ?_
  refine me_if_le C (tgt := 29) dX8_canBeLookedAt_4 (by decide) (fun c1 => ?_) (fun c1 => ?_)
  · replace hf := me_ip c1 hf
    refine me_iconst C (v := 0) dX8_canBeLookedAt_29 (by decide) ?_
    exact me_iret C N dX8_canBeLookedAt_30 (by decide +kernel) (by cases hf; rfl) (by decide) (by decide)
  · replace hf := me_in c1 hf
    refine me_aload_n C 0 (Or.inr (Or.inl ⟨_, rfl⟩)) dX8_canBeLookedAt_7 rfl rfl ?_
    refine me_geti C 7 fg_Row_31 dX8_canBeLookedAt_8 rfl ?_
    refine me_iload_n C 1 dX8_canBeLookedAt_11 rfl rfl ?_
    refine me_icmp_eq C (tgt := 29) dX8_canBeLookedAt_12 (by decide) (fun c2 => ?_) (fun c2 => ?_)
    · replace hf := me_ip c2 hf
      refine me_iconst C (v := 0) dX8_canBeLookedAt_29 (by decide) ?_
      exact me_iret C N dX8_canBeLookedAt_30 (by decide +kernel) (by cases hf; rfl) (by decide) (by decide)
    · replace hf := me_in c2 hf
      refine me_aload_n C 0 (Or.inr (Or.inl ⟨_, rfl⟩)) dX8_canBeLookedAt_15 rfl rfl ?_
      refine me_getr C hB 2 (k' := 20) (i' := v0) fg_Row_18 dX8_canBeLookedAt_16 rfl rfl ?_
      refine me_iconst C (v := 0) dX8_canBeLookedAt_19 (by decide) ?_
      refine me_iald C rfl (fun _ => rfl) (by decide +kernel) dX8_canBeLookedAt_20 ?_
      refine me_iload_n C 1 dX8_canBeLookedAt_21 rfl rfl ?_
      refine me_icmp_eq C (tgt := 29) dX8_canBeLookedAt_22 (by decide) (fun c3 => ?_) (fun c3 => ?_)
      · replace hf := me_ip c3 hf
        refine me_iconst C (v := 0) dX8_canBeLookedAt_29 (by decide) ?_
        exact me_iret C N dX8_canBeLookedAt_30 (by decide +kernel) (by cases hf; rfl) (by decide) (by decide)
      · replace hf := me_in c3 hf
        refine me_iconst C (v := 1) dX8_canBeLookedAt_25 (by decide) ?_
        refine me_goto C (tgt := 30) dX8_canBeLookedAt_26 (by decide) ?_
        exact me_iret C N dX8_canBeLookedAt_30 (by decide +kernel) (by cases hf; rfl) (by decide) (by decide)
theorem c_Row_canBeLookedAt {B : me_B} (hB : me_St B) {μ : me_M} {v0 : Nat} {v1 : Int32} {r : Int32}  (hf : f_Row_canBeLookedAt μ v0 v1 = some r) : ∀ l E z, l.stackTraces = false → me_Met l yX8_canBeLookedAt cX8_canBeLookedAt 2 (some .boolean) 0 0 0 0 E B μ z [me_r 17 v0, me_i v1] (B, μ, .ok (some (me_i r))) :=
  fun _ _ _ hl => me_ofZ hl (by decide +kernel) (Nat.le_of_ble_eq_true rfl) (fun _ C N hNx => z_Row_canBeLookedAt C N hNx hB  hf)

def f_Post_find (μ : me_M) (v1 : Int32) : Option (Option Nat) :=
  if v1 < 0 then
  (some none)
  else
  (if (μ 6 0 1) ≤ v1 then
  (some none)
  else
  (if (200 : Int32) ≤ v1 then
  (some none)
  else
  (me_gd (me_inb v1 200) (
  some (some (me_ix v1))))))
set_option maxHeartbeats 4000000 in
set_option maxRecDepth 100000 in
theorem z_Post_find {X : me_X} {B : me_B} {sz : Nat} (C : me_C X B RX6 cX6_find 2 (some (.object "Meshyard$Packet"))) {μ : me_M} {v1 : Int32}   {r : Option Nat} (N : me_En X B sz (B, μ, .ok (some (me_q 8 r))) 0 0 0 0) (hNx : me_Nx X) (hB : me_St B)   (hf : f_Post_find μ v1 = some r) : me_Z X B 0 0 μ 0 [(0, me_r 6 0), (1, me_i v1)] [] := by
  unfold f_Post_find at hf
  refine me_iload_n C 1 dX6_find_0 rfl rfl ?_
  refine me_if_lt C (tgt := 28) dX6_find_1 (by decide) (fun c1 => ?_) (fun c1 => ?_)
  · replace hf := me_ip c1 hf
    refine me_null C dX6_find_28 ?_
    exact me_aret C N (Or.inl rfl) dX6_find_29 (by cases hf; rfl) (by decide) (by decide)
  · replace hf := me_in c1 hf
    refine me_iload_n C 1 dX6_find_4 rfl rfl ?_
    refine me_aload_n C 0 (Or.inr (Or.inl ⟨_, rfl⟩)) dX6_find_5 rfl rfl ?_
    refine me_geti C 1 fg_Post_20 dX6_find_6 rfl ?_
    refine me_icmp_ge C (tgt := 28) dX6_find_9 (by decide) (fun c2 => ?_) (fun c2 => ?_)
    · replace hf := me_ip c2 hf
      refine me_null C dX6_find_28 ?_
      exact me_aret C N (Or.inl rfl) dX6_find_29 (by cases hf; rfl) (by decide) (by decide)
    · replace hf := me_in c2 hf
      refine me_iload_n C 1 dX6_find_12 rfl rfl ?_
      refine me_sipush C (v := 200) dX6_find_13 (by decide) ?_
      refine me_icmp_ge C (tgt := 28) dX6_find_16 (by decide) (fun c3 => ?_) (fun c3 => ?_)
      · replace hf := me_ip c3 hf
        refine me_null C dX6_find_28 ?_
        exact me_aret C N (Or.inl rfl) dX6_find_29 (by cases hf; rfl) (by decide) (by decide)
      · replace hf := me_in c3 hf
        refine me_aload_n C 0 (Or.inr (Or.inl ⟨_, rfl⟩)) dX6_find_19 rfl rfl ?_
        refine me_getr C hB 0 (k' := 7) (i' := 0) fg_Post_11 dX6_find_20 rfl rfl ?_
        refine me_iload_n C 1 dX6_find_23 rfl rfl ?_
        obtain ⟨g4, hf⟩ := me_gs hf
        refine me_aald C hB (k' := 8) (i' := (me_ix v1)) rfl (fun _ => rfl) rfl g4 dX6_find_24 rfl ?_
        refine me_goto C (tgt := 29) dX6_find_25 (by decide) ?_
        exact me_aret C N (Or.inr ⟨_, rfl⟩) dX6_find_29 (by cases hf; rfl) (by decide) (by decide)
theorem c_Post_find {B : me_B} (hB : me_St B) {μ : me_M} {v1 : Int32} {r : Option Nat}  (hf : f_Post_find μ v1 = some r) : ∀ l E z, l.stackTraces = false → me_Met l yX6_find cX6_find 2 (some (.object "Meshyard$Packet")) 0 0 0 0 E B μ z [me_r 6 0, me_i v1] (B, μ, .ok (some (me_q 8 r))) :=
  fun _ _ _ hl => me_ofZ hl (by decide +kernel) (Nat.le_of_ble_eq_true rfl) (fun _ C N hNx => z_Post_find C N hNx hB  hf)

def f_Net_alongX (μ : me_M) (v1 : Int32) (v2 : Int32) : Option Int32 :=
  me_gd (me_inb v2 16) (
  me_gd (me_inb v1 16) (
  if (μ 4 0 (me_ix v2)) = (μ 4 0 (me_ix v1)) then
  (some (-1 : Int32))
  else
  (me_gd (me_inb v2 16) (
  me_gd (me_inb v1 16) (
  if (μ 4 0 (me_ix v2)) ≤ (μ 4 0 (me_ix v1)) then
  (some (1 : Int32))
  else
  (some (0 : Int32)))))))
set_option maxHeartbeats 4000000 in
set_option maxRecDepth 100000 in
theorem z_Net_alongX {X : me_X} {B : me_B} {sz : Nat} (C : me_C X B RX3 cX3_alongX 3 (some .int)) {μ : me_M} {v1 : Int32} {v2 : Int32}   {r : Int32} (N : me_En X B sz (B, μ, .ok (some (me_i r))) 0 0 0 0) (hNx : me_Nx X) (hB : me_St B)   (hf : f_Net_alongX μ v1 v2 = some r) : me_Z X B 0 0 μ 0 [(0, me_r 1 0), (1, me_i v1), (2, me_i v2)] [] := by
  unfold f_Net_alongX at hf
  refine me_aload_n C 0 (Or.inr (Or.inl ⟨_, rfl⟩)) dX3_alongX_0 rfl rfl ?_
  refine me_getr C hB 2 (k' := 4) (i' := 0) fg_Net_19 dX3_alongX_1 rfl rfl ?_
  refine me_iload_n C 2 dX3_alongX_4 rfl rfl ?_
  obtain ⟨g1, hf⟩ := me_gs hf
  refine me_iald C rfl (fun _ => rfl) g1 dX3_alongX_5 ?_
  refine me_aload_n C 0 (Or.inr (Or.inl ⟨_, rfl⟩)) dX3_alongX_6 rfl rfl ?_
  refine me_getr C hB 2 (k' := 4) (i' := 0) fg_Net_19 dX3_alongX_7 rfl rfl ?_
  refine me_iload_n C 1 dX3_alongX_10 rfl rfl ?_
  obtain ⟨g2, hf⟩ := me_gs hf
  refine me_iald C rfl (fun _ => rfl) g2 dX3_alongX_11 ?_
  refine me_icmp_ne C (tgt := 17) dX3_alongX_12 (by decide) (fun c3 => ?_) (fun c3 => ?_)
  · replace hf := me_in c3 hf
    refine me_aload_n C 0 (Or.inr (Or.inl ⟨_, rfl⟩)) dX3_alongX_17 rfl rfl ?_
    refine me_getr C hB 2 (k' := 4) (i' := 0) fg_Net_19 dX3_alongX_18 rfl rfl ?_
    refine me_iload_n C 2 dX3_alongX_21 rfl rfl ?_
    obtain ⟨g4, hf⟩ := me_gs hf
    refine me_iald C rfl (fun _ => rfl) g4 dX3_alongX_22 ?_
    refine me_aload_n C 0 (Or.inr (Or.inl ⟨_, rfl⟩)) dX3_alongX_23 rfl rfl ?_
    refine me_getr C hB 2 (k' := 4) (i' := 0) fg_Net_19 dX3_alongX_24 rfl rfl ?_
    refine me_iload_n C 1 dX3_alongX_27 rfl rfl ?_
    obtain ⟨g5, hf⟩ := me_gs hf
    refine me_iald C rfl (fun _ => rfl) g5 dX3_alongX_28 ?_
    refine me_icmp_le C (tgt := 36) dX3_alongX_29 (by decide) (fun c6 => ?_) (fun c6 => ?_)
    · replace hf := me_ip c6 hf
      refine me_iconst C (v := 1) dX3_alongX_36 (by decide) ?_
      exact me_iret C N dX3_alongX_37 (me_nri _) (by cases hf; rfl) (by decide) (by decide)
    · replace hf := me_in c6 hf
      refine me_iconst C (v := 0) dX3_alongX_32 (by decide) ?_
      refine me_goto C (tgt := 37) dX3_alongX_33 (by decide) ?_
      exact me_iret C N dX3_alongX_37 (me_nri _) (by cases hf; rfl) (by decide) (by decide)
  · replace hf := me_ip c3 hf
    refine me_iconst C (v := -1) dX3_alongX_15 (by decide) ?_
    exact me_iret C N dX3_alongX_16 (me_nri _) (by cases hf; rfl) (by decide) (by decide)
theorem c_Net_alongX {B : me_B} (hB : me_St B) {μ : me_M} {v1 : Int32} {v2 : Int32} {r : Int32}  (hf : f_Net_alongX μ v1 v2 = some r) : ∀ l E z, l.stackTraces = false → me_Met l yX3_alongX cX3_alongX 3 (some .int) 0 0 0 0 E B μ z [me_r 1 0, me_i v1, me_i v2] (B, μ, .ok (some (me_i r))) :=
  fun _ _ _ hl => me_ofZ hl (by decide +kernel) (Nat.le_of_ble_eq_true rfl) (fun _ C N hNx => z_Net_alongX C N hNx hB  hf)

def f_Net_alongY (μ : me_M) (v1 : Int32) (v2 : Int32) : Option Int32 :=
  me_gd (me_inb v2 16) (
  me_gd (me_inb v1 16) (
  if (μ 5 0 (me_ix v2)) = (μ 5 0 (me_ix v1)) then
  (some (-1 : Int32))
  else
  (me_gd (me_inb v2 16) (
  me_gd (me_inb v1 16) (
  if (μ 5 0 (me_ix v2)) ≤ (μ 5 0 (me_ix v1)) then
  (some (3 : Int32))
  else
  (some (2 : Int32)))))))
set_option maxHeartbeats 4000000 in
set_option maxRecDepth 100000 in
theorem z_Net_alongY {X : me_X} {B : me_B} {sz : Nat} (C : me_C X B RX3 cX3_alongY 3 (some .int)) {μ : me_M} {v1 : Int32} {v2 : Int32}   {r : Int32} (N : me_En X B sz (B, μ, .ok (some (me_i r))) 0 0 0 0) (hNx : me_Nx X) (hB : me_St B)   (hf : f_Net_alongY μ v1 v2 = some r) : me_Z X B 0 0 μ 0 [(0, me_r 1 0), (1, me_i v1), (2, me_i v2)] [] := by
  unfold f_Net_alongY at hf
  refine me_aload_n C 0 (Or.inr (Or.inl ⟨_, rfl⟩)) dX3_alongY_0 rfl rfl ?_
  refine me_getr C hB 3 (k' := 5) (i' := 0) fg_Net_22 dX3_alongY_1 rfl rfl ?_
  refine me_iload_n C 2 dX3_alongY_4 rfl rfl ?_
  obtain ⟨g1, hf⟩ := me_gs hf
  refine me_iald C rfl (fun _ => rfl) g1 dX3_alongY_5 ?_
  refine me_aload_n C 0 (Or.inr (Or.inl ⟨_, rfl⟩)) dX3_alongY_6 rfl rfl ?_
  refine me_getr C hB 3 (k' := 5) (i' := 0) fg_Net_22 dX3_alongY_7 rfl rfl ?_
  refine me_iload_n C 1 dX3_alongY_10 rfl rfl ?_
  obtain ⟨g2, hf⟩ := me_gs hf
  refine me_iald C rfl (fun _ => rfl) g2 dX3_alongY_11 ?_
  refine me_icmp_ne C (tgt := 17) dX3_alongY_12 (by decide) (fun c3 => ?_) (fun c3 => ?_)
  · replace hf := me_in c3 hf
    refine me_aload_n C 0 (Or.inr (Or.inl ⟨_, rfl⟩)) dX3_alongY_17 rfl rfl ?_
    refine me_getr C hB 3 (k' := 5) (i' := 0) fg_Net_22 dX3_alongY_18 rfl rfl ?_
    refine me_iload_n C 2 dX3_alongY_21 rfl rfl ?_
    obtain ⟨g4, hf⟩ := me_gs hf
    refine me_iald C rfl (fun _ => rfl) g4 dX3_alongY_22 ?_
    refine me_aload_n C 0 (Or.inr (Or.inl ⟨_, rfl⟩)) dX3_alongY_23 rfl rfl ?_
    refine me_getr C hB 3 (k' := 5) (i' := 0) fg_Net_22 dX3_alongY_24 rfl rfl ?_
    refine me_iload_n C 1 dX3_alongY_27 rfl rfl ?_
    obtain ⟨g5, hf⟩ := me_gs hf
    refine me_iald C rfl (fun _ => rfl) g5 dX3_alongY_28 ?_
    refine me_icmp_le C (tgt := 36) dX3_alongY_29 (by decide) (fun c6 => ?_) (fun c6 => ?_)
    · replace hf := me_ip c6 hf
      refine me_iconst C (v := 3) dX3_alongY_36 (by decide) ?_
      exact me_iret C N dX3_alongY_37 (me_nri _) (by cases hf; rfl) (by decide) (by decide)
    · replace hf := me_in c6 hf
      refine me_iconst C (v := 2) dX3_alongY_32 (by decide) ?_
      refine me_goto C (tgt := 37) dX3_alongY_33 (by decide) ?_
      exact me_iret C N dX3_alongY_37 (me_nri _) (by cases hf; rfl) (by decide) (by decide)
  · replace hf := me_ip c3 hf
    refine me_iconst C (v := -1) dX3_alongY_15 (by decide) ?_
    exact me_iret C N dX3_alongY_16 (me_nri _) (by cases hf; rfl) (by decide) (by decide)
theorem c_Net_alongY {B : me_B} (hB : me_St B) {μ : me_M} {v1 : Int32} {v2 : Int32} {r : Int32}  (hf : f_Net_alongY μ v1 v2 = some r) : ∀ l E z, l.stackTraces = false → me_Met l yX3_alongY cX3_alongY 3 (some .int) 0 0 0 0 E B μ z [me_r 1 0, me_i v1, me_i v2] (B, μ, .ok (some (me_i r))) :=
  fun _ _ _ hl => me_ofZ hl (by decide +kernel) (Nat.le_of_ble_eq_true rfl) (fun _ C N hNx => z_Net_alongY C N hNx hB  hf)

def f_Net_opposite (μ : me_M) (v1 : Int32) : Option Int32 :=
  some (v1 ^^^ (1 : Int32))
set_option maxHeartbeats 4000000 in
set_option maxRecDepth 100000 in
theorem z_Net_opposite {X : me_X} {B : me_B} {sz : Nat} (C : me_C X B RX3 cX3_opposite 2 (some .int)) {μ : me_M} {v1 : Int32}   {r : Int32} (N : me_En X B sz (B, μ, .ok (some (me_i r))) 0 0 0 0) (hNx : me_Nx X) (hB : me_St B)   (hf : f_Net_opposite μ v1 = some r) : me_Z X B 0 0 μ 0 [(0, me_r 1 0), (1, me_i v1)] [] := by
  unfold f_Net_opposite at hf
  refine me_iload_n C 1 dX3_opposite_0 rfl rfl ?_
  refine me_iconst C (v := 1) dX3_opposite_1 (by decide) ?_
  refine me_ixor C dX3_opposite_2 ?_
  exact me_iret C N dX3_opposite_3 (me_nri _) (by cases hf; rfl) (by decide) (by decide)
theorem c_Net_opposite {B : me_B} (hB : me_St B) {μ : me_M} {v1 : Int32} {r : Int32}  (hf : f_Net_opposite μ v1 = some r) : ∀ l E z, l.stackTraces = false → me_Met l yX3_opposite cX3_opposite 2 (some .int) 0 0 0 0 E B μ z [me_r 1 0, me_i v1] (B, μ, .ok (some (me_i r))) :=
  fun _ _ _ hl => me_ofZ hl (by decide +kernel) (Nat.le_of_ble_eq_true rfl) (fun _ C N hNx => z_Net_opposite C N hNx hB  hf)

def f_Row_hasPlace (μ : me_M) (v0 : Nat) : Option Int32 :=
  if (μ 17 v0 4) ≤ (μ 17 v0 3) then
  (some (0 : Int32))
  else
  (if (4 : Int32) ≤ (μ 17 v0 3) then
  (some (0 : Int32))
  else
  (some (1 : Int32)))
set_option maxHeartbeats 4000000 in
set_option maxRecDepth 100000 in
theorem z_Row_hasPlace {X : me_X} {B : me_B} {sz : Nat} (C : me_C X B RX8 cX8_hasPlace 1 (some .boolean)) {μ : me_M} {v0 : Nat}   {r : Int32} (N : me_En X B sz (B, μ, .ok (some (me_i r))) 0 0 0 0) (hNx : me_Nx X) (hB : me_St B)   (hf : f_Row_hasPlace μ v0 = some r) : me_Z X B 0 0 μ 0 [(0, me_r 17 v0)] [] := by
  unfold f_Row_hasPlace at hf
  refine me_aload_n C 0 (Or.inr (Or.inl ⟨_, rfl⟩)) dX8_hasPlace_0 rfl rfl ?_
  refine me_geti C 3 fg_Row_21 dX8_hasPlace_1 rfl ?_
  refine me_aload_n C 0 (Or.inr (Or.inl ⟨_, rfl⟩)) dX8_hasPlace_4 rfl rfl ?_
  refine me_geti C 4 fg_Row_34 dX8_hasPlace_5 rfl ?_
  refine me_icmp_ge C (tgt := 23) dX8_hasPlace_8 (by decide) (fun c1 => ?_) (fun c1 => ?_)
  · replace hf := me_ip c1 hf
    refine me_iconst C (v := 0) dX8_hasPlace_23 (by decide) ?_
    exact me_iret C N dX8_hasPlace_24 (by decide +kernel) (by cases hf; rfl) (by decide) (by decide)
  · replace hf := me_in c1 hf
    refine me_aload_n C 0 (Or.inr (Or.inl ⟨_, rfl⟩)) dX8_hasPlace_11 rfl rfl ?_
    refine me_geti C 3 fg_Row_21 dX8_hasPlace_12 rfl ?_
    refine me_iconst C (v := 4) dX8_hasPlace_15 (by decide) ?_
    refine me_icmp_ge C (tgt := 23) dX8_hasPlace_16 (by decide) (fun c2 => ?_) (fun c2 => ?_)
    · replace hf := me_ip c2 hf
      refine me_iconst C (v := 0) dX8_hasPlace_23 (by decide) ?_
      exact me_iret C N dX8_hasPlace_24 (by decide +kernel) (by cases hf; rfl) (by decide) (by decide)
    · replace hf := me_in c2 hf
      refine me_iconst C (v := 1) dX8_hasPlace_19 (by decide) ?_
      refine me_goto C (tgt := 24) dX8_hasPlace_20 (by decide) ?_
      exact me_iret C N dX8_hasPlace_24 (by decide +kernel) (by cases hf; rfl) (by decide) (by decide)
theorem c_Row_hasPlace {B : me_B} (hB : me_St B) {μ : me_M} {v0 : Nat} {r : Int32}  (hf : f_Row_hasPlace μ v0 = some r) : ∀ l E z, l.stackTraces = false → me_Met l yX8_hasPlace cX8_hasPlace 1 (some .boolean) 0 0 0 0 E B μ z [me_r 17 v0] (B, μ, .ok (some (me_i r))) :=
  fun _ _ _ hl => me_ofZ hl (by decide +kernel) (Nat.le_of_ble_eq_true rfl) (fun _ C N hNx => z_Row_hasPlace C N hNx hB  hf)

def f_Ways_isFreeAhead (μ : me_M) (v1 : Int32) (v2 : Int32) (v3 : Int32) : Option Int32 :=
  me_lt (((v1 * (4 : Int32)) + v2)) (fun x1 =>
  me_gd (me_inb x1 64) (
  if (μ 2 0 (me_ix x1)) = (-1 : Int32) then
  (some (0 : Int32))
  else
  (me_gd (me_inb x1 64) (
  if (μ 3 0 (me_ix x1)) = 0 then
  (me_gd (me_inb x1 64) (
  me_gd (me_inb (μ 2 0 (me_ix x1)) 16) (
  me_bd (f_Net_opposite μ v2) (fun r8 =>
  me_gd (me_inb ((v3 * (5 : Int32)) + r8) 10) (
  if (μ 17 (10 * (me_ix (μ 2 0 (me_ix x1))) + (me_ix ((v3 * (5 : Int32)) + r8))) 5) = (-1 : Int32) then
  (me_bd (f_Row_hasPlace μ (10 * (me_ix (μ 2 0 (me_ix x1))) + (me_ix ((v3 * (5 : Int32)) + r8)))) (fun r11 =>
  if r11 = 0 then
  (some (0 : Int32))
  else
  (some (1 : Int32))))
  else
  (some (0 : Int32)))))))
  else
  (some (0 : Int32))))))
set_option maxHeartbeats 4000000 in
set_option maxRecDepth 100000 in
theorem z_Ways_isFreeAhead {X : me_X} {B : me_B} {sz : Nat} (C : me_C X B RX9 cX9_isFreeAhead 6 (some .boolean)) {μ : me_M} {v1 : Int32} {v2 : Int32} {v3 : Int32}   {r : Int32} (N : me_En X B sz (B, μ, .ok (some (me_i r))) 1 21 0 0) (hNx : me_Nx X) (hB : me_St B)   (hf : f_Ways_isFreeAhead μ v1 v2 v3 = some r) : me_Z X B 0 0 μ 0 [(0, me_r 27 0), (1, me_i v1), (2, me_i v2), (3, me_i v3)] [] := by
  unfold f_Ways_isFreeAhead at hf
  refine me_iload_n C 1 dX9_isFreeAhead_0 rfl rfl ?_
  refine me_iconst C (v := 4) dX9_isFreeAhead_1 (by decide) ?_
  refine me_imul C dX9_isFreeAhead_2 ?_
  refine me_iload_n C 2 dX9_isFreeAhead_3 rfl rfl ?_
  refine me_iadd C dX9_isFreeAhead_4 ?_
  obtain ⟨x1, e_x1, hf⟩ := me_lts hf
  refine me_nm e_x1 ?_
  refine me_istore C dX9_isFreeAhead_5 (by decide) (L' := [(4, me_i x1), (0, me_r 27 0), (1, me_i v1), (2, me_i v2), (3, me_i v3)]) rfl ?_
  refine me_aload_n C 0 (Or.inr (Or.inl ⟨_, rfl⟩)) dX9_isFreeAhead_7 rfl rfl ?_
  refine me_getr C hB 0 (k' := 1) (i' := 0) fg_Ways_23 dX9_isFreeAhead_8 rfl rfl ?_
  refine me_getr C hB 0 (k' := 2) (i' := 0) fg_Ways_52 dX9_isFreeAhead_11 rfl rfl ?_
  refine me_iload C dX9_isFreeAhead_14 rfl ?_
  obtain ⟨g2, hf⟩ := me_gs hf
  refine me_iald C rfl (fun _ => rfl) g2 dX9_isFreeAhead_16 ?_
  refine me_iconst C (v := -1) dX9_isFreeAhead_17 (by decide) ?_
  refine me_icmp_eq C (tgt := 34) dX9_isFreeAhead_18 (by decide) (fun c3 => ?_) (fun c3 => ?_)
  · replace hf := me_ip c3 hf
    refine me_iconst C (v := 0) dX9_isFreeAhead_34 (by decide) ?_
    exact me_iret C N dX9_isFreeAhead_35 (by decide +kernel) (by cases hf; rfl) (by decide) (by decide)
  · replace hf := me_in c3 hf
    refine me_aload_n C 0 (Or.inr (Or.inl ⟨_, rfl⟩)) dX9_isFreeAhead_21 rfl rfl ?_
    refine me_getr C hB 0 (k' := 1) (i' := 0) fg_Ways_23 dX9_isFreeAhead_22 rfl rfl ?_
    refine me_getr C hB 1 (k' := 3) (i' := 0) fg_Ways_55 dX9_isFreeAhead_25 rfl rfl ?_
    refine me_iload C dX9_isFreeAhead_28 rfl ?_
    obtain ⟨g4, hf⟩ := me_gs hf
    refine me_zald C rfl (fun _ => rfl) g4 dX9_isFreeAhead_30 ?_
    refine me_if_eq C (tgt := 36) dX9_isFreeAhead_31 (by decide) (fun c5 => ?_) (fun c5 => ?_)
    · replace hf := me_ip c5 hf
      refine me_aload_n C 0 (Or.inr (Or.inl ⟨_, rfl⟩)) dX9_isFreeAhead_36 rfl rfl ?_
      refine me_getr C hB 1 (k' := 12) (i' := 0) fg_Ways_27 dX9_isFreeAhead_37 rfl rfl ?_
      refine me_aload_n C 0 (Or.inr (Or.inl ⟨_, rfl⟩)) dX9_isFreeAhead_40 rfl rfl ?_
      refine me_getr C hB 0 (k' := 1) (i' := 0) fg_Ways_23 dX9_isFreeAhead_41 rfl rfl ?_
      refine me_getr C hB 0 (k' := 2) (i' := 0) fg_Ways_52 dX9_isFreeAhead_44 rfl rfl ?_
      refine me_iload C dX9_isFreeAhead_47 rfl ?_
      obtain ⟨g6, hf⟩ := me_gs hf
      refine me_iald C rfl (fun _ => rfl) g6 dX9_isFreeAhead_49 ?_
      obtain ⟨g7, hf⟩ := me_gs hf
      refine me_aald C hB (k' := 13) (i' := (me_ix (μ 2 0 (me_ix x1)))) rfl (fun _ => rfl) rfl g7 dX9_isFreeAhead_50 rfl ?_
      refine me_getr C hB 0 (k' := 14) (i' := (me_ix (μ 2 0 (me_ix x1)))) fg_Ways_58 dX9_isFreeAhead_51 rfl rfl ?_
      refine me_iload_n C 3 dX9_isFreeAhead_54 rfl rfl ?_
      refine me_iconst C (v := 5) dX9_isFreeAhead_55 (by decide) ?_
      refine me_imul C dX9_isFreeAhead_56 ?_
      refine me_aload_n C 0 (Or.inr (Or.inl ⟨_, rfl⟩)) dX9_isFreeAhead_57 rfl rfl ?_
      refine me_getr C hB 0 (k' := 1) (i' := 0) fg_Ways_23 dX9_isFreeAhead_58 rfl rfl ?_
      refine me_iload_n C 2 dX9_isFreeAhead_61 rfl rfl ?_
      obtain ⟨r8, h_r8, hf⟩ := me_bs hf
      refine me_callV C N  (As := [me_i v2]) (st := [me_i (v3 * (5 : Int32)), me_r 14 (me_ix (μ 2 0 (me_ix x1)))]) 0 0 (c_Net_opposite hB h_r8) mv_Net_opposite ml_Ways_64 rfl rfl dX9_isFreeAhead_62 rfl rfl ⟨by decide, by decide⟩ ⟨by decide, by decide, by decide, by decide⟩ (Nat.le_of_ble_eq_true rfl) ?_
      refine me_iadd C dX9_isFreeAhead_65 ?_
      obtain ⟨g9, hf⟩ := me_gs hf
      refine me_aald C hB (k' := 17) (i' := 10 * (me_ix (μ 2 0 (me_ix x1))) + (me_ix ((v3 * (5 : Int32)) + r8))) rfl (fun _ => rfl) rfl g9 dX9_isFreeAhead_66 rfl ?_
      refine me_astore C (Or.inr (Or.inl ⟨_, rfl⟩)) dX9_isFreeAhead_67 (by decide) (L' := [(5, me_r 17 (10 * (me_ix (μ 2 0 (me_ix x1))) + (me_ix ((v3 * (5 : Int32)) + r8)))), (4, me_i x1), (0, me_r 27 0), (1, me_i v1), (2, me_i v2), (3, me_i v3)]) rfl ?_
      refine me_aload C (Or.inr (Or.inl ⟨_, rfl⟩)) dX9_isFreeAhead_69 rfl ?_
      refine me_geti C 5 fg_Ways_68 dX9_isFreeAhead_71 rfl ?_
      refine me_iconst C (v := -1) dX9_isFreeAhead_74 (by decide) ?_
      refine me_icmp_ne C (tgt := 90) dX9_isFreeAhead_75 (by decide) (fun c10 => ?_) (fun c10 => ?_)
      · replace hf := me_in c10 hf
        refine me_iconst C (v := 0) dX9_isFreeAhead_90 (by decide) ?_
        exact me_iret C N dX9_isFreeAhead_91 (by decide +kernel) (by cases hf; rfl) (by decide) (by decide)
      · replace hf := me_ip c10 hf
        refine me_aload C (Or.inr (Or.inl ⟨_, rfl⟩)) dX9_isFreeAhead_78 rfl ?_
        obtain ⟨r11, h_r11, hf⟩ := me_bs hf
        refine me_callV C N  (As := []) (st := []) 0 0 (c_Row_hasPlace hB h_r11) mv_Row_hasPlace ml_Ways_74 rfl rfl dX9_isFreeAhead_80 rfl rfl ⟨by decide, by decide⟩ ⟨by decide, by decide, by decide, by decide⟩ (Nat.le_of_ble_eq_true rfl) ?_
        refine me_if_eq C (tgt := 90) dX9_isFreeAhead_83 (by decide) (fun c12 => ?_) (fun c12 => ?_)
        · replace hf := me_ip c12 hf
          refine me_iconst C (v := 0) dX9_isFreeAhead_90 (by decide) ?_
          exact me_iret C N dX9_isFreeAhead_91 (by decide +kernel) (by cases hf; rfl) (by decide) (by decide)
        · replace hf := me_in c12 hf
          refine me_iconst C (v := 1) dX9_isFreeAhead_86 (by decide) ?_
          refine me_goto C (tgt := 91) dX9_isFreeAhead_87 (by decide) ?_
          exact me_iret C N dX9_isFreeAhead_91 (by decide +kernel) (by cases hf; rfl) (by decide) (by decide)
    · replace hf := me_in c5 hf
      refine me_iconst C (v := 0) dX9_isFreeAhead_34 (by decide) ?_
      exact me_iret C N dX9_isFreeAhead_35 (by decide +kernel) (by cases hf; rfl) (by decide) (by decide)
theorem c_Ways_isFreeAhead {B : me_B} (hB : me_St B) {μ : me_M} {v1 : Int32} {v2 : Int32} {v3 : Int32} {r : Int32}  (hf : f_Ways_isFreeAhead μ v1 v2 v3 = some r) : ∀ l E z, l.stackTraces = false → me_Met l yX9_isFreeAhead cX9_isFreeAhead 6 (some .boolean) 1 21 0 0 E B μ z [me_r 27 0, me_i v1, me_i v2, me_i v3] (B, μ, .ok (some (me_i r))) :=
  fun _ _ _ hl => me_ofZ hl (by decide +kernel) (Nat.le_of_ble_eq_true rfl) (fun _ C N hNx => z_Ways_isFreeAhead C N hNx hB  hf)

def f_Net_isWhole (μ : me_M) (v1 : Int32) : Option Int32 :=
  me_gd (me_inb v1 64) (
  if (μ 2 0 (me_ix v1)) = (-1 : Int32) then
  (some (0 : Int32))
  else
  (me_gd (me_inb v1 64) (
  if (μ 3 0 (me_ix v1)) = 0 then
  (some (1 : Int32))
  else
  (some (0 : Int32)))))
set_option maxHeartbeats 4000000 in
set_option maxRecDepth 100000 in
theorem z_Net_isWhole {X : me_X} {B : me_B} {sz : Nat} (C : me_C X B RX3 cX3_isWhole 2 (some .boolean)) {μ : me_M} {v1 : Int32}   {r : Int32} (N : me_En X B sz (B, μ, .ok (some (me_i r))) 0 0 0 0) (hNx : me_Nx X) (hB : me_St B)   (hf : f_Net_isWhole μ v1 = some r) : me_Z X B 0 0 μ 0 [(0, me_r 1 0), (1, me_i v1)] [] := by
  unfold f_Net_isWhole at hf
  refine me_aload_n C 0 (Or.inr (Or.inl ⟨_, rfl⟩)) dX3_isWhole_0 rfl rfl ?_
  refine me_getr C hB 0 (k' := 2) (i' := 0) fg_Net_9 dX3_isWhole_1 rfl rfl ?_
  refine me_iload_n C 1 dX3_isWhole_4 rfl rfl ?_
  obtain ⟨g1, hf⟩ := me_gs hf
  refine me_iald C rfl (fun _ => rfl) g1 dX3_isWhole_5 ?_
  refine me_iconst C (v := -1) dX3_isWhole_6 (by decide) ?_
  refine me_icmp_eq C (tgt := 23) dX3_isWhole_7 (by decide) (fun c2 => ?_) (fun c2 => ?_)
  · replace hf := me_ip c2 hf
    refine me_iconst C (v := 0) dX3_isWhole_23 (by decide) ?_
    exact me_iret C N dX3_isWhole_24 (by decide +kernel) (by cases hf; rfl) (by decide) (by decide)
  · replace hf := me_in c2 hf
    refine me_aload_n C 0 (Or.inr (Or.inl ⟨_, rfl⟩)) dX3_isWhole_10 rfl rfl ?_
    refine me_getr C hB 1 (k' := 3) (i' := 0) fg_Net_15 dX3_isWhole_11 rfl rfl ?_
    refine me_iload_n C 1 dX3_isWhole_14 rfl rfl ?_
    obtain ⟨g3, hf⟩ := me_gs hf
    refine me_zald C rfl (fun _ => rfl) g3 dX3_isWhole_15 ?_
    refine me_if_ne C (tgt := 23) dX3_isWhole_16 (by decide) (fun c4 => ?_) (fun c4 => ?_)
    · replace hf := me_in c4 hf
      refine me_iconst C (v := 0) dX3_isWhole_23 (by decide) ?_
      exact me_iret C N dX3_isWhole_24 (by decide +kernel) (by cases hf; rfl) (by decide) (by decide)
    · replace hf := me_ip c4 hf
      refine me_iconst C (v := 1) dX3_isWhole_19 (by decide) ?_
      refine me_goto C (tgt := 24) dX3_isWhole_20 (by decide) ?_
      exact me_iret C N dX3_isWhole_24 (by decide +kernel) (by cases hf; rfl) (by decide) (by decide)
theorem c_Net_isWhole {B : me_B} (hB : me_St B) {μ : me_M} {v1 : Int32} {r : Int32}  (hf : f_Net_isWhole μ v1 = some r) : ∀ l E z, l.stackTraces = false → me_Met l yX3_isWhole cX3_isWhole 2 (some .boolean) 0 0 0 0 E B μ z [me_r 1 0, me_i v1] (B, μ, .ok (some (me_i r))) :=
  fun _ _ _ hl => me_ofZ hl (by decide +kernel) (Nat.le_of_ble_eq_true rfl) (fun _ C N hNx => z_Net_isWhole C N hNx hB  hf)

def f_Ways_headingByTurns_b111 (μ : me_M) (v4 : Int32) (v5 : Int32) (s0 : Int32) : Option Int32 :=
  if s0 = 0 then
  (some v4)
  else
  (some v5)
set_option maxHeartbeats 4000000 in
set_option maxRecDepth 100000 in
theorem z_Ways_headingByTurns_b111 {X : me_X} {B : me_B} {sz : Nat} (C : me_C X B RX9 cX9_headingByTurns 7 (some .int)) {μ : me_M} {v4 : Int32} {v5 : Int32} {s0 : Int32}   {r : Int32} (N : me_En X B sz (B, μ, .ok (some (me_i r))) 2 46 0 0) (hNx : me_Nx X) (hB : me_St B)   (hf : f_Ways_headingByTurns_b111 μ v4 v5 s0 = some r) : me_Z X B 0 0 μ 111 [(4, me_i v4), (5, me_i v5)] [me_i s0] := by
  unfold f_Ways_headingByTurns_b111 at hf
  refine me_istore C dX9_headingByTurns_111 (by decide) (L' := [(6, me_i s0), (4, me_i v4), (5, me_i v5)]) rfl ?_
  refine me_iload C dX9_headingByTurns_113 rfl ?_
  refine me_if_eq C (tgt := 123) dX9_headingByTurns_115 (by decide) (fun c1 => ?_) (fun c1 => ?_)
  · replace hf := me_ip c1 hf
    refine me_iload C dX9_headingByTurns_123 rfl ?_
    exact me_iret C N dX9_headingByTurns_125 (me_nri _) (by cases hf; rfl) (by decide) (by decide)
  · replace hf := me_in c1 hf
    refine me_iload C dX9_headingByTurns_118 rfl ?_
    refine me_goto C (tgt := 125) dX9_headingByTurns_120 (by decide) ?_
    exact me_iret C N dX9_headingByTurns_125 (me_nri _) (by cases hf; rfl) (by decide) (by decide)
def f_Ways_headingByTurns_b110 (μ : me_M) (v4 : Int32) (v5 : Int32) : Option Int32 :=
  f_Ways_headingByTurns_b111 μ v4 v5 (0 : Int32)
set_option maxHeartbeats 4000000 in
set_option maxRecDepth 100000 in
theorem z_Ways_headingByTurns_b110 {X : me_X} {B : me_B} {sz : Nat} (C : me_C X B RX9 cX9_headingByTurns 7 (some .int)) {μ : me_M} {v4 : Int32} {v5 : Int32}   {r : Int32} (N : me_En X B sz (B, μ, .ok (some (me_i r))) 2 46 0 0) (hNx : me_Nx X) (hB : me_St B)   (hf : f_Ways_headingByTurns_b110 μ v4 v5 = some r) : me_Z X B 0 0 μ 110 [(4, me_i v4), (5, me_i v5)] [] := by
  unfold f_Ways_headingByTurns_b110 at hf
  refine me_iconst C (v := 0) dX9_headingByTurns_110 (by decide) ?_
  refine me_dropI [(4, me_i v4), (5, me_i v5)] [0, 1] rfl ?_
  exact z_Ways_headingByTurns_b111 C N hNx hB hf
def f_Ways_headingByTurns (μ : me_M) (v1 : Int32) (v2 : Int32) (v3 : Int32) : Option Int32 :=
  me_bd (f_Net_alongX μ v1 v2) (fun r1 =>
  me_bd (f_Net_alongY μ v1 v2) (fun r2 =>
  if r1 = (1 : Int32) then
  (some r1)
  else
  (if r2 = (-1 : Int32) then
  (some r1)
  else
  (if r1 = (-1 : Int32) then
  (some r2)
  else
  (me_bd (f_Ways_isFreeAhead μ v1 r1 v3) (fun r6 =>
  if r6 = 0 then
  (me_bd (f_Ways_isFreeAhead μ v1 r2 v3) (fun r8 =>
  if r8 = 0 then
  (me_bd (f_Net_isWhole μ ((v1 * (4 : Int32)) + r1)) (fun r10 =>
  if r10 = 0 then
  (me_bd (f_Net_isWhole μ ((v1 * (4 : Int32)) + r2)) (fun r12 =>
  if r12 = 0 then
  (f_Ways_headingByTurns_b110 μ r1 r2)
  else
  (f_Ways_headingByTurns_b111 μ r1 r2 (1 : Int32))))
  else
  (f_Ways_headingByTurns_b110 μ r1 r2)))
  else
  (some r2)))
  else
  (some r1)))))))
set_option maxHeartbeats 4000000 in
set_option maxRecDepth 100000 in
theorem z_Ways_headingByTurns {X : me_X} {B : me_B} {sz : Nat} (C : me_C X B RX9 cX9_headingByTurns 7 (some .int)) {μ : me_M} {v1 : Int32} {v2 : Int32} {v3 : Int32}   {r : Int32} (N : me_En X B sz (B, μ, .ok (some (me_i r))) 2 46 0 0) (hNx : me_Nx X) (hB : me_St B)   (hf : f_Ways_headingByTurns μ v1 v2 v3 = some r) : me_Z X B 0 0 μ 0 [(0, me_r 27 0), (1, me_i v1), (2, me_i v2), (3, me_i v3)] [] := by
  unfold f_Ways_headingByTurns at hf
  refine me_aload_n C 0 (Or.inr (Or.inl ⟨_, rfl⟩)) dX9_headingByTurns_0 rfl rfl ?_
  refine me_getr C hB 0 (k' := 1) (i' := 0) fg_Ways_23 dX9_headingByTurns_1 rfl rfl ?_
  refine me_iload_n C 1 dX9_headingByTurns_4 rfl rfl ?_
  refine me_iload_n C 2 dX9_headingByTurns_5 rfl rfl ?_
  obtain ⟨r1, h_r1, hf⟩ := me_bs hf
  refine me_callV C N  (As := [me_i v1, me_i v2]) (st := []) 0 0 (c_Net_alongX hB h_r1) mv_Net_alongX ml_Ways_35 rfl rfl dX9_headingByTurns_6 rfl rfl ⟨by decide, by decide⟩ ⟨by decide, by decide, by decide, by decide⟩ (Nat.le_of_ble_eq_true rfl) ?_
  refine me_istore C dX9_headingByTurns_9 (by decide) (L' := [(4, me_i r1), (0, me_r 27 0), (1, me_i v1), (2, me_i v2), (3, me_i v3)]) rfl ?_
  refine me_aload_n C 0 (Or.inr (Or.inl ⟨_, rfl⟩)) dX9_headingByTurns_11 rfl rfl ?_
  refine me_getr C hB 0 (k' := 1) (i' := 0) fg_Ways_23 dX9_headingByTurns_12 rfl rfl ?_
  refine me_iload_n C 1 dX9_headingByTurns_15 rfl rfl ?_
  refine me_iload_n C 2 dX9_headingByTurns_16 rfl rfl ?_
  obtain ⟨r2, h_r2, hf⟩ := me_bs hf
  refine me_callV C N  (As := [me_i v1, me_i v2]) (st := []) 0 0 (c_Net_alongY hB h_r2) mv_Net_alongY ml_Ways_41 rfl rfl dX9_headingByTurns_17 rfl rfl ⟨by decide, by decide⟩ ⟨by decide, by decide, by decide, by decide⟩ (Nat.le_of_ble_eq_true rfl) ?_
  refine me_istore C dX9_headingByTurns_20 (by decide) (L' := [(5, me_i r2), (4, me_i r1), (0, me_r 27 0), (1, me_i v1), (2, me_i v2), (3, me_i v3)]) rfl ?_
  refine me_iload C dX9_headingByTurns_22 rfl ?_
  refine me_iconst C (v := 1) dX9_headingByTurns_24 (by decide) ?_
  refine me_icmp_eq C (tgt := 34) dX9_headingByTurns_25 (by decide) (fun c3 => ?_) (fun c3 => ?_)
  · replace hf := me_ip c3 hf
    refine me_iload C dX9_headingByTurns_34 rfl ?_
    exact me_iret C N dX9_headingByTurns_36 (me_nri _) (by cases hf; rfl) (by decide) (by decide)
  · replace hf := me_in c3 hf
    refine me_iload C dX9_headingByTurns_28 rfl ?_
    refine me_iconst C (v := -1) dX9_headingByTurns_30 (by decide) ?_
    refine me_icmp_ne C (tgt := 37) dX9_headingByTurns_31 (by decide) (fun c4 => ?_) (fun c4 => ?_)
    · replace hf := me_in c4 hf
      refine me_iload C dX9_headingByTurns_37 rfl ?_
      refine me_iconst C (v := -1) dX9_headingByTurns_39 (by decide) ?_
      refine me_icmp_ne C (tgt := 46) dX9_headingByTurns_40 (by decide) (fun c5 => ?_) (fun c5 => ?_)
      · replace hf := me_in c5 hf
        refine me_aload_n C 0 (Or.inr (Or.inl ⟨_, rfl⟩)) dX9_headingByTurns_46 rfl rfl ?_
        refine me_iload_n C 1 dX9_headingByTurns_47 rfl rfl ?_
        refine me_iload C dX9_headingByTurns_48 rfl ?_
        refine me_iload_n C 3 dX9_headingByTurns_50 rfl rfl ?_
        obtain ⟨r6, h_r6, hf⟩ := me_bs hf
        refine me_callV C N  (As := [me_i v1, me_i r1, me_i v3]) (st := []) 0 0 (c_Ways_isFreeAhead hB h_r6) mv_Ways_isFreeAhead ml_Ways_44 rfl rfl dX9_headingByTurns_51 rfl rfl ⟨by decide, by decide⟩ ⟨by decide, by decide, by decide, by decide⟩ (Nat.le_of_ble_eq_true rfl) ?_
        refine me_if_eq C (tgt := 60) dX9_headingByTurns_54 (by decide) (fun c7 => ?_) (fun c7 => ?_)
        · replace hf := me_ip c7 hf
          refine me_aload_n C 0 (Or.inr (Or.inl ⟨_, rfl⟩)) dX9_headingByTurns_60 rfl rfl ?_
          refine me_iload_n C 1 dX9_headingByTurns_61 rfl rfl ?_
          refine me_iload C dX9_headingByTurns_62 rfl ?_
          refine me_iload_n C 3 dX9_headingByTurns_64 rfl rfl ?_
          obtain ⟨r8, h_r8, hf⟩ := me_bs hf
          refine me_callV C N  (As := [me_i v1, me_i r2, me_i v3]) (st := []) 0 0 (c_Ways_isFreeAhead hB h_r8) mv_Ways_isFreeAhead ml_Ways_44 rfl rfl dX9_headingByTurns_65 rfl rfl ⟨by decide, by decide⟩ ⟨by decide, by decide, by decide, by decide⟩ (Nat.le_of_ble_eq_true rfl) ?_
          refine me_if_eq C (tgt := 74) dX9_headingByTurns_68 (by decide) (fun c9 => ?_) (fun c9 => ?_)
          · replace hf := me_ip c9 hf
            refine me_aload_n C 0 (Or.inr (Or.inl ⟨_, rfl⟩)) dX9_headingByTurns_74 rfl rfl ?_
            refine me_getr C hB 0 (k' := 1) (i' := 0) fg_Ways_23 dX9_headingByTurns_75 rfl rfl ?_
            refine me_iload_n C 1 dX9_headingByTurns_78 rfl rfl ?_
            refine me_iconst C (v := 4) dX9_headingByTurns_79 (by decide) ?_
            refine me_imul C dX9_headingByTurns_80 ?_
            refine me_iload C dX9_headingByTurns_81 rfl ?_
            refine me_iadd C dX9_headingByTurns_83 ?_
            obtain ⟨r10, h_r10, hf⟩ := me_bs hf
            refine me_callV C N  (As := [me_i ((v1 * (4 : Int32)) + r1)]) (st := []) 0 0 (c_Net_isWhole hB h_r10) mv_Net_isWhole ml_Ways_48 rfl rfl dX9_headingByTurns_84 rfl rfl ⟨by decide, by decide⟩ ⟨by decide, by decide, by decide, by decide⟩ (Nat.le_of_ble_eq_true rfl) ?_
            refine me_if_ne C (tgt := 110) dX9_headingByTurns_87 (by decide) (fun c11 => ?_) (fun c11 => ?_)
            · replace hf := me_in c11 hf
              refine me_dropI [(4, me_i r1), (5, me_i r2)] [1, 0] rfl ?_
              exact z_Ways_headingByTurns_b110 C N hNx hB hf
            · replace hf := me_ip c11 hf
              refine me_aload_n C 0 (Or.inr (Or.inl ⟨_, rfl⟩)) dX9_headingByTurns_90 rfl rfl ?_
              refine me_getr C hB 0 (k' := 1) (i' := 0) fg_Ways_23 dX9_headingByTurns_91 rfl rfl ?_
              refine me_iload_n C 1 dX9_headingByTurns_94 rfl rfl ?_
              refine me_iconst C (v := 4) dX9_headingByTurns_95 (by decide) ?_
              refine me_imul C dX9_headingByTurns_96 ?_
              refine me_iload C dX9_headingByTurns_97 rfl ?_
              refine me_iadd C dX9_headingByTurns_99 ?_
              obtain ⟨r12, h_r12, hf⟩ := me_bs hf
              refine me_callV C N  (As := [me_i ((v1 * (4 : Int32)) + r2)]) (st := []) 0 0 (c_Net_isWhole hB h_r12) mv_Net_isWhole ml_Ways_48 rfl rfl dX9_headingByTurns_100 rfl rfl ⟨by decide, by decide⟩ ⟨by decide, by decide, by decide, by decide⟩ (Nat.le_of_ble_eq_true rfl) ?_
              refine me_if_eq C (tgt := 110) dX9_headingByTurns_103 (by decide) (fun c13 => ?_) (fun c13 => ?_)
              · replace hf := me_ip c13 hf
                refine me_dropI [(4, me_i r1), (5, me_i r2)] [1, 0] rfl ?_
                exact z_Ways_headingByTurns_b110 C N hNx hB hf
              · replace hf := me_in c13 hf
                refine me_iconst C (v := 1) dX9_headingByTurns_106 (by decide) ?_
                refine me_goto C (tgt := 111) dX9_headingByTurns_107 (by decide) ?_
                refine me_dropI [(4, me_i r1), (5, me_i r2)] [1, 0] rfl ?_
                exact z_Ways_headingByTurns_b111 C N hNx hB hf
          · replace hf := me_in c9 hf
            refine me_iload C dX9_headingByTurns_71 rfl ?_
            exact me_iret C N dX9_headingByTurns_73 (me_nri _) (by cases hf; rfl) (by decide) (by decide)
        · replace hf := me_in c7 hf
          refine me_iload C dX9_headingByTurns_57 rfl ?_
          exact me_iret C N dX9_headingByTurns_59 (me_nri _) (by cases hf; rfl) (by decide) (by decide)
      · replace hf := me_ip c5 hf
        refine me_iload C dX9_headingByTurns_43 rfl ?_
        exact me_iret C N dX9_headingByTurns_45 (me_nri _) (by cases hf; rfl) (by decide) (by decide)
    · replace hf := me_ip c4 hf
      refine me_iload C dX9_headingByTurns_34 rfl ?_
      exact me_iret C N dX9_headingByTurns_36 (me_nri _) (by cases hf; rfl) (by decide) (by decide)
theorem c_Ways_headingByTurns {B : me_B} (hB : me_St B) {μ : me_M} {v1 : Int32} {v2 : Int32} {v3 : Int32} {r : Int32}  (hf : f_Ways_headingByTurns μ v1 v2 v3 = some r) : ∀ l E z, l.stackTraces = false → me_Met l yX9_headingByTurns cX9_headingByTurns 7 (some .int) 2 46 0 0 E B μ z [me_r 27 0, me_i v1, me_i v2, me_i v3] (B, μ, .ok (some (me_i r))) :=
  fun _ _ _ hl => me_ofZ hl (by decide +kernel) (Nat.le_of_ble_eq_true rfl) (fun _ C N hNx => z_Ways_headingByTurns C N hNx hB  hf)
