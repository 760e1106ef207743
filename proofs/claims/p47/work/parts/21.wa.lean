/-! WALKS: Router_countPieces, Audit_hasOnePacket, Audit_rowsAreSound, Packet_channel, Audit_findInRow, Audit_findPieces, Net_stepsBetween, Audit_isBehind, Audit_packetIsSound, Core_reset, Core_isActive, Core_isBusy, Core_hasInstruction, Core_stopBy, Core_canPop, Core_isFull -/
theorem dX7_countPieces_0 : decode cX7_countPieces 0 = .ok (.iconst 0, 1) := by decide +kernel
theorem dX7_countPieces_1 : decode cX7_countPieces 1 = .ok (.istore_n 1, 1) := by decide +kernel
theorem dX7_countPieces_2 : decode cX7_countPieces 2 = .ok (.iconst 0, 1) := by decide +kernel
theorem dX7_countPieces_3 : decode cX7_countPieces 3 = .ok (.istore_n 2, 1) := by decide +kernel
theorem dX7_countPieces_4 : decode cX7_countPieces 4 = .ok (.iload_n 2, 1) := by decide +kernel
theorem dX7_countPieces_5 : decode cX7_countPieces 5 = .ok (.aload_n 0, 1) := by decide +kernel
theorem dX7_countPieces_6 : decode cX7_countPieces 6 = .ok (.getfield 11, 3) := by decide +kernel
theorem dX7_countPieces_9 : decode cX7_countPieces 9 = .ok (.arraylength, 1) := by decide +kernel
theorem dX7_countPieces_10 : decode cX7_countPieces 10 = .ok (.if_icmp .ge 21, 3) := by decide +kernel
theorem dX7_countPieces_13 : decode cX7_countPieces 13 = .ok (.iload_n 1, 1) := by decide +kernel
theorem dX7_countPieces_14 : decode cX7_countPieces 14 = .ok (.aload_n 0, 1) := by decide +kernel
theorem dX7_countPieces_15 : decode cX7_countPieces 15 = .ok (.getfield 11, 3) := by decide +kernel
theorem dX7_countPieces_18 : decode cX7_countPieces 18 = .ok (.iload_n 2, 1) := by decide +kernel
theorem dX7_countPieces_19 : decode cX7_countPieces 19 = .ok (.aaload, 1) := by decide +kernel
theorem dX7_countPieces_20 : decode cX7_countPieces 20 = .ok (.getfield 39, 3) := by decide +kernel
theorem dX7_countPieces_23 : decode cX7_countPieces 23 = .ok (.iadd, 1) := by decide +kernel
theorem dX7_countPieces_24 : decode cX7_countPieces 24 = .ok (.istore_n 1, 1) := by decide +kernel
theorem dX7_countPieces_25 : decode cX7_countPieces 25 = .ok (.iinc 2 1, 3) := by decide +kernel
theorem dX7_countPieces_28 : decode cX7_countPieces 28 = .ok (.goto (-24), 3) := by decide +kernel
theorem dX7_countPieces_31 : decode cX7_countPieces 31 = .ok (.iload_n 1, 1) := by decide +kernel
theorem dX7_countPieces_32 : decode cX7_countPieces 32 = .ok (.ireturn, 1) := by decide +kernel
theorem dX0_hasOnePacket_0 : decode cX0_hasOnePacket 0 = .ok (.iconst 1, 1) := by decide +kernel
theorem dX0_hasOnePacket_1 : decode cX0_hasOnePacket 1 = .ok (.istore_n 2, 1) := by decide +kernel
theorem dX0_hasOnePacket_2 : decode cX0_hasOnePacket 2 = .ok (.iload_n 2, 1) := by decide +kernel
theorem dX0_hasOnePacket_3 : decode cX0_hasOnePacket 3 = .ok (.aload_n 1, 1) := by decide +kernel
theorem dX0_hasOnePacket_4 : decode cX0_hasOnePacket 4 = .ok (.getfield 53, 3) := by decide +kernel
theorem dX0_hasOnePacket_7 : decode cX0_hasOnePacket 7 = .ok (.if_icmp .ge 26, 3) := by decide +kernel
theorem dX0_hasOnePacket_10 : decode cX0_hasOnePacket 10 = .ok (.aload_n 1, 1) := by decide +kernel
theorem dX0_hasOnePacket_11 : decode cX0_hasOnePacket 11 = .ok (.getfield 58, 3) := by decide +kernel
theorem dX0_hasOnePacket_14 : decode cX0_hasOnePacket 14 = .ok (.iload_n 2, 1) := by decide +kernel
theorem dX0_hasOnePacket_15 : decode cX0_hasOnePacket 15 = .ok (.iaload, 1) := by decide +kernel
theorem dX0_hasOnePacket_16 : decode cX0_hasOnePacket 16 = .ok (.aload_n 1, 1) := by decide +kernel
theorem dX0_hasOnePacket_17 : decode cX0_hasOnePacket 17 = .ok (.getfield 58, 3) := by decide +kernel
theorem dX0_hasOnePacket_20 : decode cX0_hasOnePacket 20 = .ok (.iconst 0, 1) := by decide +kernel
theorem dX0_hasOnePacket_21 : decode cX0_hasOnePacket 21 = .ok (.iaload, 1) := by decide +kernel
theorem dX0_hasOnePacket_22 : decode cX0_hasOnePacket 22 = .ok (.if_icmp .eq 5, 3) := by decide +kernel
theorem dX0_hasOnePacket_25 : decode cX0_hasOnePacket 25 = .ok (.iconst 0, 1) := by decide +kernel
theorem dX0_hasOnePacket_26 : decode cX0_hasOnePacket 26 = .ok (.ireturn, 1) := by decide +kernel
theorem dX0_hasOnePacket_27 : decode cX0_hasOnePacket 27 = .ok (.iinc 2 1, 3) := by decide +kernel
theorem dX0_hasOnePacket_30 : decode cX0_hasOnePacket 30 = .ok (.goto (-28), 3) := by decide +kernel
theorem dX0_hasOnePacket_33 : decode cX0_hasOnePacket 33 = .ok (.iconst 1, 1) := by decide +kernel
theorem dX0_hasOnePacket_34 : decode cX0_hasOnePacket 34 = .ok (.ireturn, 1) := by decide +kernel
theorem dX0_rowsAreSound_0 : decode cX0_rowsAreSound 0 = .ok (.iconst 0, 1) := by decide +kernel
theorem dX0_rowsAreSound_1 : decode cX0_rowsAreSound 1 = .ok (.istore_n 1, 1) := by decide +kernel
theorem dX0_rowsAreSound_2 : decode cX0_rowsAreSound 2 = .ok (.iload_n 1, 1) := by decide +kernel
theorem dX0_rowsAreSound_3 : decode cX0_rowsAreSound 3 = .ok (.aload_n 0, 1) := by decide +kernel
theorem dX0_rowsAreSound_4 : decode cX0_rowsAreSound 4 = .ok (.getfield 21, 3) := by decide +kernel
theorem dX0_rowsAreSound_7 : decode cX0_rowsAreSound 7 = .ok (.getfield 29, 3) := by decide +kernel
theorem dX0_rowsAreSound_10 : decode cX0_rowsAreSound 10 = .ok (.if_icmp .ge 71, 3) := by decide +kernel
theorem dX0_rowsAreSound_13 : decode cX0_rowsAreSound 13 = .ok (.aload_n 0, 1) := by decide +kernel
theorem dX0_rowsAreSound_14 : decode cX0_rowsAreSound 14 = .ok (.getfield 25, 3) := by decide +kernel
theorem dX0_rowsAreSound_17 : decode cX0_rowsAreSound 17 = .ok (.iload_n 1, 1) := by decide +kernel
theorem dX0_rowsAreSound_18 : decode cX0_rowsAreSound 18 = .ok (.aaload, 1) := by decide +kernel
theorem dX0_rowsAreSound_19 : decode cX0_rowsAreSound 19 = .ok (.astore_n 2, 1) := by decide +kernel
theorem dX0_rowsAreSound_20 : decode cX0_rowsAreSound 20 = .ok (.aload_n 2, 1) := by decide +kernel
theorem dX0_rowsAreSound_21 : decode cX0_rowsAreSound 21 = .ok (.getfield 35, 3) := by decide +kernel
theorem dX0_rowsAreSound_24 : decode cX0_rowsAreSound 24 = .ok (.ifCond .ne 12, 3) := by decide +kernel
theorem dX0_rowsAreSound_27 : decode cX0_rowsAreSound 27 = .ok (.aload_n 2, 1) := by decide +kernel
theorem dX0_rowsAreSound_28 : decode cX0_rowsAreSound 28 = .ok (.invokevirtual 41, 3) := by decide +kernel
theorem dX0_rowsAreSound_31 : decode cX0_rowsAreSound 31 = .ok (.ifCond .le 5, 3) := by decide +kernel
theorem dX0_rowsAreSound_34 : decode cX0_rowsAreSound 34 = .ok (.iconst 0, 1) := by decide +kernel
theorem dX0_rowsAreSound_35 : decode cX0_rowsAreSound 35 = .ok (.ireturn, 1) := by decide +kernel
theorem dX0_rowsAreSound_36 : decode cX0_rowsAreSound 36 = .ok (.iconst 0, 1) := by decide +kernel
theorem dX0_rowsAreSound_37 : decode cX0_rowsAreSound 37 = .ok (.istore_n 3, 1) := by decide +kernel
theorem dX0_rowsAreSound_38 : decode cX0_rowsAreSound 38 = .ok (.iload_n 3, 1) := by decide +kernel
theorem dX0_rowsAreSound_39 : decode cX0_rowsAreSound 39 = .ok (.aload_n 2, 1) := by decide +kernel
theorem dX0_rowsAreSound_40 : decode cX0_rowsAreSound 40 = .ok (.getfield 45, 3) := by decide +kernel
theorem dX0_rowsAreSound_43 : decode cX0_rowsAreSound 43 = .ok (.arraylength, 1) := by decide +kernel
theorem dX0_rowsAreSound_44 : decode cX0_rowsAreSound 44 = .ok (.if_icmp .ge 31, 3) := by decide +kernel
theorem dX0_rowsAreSound_47 : decode cX0_rowsAreSound 47 = .ok (.iload_n 3, 1) := by decide +kernel
theorem dX0_rowsAreSound_48 : decode cX0_rowsAreSound 48 = .ok (.iconst 5, 1) := by decide +kernel
theorem dX0_rowsAreSound_49 : decode cX0_rowsAreSound 49 = .ok (.irem, 1) := by decide +kernel
theorem dX0_rowsAreSound_50 : decode cX0_rowsAreSound 50 = .ok (.iconst 4, 1) := by decide +kernel
theorem dX0_rowsAreSound_51 : decode cX0_rowsAreSound 51 = .ok (.if_icmp .eq 18, 3) := by decide +kernel
theorem dX0_rowsAreSound_54 : decode cX0_rowsAreSound 54 = .ok (.aload_n 0, 1) := by decide +kernel
theorem dX0_rowsAreSound_55 : decode cX0_rowsAreSound 55 = .ok (.aload_n 2, 1) := by decide +kernel
theorem dX0_rowsAreSound_56 : decode cX0_rowsAreSound 56 = .ok (.getfield 45, 3) := by decide +kernel
theorem dX0_rowsAreSound_59 : decode cX0_rowsAreSound 59 = .ok (.iload_n 3, 1) := by decide +kernel
theorem dX0_rowsAreSound_60 : decode cX0_rowsAreSound 60 = .ok (.aaload, 1) := by decide +kernel
theorem dX0_rowsAreSound_61 : decode cX0_rowsAreSound 61 = .ok (.invokevirtual 49, 3) := by decide +kernel
theorem dX0_rowsAreSound_64 : decode cX0_rowsAreSound 64 = .ok (.ifCond .ne 5, 3) := by decide +kernel
theorem dX0_rowsAreSound_67 : decode cX0_rowsAreSound 67 = .ok (.iconst 0, 1) := by decide +kernel
theorem dX0_rowsAreSound_68 : decode cX0_rowsAreSound 68 = .ok (.ireturn, 1) := by decide +kernel
theorem dX0_rowsAreSound_69 : decode cX0_rowsAreSound 69 = .ok (.iinc 3 1, 3) := by decide +kernel
theorem dX0_rowsAreSound_72 : decode cX0_rowsAreSound 72 = .ok (.goto (-34), 3) := by decide +kernel
theorem dX0_rowsAreSound_75 : decode cX0_rowsAreSound 75 = .ok (.iinc 1 1, 3) := by decide +kernel
theorem dX0_rowsAreSound_78 : decode cX0_rowsAreSound 78 = .ok (.goto (-76), 3) := by decide +kernel
theorem dX0_rowsAreSound_81 : decode cX0_rowsAreSound 81 = .ok (.iconst 1, 1) := by decide +kernel
theorem dX0_rowsAreSound_82 : decode cX0_rowsAreSound 82 = .ok (.ireturn, 1) := by decide +kernel
theorem dX4_channel_0 : decode cX4_channel 0 = .ok (.aload_n 0, 1) := by decide +kernel
theorem dX4_channel_1 : decode cX4_channel 1 = .ok (.getfield 13, 3) := by decide +kernel
theorem dX4_channel_4 : decode cX4_channel 4 = .ok (.bipush 97, 2) := by decide +kernel
theorem dX4_channel_6 : decode cX4_channel 6 = .ok (.if_icmp .ne 7, 3) := by decide +kernel
theorem dX4_channel_9 : decode cX4_channel 9 = .ok (.iconst 1, 1) := by decide +kernel
theorem dX4_channel_10 : decode cX4_channel 10 = .ok (.goto 4, 3) := by decide +kernel
theorem dX4_channel_13 : decode cX4_channel 13 = .ok (.iconst 0, 1) := by decide +kernel
theorem dX4_channel_14 : decode cX4_channel 14 = .ok (.ireturn, 1) := by decide +kernel
theorem dX0_findInRow_0 : decode cX0_findInRow 0 = .ok (.aload_n 0, 1) := by decide +kernel
theorem dX0_findInRow_1 : decode cX0_findInRow 1 = .ok (.getfield 25, 3) := by decide +kernel
theorem dX0_findInRow_4 : decode cX0_findInRow 4 = .ok (.iload_n 2, 1) := by decide +kernel
theorem dX0_findInRow_5 : decode cX0_findInRow 5 = .ok (.aaload, 1) := by decide +kernel
theorem dX0_findInRow_6 : decode cX0_findInRow 6 = .ok (.getfield 45, 3) := by decide +kernel
theorem dX0_findInRow_9 : decode cX0_findInRow 9 = .ok (.aload_n 1, 1) := by decide +kernel
theorem dX0_findInRow_10 : decode cX0_findInRow 10 = .ok (.invokevirtual 90, 3) := by decide +kernel
theorem dX0_findInRow_13 : decode cX0_findInRow 13 = .ok (.iconst 5, 1) := by decide +kernel
theorem dX0_findInRow_14 : decode cX0_findInRow 14 = .ok (.imul, 1) := by decide +kernel
theorem dX0_findInRow_15 : decode cX0_findInRow 15 = .ok (.iload_n 3, 1) := by decide +kernel
theorem dX0_findInRow_16 : decode cX0_findInRow 16 = .ok (.iadd, 1) := by decide +kernel
theorem dX0_findInRow_17 : decode cX0_findInRow 17 = .ok (.aaload, 1) := by decide +kernel
theorem dX0_findInRow_18 : decode cX0_findInRow 18 = .ok (.astore 4, 2) := by decide +kernel
theorem dX0_findInRow_20 : decode cX0_findInRow 20 = .ok (.iconst 0, 1) := by decide +kernel
theorem dX0_findInRow_21 : decode cX0_findInRow 21 = .ok (.istore 5, 2) := by decide +kernel
theorem dX0_findInRow_23 : decode cX0_findInRow 23 = .ok (.iconst 0, 1) := by decide +kernel
theorem dX0_findInRow_24 : decode cX0_findInRow 24 = .ok (.istore 6, 2) := by decide +kernel
theorem dX0_findInRow_26 : decode cX0_findInRow 26 = .ok (.iload 6, 2) := by decide +kernel
theorem dX0_findInRow_28 : decode cX0_findInRow 28 = .ok (.aload 4, 2) := by decide +kernel
theorem dX0_findInRow_30 : decode cX0_findInRow 30 = .ok (.getfield 53, 3) := by decide +kernel
theorem dX0_findInRow_33 : decode cX0_findInRow 33 = .ok (.if_icmp .ge 73, 3) := by decide +kernel
theorem dX0_findInRow_36 : decode cX0_findInRow 36 = .ok (.aload 4, 2) := by decide +kernel
theorem dX0_findInRow_38 : decode cX0_findInRow 38 = .ok (.getfield 93, 3) := by decide +kernel
theorem dX0_findInRow_41 : decode cX0_findInRow 41 = .ok (.iload 6, 2) := by decide +kernel
theorem dX0_findInRow_43 : decode cX0_findInRow 43 = .ok (.iaload, 1) := by decide +kernel
theorem dX0_findInRow_44 : decode cX0_findInRow 44 = .ok (.istore 7, 2) := by decide +kernel
theorem dX0_findInRow_46 : decode cX0_findInRow 46 = .ok (.aload 4, 2) := by decide +kernel
theorem dX0_findInRow_48 : decode cX0_findInRow 48 = .ok (.getfield 58, 3) := by decide +kernel
theorem dX0_findInRow_51 : decode cX0_findInRow 51 = .ok (.iload 6, 2) := by decide +kernel
theorem dX0_findInRow_53 : decode cX0_findInRow 53 = .ok (.iaload, 1) := by decide +kernel
theorem dX0_findInRow_54 : decode cX0_findInRow 54 = .ok (.aload_n 1, 1) := by decide +kernel
theorem dX0_findInRow_55 : decode cX0_findInRow 55 = .ok (.getfield 96, 3) := by decide +kernel
theorem dX0_findInRow_58 : decode cX0_findInRow 58 = .ok (.if_icmp .ne 42, 3) := by decide +kernel
theorem dX0_findInRow_61 : decode cX0_findInRow 61 = .ok (.iload 7, 2) := by decide +kernel
theorem dX0_findInRow_63 : decode cX0_findInRow 63 = .ok (.ifCond .lt 37, 3) := by decide +kernel
theorem dX0_findInRow_66 : decode cX0_findInRow 66 = .ok (.iload 7, 2) := by decide +kernel
theorem dX0_findInRow_68 : decode cX0_findInRow 68 = .ok (.iconst 5, 1) := by decide +kernel
theorem dX0_findInRow_69 : decode cX0_findInRow 69 = .ok (.if_icmp .ge 31, 3) := by decide +kernel
theorem dX0_findInRow_72 : decode cX0_findInRow 72 = .ok (.aload_n 0, 1) := by decide +kernel
theorem dX0_findInRow_73 : decode cX0_findInRow 73 = .ok (.getfield 9, 3) := by decide +kernel
theorem dX0_findInRow_76 : decode cX0_findInRow 76 = .ok (.iload 7, 2) := by decide +kernel
theorem dX0_findInRow_78 : decode cX0_findInRow 78 = .ok (.iload_n 2, 1) := by decide +kernel
theorem dX0_findInRow_79 : decode cX0_findInRow 79 = .ok (.iastore, 1) := by decide +kernel
theorem dX0_findInRow_80 : decode cX0_findInRow 80 = .ok (.aload_n 0, 1) := by decide +kernel
theorem dX0_findInRow_81 : decode cX0_findInRow 81 = .ok (.getfield 15, 3) := by decide +kernel
theorem dX0_findInRow_84 : decode cX0_findInRow 84 = .ok (.iload 7, 2) := by decide +kernel
theorem dX0_findInRow_86 : decode cX0_findInRow 86 = .ok (.iload_n 3, 1) := by decide +kernel
theorem dX0_findInRow_87 : decode cX0_findInRow 87 = .ok (.iastore, 1) := by decide +kernel
theorem dX0_findInRow_88 : decode cX0_findInRow 88 = .ok (.aload_n 0, 1) := by decide +kernel
theorem dX0_findInRow_89 : decode cX0_findInRow 89 = .ok (.getfield 18, 3) := by decide +kernel
theorem dX0_findInRow_92 : decode cX0_findInRow 92 = .ok (.iload 7, 2) := by decide +kernel
theorem dX0_findInRow_94 : decode cX0_findInRow 94 = .ok (.iload 6, 2) := by decide +kernel
theorem dX0_findInRow_96 : decode cX0_findInRow 96 = .ok (.iastore, 1) := by decide +kernel
theorem dX0_findInRow_97 : decode cX0_findInRow 97 = .ok (.iinc 5 1, 3) := by decide +kernel
theorem dX0_findInRow_100 : decode cX0_findInRow 100 = .ok (.iinc 6 1, 3) := by decide +kernel
theorem dX0_findInRow_103 : decode cX0_findInRow 103 = .ok (.goto (-77), 3) := by decide +kernel
theorem dX0_findInRow_106 : decode cX0_findInRow 106 = .ok (.iload 5, 2) := by decide +kernel
theorem dX0_findInRow_108 : decode cX0_findInRow 108 = .ok (.ireturn, 1) := by decide +kernel
theorem dX0_findPieces_0 : decode cX0_findPieces 0 = .ok (.iconst 0, 1) := by decide +kernel
theorem dX0_findPieces_1 : decode cX0_findPieces 1 = .ok (.istore_n 2, 1) := by decide +kernel
theorem dX0_findPieces_2 : decode cX0_findPieces 2 = .ok (.iconst 0, 1) := by decide +kernel
theorem dX0_findPieces_3 : decode cX0_findPieces 3 = .ok (.istore_n 3, 1) := by decide +kernel
theorem dX0_findPieces_4 : decode cX0_findPieces 4 = .ok (.iload_n 3, 1) := by decide +kernel
theorem dX0_findPieces_5 : decode cX0_findPieces 5 = .ok (.aload_n 0, 1) := by decide +kernel
theorem dX0_findPieces_6 : decode cX0_findPieces 6 = .ok (.getfield 21, 3) := by decide +kernel
theorem dX0_findPieces_9 : decode cX0_findPieces 9 = .ok (.getfield 29, 3) := by decide +kernel
theorem dX0_findPieces_12 : decode cX0_findPieces 12 = .ok (.if_icmp .ge 35, 3) := by decide +kernel
theorem dX0_findPieces_15 : decode cX0_findPieces 15 = .ok (.iconst 0, 1) := by decide +kernel
theorem dX0_findPieces_16 : decode cX0_findPieces 16 = .ok (.istore 4, 2) := by decide +kernel
theorem dX0_findPieces_18 : decode cX0_findPieces 18 = .ok (.iload 4, 2) := by decide +kernel
theorem dX0_findPieces_20 : decode cX0_findPieces 20 = .ok (.iconst 5, 1) := by decide +kernel
theorem dX0_findPieces_21 : decode cX0_findPieces 21 = .ok (.if_icmp .ge 20, 3) := by decide +kernel
theorem dX0_findPieces_24 : decode cX0_findPieces 24 = .ok (.iload_n 2, 1) := by decide +kernel
theorem dX0_findPieces_25 : decode cX0_findPieces 25 = .ok (.aload_n 0, 1) := by decide +kernel
theorem dX0_findPieces_26 : decode cX0_findPieces 26 = .ok (.aload_n 1, 1) := by decide +kernel
theorem dX0_findPieces_27 : decode cX0_findPieces 27 = .ok (.iload_n 3, 1) := by decide +kernel
theorem dX0_findPieces_28 : decode cX0_findPieces 28 = .ok (.iload 4, 2) := by decide +kernel
theorem dX0_findPieces_30 : decode cX0_findPieces 30 = .ok (.invokevirtual 86, 3) := by decide +kernel
theorem dX0_findPieces_33 : decode cX0_findPieces 33 = .ok (.iadd, 1) := by decide +kernel
theorem dX0_findPieces_34 : decode cX0_findPieces 34 = .ok (.istore_n 2, 1) := by decide +kernel
theorem dX0_findPieces_35 : decode cX0_findPieces 35 = .ok (.iinc 4 1, 3) := by decide +kernel
theorem dX0_findPieces_38 : decode cX0_findPieces 38 = .ok (.goto (-20), 3) := by decide +kernel
theorem dX0_findPieces_41 : decode cX0_findPieces 41 = .ok (.iinc 3 1, 3) := by decide +kernel
theorem dX0_findPieces_44 : decode cX0_findPieces 44 = .ok (.goto (-40), 3) := by decide +kernel
theorem dX0_findPieces_47 : decode cX0_findPieces 47 = .ok (.iload_n 2, 1) := by decide +kernel
theorem dX0_findPieces_48 : decode cX0_findPieces 48 = .ok (.ireturn, 1) := by decide +kernel
theorem dX3_stepsBetween_0 : decode cX3_stepsBetween 0 = .ok (.aload_n 0, 1) := by decide +kernel
theorem dX3_stepsBetween_1 : decode cX3_stepsBetween 1 = .ok (.getfield 19, 3) := by decide +kernel
theorem dX3_stepsBetween_4 : decode cX3_stepsBetween 4 = .ok (.iload_n 1, 1) := by decide +kernel
theorem dX3_stepsBetween_5 : decode cX3_stepsBetween 5 = .ok (.iaload, 1) := by decide +kernel
theorem dX3_stepsBetween_6 : decode cX3_stepsBetween 6 = .ok (.aload_n 0, 1) := by decide +kernel
theorem dX3_stepsBetween_7 : decode cX3_stepsBetween 7 = .ok (.getfield 19, 3) := by decide +kernel
theorem dX3_stepsBetween_10 : decode cX3_stepsBetween 10 = .ok (.iload_n 2, 1) := by decide +kernel
theorem dX3_stepsBetween_11 : decode cX3_stepsBetween 11 = .ok (.iaload, 1) := by decide +kernel
theorem dX3_stepsBetween_12 : decode cX3_stepsBetween 12 = .ok (.isub, 1) := by decide +kernel
theorem dX3_stepsBetween_13 : decode cX3_stepsBetween 13 = .ok (.invokestatic 37, 3) := by decide +kernel
theorem dX3_stepsBetween_16 : decode cX3_stepsBetween 16 = .ok (.aload_n 0, 1) := by decide +kernel
theorem dX3_stepsBetween_17 : decode cX3_stepsBetween 17 = .ok (.getfield 22, 3) := by decide +kernel
theorem dX3_stepsBetween_20 : decode cX3_stepsBetween 20 = .ok (.iload_n 1, 1) := by decide +kernel
theorem dX3_stepsBetween_21 : decode cX3_stepsBetween 21 = .ok (.iaload, 1) := by decide +kernel
theorem dX3_stepsBetween_22 : decode cX3_stepsBetween 22 = .ok (.aload_n 0, 1) := by decide +kernel
theorem dX3_stepsBetween_23 : decode cX3_stepsBetween 23 = .ok (.getfield 22, 3) := by decide +kernel
theorem dX3_stepsBetween_26 : decode cX3_stepsBetween 26 = .ok (.iload_n 2, 1) := by decide +kernel
theorem dX3_stepsBetween_27 : decode cX3_stepsBetween 27 = .ok (.iaload, 1) := by decide +kernel
theorem dX3_stepsBetween_28 : decode cX3_stepsBetween 28 = .ok (.isub, 1) := by decide +kernel
theorem dX3_stepsBetween_29 : decode cX3_stepsBetween 29 = .ok (.invokestatic 37, 3) := by decide +kernel
theorem dX3_stepsBetween_32 : decode cX3_stepsBetween 32 = .ok (.iadd, 1) := by decide +kernel
theorem dX3_stepsBetween_33 : decode cX3_stepsBetween 33 = .ok (.ireturn, 1) := by decide +kernel
theorem dX0_isBehind_0 : decode cX0_isBehind 0 = .ok (.iload_n 2, 1) := by decide +kernel
theorem dX0_isBehind_1 : decode cX0_isBehind 1 = .ok (.iconst 1, 1) := by decide +kernel
theorem dX0_isBehind_2 : decode cX0_isBehind 2 = .ok (.isub, 1) := by decide +kernel
theorem dX0_isBehind_3 : decode cX0_isBehind 3 = .ok (.istore_n 3, 1) := by decide +kernel
theorem dX0_isBehind_4 : decode cX0_isBehind 4 = .ok (.iload_n 3, 1) := by decide +kernel
theorem dX0_isBehind_5 : decode cX0_isBehind 5 = .ok (.ifCond .lt 13, 3) := by decide +kernel
theorem dX0_isBehind_8 : decode cX0_isBehind 8 = .ok (.aload_n 0, 1) := by decide +kernel
theorem dX0_isBehind_9 : decode cX0_isBehind 9 = .ok (.getfield 9, 3) := by decide +kernel
theorem dX0_isBehind_12 : decode cX0_isBehind 12 = .ok (.iload_n 3, 1) := by decide +kernel
theorem dX0_isBehind_13 : decode cX0_isBehind 13 = .ok (.iaload, 1) := by decide +kernel
theorem dX0_isBehind_14 : decode cX0_isBehind 14 = .ok (.iconst (-1), 1) := by decide +kernel
theorem dX0_isBehind_15 : decode cX0_isBehind 15 = .ok (.if_icmp .ne 5, 3) := by decide +kernel
theorem dX0_isBehind_18 : decode cX0_isBehind 18 = .ok (.iconst 0, 1) := by decide +kernel
theorem dX0_isBehind_19 : decode cX0_isBehind 19 = .ok (.ireturn, 1) := by decide +kernel
theorem dX0_isBehind_20 : decode cX0_isBehind 20 = .ok (.aload_n 0, 1) := by decide +kernel
theorem dX0_isBehind_21 : decode cX0_isBehind 21 = .ok (.getfield 9, 3) := by decide +kernel
theorem dX0_isBehind_24 : decode cX0_isBehind 24 = .ok (.iload_n 3, 1) := by decide +kernel
theorem dX0_isBehind_25 : decode cX0_isBehind 25 = .ok (.iaload, 1) := by decide +kernel
theorem dX0_isBehind_26 : decode cX0_isBehind 26 = .ok (.aload_n 0, 1) := by decide +kernel
theorem dX0_isBehind_27 : decode cX0_isBehind 27 = .ok (.getfield 9, 3) := by decide +kernel
theorem dX0_isBehind_30 : decode cX0_isBehind 30 = .ok (.iload_n 2, 1) := by decide +kernel
theorem dX0_isBehind_31 : decode cX0_isBehind 31 = .ok (.iaload, 1) := by decide +kernel
theorem dX0_isBehind_32 : decode cX0_isBehind 32 = .ok (.if_icmp .ne 39, 3) := by decide +kernel
theorem dX0_isBehind_35 : decode cX0_isBehind 35 = .ok (.aload_n 0, 1) := by decide +kernel
theorem dX0_isBehind_36 : decode cX0_isBehind 36 = .ok (.getfield 15, 3) := by decide +kernel
theorem dX0_isBehind_39 : decode cX0_isBehind 39 = .ok (.iload_n 3, 1) := by decide +kernel
theorem dX0_isBehind_40 : decode cX0_isBehind 40 = .ok (.iaload, 1) := by decide +kernel
theorem dX0_isBehind_41 : decode cX0_isBehind 41 = .ok (.aload_n 0, 1) := by decide +kernel
theorem dX0_isBehind_42 : decode cX0_isBehind 42 = .ok (.getfield 15, 3) := by decide +kernel
theorem dX0_isBehind_45 : decode cX0_isBehind 45 = .ok (.iload_n 2, 1) := by decide +kernel
theorem dX0_isBehind_46 : decode cX0_isBehind 46 = .ok (.iaload, 1) := by decide +kernel
theorem dX0_isBehind_47 : decode cX0_isBehind 47 = .ok (.if_icmp .ne 22, 3) := by decide +kernel
theorem dX0_isBehind_50 : decode cX0_isBehind 50 = .ok (.aload_n 0, 1) := by decide +kernel
theorem dX0_isBehind_51 : decode cX0_isBehind 51 = .ok (.getfield 18, 3) := by decide +kernel
theorem dX0_isBehind_54 : decode cX0_isBehind 54 = .ok (.iload_n 3, 1) := by decide +kernel
theorem dX0_isBehind_55 : decode cX0_isBehind 55 = .ok (.iaload, 1) := by decide +kernel
theorem dX0_isBehind_56 : decode cX0_isBehind 56 = .ok (.aload_n 0, 1) := by decide +kernel
theorem dX0_isBehind_57 : decode cX0_isBehind 57 = .ok (.getfield 18, 3) := by decide +kernel
theorem dX0_isBehind_60 : decode cX0_isBehind 60 = .ok (.iload_n 2, 1) := by decide +kernel
theorem dX0_isBehind_61 : decode cX0_isBehind 61 = .ok (.iaload, 1) := by decide +kernel
theorem dX0_isBehind_62 : decode cX0_isBehind 62 = .ok (.if_icmp .ge 7, 3) := by decide +kernel
theorem dX0_isBehind_65 : decode cX0_isBehind 65 = .ok (.iconst 1, 1) := by decide +kernel
theorem dX0_isBehind_66 : decode cX0_isBehind 66 = .ok (.goto 4, 3) := by decide +kernel
theorem dX0_isBehind_69 : decode cX0_isBehind 69 = .ok (.iconst 0, 1) := by decide +kernel
theorem dX0_isBehind_70 : decode cX0_isBehind 70 = .ok (.ireturn, 1) := by decide +kernel
theorem dX0_isBehind_71 : decode cX0_isBehind 71 = .ok (.aload_n 0, 1) := by decide +kernel
theorem dX0_isBehind_72 : decode cX0_isBehind 72 = .ok (.getfield 21, 3) := by decide +kernel
theorem dX0_isBehind_75 : decode cX0_isBehind 75 = .ok (.aload_n 1, 1) := by decide +kernel
theorem dX0_isBehind_76 : decode cX0_isBehind 76 = .ok (.getfield 99, 3) := by decide +kernel
theorem dX0_isBehind_79 : decode cX0_isBehind 79 = .ok (.aload_n 0, 1) := by decide +kernel
theorem dX0_isBehind_80 : decode cX0_isBehind 80 = .ok (.getfield 9, 3) := by decide +kernel
theorem dX0_isBehind_83 : decode cX0_isBehind 83 = .ok (.iload_n 3, 1) := by decide +kernel
theorem dX0_isBehind_84 : decode cX0_isBehind 84 = .ok (.iaload, 1) := by decide +kernel
theorem dX0_isBehind_85 : decode cX0_isBehind 85 = .ok (.invokevirtual 102, 3) := by decide +kernel
theorem dX0_isBehind_88 : decode cX0_isBehind 88 = .ok (.istore 4, 2) := by decide +kernel
theorem dX0_isBehind_90 : decode cX0_isBehind 90 = .ok (.iload 4, 2) := by decide +kernel
theorem dX0_isBehind_92 : decode cX0_isBehind 92 = .ok (.aload_n 0, 1) := by decide +kernel
theorem dX0_isBehind_93 : decode cX0_isBehind 93 = .ok (.getfield 21, 3) := by decide +kernel
theorem dX0_isBehind_96 : decode cX0_isBehind 96 = .ok (.aload_n 1, 1) := by decide +kernel
theorem dX0_isBehind_97 : decode cX0_isBehind 97 = .ok (.getfield 99, 3) := by decide +kernel
theorem dX0_isBehind_100 : decode cX0_isBehind 100 = .ok (.aload_n 0, 1) := by decide +kernel
theorem dX0_isBehind_101 : decode cX0_isBehind 101 = .ok (.getfield 9, 3) := by decide +kernel
theorem dX0_isBehind_104 : decode cX0_isBehind 104 = .ok (.iload_n 2, 1) := by decide +kernel
theorem dX0_isBehind_105 : decode cX0_isBehind 105 = .ok (.iaload, 1) := by decide +kernel
theorem dX0_isBehind_106 : decode cX0_isBehind 106 = .ok (.invokevirtual 102, 3) := by decide +kernel
theorem dX0_isBehind_109 : decode cX0_isBehind 109 = .ok (.if_icmp .le 7, 3) := by decide +kernel
theorem dX0_isBehind_112 : decode cX0_isBehind 112 = .ok (.iconst 1, 1) := by decide +kernel
theorem dX0_isBehind_113 : decode cX0_isBehind 113 = .ok (.goto 4, 3) := by decide +kernel
theorem dX0_isBehind_116 : decode cX0_isBehind 116 = .ok (.iconst 0, 1) := by decide +kernel
theorem dX0_isBehind_117 : decode cX0_isBehind 117 = .ok (.ireturn, 1) := by decide +kernel
theorem dX0_packetIsSound_0 : decode cX0_packetIsSound 0 = .ok (.iconst 0, 1) := by decide +kernel
theorem dX0_packetIsSound_1 : decode cX0_packetIsSound 1 = .ok (.istore_n 2, 1) := by decide +kernel
theorem dX0_packetIsSound_2 : decode cX0_packetIsSound 2 = .ok (.iload_n 2, 1) := by decide +kernel
theorem dX0_packetIsSound_3 : decode cX0_packetIsSound 3 = .ok (.iconst 5, 1) := by decide +kernel
theorem dX0_packetIsSound_4 : decode cX0_packetIsSound 4 = .ok (.if_icmp .ge 16, 3) := by decide +kernel
theorem dX0_packetIsSound_7 : decode cX0_packetIsSound 7 = .ok (.aload_n 0, 1) := by decide +kernel
theorem dX0_packetIsSound_8 : decode cX0_packetIsSound 8 = .ok (.getfield 9, 3) := by decide +kernel
theorem dX0_packetIsSound_11 : decode cX0_packetIsSound 11 = .ok (.iload_n 2, 1) := by decide +kernel
theorem dX0_packetIsSound_12 : decode cX0_packetIsSound 12 = .ok (.iconst (-1), 1) := by decide +kernel
theorem dX0_packetIsSound_13 : decode cX0_packetIsSound 13 = .ok (.iastore, 1) := by decide +kernel
theorem dX0_packetIsSound_14 : decode cX0_packetIsSound 14 = .ok (.iinc 2 1, 3) := by decide +kernel
theorem dX0_packetIsSound_17 : decode cX0_packetIsSound 17 = .ok (.goto (-15), 3) := by decide +kernel
theorem dX0_packetIsSound_20 : decode cX0_packetIsSound 20 = .ok (.aload_n 0, 1) := by decide +kernel
theorem dX0_packetIsSound_21 : decode cX0_packetIsSound 21 = .ok (.aload_n 1, 1) := by decide +kernel
theorem dX0_packetIsSound_22 : decode cX0_packetIsSound 22 = .ok (.invokevirtual 61, 3) := by decide +kernel
theorem dX0_packetIsSound_25 : decode cX0_packetIsSound 25 = .ok (.aload_n 1, 1) := by decide +kernel
theorem dX0_packetIsSound_26 : decode cX0_packetIsSound 26 = .ok (.getfield 65, 3) := by decide +kernel
theorem dX0_packetIsSound_29 : decode cX0_packetIsSound 29 = .ok (.aload_n 1, 1) := by decide +kernel
theorem dX0_packetIsSound_30 : decode cX0_packetIsSound 30 = .ok (.getfield 70, 3) := by decide +kernel
theorem dX0_packetIsSound_33 : decode cX0_packetIsSound 33 = .ok (.isub, 1) := by decide +kernel
theorem dX0_packetIsSound_34 : decode cX0_packetIsSound 34 = .ok (.if_icmp .eq 5, 3) := by decide +kernel
theorem dX0_packetIsSound_37 : decode cX0_packetIsSound 37 = .ok (.iconst 0, 1) := by decide +kernel
theorem dX0_packetIsSound_38 : decode cX0_packetIsSound 38 = .ok (.ireturn, 1) := by decide +kernel
theorem dX0_packetIsSound_39 : decode cX0_packetIsSound 39 = .ok (.iconst 0, 1) := by decide +kernel
theorem dX0_packetIsSound_40 : decode cX0_packetIsSound 40 = .ok (.aload_n 1, 1) := by decide +kernel
theorem dX0_packetIsSound_41 : decode cX0_packetIsSound 41 = .ok (.getfield 70, 3) := by decide +kernel
theorem dX0_packetIsSound_44 : decode cX0_packetIsSound 44 = .ok (.invokestatic 73, 3) := by decide +kernel
theorem dX0_packetIsSound_47 : decode cX0_packetIsSound 47 = .ok (.istore_n 2, 1) := by decide +kernel
theorem dX0_packetIsSound_48 : decode cX0_packetIsSound 48 = .ok (.iload_n 2, 1) := by decide +kernel
theorem dX0_packetIsSound_49 : decode cX0_packetIsSound 49 = .ok (.aload_n 1, 1) := by decide +kernel
theorem dX0_packetIsSound_50 : decode cX0_packetIsSound 50 = .ok (.getfield 65, 3) := by decide +kernel
theorem dX0_packetIsSound_53 : decode cX0_packetIsSound 53 = .ok (.if_icmp .ge 43, 3) := by decide +kernel
theorem dX0_packetIsSound_56 : decode cX0_packetIsSound 56 = .ok (.iload_n 2, 1) := by decide +kernel
theorem dX0_packetIsSound_57 : decode cX0_packetIsSound 57 = .ok (.iconst 5, 1) := by decide +kernel
theorem dX0_packetIsSound_58 : decode cX0_packetIsSound 58 = .ok (.if_icmp .ge 38, 3) := by decide +kernel
theorem dX0_packetIsSound_61 : decode cX0_packetIsSound 61 = .ok (.aload_n 0, 1) := by decide +kernel
theorem dX0_packetIsSound_62 : decode cX0_packetIsSound 62 = .ok (.getfield 9, 3) := by decide +kernel
theorem dX0_packetIsSound_65 : decode cX0_packetIsSound 65 = .ok (.iload_n 2, 1) := by decide +kernel
theorem dX0_packetIsSound_66 : decode cX0_packetIsSound 66 = .ok (.iaload, 1) := by decide +kernel
theorem dX0_packetIsSound_67 : decode cX0_packetIsSound 67 = .ok (.iconst (-1), 1) := by decide +kernel
theorem dX0_packetIsSound_68 : decode cX0_packetIsSound 68 = .ok (.if_icmp .eq 20, 3) := by decide +kernel
theorem dX0_packetIsSound_71 : decode cX0_packetIsSound 71 = .ok (.iload_n 2, 1) := by decide +kernel
theorem dX0_packetIsSound_72 : decode cX0_packetIsSound 72 = .ok (.aload_n 1, 1) := by decide +kernel
theorem dX0_packetIsSound_73 : decode cX0_packetIsSound 73 = .ok (.getfield 70, 3) := by decide +kernel
theorem dX0_packetIsSound_76 : decode cX0_packetIsSound 76 = .ok (.if_icmp .le 14, 3) := by decide +kernel
theorem dX0_packetIsSound_79 : decode cX0_packetIsSound 79 = .ok (.aload_n 0, 1) := by decide +kernel
theorem dX0_packetIsSound_80 : decode cX0_packetIsSound 80 = .ok (.aload_n 1, 1) := by decide +kernel
theorem dX0_packetIsSound_81 : decode cX0_packetIsSound 81 = .ok (.iload_n 2, 1) := by decide +kernel
theorem dX0_packetIsSound_82 : decode cX0_packetIsSound 82 = .ok (.invokevirtual 79, 3) := by decide +kernel
theorem dX0_packetIsSound_85 : decode cX0_packetIsSound 85 = .ok (.ifCond .ne 5, 3) := by decide +kernel
theorem dX0_packetIsSound_88 : decode cX0_packetIsSound 88 = .ok (.iconst 0, 1) := by decide +kernel
theorem dX0_packetIsSound_89 : decode cX0_packetIsSound 89 = .ok (.ireturn, 1) := by decide +kernel
theorem dX0_packetIsSound_90 : decode cX0_packetIsSound 90 = .ok (.iinc 2 1, 3) := by decide +kernel
theorem dX0_packetIsSound_93 : decode cX0_packetIsSound 93 = .ok (.goto (-45), 3) := by decide +kernel
theorem dX0_packetIsSound_96 : decode cX0_packetIsSound 96 = .ok (.aload_n 1, 1) := by decide +kernel
theorem dX0_packetIsSound_97 : decode cX0_packetIsSound 97 = .ok (.getfield 65, 3) := by decide +kernel
theorem dX0_packetIsSound_100 : decode cX0_packetIsSound 100 = .ok (.aload_n 1, 1) := by decide +kernel
theorem dX0_packetIsSound_101 : decode cX0_packetIsSound 101 = .ok (.getfield 83, 3) := by decide +kernel
theorem dX0_packetIsSound_104 : decode cX0_packetIsSound 104 = .ok (.if_icmp .gt 7, 3) := by decide +kernel
theorem dX0_packetIsSound_107 : decode cX0_packetIsSound 107 = .ok (.iconst 1, 1) := by decide +kernel
theorem dX0_packetIsSound_108 : decode cX0_packetIsSound 108 = .ok (.goto 4, 3) := by decide +kernel
theorem dX0_packetIsSound_111 : decode cX0_packetIsSound 111 = .ok (.iconst 0, 1) := by decide +kernel
theorem dX0_packetIsSound_112 : decode cX0_packetIsSound 112 = .ok (.ireturn, 1) := by decide +kernel
theorem dX1_reset_0 : decode cX1_reset 0 = .ok (.iconst 0, 1) := by decide +kernel
theorem dX1_reset_1 : decode cX1_reset 1 = .ok (.istore_n 1, 1) := by decide +kernel
theorem dX1_reset_2 : decode cX1_reset 2 = .ok (.iload_n 1, 1) := by decide +kernel
theorem dX1_reset_3 : decode cX1_reset 3 = .ok (.bipush 8, 2) := by decide +kernel
theorem dX1_reset_5 : decode cX1_reset 5 = .ok (.if_icmp .ge 16, 3) := by decide +kernel
theorem dX1_reset_8 : decode cX1_reset 8 = .ok (.aload_n 0, 1) := by decide +kernel
theorem dX1_reset_9 : decode cX1_reset 9 = .ok (.getfield 9, 3) := by decide +kernel
theorem dX1_reset_12 : decode cX1_reset 12 = .ok (.iload_n 1, 1) := by decide +kernel
theorem dX1_reset_13 : decode cX1_reset 13 = .ok (.iconst 0, 1) := by decide +kernel
theorem dX1_reset_14 : decode cX1_reset 14 = .ok (.iastore, 1) := by decide +kernel
theorem dX1_reset_15 : decode cX1_reset 15 = .ok (.iinc 1 1, 3) := by decide +kernel
theorem dX1_reset_18 : decode cX1_reset 18 = .ok (.goto (-16), 3) := by decide +kernel
theorem dX1_reset_21 : decode cX1_reset 21 = .ok (.aload_n 0, 1) := by decide +kernel
theorem dX1_reset_22 : decode cX1_reset 22 = .ok (.iconst 0, 1) := by decide +kernel
theorem dX1_reset_23 : decode cX1_reset 23 = .ok (.putfield 25, 3) := by decide +kernel
theorem dX1_reset_26 : decode cX1_reset 26 = .ok (.aload_n 0, 1) := by decide +kernel
theorem dX1_reset_27 : decode cX1_reset 27 = .ok (.iconst 0, 1) := by decide +kernel
theorem dX1_reset_28 : decode cX1_reset 28 = .ok (.putfield 29, 3) := by decide +kernel
theorem dX1_reset_31 : decode cX1_reset 31 = .ok (.aload_n 0, 1) := by decide +kernel
theorem dX1_reset_32 : decode cX1_reset 32 = .ok (.iconst 0, 1) := by decide +kernel
theorem dX1_reset_33 : decode cX1_reset 33 = .ok (.putfield 32, 3) := by decide +kernel
theorem dX1_reset_36 : decode cX1_reset 36 = .ok (.aload_n 0, 1) := by decide +kernel
theorem dX1_reset_37 : decode cX1_reset 37 = .ok (.bipush 45, 2) := by decide +kernel
theorem dX1_reset_39 : decode cX1_reset 39 = .ok (.putfield 35, 3) := by decide +kernel
theorem dX1_reset_42 : decode cX1_reset 42 = .ok (.aload_n 0, 1) := by decide +kernel
theorem dX1_reset_43 : decode cX1_reset 43 = .ok (.bipush 45, 2) := by decide +kernel
theorem dX1_reset_45 : decode cX1_reset 45 = .ok (.putfield 39, 3) := by decide +kernel
theorem dX1_reset_48 : decode cX1_reset 48 = .ok (.return_, 1) := by decide +kernel
theorem dX1_isActive_0 : decode cX1_isActive 0 = .ok (.aload_n 0, 1) := by decide +kernel
theorem dX1_isActive_1 : decode cX1_isActive 1 = .ok (.getfield 35, 3) := by decide +kernel
theorem dX1_isActive_4 : decode cX1_isActive 4 = .ok (.bipush 114, 2) := by decide +kernel
theorem dX1_isActive_6 : decode cX1_isActive 6 = .ok (.if_icmp .eq 12, 3) := by decide +kernel
theorem dX1_isActive_9 : decode cX1_isActive 9 = .ok (.aload_n 0, 1) := by decide +kernel
theorem dX1_isActive_10 : decode cX1_isActive 10 = .ok (.getfield 35, 3) := by decide +kernel
theorem dX1_isActive_13 : decode cX1_isActive 13 = .ok (.bipush 119, 2) := by decide +kernel
theorem dX1_isActive_15 : decode cX1_isActive 15 = .ok (.if_icmp .ne 7, 3) := by decide +kernel
theorem dX1_isActive_18 : decode cX1_isActive 18 = .ok (.iconst 1, 1) := by decide +kernel
theorem dX1_isActive_19 : decode cX1_isActive 19 = .ok (.goto 4, 3) := by decide +kernel
theorem dX1_isActive_22 : decode cX1_isActive 22 = .ok (.iconst 0, 1) := by decide +kernel
theorem dX1_isActive_23 : decode cX1_isActive 23 = .ok (.ireturn, 1) := by decide +kernel
theorem dX1_isBusy_0 : decode cX1_isBusy 0 = .ok (.aload_n 0, 1) := by decide +kernel
theorem dX1_isBusy_1 : decode cX1_isBusy 1 = .ok (.invokevirtual 42, 3) := by decide +kernel
theorem dX1_isBusy_4 : decode cX1_isBusy 4 = .ok (.ifCond .ne 12, 3) := by decide +kernel
theorem dX1_isBusy_7 : decode cX1_isBusy 7 = .ok (.aload_n 0, 1) := by decide +kernel
theorem dX1_isBusy_8 : decode cX1_isBusy 8 = .ok (.getfield 35, 3) := by decide +kernel
theorem dX1_isBusy_11 : decode cX1_isBusy 11 = .ok (.bipush 98, 2) := by decide +kernel
theorem dX1_isBusy_13 : decode cX1_isBusy 13 = .ok (.if_icmp .ne 7, 3) := by decide +kernel
theorem dX1_isBusy_16 : decode cX1_isBusy 16 = .ok (.iconst 1, 1) := by decide +kernel
theorem dX1_isBusy_17 : decode cX1_isBusy 17 = .ok (.goto 4, 3) := by decide +kernel
theorem dX1_isBusy_20 : decode cX1_isBusy 20 = .ok (.iconst 0, 1) := by decide +kernel
theorem dX1_isBusy_21 : decode cX1_isBusy 21 = .ok (.ireturn, 1) := by decide +kernel
theorem dX1_hasInstruction_0 : decode cX1_hasInstruction 0 = .ok (.aload_n 0, 1) := by decide +kernel
theorem dX1_hasInstruction_1 : decode cX1_hasInstruction 1 = .ok (.getfield 32, 3) := by decide +kernel
theorem dX1_hasInstruction_4 : decode cX1_hasInstruction 4 = .ok (.ifCond .lt 27, 3) := by decide +kernel
theorem dX1_hasInstruction_7 : decode cX1_hasInstruction 7 = .ok (.aload_n 0, 1) := by decide +kernel
theorem dX1_hasInstruction_8 : decode cX1_hasInstruction 8 = .ok (.getfield 32, 3) := by decide +kernel
theorem dX1_hasInstruction_11 : decode cX1_hasInstruction 11 = .ok (.aload_n 0, 1) := by decide +kernel
theorem dX1_hasInstruction_12 : decode cX1_hasInstruction 12 = .ok (.getfield 29, 3) := by decide +kernel
theorem dX1_hasInstruction_15 : decode cX1_hasInstruction 15 = .ok (.if_icmp .ge 16, 3) := by decide +kernel
theorem dX1_hasInstruction_18 : decode cX1_hasInstruction 18 = .ok (.aload_n 0, 1) := by decide +kernel
theorem dX1_hasInstruction_19 : decode cX1_hasInstruction 19 = .ok (.getfield 32, 3) := by decide +kernel
theorem dX1_hasInstruction_22 : decode cX1_hasInstruction 22 = .ok (.bipush 12, 2) := by decide +kernel
theorem dX1_hasInstruction_24 : decode cX1_hasInstruction 24 = .ok (.if_icmp .ge 7, 3) := by decide +kernel
theorem dX1_hasInstruction_27 : decode cX1_hasInstruction 27 = .ok (.iconst 1, 1) := by decide +kernel
theorem dX1_hasInstruction_28 : decode cX1_hasInstruction 28 = .ok (.goto 4, 3) := by decide +kernel
theorem dX1_hasInstruction_31 : decode cX1_hasInstruction 31 = .ok (.iconst 0, 1) := by decide +kernel
theorem dX1_hasInstruction_32 : decode cX1_hasInstruction 32 = .ok (.ireturn, 1) := by decide +kernel
theorem dX1_stopBy_0 : decode cX1_stopBy 0 = .ok (.aload_n 0, 1) := by decide +kernel
theorem dX1_stopBy_1 : decode cX1_stopBy 1 = .ok (.bipush 120, 2) := by decide +kernel
theorem dX1_stopBy_3 : decode cX1_stopBy 3 = .ok (.putfield 35, 3) := by decide +kernel
theorem dX1_stopBy_6 : decode cX1_stopBy 6 = .ok (.aload_n 0, 1) := by decide +kernel
theorem dX1_stopBy_7 : decode cX1_stopBy 7 = .ok (.iload_n 1, 1) := by decide +kernel
theorem dX1_stopBy_8 : decode cX1_stopBy 8 = .ok (.putfield 39, 3) := by decide +kernel
theorem dX1_stopBy_11 : decode cX1_stopBy 11 = .ok (.return_, 1) := by decide +kernel
theorem dX1_canPop_0 : decode cX1_canPop 0 = .ok (.aload_n 0, 1) := by decide +kernel
theorem dX1_canPop_1 : decode cX1_canPop 1 = .ok (.getfield 25, 3) := by decide +kernel
theorem dX1_canPop_4 : decode cX1_canPop 4 = .ok (.iload_n 1, 1) := by decide +kernel
theorem dX1_canPop_5 : decode cX1_canPop 5 = .ok (.if_icmp .ge 9, 3) := by decide +kernel
theorem dX1_canPop_8 : decode cX1_canPop 8 = .ok (.aload_n 0, 1) := by decide +kernel
theorem dX1_canPop_9 : decode cX1_canPop 9 = .ok (.bipush 117, 2) := by decide +kernel
theorem dX1_canPop_11 : decode cX1_canPop 11 = .ok (.invokevirtual 46, 3) := by decide +kernel
theorem dX1_canPop_14 : decode cX1_canPop 14 = .ok (.aload_n 0, 1) := by decide +kernel
theorem dX1_canPop_15 : decode cX1_canPop 15 = .ok (.getfield 25, 3) := by decide +kernel
theorem dX1_canPop_18 : decode cX1_canPop 18 = .ok (.iload_n 1, 1) := by decide +kernel
theorem dX1_canPop_19 : decode cX1_canPop 19 = .ok (.if_icmp .lt 16, 3) := by decide +kernel
theorem dX1_canPop_22 : decode cX1_canPop 22 = .ok (.aload_n 0, 1) := by decide +kernel
theorem dX1_canPop_23 : decode cX1_canPop 23 = .ok (.getfield 25, 3) := by decide +kernel
theorem dX1_canPop_26 : decode cX1_canPop 26 = .ok (.bipush 6, 2) := by decide +kernel
theorem dX1_canPop_28 : decode cX1_canPop 28 = .ok (.if_icmp .gt 7, 3) := by decide +kernel
theorem dX1_canPop_31 : decode cX1_canPop 31 = .ok (.iconst 1, 1) := by decide +kernel
theorem dX1_canPop_32 : decode cX1_canPop 32 = .ok (.goto 4, 3) := by decide +kernel
theorem dX1_canPop_35 : decode cX1_canPop 35 = .ok (.iconst 0, 1) := by decide +kernel
theorem dX1_canPop_36 : decode cX1_canPop 36 = .ok (.ireturn, 1) := by decide +kernel
theorem dX1_isFull_0 : decode cX1_isFull 0 = .ok (.aload_n 0, 1) := by decide +kernel
theorem dX1_isFull_1 : decode cX1_isFull 1 = .ok (.getfield 25, 3) := by decide +kernel
theorem dX1_isFull_4 : decode cX1_isFull 4 = .ok (.bipush 6, 2) := by decide +kernel
theorem dX1_isFull_6 : decode cX1_isFull 6 = .ok (.if_icmp .lt 7, 3) := by decide +kernel
theorem dX1_isFull_9 : decode cX1_isFull 9 = .ok (.iconst 1, 1) := by decide +kernel
theorem dX1_isFull_10 : decode cX1_isFull 10 = .ok (.goto 4, 3) := by decide +kernel
theorem dX1_isFull_13 : decode cX1_isFull 13 = .ok (.iconst 0, 1) := by decide +kernel
theorem dX1_isFull_14 : decode cX1_isFull 14 = .ok (.ireturn, 1) := by decide +kernel
def f_Router_countPieces_b4 (μ : me_M) (K4 : Nat → Int32 → Int32 → Option Int32) (v0 : Nat) (v1 : Int32) (v2 : Int32) : Option Int32 :=
  if (10 : Int32) ≤ v2 then
  (some v1)
  else
  (me_gd (me_inb v2 10) (
  me_lt ((v1 + (μ 17 (10 * v0 + (me_ix v2)) 3))) (fun x3 =>
  me_lt (me_inc v2 (1)) (fun x4 =>
  K4 v0 x3 x4))))
set_option maxHeartbeats 4000000 in
set_option maxRecDepth 100000 in
theorem z_Router_countPieces_b4 {X : me_X} {B : me_B} {sz : Nat} (C : me_C X B RX7 cX7_countPieces 3 (some .int)) {μ : me_M} {v0 : Nat} {v1 : Int32} {v2 : Int32}  {K4 : Nat → Int32 → Int32 → Option Int32} {r : Int32} (N : me_En X B sz (B, μ, .ok (some (me_i r))) 0 0 0 0) (hNx : me_Nx X) (hB : me_St B) (hK4 : ∀ (v0 : Nat) (v1 : Int32) (v2 : Int32), K4 v0 v1 v2 = some r → me_Z X B 0 0 μ 4 [(0, me_r 13 v0), (1, me_i v1), (2, me_i v2)] [])  (hf : f_Router_countPieces_b4 μ K4 v0 v1 v2 = some r) : me_Z X B 0 0 μ 4 [(0, me_r 13 v0), (1, me_i v1), (2, me_i v2)] [] := by
  unfold f_Router_countPieces_b4 at hf
  refine me_iload_n C 2 dX7_countPieces_4 rfl rfl ?_
  refine me_aload_n C 0 (Or.inr (Or.inl ⟨_, rfl⟩)) dX7_countPieces_5 rfl rfl ?_
  refine me_getr C hB 0 (k' := 14) (i' := v0) fg_Router_11 dX7_countPieces_6 rfl rfl ?_
  refine me_alen C (v := 10) rfl (Or.inr rfl) (fun _ => rfl) dX7_countPieces_9 (by decide) ?_
  refine me_icmp_ge C (tgt := 31) dX7_countPieces_10 (by decide) (fun c1 => ?_) (fun c1 => ?_)
  · replace hf := me_ip c1 hf
    refine me_iload_n C 1 dX7_countPieces_31 rfl rfl ?_
    exact me_iret C N dX7_countPieces_32 (me_nri _) (by cases hf; rfl) (by decide) (by decide)
  · replace hf := me_in c1 hf
    refine me_iload_n C 1 dX7_countPieces_13 rfl rfl ?_
    refine me_aload_n C 0 (Or.inr (Or.inl ⟨_, rfl⟩)) dX7_countPieces_14 rfl rfl ?_
    refine me_getr C hB 0 (k' := 14) (i' := v0) fg_Router_11 dX7_countPieces_15 rfl rfl ?_
    refine me_iload_n C 2 dX7_countPieces_18 rfl rfl ?_
    obtain ⟨g2, hf⟩ := me_gs hf
    refine me_aald C hB (k' := 17) (i' := 10 * v0 + (me_ix v2)) rfl (fun _ => rfl) rfl g2 dX7_countPieces_19 rfl ?_
    refine me_geti C 3 fg_Router_39 dX7_countPieces_20 rfl ?_
    refine me_iadd C dX7_countPieces_23 ?_
    obtain ⟨x3, e_x3, hf⟩ := me_lts hf
    refine me_nm e_x3 ?_
    refine me_istore_n C 1 dX7_countPieces_24 rfl (by decide) (L' := [(1, me_i x3), (0, me_r 13 v0), (2, me_i v2)]) rfl ?_
    obtain ⟨x4, e_x4, hf⟩ := me_lts hf
    refine me_iinc C (v := x4) (L' := [(2, me_i x4), (1, me_i x3), (0, me_r 13 v0)]) dX7_countPieces_25 rfl e_x4.symm (by decide) rfl ?_
    refine me_goto C (tgt := 4) dX7_countPieces_28 (by decide) ?_
    refine me_dropI [(0, me_r 13 v0), (1, me_i x3), (2, me_i x4)] [2, 1, 0] rfl ?_
    exact hK4 v0 x3 x4 hf
def f_Router_countPieces_h4 (μ : me_M) : Nat → Nat → Int32 → Int32 → Option Int32
  | 0, _, _, _ => none
  | n + 1, v0, v1, v2 => f_Router_countPieces_b4 μ (f_Router_countPieces_h4 μ n) v0 v1 v2
set_option maxHeartbeats 4000000 in
set_option maxRecDepth 100000 in
theorem z_Router_countPieces_h4 {X : me_X} {B : me_B} {sz : Nat} (C : me_C X B RX7 cX7_countPieces 3 (some .int)) {μ : me_M}  {r : Int32} (N : me_En X B sz (B, μ, .ok (some (me_i r))) 0 0 0 0) (hNx : me_Nx X) (hB : me_St B)  : ∀ (n : Nat) (v0 : Nat) (v1 : Int32) (v2 : Int32), f_Router_countPieces_h4 μ n v0 v1 v2 = some r → me_Z X B 0 0 μ 4 [(0, me_r 13 v0), (1, me_i v1), (2, me_i v2)] [] := by
  intro n
  induction n with
  | zero => intro v0 v1 v2  h; exact absurd (show (none : Option Int32) = some r from h) (fun q => by cases q)
  | succ n ih => intro v0 v1 v2  h; exact z_Router_countPieces_b4 C N hNx hB  (K4 := f_Router_countPieces_h4 μ n) ih  h
def f_Router_countPieces (μ : me_M) (v0 : Nat) : Option Int32 :=
  f_Router_countPieces_h4 μ me_FU v0 (0 : Int32) (0 : Int32)
set_option maxHeartbeats 4000000 in
set_option maxRecDepth 100000 in
theorem z_Router_countPieces {X : me_X} {B : me_B} {sz : Nat} (C : me_C X B RX7 cX7_countPieces 3 (some .int)) {μ : me_M} {v0 : Nat}   {r : Int32} (N : me_En X B sz (B, μ, .ok (some (me_i r))) 0 0 0 0) (hNx : me_Nx X) (hB : me_St B)   (hf : f_Router_countPieces μ v0 = some r) : me_Z X B 0 0 μ 0 [(0, me_r 13 v0)] [] := by
  unfold f_Router_countPieces at hf
  refine me_iconst C (v := 0) dX7_countPieces_0 (by decide) ?_
  refine me_istore_n C 1 dX7_countPieces_1 rfl (by decide) (L' := [(1, me_i (0 : Int32)), (0, me_r 13 v0)]) rfl ?_
  refine me_iconst C (v := 0) dX7_countPieces_2 (by decide) ?_
  refine me_istore_n C 2 dX7_countPieces_3 rfl (by decide) (L' := [(2, me_i (0 : Int32)), (1, me_i (0 : Int32)), (0, me_r 13 v0)]) rfl ?_
  refine me_dropI [(0, me_r 13 v0), (1, me_i (0 : Int32)), (2, me_i (0 : Int32))] [2, 1, 0] rfl ?_
  exact z_Router_countPieces_h4 C N hNx hB me_FU v0 (0 : Int32) (0 : Int32) hf
theorem c_Router_countPieces {B : me_B} (hB : me_St B) {μ : me_M} {v0 : Nat} {r : Int32}  (hf : f_Router_countPieces μ v0 = some r) : ∀ l E z, l.stackTraces = false → me_Met l yX7_countPieces cX7_countPieces 3 (some .int) 0 0 0 0 E B μ z [me_r 13 v0] (B, μ, .ok (some (me_i r))) :=
  fun _ _ _ hl => me_ofZ hl (by decide +kernel) (Nat.le_of_ble_eq_true rfl) (fun _ C N hNx => z_Router_countPieces C N hNx hB  hf)

def f_Audit_hasOnePacket_b2 (μ : me_M) (K2 : Nat → Int32 → Option Int32) (v1 : Nat) (v2 : Int32) : Option Int32 :=
  if (μ 17 v1 3) ≤ v2 then
  (some (1 : Int32))
  else
  (me_gd (me_inb v2 4) (
  if (μ 18 v1 (me_ix v2)) = (μ 18 v1 0) then
  (me_lt (me_inc v2 (1)) (fun x4 =>
  K2 v1 x4))
  else
  (some (0 : Int32))))
set_option maxHeartbeats 4000000 in
set_option maxRecDepth 100000 in
theorem z_Audit_hasOnePacket_b2 {X : me_X} {B : me_B} {sz : Nat} (C : me_C X B RX0 cX0_hasOnePacket 3 (some .boolean)) {μ : me_M} {v1 : Nat} {v2 : Int32}  {K2 : Nat → Int32 → Option Int32} {r : Int32} (N : me_En X B sz (B, μ, .ok (some (me_i r))) 0 0 0 0) (hNx : me_Nx X) (hB : me_St B) (hK2 : ∀ (v1 : Nat) (v2 : Int32), K2 v1 v2 = some r → me_Z X B 0 0 μ 2 [(1, me_r 17 v1), (2, me_i v2)] [])  (hf : f_Audit_hasOnePacket_b2 μ K2 v1 v2 = some r) : me_Z X B 0 0 μ 2 [(1, me_r 17 v1), (2, me_i v2)] [] := by
  unfold f_Audit_hasOnePacket_b2 at hf
  refine me_iload_n C 2 dX0_hasOnePacket_2 rfl rfl ?_
  refine me_aload_n C 1 (Or.inr (Or.inl ⟨_, rfl⟩)) dX0_hasOnePacket_3 rfl rfl ?_
  refine me_geti C 3 fg_Audit_53 dX0_hasOnePacket_4 rfl ?_
  refine me_icmp_ge C (tgt := 33) dX0_hasOnePacket_7 (by decide) (fun c1 => ?_) (fun c1 => ?_)
  · replace hf := me_ip c1 hf
    refine me_iconst C (v := 1) dX0_hasOnePacket_33 (by decide) ?_
    exact me_iret C N dX0_hasOnePacket_34 (by decide +kernel) (by cases hf; rfl) (by decide) (by decide)
  · replace hf := me_in c1 hf
    refine me_aload_n C 1 (Or.inr (Or.inl ⟨_, rfl⟩)) dX0_hasOnePacket_10 rfl rfl ?_
    refine me_getr C hB 0 (k' := 18) (i' := v1) fg_Audit_58 dX0_hasOnePacket_11 rfl rfl ?_
    refine me_iload_n C 2 dX0_hasOnePacket_14 rfl rfl ?_
    obtain ⟨g2, hf⟩ := me_gs hf
    refine me_iald C rfl (fun _ => rfl) g2 dX0_hasOnePacket_15 ?_
    refine me_aload_n C 1 (Or.inr (Or.inl ⟨_, rfl⟩)) dX0_hasOnePacket_16 rfl rfl ?_
    refine me_getr C hB 0 (k' := 18) (i' := v1) fg_Audit_58 dX0_hasOnePacket_17 rfl rfl ?_
    refine me_iconst C (v := 0) dX0_hasOnePacket_20 (by decide) ?_
    refine me_iald C rfl (fun _ => rfl) (by decide +kernel) dX0_hasOnePacket_21 ?_
    refine me_icmp_eq C (tgt := 27) dX0_hasOnePacket_22 (by decide) (fun c3 => ?_) (fun c3 => ?_)
    · replace hf := me_ip c3 hf
      obtain ⟨x4, e_x4, hf⟩ := me_lts hf
      refine me_iinc C (v := x4) (L' := [(2, me_i x4), (1, me_r 17 v1)]) dX0_hasOnePacket_27 rfl e_x4.symm (by decide) rfl ?_
      refine me_goto C (tgt := 2) dX0_hasOnePacket_30 (by decide) ?_
      refine me_dropI [(1, me_r 17 v1), (2, me_i x4)] [1, 0] rfl ?_
      exact hK2 v1 x4 hf
    · replace hf := me_in c3 hf
      refine me_iconst C (v := 0) dX0_hasOnePacket_25 (by decide) ?_
      exact me_iret C N dX0_hasOnePacket_26 (by decide +kernel) (by cases hf; rfl) (by decide) (by decide)
def f_Audit_hasOnePacket_h2 (μ : me_M) : Nat → Nat → Int32 → Option Int32
  | 0, _, _ => none
  | n + 1, v1, v2 => f_Audit_hasOnePacket_b2 μ (f_Audit_hasOnePacket_h2 μ n) v1 v2
set_option maxHeartbeats 4000000 in
set_option maxRecDepth 100000 in
theorem z_Audit_hasOnePacket_h2 {X : me_X} {B : me_B} {sz : Nat} (C : me_C X B RX0 cX0_hasOnePacket 3 (some .boolean)) {μ : me_M}  {r : Int32} (N : me_En X B sz (B, μ, .ok (some (me_i r))) 0 0 0 0) (hNx : me_Nx X) (hB : me_St B)  : ∀ (n : Nat) (v1 : Nat) (v2 : Int32), f_Audit_hasOnePacket_h2 μ n v1 v2 = some r → me_Z X B 0 0 μ 2 [(1, me_r 17 v1), (2, me_i v2)] [] := by
  intro n
  induction n with
  | zero => intro v1 v2  h; exact absurd (show (none : Option Int32) = some r from h) (fun q => by cases q)
  | succ n ih => intro v1 v2  h; exact z_Audit_hasOnePacket_b2 C N hNx hB  (K2 := f_Audit_hasOnePacket_h2 μ n) ih  h
def f_Audit_hasOnePacket (μ : me_M) (v1 : Nat) : Option Int32 :=
  f_Audit_hasOnePacket_h2 μ me_FU v1 (1 : Int32)
set_option maxHeartbeats 4000000 in
set_option maxRecDepth 100000 in
theorem z_Audit_hasOnePacket {X : me_X} {B : me_B} {sz : Nat} (C : me_C X B RX0 cX0_hasOnePacket 3 (some .boolean)) {μ : me_M} {v1 : Nat}   {r : Int32} (N : me_En X B sz (B, μ, .ok (some (me_i r))) 0 0 0 0) (hNx : me_Nx X) (hB : me_St B)   (hf : f_Audit_hasOnePacket μ v1 = some r) : me_Z X B 0 0 μ 0 [(0, me_r 32 0), (1, me_r 17 v1)] [] := by
  unfold f_Audit_hasOnePacket at hf
  refine me_iconst C (v := 1) dX0_hasOnePacket_0 (by decide) ?_
  refine me_istore_n C 2 dX0_hasOnePacket_1 rfl (by decide) (L' := [(2, me_i (1 : Int32)), (0, me_r 32 0), (1, me_r 17 v1)]) rfl ?_
  refine me_dropI [(1, me_r 17 v1), (2, me_i (1 : Int32))] [2, 0] rfl ?_
  exact z_Audit_hasOnePacket_h2 C N hNx hB me_FU v1 (1 : Int32) hf
theorem c_Audit_hasOnePacket {B : me_B} (hB : me_St B) {μ : me_M} {v1 : Nat} {r : Int32}  (hf : f_Audit_hasOnePacket μ v1 = some r) : ∀ l E z, l.stackTraces = false → me_Met l yX0_hasOnePacket cX0_hasOnePacket 3 (some .boolean) 0 0 0 0 E B μ z [me_r 32 0, me_r 17 v1] (B, μ, .ok (some (me_i r))) :=
  fun _ _ _ hl => me_ofZ hl (by decide +kernel) (Nat.le_of_ble_eq_true rfl) (fun _ C N hNx => z_Audit_hasOnePacket C N hNx hB  hf)

def f_Audit_rowsAreSound_b38 (μ : me_M) (K2 : Int32 → Option Int32) (K38 : Int32 → Nat → Int32 → Option Int32) (v1 : Int32) (v2 : Nat) (v3 : Int32) : Option Int32 :=
  if (10 : Int32) ≤ v3 then
  (me_lt (me_inc v1 (1)) (fun x2 =>
  K2 x2))
  else
  (if (me_rem v3 (5 : Int32)) = (4 : Int32) then
  (me_lt (me_inc v3 (1)) (fun x4 =>
  K38 v1 v2 x4))
  else
  (me_gd (me_inb v3 10) (
  me_bd (f_Audit_hasOnePacket μ (10 * v2 + (me_ix v3))) (fun r6 =>
  if r6 = 0 then
  (some (0 : Int32))
  else
  (me_lt (me_inc v3 (1)) (fun x8 =>
  K38 v1 v2 x8))))))
set_option maxHeartbeats 4000000 in
set_option maxRecDepth 100000 in
theorem z_Audit_rowsAreSound_b38 {X : me_X} {B : me_B} {sz : Nat} (C : me_C X B RX0 cX0_rowsAreSound 4 (some .boolean)) {μ : me_M} {v1 : Int32} {v2 : Nat} {v3 : Int32}  {K2 : Int32 → Option Int32} {K38 : Int32 → Nat → Int32 → Option Int32} {r : Int32} (N : me_En X B sz (B, μ, .ok (some (me_i r))) 1 22 0 0) (hNx : me_Nx X) (hB : me_St B) (hK2 : ∀ (v1 : Int32), K2 v1 = some r → me_Z X B 0 0 μ 2 [(0, me_r 32 0), (1, me_i v1)] []) (hK38 : ∀ (v1 : Int32) (v2 : Nat) (v3 : Int32), K38 v1 v2 v3 = some r → me_Z X B 0 0 μ 38 [(0, me_r 32 0), (1, me_i v1), (2, me_r 13 v2), (3, me_i v3)] [])  (hf : f_Audit_rowsAreSound_b38 μ K2 K38 v1 v2 v3 = some r) : me_Z X B 0 0 μ 38 [(0, me_r 32 0), (1, me_i v1), (2, me_r 13 v2), (3, me_i v3)] [] := by
  unfold f_Audit_rowsAreSound_b38 at hf
  refine me_iload_n C 3 dX0_rowsAreSound_38 rfl rfl ?_
  refine me_aload_n C 2 (Or.inr (Or.inl ⟨_, rfl⟩)) dX0_rowsAreSound_39 rfl rfl ?_
  refine me_getr C hB 0 (k' := 14) (i' := v2) fg_Audit_45 dX0_rowsAreSound_40 rfl rfl ?_
  refine me_alen C (v := 10) rfl (Or.inr rfl) (fun _ => rfl) dX0_rowsAreSound_43 (by decide) ?_
  refine me_icmp_ge C (tgt := 75) dX0_rowsAreSound_44 (by decide) (fun c1 => ?_) (fun c1 => ?_)
  · replace hf := me_ip c1 hf
    obtain ⟨x2, e_x2, hf⟩ := me_lts hf
    refine me_iinc C (v := x2) (L' := [(1, me_i x2), (0, me_r 32 0), (2, me_r 13 v2), (3, me_i v3)]) dX0_rowsAreSound_75 rfl e_x2.symm (by decide) rfl ?_
    refine me_goto C (tgt := 2) dX0_rowsAreSound_78 (by decide) ?_
    refine me_dropI [(0, me_r 32 0), (1, me_i x2)] [1, 0] rfl ?_
    exact hK2 x2 hf
  · replace hf := me_in c1 hf
    refine me_iload_n C 3 dX0_rowsAreSound_47 rfl rfl ?_
    refine me_iconst C (v := 5) dX0_rowsAreSound_48 (by decide) ?_
    refine me_irem C dX0_rowsAreSound_49 (by decide) ?_
    refine me_iconst C (v := 4) dX0_rowsAreSound_50 (by decide) ?_
    refine me_icmp_eq C (tgt := 69) dX0_rowsAreSound_51 (by decide) (fun c3 => ?_) (fun c3 => ?_)
    · replace hf := me_ip c3 hf
      obtain ⟨x4, e_x4, hf⟩ := me_lts hf
      refine me_iinc C (v := x4) (L' := [(3, me_i x4), (0, me_r 32 0), (1, me_i v1), (2, me_r 13 v2)]) dX0_rowsAreSound_69 rfl e_x4.symm (by decide) rfl ?_
      refine me_goto C (tgt := 38) dX0_rowsAreSound_72 (by decide) ?_
      refine me_dropI [(0, me_r 32 0), (1, me_i v1), (2, me_r 13 v2), (3, me_i x4)] [1, 2, 3, 0] rfl ?_
      exact hK38 v1 v2 x4 hf
    · replace hf := me_in c3 hf
      refine me_aload_n C 0 (Or.inr (Or.inl ⟨_, rfl⟩)) dX0_rowsAreSound_54 rfl rfl ?_
      refine me_aload_n C 2 (Or.inr (Or.inl ⟨_, rfl⟩)) dX0_rowsAreSound_55 rfl rfl ?_
      refine me_getr C hB 0 (k' := 14) (i' := v2) fg_Audit_45 dX0_rowsAreSound_56 rfl rfl ?_
      refine me_iload_n C 3 dX0_rowsAreSound_59 rfl rfl ?_
      obtain ⟨g5, hf⟩ := me_gs hf
      refine me_aald C hB (k' := 17) (i' := 10 * v2 + (me_ix v3)) rfl (fun _ => rfl) rfl g5 dX0_rowsAreSound_60 rfl ?_
      obtain ⟨r6, h_r6, hf⟩ := me_bs hf
      refine me_callV C N  (As := [me_r 17 (10 * v2 + (me_ix v3))]) (st := []) 0 0 (c_Audit_hasOnePacket hB h_r6) mv_Audit_hasOnePacket ml_Audit_49 rfl rfl dX0_rowsAreSound_61 rfl rfl ⟨by decide, by decide⟩ ⟨by decide, by decide, by decide, by decide⟩ (Nat.le_of_ble_eq_true rfl) ?_
      refine me_if_ne C (tgt := 69) dX0_rowsAreSound_64 (by decide) (fun c7 => ?_) (fun c7 => ?_)
      · replace hf := me_in c7 hf
        obtain ⟨x8, e_x8, hf⟩ := me_lts hf
        refine me_iinc C (v := x8) (L' := [(3, me_i x8), (0, me_r 32 0), (1, me_i v1), (2, me_r 13 v2)]) dX0_rowsAreSound_69 rfl e_x8.symm (by decide) rfl ?_
        refine me_goto C (tgt := 38) dX0_rowsAreSound_72 (by decide) ?_
        refine me_dropI [(0, me_r 32 0), (1, me_i v1), (2, me_r 13 v2), (3, me_i x8)] [1, 2, 3, 0] rfl ?_
        exact hK38 v1 v2 x8 hf
      · replace hf := me_ip c7 hf
        refine me_iconst C (v := 0) dX0_rowsAreSound_67 (by decide) ?_
        exact me_iret C N dX0_rowsAreSound_68 (by decide +kernel) (by cases hf; rfl) (by decide) (by decide)
def f_Audit_rowsAreSound_h38 (μ : me_M) (K2 : Int32 → Option Int32) : Nat → Int32 → Nat → Int32 → Option Int32
  | 0, _, _, _ => none
  | n + 1, v1, v2, v3 => f_Audit_rowsAreSound_b38 μ K2 (f_Audit_rowsAreSound_h38 μ K2 n) v1 v2 v3
set_option maxHeartbeats 4000000 in
set_option maxRecDepth 100000 in
theorem z_Audit_rowsAreSound_h38 {X : me_X} {B : me_B} {sz : Nat} (C : me_C X B RX0 cX0_rowsAreSound 4 (some .boolean)) {μ : me_M} {K2 : Int32 → Option Int32} {r : Int32} (N : me_En X B sz (B, μ, .ok (some (me_i r))) 1 22 0 0) (hNx : me_Nx X) (hB : me_St B) (hK2 : ∀ (v1 : Int32), K2 v1 = some r → me_Z X B 0 0 μ 2 [(0, me_r 32 0), (1, me_i v1)] []) : ∀ (n : Nat) (v1 : Int32) (v2 : Nat) (v3 : Int32), f_Audit_rowsAreSound_h38 μ K2 n v1 v2 v3 = some r → me_Z X B 0 0 μ 38 [(0, me_r 32 0), (1, me_i v1), (2, me_r 13 v2), (3, me_i v3)] [] := by
  intro n
  induction n with
  | zero => intro v1 v2 v3  h; exact absurd (show (none : Option Int32) = some r from h) (fun q => by cases q)
  | succ n ih => intro v1 v2 v3  h; exact z_Audit_rowsAreSound_b38 C N hNx hB hK2 (K38 := f_Audit_rowsAreSound_h38 μ K2 n) ih  h
def f_Audit_rowsAreSound_b2 (μ : me_M) (K2 : Int32 → Option Int32) (v1 : Int32) : Option Int32 :=
  if (μ 1 0 4) ≤ v1 then
  (some (1 : Int32))
  else
  (me_gd (me_inb v1 16) (
  if (μ 13 (me_ix v1) 3) = 0 then
  (me_bd (f_Router_countPieces μ (me_ix v1)) (fun r4 =>
  if r4 ≤ 0 then
  (f_Audit_rowsAreSound_h38 μ K2 me_FU v1 (me_ix v1) (0 : Int32))
  else
  (some (0 : Int32))))
  else
  (f_Audit_rowsAreSound_h38 μ K2 me_FU v1 (me_ix v1) (0 : Int32))))
set_option maxHeartbeats 4000000 in
set_option maxRecDepth 100000 in
theorem z_Audit_rowsAreSound_b2 {X : me_X} {B : me_B} {sz : Nat} (C : me_C X B RX0 cX0_rowsAreSound 4 (some .boolean)) {μ : me_M} {v1 : Int32}  {K2 : Int32 → Option Int32} {r : Int32} (N : me_En X B sz (B, μ, .ok (some (me_i r))) 1 22 0 0) (hNx : me_Nx X) (hB : me_St B) (hK2 : ∀ (v1 : Int32), K2 v1 = some r → me_Z X B 0 0 μ 2 [(0, me_r 32 0), (1, me_i v1)] [])  (hf : f_Audit_rowsAreSound_b2 μ K2 v1 = some r) : me_Z X B 0 0 μ 2 [(0, me_r 32 0), (1, me_i v1)] [] := by
  unfold f_Audit_rowsAreSound_b2 at hf
  refine me_iload_n C 1 dX0_rowsAreSound_2 rfl rfl ?_
  refine me_aload_n C 0 (Or.inr (Or.inl ⟨_, rfl⟩)) dX0_rowsAreSound_3 rfl rfl ?_
  refine me_getr C hB 0 (k' := 1) (i' := 0) fg_Audit_21 dX0_rowsAreSound_4 rfl rfl ?_
  refine me_geti C 4 fg_Audit_29 dX0_rowsAreSound_7 rfl ?_
  refine me_icmp_ge C (tgt := 81) dX0_rowsAreSound_10 (by decide) (fun c1 => ?_) (fun c1 => ?_)
  · replace hf := me_ip c1 hf
    refine me_iconst C (v := 1) dX0_rowsAreSound_81 (by decide) ?_
    exact me_iret C N dX0_rowsAreSound_82 (by decide +kernel) (by cases hf; rfl) (by decide) (by decide)
  · replace hf := me_in c1 hf
    refine me_aload_n C 0 (Or.inr (Or.inl ⟨_, rfl⟩)) dX0_rowsAreSound_13 rfl rfl ?_
    refine me_getr C hB 1 (k' := 12) (i' := 0) fg_Audit_25 dX0_rowsAreSound_14 rfl rfl ?_
    refine me_iload_n C 1 dX0_rowsAreSound_17 rfl rfl ?_
    obtain ⟨g2, hf⟩ := me_gs hf
    refine me_aald C hB (k' := 13) (i' := (me_ix v1)) rfl (fun _ => rfl) rfl g2 dX0_rowsAreSound_18 rfl ?_
    refine me_astore_n C 2 (Or.inr (Or.inl ⟨_, rfl⟩)) dX0_rowsAreSound_19 rfl (by decide) (L' := [(2, me_r 13 (me_ix v1)), (0, me_r 32 0), (1, me_i v1)]) rfl ?_
    refine me_aload_n C 2 (Or.inr (Or.inl ⟨_, rfl⟩)) dX0_rowsAreSound_20 rfl rfl ?_
    refine me_geti C 3 fg_Audit_35 dX0_rowsAreSound_21 rfl ?_
    refine me_if_ne C (tgt := 36) dX0_rowsAreSound_24 (by decide) (fun c3 => ?_) (fun c3 => ?_)
    · replace hf := me_in c3 hf
      refine me_iconst C (v := 0) dX0_rowsAreSound_36 (by decide) ?_
      refine me_istore_n C 3 dX0_rowsAreSound_37 rfl (by decide) (L' := [(3, me_i (0 : Int32)), (2, me_r 13 (me_ix v1)), (0, me_r 32 0), (1, me_i v1)]) rfl ?_
      refine me_dropI [(0, me_r 32 0), (1, me_i v1), (2, me_r 13 (me_ix v1)), (3, me_i (0 : Int32))] [2, 3, 1, 0] rfl ?_
      exact z_Audit_rowsAreSound_h38 C N hNx hB hK2 me_FU v1 (me_ix v1) (0 : Int32) hf
    · replace hf := me_ip c3 hf
      refine me_aload_n C 2 (Or.inr (Or.inl ⟨_, rfl⟩)) dX0_rowsAreSound_27 rfl rfl ?_
      obtain ⟨r4, h_r4, hf⟩ := me_bs hf
      refine me_callV C N  (As := []) (st := []) 0 0 (c_Router_countPieces hB h_r4) mv_Router_countPieces ml_Audit_41 rfl rfl dX0_rowsAreSound_28 rfl rfl ⟨by decide, by decide⟩ ⟨by decide, by decide, by decide, by decide⟩ (Nat.le_of_ble_eq_true rfl) ?_
      refine me_if_le C (tgt := 36) dX0_rowsAreSound_31 (by decide) (fun c5 => ?_) (fun c5 => ?_)
      · replace hf := me_ip c5 hf
        refine me_iconst C (v := 0) dX0_rowsAreSound_36 (by decide) ?_
        refine me_istore_n C 3 dX0_rowsAreSound_37 rfl (by decide) (L' := [(3, me_i (0 : Int32)), (2, me_r 13 (me_ix v1)), (0, me_r 32 0), (1, me_i v1)]) rfl ?_
        refine me_dropI [(0, me_r 32 0), (1, me_i v1), (2, me_r 13 (me_ix v1)), (3, me_i (0 : Int32))] [2, 3, 1, 0] rfl ?_
        exact z_Audit_rowsAreSound_h38 C N hNx hB hK2 me_FU v1 (me_ix v1) (0 : Int32) hf
      · replace hf := me_in c5 hf
        refine me_iconst C (v := 0) dX0_rowsAreSound_34 (by decide) ?_
        exact me_iret C N dX0_rowsAreSound_35 (by decide +kernel) (by cases hf; rfl) (by decide) (by decide)
def f_Audit_rowsAreSound_h2 (μ : me_M) : Nat → Int32 → Option Int32
  | 0, _ => none
  | n + 1, v1 => f_Audit_rowsAreSound_b2 μ (f_Audit_rowsAreSound_h2 μ n) v1
set_option maxHeartbeats 4000000 in
set_option maxRecDepth 100000 in
theorem z_Audit_rowsAreSound_h2 {X : me_X} {B : me_B} {sz : Nat} (C : me_C X B RX0 cX0_rowsAreSound 4 (some .boolean)) {μ : me_M}  {r : Int32} (N : me_En X B sz (B, μ, .ok (some (me_i r))) 1 22 0 0) (hNx : me_Nx X) (hB : me_St B)  : ∀ (n : Nat) (v1 : Int32), f_Audit_rowsAreSound_h2 μ n v1 = some r → me_Z X B 0 0 μ 2 [(0, me_r 32 0), (1, me_i v1)] [] := by
  intro n
  induction n with
  | zero => intro v1  h; exact absurd (show (none : Option Int32) = some r from h) (fun q => by cases q)
  | succ n ih => intro v1  h; exact z_Audit_rowsAreSound_b2 C N hNx hB  (K2 := f_Audit_rowsAreSound_h2 μ n) ih  h
def f_Audit_rowsAreSound (μ : me_M) : Option Int32 :=
  f_Audit_rowsAreSound_h2 μ me_FU (0 : Int32)
set_option maxHeartbeats 4000000 in
set_option maxRecDepth 100000 in
theorem z_Audit_rowsAreSound {X : me_X} {B : me_B} {sz : Nat} (C : me_C X B RX0 cX0_rowsAreSound 4 (some .boolean)) {μ : me_M}    {r : Int32} (N : me_En X B sz (B, μ, .ok (some (me_i r))) 1 22 0 0) (hNx : me_Nx X) (hB : me_St B)   (hf : f_Audit_rowsAreSound μ = some r) : me_Z X B 0 0 μ 0 [(0, me_r 32 0)] [] := by
  unfold f_Audit_rowsAreSound at hf
  refine me_iconst C (v := 0) dX0_rowsAreSound_0 (by decide) ?_
  refine me_istore_n C 1 dX0_rowsAreSound_1 rfl (by decide) (L' := [(1, me_i (0 : Int32)), (0, me_r 32 0)]) rfl ?_
  refine me_dropI [(0, me_r 32 0), (1, me_i (0 : Int32))] [1, 0] rfl ?_
  exact z_Audit_rowsAreSound_h2 C N hNx hB me_FU (0 : Int32) hf
theorem c_Audit_rowsAreSound {B : me_B} (hB : me_St B) {μ : me_M}  {r : Int32}  (hf : f_Audit_rowsAreSound μ = some r) : ∀ l E z, l.stackTraces = false → me_Met l yX0_rowsAreSound cX0_rowsAreSound 4 (some .boolean) 1 22 0 0 E B μ z [me_r 32 0] (B, μ, .ok (some (me_i r))) :=
  fun _ _ _ hl => me_ofZ hl (by decide +kernel) (Nat.le_of_ble_eq_true rfl) (fun _ C N hNx => z_Audit_rowsAreSound C N hNx hB  hf)

def f_Packet_channel (μ : me_M) (v0 : Nat) : Option Int32 :=
  if (μ 8 v0 1) = (97 : Int32) then
  (some (1 : Int32))
  else
  (some (0 : Int32))
set_option maxHeartbeats 4000000 in
set_option maxRecDepth 100000 in
theorem z_Packet_channel {X : me_X} {B : me_B} {sz : Nat} (C : me_C X B RX4 cX4_channel 1 (some .int)) {μ : me_M} {v0 : Nat}   {r : Int32} (N : me_En X B sz (B, μ, .ok (some (me_i r))) 0 0 0 0) (hNx : me_Nx X) (hB : me_St B)   (hf : f_Packet_channel μ v0 = some r) : me_Z X B 0 0 μ 0 [(0, me_r 8 v0)] [] := by
  unfold f_Packet_channel at hf
  refine me_aload_n C 0 (Or.inr (Or.inl ⟨_, rfl⟩)) dX4_channel_0 rfl rfl ?_
  refine me_geti C 1 fg_Packet_13 dX4_channel_1 rfl ?_
  refine me_bipush C (v := 97) dX4_channel_4 (by decide) ?_
  refine me_icmp_ne C (tgt := 13) dX4_channel_6 (by decide) (fun c1 => ?_) (fun c1 => ?_)
  · replace hf := me_in c1 hf
    refine me_iconst C (v := 0) dX4_channel_13 (by decide) ?_
    exact me_iret C N dX4_channel_14 (me_nri _) (by cases hf; rfl) (by decide) (by decide)
  · replace hf := me_ip c1 hf
    refine me_iconst C (v := 1) dX4_channel_9 (by decide) ?_
    refine me_goto C (tgt := 14) dX4_channel_10 (by decide) ?_
    exact me_iret C N dX4_channel_14 (me_nri _) (by cases hf; rfl) (by decide) (by decide)
theorem c_Packet_channel {B : me_B} (hB : me_St B) {μ : me_M} {v0 : Nat} {r : Int32}  (hf : f_Packet_channel μ v0 = some r) : ∀ l E z, l.stackTraces = false → me_Met l yX4_channel cX4_channel 1 (some .int) 0 0 0 0 E B μ z [me_r 8 v0] (B, μ, .ok (some (me_i r))) :=
  fun _ _ _ hl => me_ofZ hl (by decide +kernel) (Nat.le_of_ble_eq_true rfl) (fun _ C N hNx => z_Packet_channel C N hNx hB  hf)

def f_Audit_findInRow_b26 (K26 : me_M → Nat → Int32 → Int32 → Nat → Int32 → Int32 → Option (me_M × Int32)) (μ : me_M) (v1 : Nat) (v2 : Int32) (v3 : Int32) (v4 : Nat) (v5 : Int32) (v6 : Int32) : Option (me_M × Int32) :=
  if (μ 17 v4 3) ≤ v6 then
  (some (μ, v5))
  else
  (me_gd (me_inb v6 4) (
  me_lt ((μ 19 v4 (me_ix v6))) (fun x3 =>
  me_gd (me_inb v6 4) (
  if (μ 18 v4 (me_ix v6)) = (μ 8 v1 0) then
  (if x3 < 0 then
  (me_lt (me_inc v6 (1)) (fun x8 =>
  K26 μ v1 v2 v3 v4 v5 x8))
  else
  (if (5 : Int32) ≤ x3 then
  (me_lt (me_inc v6 (1)) (fun x10 =>
  K26 μ v1 v2 v3 v4 v5 x10))
  else
  (me_gd (me_inb x3 5) (
  me_lt (me_up μ 33 0 (me_ix x3) v2) (fun μ12 =>
  me_gd (me_inb x3 5) (
  me_lt (me_up μ12 34 0 (me_ix x3) v3) (fun μ14 =>
  me_gd (me_inb x3 5) (
  me_lt (me_up μ14 35 0 (me_ix x3) v6) (fun μ16 =>
  me_lt (me_inc v5 (1)) (fun x17 =>
  me_lt (me_inc v6 (1)) (fun x18 =>
  K26 μ16 v1 v2 v3 v4 x17 x18)))))))))))
  else
  (me_lt (me_inc v6 (1)) (fun x6 =>
  K26 μ v1 v2 v3 v4 v5 x6))))))
set_option maxHeartbeats 4000000 in
set_option maxRecDepth 100000 in
theorem z_Audit_findInRow_b26 {X : me_X} {B : me_B} {sz : Nat} (C : me_C X B RX0 cX0_findInRow 8 (some .int)) {μ : me_M} {v1 : Nat} {v2 : Int32} {v3 : Int32} {v4 : Nat} {v5 : Int32} {v6 : Int32}  {K26 : me_M → Nat → Int32 → Int32 → Nat → Int32 → Int32 → Option (me_M × Int32)} {r : me_M × Int32} (N : me_En X B sz (B, r.1, .ok (some (me_i r.2))) 1 20 0 0) (hNx : me_Nx X) (hB : me_St B) (hK26 : ∀ (μ : me_M) (v1 : Nat) (v2 : Int32) (v3 : Int32) (v4 : Nat) (v5 : Int32) (v6 : Int32), K26 μ v1 v2 v3 v4 v5 v6 = some r → me_Z X B 0 0 μ 26 [(0, me_r 32 0), (1, me_r 8 v1), (2, me_i v2), (3, me_i v3), (4, me_r 17 v4), (5, me_i v5), (6, me_i v6)] [])  (hf : f_Audit_findInRow_b26 K26 μ v1 v2 v3 v4 v5 v6 = some r) : me_Z X B 0 0 μ 26 [(0, me_r 32 0), (1, me_r 8 v1), (2, me_i v2), (3, me_i v3), (4, me_r 17 v4), (5, me_i v5), (6, me_i v6)] [] := by
  unfold f_Audit_findInRow_b26 at hf
  refine me_iload C dX0_findInRow_26 rfl ?_
  refine me_aload C (Or.inr (Or.inl ⟨_, rfl⟩)) dX0_findInRow_28 rfl ?_
  refine me_geti C 3 fg_Audit_53 dX0_findInRow_30 rfl ?_
  refine me_icmp_ge C (tgt := 106) dX0_findInRow_33 (by decide) (fun c1 => ?_) (fun c1 => ?_)
  · replace hf := me_ip c1 hf
    refine me_iload C dX0_findInRow_106 rfl ?_
    exact me_iret C N dX0_findInRow_108 (me_nri _) (by cases hf; rfl) (by decide) (by decide)
  · replace hf := me_in c1 hf
    refine me_aload C (Or.inr (Or.inl ⟨_, rfl⟩)) dX0_findInRow_36 rfl ?_
    refine me_getr C hB 1 (k' := 19) (i' := v4) fg_Audit_93 dX0_findInRow_38 rfl rfl ?_
    refine me_iload C dX0_findInRow_41 rfl ?_
    obtain ⟨g2, hf⟩ := me_gs hf
    refine me_iald C rfl (fun _ => rfl) g2 dX0_findInRow_43 ?_
    obtain ⟨x3, e_x3, hf⟩ := me_lts hf
    refine me_nm e_x3 ?_
    refine me_istore C dX0_findInRow_44 (by decide) (L' := [(7, me_i x3), (0, me_r 32 0), (1, me_r 8 v1), (2, me_i v2), (3, me_i v3), (4, me_r 17 v4), (5, me_i v5), (6, me_i v6)]) rfl ?_
    refine me_aload C (Or.inr (Or.inl ⟨_, rfl⟩)) dX0_findInRow_46 rfl ?_
    refine me_getr C hB 0 (k' := 18) (i' := v4) fg_Audit_58 dX0_findInRow_48 rfl rfl ?_
    refine me_iload C dX0_findInRow_51 rfl ?_
    obtain ⟨g4, hf⟩ := me_gs hf
    refine me_iald C rfl (fun _ => rfl) g4 dX0_findInRow_53 ?_
    refine me_aload_n C 1 (Or.inr (Or.inl ⟨_, rfl⟩)) dX0_findInRow_54 rfl rfl ?_
    refine me_geti C 0 fg_Audit_96 dX0_findInRow_55 rfl ?_
    refine me_icmp_ne C (tgt := 100) dX0_findInRow_58 (by decide) (fun c5 => ?_) (fun c5 => ?_)
    · replace hf := me_in c5 hf
      obtain ⟨x6, e_x6, hf⟩ := me_lts hf
      refine me_iinc C (v := x6) (L' := [(6, me_i x6), (7, me_i x3), (0, me_r 32 0), (1, me_r 8 v1), (2, me_i v2), (3, me_i v3), (4, me_r 17 v4), (5, me_i v5)]) dX0_findInRow_100 rfl e_x6.symm (by decide) rfl ?_
      refine me_goto C (tgt := 26) dX0_findInRow_103 (by decide) ?_
      refine me_dropI [(0, me_r 32 0), (1, me_r 8 v1), (2, me_i v2), (3, me_i v3), (4, me_r 17 v4), (5, me_i v5), (6, me_i x6)] [2, 3, 4, 5, 6, 7, 0] rfl ?_
      exact hK26 μ v1 v2 v3 v4 v5 x6 hf
    · replace hf := me_ip c5 hf
      refine me_iload C dX0_findInRow_61 rfl ?_
      refine me_if_lt C (tgt := 100) dX0_findInRow_63 (by decide) (fun c7 => ?_) (fun c7 => ?_)
      · replace hf := me_ip c7 hf
        obtain ⟨x8, e_x8, hf⟩ := me_lts hf
        refine me_iinc C (v := x8) (L' := [(6, me_i x8), (7, me_i x3), (0, me_r 32 0), (1, me_r 8 v1), (2, me_i v2), (3, me_i v3), (4, me_r 17 v4), (5, me_i v5)]) dX0_findInRow_100 rfl e_x8.symm (by decide) rfl ?_
        refine me_goto C (tgt := 26) dX0_findInRow_103 (by decide) ?_
        refine me_dropI [(0, me_r 32 0), (1, me_r 8 v1), (2, me_i v2), (3, me_i v3), (4, me_r 17 v4), (5, me_i v5), (6, me_i x8)] [2, 3, 4, 5, 6, 7, 0] rfl ?_
        exact hK26 μ v1 v2 v3 v4 v5 x8 hf
      · replace hf := me_in c7 hf
        refine me_iload C dX0_findInRow_66 rfl ?_
        refine me_iconst C (v := 5) dX0_findInRow_68 (by decide) ?_
        refine me_icmp_ge C (tgt := 100) dX0_findInRow_69 (by decide) (fun c9 => ?_) (fun c9 => ?_)
        · replace hf := me_ip c9 hf
          obtain ⟨x10, e_x10, hf⟩ := me_lts hf
          refine me_iinc C (v := x10) (L' := [(6, me_i x10), (7, me_i x3), (0, me_r 32 0), (1, me_r 8 v1), (2, me_i v2), (3, me_i v3), (4, me_r 17 v4), (5, me_i v5)]) dX0_findInRow_100 rfl e_x10.symm (by decide) rfl ?_
          refine me_goto C (tgt := 26) dX0_findInRow_103 (by decide) ?_
          refine me_dropI [(0, me_r 32 0), (1, me_r 8 v1), (2, me_i v2), (3, me_i v3), (4, me_r 17 v4), (5, me_i v5), (6, me_i x10)] [2, 3, 4, 5, 6, 7, 0] rfl ?_
          exact hK26 μ v1 v2 v3 v4 v5 x10 hf
        · replace hf := me_in c9 hf
          refine me_aload_n C 0 (Or.inr (Or.inl ⟨_, rfl⟩)) dX0_findInRow_72 rfl rfl ?_
          refine me_getr C hB 2 (k' := 33) (i' := 0) fg_Audit_9 dX0_findInRow_73 rfl rfl ?_
          refine me_iload C dX0_findInRow_76 rfl ?_
          refine me_iload_n C 2 dX0_findInRow_78 rfl rfl ?_
          obtain ⟨g11, hf⟩ := me_gs hf
          obtain ⟨μ12, e_μ12, hf⟩ := me_lts hf
          refine me_iast C rfl (fun _ => rfl) g11 dX0_findInRow_79 e_μ12 ?_
          refine me_aload_n C 0 (Or.inr (Or.inl ⟨_, rfl⟩)) dX0_findInRow_80 rfl rfl ?_
          refine me_getr C hB 3 (k' := 34) (i' := 0) fg_Audit_15 dX0_findInRow_81 rfl rfl ?_
          refine me_iload C dX0_findInRow_84 rfl ?_
          refine me_iload_n C 3 dX0_findInRow_86 rfl rfl ?_
          obtain ⟨g13, hf⟩ := me_gs hf
          obtain ⟨μ14, e_μ14, hf⟩ := me_lts hf
          refine me_iast C rfl (fun _ => rfl) g13 dX0_findInRow_87 e_μ14 ?_
          refine me_aload_n C 0 (Or.inr (Or.inl ⟨_, rfl⟩)) dX0_findInRow_88 rfl rfl ?_
          refine me_getr C hB 4 (k' := 35) (i' := 0) fg_Audit_18 dX0_findInRow_89 rfl rfl ?_
          refine me_iload C dX0_findInRow_92 rfl ?_
          refine me_iload C dX0_findInRow_94 rfl ?_
          obtain ⟨g15, hf⟩ := me_gs hf
          obtain ⟨μ16, e_μ16, hf⟩ := me_lts hf
          refine me_iast C rfl (fun _ => rfl) g15 dX0_findInRow_96 e_μ16 ?_
          obtain ⟨x17, e_x17, hf⟩ := me_lts hf
          refine me_iinc C (v := x17) (L' := [(5, me_i x17), (7, me_i x3), (0, me_r 32 0), (1, me_r 8 v1), (2, me_i v2), (3, me_i v3), (4, me_r 17 v4), (6, me_i v6)]) dX0_findInRow_97 rfl e_x17.symm (by decide) rfl ?_
          obtain ⟨x18, e_x18, hf⟩ := me_lts hf
          refine me_iinc C (v := x18) (L' := [(6, me_i x18), (5, me_i x17), (7, me_i x3), (0, me_r 32 0), (1, me_r 8 v1), (2, me_i v2), (3, me_i v3), (4, me_r 17 v4)]) dX0_findInRow_100 rfl e_x18.symm (by decide) rfl ?_
          refine me_goto C (tgt := 26) dX0_findInRow_103 (by decide) ?_
          refine me_dropI [(0, me_r 32 0), (1, me_r 8 v1), (2, me_i v2), (3, me_i v3), (4, me_r 17 v4), (5, me_i x17), (6, me_i x18)] [3, 4, 5, 6, 7, 1, 0] rfl ?_
          exact hK26 μ16 v1 v2 v3 v4 x17 x18 hf
def f_Audit_findInRow_h26  : Nat → me_M → Nat → Int32 → Int32 → Nat → Int32 → Int32 → Option (me_M × Int32)
  | 0, _, _, _, _, _, _, _ => none
  | n + 1, μ, v1, v2, v3, v4, v5, v6 => f_Audit_findInRow_b26 (f_Audit_findInRow_h26 n) μ v1 v2 v3 v4 v5 v6
set_option maxHeartbeats 4000000 in
set_option maxRecDepth 100000 in
theorem z_Audit_findInRow_h26 {X : me_X} {B : me_B} {sz : Nat} (C : me_C X B RX0 cX0_findInRow 8 (some .int))  {r : me_M × Int32} (N : me_En X B sz (B, r.1, .ok (some (me_i r.2))) 1 20 0 0) (hNx : me_Nx X) (hB : me_St B)  : ∀ (n : Nat) (μ : me_M) (v1 : Nat) (v2 : Int32) (v3 : Int32) (v4 : Nat) (v5 : Int32) (v6 : Int32), f_Audit_findInRow_h26 n μ v1 v2 v3 v4 v5 v6 = some r → me_Z X B 0 0 μ 26 [(0, me_r 32 0), (1, me_r 8 v1), (2, me_i v2), (3, me_i v3), (4, me_r 17 v4), (5, me_i v5), (6, me_i v6)] [] := by
  intro n
  induction n with
  | zero => intro μ v1 v2 v3 v4 v5 v6  h; exact absurd (show (none : Option (me_M × Int32)) = some r from h) (fun q => by cases q)
  | succ n ih => intro μ v1 v2 v3 v4 v5 v6  h; exact z_Audit_findInRow_b26 C N hNx hB  (K26 := f_Audit_findInRow_h26 n) ih  h
def f_Audit_findInRow (μ : me_M) (v1 : Nat) (v2 : Int32) (v3 : Int32) : Option (me_M × Int32) :=
  me_gd (me_inb v2 16) (
  me_bd (f_Packet_channel μ v1) (fun r2 =>
  me_gd (me_inb ((r2 * (5 : Int32)) + v3) 10) (
  f_Audit_findInRow_h26 me_FU μ v1 v2 v3 (10 * (me_ix v2) + (me_ix ((r2 * (5 : Int32)) + v3))) (0 : Int32) (0 : Int32))))
set_option maxHeartbeats 4000000 in
set_option maxRecDepth 100000 in
theorem z_Audit_findInRow {X : me_X} {B : me_B} {sz : Nat} (C : me_C X B RX0 cX0_findInRow 8 (some .int)) {μ : me_M} {v1 : Nat} {v2 : Int32} {v3 : Int32}   {r : me_M × Int32} (N : me_En X B sz (B, r.1, .ok (some (me_i r.2))) 1 20 0 0) (hNx : me_Nx X) (hB : me_St B)   (hf : f_Audit_findInRow μ v1 v2 v3 = some r) : me_Z X B 0 0 μ 0 [(0, me_r 32 0), (1, me_r 8 v1), (2, me_i v2), (3, me_i v3)] [] := by
  unfold f_Audit_findInRow at hf
  refine me_aload_n C 0 (Or.inr (Or.inl ⟨_, rfl⟩)) dX0_findInRow_0 rfl rfl ?_
  refine me_getr C hB 1 (k' := 12) (i' := 0) fg_Audit_25 dX0_findInRow_1 rfl rfl ?_
  refine me_iload_n C 2 dX0_findInRow_4 rfl rfl ?_
  obtain ⟨g1, hf⟩ := me_gs hf
  refine me_aald C hB (k' := 13) (i' := (me_ix v2)) rfl (fun _ => rfl) rfl g1 dX0_findInRow_5 rfl ?_
  refine me_getr C hB 0 (k' := 14) (i' := (me_ix v2)) fg_Audit_45 dX0_findInRow_6 rfl rfl ?_
  refine me_aload_n C 1 (Or.inr (Or.inl ⟨_, rfl⟩)) dX0_findInRow_9 rfl rfl ?_
  obtain ⟨r2, h_r2, hf⟩ := me_bs hf
  refine me_callV C N  (As := []) (st := [me_r 14 (me_ix v2)]) 0 0 (c_Packet_channel hB h_r2) mv_Packet_channel ml_Audit_90 rfl rfl dX0_findInRow_10 rfl rfl ⟨by decide, by decide⟩ ⟨by decide, by decide, by decide, by decide⟩ (Nat.le_of_ble_eq_true rfl) ?_
  refine me_iconst C (v := 5) dX0_findInRow_13 (by decide) ?_
  refine me_imul C dX0_findInRow_14 ?_
  refine me_iload_n C 3 dX0_findInRow_15 rfl rfl ?_
  refine me_iadd C dX0_findInRow_16 ?_
  obtain ⟨g3, hf⟩ := me_gs hf
  refine me_aald C hB (k' := 17) (i' := 10 * (me_ix v2) + (me_ix ((r2 * (5 : Int32)) + v3))) rfl (fun _ => rfl) rfl g3 dX0_findInRow_17 rfl ?_
  refine me_astore C (Or.inr (Or.inl ⟨_, rfl⟩)) dX0_findInRow_18 (by decide) (L' := [(4, me_r 17 (10 * (me_ix v2) + (me_ix ((r2 * (5 : Int32)) + v3)))), (0, me_r 32 0), (1, me_r 8 v1), (2, me_i v2), (3, me_i v3)]) rfl ?_
  refine me_iconst C (v := 0) dX0_findInRow_20 (by decide) ?_
  refine me_istore C dX0_findInRow_21 (by decide) (L' := [(5, me_i (0 : Int32)), (4, me_r 17 (10 * (me_ix v2) + (me_ix ((r2 * (5 : Int32)) + v3)))), (0, me_r 32 0), (1, me_r 8 v1), (2, me_i v2), (3, me_i v3)]) rfl ?_
  refine me_iconst C (v := 0) dX0_findInRow_23 (by decide) ?_
  refine me_istore C dX0_findInRow_24 (by decide) (L' := [(6, me_i (0 : Int32)), (5, me_i (0 : Int32)), (4, me_r 17 (10 * (me_ix v2) + (me_ix ((r2 * (5 : Int32)) + v3)))), (0, me_r 32 0), (1, me_r 8 v1), (2, me_i v2), (3, me_i v3)]) rfl ?_
  refine me_dropI [(0, me_r 32 0), (1, me_r 8 v1), (2, me_i v2), (3, me_i v3), (4, me_r 17 (10 * (me_ix v2) + (me_ix ((r2 * (5 : Int32)) + v3)))), (5, me_i (0 : Int32)), (6, me_i (0 : Int32))] [3, 4, 5, 6, 2, 1, 0] rfl ?_
  exact z_Audit_findInRow_h26 C N hNx hB me_FU μ v1 v2 v3 (10 * (me_ix v2) + (me_ix ((r2 * (5 : Int32)) + v3))) (0 : Int32) (0 : Int32) hf
theorem c_Audit_findInRow {B : me_B} (hB : me_St B) {μ : me_M} {v1 : Nat} {v2 : Int32} {v3 : Int32} {μ' : me_M} {r : Int32}  (hf : f_Audit_findInRow μ v1 v2 v3 = some (μ', r)) : ∀ l E z, l.stackTraces = false → me_Met l yX0_findInRow cX0_findInRow 8 (some .int) 1 20 0 0 E B μ z [me_r 32 0, me_r 8 v1, me_i v2, me_i v3] (B, μ', .ok (some (me_i r))) :=
  fun _ _ _ hl => me_ofZ hl (by decide +kernel) (Nat.le_of_ble_eq_true rfl) (fun _ C N hNx => z_Audit_findInRow C N hNx hB  hf)

def f_Audit_findPieces_b18 (K4 : me_M → Nat → Int32 → Int32 → Option (me_M × Int32)) (K18 : me_M → Nat → Int32 → Int32 → Int32 → Option (me_M × Int32)) (μ : me_M) (v1 : Nat) (v2 : Int32) (v3 : Int32) (v4 : Int32) : Option (me_M × Int32) :=
  if (5 : Int32) ≤ v4 then
  (me_lt (me_inc v3 (1)) (fun x2 =>
  K4 μ v1 v2 x2))
  else
  (me_b2 (f_Audit_findInRow μ v1 v3 v4) (fun μ4 r3 =>
  me_lt ((v2 + r3)) (fun x5 =>
  me_lt (me_inc v4 (1)) (fun x6 =>
  K18 μ4 v1 x5 v3 x6))))
set_option maxHeartbeats 4000000 in
set_option maxRecDepth 100000 in
theorem z_Audit_findPieces_b18 {X : me_X} {B : me_B} {sz : Nat} (C : me_C X B RX0 cX0_findPieces 5 (some .int)) {μ : me_M} {v1 : Nat} {v2 : Int32} {v3 : Int32} {v4 : Int32}  {K4 : me_M → Nat → Int32 → Int32 → Option (me_M × Int32)} {K18 : me_M → Nat → Int32 → Int32 → Int32 → Option (me_M × Int32)} {r : me_M × Int32} (N : me_En X B sz (B, r.1, .ok (some (me_i r.2))) 2 47 0 0) (hNx : me_Nx X) (hB : me_St B) (hK4 : ∀ (μ : me_M) (v1 : Nat) (v2 : Int32) (v3 : Int32), K4 μ v1 v2 v3 = some r → me_Z X B 0 0 μ 4 [(0, me_r 32 0), (1, me_r 8 v1), (2, me_i v2), (3, me_i v3)] []) (hK18 : ∀ (μ : me_M) (v1 : Nat) (v2 : Int32) (v3 : Int32) (v4 : Int32), K18 μ v1 v2 v3 v4 = some r → me_Z X B 0 0 μ 18 [(0, me_r 32 0), (1, me_r 8 v1), (2, me_i v2), (3, me_i v3), (4, me_i v4)] [])  (hf : f_Audit_findPieces_b18 K4 K18 μ v1 v2 v3 v4 = some r) : me_Z X B 0 0 μ 18 [(0, me_r 32 0), (1, me_r 8 v1), (2, me_i v2), (3, me_i v3), (4, me_i v4)] [] := by
  unfold f_Audit_findPieces_b18 at hf
  refine me_iload C dX0_findPieces_18 rfl ?_
  refine me_iconst C (v := 5) dX0_findPieces_20 (by decide) ?_
  refine me_icmp_ge C (tgt := 41) dX0_findPieces_21 (by decide) (fun c1 => ?_) (fun c1 => ?_)
  · replace hf := me_ip c1 hf
    obtain ⟨x2, e_x2, hf⟩ := me_lts hf
    refine me_iinc C (v := x2) (L' := [(3, me_i x2), (0, me_r 32 0), (1, me_r 8 v1), (2, me_i v2), (4, me_i v4)]) dX0_findPieces_41 rfl e_x2.symm (by decide) rfl ?_
    refine me_goto C (tgt := 4) dX0_findPieces_44 (by decide) ?_
    refine me_dropI [(0, me_r 32 0), (1, me_r 8 v1), (2, me_i v2), (3, me_i x2)] [1, 2, 3, 0] rfl ?_
    exact hK4 μ v1 v2 x2 hf
  · replace hf := me_in c1 hf
    refine me_iload_n C 2 dX0_findPieces_24 rfl rfl ?_
    refine me_aload_n C 0 (Or.inr (Or.inl ⟨_, rfl⟩)) dX0_findPieces_25 rfl rfl ?_
    refine me_aload_n C 1 (Or.inr (Or.inl ⟨_, rfl⟩)) dX0_findPieces_26 rfl rfl ?_
    refine me_iload_n C 3 dX0_findPieces_27 rfl rfl ?_
    refine me_iload C dX0_findPieces_28 rfl ?_
    obtain ⟨μ4, r3, h_r3, hf⟩ := me_bs2 hf
    refine me_callV C N  (As := [me_r 8 v1, me_i v3, me_i v4]) (st := [me_i v2]) 0 0 (c_Audit_findInRow hB h_r3) mv_Audit_findInRow ml_Audit_86 rfl rfl dX0_findPieces_30 rfl rfl ⟨by decide, by decide⟩ ⟨by decide, by decide, by decide, by decide⟩ (Nat.le_of_ble_eq_true rfl) ?_
    refine me_iadd C dX0_findPieces_33 ?_
    obtain ⟨x5, e_x5, hf⟩ := me_lts hf
    refine me_nm e_x5 ?_
    refine me_istore_n C 2 dX0_findPieces_34 rfl (by decide) (L' := [(2, me_i x5), (0, me_r 32 0), (1, me_r 8 v1), (3, me_i v3), (4, me_i v4)]) rfl ?_
    obtain ⟨x6, e_x6, hf⟩ := me_lts hf
    refine me_iinc C (v := x6) (L' := [(4, me_i x6), (2, me_i x5), (0, me_r 32 0), (1, me_r 8 v1), (3, me_i v3)]) dX0_findPieces_35 rfl e_x6.symm (by decide) rfl ?_
    refine me_goto C (tgt := 18) dX0_findPieces_38 (by decide) ?_
    refine me_dropI [(0, me_r 32 0), (1, me_r 8 v1), (2, me_i x5), (3, me_i v3), (4, me_i x6)] [2, 3, 1, 4, 0] rfl ?_
    exact hK18 μ4 v1 x5 v3 x6 hf
def f_Audit_findPieces_h18 (K4 : me_M → Nat → Int32 → Int32 → Option (me_M × Int32)) : Nat → me_M → Nat → Int32 → Int32 → Int32 → Option (me_M × Int32)
  | 0, _, _, _, _, _ => none
  | n + 1, μ, v1, v2, v3, v4 => f_Audit_findPieces_b18 K4 (f_Audit_findPieces_h18 K4 n) μ v1 v2 v3 v4
set_option maxHeartbeats 4000000 in
set_option maxRecDepth 100000 in
theorem z_Audit_findPieces_h18 {X : me_X} {B : me_B} {sz : Nat} (C : me_C X B RX0 cX0_findPieces 5 (some .int)) {K4 : me_M → Nat → Int32 → Int32 → Option (me_M × Int32)} {r : me_M × Int32} (N : me_En X B sz (B, r.1, .ok (some (me_i r.2))) 2 47 0 0) (hNx : me_Nx X) (hB : me_St B) (hK4 : ∀ (μ : me_M) (v1 : Nat) (v2 : Int32) (v3 : Int32), K4 μ v1 v2 v3 = some r → me_Z X B 0 0 μ 4 [(0, me_r 32 0), (1, me_r 8 v1), (2, me_i v2), (3, me_i v3)] []) : ∀ (n : Nat) (μ : me_M) (v1 : Nat) (v2 : Int32) (v3 : Int32) (v4 : Int32), f_Audit_findPieces_h18 K4 n μ v1 v2 v3 v4 = some r → me_Z X B 0 0 μ 18 [(0, me_r 32 0), (1, me_r 8 v1), (2, me_i v2), (3, me_i v3), (4, me_i v4)] [] := by
  intro n
  induction n with
  | zero => intro μ v1 v2 v3 v4  h; exact absurd (show (none : Option (me_M × Int32)) = some r from h) (fun q => by cases q)
  | succ n ih => intro μ v1 v2 v3 v4  h; exact z_Audit_findPieces_b18 C N hNx hB hK4 (K18 := f_Audit_findPieces_h18 K4 n) ih  h
def f_Audit_findPieces_b4 (K4 : me_M → Nat → Int32 → Int32 → Option (me_M × Int32)) (μ : me_M) (v1 : Nat) (v2 : Int32) (v3 : Int32) : Option (me_M × Int32) :=
  if (μ 1 0 4) ≤ v3 then
  (some (μ, v2))
  else
  (f_Audit_findPieces_h18 K4 me_FU μ v1 v2 v3 (0 : Int32))
set_option maxHeartbeats 4000000 in
set_option maxRecDepth 100000 in
theorem z_Audit_findPieces_b4 {X : me_X} {B : me_B} {sz : Nat} (C : me_C X B RX0 cX0_findPieces 5 (some .int)) {μ : me_M} {v1 : Nat} {v2 : Int32} {v3 : Int32}  {K4 : me_M → Nat → Int32 → Int32 → Option (me_M × Int32)} {r : me_M × Int32} (N : me_En X B sz (B, r.1, .ok (some (me_i r.2))) 2 47 0 0) (hNx : me_Nx X) (hB : me_St B) (hK4 : ∀ (μ : me_M) (v1 : Nat) (v2 : Int32) (v3 : Int32), K4 μ v1 v2 v3 = some r → me_Z X B 0 0 μ 4 [(0, me_r 32 0), (1, me_r 8 v1), (2, me_i v2), (3, me_i v3)] [])  (hf : f_Audit_findPieces_b4 K4 μ v1 v2 v3 = some r) : me_Z X B 0 0 μ 4 [(0, me_r 32 0), (1, me_r 8 v1), (2, me_i v2), (3, me_i v3)] [] := by
  unfold f_Audit_findPieces_b4 at hf
  refine me_iload_n C 3 dX0_findPieces_4 rfl rfl ?_
  refine me_aload_n C 0 (Or.inr (Or.inl ⟨_, rfl⟩)) dX0_findPieces_5 rfl rfl ?_
  refine me_getr C hB 0 (k' := 1) (i' := 0) fg_Audit_21 dX0_findPieces_6 rfl rfl ?_
  refine me_geti C 4 fg_Audit_29 dX0_findPieces_9 rfl ?_
  refine me_icmp_ge C (tgt := 47) dX0_findPieces_12 (by decide) (fun c1 => ?_) (fun c1 => ?_)
  · replace hf := me_ip c1 hf
    refine me_iload_n C 2 dX0_findPieces_47 rfl rfl ?_
    exact me_iret C N dX0_findPieces_48 (me_nri _) (by cases hf; rfl) (by decide) (by decide)
  · replace hf := me_in c1 hf
    refine me_iconst C (v := 0) dX0_findPieces_15 (by decide) ?_
    refine me_istore C dX0_findPieces_16 (by decide) (L' := [(4, me_i (0 : Int32)), (0, me_r 32 0), (1, me_r 8 v1), (2, me_i v2), (3, me_i v3)]) rfl ?_
    refine me_dropI [(0, me_r 32 0), (1, me_r 8 v1), (2, me_i v2), (3, me_i v3), (4, me_i (0 : Int32))] [1, 2, 3, 4, 0] rfl ?_
    exact z_Audit_findPieces_h18 C N hNx hB hK4 me_FU μ v1 v2 v3 (0 : Int32) hf
def f_Audit_findPieces_h4  : Nat → me_M → Nat → Int32 → Int32 → Option (me_M × Int32)
  | 0, _, _, _, _ => none
  | n + 1, μ, v1, v2, v3 => f_Audit_findPieces_b4 (f_Audit_findPieces_h4 n) μ v1 v2 v3
set_option maxHeartbeats 4000000 in
set_option maxRecDepth 100000 in
theorem z_Audit_findPieces_h4 {X : me_X} {B : me_B} {sz : Nat} (C : me_C X B RX0 cX0_findPieces 5 (some .int))  {r : me_M × Int32} (N : me_En X B sz (B, r.1, .ok (some (me_i r.2))) 2 47 0 0) (hNx : me_Nx X) (hB : me_St B)  : ∀ (n : Nat) (μ : me_M) (v1 : Nat) (v2 : Int32) (v3 : Int32), f_Audit_findPieces_h4 n μ v1 v2 v3 = some r → me_Z X B 0 0 μ 4 [(0, me_r 32 0), (1, me_r 8 v1), (2, me_i v2), (3, me_i v3)] [] := by
  intro n
  induction n with
  | zero => intro μ v1 v2 v3  h; exact absurd (show (none : Option (me_M × Int32)) = some r from h) (fun q => by cases q)
  | succ n ih => intro μ v1 v2 v3  h; exact z_Audit_findPieces_b4 C N hNx hB  (K4 := f_Audit_findPieces_h4 n) ih  h
def f_Audit_findPieces (μ : me_M) (v1 : Nat) : Option (me_M × Int32) :=
  f_Audit_findPieces_h4 me_FU μ v1 (0 : Int32) (0 : Int32)
set_option maxHeartbeats 4000000 in
set_option maxRecDepth 100000 in
theorem z_Audit_findPieces {X : me_X} {B : me_B} {sz : Nat} (C : me_C X B RX0 cX0_findPieces 5 (some .int)) {μ : me_M} {v1 : Nat}   {r : me_M × Int32} (N : me_En X B sz (B, r.1, .ok (some (me_i r.2))) 2 47 0 0) (hNx : me_Nx X) (hB : me_St B)   (hf : f_Audit_findPieces μ v1 = some r) : me_Z X B 0 0 μ 0 [(0, me_r 32 0), (1, me_r 8 v1)] [] := by
  unfold f_Audit_findPieces at hf
  refine me_iconst C (v := 0) dX0_findPieces_0 (by decide) ?_
  refine me_istore_n C 2 dX0_findPieces_1 rfl (by decide) (L' := [(2, me_i (0 : Int32)), (0, me_r 32 0), (1, me_r 8 v1)]) rfl ?_
  refine me_iconst C (v := 0) dX0_findPieces_2 (by decide) ?_
  refine me_istore_n C 3 dX0_findPieces_3 rfl (by decide) (L' := [(3, me_i (0 : Int32)), (2, me_i (0 : Int32)), (0, me_r 32 0), (1, me_r 8 v1)]) rfl ?_
  refine me_dropI [(0, me_r 32 0), (1, me_r 8 v1), (2, me_i (0 : Int32)), (3, me_i (0 : Int32))] [2, 3, 1, 0] rfl ?_
  exact z_Audit_findPieces_h4 C N hNx hB me_FU μ v1 (0 : Int32) (0 : Int32) hf
theorem c_Audit_findPieces {B : me_B} (hB : me_St B) {μ : me_M} {v1 : Nat} {μ' : me_M} {r : Int32}  (hf : f_Audit_findPieces μ v1 = some (μ', r)) : ∀ l E z, l.stackTraces = false → me_Met l yX0_findPieces cX0_findPieces 5 (some .int) 2 47 0 0 E B μ z [me_r 32 0, me_r 8 v1] (B, μ', .ok (some (me_i r))) :=
  fun _ _ _ hl => me_ofZ hl (by decide +kernel) (Nat.le_of_ble_eq_true rfl) (fun _ C N hNx => z_Audit_findPieces C N hNx hB  hf)

def f_Net_stepsBetween (μ : me_M) (v1 : Int32) (v2 : Int32) : Option Int32 :=
  me_gd (me_inb v1 16) (
  me_gd (me_inb v2 16) (
  me_gd (me_inb v1 16) (
  me_gd (me_inb v2 16) (
  some ((me_abs' ((μ 4 0 (me_ix v1)) - (μ 4 0 (me_ix v2)))) + (me_abs' ((μ 5 0 (me_ix v1)) - (μ 5 0 (me_ix v2)))))))))
set_option maxHeartbeats 4000000 in
set_option maxRecDepth 100000 in
theorem z_Net_stepsBetween {X : me_X} {B : me_B} {sz : Nat} (C : me_C X B RX3 cX3_stepsBetween 3 (some .int)) {μ : me_M} {v1 : Int32} {v2 : Int32}   {r : Int32} (N : me_En X B sz (B, μ, .ok (some (me_i r))) 1 24 0 0) (hNx : me_Nx X) (hB : me_St B)   (hf : f_Net_stepsBetween μ v1 v2 = some r) : me_Z X B 0 0 μ 0 [(0, me_r 1 0), (1, me_i v1), (2, me_i v2)] [] := by
  unfold f_Net_stepsBetween at hf
  refine me_aload_n C 0 (Or.inr (Or.inl ⟨_, rfl⟩)) dX3_stepsBetween_0 rfl rfl ?_
  refine me_getr C hB 2 (k' := 4) (i' := 0) fg_Net_19 dX3_stepsBetween_1 rfl rfl ?_
  refine me_iload_n C 1 dX3_stepsBetween_4 rfl rfl ?_
  obtain ⟨g1, hf⟩ := me_gs hf
  refine me_iald C rfl (fun _ => rfl) g1 dX3_stepsBetween_5 ?_
  refine me_aload_n C 0 (Or.inr (Or.inl ⟨_, rfl⟩)) dX3_stepsBetween_6 rfl rfl ?_
  refine me_getr C hB 2 (k' := 4) (i' := 0) fg_Net_19 dX3_stepsBetween_7 rfl rfl ?_
  refine me_iload_n C 2 dX3_stepsBetween_10 rfl rfl ?_
  obtain ⟨g2, hf⟩ := me_gs hf
  refine me_iald C rfl (fun _ => rfl) g2 dX3_stepsBetween_11 ?_
  refine me_isub C dX3_stepsBetween_12 ?_
  refine me_mabs C N bl_Net_37 dX3_stepsBetween_13 ⟨by decide, by decide⟩ (Nat.le_of_ble_eq_true rfl) (by decide) (by decide) ?_
  refine me_aload_n C 0 (Or.inr (Or.inl ⟨_, rfl⟩)) dX3_stepsBetween_16 rfl rfl ?_
  refine me_getr C hB 3 (k' := 5) (i' := 0) fg_Net_22 dX3_stepsBetween_17 rfl rfl ?_
  refine me_iload_n C 1 dX3_stepsBetween_20 rfl rfl ?_
  obtain ⟨g3, hf⟩ := me_gs hf
  refine me_iald C rfl (fun _ => rfl) g3 dX3_stepsBetween_21 ?_
  refine me_aload_n C 0 (Or.inr (Or.inl ⟨_, rfl⟩)) dX3_stepsBetween_22 rfl rfl ?_
  refine me_getr C hB 3 (k' := 5) (i' := 0) fg_Net_22 dX3_stepsBetween_23 rfl rfl ?_
  refine me_iload_n C 2 dX3_stepsBetween_26 rfl rfl ?_
  obtain ⟨g4, hf⟩ := me_gs hf
  refine me_iald C rfl (fun _ => rfl) g4 dX3_stepsBetween_27 ?_
  refine me_isub C dX3_stepsBetween_28 ?_
  refine me_mabs C N bl_Net_37 dX3_stepsBetween_29 ⟨by decide, by decide⟩ (Nat.le_of_ble_eq_true rfl) (by decide) (by decide) ?_
  refine me_iadd C dX3_stepsBetween_32 ?_
  exact me_iret C N dX3_stepsBetween_33 (me_nri _) (by cases hf; rfl) (by decide) (by decide)
theorem c_Net_stepsBetween {B : me_B} (hB : me_St B) {μ : me_M} {v1 : Int32} {v2 : Int32} {r : Int32}  (hf : f_Net_stepsBetween μ v1 v2 = some r) : ∀ l E z, l.stackTraces = false → me_Met l yX3_stepsBetween cX3_stepsBetween 3 (some .int) 1 24 0 0 E B μ z [me_r 1 0, me_i v1, me_i v2] (B, μ, .ok (some (me_i r))) :=
  fun _ _ _ hl => me_ofZ hl (by decide +kernel) (Nat.le_of_ble_eq_true rfl) (fun _ C N hNx => z_Net_stepsBetween C N hNx hB  hf)

def f_Audit_isBehind (μ : me_M) (v1 : Nat) (v2 : Int32) : Option Int32 :=
  me_lt ((v2 - (1 : Int32))) (fun x1 =>
  if x1 < 0 then
  (some (0 : Int32))
  else
  (me_gd (me_inb x1 5) (
  if (μ 33 0 (me_ix x1)) = (-1 : Int32) then
  (some (0 : Int32))
  else
  (me_gd (me_inb x1 5) (
  me_gd (me_inb v2 5) (
  if (μ 33 0 (me_ix x1)) = (μ 33 0 (me_ix v2)) then
  (me_gd (me_inb x1 5) (
  me_gd (me_inb v2 5) (
  if (μ 34 0 (me_ix x1)) = (μ 34 0 (me_ix v2)) then
  (me_gd (me_inb x1 5) (
  me_gd (me_inb v2 5) (
  if (μ 35 0 (me_ix v2)) ≤ (μ 35 0 (me_ix x1)) then
  (some (0 : Int32))
  else
  (some (1 : Int32)))))
  else
  (some (0 : Int32)))))
  else
  (me_gd (me_inb x1 5) (
  me_bd (f_Net_stepsBetween μ (μ 8 v1 3) (μ 33 0 (me_ix x1))) (fun r9 =>
  me_gd (me_inb v2 5) (
  me_bd (f_Net_stepsBetween μ (μ 8 v1 3) (μ 33 0 (me_ix v2))) (fun r11 =>
  if r9 ≤ r11 then
  (some (0 : Int32))
  else
  (some (1 : Int32)))))))))))))
set_option maxHeartbeats 4000000 in
set_option maxRecDepth 100000 in
theorem z_Audit_isBehind {X : me_X} {B : me_B} {sz : Nat} (C : me_C X B RX0 cX0_isBehind 5 (some .boolean)) {μ : me_M} {v1 : Nat} {v2 : Int32}   {r : Int32} (N : me_En X B sz (B, μ, .ok (some (me_i r))) 2 46 0 0) (hNx : me_Nx X) (hB : me_St B)   (hf : f_Audit_isBehind μ v1 v2 = some r) : me_Z X B 0 0 μ 0 [(0, me_r 32 0), (1, me_r 8 v1), (2, me_i v2)] [] := by
  unfold f_Audit_isBehind at hf
  refine me_iload_n C 2 dX0_isBehind_0 rfl rfl ?_
  refine me_iconst C (v := 1) dX0_isBehind_1 (by decide) ?_
  refine me_isub C dX0_isBehind_2 ?_
  obtain ⟨x1, e_x1, hf⟩ := me_lts hf
  refine me_nm e_x1 ?_
  refine me_istore_n C 3 dX0_isBehind_3 rfl (by decide) (L' := [(3, me_i x1), (0, me_r 32 0), (1, me_r 8 v1), (2, me_i v2)]) rfl ?_
  refine me_iload_n C 3 dX0_isBehind_4 rfl rfl ?_
  refine me_if_lt C (tgt := 18) dX0_isBehind_5 (by decide) (fun c2 => ?_) (fun c2 => ?_)
  · replace hf := me_ip c2 hf
    refine me_iconst C (v := 0) dX0_isBehind_18 (by decide) ?_
    exact me_iret C N dX0_isBehind_19 (by decide +kernel) (by cases hf; rfl) (by decide) (by decide)
  · replace hf := me_in c2 hf
    refine me_aload_n C 0 (Or.inr (Or.inl ⟨_, rfl⟩)) dX0_isBehind_8 rfl rfl ?_
    refine me_getr C hB 2 (k' := 33) (i' := 0) fg_Audit_9 dX0_isBehind_9 rfl rfl ?_
    refine me_iload_n C 3 dX0_isBehind_12 rfl rfl ?_
    obtain ⟨g3, hf⟩ := me_gs hf
    refine me_iald C rfl (fun _ => rfl) g3 dX0_isBehind_13 ?_
    refine me_iconst C (v := -1) dX0_isBehind_14 (by decide) ?_
    refine me_icmp_ne C (tgt := 20) dX0_isBehind_15 (by decide) (fun c4 => ?_) (fun c4 => ?_)
    · replace hf := me_in c4 hf
      refine me_aload_n C 0 (Or.inr (Or.inl ⟨_, rfl⟩)) dX0_isBehind_20 rfl rfl ?_
      refine me_getr C hB 2 (k' := 33) (i' := 0) fg_Audit_9 dX0_isBehind_21 rfl rfl ?_
      refine me_iload_n C 3 dX0_isBehind_24 rfl rfl ?_
      obtain ⟨g5, hf⟩ := me_gs hf
      refine me_iald C rfl (fun _ => rfl) g5 dX0_isBehind_25 ?_
      refine me_aload_n C 0 (Or.inr (Or.inl ⟨_, rfl⟩)) dX0_isBehind_26 rfl rfl ?_
      refine me_getr C hB 2 (k' := 33) (i' := 0) fg_Audit_9 dX0_isBehind_27 rfl rfl ?_
      refine me_iload_n C 2 dX0_isBehind_30 rfl rfl ?_
      obtain ⟨g6, hf⟩ := me_gs hf
      refine me_iald C rfl (fun _ => rfl) g6 dX0_isBehind_31 ?_
      refine me_icmp_ne C (tgt := 71) dX0_isBehind_32 (by decide) (fun c7 => ?_) (fun c7 => ?_)
      · replace hf := me_in c7 hf
        refine me_aload_n C 0 (Or.inr (Or.inl ⟨_, rfl⟩)) dX0_isBehind_71 rfl rfl ?_
        refine me_getr C hB 0 (k' := 1) (i' := 0) fg_Audit_21 dX0_isBehind_72 rfl rfl ?_
        refine me_aload_n C 1 (Or.inr (Or.inl ⟨_, rfl⟩)) dX0_isBehind_75 rfl rfl ?_
        refine me_geti C 3 fg_Audit_99 dX0_isBehind_76 rfl ?_
        refine me_aload_n C 0 (Or.inr (Or.inl ⟨_, rfl⟩)) dX0_isBehind_79 rfl rfl ?_
        refine me_getr C hB 2 (k' := 33) (i' := 0) fg_Audit_9 dX0_isBehind_80 rfl rfl ?_
        refine me_iload_n C 3 dX0_isBehind_83 rfl rfl ?_
        obtain ⟨g8, hf⟩ := me_gs hf
        refine me_iald C rfl (fun _ => rfl) g8 dX0_isBehind_84 ?_
        obtain ⟨r9, h_r9, hf⟩ := me_bs hf
        refine me_callV C N  (As := [me_i (μ 8 v1 3), me_i (μ 33 0 (me_ix x1))]) (st := []) 0 0 (c_Net_stepsBetween hB h_r9) mv_Net_stepsBetween ml_Audit_102 rfl rfl dX0_isBehind_85 rfl rfl ⟨by decide, by decide⟩ ⟨by decide, by decide, by decide, by decide⟩ (Nat.le_of_ble_eq_true rfl) ?_
        refine me_istore C dX0_isBehind_88 (by decide) (L' := [(4, me_i r9), (3, me_i x1), (0, me_r 32 0), (1, me_r 8 v1), (2, me_i v2)]) rfl ?_
        refine me_iload C dX0_isBehind_90 rfl ?_
        refine me_aload_n C 0 (Or.inr (Or.inl ⟨_, rfl⟩)) dX0_isBehind_92 rfl rfl ?_
        refine me_getr C hB 0 (k' := 1) (i' := 0) fg_Audit_21 dX0_isBehind_93 rfl rfl ?_
        refine me_aload_n C 1 (Or.inr (Or.inl ⟨_, rfl⟩)) dX0_isBehind_96 rfl rfl ?_
        refine me_geti C 3 fg_Audit_99 dX0_isBehind_97 rfl ?_
        refine me_aload_n C 0 (Or.inr (Or.inl ⟨_, rfl⟩)) dX0_isBehind_100 rfl rfl ?_
        refine me_getr C hB 2 (k' := 33) (i' := 0) fg_Audit_9 dX0_isBehind_101 rfl rfl ?_
        refine me_iload_n C 2 dX0_isBehind_104 rfl rfl ?_
        obtain ⟨g10, hf⟩ := me_gs hf
        refine me_iald C rfl (fun _ => rfl) g10 dX0_isBehind_105 ?_
        obtain ⟨r11, h_r11, hf⟩ := me_bs hf
        refine me_callV C N  (As := [me_i (μ 8 v1 3), me_i (μ 33 0 (me_ix v2))]) (st := [me_i r9]) 0 0 (c_Net_stepsBetween hB h_r11) mv_Net_stepsBetween ml_Audit_102 rfl rfl dX0_isBehind_106 rfl rfl ⟨by decide, by decide⟩ ⟨by decide, by decide, by decide, by decide⟩ (Nat.le_of_ble_eq_true rfl) ?_
        refine me_icmp_le C (tgt := 116) dX0_isBehind_109 (by decide) (fun c12 => ?_) (fun c12 => ?_)
        · replace hf := me_ip c12 hf
          refine me_iconst C (v := 0) dX0_isBehind_116 (by decide) ?_
          exact me_iret C N dX0_isBehind_117 (by decide +kernel) (by cases hf; rfl) (by decide) (by decide)
        · replace hf := me_in c12 hf
          refine me_iconst C (v := 1) dX0_isBehind_112 (by decide) ?_
          refine me_goto C (tgt := 117) dX0_isBehind_113 (by decide) ?_
          exact me_iret C N dX0_isBehind_117 (by decide +kernel) (by cases hf; rfl) (by decide) (by decide)
      · replace hf := me_ip c7 hf
        refine me_aload_n C 0 (Or.inr (Or.inl ⟨_, rfl⟩)) dX0_isBehind_35 rfl rfl ?_
        refine me_getr C hB 3 (k' := 34) (i' := 0) fg_Audit_15 dX0_isBehind_36 rfl rfl ?_
        refine me_iload_n C 3 dX0_isBehind_39 rfl rfl ?_
        obtain ⟨g13, hf⟩ := me_gs hf
        refine me_iald C rfl (fun _ => rfl) g13 dX0_isBehind_40 ?_
        refine me_aload_n C 0 (Or.inr (Or.inl ⟨_, rfl⟩)) dX0_isBehind_41 rfl rfl ?_
        refine me_getr C hB 3 (k' := 34) (i' := 0) fg_Audit_15 dX0_isBehind_42 rfl rfl ?_
        refine me_iload_n C 2 dX0_isBehind_45 rfl rfl ?_
        obtain ⟨g14, hf⟩ := me_gs hf
        refine me_iald C rfl (fun _ => rfl) g14 dX0_isBehind_46 ?_
        refine me_icmp_ne C (tgt := 69) dX0_isBehind_47 (by decide) (fun c15 => ?_) (fun c15 => ?_)
        · replace hf := me_in c15 hf
          refine me_iconst C (v := 0) dX0_isBehind_69 (by decide) ?_
          exact me_iret C N dX0_isBehind_70 (by decide +kernel) (by cases hf; rfl) (by decide) (by decide)
        · replace hf := me_ip c15 hf
          refine me_aload_n C 0 (Or.inr (Or.inl ⟨_, rfl⟩)) dX0_isBehind_50 rfl rfl ?_
          refine me_getr C hB 4 (k' := 35) (i' := 0) fg_Audit_18 dX0_isBehind_51 rfl rfl ?_
          refine me_iload_n C 3 dX0_isBehind_54 rfl rfl ?_
          obtain ⟨g16, hf⟩ := me_gs hf
          refine me_iald C rfl (fun _ => rfl) g16 dX0_isBehind_55 ?_
          refine me_aload_n C 0 (Or.inr (Or.inl ⟨_, rfl⟩)) dX0_isBehind_56 rfl rfl ?_
          refine me_getr C hB 4 (k' := 35) (i' := 0) fg_Audit_18 dX0_isBehind_57 rfl rfl ?_
          refine me_iload_n C 2 dX0_isBehind_60 rfl rfl ?_
          obtain ⟨g17, hf⟩ := me_gs hf
          refine me_iald C rfl (fun _ => rfl) g17 dX0_isBehind_61 ?_
          refine me_icmp_ge C (tgt := 69) dX0_isBehind_62 (by decide) (fun c18 => ?_) (fun c18 => ?_)
          · replace hf := me_ip c18 hf
            refine me_iconst C (v := 0) dX0_isBehind_69 (by decide) ?_
            exact me_iret C N dX0_isBehind_70 (by decide +kernel) (by cases hf; rfl) (by decide) (by decide)
          · replace hf := me_in c18 hf
            refine me_iconst C (v := 1) dX0_isBehind_65 (by decide) ?_
            refine me_goto C (tgt := 70) dX0_isBehind_66 (by decide) ?_
            exact me_iret C N dX0_isBehind_70 (by decide +kernel) (by cases hf; rfl) (by decide) (by decide)
    · replace hf := me_ip c4 hf
      refine me_iconst C (v := 0) dX0_isBehind_18 (by decide) ?_
      exact me_iret C N dX0_isBehind_19 (by decide +kernel) (by cases hf; rfl) (by decide) (by decide)
theorem c_Audit_isBehind {B : me_B} (hB : me_St B) {μ : me_M} {v1 : Nat} {v2 : Int32} {r : Int32}  (hf : f_Audit_isBehind μ v1 v2 = some r) : ∀ l E z, l.stackTraces = false → me_Met l yX0_isBehind cX0_isBehind 5 (some .boolean) 2 46 0 0 E B μ z [me_r 32 0, me_r 8 v1, me_i v2] (B, μ, .ok (some (me_i r))) :=
  fun _ _ _ hl => me_ofZ hl (by decide +kernel) (Nat.le_of_ble_eq_true rfl) (fun _ C N hNx => z_Audit_isBehind C N hNx hB  hf)

def f_Audit_packetIsSound_b96 (μ : me_M) (v1 : Nat) : Option (me_M × Int32) :=
  if (μ 8 v1 6) < (μ 8 v1 7) then
  (some (μ, (0 : Int32)))
  else
  (some (μ, (1 : Int32)))
set_option maxHeartbeats 4000000 in
set_option maxRecDepth 100000 in
theorem z_Audit_packetIsSound_b96 {X : me_X} {B : me_B} {sz : Nat} (C : me_C X B RX0 cX0_packetIsSound 3 (some .boolean)) {μ : me_M} {v1 : Nat}   {r : me_M × Int32} (N : me_En X B sz (B, r.1, .ok (some (me_i r.2))) 3 71 0 0) (hNx : me_Nx X) (hB : me_St B)   (hf : f_Audit_packetIsSound_b96 μ v1 = some r) : me_Z X B 0 0 μ 96 [(1, me_r 8 v1)] [] := by
  unfold f_Audit_packetIsSound_b96 at hf
  refine me_aload_n C 1 (Or.inr (Or.inl ⟨_, rfl⟩)) dX0_packetIsSound_96 rfl rfl ?_
  refine me_geti C 7 fg_Audit_65 dX0_packetIsSound_97 rfl ?_
  refine me_aload_n C 1 (Or.inr (Or.inl ⟨_, rfl⟩)) dX0_packetIsSound_100 rfl rfl ?_
  refine me_geti C 6 fg_Audit_83 dX0_packetIsSound_101 rfl ?_
  refine me_icmp_gt C (tgt := 111) dX0_packetIsSound_104 (by decide) (fun c1 => ?_) (fun c1 => ?_)
  · replace hf := me_ip c1 hf
    refine me_iconst C (v := 0) dX0_packetIsSound_111 (by decide) ?_
    exact me_iret C N dX0_packetIsSound_112 (by decide +kernel) (by cases hf; rfl) (by decide) (by decide)
  · replace hf := me_in c1 hf
    refine me_iconst C (v := 1) dX0_packetIsSound_107 (by decide) ?_
    refine me_goto C (tgt := 112) dX0_packetIsSound_108 (by decide) ?_
    exact me_iret C N dX0_packetIsSound_112 (by decide +kernel) (by cases hf; rfl) (by decide) (by decide)
def f_Audit_packetIsSound_b48 (K48 : me_M → Nat → Int32 → Option (me_M × Int32)) (μ : me_M) (v1 : Nat) (v2 : Int32) : Option (me_M × Int32) :=
  if (μ 8 v1 7) ≤ v2 then
  (f_Audit_packetIsSound_b96 μ v1)
  else
  (if (5 : Int32) ≤ v2 then
  (f_Audit_packetIsSound_b96 μ v1)
  else
  (me_gd (me_inb v2 5) (
  if (μ 33 0 (me_ix v2)) = (-1 : Int32) then
  (some (μ, (0 : Int32)))
  else
  (if v2 ≤ (μ 8 v1 8) then
  (me_lt (me_inc v2 (1)) (fun x6 =>
  K48 μ v1 x6))
  else
  (me_bd (f_Audit_isBehind μ v1 v2) (fun r7 =>
  if r7 = 0 then
  (some (μ, (0 : Int32)))
  else
  (me_lt (me_inc v2 (1)) (fun x9 =>
  K48 μ v1 x9))))))))
set_option maxHeartbeats 4000000 in
set_option maxRecDepth 100000 in
theorem z_Audit_packetIsSound_b48 {X : me_X} {B : me_B} {sz : Nat} (C : me_C X B RX0 cX0_packetIsSound 3 (some .boolean)) {μ : me_M} {v1 : Nat} {v2 : Int32}  {K48 : me_M → Nat → Int32 → Option (me_M × Int32)} {r : me_M × Int32} (N : me_En X B sz (B, r.1, .ok (some (me_i r.2))) 3 71 0 0) (hNx : me_Nx X) (hB : me_St B) (hK48 : ∀ (μ : me_M) (v1 : Nat) (v2 : Int32), K48 μ v1 v2 = some r → me_Z X B 0 0 μ 48 [(0, me_r 32 0), (1, me_r 8 v1), (2, me_i v2)] [])  (hf : f_Audit_packetIsSound_b48 K48 μ v1 v2 = some r) : me_Z X B 0 0 μ 48 [(0, me_r 32 0), (1, me_r 8 v1), (2, me_i v2)] [] := by
  unfold f_Audit_packetIsSound_b48 at hf
  refine me_iload_n C 2 dX0_packetIsSound_48 rfl rfl ?_
  refine me_aload_n C 1 (Or.inr (Or.inl ⟨_, rfl⟩)) dX0_packetIsSound_49 rfl rfl ?_
  refine me_geti C 7 fg_Audit_65 dX0_packetIsSound_50 rfl ?_
  refine me_icmp_ge C (tgt := 96) dX0_packetIsSound_53 (by decide) (fun c1 => ?_) (fun c1 => ?_)
  · replace hf := me_ip c1 hf
    refine me_dropI [(1, me_r 8 v1)] [1] rfl ?_
    exact z_Audit_packetIsSound_b96 C N hNx hB hf
  · replace hf := me_in c1 hf
    refine me_iload_n C 2 dX0_packetIsSound_56 rfl rfl ?_
    refine me_iconst C (v := 5) dX0_packetIsSound_57 (by decide) ?_
    refine me_icmp_ge C (tgt := 96) dX0_packetIsSound_58 (by decide) (fun c2 => ?_) (fun c2 => ?_)
    · replace hf := me_ip c2 hf
      refine me_dropI [(1, me_r 8 v1)] [1] rfl ?_
      exact z_Audit_packetIsSound_b96 C N hNx hB hf
    · replace hf := me_in c2 hf
      refine me_aload_n C 0 (Or.inr (Or.inl ⟨_, rfl⟩)) dX0_packetIsSound_61 rfl rfl ?_
      refine me_getr C hB 2 (k' := 33) (i' := 0) fg_Audit_9 dX0_packetIsSound_62 rfl rfl ?_
      refine me_iload_n C 2 dX0_packetIsSound_65 rfl rfl ?_
      obtain ⟨g3, hf⟩ := me_gs hf
      refine me_iald C rfl (fun _ => rfl) g3 dX0_packetIsSound_66 ?_
      refine me_iconst C (v := -1) dX0_packetIsSound_67 (by decide) ?_
      refine me_icmp_eq C (tgt := 88) dX0_packetIsSound_68 (by decide) (fun c4 => ?_) (fun c4 => ?_)
      · replace hf := me_ip c4 hf
        refine me_iconst C (v := 0) dX0_packetIsSound_88 (by decide) ?_
        exact me_iret C N dX0_packetIsSound_89 (by decide +kernel) (by cases hf; rfl) (by decide) (by decide)
      · replace hf := me_in c4 hf
        refine me_iload_n C 2 dX0_packetIsSound_71 rfl rfl ?_
        refine me_aload_n C 1 (Or.inr (Or.inl ⟨_, rfl⟩)) dX0_packetIsSound_72 rfl rfl ?_
        refine me_geti C 8 fg_Audit_70 dX0_packetIsSound_73 rfl ?_
        refine me_icmp_le C (tgt := 90) dX0_packetIsSound_76 (by decide) (fun c5 => ?_) (fun c5 => ?_)
        · replace hf := me_ip c5 hf
          obtain ⟨x6, e_x6, hf⟩ := me_lts hf
          refine me_iinc C (v := x6) (L' := [(2, me_i x6), (0, me_r 32 0), (1, me_r 8 v1)]) dX0_packetIsSound_90 rfl e_x6.symm (by decide) rfl ?_
          refine me_goto C (tgt := 48) dX0_packetIsSound_93 (by decide) ?_
          refine me_dropI [(0, me_r 32 0), (1, me_r 8 v1), (2, me_i x6)] [1, 2, 0] rfl ?_
          exact hK48 μ v1 x6 hf
        · replace hf := me_in c5 hf
          refine me_aload_n C 0 (Or.inr (Or.inl ⟨_, rfl⟩)) dX0_packetIsSound_79 rfl rfl ?_
          refine me_aload_n C 1 (Or.inr (Or.inl ⟨_, rfl⟩)) dX0_packetIsSound_80 rfl rfl ?_
          refine me_iload_n C 2 dX0_packetIsSound_81 rfl rfl ?_
          obtain ⟨r7, h_r7, hf⟩ := me_bs hf
          refine me_callV C N  (As := [me_r 8 v1, me_i v2]) (st := []) 0 0 (c_Audit_isBehind hB h_r7) mv_Audit_isBehind ml_Audit_79 rfl rfl dX0_packetIsSound_82 rfl rfl ⟨by decide, by decide⟩ ⟨by decide, by decide, by decide, by decide⟩ (Nat.le_of_ble_eq_true rfl) ?_
          refine me_if_ne C (tgt := 90) dX0_packetIsSound_85 (by decide) (fun c8 => ?_) (fun c8 => ?_)
          · replace hf := me_in c8 hf
            obtain ⟨x9, e_x9, hf⟩ := me_lts hf
            refine me_iinc C (v := x9) (L' := [(2, me_i x9), (0, me_r 32 0), (1, me_r 8 v1)]) dX0_packetIsSound_90 rfl e_x9.symm (by decide) rfl ?_
            refine me_goto C (tgt := 48) dX0_packetIsSound_93 (by decide) ?_
            refine me_dropI [(0, me_r 32 0), (1, me_r 8 v1), (2, me_i x9)] [1, 2, 0] rfl ?_
            exact hK48 μ v1 x9 hf
          · replace hf := me_ip c8 hf
            refine me_iconst C (v := 0) dX0_packetIsSound_88 (by decide) ?_
            exact me_iret C N dX0_packetIsSound_89 (by decide +kernel) (by cases hf; rfl) (by decide) (by decide)
def f_Audit_packetIsSound_h48  : Nat → me_M → Nat → Int32 → Option (me_M × Int32)
  | 0, _, _, _ => none
  | n + 1, μ, v1, v2 => f_Audit_packetIsSound_b48 (f_Audit_packetIsSound_h48 n) μ v1 v2
set_option maxHeartbeats 4000000 in
set_option maxRecDepth 100000 in
theorem z_Audit_packetIsSound_h48 {X : me_X} {B : me_B} {sz : Nat} (C : me_C X B RX0 cX0_packetIsSound 3 (some .boolean))  {r : me_M × Int32} (N : me_En X B sz (B, r.1, .ok (some (me_i r.2))) 3 71 0 0) (hNx : me_Nx X) (hB : me_St B)  : ∀ (n : Nat) (μ : me_M) (v1 : Nat) (v2 : Int32), f_Audit_packetIsSound_h48 n μ v1 v2 = some r → me_Z X B 0 0 μ 48 [(0, me_r 32 0), (1, me_r 8 v1), (2, me_i v2)] [] := by
  intro n
  induction n with
  | zero => intro μ v1 v2  h; exact absurd (show (none : Option (me_M × Int32)) = some r from h) (fun q => by cases q)
  | succ n ih => intro μ v1 v2  h; exact z_Audit_packetIsSound_b48 C N hNx hB  (K48 := f_Audit_packetIsSound_h48 n) ih  h
def f_Audit_packetIsSound_b2 (K2 : me_M → Nat → Int32 → Option (me_M × Int32)) (μ : me_M) (v1 : Nat) (v2 : Int32) : Option (me_M × Int32) :=
  if (5 : Int32) ≤ v2 then
  (me_b2 (f_Audit_findPieces μ v1) (fun μ3 r2 =>
  if r2 = ((μ3 8 v1 7) - (μ3 8 v1 8)) then
  (me_lt ((me_max' (0 : Int32) (μ3 8 v1 8))) (fun x5 =>
  f_Audit_packetIsSound_h48 me_FU μ3 v1 x5))
  else
  (some (μ3, (0 : Int32)))))
  else
  (me_gd (me_inb v2 5) (
  me_lt (me_up μ 33 0 (me_ix v2) (-1 : Int32)) (fun μ7 =>
  me_lt (me_inc v2 (1)) (fun x8 =>
  K2 μ7 v1 x8))))
set_option maxHeartbeats 4000000 in
set_option maxRecDepth 100000 in
theorem z_Audit_packetIsSound_b2 {X : me_X} {B : me_B} {sz : Nat} (C : me_C X B RX0 cX0_packetIsSound 3 (some .boolean)) {μ : me_M} {v1 : Nat} {v2 : Int32}  {K2 : me_M → Nat → Int32 → Option (me_M × Int32)} {r : me_M × Int32} (N : me_En X B sz (B, r.1, .ok (some (me_i r.2))) 3 71 0 0) (hNx : me_Nx X) (hB : me_St B) (hK2 : ∀ (μ : me_M) (v1 : Nat) (v2 : Int32), K2 μ v1 v2 = some r → me_Z X B 0 0 μ 2 [(0, me_r 32 0), (1, me_r 8 v1), (2, me_i v2)] [])  (hf : f_Audit_packetIsSound_b2 K2 μ v1 v2 = some r) : me_Z X B 0 0 μ 2 [(0, me_r 32 0), (1, me_r 8 v1), (2, me_i v2)] [] := by
  unfold f_Audit_packetIsSound_b2 at hf
  refine me_iload_n C 2 dX0_packetIsSound_2 rfl rfl ?_
  refine me_iconst C (v := 5) dX0_packetIsSound_3 (by decide) ?_
  refine me_icmp_ge C (tgt := 20) dX0_packetIsSound_4 (by decide) (fun c1 => ?_) (fun c1 => ?_)
  · replace hf := me_ip c1 hf
    refine me_aload_n C 0 (Or.inr (Or.inl ⟨_, rfl⟩)) dX0_packetIsSound_20 rfl rfl ?_
    refine me_aload_n C 1 (Or.inr (Or.inl ⟨_, rfl⟩)) dX0_packetIsSound_21 rfl rfl ?_
    obtain ⟨μ3, r2, h_r2, hf⟩ := me_bs2 hf
    refine me_callV C N  (As := [me_r 8 v1]) (st := []) 0 0 (c_Audit_findPieces hB h_r2) mv_Audit_findPieces ml_Audit_61 rfl rfl dX0_packetIsSound_22 rfl rfl ⟨by decide, by decide⟩ ⟨by decide, by decide, by decide, by decide⟩ (Nat.le_of_ble_eq_true rfl) ?_
    refine me_aload_n C 1 (Or.inr (Or.inl ⟨_, rfl⟩)) dX0_packetIsSound_25 rfl rfl ?_
    refine me_geti C 7 fg_Audit_65 dX0_packetIsSound_26 rfl ?_
    refine me_aload_n C 1 (Or.inr (Or.inl ⟨_, rfl⟩)) dX0_packetIsSound_29 rfl rfl ?_
    refine me_geti C 8 fg_Audit_70 dX0_packetIsSound_30 rfl ?_
    refine me_isub C dX0_packetIsSound_33 ?_
    refine me_icmp_eq C (tgt := 39) dX0_packetIsSound_34 (by decide) (fun c4 => ?_) (fun c4 => ?_)
    · replace hf := me_ip c4 hf
      refine me_iconst C (v := 0) dX0_packetIsSound_39 (by decide) ?_
      refine me_aload_n C 1 (Or.inr (Or.inl ⟨_, rfl⟩)) dX0_packetIsSound_40 rfl rfl ?_
      refine me_geti C 8 fg_Audit_70 dX0_packetIsSound_41 rfl ?_
      refine me_mmax C N bl_Audit_73 dX0_packetIsSound_44 ⟨by decide, by decide⟩ (Nat.le_of_ble_eq_true rfl) (by decide) (by decide) ?_
      obtain ⟨x5, e_x5, hf⟩ := me_lts hf
      refine me_nm e_x5 ?_
      refine me_istore_n C 2 dX0_packetIsSound_47 rfl (by decide) (L' := [(2, me_i x5), (0, me_r 32 0), (1, me_r 8 v1)]) rfl ?_
      refine me_dropI [(0, me_r 32 0), (1, me_r 8 v1), (2, me_i x5)] [1, 2, 0] rfl ?_
      exact z_Audit_packetIsSound_h48 C N hNx hB me_FU μ3 v1 x5 hf
    · replace hf := me_in c4 hf
      refine me_iconst C (v := 0) dX0_packetIsSound_37 (by decide) ?_
      exact me_iret C N dX0_packetIsSound_38 (by decide +kernel) (by cases hf; rfl) (by decide) (by decide)
  · replace hf := me_in c1 hf
    refine me_aload_n C 0 (Or.inr (Or.inl ⟨_, rfl⟩)) dX0_packetIsSound_7 rfl rfl ?_
    refine me_getr C hB 2 (k' := 33) (i' := 0) fg_Audit_9 dX0_packetIsSound_8 rfl rfl ?_
    refine me_iload_n C 2 dX0_packetIsSound_11 rfl rfl ?_
    refine me_iconst C (v := -1) dX0_packetIsSound_12 (by decide) ?_
    obtain ⟨g6, hf⟩ := me_gs hf
    obtain ⟨μ7, e_μ7, hf⟩ := me_lts hf
    refine me_iast C rfl (fun _ => rfl) g6 dX0_packetIsSound_13 e_μ7 ?_
    obtain ⟨x8, e_x8, hf⟩ := me_lts hf
    refine me_iinc C (v := x8) (L' := [(2, me_i x8), (0, me_r 32 0), (1, me_r 8 v1)]) dX0_packetIsSound_14 rfl e_x8.symm (by decide) rfl ?_
    refine me_goto C (tgt := 2) dX0_packetIsSound_17 (by decide) ?_
    refine me_dropI [(0, me_r 32 0), (1, me_r 8 v1), (2, me_i x8)] [1, 2, 0] rfl ?_
    exact hK2 μ7 v1 x8 hf
def f_Audit_packetIsSound_h2  : Nat → me_M → Nat → Int32 → Option (me_M × Int32)
  | 0, _, _, _ => none
  | n + 1, μ, v1, v2 => f_Audit_packetIsSound_b2 (f_Audit_packetIsSound_h2 n) μ v1 v2
set_option maxHeartbeats 4000000 in
set_option maxRecDepth 100000 in
theorem z_Audit_packetIsSound_h2 {X : me_X} {B : me_B} {sz : Nat} (C : me_C X B RX0 cX0_packetIsSound 3 (some .boolean))  {r : me_M × Int32} (N : me_En X B sz (B, r.1, .ok (some (me_i r.2))) 3 71 0 0) (hNx : me_Nx X) (hB : me_St B)  : ∀ (n : Nat) (μ : me_M) (v1 : Nat) (v2 : Int32), f_Audit_packetIsSound_h2 n μ v1 v2 = some r → me_Z X B 0 0 μ 2 [(0, me_r 32 0), (1, me_r 8 v1), (2, me_i v2)] [] := by
  intro n
  induction n with
  | zero => intro μ v1 v2  h; exact absurd (show (none : Option (me_M × Int32)) = some r from h) (fun q => by cases q)
  | succ n ih => intro μ v1 v2  h; exact z_Audit_packetIsSound_b2 C N hNx hB  (K2 := f_Audit_packetIsSound_h2 n) ih  h
def f_Audit_packetIsSound (μ : me_M) (v1 : Nat) : Option (me_M × Int32) :=
  f_Audit_packetIsSound_h2 me_FU μ v1 (0 : Int32)
set_option maxHeartbeats 4000000 in
set_option maxRecDepth 100000 in
theorem z_Audit_packetIsSound {X : me_X} {B : me_B} {sz : Nat} (C : me_C X B RX0 cX0_packetIsSound 3 (some .boolean)) {μ : me_M} {v1 : Nat}   {r : me_M × Int32} (N : me_En X B sz (B, r.1, .ok (some (me_i r.2))) 3 71 0 0) (hNx : me_Nx X) (hB : me_St B)   (hf : f_Audit_packetIsSound μ v1 = some r) : me_Z X B 0 0 μ 0 [(0, me_r 32 0), (1, me_r 8 v1)] [] := by
  unfold f_Audit_packetIsSound at hf
  refine me_iconst C (v := 0) dX0_packetIsSound_0 (by decide) ?_
  refine me_istore_n C 2 dX0_packetIsSound_1 rfl (by decide) (L' := [(2, me_i (0 : Int32)), (0, me_r 32 0), (1, me_r 8 v1)]) rfl ?_
  refine me_dropI [(0, me_r 32 0), (1, me_r 8 v1), (2, me_i (0 : Int32))] [1, 2, 0] rfl ?_
  exact z_Audit_packetIsSound_h2 C N hNx hB me_FU μ v1 (0 : Int32) hf
theorem c_Audit_packetIsSound {B : me_B} (hB : me_St B) {μ : me_M} {v1 : Nat} {μ' : me_M} {r : Int32}  (hf : f_Audit_packetIsSound μ v1 = some (μ', r)) : ∀ l E z, l.stackTraces = false → me_Met l yX0_packetIsSound cX0_packetIsSound 3 (some .boolean) 3 71 0 0 E B μ z [me_r 32 0, me_r 8 v1] (B, μ', .ok (some (me_i r))) :=
  fun _ _ _ hl => me_ofZ hl (by decide +kernel) (Nat.le_of_ble_eq_true rfl) (fun _ C N hNx => z_Audit_packetIsSound C N hNx hB  hf)

def f_Core_reset_b2 (K2 : me_M → Nat → Int32 → Option (me_M × Unit)) (μ : me_M) (v0 : Nat) (v1 : Int32) : Option (me_M × Unit) :=
  if (8 : Int32) ≤ v1 then
  (me_lt (me_up μ 22 v0 4 (0 : Int32)) (fun μ2 =>
  me_lt (me_up μ2 22 v0 5 (0 : Int32)) (fun μ3 =>
  me_lt (me_up μ3 22 v0 6 (0 : Int32)) (fun μ4 =>
  me_lt (me_up μ4 22 v0 7 (45 : Int32)) (fun μ5 =>
  me_lt (me_up μ5 22 v0 8 (45 : Int32)) (fun μ6 =>
  some (μ6, ())))))))
  else
  (me_gd (me_inb v1 8) (
  me_lt (me_up μ 23 v0 (me_ix v1) (0 : Int32)) (fun μ8 =>
  me_lt (me_inc v1 (1)) (fun x9 =>
  K2 μ8 v0 x9))))
set_option maxHeartbeats 4000000 in
set_option maxRecDepth 100000 in
theorem z_Core_reset_b2 {X : me_X} {B : me_B} {sz : Nat} (C : me_C X B RX1 cX1_reset 2 none) {μ : me_M} {v0 : Nat} {v1 : Int32}  {K2 : me_M → Nat → Int32 → Option (me_M × Unit)} {r : me_M × Unit} (N : me_En X B sz (B, r.1, .ok (none)) 0 0 0 0) (hNx : me_Nx X) (hB : me_St B) (hK2 : ∀ (μ : me_M) (v0 : Nat) (v1 : Int32), K2 μ v0 v1 = some r → me_Z X B 0 0 μ 2 [(0, me_r 22 v0), (1, me_i v1)] [])  (hf : f_Core_reset_b2 K2 μ v0 v1 = some r) : me_Z X B 0 0 μ 2 [(0, me_r 22 v0), (1, me_i v1)] [] := by
  unfold f_Core_reset_b2 at hf
  refine me_iload_n C 1 dX1_reset_2 rfl rfl ?_
  refine me_bipush C (v := 8) dX1_reset_3 (by decide) ?_
  refine me_icmp_ge C (tgt := 21) dX1_reset_5 (by decide) (fun c1 => ?_) (fun c1 => ?_)
  · replace hf := me_ip c1 hf
    refine me_aload_n C 0 (Or.inr (Or.inl ⟨_, rfl⟩)) dX1_reset_21 rfl rfl ?_
    refine me_iconst C (v := 0) dX1_reset_22 (by decide) ?_
    obtain ⟨μ2, e_μ2, hf⟩ := me_lts hf
    refine me_puti C 4 fw_Core_25 dX1_reset_23 rfl (me_nri _) e_μ2 ?_
    refine me_aload_n C 0 (Or.inr (Or.inl ⟨_, rfl⟩)) dX1_reset_26 rfl rfl ?_
    refine me_iconst C (v := 0) dX1_reset_27 (by decide) ?_
    obtain ⟨μ3, e_μ3, hf⟩ := me_lts hf
    refine me_puti C 5 fw_Core_29 dX1_reset_28 rfl (me_nri _) e_μ3 ?_
    refine me_aload_n C 0 (Or.inr (Or.inl ⟨_, rfl⟩)) dX1_reset_31 rfl rfl ?_
    refine me_iconst C (v := 0) dX1_reset_32 (by decide) ?_
    obtain ⟨μ4, e_μ4, hf⟩ := me_lts hf
    refine me_puti C 6 fw_Core_32 dX1_reset_33 rfl (me_nri _) e_μ4 ?_
    refine me_aload_n C 0 (Or.inr (Or.inl ⟨_, rfl⟩)) dX1_reset_36 rfl rfl ?_
    refine me_bipush C (v := 45) dX1_reset_37 (by decide) ?_
    obtain ⟨μ5, e_μ5, hf⟩ := me_lts hf
    refine me_puti C 7 fw_Core_35 dX1_reset_39 rfl (by decide +kernel) e_μ5 ?_
    refine me_aload_n C 0 (Or.inr (Or.inl ⟨_, rfl⟩)) dX1_reset_42 rfl rfl ?_
    refine me_bipush C (v := 45) dX1_reset_43 (by decide) ?_
    obtain ⟨μ6, e_μ6, hf⟩ := me_lts hf
    refine me_puti C 8 fw_Core_39 dX1_reset_45 rfl (by decide +kernel) e_μ6 ?_
    exact me_vret C N dX1_reset_48 (by cases hf; rfl) (by decide) (by decide)
  · replace hf := me_in c1 hf
    refine me_aload_n C 0 (Or.inr (Or.inl ⟨_, rfl⟩)) dX1_reset_8 rfl rfl ?_
    refine me_getr C hB 0 (k' := 23) (i' := v0) fg_Core_9 dX1_reset_9 rfl rfl ?_
    refine me_iload_n C 1 dX1_reset_12 rfl rfl ?_
    refine me_iconst C (v := 0) dX1_reset_13 (by decide) ?_
    obtain ⟨g7, hf⟩ := me_gs hf
    obtain ⟨μ8, e_μ8, hf⟩ := me_lts hf
    refine me_iast C rfl (fun _ => rfl) g7 dX1_reset_14 e_μ8 ?_
    obtain ⟨x9, e_x9, hf⟩ := me_lts hf
    refine me_iinc C (v := x9) (L' := [(1, me_i x9), (0, me_r 22 v0)]) dX1_reset_15 rfl e_x9.symm (by decide) rfl ?_
    refine me_goto C (tgt := 2) dX1_reset_18 (by decide) ?_
    refine me_dropI [(0, me_r 22 v0), (1, me_i x9)] [1, 0] rfl ?_
    exact hK2 μ8 v0 x9 hf
def f_Core_reset_h2  : Nat → me_M → Nat → Int32 → Option (me_M × Unit)
  | 0, _, _, _ => none
  | n + 1, μ, v0, v1 => f_Core_reset_b2 (f_Core_reset_h2 n) μ v0 v1
set_option maxHeartbeats 4000000 in
set_option maxRecDepth 100000 in
theorem z_Core_reset_h2 {X : me_X} {B : me_B} {sz : Nat} (C : me_C X B RX1 cX1_reset 2 none)  {r : me_M × Unit} (N : me_En X B sz (B, r.1, .ok (none)) 0 0 0 0) (hNx : me_Nx X) (hB : me_St B)  : ∀ (n : Nat) (μ : me_M) (v0 : Nat) (v1 : Int32), f_Core_reset_h2 n μ v0 v1 = some r → me_Z X B 0 0 μ 2 [(0, me_r 22 v0), (1, me_i v1)] [] := by
  intro n
  induction n with
  | zero => intro μ v0 v1  h; exact absurd (show (none : Option (me_M × Unit)) = some r from h) (fun q => by cases q)
  | succ n ih => intro μ v0 v1  h; exact z_Core_reset_b2 C N hNx hB  (K2 := f_Core_reset_h2 n) ih  h
def f_Core_reset (μ : me_M) (v0 : Nat) : Option (me_M × Unit) :=
  f_Core_reset_h2 me_FU μ v0 (0 : Int32)
set_option maxHeartbeats 4000000 in
set_option maxRecDepth 100000 in
theorem z_Core_reset {X : me_X} {B : me_B} {sz : Nat} (C : me_C X B RX1 cX1_reset 2 none) {μ : me_M} {v0 : Nat}   {r : me_M × Unit} (N : me_En X B sz (B, r.1, .ok (none)) 0 0 0 0) (hNx : me_Nx X) (hB : me_St B)   (hf : f_Core_reset μ v0 = some r) : me_Z X B 0 0 μ 0 [(0, me_r 22 v0)] [] := by
  unfold f_Core_reset at hf
  refine me_iconst C (v := 0) dX1_reset_0 (by decide) ?_
  refine me_istore_n C 1 dX1_reset_1 rfl (by decide) (L' := [(1, me_i (0 : Int32)), (0, me_r 22 v0)]) rfl ?_
  refine me_dropI [(0, me_r 22 v0), (1, me_i (0 : Int32))] [1, 0] rfl ?_
  exact z_Core_reset_h2 C N hNx hB me_FU μ v0 (0 : Int32) hf
theorem c_Core_reset {B : me_B} (hB : me_St B) {μ : me_M} {v0 : Nat} {μ' : me_M} {r : Unit}  (hf : f_Core_reset μ v0 = some (μ', r)) : ∀ l E z, l.stackTraces = false → me_Met l yX1_reset cX1_reset 2 none 0 0 0 0 E B μ z [me_r 22 v0] (B, μ', .ok (none)) :=
  fun _ _ _ hl => me_ofZ hl (by decide +kernel) (Nat.le_of_ble_eq_true rfl) (fun _ C N hNx => z_Core_reset C N hNx hB  hf)

def f_Core_isActive_b18 (μ : me_M) : Option Int32 :=
  some (1 : Int32)
set_option maxHeartbeats 4000000 in
set_option maxRecDepth 100000 in
theorem z_Core_isActive_b18 {X : me_X} {B : me_B} {sz : Nat} (C : me_C X B RX1 cX1_isActive 1 (some .boolean)) {μ : me_M}    {r : Int32} (N : me_En X B sz (B, μ, .ok (some (me_i r))) 0 0 0 0) (hNx : me_Nx X) (hB : me_St B)   (hf : f_Core_isActive_b18 μ = some r) : me_Z X B 0 0 μ 18 [] [] := by
  unfold f_Core_isActive_b18 at hf
  refine me_iconst C (v := 1) dX1_isActive_18 (by decide) ?_
  refine me_goto C (tgt := 23) dX1_isActive_19 (by decide) ?_
  exact me_iret C N dX1_isActive_23 (by decide +kernel) (by cases hf; rfl) (by decide) (by decide)
def f_Core_isActive (μ : me_M) (v0 : Nat) : Option Int32 :=
  if (μ 22 v0 7) = (114 : Int32) then
  (f_Core_isActive_b18 μ)
  else
  (if (μ 22 v0 7) = (119 : Int32) then
  (f_Core_isActive_b18 μ)
  else
  (some (0 : Int32)))
set_option maxHeartbeats 4000000 in
set_option maxRecDepth 100000 in
theorem z_Core_isActive {X : me_X} {B : me_B} {sz : Nat} (C : me_C X B RX1 cX1_isActive 1 (some .boolean)) {μ : me_M} {v0 : Nat}   {r : Int32} (N : me_En X B sz (B, μ, .ok (some (me_i r))) 0 0 0 0) (hNx : me_Nx X) (hB : me_St B)   (hf : f_Core_isActive μ v0 = some r) : me_Z X B 0 0 μ 0 [(0, me_r 22 v0)] [] := by
  unfold f_Core_isActive at hf
  refine me_aload_n C 0 (Or.inr (Or.inl ⟨_, rfl⟩)) dX1_isActive_0 rfl rfl ?_
  refine me_geti C 7 fg_Core_35 dX1_isActive_1 rfl ?_
  refine me_bipush C (v := 114) dX1_isActive_4 (by decide) ?_
  refine me_icmp_eq C (tgt := 18) dX1_isActive_6 (by decide) (fun c1 => ?_) (fun c1 => ?_)
  · replace hf := me_ip c1 hf
    refine me_dropI [] [] rfl ?_
    exact z_Core_isActive_b18 C N hNx hB hf
  · replace hf := me_in c1 hf
    refine me_aload_n C 0 (Or.inr (Or.inl ⟨_, rfl⟩)) dX1_isActive_9 rfl rfl ?_
    refine me_geti C 7 fg_Core_35 dX1_isActive_10 rfl ?_
    refine me_bipush C (v := 119) dX1_isActive_13 (by decide) ?_
    refine me_icmp_ne C (tgt := 22) dX1_isActive_15 (by decide) (fun c2 => ?_) (fun c2 => ?_)
    · replace hf := me_in c2 hf
      refine me_iconst C (v := 0) dX1_isActive_22 (by decide) ?_
      exact me_iret C N dX1_isActive_23 (by decide +kernel) (by cases hf; rfl) (by decide) (by decide)
    · replace hf := me_ip c2 hf
      refine me_dropI [] [] rfl ?_
      exact z_Core_isActive_b18 C N hNx hB hf
theorem c_Core_isActive {B : me_B} (hB : me_St B) {μ : me_M} {v0 : Nat} {r : Int32}  (hf : f_Core_isActive μ v0 = some r) : ∀ l E z, l.stackTraces = false → me_Met l yX1_isActive cX1_isActive 1 (some .boolean) 0 0 0 0 E B μ z [me_r 22 v0] (B, μ, .ok (some (me_i r))) :=
  fun _ _ _ hl => me_ofZ hl (by decide +kernel) (Nat.le_of_ble_eq_true rfl) (fun _ C N hNx => z_Core_isActive C N hNx hB  hf)

def f_Core_isBusy_b16 (μ : me_M) : Option Int32 :=
  some (1 : Int32)
set_option maxHeartbeats 4000000 in
set_option maxRecDepth 100000 in
theorem z_Core_isBusy_b16 {X : me_X} {B : me_B} {sz : Nat} (C : me_C X B RX1 cX1_isBusy 1 (some .boolean)) {μ : me_M}    {r : Int32} (N : me_En X B sz (B, μ, .ok (some (me_i r))) 1 20 0 0) (hNx : me_Nx X) (hB : me_St B)   (hf : f_Core_isBusy_b16 μ = some r) : me_Z X B 0 0 μ 16 [] [] := by
  unfold f_Core_isBusy_b16 at hf
  refine me_iconst C (v := 1) dX1_isBusy_16 (by decide) ?_
  refine me_goto C (tgt := 21) dX1_isBusy_17 (by decide) ?_
  exact me_iret C N dX1_isBusy_21 (by decide +kernel) (by cases hf; rfl) (by decide) (by decide)
def f_Core_isBusy (μ : me_M) (v0 : Nat) : Option Int32 :=
  me_bd (f_Core_isActive μ v0) (fun r1 =>
  if r1 = 0 then
  (if (μ 22 v0 7) = (98 : Int32) then
  (f_Core_isBusy_b16 μ)
  else
  (some (0 : Int32)))
  else
  (f_Core_isBusy_b16 μ))
set_option maxHeartbeats 4000000 in
set_option maxRecDepth 100000 in
theorem z_Core_isBusy {X : me_X} {B : me_B} {sz : Nat} (C : me_C X B RX1 cX1_isBusy 1 (some .boolean)) {μ : me_M} {v0 : Nat}   {r : Int32} (N : me_En X B sz (B, μ, .ok (some (me_i r))) 1 20 0 0) (hNx : me_Nx X) (hB : me_St B)   (hf : f_Core_isBusy μ v0 = some r) : me_Z X B 0 0 μ 0 [(0, me_r 22 v0)] [] := by
  unfold f_Core_isBusy at hf
  refine me_aload_n C 0 (Or.inr (Or.inl ⟨_, rfl⟩)) dX1_isBusy_0 rfl rfl ?_
  obtain ⟨r1, h_r1, hf⟩ := me_bs hf
  refine me_callV C N  (As := []) (st := []) 0 0 (c_Core_isActive hB h_r1) mv_Core_isActive ml_Core_42 rfl rfl dX1_isBusy_1 rfl rfl ⟨by decide, by decide⟩ ⟨by decide, by decide, by decide, by decide⟩ (Nat.le_of_ble_eq_true rfl) ?_
  refine me_if_ne C (tgt := 16) dX1_isBusy_4 (by decide) (fun c2 => ?_) (fun c2 => ?_)
  · replace hf := me_in c2 hf
    refine me_dropI [] [] rfl ?_
    exact z_Core_isBusy_b16 C N hNx hB hf
  · replace hf := me_ip c2 hf
    refine me_aload_n C 0 (Or.inr (Or.inl ⟨_, rfl⟩)) dX1_isBusy_7 rfl rfl ?_
    refine me_geti C 7 fg_Core_35 dX1_isBusy_8 rfl ?_
    refine me_bipush C (v := 98) dX1_isBusy_11 (by decide) ?_
    refine me_icmp_ne C (tgt := 20) dX1_isBusy_13 (by decide) (fun c3 => ?_) (fun c3 => ?_)
    · replace hf := me_in c3 hf
      refine me_iconst C (v := 0) dX1_isBusy_20 (by decide) ?_
      exact me_iret C N dX1_isBusy_21 (by decide +kernel) (by cases hf; rfl) (by decide) (by decide)
    · replace hf := me_ip c3 hf
      refine me_dropI [] [] rfl ?_
      exact z_Core_isBusy_b16 C N hNx hB hf
theorem c_Core_isBusy {B : me_B} (hB : me_St B) {μ : me_M} {v0 : Nat} {r : Int32}  (hf : f_Core_isBusy μ v0 = some r) : ∀ l E z, l.stackTraces = false → me_Met l yX1_isBusy cX1_isBusy 1 (some .boolean) 1 20 0 0 E B μ z [me_r 22 v0] (B, μ, .ok (some (me_i r))) :=
  fun _ _ _ hl => me_ofZ hl (by decide +kernel) (Nat.le_of_ble_eq_true rfl) (fun _ C N hNx => z_Core_isBusy C N hNx hB  hf)

def f_Core_hasInstruction (μ : me_M) (v0 : Nat) : Option Int32 :=
  if (μ 22 v0 6) < 0 then
  (some (0 : Int32))
  else
  (if (μ 22 v0 5) ≤ (μ 22 v0 6) then
  (some (0 : Int32))
  else
  (if (12 : Int32) ≤ (μ 22 v0 6) then
  (some (0 : Int32))
  else
  (some (1 : Int32))))
set_option maxHeartbeats 4000000 in
set_option maxRecDepth 100000 in
theorem z_Core_hasInstruction {X : me_X} {B : me_B} {sz : Nat} (C : me_C X B RX1 cX1_hasInstruction 1 (some .boolean)) {μ : me_M} {v0 : Nat}   {r : Int32} (N : me_En X B sz (B, μ, .ok (some (me_i r))) 0 0 0 0) (hNx : me_Nx X) (hB : me_St B)   (hf : f_Core_hasInstruction μ v0 = some r) : me_Z X B 0 0 μ 0 [(0, me_r 22 v0)] [] := by
  unfold f_Core_hasInstruction at hf
  refine me_aload_n C 0 (Or.inr (Or.inl ⟨_, rfl⟩)) dX1_hasInstruction_0 rfl rfl ?_
  refine me_geti C 6 fg_Core_32 dX1_hasInstruction_1 rfl ?_
  refine me_if_lt C (tgt := 31) dX1_hasInstruction_4 (by decide) (fun c1 => ?_) (fun c1 => ?_)
  · replace hf := me_ip c1 hf
    refine me_iconst C (v := 0) dX1_hasInstruction_31 (by decide) ?_
    exact me_iret C N dX1_hasInstruction_32 (by decide +kernel) (by cases hf; rfl) (by decide) (by decide)
  · replace hf := me_in c1 hf
    refine me_aload_n C 0 (Or.inr (Or.inl ⟨_, rfl⟩)) dX1_hasInstruction_7 rfl rfl ?_
    refine me_geti C 6 fg_Core_32 dX1_hasInstruction_8 rfl ?_
    refine me_aload_n C 0 (Or.inr (Or.inl ⟨_, rfl⟩)) dX1_hasInstruction_11 rfl rfl ?_
    refine me_geti C 5 fg_Core_29 dX1_hasInstruction_12 rfl ?_
    refine me_icmp_ge C (tgt := 31) dX1_hasInstruction_15 (by decide) (fun c2 => ?_) (fun c2 => ?_)
    · replace hf := me_ip c2 hf
      refine me_iconst C (v := 0) dX1_hasInstruction_31 (by decide) ?_
      exact me_iret C N dX1_hasInstruction_32 (by decide +kernel) (by cases hf; rfl) (by decide) (by decide)
    · replace hf := me_in c2 hf
      refine me_aload_n C 0 (Or.inr (Or.inl ⟨_, rfl⟩)) dX1_hasInstruction_18 rfl rfl ?_
      refine me_geti C 6 fg_Core_32 dX1_hasInstruction_19 rfl ?_
      refine me_bipush C (v := 12) dX1_hasInstruction_22 (by decide) ?_
      refine me_icmp_ge C (tgt := 31) dX1_hasInstruction_24 (by decide) (fun c3 => ?_) (fun c3 => ?_)
      · replace hf := me_ip c3 hf
        refine me_iconst C (v := 0) dX1_hasInstruction_31 (by decide) ?_
        exact me_iret C N dX1_hasInstruction_32 (by decide +kernel) (by cases hf; rfl) (by decide) (by decide)
      · replace hf := me_in c3 hf
        refine me_iconst C (v := 1) dX1_hasInstruction_27 (by decide) ?_
        refine me_goto C (tgt := 32) dX1_hasInstruction_28 (by decide) ?_
        exact me_iret C N dX1_hasInstruction_32 (by decide +kernel) (by cases hf; rfl) (by decide) (by decide)
theorem c_Core_hasInstruction {B : me_B} (hB : me_St B) {μ : me_M} {v0 : Nat} {r : Int32}  (hf : f_Core_hasInstruction μ v0 = some r) : ∀ l E z, l.stackTraces = false → me_Met l yX1_hasInstruction cX1_hasInstruction 1 (some .boolean) 0 0 0 0 E B μ z [me_r 22 v0] (B, μ, .ok (some (me_i r))) :=
  fun _ _ _ hl => me_ofZ hl (by decide +kernel) (Nat.le_of_ble_eq_true rfl) (fun _ C N hNx => z_Core_hasInstruction C N hNx hB  hf)

def f_Core_stopBy (μ : me_M) (v0 : Nat) (v1 : Int32) : Option (me_M × Unit) :=
  me_lt (me_up μ 22 v0 7 (120 : Int32)) (fun μ1 =>
  me_gd (me_nr .char v1) (
  me_lt (me_up μ1 22 v0 8 v1) (fun μ3 =>
  some (μ3, ()))))
set_option maxHeartbeats 4000000 in
set_option maxRecDepth 100000 in
theorem z_Core_stopBy {X : me_X} {B : me_B} {sz : Nat} (C : me_C X B RX1 cX1_stopBy 2 none) {μ : me_M} {v0 : Nat} {v1 : Int32}   {r : me_M × Unit} (N : me_En X B sz (B, r.1, .ok (none)) 0 0 0 0) (hNx : me_Nx X) (hB : me_St B)   (hf : f_Core_stopBy μ v0 v1 = some r) : me_Z X B 0 0 μ 0 [(0, me_r 22 v0), (1, me_i v1)] [] := by
  unfold f_Core_stopBy at hf
  refine me_aload_n C 0 (Or.inr (Or.inl ⟨_, rfl⟩)) dX1_stopBy_0 rfl rfl ?_
  refine me_bipush C (v := 120) dX1_stopBy_1 (by decide) ?_
  obtain ⟨μ1, e_μ1, hf⟩ := me_lts hf
  refine me_puti C 7 fw_Core_35 dX1_stopBy_3 rfl (by decide +kernel) e_μ1 ?_
  refine me_aload_n C 0 (Or.inr (Or.inl ⟨_, rfl⟩)) dX1_stopBy_6 rfl rfl ?_
  refine me_iload_n C 1 dX1_stopBy_7 rfl rfl ?_
  obtain ⟨g2, hf⟩ := me_gs hf
  obtain ⟨μ3, e_μ3, hf⟩ := me_lts hf
  refine me_puti C 8 fw_Core_39 dX1_stopBy_8 rfl g2 e_μ3 ?_
  exact me_vret C N dX1_stopBy_11 (by cases hf; rfl) (by decide) (by decide)
theorem c_Core_stopBy {B : me_B} (hB : me_St B) {μ : me_M} {v0 : Nat} {v1 : Int32} {μ' : me_M} {r : Unit}  (hf : f_Core_stopBy μ v0 v1 = some (μ', r)) : ∀ l E z, l.stackTraces = false → me_Met l yX1_stopBy cX1_stopBy 2 none 0 0 0 0 E B μ z [me_r 22 v0, me_i v1] (B, μ', .ok (none)) :=
  fun _ _ _ hl => me_ofZ hl (by decide +kernel) (Nat.le_of_ble_eq_true rfl) (fun _ C N hNx => z_Core_stopBy C N hNx hB  hf)

def f_Core_canPop_b14 (μ : me_M) (v0 : Nat) (v1 : Int32) : Option (me_M × Int32) :=
  if (μ 22 v0 4) < v1 then
  (some (μ, (0 : Int32)))
  else
  (if (6 : Int32) < (μ 22 v0 4) then
  (some (μ, (0 : Int32)))
  else
  (some (μ, (1 : Int32))))
set_option maxHeartbeats 4000000 in
set_option maxRecDepth 100000 in
theorem z_Core_canPop_b14 {X : me_X} {B : me_B} {sz : Nat} (C : me_C X B RX1 cX1_canPop 2 (some .boolean)) {μ : me_M} {v0 : Nat} {v1 : Int32}   {r : me_M × Int32} (N : me_En X B sz (B, r.1, .ok (some (me_i r.2))) 1 21 0 0) (hNx : me_Nx X) (hB : me_St B)   (hf : f_Core_canPop_b14 μ v0 v1 = some r) : me_Z X B 0 0 μ 14 [(0, me_r 22 v0), (1, me_i v1)] [] := by
  unfold f_Core_canPop_b14 at hf
  refine me_aload_n C 0 (Or.inr (Or.inl ⟨_, rfl⟩)) dX1_canPop_14 rfl rfl ?_
  refine me_geti C 4 fg_Core_25 dX1_canPop_15 rfl ?_
  refine me_iload_n C 1 dX1_canPop_18 rfl rfl ?_
  refine me_icmp_lt C (tgt := 35) dX1_canPop_19 (by decide) (fun c1 => ?_) (fun c1 => ?_)
  · replace hf := me_ip c1 hf
    refine me_iconst C (v := 0) dX1_canPop_35 (by decide) ?_
    exact me_iret C N dX1_canPop_36 (by decide +kernel) (by cases hf; rfl) (by decide) (by decide)
  · replace hf := me_in c1 hf
    refine me_aload_n C 0 (Or.inr (Or.inl ⟨_, rfl⟩)) dX1_canPop_22 rfl rfl ?_
    refine me_geti C 4 fg_Core_25 dX1_canPop_23 rfl ?_
    refine me_bipush C (v := 6) dX1_canPop_26 (by decide) ?_
    refine me_icmp_gt C (tgt := 35) dX1_canPop_28 (by decide) (fun c2 => ?_) (fun c2 => ?_)
    · replace hf := me_ip c2 hf
      refine me_iconst C (v := 0) dX1_canPop_35 (by decide) ?_
      exact me_iret C N dX1_canPop_36 (by decide +kernel) (by cases hf; rfl) (by decide) (by decide)
    · replace hf := me_in c2 hf
      refine me_iconst C (v := 1) dX1_canPop_31 (by decide) ?_
      refine me_goto C (tgt := 36) dX1_canPop_32 (by decide) ?_
      exact me_iret C N dX1_canPop_36 (by decide +kernel) (by cases hf; rfl) (by decide) (by decide)
def f_Core_canPop (μ : me_M) (v0 : Nat) (v1 : Int32) : Option (me_M × Int32) :=
  if v1 ≤ (μ 22 v0 4) then
  (f_Core_canPop_b14 μ v0 v1)
  else
  (me_b2 (f_Core_stopBy μ v0 (117 : Int32)) (fun μ3 r2 =>
  f_Core_canPop_b14 μ3 v0 v1))
set_option maxHeartbeats 4000000 in
set_option maxRecDepth 100000 in
theorem z_Core_canPop {X : me_X} {B : me_B} {sz : Nat} (C : me_C X B RX1 cX1_canPop 2 (some .boolean)) {μ : me_M} {v0 : Nat} {v1 : Int32}   {r : me_M × Int32} (N : me_En X B sz (B, r.1, .ok (some (me_i r.2))) 1 21 0 0) (hNx : me_Nx X) (hB : me_St B)   (hf : f_Core_canPop μ v0 v1 = some r) : me_Z X B 0 0 μ 0 [(0, me_r 22 v0), (1, me_i v1)] [] := by
  unfold f_Core_canPop at hf
  refine me_aload_n C 0 (Or.inr (Or.inl ⟨_, rfl⟩)) dX1_canPop_0 rfl rfl ?_
  refine me_geti C 4 fg_Core_25 dX1_canPop_1 rfl ?_
  refine me_iload_n C 1 dX1_canPop_4 rfl rfl ?_
  refine me_icmp_ge C (tgt := 14) dX1_canPop_5 (by decide) (fun c1 => ?_) (fun c1 => ?_)
  · replace hf := me_ip c1 hf
    refine me_dropI [(0, me_r 22 v0), (1, me_i v1)] [0, 1] rfl ?_
    exact z_Core_canPop_b14 C N hNx hB hf
  · replace hf := me_in c1 hf
    refine me_aload_n C 0 (Or.inr (Or.inl ⟨_, rfl⟩)) dX1_canPop_8 rfl rfl ?_
    refine me_bipush C (v := 117) dX1_canPop_9 (by decide) ?_
    obtain ⟨μ3, r2, h_r2, hf⟩ := me_bs2 hf
    refine me_callV0 C N  (As := [me_i (117 : Int32)]) (st := []) 0 0 (c_Core_stopBy hB h_r2) mv_Core_stopBy ml_Core_46 rfl rfl dX1_canPop_11 rfl rfl ⟨by decide, by decide⟩ ⟨by decide, by decide, by decide, by decide⟩ (Nat.le_of_ble_eq_true rfl) ?_
    refine me_dropI [(0, me_r 22 v0), (1, me_i v1)] [0, 1] rfl ?_
    exact z_Core_canPop_b14 C N hNx hB hf
theorem c_Core_canPop {B : me_B} (hB : me_St B) {μ : me_M} {v0 : Nat} {v1 : Int32} {μ' : me_M} {r : Int32}  (hf : f_Core_canPop μ v0 v1 = some (μ', r)) : ∀ l E z, l.stackTraces = false → me_Met l yX1_canPop cX1_canPop 2 (some .boolean) 1 21 0 0 E B μ z [me_r 22 v0, me_i v1] (B, μ', .ok (some (me_i r))) :=
  fun _ _ _ hl => me_ofZ hl (by decide +kernel) (Nat.le_of_ble_eq_true rfl) (fun _ C N hNx => z_Core_canPop C N hNx hB  hf)

def f_Core_isFull (μ : me_M) (v0 : Nat) : Option Int32 :=
  if (μ 22 v0 4) < (6 : Int32) then
  (some (0 : Int32))
  else
  (some (1 : Int32))
set_option maxHeartbeats 4000000 in
set_option maxRecDepth 100000 in
theorem z_Core_isFull {X : me_X} {B : me_B} {sz : Nat} (C : me_C X B RX1 cX1_isFull 1 (some .boolean)) {μ : me_M} {v0 : Nat}   {r : Int32} (N : me_En X B sz (B, μ, .ok (some (me_i r))) 0 0 0 0) (hNx : me_Nx X) (hB : me_St B)   (hf : f_Core_isFull μ v0 = some r) : me_Z X B 0 0 μ 0 [(0, me_r 22 v0)] [] := by
  unfold f_Core_isFull at hf
  refine me_aload_n C 0 (Or.inr (Or.inl ⟨_, rfl⟩)) dX1_isFull_0 rfl rfl ?_
  refine me_geti C 4 fg_Core_25 dX1_isFull_1 rfl ?_
  refine me_bipush C (v := 6) dX1_isFull_4 (by decide) ?_
  refine me_icmp_lt C (tgt := 13) dX1_isFull_6 (by decide) (fun c1 => ?_) (fun c1 => ?_)
  · replace hf := me_ip c1 hf
    refine me_iconst C (v := 0) dX1_isFull_13 (by decide) ?_
    exact me_iret C N dX1_isFull_14 (by decide +kernel) (by cases hf; rfl) (by decide) (by decide)
  · replace hf := me_in c1 hf
    refine me_iconst C (v := 1) dX1_isFull_9 (by decide) ?_
    refine me_goto C (tgt := 14) dX1_isFull_10 (by decide) ?_
    exact me_iret C N dX1_isFull_14 (by decide +kernel) (by cases hf; rfl) (by decide) (by decide)
theorem c_Core_isFull {B : me_B} (hB : me_St B) {μ : me_M} {v0 : Nat} {r : Int32}  (hf : f_Core_isFull μ v0 = some r) : ∀ l E z, l.stackTraces = false → me_Met l yX1_isFull cX1_isFull 1 (some .boolean) 0 0 0 0 E B μ z [me_r 22 v0] (B, μ, .ok (some (me_i r))) :=
  fun _ _ _ hl => me_ofZ hl (by decide +kernel) (Nat.le_of_ble_eq_true rfl) (fun _ C N hNx => z_Core_isFull C N hNx hB  hf)
