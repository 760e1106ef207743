/-! WALKS: Ways_heading, Net_hasNode, Packet_isTail, Row_copyPiece, Row_giveFirst, Row_addPiece, Mover_givesAhead, Row_dropPacket, Mover_lose, Post_make, Mover_deliver -/
theorem dX9_heading_0 : decode cX9_heading 0 = .ok (.iload_n 1, 1) := by decide +kernel
theorem dX9_heading_1 : decode cX9_heading 1 = .ok (.iload_n 2, 1) := by decide +kernel
theorem dX9_heading_2 : decode cX9_heading 2 = .ok (.if_icmp .ne 5, 3) := by decide +kernel
theorem dX9_heading_5 : decode cX9_heading 5 = .ok (.iconst 4, 1) := by decide +kernel
theorem dX9_heading_6 : decode cX9_heading 6 = .ok (.ireturn, 1) := by decide +kernel
theorem dX9_heading_7 : decode cX9_heading 7 = .ok (.aload_n 0, 1) := by decide +kernel
theorem dX9_heading_8 : decode cX9_heading 8 = .ok (.getfield 19, 3) := by decide +kernel
theorem dX9_heading_11 : decode cX9_heading 11 = .ok (.bipush 116, 2) := by decide +kernel
theorem dX9_heading_13 : decode cX9_heading 13 = .ok (.if_icmp .ne 11, 3) := by decide +kernel
theorem dX9_heading_16 : decode cX9_heading 16 = .ok (.aload_n 0, 1) := by decide +kernel
theorem dX9_heading_17 : decode cX9_heading 17 = .ok (.iload_n 1, 1) := by decide +kernel
theorem dX9_heading_18 : decode cX9_heading 18 = .ok (.iload_n 2, 1) := by decide +kernel
theorem dX9_heading_19 : decode cX9_heading 19 = .ok (.iload_n 3, 1) := by decide +kernel
theorem dX9_heading_20 : decode cX9_heading 20 = .ok (.invokevirtual 31, 3) := by decide +kernel
theorem dX9_heading_23 : decode cX9_heading 23 = .ok (.ireturn, 1) := by decide +kernel
theorem dX9_heading_24 : decode cX9_heading 24 = .ok (.aload_n 0, 1) := by decide +kernel
theorem dX9_heading_25 : decode cX9_heading 25 = .ok (.getfield 23, 3) := by decide +kernel
theorem dX9_heading_28 : decode cX9_heading 28 = .ok (.iload_n 1, 1) := by decide +kernel
theorem dX9_heading_29 : decode cX9_heading 29 = .ok (.iload_n 2, 1) := by decide +kernel
theorem dX9_heading_30 : decode cX9_heading 30 = .ok (.invokevirtual 35, 3) := by decide +kernel
theorem dX9_heading_33 : decode cX9_heading 33 = .ok (.istore 4, 2) := by decide +kernel
theorem dX9_heading_35 : decode cX9_heading 35 = .ok (.aload_n 0, 1) := by decide +kernel
theorem dX9_heading_36 : decode cX9_heading 36 = .ok (.getfield 23, 3) := by decide +kernel
theorem dX9_heading_39 : decode cX9_heading 39 = .ok (.iload_n 1, 1) := by decide +kernel
theorem dX9_heading_40 : decode cX9_heading 40 = .ok (.iload_n 2, 1) := by decide +kernel
theorem dX9_heading_41 : decode cX9_heading 41 = .ok (.invokevirtual 41, 3) := by decide +kernel
theorem dX9_heading_44 : decode cX9_heading 44 = .ok (.istore 5, 2) := by decide +kernel
theorem dX9_heading_46 : decode cX9_heading 46 = .ok (.aload_n 0, 1) := by decide +kernel
theorem dX9_heading_47 : decode cX9_heading 47 = .ok (.getfield 19, 3) := by decide +kernel
theorem dX9_heading_50 : decode cX9_heading 50 = .ok (.bipush 120, 2) := by decide +kernel
theorem dX9_heading_52 : decode cX9_heading 52 = .ok (.if_icmp .ne 17, 3) := by decide +kernel
theorem dX9_heading_55 : decode cX9_heading 55 = .ok (.iload 4, 2) := by decide +kernel
theorem dX9_heading_57 : decode cX9_heading 57 = .ok (.iconst (-1), 1) := by decide +kernel
theorem dX9_heading_58 : decode cX9_heading 58 = .ok (.if_icmp .eq 8, 3) := by decide +kernel
theorem dX9_heading_61 : decode cX9_heading 61 = .ok (.iload 4, 2) := by decide +kernel
theorem dX9_heading_63 : decode cX9_heading 63 = .ok (.goto 5, 3) := by decide +kernel
theorem dX9_heading_66 : decode cX9_heading 66 = .ok (.iload 5, 2) := by decide +kernel
theorem dX9_heading_68 : decode cX9_heading 68 = .ok (.ireturn, 1) := by decide +kernel
theorem dX9_heading_69 : decode cX9_heading 69 = .ok (.iload 5, 2) := by decide +kernel
theorem dX9_heading_71 : decode cX9_heading 71 = .ok (.iconst (-1), 1) := by decide +kernel
theorem dX9_heading_72 : decode cX9_heading 72 = .ok (.if_icmp .eq 8, 3) := by decide +kernel
theorem dX9_heading_75 : decode cX9_heading 75 = .ok (.iload 5, 2) := by decide +kernel
theorem dX9_heading_77 : decode cX9_heading 77 = .ok (.goto 5, 3) := by decide +kernel
theorem dX9_heading_80 : decode cX9_heading 80 = .ok (.iload 4, 2) := by decide +kernel
theorem dX9_heading_82 : decode cX9_heading 82 = .ok (.ireturn, 1) := by decide +kernel
theorem dX3_hasNode_0 : decode cX3_hasNode 0 = .ok (.iload_n 1, 1) := by decide +kernel
theorem dX3_hasNode_1 : decode cX3_hasNode 1 = .ok (.ifCond .lt 15, 3) := by decide +kernel
theorem dX3_hasNode_4 : decode cX3_hasNode 4 = .ok (.iload_n 1, 1) := by decide +kernel
theorem dX3_hasNode_5 : decode cX3_hasNode 5 = .ok (.aload_n 0, 1) := by decide +kernel
theorem dX3_hasNode_6 : decode cX3_hasNode 6 = .ok (.getfield 25, 3) := by decide +kernel
theorem dX3_hasNode_9 : decode cX3_hasNode 9 = .ok (.if_icmp .ge 7, 3) := by decide +kernel
theorem dX3_hasNode_12 : decode cX3_hasNode 12 = .ok (.iconst 1, 1) := by decide +kernel
theorem dX3_hasNode_13 : decode cX3_hasNode 13 = .ok (.goto 4, 3) := by decide +kernel
theorem dX3_hasNode_16 : decode cX3_hasNode 16 = .ok (.iconst 0, 1) := by decide +kernel
theorem dX3_hasNode_17 : decode cX3_hasNode 17 = .ok (.ireturn, 1) := by decide +kernel
theorem dX4_isTail_0 : decode cX4_isTail 0 = .ok (.iload_n 1, 1) := by decide +kernel
theorem dX4_isTail_1 : decode cX4_isTail 1 = .ok (.aload_n 0, 1) := by decide +kernel
theorem dX4_isTail_2 : decode cX4_isTail 2 = .ok (.getfield 17, 3) := by decide +kernel
theorem dX4_isTail_5 : decode cX4_isTail 5 = .ok (.iconst 1, 1) := by decide +kernel
theorem dX4_isTail_6 : decode cX4_isTail 6 = .ok (.isub, 1) := by decide +kernel
theorem dX4_isTail_7 : decode cX4_isTail 7 = .ok (.if_icmp .ne 7, 3) := by decide +kernel
theorem dX4_isTail_10 : decode cX4_isTail 10 = .ok (.iconst 1, 1) := by decide +kernel
theorem dX4_isTail_11 : decode cX4_isTail 11 = .ok (.goto 4, 3) := by decide +kernel
theorem dX4_isTail_14 : decode cX4_isTail 14 = .ok (.iconst 0, 1) := by decide +kernel
theorem dX4_isTail_15 : decode cX4_isTail 15 = .ok (.ireturn, 1) := by decide +kernel
theorem dX8_copyPiece_0 : decode cX8_copyPiece 0 = .ok (.aload_n 0, 1) := by decide +kernel
theorem dX8_copyPiece_1 : decode cX8_copyPiece 1 = .ok (.getfield 9, 3) := by decide +kernel
theorem dX8_copyPiece_4 : decode cX8_copyPiece 4 = .ok (.iload_n 2, 1) := by decide +kernel
theorem dX8_copyPiece_5 : decode cX8_copyPiece 5 = .ok (.aload_n 0, 1) := by decide +kernel
theorem dX8_copyPiece_6 : decode cX8_copyPiece 6 = .ok (.getfield 9, 3) := by decide +kernel
theorem dX8_copyPiece_9 : decode cX8_copyPiece 9 = .ok (.iload_n 1, 1) := by decide +kernel
theorem dX8_copyPiece_10 : decode cX8_copyPiece 10 = .ok (.iaload, 1) := by decide +kernel
theorem dX8_copyPiece_11 : decode cX8_copyPiece 11 = .ok (.iastore, 1) := by decide +kernel
theorem dX8_copyPiece_12 : decode cX8_copyPiece 12 = .ok (.aload_n 0, 1) := by decide +kernel
theorem dX8_copyPiece_13 : decode cX8_copyPiece 13 = .ok (.getfield 15, 3) := by decide +kernel
theorem dX8_copyPiece_16 : decode cX8_copyPiece 16 = .ok (.iload_n 2, 1) := by decide +kernel
theorem dX8_copyPiece_17 : decode cX8_copyPiece 17 = .ok (.aload_n 0, 1) := by decide +kernel
theorem dX8_copyPiece_18 : decode cX8_copyPiece 18 = .ok (.getfield 15, 3) := by decide +kernel
theorem dX8_copyPiece_21 : decode cX8_copyPiece 21 = .ok (.iload_n 1, 1) := by decide +kernel
theorem dX8_copyPiece_22 : decode cX8_copyPiece 22 = .ok (.iaload, 1) := by decide +kernel
theorem dX8_copyPiece_23 : decode cX8_copyPiece 23 = .ok (.iastore, 1) := by decide +kernel
theorem dX8_copyPiece_24 : decode cX8_copyPiece 24 = .ok (.aload_n 0, 1) := by decide +kernel
theorem dX8_copyPiece_25 : decode cX8_copyPiece 25 = .ok (.getfield 18, 3) := by decide +kernel
theorem dX8_copyPiece_28 : decode cX8_copyPiece 28 = .ok (.iload_n 2, 1) := by decide +kernel
theorem dX8_copyPiece_29 : decode cX8_copyPiece 29 = .ok (.aload_n 0, 1) := by decide +kernel
theorem dX8_copyPiece_30 : decode cX8_copyPiece 30 = .ok (.getfield 18, 3) := by decide +kernel
theorem dX8_copyPiece_33 : decode cX8_copyPiece 33 = .ok (.iload_n 1, 1) := by decide +kernel
theorem dX8_copyPiece_34 : decode cX8_copyPiece 34 = .ok (.iaload, 1) := by decide +kernel
theorem dX8_copyPiece_35 : decode cX8_copyPiece 35 = .ok (.iastore, 1) := by decide +kernel
theorem dX8_copyPiece_36 : decode cX8_copyPiece 36 = .ok (.return_, 1) := by decide +kernel
theorem dX8_giveFirst_0 : decode cX8_giveFirst 0 = .ok (.aload_n 0, 1) := by decide +kernel
theorem dX8_giveFirst_1 : decode cX8_giveFirst 1 = .ok (.iload_n 2, 1) := by decide +kernel
theorem dX8_giveFirst_2 : decode cX8_giveFirst 2 = .ok (.putfield 31, 3) := by decide +kernel
theorem dX8_giveFirst_5 : decode cX8_giveFirst 5 = .ok (.iload_n 1, 1) := by decide +kernel
theorem dX8_giveFirst_6 : decode cX8_giveFirst 6 = .ok (.ifCond .eq 8, 3) := by decide +kernel
theorem dX8_giveFirst_9 : decode cX8_giveFirst 9 = .ok (.aload_n 0, 1) := by decide +kernel
theorem dX8_giveFirst_10 : decode cX8_giveFirst 10 = .ok (.iconst (-1), 1) := by decide +kernel
theorem dX8_giveFirst_11 : decode cX8_giveFirst 11 = .ok (.putfield 25, 3) := by decide +kernel
theorem dX8_giveFirst_14 : decode cX8_giveFirst 14 = .ok (.iconst 1, 1) := by decide +kernel
theorem dX8_giveFirst_15 : decode cX8_giveFirst 15 = .ok (.istore_n 3, 1) := by decide +kernel
theorem dX8_giveFirst_16 : decode cX8_giveFirst 16 = .ok (.iload_n 3, 1) := by decide +kernel
theorem dX8_giveFirst_17 : decode cX8_giveFirst 17 = .ok (.aload_n 0, 1) := by decide +kernel
theorem dX8_giveFirst_18 : decode cX8_giveFirst 18 = .ok (.getfield 21, 3) := by decide +kernel
theorem dX8_giveFirst_21 : decode cX8_giveFirst 21 = .ok (.if_icmp .ge 17, 3) := by decide +kernel
theorem dX8_giveFirst_24 : decode cX8_giveFirst 24 = .ok (.aload_n 0, 1) := by decide +kernel
theorem dX8_giveFirst_25 : decode cX8_giveFirst 25 = .ok (.iload_n 3, 1) := by decide +kernel
theorem dX8_giveFirst_26 : decode cX8_giveFirst 26 = .ok (.iload_n 3, 1) := by decide +kernel
theorem dX8_giveFirst_27 : decode cX8_giveFirst 27 = .ok (.iconst 1, 1) := by decide +kernel
theorem dX8_giveFirst_28 : decode cX8_giveFirst 28 = .ok (.isub, 1) := by decide +kernel
theorem dX8_giveFirst_29 : decode cX8_giveFirst 29 = .ok (.invokevirtual 37, 3) := by decide +kernel
theorem dX8_giveFirst_32 : decode cX8_giveFirst 32 = .ok (.iinc 3 1, 3) := by decide +kernel
theorem dX8_giveFirst_35 : decode cX8_giveFirst 35 = .ok (.goto (-19), 3) := by decide +kernel
theorem dX8_giveFirst_38 : decode cX8_giveFirst 38 = .ok (.aload_n 0, 1) := by decide +kernel
theorem dX8_giveFirst_39 : decode cX8_giveFirst 39 = .ok (.iconst 0, 1) := by decide +kernel
theorem dX8_giveFirst_40 : decode cX8_giveFirst 40 = .ok (.aload_n 0, 1) := by decide +kernel
theorem dX8_giveFirst_41 : decode cX8_giveFirst 41 = .ok (.getfield 21, 3) := by decide +kernel
theorem dX8_giveFirst_44 : decode cX8_giveFirst 44 = .ok (.iconst 1, 1) := by decide +kernel
theorem dX8_giveFirst_45 : decode cX8_giveFirst 45 = .ok (.isub, 1) := by decide +kernel
theorem dX8_giveFirst_46 : decode cX8_giveFirst 46 = .ok (.invokestatic 41, 3) := by decide +kernel
theorem dX8_giveFirst_49 : decode cX8_giveFirst 49 = .ok (.putfield 21, 3) := by decide +kernel
theorem dX8_giveFirst_52 : decode cX8_giveFirst 52 = .ok (.return_, 1) := by decide +kernel
theorem dX8_addPiece_0 : decode cX8_addPiece 0 = .ok (.aload_n 0, 1) := by decide +kernel
theorem dX8_addPiece_1 : decode cX8_addPiece 1 = .ok (.getfield 21, 3) := by decide +kernel
theorem dX8_addPiece_4 : decode cX8_addPiece 4 = .ok (.iconst 4, 1) := by decide +kernel
theorem dX8_addPiece_5 : decode cX8_addPiece 5 = .ok (.if_icmp .ge 43, 3) := by decide +kernel
theorem dX8_addPiece_8 : decode cX8_addPiece 8 = .ok (.aload_n 0, 1) := by decide +kernel
theorem dX8_addPiece_9 : decode cX8_addPiece 9 = .ok (.getfield 9, 3) := by decide +kernel
theorem dX8_addPiece_12 : decode cX8_addPiece 12 = .ok (.aload_n 0, 1) := by decide +kernel
theorem dX8_addPiece_13 : decode cX8_addPiece 13 = .ok (.getfield 21, 3) := by decide +kernel
theorem dX8_addPiece_16 : decode cX8_addPiece 16 = .ok (.iload_n 1, 1) := by decide +kernel
theorem dX8_addPiece_17 : decode cX8_addPiece 17 = .ok (.iastore, 1) := by decide +kernel
theorem dX8_addPiece_18 : decode cX8_addPiece 18 = .ok (.aload_n 0, 1) := by decide +kernel
theorem dX8_addPiece_19 : decode cX8_addPiece 19 = .ok (.getfield 15, 3) := by decide +kernel
theorem dX8_addPiece_22 : decode cX8_addPiece 22 = .ok (.aload_n 0, 1) := by decide +kernel
theorem dX8_addPiece_23 : decode cX8_addPiece 23 = .ok (.getfield 21, 3) := by decide +kernel
theorem dX8_addPiece_26 : decode cX8_addPiece 26 = .ok (.iload_n 2, 1) := by decide +kernel
theorem dX8_addPiece_27 : decode cX8_addPiece 27 = .ok (.iastore, 1) := by decide +kernel
theorem dX8_addPiece_28 : decode cX8_addPiece 28 = .ok (.aload_n 0, 1) := by decide +kernel
theorem dX8_addPiece_29 : decode cX8_addPiece 29 = .ok (.getfield 18, 3) := by decide +kernel
theorem dX8_addPiece_32 : decode cX8_addPiece 32 = .ok (.aload_n 0, 1) := by decide +kernel
theorem dX8_addPiece_33 : decode cX8_addPiece 33 = .ok (.getfield 21, 3) := by decide +kernel
theorem dX8_addPiece_36 : decode cX8_addPiece 36 = .ok (.iload_n 3, 1) := by decide +kernel
theorem dX8_addPiece_37 : decode cX8_addPiece 37 = .ok (.iastore, 1) := by decide +kernel
theorem dX8_addPiece_38 : decode cX8_addPiece 38 = .ok (.aload_n 0, 1) := by decide +kernel
theorem dX8_addPiece_39 : decode cX8_addPiece 39 = .ok (.dup, 1) := by decide +kernel
theorem dX8_addPiece_40 : decode cX8_addPiece 40 = .ok (.getfield 21, 3) := by decide +kernel
theorem dX8_addPiece_43 : decode cX8_addPiece 43 = .ok (.iconst 1, 1) := by decide +kernel
theorem dX8_addPiece_44 : decode cX8_addPiece 44 = .ok (.iadd, 1) := by decide +kernel
theorem dX8_addPiece_45 : decode cX8_addPiece 45 = .ok (.putfield 21, 3) := by decide +kernel
theorem dX8_addPiece_48 : decode cX8_addPiece 48 = .ok (.return_, 1) := by decide +kernel
theorem dX2_givesAhead_0 : decode cX2_givesAhead 0 = .ok (.aload_n 0, 1) := by decide +kernel
theorem dX2_givesAhead_1 : decode cX2_givesAhead 1 = .ok (.getfield 15, 3) := by decide +kernel
theorem dX2_givesAhead_4 : decode cX2_givesAhead 4 = .ok (.iload_n 1, 1) := by decide +kernel
theorem dX2_givesAhead_5 : decode cX2_givesAhead 5 = .ok (.invokevirtual 131, 3) := by decide +kernel
theorem dX2_givesAhead_8 : decode cX2_givesAhead 8 = .ok (.ifCond .ne 5, 3) := by decide +kernel
theorem dX2_givesAhead_11 : decode cX2_givesAhead 11 = .ok (.iconst 0, 1) := by decide +kernel
theorem dX2_givesAhead_12 : decode cX2_givesAhead 12 = .ok (.ireturn, 1) := by decide +kernel
theorem dX2_givesAhead_13 : decode cX2_givesAhead 13 = .ok (.aload_n 3, 1) := by decide +kernel
theorem dX2_givesAhead_14 : decode cX2_givesAhead 14 = .ok (.getfield 94, 3) := by decide +kernel
theorem dX2_givesAhead_17 : decode cX2_givesAhead 17 = .ok (.iconst 0, 1) := by decide +kernel
theorem dX2_givesAhead_18 : decode cX2_givesAhead 18 = .ok (.iaload, 1) := by decide +kernel
theorem dX2_givesAhead_19 : decode cX2_givesAhead 19 = .ok (.istore 5, 2) := by decide +kernel
theorem dX2_givesAhead_21 : decode cX2_givesAhead 21 = .ok (.aload_n 0, 1) := by decide +kernel
theorem dX2_givesAhead_22 : decode cX2_givesAhead 22 = .ok (.getfield 26, 3) := by decide +kernel
theorem dX2_givesAhead_25 : decode cX2_givesAhead 25 = .ok (.iload_n 1, 1) := by decide +kernel
theorem dX2_givesAhead_26 : decode cX2_givesAhead 26 = .ok (.aaload, 1) := by decide +kernel
theorem dX2_givesAhead_27 : decode cX2_givesAhead 27 = .ok (.astore 6, 2) := by decide +kernel
theorem dX2_givesAhead_29 : decode cX2_givesAhead 29 = .ok (.aload 6, 2) := by decide +kernel
theorem dX2_givesAhead_31 : decode cX2_givesAhead 31 = .ok (.getfield 56, 3) := by decide +kernel
theorem dX2_givesAhead_34 : decode cX2_givesAhead 34 = .ok (.ifCond .ne 28, 3) := by decide +kernel
theorem dX2_givesAhead_37 : decode cX2_givesAhead 37 = .ok (.aload 6, 2) := by decide +kernel
theorem dX2_givesAhead_39 : decode cX2_givesAhead 39 = .ok (.aload 6, 2) := by decide +kernel
theorem dX2_givesAhead_41 : decode cX2_givesAhead 41 = .ok (.getfield 51, 3) := by decide +kernel
theorem dX2_givesAhead_44 : decode cX2_givesAhead 44 = .ok (.ifCond .ne 8, 3) := by decide +kernel
theorem dX2_givesAhead_47 : decode cX2_givesAhead 47 = .ok (.iload 5, 2) := by decide +kernel
theorem dX2_givesAhead_49 : decode cX2_givesAhead 49 = .ok (.ifCond .ne 7, 3) := by decide +kernel
theorem dX2_givesAhead_52 : decode cX2_givesAhead 52 = .ok (.iconst 1, 1) := by decide +kernel
theorem dX2_givesAhead_53 : decode cX2_givesAhead 53 = .ok (.goto 4, 3) := by decide +kernel
theorem dX2_givesAhead_56 : decode cX2_givesAhead 56 = .ok (.iconst 0, 1) := by decide +kernel
theorem dX2_givesAhead_57 : decode cX2_givesAhead 57 = .ok (.putfield 51, 3) := by decide +kernel
theorem dX2_givesAhead_60 : decode cX2_givesAhead 60 = .ok (.iconst 0, 1) := by decide +kernel
theorem dX2_givesAhead_61 : decode cX2_givesAhead 61 = .ok (.ireturn, 1) := by decide +kernel
theorem dX2_givesAhead_62 : decode cX2_givesAhead 62 = .ok (.aload 6, 2) := by decide +kernel
theorem dX2_givesAhead_64 : decode cX2_givesAhead 64 = .ok (.getfield 71, 3) := by decide +kernel
theorem dX2_givesAhead_67 : decode cX2_givesAhead 67 = .ok (.aload 4, 2) := by decide +kernel
theorem dX2_givesAhead_69 : decode cX2_givesAhead 69 = .ok (.invokevirtual 102, 3) := by decide +kernel
theorem dX2_givesAhead_72 : decode cX2_givesAhead 72 = .ok (.iconst 5, 1) := by decide +kernel
theorem dX2_givesAhead_73 : decode cX2_givesAhead 73 = .ok (.imul, 1) := by decide +kernel
theorem dX2_givesAhead_74 : decode cX2_givesAhead 74 = .ok (.aload_n 0, 1) := by decide +kernel
theorem dX2_givesAhead_75 : decode cX2_givesAhead 75 = .ok (.getfield 15, 3) := by decide +kernel
theorem dX2_givesAhead_78 : decode cX2_givesAhead 78 = .ok (.iload_n 2, 1) := by decide +kernel
theorem dX2_givesAhead_79 : decode cX2_givesAhead 79 = .ok (.invokevirtual 134, 3) := by decide +kernel
theorem dX2_givesAhead_82 : decode cX2_givesAhead 82 = .ok (.iadd, 1) := by decide +kernel
theorem dX2_givesAhead_83 : decode cX2_givesAhead 83 = .ok (.aaload, 1) := by decide +kernel
theorem dX2_givesAhead_84 : decode cX2_givesAhead 84 = .ok (.astore 7, 2) := by decide +kernel
theorem dX2_givesAhead_86 : decode cX2_givesAhead 86 = .ok (.aload 7, 2) := by decide +kernel
theorem dX2_givesAhead_88 : decode cX2_givesAhead 88 = .ok (.invokevirtual 138, 3) := by decide +kernel
theorem dX2_givesAhead_91 : decode cX2_givesAhead 91 = .ok (.ifCond .eq 17, 3) := by decide +kernel
theorem dX2_givesAhead_94 : decode cX2_givesAhead 94 = .ok (.iload 5, 2) := by decide +kernel
theorem dX2_givesAhead_96 : decode cX2_givesAhead 96 = .ok (.ifCond .ne 14, 3) := by decide +kernel
theorem dX2_givesAhead_99 : decode cX2_givesAhead 99 = .ok (.aload 7, 2) := by decide +kernel
theorem dX2_givesAhead_101 : decode cX2_givesAhead 101 = .ok (.getfield 142, 3) := by decide +kernel
theorem dX2_givesAhead_104 : decode cX2_givesAhead 104 = .ok (.iconst (-1), 1) := by decide +kernel
theorem dX2_givesAhead_105 : decode cX2_givesAhead 105 = .ok (.if_icmp .eq 5, 3) := by decide +kernel
theorem dX2_givesAhead_108 : decode cX2_givesAhead 108 = .ok (.iconst 0, 1) := by decide +kernel
theorem dX2_givesAhead_109 : decode cX2_givesAhead 109 = .ok (.ireturn, 1) := by decide +kernel
theorem dX2_givesAhead_110 : decode cX2_givesAhead 110 = .ok (.iload 5, 2) := by decide +kernel
theorem dX2_givesAhead_112 : decode cX2_givesAhead 112 = .ok (.ifCond .ne 24, 3) := by decide +kernel
theorem dX2_givesAhead_115 : decode cX2_givesAhead 115 = .ok (.aload_n 3, 1) := by decide +kernel
theorem dX2_givesAhead_116 : decode cX2_givesAhead 116 = .ok (.iload_n 2, 1) := by decide +kernel
theorem dX2_givesAhead_117 : decode cX2_givesAhead 117 = .ok (.putfield 109, 3) := by decide +kernel
theorem dX2_givesAhead_120 : decode cX2_givesAhead 120 = .ok (.aload 7, 2) := by decide +kernel
theorem dX2_givesAhead_122 : decode cX2_givesAhead 122 = .ok (.aload 4, 2) := by decide +kernel
theorem dX2_givesAhead_124 : decode cX2_givesAhead 124 = .ok (.getfield 145, 3) := by decide +kernel
theorem dX2_givesAhead_127 : decode cX2_givesAhead 127 = .ok (.putfield 142, 3) := by decide +kernel
theorem dX2_givesAhead_130 : decode cX2_givesAhead 130 = .ok (.aload 4, 2) := by decide +kernel
theorem dX2_givesAhead_132 : decode cX2_givesAhead 132 = .ok (.iload_n 1, 1) := by decide +kernel
theorem dX2_givesAhead_133 : decode cX2_givesAhead 133 = .ok (.putfield 148, 3) := by decide +kernel
theorem dX2_givesAhead_136 : decode cX2_givesAhead 136 = .ok (.aload_n 3, 1) := by decide +kernel
theorem dX2_givesAhead_137 : decode cX2_givesAhead 137 = .ok (.aload 4, 2) := by decide +kernel
theorem dX2_givesAhead_139 : decode cX2_givesAhead 139 = .ok (.iload 5, 2) := by decide +kernel
theorem dX2_givesAhead_141 : decode cX2_givesAhead 141 = .ok (.invokevirtual 151, 3) := by decide +kernel
theorem dX2_givesAhead_144 : decode cX2_givesAhead 144 = .ok (.aload_n 0, 1) := by decide +kernel
theorem dX2_givesAhead_145 : decode cX2_givesAhead 145 = .ok (.getfield 39, 3) := by decide +kernel
theorem dX2_givesAhead_148 : decode cX2_givesAhead 148 = .ok (.invokevirtual 154, 3) := by decide +kernel
theorem dX2_givesAhead_151 : decode cX2_givesAhead 151 = .ok (.aload 7, 2) := by decide +kernel
theorem dX2_givesAhead_153 : decode cX2_givesAhead 153 = .ok (.aload 4, 2) := by decide +kernel
theorem dX2_givesAhead_155 : decode cX2_givesAhead 155 = .ok (.getfield 145, 3) := by decide +kernel
theorem dX2_givesAhead_158 : decode cX2_givesAhead 158 = .ok (.iload 5, 2) := by decide +kernel
theorem dX2_givesAhead_160 : decode cX2_givesAhead 160 = .ok (.aload_n 0, 1) := by decide +kernel
theorem dX2_givesAhead_161 : decode cX2_givesAhead 161 = .ok (.getfield 39, 3) := by decide +kernel
theorem dX2_givesAhead_164 : decode cX2_givesAhead 164 = .ok (.invokevirtual 158, 3) := by decide +kernel
theorem dX2_givesAhead_167 : decode cX2_givesAhead 167 = .ok (.iconst 1, 1) := by decide +kernel
theorem dX2_givesAhead_168 : decode cX2_givesAhead 168 = .ok (.ireturn, 1) := by decide +kernel
theorem dX8_dropPacket_0 : decode cX8_dropPacket 0 = .ok (.iconst 0, 1) := by decide +kernel
theorem dX8_dropPacket_1 : decode cX8_dropPacket 1 = .ok (.istore_n 2, 1) := by decide +kernel
theorem dX8_dropPacket_2 : decode cX8_dropPacket 2 = .ok (.iconst 0, 1) := by decide +kernel
theorem dX8_dropPacket_3 : decode cX8_dropPacket 3 = .ok (.istore_n 3, 1) := by decide +kernel
theorem dX8_dropPacket_4 : decode cX8_dropPacket 4 = .ok (.iload_n 3, 1) := by decide +kernel
theorem dX8_dropPacket_5 : decode cX8_dropPacket 5 = .ok (.aload_n 0, 1) := by decide +kernel
theorem dX8_dropPacket_6 : decode cX8_dropPacket 6 = .ok (.getfield 21, 3) := by decide +kernel
theorem dX8_dropPacket_9 : decode cX8_dropPacket 9 = .ok (.if_icmp .ge 28, 3) := by decide +kernel
theorem dX8_dropPacket_12 : decode cX8_dropPacket 12 = .ok (.aload_n 0, 1) := by decide +kernel
theorem dX8_dropPacket_13 : decode cX8_dropPacket 13 = .ok (.getfield 9, 3) := by decide +kernel
theorem dX8_dropPacket_16 : decode cX8_dropPacket 16 = .ok (.iload_n 3, 1) := by decide +kernel
theorem dX8_dropPacket_17 : decode cX8_dropPacket 17 = .ok (.iaload, 1) := by decide +kernel
theorem dX8_dropPacket_18 : decode cX8_dropPacket 18 = .ok (.iload_n 1, 1) := by decide +kernel
theorem dX8_dropPacket_19 : decode cX8_dropPacket 19 = .ok (.if_icmp .eq 12, 3) := by decide +kernel
theorem dX8_dropPacket_22 : decode cX8_dropPacket 22 = .ok (.aload_n 0, 1) := by decide +kernel
theorem dX8_dropPacket_23 : decode cX8_dropPacket 23 = .ok (.iload_n 3, 1) := by decide +kernel
theorem dX8_dropPacket_24 : decode cX8_dropPacket 24 = .ok (.iload_n 2, 1) := by decide +kernel
theorem dX8_dropPacket_25 : decode cX8_dropPacket 25 = .ok (.invokevirtual 37, 3) := by decide +kernel
theorem dX8_dropPacket_28 : decode cX8_dropPacket 28 = .ok (.iinc 2 1, 3) := by decide +kernel
theorem dX8_dropPacket_31 : decode cX8_dropPacket 31 = .ok (.iinc 3 1, 3) := by decide +kernel
theorem dX8_dropPacket_34 : decode cX8_dropPacket 34 = .ok (.goto (-30), 3) := by decide +kernel
theorem dX8_dropPacket_37 : decode cX8_dropPacket 37 = .ok (.aload_n 0, 1) := by decide +kernel
theorem dX8_dropPacket_38 : decode cX8_dropPacket 38 = .ok (.iload_n 2, 1) := by decide +kernel
theorem dX8_dropPacket_39 : decode cX8_dropPacket 39 = .ok (.putfield 21, 3) := by decide +kernel
theorem dX8_dropPacket_42 : decode cX8_dropPacket 42 = .ok (.aload_n 0, 1) := by decide +kernel
theorem dX8_dropPacket_43 : decode cX8_dropPacket 43 = .ok (.getfield 25, 3) := by decide +kernel
theorem dX8_dropPacket_46 : decode cX8_dropPacket 46 = .ok (.iload_n 1, 1) := by decide +kernel
theorem dX8_dropPacket_47 : decode cX8_dropPacket 47 = .ok (.if_icmp .ne 8, 3) := by decide +kernel
theorem dX8_dropPacket_50 : decode cX8_dropPacket 50 = .ok (.aload_n 0, 1) := by decide +kernel
theorem dX8_dropPacket_51 : decode cX8_dropPacket 51 = .ok (.iconst (-1), 1) := by decide +kernel
theorem dX8_dropPacket_52 : decode cX8_dropPacket 52 = .ok (.putfield 25, 3) := by decide +kernel
theorem dX8_dropPacket_55 : decode cX8_dropPacket 55 = .ok (.return_, 1) := by decide +kernel
theorem dX2_lose_0 : decode cX2_lose 0 = .ok (.aload_n 1, 1) := by decide +kernel
theorem dX2_lose_1 : decode cX2_lose 1 = .ok (.bipush 108, 2) := by decide +kernel
theorem dX2_lose_3 : decode cX2_lose 3 = .ok (.putfield 168, 3) := by decide +kernel
theorem dX2_lose_6 : decode cX2_lose 6 = .ok (.aload_n 1, 1) := by decide +kernel
theorem dX2_lose_7 : decode cX2_lose 7 = .ok (.iconst (-1), 1) := by decide +kernel
theorem dX2_lose_8 : decode cX2_lose 8 = .ok (.putfield 148, 3) := by decide +kernel
theorem dX2_lose_11 : decode cX2_lose 11 = .ok (.aload_n 1, 1) := by decide +kernel
theorem dX2_lose_12 : decode cX2_lose 12 = .ok (.getfield 175, 3) := by decide +kernel
theorem dX2_lose_15 : decode cX2_lose 15 = .ok (.bipush 113, 2) := by decide +kernel
theorem dX2_lose_17 : decode cX2_lose 17 = .ok (.if_icmp .ne 16, 3) := by decide +kernel
theorem dX2_lose_20 : decode cX2_lose 20 = .ok (.aload_n 0, 1) := by decide +kernel
theorem dX2_lose_21 : decode cX2_lose 21 = .ok (.getfield 27, 3) := by decide +kernel
theorem dX2_lose_24 : decode cX2_lose 24 = .ok (.dup, 1) := by decide +kernel
theorem dX2_lose_25 : decode cX2_lose 25 = .ok (.getfield 189, 3) := by decide +kernel
theorem dX2_lose_28 : decode cX2_lose 28 = .ok (.iconst 1, 1) := by decide +kernel
theorem dX2_lose_29 : decode cX2_lose 29 = .ok (.isub, 1) := by decide +kernel
theorem dX2_lose_30 : decode cX2_lose 30 = .ok (.putfield 189, 3) := by decide +kernel
theorem dX2_lose_33 : decode cX2_lose 33 = .ok (.iconst 0, 1) := by decide +kernel
theorem dX2_lose_34 : decode cX2_lose 34 = .ok (.istore_n 2, 1) := by decide +kernel
theorem dX2_lose_35 : decode cX2_lose 35 = .ok (.iload_n 2, 1) := by decide +kernel
theorem dX2_lose_36 : decode cX2_lose 36 = .ok (.aload_n 0, 1) := by decide +kernel
theorem dX2_lose_37 : decode cX2_lose 37 = .ok (.getfield 15, 3) := by decide +kernel
theorem dX2_lose_40 : decode cX2_lose 40 = .ok (.getfield 46, 3) := by decide +kernel
theorem dX2_lose_43 : decode cX2_lose 43 = .ok (.if_icmp .ge 47, 3) := by decide +kernel
theorem dX2_lose_46 : decode cX2_lose 46 = .ok (.iconst 0, 1) := by decide +kernel
theorem dX2_lose_47 : decode cX2_lose 47 = .ok (.istore_n 3, 1) := by decide +kernel
theorem dX2_lose_48 : decode cX2_lose 48 = .ok (.iload_n 3, 1) := by decide +kernel
theorem dX2_lose_49 : decode cX2_lose 49 = .ok (.iconst 5, 1) := by decide +kernel
theorem dX2_lose_50 : decode cX2_lose 50 = .ok (.if_icmp .ge 34, 3) := by decide +kernel
theorem dX2_lose_53 : decode cX2_lose 53 = .ok (.aload_n 0, 1) := by decide +kernel
theorem dX2_lose_54 : decode cX2_lose 54 = .ok (.getfield 26, 3) := by decide +kernel
theorem dX2_lose_57 : decode cX2_lose 57 = .ok (.iload_n 2, 1) := by decide +kernel
theorem dX2_lose_58 : decode cX2_lose 58 = .ok (.aaload, 1) := by decide +kernel
theorem dX2_lose_59 : decode cX2_lose 59 = .ok (.getfield 71, 3) := by decide +kernel
theorem dX2_lose_62 : decode cX2_lose 62 = .ok (.aload_n 1, 1) := by decide +kernel
theorem dX2_lose_63 : decode cX2_lose 63 = .ok (.invokevirtual 102, 3) := by decide +kernel
theorem dX2_lose_66 : decode cX2_lose 66 = .ok (.iconst 5, 1) := by decide +kernel
theorem dX2_lose_67 : decode cX2_lose 67 = .ok (.imul, 1) := by decide +kernel
theorem dX2_lose_68 : decode cX2_lose 68 = .ok (.iload_n 3, 1) := by decide +kernel
theorem dX2_lose_69 : decode cX2_lose 69 = .ok (.iadd, 1) := by decide +kernel
theorem dX2_lose_70 : decode cX2_lose 70 = .ok (.aaload, 1) := by decide +kernel
theorem dX2_lose_71 : decode cX2_lose 71 = .ok (.aload_n 1, 1) := by decide +kernel
theorem dX2_lose_72 : decode cX2_lose 72 = .ok (.getfield 145, 3) := by decide +kernel
theorem dX2_lose_75 : decode cX2_lose 75 = .ok (.invokevirtual 202, 3) := by decide +kernel
theorem dX2_lose_78 : decode cX2_lose 78 = .ok (.iinc 3 1, 3) := by decide +kernel
theorem dX2_lose_81 : decode cX2_lose 81 = .ok (.goto (-33), 3) := by decide +kernel
theorem dX2_lose_84 : decode cX2_lose 84 = .ok (.iinc 2 1, 3) := by decide +kernel
theorem dX2_lose_87 : decode cX2_lose 87 = .ok (.goto (-52), 3) := by decide +kernel
theorem dX2_lose_90 : decode cX2_lose 90 = .ok (.return_, 1) := by decide +kernel
theorem dX6_make_0 : decode cX6_make 0 = .ok (.aload_n 0, 1) := by decide +kernel
theorem dX6_make_1 : decode cX6_make 1 = .ok (.getfield 20, 3) := by decide +kernel
theorem dX6_make_4 : decode cX6_make 4 = .ok (.sipush 200, 3) := by decide +kernel
theorem dX6_make_7 : decode cX6_make 7 = .ok (.if_icmp .lt 5, 3) := by decide +kernel
theorem dX6_make_10 : decode cX6_make 10 = .ok (.iconst (-1), 1) := by decide +kernel
theorem dX6_make_11 : decode cX6_make 11 = .ok (.ireturn, 1) := by decide +kernel
theorem dX6_make_12 : decode cX6_make 12 = .ok (.aload_n 0, 1) := by decide +kernel
theorem dX6_make_13 : decode cX6_make 13 = .ok (.getfield 11, 3) := by decide +kernel
theorem dX6_make_16 : decode cX6_make 16 = .ok (.aload_n 0, 1) := by decide +kernel
theorem dX6_make_17 : decode cX6_make 17 = .ok (.getfield 20, 3) := by decide +kernel
theorem dX6_make_20 : decode cX6_make 20 = .ok (.aaload, 1) := by decide +kernel
theorem dX6_make_21 : decode cX6_make 21 = .ok (.astore 7, 2) := by decide +kernel
theorem dX6_make_23 : decode cX6_make 23 = .ok (.aload 7, 2) := by decide +kernel
theorem dX6_make_25 : decode cX6_make 25 = .ok (.iload_n 1, 1) := by decide +kernel
theorem dX6_make_26 : decode cX6_make 26 = .ok (.putfield 27, 3) := by decide +kernel
theorem dX6_make_29 : decode cX6_make 29 = .ok (.aload 7, 2) := by decide +kernel
theorem dX6_make_31 : decode cX6_make 31 = .ok (.bipush 115, 2) := by decide +kernel
theorem dX6_make_33 : decode cX6_make 33 = .ok (.putfield 31, 3) := by decide +kernel
theorem dX6_make_36 : decode cX6_make 36 = .ok (.aload 7, 2) := by decide +kernel
theorem dX6_make_38 : decode cX6_make 38 = .ok (.iload_n 2, 1) := by decide +kernel
theorem dX6_make_39 : decode cX6_make 39 = .ok (.putfield 34, 3) := by decide +kernel
theorem dX6_make_42 : decode cX6_make 42 = .ok (.aload 7, 2) := by decide +kernel
theorem dX6_make_44 : decode cX6_make 44 = .ok (.iload_n 3, 1) := by decide +kernel
theorem dX6_make_45 : decode cX6_make 45 = .ok (.putfield 37, 3) := by decide +kernel
theorem dX6_make_48 : decode cX6_make 48 = .ok (.aload 7, 2) := by decide +kernel
theorem dX6_make_50 : decode cX6_make 50 = .ok (.iload 4, 2) := by decide +kernel
theorem dX6_make_52 : decode cX6_make 52 = .ok (.putfield 40, 3) := by decide +kernel
theorem dX6_make_55 : decode cX6_make 55 = .ok (.aload 7, 2) := by decide +kernel
theorem dX6_make_57 : decode cX6_make 57 = .ok (.iload 5, 2) := by decide +kernel
theorem dX6_make_59 : decode cX6_make 59 = .ok (.iconst 1, 1) := by decide +kernel
theorem dX6_make_60 : decode cX6_make 60 = .ok (.iadd, 1) := by decide +kernel
theorem dX6_make_61 : decode cX6_make 61 = .ok (.putfield 43, 3) := by decide +kernel
theorem dX6_make_64 : decode cX6_make 64 = .ok (.aload 7, 2) := by decide +kernel
theorem dX6_make_66 : decode cX6_make 66 = .ok (.iconst 0, 1) := by decide +kernel
theorem dX6_make_67 : decode cX6_make 67 = .ok (.putfield 46, 3) := by decide +kernel
theorem dX6_make_70 : decode cX6_make 70 = .ok (.aload 7, 2) := by decide +kernel
theorem dX6_make_72 : decode cX6_make 72 = .ok (.iconst 0, 1) := by decide +kernel
theorem dX6_make_73 : decode cX6_make 73 = .ok (.putfield 49, 3) := by decide +kernel
theorem dX6_make_76 : decode cX6_make 76 = .ok (.aload 7, 2) := by decide +kernel
theorem dX6_make_78 : decode cX6_make 78 = .ok (.iconst (-1), 1) := by decide +kernel
theorem dX6_make_79 : decode cX6_make 79 = .ok (.putfield 52, 3) := by decide +kernel
theorem dX6_make_82 : decode cX6_make 82 = .ok (.aload 7, 2) := by decide +kernel
theorem dX6_make_84 : decode cX6_make 84 = .ok (.iload 6, 2) := by decide +kernel
theorem dX6_make_86 : decode cX6_make 86 = .ok (.putfield 55, 3) := by decide +kernel
theorem dX6_make_89 : decode cX6_make 89 = .ok (.aload 7, 2) := by decide +kernel
theorem dX6_make_91 : decode cX6_make 91 = .ok (.iconst (-1), 1) := by decide +kernel
theorem dX6_make_92 : decode cX6_make 92 = .ok (.putfield 58, 3) := by decide +kernel
theorem dX6_make_95 : decode cX6_make 95 = .ok (.aload 7, 2) := by decide +kernel
theorem dX6_make_97 : decode cX6_make 97 = .ok (.iconst 0, 1) := by decide +kernel
theorem dX6_make_98 : decode cX6_make 98 = .ok (.putfield 61, 3) := by decide +kernel
theorem dX6_make_101 : decode cX6_make 101 = .ok (.aload 7, 2) := by decide +kernel
theorem dX6_make_103 : decode cX6_make 103 = .ok (.iconst 0, 1) := by decide +kernel
theorem dX6_make_104 : decode cX6_make 104 = .ok (.putfield 64, 3) := by decide +kernel
theorem dX6_make_107 : decode cX6_make 107 = .ok (.aload 7, 2) := by decide +kernel
theorem dX6_make_109 : decode cX6_make 109 = .ok (.iconst (-1), 1) := by decide +kernel
theorem dX6_make_110 : decode cX6_make 110 = .ok (.putfield 67, 3) := by decide +kernel
theorem dX6_make_113 : decode cX6_make 113 = .ok (.iload_n 1, 1) := by decide +kernel
theorem dX6_make_114 : decode cX6_make 114 = .ok (.bipush 113, 2) := by decide +kernel
theorem dX6_make_116 : decode cX6_make 116 = .ok (.if_icmp .ne 13, 3) := by decide +kernel
theorem dX6_make_119 : decode cX6_make 119 = .ok (.aload_n 0, 1) := by decide +kernel
theorem dX6_make_120 : decode cX6_make 120 = .ok (.dup, 1) := by decide +kernel
theorem dX6_make_121 : decode cX6_make 121 = .ok (.getfield 24, 3) := by decide +kernel
theorem dX6_make_124 : decode cX6_make 124 = .ok (.iconst 1, 1) := by decide +kernel
theorem dX6_make_125 : decode cX6_make 125 = .ok (.iadd, 1) := by decide +kernel
theorem dX6_make_126 : decode cX6_make 126 = .ok (.putfield 24, 3) := by decide +kernel
theorem dX6_make_129 : decode cX6_make 129 = .ok (.aload_n 0, 1) := by decide +kernel
theorem dX6_make_130 : decode cX6_make 130 = .ok (.dup, 1) := by decide +kernel
theorem dX6_make_131 : decode cX6_make 131 = .ok (.getfield 20, 3) := by decide +kernel
theorem dX6_make_134 : decode cX6_make 134 = .ok (.iconst 1, 1) := by decide +kernel
theorem dX6_make_135 : decode cX6_make 135 = .ok (.iadd, 1) := by decide +kernel
theorem dX6_make_136 : decode cX6_make 136 = .ok (.putfield 20, 3) := by decide +kernel
theorem dX6_make_139 : decode cX6_make 139 = .ok (.aload 7, 2) := by decide +kernel
theorem dX6_make_141 : decode cX6_make 141 = .ok (.getfield 70, 3) := by decide +kernel
theorem dX6_make_144 : decode cX6_make 144 = .ok (.ireturn, 1) := by decide +kernel
theorem dX2_deliver_0 : decode cX2_deliver 0 = .ok (.aload_n 1, 1) := by decide +kernel
theorem dX2_deliver_1 : decode cX2_deliver 1 = .ok (.bipush 100, 2) := by decide +kernel
theorem dX2_deliver_3 : decode cX2_deliver 3 = .ok (.putfield 168, 3) := by decide +kernel
theorem dX2_deliver_6 : decode cX2_deliver 6 = .ok (.aload_n 1, 1) := by decide +kernel
theorem dX2_deliver_7 : decode cX2_deliver 7 = .ok (.aload_n 0, 1) := by decide +kernel
theorem dX2_deliver_8 : decode cX2_deliver 8 = .ok (.getfield 39, 3) := by decide +kernel
theorem dX2_deliver_11 : decode cX2_deliver 11 = .ok (.putfield 172, 3) := by decide +kernel
theorem dX2_deliver_14 : decode cX2_deliver 14 = .ok (.aload_n 1, 1) := by decide +kernel
theorem dX2_deliver_15 : decode cX2_deliver 15 = .ok (.getfield 175, 3) := by decide +kernel
theorem dX2_deliver_18 : decode cX2_deliver 18 = .ok (.bipush 113, 2) := by decide +kernel
theorem dX2_deliver_20 : decode cX2_deliver 20 = .ok (.if_icmp .ne 78, 3) := by decide +kernel
theorem dX2_deliver_23 : decode cX2_deliver 23 = .ok (.aload_n 0, 1) := by decide +kernel
theorem dX2_deliver_24 : decode cX2_deliver 24 = .ok (.getfield 31, 3) := by decide +kernel
theorem dX2_deliver_27 : decode cX2_deliver 27 = .ok (.aload_n 1, 1) := by decide +kernel
theorem dX2_deliver_28 : decode cX2_deliver 28 = .ok (.getfield 97, 3) := by decide +kernel
theorem dX2_deliver_31 : decode cX2_deliver 31 = .ok (.aaload, 1) := by decide +kernel
theorem dX2_deliver_32 : decode cX2_deliver 32 = .ok (.astore_n 2, 1) := by decide +kernel
theorem dX2_deliver_33 : decode cX2_deliver 33 = .ok (.aload_n 2, 1) := by decide +kernel
theorem dX2_deliver_34 : decode cX2_deliver 34 = .ok (.getfield 178, 3) := by decide +kernel
theorem dX2_deliver_37 : decode cX2_deliver 37 = .ok (.aload_n 1, 1) := by decide +kernel
theorem dX2_deliver_38 : decode cX2_deliver 38 = .ok (.getfield 183, 3) := by decide +kernel
theorem dX2_deliver_41 : decode cX2_deliver 41 = .ok (.iaload, 1) := by decide +kernel
theorem dX2_deliver_42 : decode cX2_deliver 42 = .ok (.istore_n 3, 1) := by decide +kernel
theorem dX2_deliver_43 : decode cX2_deliver 43 = .ok (.aload_n 2, 1) := by decide +kernel
theorem dX2_deliver_44 : decode cX2_deliver 44 = .ok (.getfield 178, 3) := by decide +kernel
theorem dX2_deliver_47 : decode cX2_deliver 47 = .ok (.aload_n 1, 1) := by decide +kernel
theorem dX2_deliver_48 : decode cX2_deliver 48 = .ok (.getfield 183, 3) := by decide +kernel
theorem dX2_deliver_51 : decode cX2_deliver 51 = .ok (.iload_n 3, 1) := by decide +kernel
theorem dX2_deliver_52 : decode cX2_deliver 52 = .ok (.aload_n 1, 1) := by decide +kernel
theorem dX2_deliver_53 : decode cX2_deliver 53 = .ok (.getfield 186, 3) := by decide +kernel
theorem dX2_deliver_56 : decode cX2_deliver 56 = .ok (.iadd, 1) := by decide +kernel
theorem dX2_deliver_57 : decode cX2_deliver 57 = .ok (.iastore, 1) := by decide +kernel
theorem dX2_deliver_58 : decode cX2_deliver 58 = .ok (.aload_n 0, 1) := by decide +kernel
theorem dX2_deliver_59 : decode cX2_deliver 59 = .ok (.getfield 27, 3) := by decide +kernel
theorem dX2_deliver_62 : decode cX2_deliver 62 = .ok (.dup, 1) := by decide +kernel
theorem dX2_deliver_63 : decode cX2_deliver 63 = .ok (.getfield 189, 3) := by decide +kernel
theorem dX2_deliver_66 : decode cX2_deliver 66 = .ok (.iconst 1, 1) := by decide +kernel
theorem dX2_deliver_67 : decode cX2_deliver 67 = .ok (.isub, 1) := by decide +kernel
theorem dX2_deliver_68 : decode cX2_deliver 68 = .ok (.putfield 189, 3) := by decide +kernel
theorem dX2_deliver_71 : decode cX2_deliver 71 = .ok (.aload_n 1, 1) := by decide +kernel
theorem dX2_deliver_72 : decode cX2_deliver 72 = .ok (.aload_n 0, 1) := by decide +kernel
theorem dX2_deliver_73 : decode cX2_deliver 73 = .ok (.getfield 27, 3) := by decide +kernel
theorem dX2_deliver_76 : decode cX2_deliver 76 = .ok (.bipush 97, 2) := by decide +kernel
theorem dX2_deliver_78 : decode cX2_deliver 78 = .ok (.aload_n 1, 1) := by decide +kernel
theorem dX2_deliver_79 : decode cX2_deliver 79 = .ok (.getfield 97, 3) := by decide +kernel
theorem dX2_deliver_82 : decode cX2_deliver 82 = .ok (.aload_n 1, 1) := by decide +kernel
theorem dX2_deliver_83 : decode cX2_deliver 83 = .ok (.getfield 192, 3) := by decide +kernel
theorem dX2_deliver_86 : decode cX2_deliver 86 = .ok (.iload_n 3, 1) := by decide +kernel
theorem dX2_deliver_87 : decode cX2_deliver 87 = .ok (.iconst 1, 1) := by decide +kernel
theorem dX2_deliver_88 : decode cX2_deliver 88 = .ok (.aload_n 0, 1) := by decide +kernel
theorem dX2_deliver_89 : decode cX2_deliver 89 = .ok (.getfield 35, 3) := by decide +kernel
theorem dX2_deliver_92 : decode cX2_deliver 92 = .ok (.invokevirtual 195, 3) := by decide +kernel
theorem dX2_deliver_95 : decode cX2_deliver 95 = .ok (.putfield 199, 3) := by decide +kernel
theorem dX2_deliver_98 : decode cX2_deliver 98 = .ok (.return_, 1) := by decide +kernel
def f_Ways_heading (μ : me_M) (v1 : Int32) (v2 : Int32) (v3 : Int32) : Option Int32 :=
  if v1 = v2 then
  (some (4 : Int32))
  else
  (if (μ 27 0 4) = (116 : Int32) then
  (me_bd (f_Ways_headingByTurns μ v1 v2 v3) (fun r8 =>
  some r8))
  else
  (me_bd (f_Net_alongX μ v1 v2) (fun r3 =>
  me_bd (f_Net_alongY μ v1 v2) (fun r4 =>
  if (μ 27 0 4) = (120 : Int32) then
  (if r3 = (-1 : Int32) then
  (some r4)
  else
  (some r3))
  else
  (if r4 = (-1 : Int32) then
  (some r3)
  else
  (some r4))))))
set_option maxHeartbeats 4000000 in
set_option maxRecDepth 100000 in
theorem z_Ways_heading {X : me_X} {B : me_B} {sz : Nat} (C : me_C X B RX9 cX9_heading 6 (some .int)) {μ : me_M} {v1 : Int32} {v2 : Int32} {v3 : Int32}   {r : Int32} (N : me_En X B sz (B, μ, .ok (some (me_i r))) 3 72 0 0) (hNx : me_Nx X) (hB : me_St B)   (hf : f_Ways_heading μ v1 v2 v3 = some r) : me_Z X B 0 0 μ 0 [(0, me_r 27 0), (1, me_i v1), (2, me_i v2), (3, me_i v3)] [] := by
  unfold f_Ways_heading at hf
  refine me_iload_n C 1 dX9_heading_0 rfl rfl ?_
  refine me_iload_n C 2 dX9_heading_1 rfl rfl ?_
  refine me_icmp_ne C (tgt := 7) dX9_heading_2 (by decide) (fun c1 => ?_) (fun c1 => ?_)
  · replace hf := me_in c1 hf
    refine me_aload_n C 0 (Or.inr (Or.inl ⟨_, rfl⟩)) dX9_heading_7 rfl rfl ?_
    refine me_geti C 4 fg_Ways_19 dX9_heading_8 rfl ?_
    refine me_bipush C (v := 116) dX9_heading_11 (by decide) ?_
    refine me_icmp_ne C (tgt := 24) dX9_heading_13 (by decide) (fun c2 => ?_) (fun c2 => ?_)
    · replace hf := me_in c2 hf
      refine me_aload_n C 0 (Or.inr (Or.inl ⟨_, rfl⟩)) dX9_heading_24 rfl rfl ?_
      refine me_getr C hB 0 (k' := 1) (i' := 0) fg_Ways_23 dX9_heading_25 rfl rfl ?_
      refine me_iload_n C 1 dX9_heading_28 rfl rfl ?_
      refine me_iload_n C 2 dX9_heading_29 rfl rfl ?_
      obtain ⟨r3, h_r3, hf⟩ := me_bs hf
      refine me_callV C N  (As := [me_i v1, me_i v2]) (st := []) 0 0 (c_Net_alongX hB h_r3) mv_Net_alongX ml_Ways_35 rfl rfl dX9_heading_30 rfl rfl ⟨by decide, by decide⟩ ⟨by decide, by decide, by decide, by decide⟩ (Nat.le_of_ble_eq_true rfl) ?_
      refine me_istore C dX9_heading_33 (by decide) (L' := [(4, me_i r3), (0, me_r 27 0), (1, me_i v1), (2, me_i v2), (3, me_i v3)]) rfl ?_
      refine me_aload_n C 0 (Or.inr (Or.inl ⟨_, rfl⟩)) dX9_heading_35 rfl rfl ?_
      refine me_getr C hB 0 (k' := 1) (i' := 0) fg_Ways_23 dX9_heading_36 rfl rfl ?_
      refine me_iload_n C 1 dX9_heading_39 rfl rfl ?_
      refine me_iload_n C 2 dX9_heading_40 rfl rfl ?_
      obtain ⟨r4, h_r4, hf⟩ := me_bs hf
      refine me_callV C N  (As := [me_i v1, me_i v2]) (st := []) 0 0 (c_Net_alongY hB h_r4) mv_Net_alongY ml_Ways_41 rfl rfl dX9_heading_41 rfl rfl ⟨by decide, by decide⟩ ⟨by decide, by decide, by decide, by decide⟩ (Nat.le_of_ble_eq_true rfl) ?_
      refine me_istore C dX9_heading_44 (by decide) (L' := [(5, me_i r4), (4, me_i r3), (0, me_r 27 0), (1, me_i v1), (2, me_i v2), (3, me_i v3)]) rfl ?_
      refine me_aload_n C 0 (Or.inr (Or.inl ⟨_, rfl⟩)) dX9_heading_46 rfl rfl ?_
      refine me_geti C 4 fg_Ways_19 dX9_heading_47 rfl ?_
      refine me_bipush C (v := 120) dX9_heading_50 (by decide) ?_
      refine me_icmp_ne C (tgt := 69) dX9_heading_52 (by decide) (fun c5 => ?_) (fun c5 => ?_)
      · replace hf := me_in c5 hf
        refine me_iload C dX9_heading_69 rfl ?_
        refine me_iconst C (v := -1) dX9_heading_71 (by decide) ?_
        refine me_icmp_eq C (tgt := 80) dX9_heading_72 (by decide) (fun c6 => ?_) (fun c6 => ?_)
        · replace hf := me_ip c6 hf
          refine me_iload C dX9_heading_80 rfl ?_
          exact me_iret C N dX9_heading_82 (me_nri _) (by cases hf; rfl) (by decide) (by decide)
        · replace hf := me_in c6 hf
          refine me_iload C dX9_heading_75 rfl ?_
          refine me_goto C (tgt := 82) dX9_heading_77 (by decide) ?_
          exact me_iret C N dX9_heading_82 (me_nri _) (by cases hf; rfl) (by decide) (by decide)
      · replace hf := me_ip c5 hf
        refine me_iload C dX9_heading_55 rfl ?_
        refine me_iconst C (v := -1) dX9_heading_57 (by decide) ?_
        refine me_icmp_eq C (tgt := 66) dX9_heading_58 (by decide) (fun c7 => ?_) (fun c7 => ?_)
        · replace hf := me_ip c7 hf
          refine me_iload C dX9_heading_66 rfl ?_
          exact me_iret C N dX9_heading_68 (me_nri _) (by cases hf; rfl) (by decide) (by decide)
        · replace hf := me_in c7 hf
          refine me_iload C dX9_heading_61 rfl ?_
          refine me_goto C (tgt := 68) dX9_heading_63 (by decide) ?_
          exact me_iret C N dX9_heading_68 (me_nri _) (by cases hf; rfl) (by decide) (by decide)
    · replace hf := me_ip c2 hf
      refine me_aload_n C 0 (Or.inr (Or.inl ⟨_, rfl⟩)) dX9_heading_16 rfl rfl ?_
      refine me_iload_n C 1 dX9_heading_17 rfl rfl ?_
      refine me_iload_n C 2 dX9_heading_18 rfl rfl ?_
      refine me_iload_n C 3 dX9_heading_19 rfl rfl ?_
      obtain ⟨r8, h_r8, hf⟩ := me_bs hf
      refine me_callV C N  (As := [me_i v1, me_i v2, me_i v3]) (st := []) 0 0 (c_Ways_headingByTurns hB h_r8) mv_Ways_headingByTurns ml_Ways_31 rfl rfl dX9_heading_20 rfl rfl ⟨by decide, by decide⟩ ⟨by decide, by decide, by decide, by decide⟩ (Nat.le_of_ble_eq_true rfl) ?_
      exact me_iret C N dX9_heading_23 (me_nri _) (by cases hf; rfl) (by decide) (by decide)
  · replace hf := me_ip c1 hf
    refine me_iconst C (v := 4) dX9_heading_5 (by decide) ?_
    exact me_iret C N dX9_heading_6 (me_nri _) (by cases hf; rfl) (by decide) (by decide)
theorem c_Ways_heading {B : me_B} (hB : me_St B) {μ : me_M} {v1 : Int32} {v2 : Int32} {v3 : Int32} {r : Int32}  (hf : f_Ways_heading μ v1 v2 v3 = some r) : ∀ l E z, l.stackTraces = false → me_Met l yX9_heading cX9_heading 6 (some .int) 3 72 0 0 E B μ z [me_r 27 0, me_i v1, me_i v2, me_i v3] (B, μ, .ok (some (me_i r))) :=
  fun _ _ _ hl => me_ofZ hl (by decide +kernel) (Nat.le_of_ble_eq_true rfl) (fun _ C N hNx => z_Ways_heading C N hNx hB  hf)

def f_Net_hasNode (μ : me_M) (v1 : Int32) : Option Int32 :=
  if v1 < 0 then
  (some (0 : Int32))
  else
  (if (μ 1 0 4) ≤ v1 then
  (some (0 : Int32))
  else
  (some (1 : Int32)))
set_option maxHeartbeats 4000000 in
set_option maxRecDepth 100000 in
theorem z_Net_hasNode {X : me_X} {B : me_B} {sz : Nat} (C : me_C X B RX3 cX3_hasNode 2 (some .boolean)) {μ : me_M} {v1 : Int32}   {r : Int32} (N : me_En X B sz (B, μ, .ok (some (me_i r))) 0 0 0 0) (hNx : me_Nx X) (hB : me_St B)   (hf : f_Net_hasNode μ v1 = some r) : me_Z X B 0 0 μ 0 [(0, me_r 1 0), (1, me_i v1)] [] := by
  unfold f_Net_hasNode at hf
  refine me_iload_n C 1 dX3_hasNode_0 rfl rfl ?_
  refine me_if_lt C (tgt := 16) dX3_hasNode_1 (by decide) (fun c1 => ?_) (fun c1 => ?_)
  · replace hf := me_ip c1 hf
    refine me_iconst C (v := 0) dX3_hasNode_16 (by decide) ?_
    exact me_iret C N dX3_hasNode_17 (by decide +kernel) (by cases hf; rfl) (by decide) (by decide)
  · replace hf := me_in c1 hf
    refine me_iload_n C 1 dX3_hasNode_4 rfl rfl ?_
    refine me_aload_n C 0 (Or.inr (Or.inl ⟨_, rfl⟩)) dX3_hasNode_5 rfl rfl ?_
    refine me_geti C 4 fg_Net_25 dX3_hasNode_6 rfl ?_
    refine me_icmp_ge C (tgt := 16) dX3_hasNode_9 (by decide) (fun c2 => ?_) (fun c2 => ?_)
    · replace hf := me_ip c2 hf
      refine me_iconst C (v := 0) dX3_hasNode_16 (by decide) ?_
      exact me_iret C N dX3_hasNode_17 (by decide +kernel) (by cases hf; rfl) (by decide) (by decide)
    · replace hf := me_in c2 hf
      refine me_iconst C (v := 1) dX3_hasNode_12 (by decide) ?_
      refine me_goto C (tgt := 17) dX3_hasNode_13 (by decide) ?_
      exact me_iret C N dX3_hasNode_17 (by decide +kernel) (by cases hf; rfl) (by decide) (by decide)
theorem c_Net_hasNode {B : me_B} (hB : me_St B) {μ : me_M} {v1 : Int32} {r : Int32}  (hf : f_Net_hasNode μ v1 = some r) : ∀ l E z, l.stackTraces = false → me_Met l yX3_hasNode cX3_hasNode 2 (some .boolean) 0 0 0 0 E B μ z [me_r 1 0, me_i v1] (B, μ, .ok (some (me_i r))) :=
  fun _ _ _ hl => me_ofZ hl (by decide +kernel) (Nat.le_of_ble_eq_true rfl) (fun _ C N hNx => z_Net_hasNode C N hNx hB  hf)

def f_Packet_isTail (μ : me_M) (v0 : Nat) (v1 : Int32) : Option Int32 :=
  if v1 = ((μ 8 v0 6) - (1 : Int32)) then
  (some (1 : Int32))
  else
  (some (0 : Int32))
set_option maxHeartbeats 4000000 in
set_option maxRecDepth 100000 in
theorem z_Packet_isTail {X : me_X} {B : me_B} {sz : Nat} (C : me_C X B RX4 cX4_isTail 2 (some .boolean)) {μ : me_M} {v0 : Nat} {v1 : Int32}   {r : Int32} (N : me_En X B sz (B, μ, .ok (some (me_i r))) 0 0 0 0) (hNx : me_Nx X) (hB : me_St B)   (hf : f_Packet_isTail μ v0 v1 = some r) : me_Z X B 0 0 μ 0 [(0, me_r 8 v0), (1, me_i v1)] [] := by
  unfold f_Packet_isTail at hf
  refine me_iload_n C 1 dX4_isTail_0 rfl rfl ?_
  refine me_aload_n C 0 (Or.inr (Or.inl ⟨_, rfl⟩)) dX4_isTail_1 rfl rfl ?_
  refine me_geti C 6 fg_Packet_17 dX4_isTail_2 rfl ?_
  refine me_iconst C (v := 1) dX4_isTail_5 (by decide) ?_
  refine me_isub C dX4_isTail_6 ?_
  refine me_icmp_ne C (tgt := 14) dX4_isTail_7 (by decide) (fun c1 => ?_) (fun c1 => ?_)
  · replace hf := me_in c1 hf
    refine me_iconst C (v := 0) dX4_isTail_14 (by decide) ?_
    exact me_iret C N dX4_isTail_15 (by decide +kernel) (by cases hf; rfl) (by decide) (by decide)
  · replace hf := me_ip c1 hf
    refine me_iconst C (v := 1) dX4_isTail_10 (by decide) ?_
    refine me_goto C (tgt := 15) dX4_isTail_11 (by decide) ?_
    exact me_iret C N dX4_isTail_15 (by decide +kernel) (by cases hf; rfl) (by decide) (by decide)
theorem c_Packet_isTail {B : me_B} (hB : me_St B) {μ : me_M} {v0 : Nat} {v1 : Int32} {r : Int32}  (hf : f_Packet_isTail μ v0 v1 = some r) : ∀ l E z, l.stackTraces = false → me_Met l yX4_isTail cX4_isTail 2 (some .boolean) 0 0 0 0 E B μ z [me_r 8 v0, me_i v1] (B, μ, .ok (some (me_i r))) :=
  fun _ _ _ hl => me_ofZ hl (by decide +kernel) (Nat.le_of_ble_eq_true rfl) (fun _ C N hNx => z_Packet_isTail C N hNx hB  hf)

def f_Row_copyPiece (μ : me_M) (v0 : Nat) (v1 : Int32) (v2 : Int32) : Option (me_M × Unit) :=
  me_gd (me_inb v1 4) (
  me_gd (me_inb v2 4) (
  me_lt (me_up μ 18 v0 (me_ix v2) (μ 18 v0 (me_ix v1))) (fun μ3 =>
  me_gd (me_inb v1 4) (
  me_gd (me_inb v2 4) (
  me_lt (me_up μ3 19 v0 (me_ix v2) (μ3 19 v0 (me_ix v1))) (fun μ6 =>
  me_gd (me_inb v1 4) (
  me_gd (me_inb v2 4) (
  me_lt (me_up μ6 20 v0 (me_ix v2) (μ6 20 v0 (me_ix v1))) (fun μ9 =>
  some (μ9, ()))))))))))
set_option maxHeartbeats 4000000 in
set_option maxRecDepth 100000 in
theorem z_Row_copyPiece {X : me_X} {B : me_B} {sz : Nat} (C : me_C X B RX8 cX8_copyPiece 3 none) {μ : me_M} {v0 : Nat} {v1 : Int32} {v2 : Int32}   {r : me_M × Unit} (N : me_En X B sz (B, r.1, .ok (none)) 0 0 0 0) (hNx : me_Nx X) (hB : me_St B)   (hf : f_Row_copyPiece μ v0 v1 v2 = some r) : me_Z X B 0 0 μ 0 [(0, me_r 17 v0), (1, me_i v1), (2, me_i v2)] [] := by
  unfold f_Row_copyPiece at hf
  refine me_aload_n C 0 (Or.inr (Or.inl ⟨_, rfl⟩)) dX8_copyPiece_0 rfl rfl ?_
  refine me_getr C hB 0 (k' := 18) (i' := v0) fg_Row_9 dX8_copyPiece_1 rfl rfl ?_
  refine me_iload_n C 2 dX8_copyPiece_4 rfl rfl ?_
  refine me_aload_n C 0 (Or.inr (Or.inl ⟨_, rfl⟩)) dX8_copyPiece_5 rfl rfl ?_
  refine me_getr C hB 0 (k' := 18) (i' := v0) fg_Row_9 dX8_copyPiece_6 rfl rfl ?_
  refine me_iload_n C 1 dX8_copyPiece_9 rfl rfl ?_
  obtain ⟨g1, hf⟩ := me_gs hf
  refine me_iald C rfl (fun _ => rfl) g1 dX8_copyPiece_10 ?_
  obtain ⟨g2, hf⟩ := me_gs hf
  obtain ⟨μ3, e_μ3, hf⟩ := me_lts hf
  refine me_iast C rfl (fun _ => rfl) g2 dX8_copyPiece_11 e_μ3 ?_
  refine me_aload_n C 0 (Or.inr (Or.inl ⟨_, rfl⟩)) dX8_copyPiece_12 rfl rfl ?_
  refine me_getr C hB 1 (k' := 19) (i' := v0) fg_Row_15 dX8_copyPiece_13 rfl rfl ?_
  refine me_iload_n C 2 dX8_copyPiece_16 rfl rfl ?_
  refine me_aload_n C 0 (Or.inr (Or.inl ⟨_, rfl⟩)) dX8_copyPiece_17 rfl rfl ?_
  refine me_getr C hB 1 (k' := 19) (i' := v0) fg_Row_15 dX8_copyPiece_18 rfl rfl ?_
  refine me_iload_n C 1 dX8_copyPiece_21 rfl rfl ?_
  obtain ⟨g4, hf⟩ := me_gs hf
  refine me_iald C rfl (fun _ => rfl) g4 dX8_copyPiece_22 ?_
  obtain ⟨g5, hf⟩ := me_gs hf
  obtain ⟨μ6, e_μ6, hf⟩ := me_lts hf
  refine me_iast C rfl (fun _ => rfl) g5 dX8_copyPiece_23 e_μ6 ?_
  refine me_aload_n C 0 (Or.inr (Or.inl ⟨_, rfl⟩)) dX8_copyPiece_24 rfl rfl ?_
  refine me_getr C hB 2 (k' := 20) (i' := v0) fg_Row_18 dX8_copyPiece_25 rfl rfl ?_
  refine me_iload_n C 2 dX8_copyPiece_28 rfl rfl ?_
  refine me_aload_n C 0 (Or.inr (Or.inl ⟨_, rfl⟩)) dX8_copyPiece_29 rfl rfl ?_
  refine me_getr C hB 2 (k' := 20) (i' := v0) fg_Row_18 dX8_copyPiece_30 rfl rfl ?_
  refine me_iload_n C 1 dX8_copyPiece_33 rfl rfl ?_
  obtain ⟨g7, hf⟩ := me_gs hf
  refine me_iald C rfl (fun _ => rfl) g7 dX8_copyPiece_34 ?_
  obtain ⟨g8, hf⟩ := me_gs hf
  obtain ⟨μ9, e_μ9, hf⟩ := me_lts hf
  refine me_iast C rfl (fun _ => rfl) g8 dX8_copyPiece_35 e_μ9 ?_
  exact me_vret C N dX8_copyPiece_36 (by cases hf; rfl) (by decide) (by decide)
theorem c_Row_copyPiece {B : me_B} (hB : me_St B) {μ : me_M} {v0 : Nat} {v1 : Int32} {v2 : Int32} {μ' : me_M} {r : Unit}  (hf : f_Row_copyPiece μ v0 v1 v2 = some (μ', r)) : ∀ l E z, l.stackTraces = false → me_Met l yX8_copyPiece cX8_copyPiece 3 none 0 0 0 0 E B μ z [me_r 17 v0, me_i v1, me_i v2] (B, μ', .ok (none)) :=
  fun _ _ _ hl => me_ofZ hl (by decide +kernel) (Nat.le_of_ble_eq_true rfl) (fun _ C N hNx => z_Row_copyPiece C N hNx hB  hf)

def f_Row_giveFirst_b16 (K16 : me_M → Nat → Int32 → Option (me_M × Unit)) (μ : me_M) (v0 : Nat) (v3 : Int32) : Option (me_M × Unit) :=
  if (μ 17 v0 3) ≤ v3 then
  (me_lt (me_up μ 17 v0 3 (me_max' (0 : Int32) ((μ 17 v0 3) - (1 : Int32)))) (fun μ2 =>
  some (μ2, ())))
  else
  (me_b2 (f_Row_copyPiece μ v0 v3 (v3 - (1 : Int32))) (fun μ4 r3 =>
  me_lt (me_inc v3 (1)) (fun x5 =>
  K16 μ4 v0 x5)))
set_option maxHeartbeats 4000000 in
set_option maxRecDepth 100000 in
theorem z_Row_giveFirst_b16 {X : me_X} {B : me_B} {sz : Nat} (C : me_C X B RX8 cX8_giveFirst 4 none) {μ : me_M} {v0 : Nat} {v3 : Int32}  {K16 : me_M → Nat → Int32 → Option (me_M × Unit)} {r : me_M × Unit} (N : me_En X B sz (B, r.1, .ok (none)) 1 24 0 0) (hNx : me_Nx X) (hB : me_St B) (hK16 : ∀ (μ : me_M) (v0 : Nat) (v3 : Int32), K16 μ v0 v3 = some r → me_Z X B 0 0 μ 16 [(0, me_r 17 v0), (3, me_i v3)] [])  (hf : f_Row_giveFirst_b16 K16 μ v0 v3 = some r) : me_Z X B 0 0 μ 16 [(0, me_r 17 v0), (3, me_i v3)] [] := by
  unfold f_Row_giveFirst_b16 at hf
  refine me_iload_n C 3 dX8_giveFirst_16 rfl rfl ?_
  refine me_aload_n C 0 (Or.inr (Or.inl ⟨_, rfl⟩)) dX8_giveFirst_17 rfl rfl ?_
  refine me_geti C 3 fg_Row_21 dX8_giveFirst_18 rfl ?_
  refine me_icmp_ge C (tgt := 38) dX8_giveFirst_21 (by decide) (fun c1 => ?_) (fun c1 => ?_)
  · replace hf := me_ip c1 hf
    refine me_aload_n C 0 (Or.inr (Or.inl ⟨_, rfl⟩)) dX8_giveFirst_38 rfl rfl ?_
    refine me_iconst C (v := 0) dX8_giveFirst_39 (by decide) ?_
    refine me_aload_n C 0 (Or.inr (Or.inl ⟨_, rfl⟩)) dX8_giveFirst_40 rfl rfl ?_
    refine me_geti C 3 fg_Row_21 dX8_giveFirst_41 rfl ?_
    refine me_iconst C (v := 1) dX8_giveFirst_44 (by decide) ?_
    refine me_isub C dX8_giveFirst_45 ?_
    refine me_mmax C N bl_Row_41 dX8_giveFirst_46 ⟨by decide, by decide⟩ (Nat.le_of_ble_eq_true rfl) (by decide) (by decide) ?_
    obtain ⟨μ2, e_μ2, hf⟩ := me_lts hf
    refine me_puti C 3 fw_Row_21 dX8_giveFirst_49 rfl (me_nri _) e_μ2 ?_
    exact me_vret C N dX8_giveFirst_52 (by cases hf; rfl) (by decide) (by decide)
  · replace hf := me_in c1 hf
    refine me_aload_n C 0 (Or.inr (Or.inl ⟨_, rfl⟩)) dX8_giveFirst_24 rfl rfl ?_
    refine me_iload_n C 3 dX8_giveFirst_25 rfl rfl ?_
    refine me_iload_n C 3 dX8_giveFirst_26 rfl rfl ?_
    refine me_iconst C (v := 1) dX8_giveFirst_27 (by decide) ?_
    refine me_isub C dX8_giveFirst_28 ?_
    obtain ⟨μ4, r3, h_r3, hf⟩ := me_bs2 hf
    refine me_callV0 C N  (As := [me_i v3, me_i (v3 - (1 : Int32))]) (st := []) 0 0 (c_Row_copyPiece hB h_r3) mv_Row_copyPiece ml_Row_37 rfl rfl dX8_giveFirst_29 rfl rfl ⟨by decide, by decide⟩ ⟨by decide, by decide, by decide, by decide⟩ (Nat.le_of_ble_eq_true rfl) ?_
    obtain ⟨x5, e_x5, hf⟩ := me_lts hf
    refine me_iinc C (v := x5) (L' := [(3, me_i x5), (0, me_r 17 v0)]) dX8_giveFirst_32 rfl e_x5.symm (by decide) rfl ?_
    refine me_goto C (tgt := 16) dX8_giveFirst_35 (by decide) ?_
    refine me_dropI [(0, me_r 17 v0), (3, me_i x5)] [1, 0] rfl ?_
    exact hK16 μ4 v0 x5 hf
def f_Row_giveFirst_h16  : Nat → me_M → Nat → Int32 → Option (me_M × Unit)
  | 0, _, _, _ => none
  | n + 1, μ, v0, v3 => f_Row_giveFirst_b16 (f_Row_giveFirst_h16 n) μ v0 v3
set_option maxHeartbeats 4000000 in
set_option maxRecDepth 100000 in
theorem z_Row_giveFirst_h16 {X : me_X} {B : me_B} {sz : Nat} (C : me_C X B RX8 cX8_giveFirst 4 none)  {r : me_M × Unit} (N : me_En X B sz (B, r.1, .ok (none)) 1 24 0 0) (hNx : me_Nx X) (hB : me_St B)  : ∀ (n : Nat) (μ : me_M) (v0 : Nat) (v3 : Int32), f_Row_giveFirst_h16 n μ v0 v3 = some r → me_Z X B 0 0 μ 16 [(0, me_r 17 v0), (3, me_i v3)] [] := by
  intro n
  induction n with
  | zero => intro μ v0 v3  h; exact absurd (show (none : Option (me_M × Unit)) = some r from h) (fun q => by cases q)
  | succ n ih => intro μ v0 v3  h; exact z_Row_giveFirst_b16 C N hNx hB  (K16 := f_Row_giveFirst_h16 n) ih  h
def f_Row_giveFirst (μ : me_M) (v0 : Nat) (v1 : Int32) (v2 : Int32) : Option (me_M × Unit) :=
  me_lt (me_up μ 17 v0 7 v2) (fun μ1 =>
  if v1 = 0 then
  (f_Row_giveFirst_h16 me_FU μ1 v0 (1 : Int32))
  else
  (me_lt (me_up μ1 17 v0 5 (-1 : Int32)) (fun μ3 =>
  f_Row_giveFirst_h16 me_FU μ3 v0 (1 : Int32))))
set_option maxHeartbeats 4000000 in
set_option maxRecDepth 100000 in
theorem z_Row_giveFirst {X : me_X} {B : me_B} {sz : Nat} (C : me_C X B RX8 cX8_giveFirst 4 none) {μ : me_M} {v0 : Nat} {v1 : Int32} {v2 : Int32}   {r : me_M × Unit} (N : me_En X B sz (B, r.1, .ok (none)) 1 24 0 0) (hNx : me_Nx X) (hB : me_St B)   (hf : f_Row_giveFirst μ v0 v1 v2 = some r) : me_Z X B 0 0 μ 0 [(0, me_r 17 v0), (1, me_i v1), (2, me_i v2)] [] := by
  unfold f_Row_giveFirst at hf
  refine me_aload_n C 0 (Or.inr (Or.inl ⟨_, rfl⟩)) dX8_giveFirst_0 rfl rfl ?_
  refine me_iload_n C 2 dX8_giveFirst_1 rfl rfl ?_
  obtain ⟨μ1, e_μ1, hf⟩ := me_lts hf
  refine me_puti C 7 fw_Row_31 dX8_giveFirst_2 rfl (me_nri _) e_μ1 ?_
  refine me_iload_n C 1 dX8_giveFirst_5 rfl rfl ?_
  refine me_if_eq C (tgt := 14) dX8_giveFirst_6 (by decide) (fun c2 => ?_) (fun c2 => ?_)
  · replace hf := me_ip c2 hf
    refine me_iconst C (v := 1) dX8_giveFirst_14 (by decide) ?_
    refine me_istore_n C 3 dX8_giveFirst_15 rfl (by decide) (L' := [(3, me_i (1 : Int32)), (0, me_r 17 v0), (1, me_i v1), (2, me_i v2)]) rfl ?_
    refine me_dropI [(0, me_r 17 v0), (3, me_i (1 : Int32))] [1, 0] rfl ?_
    exact z_Row_giveFirst_h16 C N hNx hB me_FU μ1 v0 (1 : Int32) hf
  · replace hf := me_in c2 hf
    refine me_aload_n C 0 (Or.inr (Or.inl ⟨_, rfl⟩)) dX8_giveFirst_9 rfl rfl ?_
    refine me_iconst C (v := -1) dX8_giveFirst_10 (by decide) ?_
    obtain ⟨μ3, e_μ3, hf⟩ := me_lts hf
    refine me_puti C 5 fw_Row_25 dX8_giveFirst_11 rfl (me_nri _) e_μ3 ?_
    refine me_iconst C (v := 1) dX8_giveFirst_14 (by decide) ?_
    refine me_istore_n C 3 dX8_giveFirst_15 rfl (by decide) (L' := [(3, me_i (1 : Int32)), (0, me_r 17 v0), (1, me_i v1), (2, me_i v2)]) rfl ?_
    refine me_dropI [(0, me_r 17 v0), (3, me_i (1 : Int32))] [1, 0] rfl ?_
    exact z_Row_giveFirst_h16 C N hNx hB me_FU μ3 v0 (1 : Int32) hf
theorem c_Row_giveFirst {B : me_B} (hB : me_St B) {μ : me_M} {v0 : Nat} {v1 : Int32} {v2 : Int32} {μ' : me_M} {r : Unit}  (hf : f_Row_giveFirst μ v0 v1 v2 = some (μ', r)) : ∀ l E z, l.stackTraces = false → me_Met l yX8_giveFirst cX8_giveFirst 4 none 1 24 0 0 E B μ z [me_r 17 v0, me_i v1, me_i v2] (B, μ', .ok (none)) :=
  fun _ _ _ hl => me_ofZ hl (by decide +kernel) (Nat.le_of_ble_eq_true rfl) (fun _ C N hNx => z_Row_giveFirst C N hNx hB  hf)

def f_Row_addPiece (μ : me_M) (v0 : Nat) (v1 : Int32) (v2 : Int32) (v3 : Int32) : Option (me_M × Unit) :=
  if (4 : Int32) ≤ (μ 17 v0 3) then
  (some (μ, ()))
  else
  (me_gd (me_inb (μ 17 v0 3) 4) (
  me_lt (me_up μ 18 v0 (me_ix (μ 17 v0 3)) v1) (fun μ3 =>
  me_gd (me_inb (μ3 17 v0 3) 4) (
  me_lt (me_up μ3 19 v0 (me_ix (μ3 17 v0 3)) v2) (fun μ5 =>
  me_gd (me_inb (μ5 17 v0 3) 4) (
  me_lt (me_up μ5 20 v0 (me_ix (μ5 17 v0 3)) v3) (fun μ7 =>
  me_lt (me_up μ7 17 v0 3 ((μ7 17 v0 3) + (1 : Int32))) (fun μ8 =>
  some (μ8, ())))))))))
set_option maxHeartbeats 4000000 in
set_option maxRecDepth 100000 in
theorem z_Row_addPiece {X : me_X} {B : me_B} {sz : Nat} (C : me_C X B RX8 cX8_addPiece 4 none) {μ : me_M} {v0 : Nat} {v1 : Int32} {v2 : Int32} {v3 : Int32}   {r : me_M × Unit} (N : me_En X B sz (B, r.1, .ok (none)) 0 0 0 0) (hNx : me_Nx X) (hB : me_St B)   (hf : f_Row_addPiece μ v0 v1 v2 v3 = some r) : me_Z X B 0 0 μ 0 [(0, me_r 17 v0), (1, me_i v1), (2, me_i v2), (3, me_i v3)] [] := by
  unfold f_Row_addPiece at hf
  refine me_aload_n C 0 (Or.inr (Or.inl ⟨_, rfl⟩)) dX8_addPiece_0 rfl rfl ?_
  refine me_geti C 3 fg_Row_21 dX8_addPiece_1 rfl ?_
  refine me_iconst C (v := 4) dX8_addPiece_4 (by decide) ?_
  refine me_icmp_ge C (tgt := 48) dX8_addPiece_5 (by decide) (fun c1 => ?_) (fun c1 => ?_)
  · replace hf := me_ip c1 hf
    exact me_vret C N dX8_addPiece_48 (by cases hf; rfl) (by decide) (by decide)
  · replace hf := me_in c1 hf
    refine me_aload_n C 0 (Or.inr (Or.inl ⟨_, rfl⟩)) dX8_addPiece_8 rfl rfl ?_
    refine me_getr C hB 0 (k' := 18) (i' := v0) fg_Row_9 dX8_addPiece_9 rfl rfl ?_
    refine me_aload_n C 0 (Or.inr (Or.inl ⟨_, rfl⟩)) dX8_addPiece_12 rfl rfl ?_
    refine me_geti C 3 fg_Row_21 dX8_addPiece_13 rfl ?_
    refine me_iload_n C 1 dX8_addPiece_16 rfl rfl ?_
    obtain ⟨g2, hf⟩ := me_gs hf
    obtain ⟨μ3, e_μ3, hf⟩ := me_lts hf
    refine me_iast C rfl (fun _ => rfl) g2 dX8_addPiece_17 e_μ3 ?_
    refine me_aload_n C 0 (Or.inr (Or.inl ⟨_, rfl⟩)) dX8_addPiece_18 rfl rfl ?_
    refine me_getr C hB 1 (k' := 19) (i' := v0) fg_Row_15 dX8_addPiece_19 rfl rfl ?_
    refine me_aload_n C 0 (Or.inr (Or.inl ⟨_, rfl⟩)) dX8_addPiece_22 rfl rfl ?_
    refine me_geti C 3 fg_Row_21 dX8_addPiece_23 rfl ?_
    refine me_iload_n C 2 dX8_addPiece_26 rfl rfl ?_
    obtain ⟨g4, hf⟩ := me_gs hf
    obtain ⟨μ5, e_μ5, hf⟩ := me_lts hf
    refine me_iast C rfl (fun _ => rfl) g4 dX8_addPiece_27 e_μ5 ?_
    refine me_aload_n C 0 (Or.inr (Or.inl ⟨_, rfl⟩)) dX8_addPiece_28 rfl rfl ?_
    refine me_getr C hB 2 (k' := 20) (i' := v0) fg_Row_18 dX8_addPiece_29 rfl rfl ?_
    refine me_aload_n C 0 (Or.inr (Or.inl ⟨_, rfl⟩)) dX8_addPiece_32 rfl rfl ?_
    refine me_geti C 3 fg_Row_21 dX8_addPiece_33 rfl ?_
    refine me_iload_n C 3 dX8_addPiece_36 rfl rfl ?_
    obtain ⟨g6, hf⟩ := me_gs hf
    obtain ⟨μ7, e_μ7, hf⟩ := me_lts hf
    refine me_iast C rfl (fun _ => rfl) g6 dX8_addPiece_37 e_μ7 ?_
    refine me_aload_n C 0 (Or.inr (Or.inl ⟨_, rfl⟩)) dX8_addPiece_38 rfl rfl ?_
    refine me_dup C rfl dX8_addPiece_39 ?_
    refine me_geti C 3 fg_Row_21 dX8_addPiece_40 rfl ?_
    refine me_iconst C (v := 1) dX8_addPiece_43 (by decide) ?_
    refine me_iadd C dX8_addPiece_44 ?_
    obtain ⟨μ8, e_μ8, hf⟩ := me_lts hf
    refine me_puti C 3 fw_Row_21 dX8_addPiece_45 rfl (me_nri _) e_μ8 ?_
    exact me_vret C N dX8_addPiece_48 (by cases hf; rfl) (by decide) (by decide)
theorem c_Row_addPiece {B : me_B} (hB : me_St B) {μ : me_M} {v0 : Nat} {v1 : Int32} {v2 : Int32} {v3 : Int32} {μ' : me_M} {r : Unit}  (hf : f_Row_addPiece μ v0 v1 v2 v3 = some (μ', r)) : ∀ l E z, l.stackTraces = false → me_Met l yX8_addPiece cX8_addPiece 4 none 0 0 0 0 E B μ z [me_r 17 v0, me_i v1, me_i v2, me_i v3] (B, μ', .ok (none)) :=
  fun _ _ _ hl => me_ofZ hl (by decide +kernel) (Nat.le_of_ble_eq_true rfl) (fun _ C N hNx => z_Row_addPiece C N hNx hB  hf)

def f_Mover_givesAhead_b52 (μ : me_M) (s0 : Nat) : Option (me_M × Int32) :=
  me_lt (me_up μ 13 s0 4 (1 : Int32)) (fun μ1 =>
  some (μ1, (0 : Int32)))
set_option maxHeartbeats 4000000 in
set_option maxRecDepth 100000 in
theorem z_Mover_givesAhead_b52 {X : me_X} {B : me_B} {sz : Nat} (C : me_C X B RX2 cX2_givesAhead 8 (some .boolean)) {μ : me_M} {s0 : Nat}   {r : me_M × Int32} (N : me_En X B sz (B, r.1, .ok (some (me_i r.2))) 2 47 0 0) (hNx : me_Nx X) (hB : me_St B)   (hf : f_Mover_givesAhead_b52 μ s0 = some r) : me_Z X B 0 0 μ 52 [] [me_r 13 s0] := by
  unfold f_Mover_givesAhead_b52 at hf
  refine me_iconst C (v := 1) dX2_givesAhead_52 (by decide) ?_
  refine me_goto C (tgt := 57) dX2_givesAhead_53 (by decide) ?_
  obtain ⟨μ1, e_μ1, hf⟩ := me_lts hf
  refine me_puti C 4 fw_Mover_51 dX2_givesAhead_57 rfl (by decide +kernel) e_μ1 ?_
  refine me_iconst C (v := 0) dX2_givesAhead_60 (by decide) ?_
  exact me_iret C N dX2_givesAhead_61 (by decide +kernel) (by cases hf; rfl) (by decide) (by decide)
def f_Mover_givesAhead_b136 (μ : me_M) (v3 : Nat) (v4 : Nat) (v5 : Int32) (v7 : Nat) : Option (me_M × Int32) :=
  me_bd (f_Packet_isTail μ v4 v5) (fun r1 =>
  me_b2 (f_Row_giveFirst μ v3 r1 (μ 30 0 6)) (fun μ3 r2 =>
  me_b2 (f_Row_addPiece μ3 v7 (μ3 8 v4 0) v5 (μ3 30 0 6)) (fun μ5 r4 =>
  some (μ5, (1 : Int32)))))
set_option maxHeartbeats 4000000 in
set_option maxRecDepth 100000 in
theorem z_Mover_givesAhead_b136 {X : me_X} {B : me_B} {sz : Nat} (C : me_C X B RX2 cX2_givesAhead 8 (some .boolean)) {μ : me_M} {v3 : Nat} {v4 : Nat} {v5 : Int32} {v7 : Nat}   {r : me_M × Int32} (N : me_En X B sz (B, r.1, .ok (some (me_i r.2))) 2 47 0 0) (hNx : me_Nx X) (hB : me_St B)   (hf : f_Mover_givesAhead_b136 μ v3 v4 v5 v7 = some r) : me_Z X B 0 0 μ 136 [(0, me_r 30 0), (3, me_r 17 v3), (4, me_r 8 v4), (5, me_i v5), (7, me_r 17 v7)] [] := by
  unfold f_Mover_givesAhead_b136 at hf
  refine me_aload_n C 3 (Or.inr (Or.inl ⟨_, rfl⟩)) dX2_givesAhead_136 rfl rfl ?_
  refine me_aload C (Or.inr (Or.inl ⟨_, rfl⟩)) dX2_givesAhead_137 rfl ?_
  refine me_iload C dX2_givesAhead_139 rfl ?_
  obtain ⟨r1, h_r1, hf⟩ := me_bs hf
  refine me_callV C N  (As := [me_i v5]) (st := [me_r 17 v3]) 0 0 (c_Packet_isTail hB h_r1) mv_Packet_isTail ml_Mover_151 rfl rfl dX2_givesAhead_141 rfl rfl ⟨by decide, by decide⟩ ⟨by decide, by decide, by decide, by decide⟩ (Nat.le_of_ble_eq_true rfl) ?_
  refine me_aload_n C 0 (Or.inr (Or.inl ⟨_, rfl⟩)) dX2_givesAhead_144 rfl rfl ?_
  refine me_geti C 6 fg_Mover_39 dX2_givesAhead_145 rfl ?_
  obtain ⟨μ3, r2, h_r2, hf⟩ := me_bs2 hf
  refine me_callV0 C N  (As := [me_i r1, me_i (μ 30 0 6)]) (st := []) 0 0 (c_Row_giveFirst hB h_r2) mv_Row_giveFirst ml_Mover_154 rfl rfl dX2_givesAhead_148 rfl rfl ⟨by decide, by decide⟩ ⟨by decide, by decide, by decide, by decide⟩ (Nat.le_of_ble_eq_true rfl) ?_
  refine me_aload C (Or.inr (Or.inl ⟨_, rfl⟩)) dX2_givesAhead_151 rfl ?_
  refine me_aload C (Or.inr (Or.inl ⟨_, rfl⟩)) dX2_givesAhead_153 rfl ?_
  refine me_geti C 0 fg_Mover_145 dX2_givesAhead_155 rfl ?_
  refine me_iload C dX2_givesAhead_158 rfl ?_
  refine me_aload_n C 0 (Or.inr (Or.inl ⟨_, rfl⟩)) dX2_givesAhead_160 rfl rfl ?_
  refine me_geti C 6 fg_Mover_39 dX2_givesAhead_161 rfl ?_
  obtain ⟨μ5, r4, h_r4, hf⟩ := me_bs2 hf
  refine me_callV0 C N  (As := [me_i (μ3 8 v4 0), me_i v5, me_i (μ3 30 0 6)]) (st := []) 0 0 (c_Row_addPiece hB h_r4) mv_Row_addPiece ml_Mover_158 rfl rfl dX2_givesAhead_164 rfl rfl ⟨by decide, by decide⟩ ⟨by decide, by decide, by decide, by decide⟩ (Nat.le_of_ble_eq_true rfl) ?_
  refine me_iconst C (v := 1) dX2_givesAhead_167 (by decide) ?_
  exact me_iret C N dX2_givesAhead_168 (by decide +kernel) (by cases hf; rfl) (by decide) (by decide)
def f_Mover_givesAhead_b110 (μ : me_M) (v1 : Int32) (v2 : Int32) (v3 : Nat) (v4 : Nat) (v5 : Int32) (v7 : Nat) : Option (me_M × Int32) :=
  if v5 = 0 then
  (me_lt (me_up μ 17 v3 6 v2) (fun μ2 =>
  me_lt (me_up μ2 17 v7 5 (μ2 8 v4 0)) (fun μ3 =>
  me_lt (me_up μ3 8 v4 9 v1) (fun μ4 =>
  f_Mover_givesAhead_b136 μ4 v3 v4 v5 v7))))
  else
  (f_Mover_givesAhead_b136 μ v3 v4 v5 v7)
set_option maxHeartbeats 4000000 in
set_option maxRecDepth 100000 in
theorem z_Mover_givesAhead_b110 {X : me_X} {B : me_B} {sz : Nat} (C : me_C X B RX2 cX2_givesAhead 8 (some .boolean)) {μ : me_M} {v1 : Int32} {v2 : Int32} {v3 : Nat} {v4 : Nat} {v5 : Int32} {v7 : Nat}   {r : me_M × Int32} (N : me_En X B sz (B, r.1, .ok (some (me_i r.2))) 2 47 0 0) (hNx : me_Nx X) (hB : me_St B)   (hf : f_Mover_givesAhead_b110 μ v1 v2 v3 v4 v5 v7 = some r) : me_Z X B 0 0 μ 110 [(0, me_r 30 0), (1, me_i v1), (2, me_i v2), (3, me_r 17 v3), (4, me_r 8 v4), (5, me_i v5), (7, me_r 17 v7)] [] := by
  unfold f_Mover_givesAhead_b110 at hf
  refine me_iload C dX2_givesAhead_110 rfl ?_
  refine me_if_ne C (tgt := 136) dX2_givesAhead_112 (by decide) (fun c1 => ?_) (fun c1 => ?_)
  · replace hf := me_in c1 hf
    refine me_dropI [(0, me_r 30 0), (3, me_r 17 v3), (4, me_r 8 v4), (5, me_i v5), (7, me_r 17 v7)] [0, 3, 4, 5, 6] rfl ?_
    exact z_Mover_givesAhead_b136 C N hNx hB hf
  · replace hf := me_ip c1 hf
    refine me_aload_n C 3 (Or.inr (Or.inl ⟨_, rfl⟩)) dX2_givesAhead_115 rfl rfl ?_
    refine me_iload_n C 2 dX2_givesAhead_116 rfl rfl ?_
    obtain ⟨μ2, e_μ2, hf⟩ := me_lts hf
    refine me_puti C 6 fw_Mover_109 dX2_givesAhead_117 rfl (me_nri _) e_μ2 ?_
    refine me_aload C (Or.inr (Or.inl ⟨_, rfl⟩)) dX2_givesAhead_120 rfl ?_
    refine me_aload C (Or.inr (Or.inl ⟨_, rfl⟩)) dX2_givesAhead_122 rfl ?_
    refine me_geti C 0 fg_Mover_145 dX2_givesAhead_124 rfl ?_
    obtain ⟨μ3, e_μ3, hf⟩ := me_lts hf
    refine me_puti C 5 fw_Mover_142 dX2_givesAhead_127 rfl (me_nri _) e_μ3 ?_
    refine me_aload C (Or.inr (Or.inl ⟨_, rfl⟩)) dX2_givesAhead_130 rfl ?_
    refine me_iload_n C 1 dX2_givesAhead_132 rfl rfl ?_
    obtain ⟨μ4, e_μ4, hf⟩ := me_lts hf
    refine me_puti C 9 fw_Mover_148 dX2_givesAhead_133 rfl (me_nri _) e_μ4 ?_
    refine me_dropI [(0, me_r 30 0), (3, me_r 17 v3), (4, me_r 8 v4), (5, me_i v5), (7, me_r 17 v7)] [0, 3, 4, 5, 6] rfl ?_
    exact z_Mover_givesAhead_b136 C N hNx hB hf
def f_Mover_givesAhead (μ : me_M) (v1 : Int32) (v2 : Int32) (v3 : Nat) (v4 : Nat) : Option (me_M × Int32) :=
  me_bd (f_Net_hasNode μ v1) (fun r1 =>
  if r1 = 0 then
  (some (μ, (0 : Int32)))
  else
  (me_lt ((μ 19 v3 0)) (fun x3 =>
  me_gd (me_inb v1 16) (
  if (μ 13 (me_ix v1) 3) = 0 then
  (if (μ 13 (me_ix v1) 4) = 0 then
  (if x3 = 0 then
  (f_Mover_givesAhead_b52 μ (me_ix v1))
  else
  (me_lt (me_up μ 13 (me_ix v1) 4 (0 : Int32)) (fun μ15 =>
  some (μ15, (0 : Int32)))))
  else
  (f_Mover_givesAhead_b52 μ (me_ix v1)))
  else
  (me_bd (f_Packet_channel μ v4) (fun r6 =>
  me_bd (f_Net_opposite μ v2) (fun r7 =>
  me_gd (me_inb ((r6 * (5 : Int32)) + r7) 10) (
  me_bd (f_Row_hasPlace μ (10 * (me_ix v1) + (me_ix ((r6 * (5 : Int32)) + r7)))) (fun r9 =>
  if r9 = 0 then
  (some (μ, (0 : Int32)))
  else
  (if x3 = 0 then
  (if (μ 17 (10 * (me_ix v1) + (me_ix ((r6 * (5 : Int32)) + r7))) 5) = (-1 : Int32) then
  (f_Mover_givesAhead_b110 μ v1 v2 v3 v4 x3 (10 * (me_ix v1) + (me_ix ((r6 * (5 : Int32)) + r7))))
  else
  (some (μ, (0 : Int32))))
  else
  (f_Mover_givesAhead_b110 μ v1 v2 v3 v4 x3 (10 * (me_ix v1) + (me_ix ((r6 * (5 : Int32)) + r7))))))))))))))
set_option maxHeartbeats 4000000 in
set_option maxRecDepth 100000 in
theorem z_Mover_givesAhead {X : me_X} {B : me_B} {sz : Nat} (C : me_C X B RX2 cX2_givesAhead 8 (some .boolean)) {μ : me_M} {v1 : Int32} {v2 : Int32} {v3 : Nat} {v4 : Nat}   {r : me_M × Int32} (N : me_En X B sz (B, r.1, .ok (some (me_i r.2))) 2 47 0 0) (hNx : me_Nx X) (hB : me_St B)   (hf : f_Mover_givesAhead μ v1 v2 v3 v4 = some r) : me_Z X B 0 0 μ 0 [(0, me_r 30 0), (1, me_i v1), (2, me_i v2), (3, me_r 17 v3), (4, me_r 8 v4)] [] := by
  unfold f_Mover_givesAhead at hf
  refine me_aload_n C 0 (Or.inr (Or.inl ⟨_, rfl⟩)) dX2_givesAhead_0 rfl rfl ?_
  refine me_getr C hB 0 (k' := 1) (i' := 0) fg_Mover_15 dX2_givesAhead_1 rfl rfl ?_
  refine me_iload_n C 1 dX2_givesAhead_4 rfl rfl ?_
  obtain ⟨r1, h_r1, hf⟩ := me_bs hf
  refine me_callV C N  (As := [me_i v1]) (st := []) 0 0 (c_Net_hasNode hB h_r1) mv_Net_hasNode ml_Mover_131 rfl rfl dX2_givesAhead_5 rfl rfl ⟨by decide, by decide⟩ ⟨by decide, by decide, by decide, by decide⟩ (Nat.le_of_ble_eq_true rfl) ?_
  refine me_if_ne C (tgt := 13) dX2_givesAhead_8 (by decide) (fun c2 => ?_) (fun c2 => ?_)
  · replace hf := me_in c2 hf
    refine me_aload_n C 3 (Or.inr (Or.inl ⟨_, rfl⟩)) dX2_givesAhead_13 rfl rfl ?_
    refine me_getr C hB 1 (k' := 19) (i' := v3) fg_Mover_94 dX2_givesAhead_14 rfl rfl ?_
    refine me_iconst C (v := 0) dX2_givesAhead_17 (by decide) ?_
    refine me_iald C rfl (fun _ => rfl) (by decide +kernel) dX2_givesAhead_18 ?_
    obtain ⟨x3, e_x3, hf⟩ := me_lts hf
    refine me_nm e_x3 ?_
    refine me_istore C dX2_givesAhead_19 (by decide) (L' := [(5, me_i x3), (0, me_r 30 0), (1, me_i v1), (2, me_i v2), (3, me_r 17 v3), (4, me_r 8 v4)]) rfl ?_
    refine me_aload_n C 0 (Or.inr (Or.inl ⟨_, rfl⟩)) dX2_givesAhead_21 rfl rfl ?_
    refine me_getr C hB 2 (k' := 12) (i' := 0) fg_Mover_26 dX2_givesAhead_22 rfl rfl ?_
    refine me_iload_n C 1 dX2_givesAhead_25 rfl rfl ?_
    obtain ⟨g4, hf⟩ := me_gs hf
    refine me_aald C hB (k' := 13) (i' := (me_ix v1)) rfl (fun _ => rfl) rfl g4 dX2_givesAhead_26 rfl ?_
    refine me_astore C (Or.inr (Or.inl ⟨_, rfl⟩)) dX2_givesAhead_27 (by decide) (L' := [(6, me_r 13 (me_ix v1)), (5, me_i x3), (0, me_r 30 0), (1, me_i v1), (2, me_i v2), (3, me_r 17 v3), (4, me_r 8 v4)]) rfl ?_
    refine me_aload C (Or.inr (Or.inl ⟨_, rfl⟩)) dX2_givesAhead_29 rfl ?_
    refine me_geti C 3 fg_Mover_56 dX2_givesAhead_31 rfl ?_
    refine me_if_ne C (tgt := 62) dX2_givesAhead_34 (by decide) (fun c5 => ?_) (fun c5 => ?_)
    · replace hf := me_in c5 hf
      refine me_aload C (Or.inr (Or.inl ⟨_, rfl⟩)) dX2_givesAhead_62 rfl ?_
      refine me_getr C hB 0 (k' := 14) (i' := (me_ix v1)) fg_Mover_71 dX2_givesAhead_64 rfl rfl ?_
      refine me_aload C (Or.inr (Or.inl ⟨_, rfl⟩)) dX2_givesAhead_67 rfl ?_
      obtain ⟨r6, h_r6, hf⟩ := me_bs hf
      refine me_callV C N  (As := []) (st := [me_r 14 (me_ix v1)]) 0 0 (c_Packet_channel hB h_r6) mv_Packet_channel ml_Mover_102 rfl rfl dX2_givesAhead_69 rfl rfl ⟨by decide, by decide⟩ ⟨by decide, by decide, by decide, by decide⟩ (Nat.le_of_ble_eq_true rfl) ?_
      refine me_iconst C (v := 5) dX2_givesAhead_72 (by decide) ?_
      refine me_imul C dX2_givesAhead_73 ?_
      refine me_aload_n C 0 (Or.inr (Or.inl ⟨_, rfl⟩)) dX2_givesAhead_74 rfl rfl ?_
      refine me_getr C hB 0 (k' := 1) (i' := 0) fg_Mover_15 dX2_givesAhead_75 rfl rfl ?_
      refine me_iload_n C 2 dX2_givesAhead_78 rfl rfl ?_
      obtain ⟨r7, h_r7, hf⟩ := me_bs hf
      refine me_callV C N  (As := [me_i v2]) (st := [me_i (r6 * (5 : Int32)), me_r 14 (me_ix v1)]) 0 0 (c_Net_opposite hB h_r7) mv_Net_opposite ml_Mover_134 rfl rfl dX2_givesAhead_79 rfl rfl ⟨by decide, by decide⟩ ⟨by decide, by decide, by decide, by decide⟩ (Nat.le_of_ble_eq_true rfl) ?_
      refine me_iadd C dX2_givesAhead_82 ?_
      obtain ⟨g8, hf⟩ := me_gs hf
      refine me_aald C hB (k' := 17) (i' := 10 * (me_ix v1) + (me_ix ((r6 * (5 : Int32)) + r7))) rfl (fun _ => rfl) rfl g8 dX2_givesAhead_83 rfl ?_
      refine me_astore C (Or.inr (Or.inl ⟨_, rfl⟩)) dX2_givesAhead_84 (by decide) (L' := [(7, me_r 17 (10 * (me_ix v1) + (me_ix ((r6 * (5 : Int32)) + r7)))), (6, me_r 13 (me_ix v1)), (5, me_i x3), (0, me_r 30 0), (1, me_i v1), (2, me_i v2), (3, me_r 17 v3), (4, me_r 8 v4)]) rfl ?_
      refine me_aload C (Or.inr (Or.inl ⟨_, rfl⟩)) dX2_givesAhead_86 rfl ?_
      obtain ⟨r9, h_r9, hf⟩ := me_bs hf
      refine me_callV C N  (As := []) (st := []) 0 0 (c_Row_hasPlace hB h_r9) mv_Row_hasPlace ml_Mover_138 rfl rfl dX2_givesAhead_88 rfl rfl ⟨by decide, by decide⟩ ⟨by decide, by decide, by decide, by decide⟩ (Nat.le_of_ble_eq_true rfl) ?_
      refine me_if_eq C (tgt := 108) dX2_givesAhead_91 (by decide) (fun c10 => ?_) (fun c10 => ?_)
      · replace hf := me_ip c10 hf
        refine me_iconst C (v := 0) dX2_givesAhead_108 (by decide) ?_
        exact me_iret C N dX2_givesAhead_109 (by decide +kernel) (by cases hf; rfl) (by decide) (by decide)
      · replace hf := me_in c10 hf
        refine me_iload C dX2_givesAhead_94 rfl ?_
        refine me_if_ne C (tgt := 110) dX2_givesAhead_96 (by decide) (fun c11 => ?_) (fun c11 => ?_)
        · replace hf := me_in c11 hf
          refine me_dropI [(0, me_r 30 0), (1, me_i v1), (2, me_i v2), (3, me_r 17 v3), (4, me_r 8 v4), (5, me_i x3), (7, me_r 17 (10 * (me_ix v1) + (me_ix ((r6 * (5 : Int32)) + r7))))] [3, 4, 5, 6, 7, 2, 0] rfl ?_
          exact z_Mover_givesAhead_b110 C N hNx hB hf
        · replace hf := me_ip c11 hf
          refine me_aload C (Or.inr (Or.inl ⟨_, rfl⟩)) dX2_givesAhead_99 rfl ?_
          refine me_geti C 5 fg_Mover_142 dX2_givesAhead_101 rfl ?_
          refine me_iconst C (v := -1) dX2_givesAhead_104 (by decide) ?_
          refine me_icmp_eq C (tgt := 110) dX2_givesAhead_105 (by decide) (fun c12 => ?_) (fun c12 => ?_)
          · replace hf := me_ip c12 hf
            refine me_dropI [(0, me_r 30 0), (1, me_i v1), (2, me_i v2), (3, me_r 17 v3), (4, me_r 8 v4), (5, me_i x3), (7, me_r 17 (10 * (me_ix v1) + (me_ix ((r6 * (5 : Int32)) + r7))))] [3, 4, 5, 6, 7, 2, 0] rfl ?_
            exact z_Mover_givesAhead_b110 C N hNx hB hf
          · replace hf := me_in c12 hf
            refine me_iconst C (v := 0) dX2_givesAhead_108 (by decide) ?_
            exact me_iret C N dX2_givesAhead_109 (by decide +kernel) (by cases hf; rfl) (by decide) (by decide)
    · replace hf := me_ip c5 hf
      refine me_aload C (Or.inr (Or.inl ⟨_, rfl⟩)) dX2_givesAhead_37 rfl ?_
      refine me_aload C (Or.inr (Or.inl ⟨_, rfl⟩)) dX2_givesAhead_39 rfl ?_
      refine me_geti C 4 fg_Mover_51 dX2_givesAhead_41 rfl ?_
      refine me_if_ne C (tgt := 52) dX2_givesAhead_44 (by decide) (fun c13 => ?_) (fun c13 => ?_)
      · replace hf := me_in c13 hf
        refine me_dropI [] [] rfl ?_
        exact z_Mover_givesAhead_b52 C N hNx hB hf
      · replace hf := me_ip c13 hf
        refine me_iload C dX2_givesAhead_47 rfl ?_
        refine me_if_ne C (tgt := 56) dX2_givesAhead_49 (by decide) (fun c14 => ?_) (fun c14 => ?_)
        · replace hf := me_in c14 hf
          refine me_iconst C (v := 0) dX2_givesAhead_56 (by decide) ?_
          obtain ⟨μ15, e_μ15, hf⟩ := me_lts hf
          refine me_puti C 4 fw_Mover_51 dX2_givesAhead_57 rfl (by decide +kernel) e_μ15 ?_
          refine me_iconst C (v := 0) dX2_givesAhead_60 (by decide) ?_
          exact me_iret C N dX2_givesAhead_61 (by decide +kernel) (by cases hf; rfl) (by decide) (by decide)
        · replace hf := me_ip c14 hf
          refine me_dropI [] [] rfl ?_
          exact z_Mover_givesAhead_b52 C N hNx hB hf
  · replace hf := me_ip c2 hf
    refine me_iconst C (v := 0) dX2_givesAhead_11 (by decide) ?_
    exact me_iret C N dX2_givesAhead_12 (by decide +kernel) (by cases hf; rfl) (by decide) (by decide)
theorem c_Mover_givesAhead {B : me_B} (hB : me_St B) {μ : me_M} {v1 : Int32} {v2 : Int32} {v3 : Nat} {v4 : Nat} {μ' : me_M} {r : Int32}  (hf : f_Mover_givesAhead μ v1 v2 v3 v4 = some (μ', r)) : ∀ l E z, l.stackTraces = false → me_Met l yX2_givesAhead cX2_givesAhead 8 (some .boolean) 2 47 0 0 E B μ z [me_r 30 0, me_i v1, me_i v2, me_r 17 v3, me_r 8 v4] (B, μ', .ok (some (me_i r))) :=
  fun _ _ _ hl => me_ofZ hl (by decide +kernel) (Nat.le_of_ble_eq_true rfl) (fun _ C N hNx => z_Mover_givesAhead C N hNx hB  hf)

def f_Row_dropPacket_b4 (K4 : me_M → Nat → Int32 → Int32 → Int32 → Option (me_M × Unit)) (μ : me_M) (v0 : Nat) (v1 : Int32) (v2 : Int32) (v3 : Int32) : Option (me_M × Unit) :=
  if (μ 17 v0 3) ≤ v3 then
  (me_lt (me_up μ 17 v0 3 v2) (fun μ2 =>
  if (μ2 17 v0 5) = v1 then
  (me_lt (me_up μ2 17 v0 5 (-1 : Int32)) (fun μ4 =>
  some (μ4, ())))
  else
  (some (μ2, ()))))
  else
  (me_gd (me_inb v3 4) (
  if (μ 18 v0 (me_ix v3)) = v1 then
  (me_lt (me_inc v3 (1)) (fun x7 =>
  K4 μ v0 v1 v2 x7))
  else
  (me_b2 (f_Row_copyPiece μ v0 v3 v2) (fun μ9 r8 =>
  me_lt (me_inc v2 (1)) (fun x10 =>
  me_lt (me_inc v3 (1)) (fun x11 =>
  K4 μ9 v0 v1 x10 x11))))))
set_option maxHeartbeats 4000000 in
set_option maxRecDepth 100000 in
theorem z_Row_dropPacket_b4 {X : me_X} {B : me_B} {sz : Nat} (C : me_C X B RX8 cX8_dropPacket 4 none) {μ : me_M} {v0 : Nat} {v1 : Int32} {v2 : Int32} {v3 : Int32}  {K4 : me_M → Nat → Int32 → Int32 → Int32 → Option (me_M × Unit)} {r : me_M × Unit} (N : me_En X B sz (B, r.1, .ok (none)) 1 22 0 0) (hNx : me_Nx X) (hB : me_St B) (hK4 : ∀ (μ : me_M) (v0 : Nat) (v1 : Int32) (v2 : Int32) (v3 : Int32), K4 μ v0 v1 v2 v3 = some r → me_Z X B 0 0 μ 4 [(0, me_r 17 v0), (1, me_i v1), (2, me_i v2), (3, me_i v3)] [])  (hf : f_Row_dropPacket_b4 K4 μ v0 v1 v2 v3 = some r) : me_Z X B 0 0 μ 4 [(0, me_r 17 v0), (1, me_i v1), (2, me_i v2), (3, me_i v3)] [] := by
  unfold f_Row_dropPacket_b4 at hf
  refine me_iload_n C 3 dX8_dropPacket_4 rfl rfl ?_
  refine me_aload_n C 0 (Or.inr (Or.inl ⟨_, rfl⟩)) dX8_dropPacket_5 rfl rfl ?_
  refine me_geti C 3 fg_Row_21 dX8_dropPacket_6 rfl ?_
  refine me_icmp_ge C (tgt := 37) dX8_dropPacket_9 (by decide) (fun c1 => ?_) (fun c1 => ?_)
  · replace hf := me_ip c1 hf
    refine me_aload_n C 0 (Or.inr (Or.inl ⟨_, rfl⟩)) dX8_dropPacket_37 rfl rfl ?_
    refine me_iload_n C 2 dX8_dropPacket_38 rfl rfl ?_
    obtain ⟨μ2, e_μ2, hf⟩ := me_lts hf
    refine me_puti C 3 fw_Row_21 dX8_dropPacket_39 rfl (me_nri _) e_μ2 ?_
    refine me_aload_n C 0 (Or.inr (Or.inl ⟨_, rfl⟩)) dX8_dropPacket_42 rfl rfl ?_
    refine me_geti C 5 fg_Row_25 dX8_dropPacket_43 rfl ?_
    refine me_iload_n C 1 dX8_dropPacket_46 rfl rfl ?_
    refine me_icmp_ne C (tgt := 55) dX8_dropPacket_47 (by decide) (fun c3 => ?_) (fun c3 => ?_)
    · replace hf := me_in c3 hf
      exact me_vret C N dX8_dropPacket_55 (by cases hf; rfl) (by decide) (by decide)
    · replace hf := me_ip c3 hf
      refine me_aload_n C 0 (Or.inr (Or.inl ⟨_, rfl⟩)) dX8_dropPacket_50 rfl rfl ?_
      refine me_iconst C (v := -1) dX8_dropPacket_51 (by decide) ?_
      obtain ⟨μ4, e_μ4, hf⟩ := me_lts hf
      refine me_puti C 5 fw_Row_25 dX8_dropPacket_52 rfl (me_nri _) e_μ4 ?_
      exact me_vret C N dX8_dropPacket_55 (by cases hf; rfl) (by decide) (by decide)
  · replace hf := me_in c1 hf
    refine me_aload_n C 0 (Or.inr (Or.inl ⟨_, rfl⟩)) dX8_dropPacket_12 rfl rfl ?_
    refine me_getr C hB 0 (k' := 18) (i' := v0) fg_Row_9 dX8_dropPacket_13 rfl rfl ?_
    refine me_iload_n C 3 dX8_dropPacket_16 rfl rfl ?_
    obtain ⟨g5, hf⟩ := me_gs hf
    refine me_iald C rfl (fun _ => rfl) g5 dX8_dropPacket_17 ?_
    refine me_iload_n C 1 dX8_dropPacket_18 rfl rfl ?_
    refine me_icmp_eq C (tgt := 31) dX8_dropPacket_19 (by decide) (fun c6 => ?_) (fun c6 => ?_)
    · replace hf := me_ip c6 hf
      obtain ⟨x7, e_x7, hf⟩ := me_lts hf
      refine me_iinc C (v := x7) (L' := [(3, me_i x7), (0, me_r 17 v0), (1, me_i v1), (2, me_i v2)]) dX8_dropPacket_31 rfl e_x7.symm (by decide) rfl ?_
      refine me_goto C (tgt := 4) dX8_dropPacket_34 (by decide) ?_
      refine me_dropI [(0, me_r 17 v0), (1, me_i v1), (2, me_i v2), (3, me_i x7)] [1, 2, 3, 0] rfl ?_
      exact hK4 μ v0 v1 v2 x7 hf
    · replace hf := me_in c6 hf
      refine me_aload_n C 0 (Or.inr (Or.inl ⟨_, rfl⟩)) dX8_dropPacket_22 rfl rfl ?_
      refine me_iload_n C 3 dX8_dropPacket_23 rfl rfl ?_
      refine me_iload_n C 2 dX8_dropPacket_24 rfl rfl ?_
      obtain ⟨μ9, r8, h_r8, hf⟩ := me_bs2 hf
      refine me_callV0 C N  (As := [me_i v3, me_i v2]) (st := []) 0 0 (c_Row_copyPiece hB h_r8) mv_Row_copyPiece ml_Row_37 rfl rfl dX8_dropPacket_25 rfl rfl ⟨by decide, by decide⟩ ⟨by decide, by decide, by decide, by decide⟩ (Nat.le_of_ble_eq_true rfl) ?_
      obtain ⟨x10, e_x10, hf⟩ := me_lts hf
      refine me_iinc C (v := x10) (L' := [(2, me_i x10), (0, me_r 17 v0), (1, me_i v1), (3, me_i v3)]) dX8_dropPacket_28 rfl e_x10.symm (by decide) rfl ?_
      obtain ⟨x11, e_x11, hf⟩ := me_lts hf
      refine me_iinc C (v := x11) (L' := [(3, me_i x11), (2, me_i x10), (0, me_r 17 v0), (1, me_i v1)]) dX8_dropPacket_31 rfl e_x11.symm (by decide) rfl ?_
      refine me_goto C (tgt := 4) dX8_dropPacket_34 (by decide) ?_
      refine me_dropI [(0, me_r 17 v0), (1, me_i v1), (2, me_i x10), (3, me_i x11)] [2, 3, 1, 0] rfl ?_
      exact hK4 μ9 v0 v1 x10 x11 hf
def f_Row_dropPacket_h4  : Nat → me_M → Nat → Int32 → Int32 → Int32 → Option (me_M × Unit)
  | 0, _, _, _, _, _ => none
  | n + 1, μ, v0, v1, v2, v3 => f_Row_dropPacket_b4 (f_Row_dropPacket_h4 n) μ v0 v1 v2 v3
set_option maxHeartbeats 4000000 in
set_option maxRecDepth 100000 in
theorem z_Row_dropPacket_h4 {X : me_X} {B : me_B} {sz : Nat} (C : me_C X B RX8 cX8_dropPacket 4 none)  {r : me_M × Unit} (N : me_En X B sz (B, r.1, .ok (none)) 1 22 0 0) (hNx : me_Nx X) (hB : me_St B)  : ∀ (n : Nat) (μ : me_M) (v0 : Nat) (v1 : Int32) (v2 : Int32) (v3 : Int32), f_Row_dropPacket_h4 n μ v0 v1 v2 v3 = some r → me_Z X B 0 0 μ 4 [(0, me_r 17 v0), (1, me_i v1), (2, me_i v2), (3, me_i v3)] [] := by
  intro n
  induction n with
  | zero => intro μ v0 v1 v2 v3  h; exact absurd (show (none : Option (me_M × Unit)) = some r from h) (fun q => by cases q)
  | succ n ih => intro μ v0 v1 v2 v3  h; exact z_Row_dropPacket_b4 C N hNx hB  (K4 := f_Row_dropPacket_h4 n) ih  h
def f_Row_dropPacket (μ : me_M) (v0 : Nat) (v1 : Int32) : Option (me_M × Unit) :=
  f_Row_dropPacket_h4 me_FU μ v0 v1 (0 : Int32) (0 : Int32)
set_option maxHeartbeats 4000000 in
set_option maxRecDepth 100000 in
theorem z_Row_dropPacket {X : me_X} {B : me_B} {sz : Nat} (C : me_C X B RX8 cX8_dropPacket 4 none) {μ : me_M} {v0 : Nat} {v1 : Int32}   {r : me_M × Unit} (N : me_En X B sz (B, r.1, .ok (none)) 1 22 0 0) (hNx : me_Nx X) (hB : me_St B)   (hf : f_Row_dropPacket μ v0 v1 = some r) : me_Z X B 0 0 μ 0 [(0, me_r 17 v0), (1, me_i v1)] [] := by
  unfold f_Row_dropPacket at hf
  refine me_iconst C (v := 0) dX8_dropPacket_0 (by decide) ?_
  refine me_istore_n C 2 dX8_dropPacket_1 rfl (by decide) (L' := [(2, me_i (0 : Int32)), (0, me_r 17 v0), (1, me_i v1)]) rfl ?_
  refine me_iconst C (v := 0) dX8_dropPacket_2 (by decide) ?_
  refine me_istore_n C 3 dX8_dropPacket_3 rfl (by decide) (L' := [(3, me_i (0 : Int32)), (2, me_i (0 : Int32)), (0, me_r 17 v0), (1, me_i v1)]) rfl ?_
  refine me_dropI [(0, me_r 17 v0), (1, me_i v1), (2, me_i (0 : Int32)), (3, me_i (0 : Int32))] [2, 3, 1, 0] rfl ?_
  exact z_Row_dropPacket_h4 C N hNx hB me_FU μ v0 v1 (0 : Int32) (0 : Int32) hf
theorem c_Row_dropPacket {B : me_B} (hB : me_St B) {μ : me_M} {v0 : Nat} {v1 : Int32} {μ' : me_M} {r : Unit}  (hf : f_Row_dropPacket μ v0 v1 = some (μ', r)) : ∀ l E z, l.stackTraces = false → me_Met l yX8_dropPacket cX8_dropPacket 4 none 1 22 0 0 E B μ z [me_r 17 v0, me_i v1] (B, μ', .ok (none)) :=
  fun _ _ _ hl => me_ofZ hl (by decide +kernel) (Nat.le_of_ble_eq_true rfl) (fun _ C N hNx => z_Row_dropPacket C N hNx hB  hf)

def f_Mover_lose_b48 (K35 : me_M → Nat → Int32 → Option (me_M × Unit)) (K48 : me_M → Nat → Int32 → Int32 → Option (me_M × Unit)) (μ : me_M) (v1 : Nat) (v2 : Int32) (v3 : Int32) : Option (me_M × Unit) :=
  if (5 : Int32) ≤ v3 then
  (me_lt (me_inc v2 (1)) (fun x2 =>
  K35 μ v1 x2))
  else
  (me_gd (me_inb v2 16) (
  me_bd (f_Packet_channel μ v1) (fun r4 =>
  me_gd (me_inb ((r4 * (5 : Int32)) + v3) 10) (
  me_b2 (f_Row_dropPacket μ (10 * (me_ix v2) + (me_ix ((r4 * (5 : Int32)) + v3))) (μ 8 v1 0)) (fun μ7 r6 =>
  me_lt (me_inc v3 (1)) (fun x8 =>
  K48 μ7 v1 v2 x8))))))
set_option maxHeartbeats 4000000 in
set_option maxRecDepth 100000 in
theorem z_Mover_lose_b48 {X : me_X} {B : me_B} {sz : Nat} (C : me_C X B RX2 cX2_lose 4 none) {μ : me_M} {v1 : Nat} {v2 : Int32} {v3 : Int32}  {K35 : me_M → Nat → Int32 → Option (me_M × Unit)} {K48 : me_M → Nat → Int32 → Int32 → Option (me_M × Unit)} {r : me_M × Unit} (N : me_En X B sz (B, r.1, .ok (none)) 2 45 0 0) (hNx : me_Nx X) (hB : me_St B) (hK35 : ∀ (μ : me_M) (v1 : Nat) (v2 : Int32), K35 μ v1 v2 = some r → me_Z X B 0 0 μ 35 [(0, me_r 30 0), (1, me_r 8 v1), (2, me_i v2)] []) (hK48 : ∀ (μ : me_M) (v1 : Nat) (v2 : Int32) (v3 : Int32), K48 μ v1 v2 v3 = some r → me_Z X B 0 0 μ 48 [(0, me_r 30 0), (1, me_r 8 v1), (2, me_i v2), (3, me_i v3)] [])  (hf : f_Mover_lose_b48 K35 K48 μ v1 v2 v3 = some r) : me_Z X B 0 0 μ 48 [(0, me_r 30 0), (1, me_r 8 v1), (2, me_i v2), (3, me_i v3)] [] := by
  unfold f_Mover_lose_b48 at hf
  refine me_iload_n C 3 dX2_lose_48 rfl rfl ?_
  refine me_iconst C (v := 5) dX2_lose_49 (by decide) ?_
  refine me_icmp_ge C (tgt := 84) dX2_lose_50 (by decide) (fun c1 => ?_) (fun c1 => ?_)
  · replace hf := me_ip c1 hf
    obtain ⟨x2, e_x2, hf⟩ := me_lts hf
    refine me_iinc C (v := x2) (L' := [(2, me_i x2), (0, me_r 30 0), (1, me_r 8 v1), (3, me_i v3)]) dX2_lose_84 rfl e_x2.symm (by decide) rfl ?_
    refine me_goto C (tgt := 35) dX2_lose_87 (by decide) ?_
    refine me_dropI [(0, me_r 30 0), (1, me_r 8 v1), (2, me_i x2)] [1, 2, 0] rfl ?_
    exact hK35 μ v1 x2 hf
  · replace hf := me_in c1 hf
    refine me_aload_n C 0 (Or.inr (Or.inl ⟨_, rfl⟩)) dX2_lose_53 rfl rfl ?_
    refine me_getr C hB 2 (k' := 12) (i' := 0) fg_Mover_26 dX2_lose_54 rfl rfl ?_
    refine me_iload_n C 2 dX2_lose_57 rfl rfl ?_
    obtain ⟨g3, hf⟩ := me_gs hf
    refine me_aald C hB (k' := 13) (i' := (me_ix v2)) rfl (fun _ => rfl) rfl g3 dX2_lose_58 rfl ?_
    refine me_getr C hB 0 (k' := 14) (i' := (me_ix v2)) fg_Mover_71 dX2_lose_59 rfl rfl ?_
    refine me_aload_n C 1 (Or.inr (Or.inl ⟨_, rfl⟩)) dX2_lose_62 rfl rfl ?_
    obtain ⟨r4, h_r4, hf⟩ := me_bs hf
    refine me_callV C N  (As := []) (st := [me_r 14 (me_ix v2)]) 0 0 (c_Packet_channel hB h_r4) mv_Packet_channel ml_Mover_102 rfl rfl dX2_lose_63 rfl rfl ⟨by decide, by decide⟩ ⟨by decide, by decide, by decide, by decide⟩ (Nat.le_of_ble_eq_true rfl) ?_
    refine me_iconst C (v := 5) dX2_lose_66 (by decide) ?_
    refine me_imul C dX2_lose_67 ?_
    refine me_iload_n C 3 dX2_lose_68 rfl rfl ?_
    refine me_iadd C dX2_lose_69 ?_
    obtain ⟨g5, hf⟩ := me_gs hf
    refine me_aald C hB (k' := 17) (i' := 10 * (me_ix v2) + (me_ix ((r4 * (5 : Int32)) + v3))) rfl (fun _ => rfl) rfl g5 dX2_lose_70 rfl ?_
    refine me_aload_n C 1 (Or.inr (Or.inl ⟨_, rfl⟩)) dX2_lose_71 rfl rfl ?_
    refine me_geti C 0 fg_Mover_145 dX2_lose_72 rfl ?_
    obtain ⟨μ7, r6, h_r6, hf⟩ := me_bs2 hf
    refine me_callV0 C N  (As := [me_i (μ 8 v1 0)]) (st := []) 0 0 (c_Row_dropPacket hB h_r6) mv_Row_dropPacket ml_Mover_202 rfl rfl dX2_lose_75 rfl rfl ⟨by decide, by decide⟩ ⟨by decide, by decide, by decide, by decide⟩ (Nat.le_of_ble_eq_true rfl) ?_
    obtain ⟨x8, e_x8, hf⟩ := me_lts hf
    refine me_iinc C (v := x8) (L' := [(3, me_i x8), (0, me_r 30 0), (1, me_r 8 v1), (2, me_i v2)]) dX2_lose_78 rfl e_x8.symm (by decide) rfl ?_
    refine me_goto C (tgt := 48) dX2_lose_81 (by decide) ?_
    refine me_dropI [(0, me_r 30 0), (1, me_r 8 v1), (2, me_i v2), (3, me_i x8)] [1, 2, 3, 0] rfl ?_
    exact hK48 μ7 v1 v2 x8 hf
def f_Mover_lose_h48 (K35 : me_M → Nat → Int32 → Option (me_M × Unit)) : Nat → me_M → Nat → Int32 → Int32 → Option (me_M × Unit)
  | 0, _, _, _, _ => none
  | n + 1, μ, v1, v2, v3 => f_Mover_lose_b48 K35 (f_Mover_lose_h48 K35 n) μ v1 v2 v3
set_option maxHeartbeats 4000000 in
set_option maxRecDepth 100000 in
theorem z_Mover_lose_h48 {X : me_X} {B : me_B} {sz : Nat} (C : me_C X B RX2 cX2_lose 4 none) {K35 : me_M → Nat → Int32 → Option (me_M × Unit)} {r : me_M × Unit} (N : me_En X B sz (B, r.1, .ok (none)) 2 45 0 0) (hNx : me_Nx X) (hB : me_St B) (hK35 : ∀ (μ : me_M) (v1 : Nat) (v2 : Int32), K35 μ v1 v2 = some r → me_Z X B 0 0 μ 35 [(0, me_r 30 0), (1, me_r 8 v1), (2, me_i v2)] []) : ∀ (n : Nat) (μ : me_M) (v1 : Nat) (v2 : Int32) (v3 : Int32), f_Mover_lose_h48 K35 n μ v1 v2 v3 = some r → me_Z X B 0 0 μ 48 [(0, me_r 30 0), (1, me_r 8 v1), (2, me_i v2), (3, me_i v3)] [] := by
  intro n
  induction n with
  | zero => intro μ v1 v2 v3  h; exact absurd (show (none : Option (me_M × Unit)) = some r from h) (fun q => by cases q)
  | succ n ih => intro μ v1 v2 v3  h; exact z_Mover_lose_b48 C N hNx hB hK35 (K48 := f_Mover_lose_h48 K35 n) ih  h
def f_Mover_lose_b35 (K35 : me_M → Nat → Int32 → Option (me_M × Unit)) (μ : me_M) (v1 : Nat) (v2 : Int32) : Option (me_M × Unit) :=
  if (μ 1 0 4) ≤ v2 then
  (some (μ, ()))
  else
  (f_Mover_lose_h48 K35 me_FU μ v1 v2 (0 : Int32))
set_option maxHeartbeats 4000000 in
set_option maxRecDepth 100000 in
theorem z_Mover_lose_b35 {X : me_X} {B : me_B} {sz : Nat} (C : me_C X B RX2 cX2_lose 4 none) {μ : me_M} {v1 : Nat} {v2 : Int32}  {K35 : me_M → Nat → Int32 → Option (me_M × Unit)} {r : me_M × Unit} (N : me_En X B sz (B, r.1, .ok (none)) 2 45 0 0) (hNx : me_Nx X) (hB : me_St B) (hK35 : ∀ (μ : me_M) (v1 : Nat) (v2 : Int32), K35 μ v1 v2 = some r → me_Z X B 0 0 μ 35 [(0, me_r 30 0), (1, me_r 8 v1), (2, me_i v2)] [])  (hf : f_Mover_lose_b35 K35 μ v1 v2 = some r) : me_Z X B 0 0 μ 35 [(0, me_r 30 0), (1, me_r 8 v1), (2, me_i v2)] [] := by
  unfold f_Mover_lose_b35 at hf
  refine me_iload_n C 2 dX2_lose_35 rfl rfl ?_
  refine me_aload_n C 0 (Or.inr (Or.inl ⟨_, rfl⟩)) dX2_lose_36 rfl rfl ?_
  refine me_getr C hB 0 (k' := 1) (i' := 0) fg_Mover_15 dX2_lose_37 rfl rfl ?_
  refine me_geti C 4 fg_Mover_46 dX2_lose_40 rfl ?_
  refine me_icmp_ge C (tgt := 90) dX2_lose_43 (by decide) (fun c1 => ?_) (fun c1 => ?_)
  · replace hf := me_ip c1 hf
    exact me_vret C N dX2_lose_90 (by cases hf; rfl) (by decide) (by decide)
  · replace hf := me_in c1 hf
    refine me_iconst C (v := 0) dX2_lose_46 (by decide) ?_
    refine me_istore_n C 3 dX2_lose_47 rfl (by decide) (L' := [(3, me_i (0 : Int32)), (0, me_r 30 0), (1, me_r 8 v1), (2, me_i v2)]) rfl ?_
    refine me_dropI [(0, me_r 30 0), (1, me_r 8 v1), (2, me_i v2), (3, me_i (0 : Int32))] [1, 2, 3, 0] rfl ?_
    exact z_Mover_lose_h48 C N hNx hB hK35 me_FU μ v1 v2 (0 : Int32) hf
def f_Mover_lose_h35  : Nat → me_M → Nat → Int32 → Option (me_M × Unit)
  | 0, _, _, _ => none
  | n + 1, μ, v1, v2 => f_Mover_lose_b35 (f_Mover_lose_h35 n) μ v1 v2
set_option maxHeartbeats 4000000 in
set_option maxRecDepth 100000 in
theorem z_Mover_lose_h35 {X : me_X} {B : me_B} {sz : Nat} (C : me_C X B RX2 cX2_lose 4 none)  {r : me_M × Unit} (N : me_En X B sz (B, r.1, .ok (none)) 2 45 0 0) (hNx : me_Nx X) (hB : me_St B)  : ∀ (n : Nat) (μ : me_M) (v1 : Nat) (v2 : Int32), f_Mover_lose_h35 n μ v1 v2 = some r → me_Z X B 0 0 μ 35 [(0, me_r 30 0), (1, me_r 8 v1), (2, me_i v2)] [] := by
  intro n
  induction n with
  | zero => intro μ v1 v2  h; exact absurd (show (none : Option (me_M × Unit)) = some r from h) (fun q => by cases q)
  | succ n ih => intro μ v1 v2  h; exact z_Mover_lose_b35 C N hNx hB  (K35 := f_Mover_lose_h35 n) ih  h
def f_Mover_lose (μ : me_M) (v1 : Nat) : Option (me_M × Unit) :=
  me_lt (me_up μ 8 v1 2 (108 : Int32)) (fun μ1 =>
  me_lt (me_up μ1 8 v1 9 (-1 : Int32)) (fun μ2 =>
  if (μ2 8 v1 1) = (113 : Int32) then
  (me_lt (me_up μ2 6 0 2 ((μ2 6 0 2) - (1 : Int32))) (fun μ4 =>
  f_Mover_lose_h35 me_FU μ4 v1 (0 : Int32)))
  else
  (f_Mover_lose_h35 me_FU μ2 v1 (0 : Int32))))
set_option maxHeartbeats 4000000 in
set_option maxRecDepth 100000 in
theorem z_Mover_lose {X : me_X} {B : me_B} {sz : Nat} (C : me_C X B RX2 cX2_lose 4 none) {μ : me_M} {v1 : Nat}   {r : me_M × Unit} (N : me_En X B sz (B, r.1, .ok (none)) 2 45 0 0) (hNx : me_Nx X) (hB : me_St B)   (hf : f_Mover_lose μ v1 = some r) : me_Z X B 0 0 μ 0 [(0, me_r 30 0), (1, me_r 8 v1)] [] := by
  unfold f_Mover_lose at hf
  refine me_aload_n C 1 (Or.inr (Or.inl ⟨_, rfl⟩)) dX2_lose_0 rfl rfl ?_
  refine me_bipush C (v := 108) dX2_lose_1 (by decide) ?_
  obtain ⟨μ1, e_μ1, hf⟩ := me_lts hf
  refine me_puti C 2 fw_Mover_168 dX2_lose_3 rfl (by decide +kernel) e_μ1 ?_
  refine me_aload_n C 1 (Or.inr (Or.inl ⟨_, rfl⟩)) dX2_lose_6 rfl rfl ?_
  refine me_iconst C (v := -1) dX2_lose_7 (by decide) ?_
  obtain ⟨μ2, e_μ2, hf⟩ := me_lts hf
  refine me_puti C 9 fw_Mover_148 dX2_lose_8 rfl (me_nri _) e_μ2 ?_
  refine me_aload_n C 1 (Or.inr (Or.inl ⟨_, rfl⟩)) dX2_lose_11 rfl rfl ?_
  refine me_geti C 1 fg_Mover_175 dX2_lose_12 rfl ?_
  refine me_bipush C (v := 113) dX2_lose_15 (by decide) ?_
  refine me_icmp_ne C (tgt := 33) dX2_lose_17 (by decide) (fun c3 => ?_) (fun c3 => ?_)
  · replace hf := me_in c3 hf
    refine me_iconst C (v := 0) dX2_lose_33 (by decide) ?_
    refine me_istore_n C 2 dX2_lose_34 rfl (by decide) (L' := [(2, me_i (0 : Int32)), (0, me_r 30 0), (1, me_r 8 v1)]) rfl ?_
    refine me_dropI [(0, me_r 30 0), (1, me_r 8 v1), (2, me_i (0 : Int32))] [1, 2, 0] rfl ?_
    exact z_Mover_lose_h35 C N hNx hB me_FU μ2 v1 (0 : Int32) hf
  · replace hf := me_ip c3 hf
    refine me_aload_n C 0 (Or.inr (Or.inl ⟨_, rfl⟩)) dX2_lose_20 rfl rfl ?_
    refine me_getr C hB 3 (k' := 6) (i' := 0) fg_Mover_27 dX2_lose_21 rfl rfl ?_
    refine me_dup C rfl dX2_lose_24 ?_
    refine me_geti C 2 fg_Mover_189 dX2_lose_25 rfl ?_
    refine me_iconst C (v := 1) dX2_lose_28 (by decide) ?_
    refine me_isub C dX2_lose_29 ?_
    obtain ⟨μ4, e_μ4, hf⟩ := me_lts hf
    refine me_puti C 2 fw_Mover_189 dX2_lose_30 rfl (me_nri _) e_μ4 ?_
    refine me_iconst C (v := 0) dX2_lose_33 (by decide) ?_
    refine me_istore_n C 2 dX2_lose_34 rfl (by decide) (L' := [(2, me_i (0 : Int32)), (0, me_r 30 0), (1, me_r 8 v1)]) rfl ?_
    refine me_dropI [(0, me_r 30 0), (1, me_r 8 v1), (2, me_i (0 : Int32))] [1, 2, 0] rfl ?_
    exact z_Mover_lose_h35 C N hNx hB me_FU μ4 v1 (0 : Int32) hf
theorem c_Mover_lose {B : me_B} (hB : me_St B) {μ : me_M} {v1 : Nat} {μ' : me_M} {r : Unit}  (hf : f_Mover_lose μ v1 = some (μ', r)) : ∀ l E z, l.stackTraces = false → me_Met l yX2_lose cX2_lose 4 none 2 45 0 0 E B μ z [me_r 30 0, me_r 8 v1] (B, μ', .ok (none)) :=
  fun _ _ _ hl => me_ofZ hl (by decide +kernel) (Nat.le_of_ble_eq_true rfl) (fun _ C N hNx => z_Mover_lose C N hNx hB  hf)

def f_Post_make_b129 (μ : me_M) (v7 : Nat) : Option (me_M × Int32) :=
  me_lt (me_up μ 6 0 1 ((μ 6 0 1) + (1 : Int32))) (fun μ1 =>
  some (μ1, (μ1 8 v7 0)))
set_option maxHeartbeats 4000000 in
set_option maxRecDepth 100000 in
theorem z_Post_make_b129 {X : me_X} {B : me_B} {sz : Nat} (C : me_C X B RX6 cX6_make 8 (some .int)) {μ : me_M} {v7 : Nat}   {r : me_M × Int32} (N : me_En X B sz (B, r.1, .ok (some (me_i r.2))) 0 0 0 0) (hNx : me_Nx X) (hB : me_St B)   (hf : f_Post_make_b129 μ v7 = some r) : me_Z X B 0 0 μ 129 [(0, me_r 6 0), (7, me_r 8 v7)] [] := by
  unfold f_Post_make_b129 at hf
  refine me_aload_n C 0 (Or.inr (Or.inl ⟨_, rfl⟩)) dX6_make_129 rfl rfl ?_
  refine me_dup C rfl dX6_make_130 ?_
  refine me_geti C 1 fg_Post_20 dX6_make_131 rfl ?_
  refine me_iconst C (v := 1) dX6_make_134 (by decide) ?_
  refine me_iadd C dX6_make_135 ?_
  obtain ⟨μ1, e_μ1, hf⟩ := me_lts hf
  refine me_puti C 1 fw_Post_20 dX6_make_136 rfl (me_nri _) e_μ1 ?_
  refine me_aload C (Or.inr (Or.inl ⟨_, rfl⟩)) dX6_make_139 rfl ?_
  refine me_geti C 0 fg_Post_70 dX6_make_141 rfl ?_
  exact me_iret C N dX6_make_144 (me_nri _) (by cases hf; rfl) (by decide) (by decide)
def f_Post_make (μ : me_M) (v1 : Int32) (v2 : Int32) (v3 : Int32) (v4 : Int32) (v5 : Int32) (v6 : Int32) : Option (me_M × Int32) :=
  if (μ 6 0 1) < (200 : Int32) then
  (me_gd (me_inb (μ 6 0 1) 200) (
  me_gd (me_nr .char v1) (
  me_lt (me_up μ 8 (me_ix (μ 6 0 1)) 1 v1) (fun μ4 =>
  me_lt (me_up μ4 8 (me_ix (μ 6 0 1)) 2 (115 : Int32)) (fun μ5 =>
  me_lt (me_up μ5 8 (me_ix (μ 6 0 1)) 3 v2) (fun μ6 =>
  me_lt (me_up μ6 8 (me_ix (μ 6 0 1)) 4 v3) (fun μ7 =>
  me_lt (me_up μ7 8 (me_ix (μ 6 0 1)) 5 v4) (fun μ8 =>
  me_lt (me_up μ8 8 (me_ix (μ 6 0 1)) 6 (v5 + (1 : Int32))) (fun μ9 =>
  me_lt (me_up μ9 8 (me_ix (μ 6 0 1)) 7 (0 : Int32)) (fun μ10 =>
  me_lt (me_up μ10 8 (me_ix (μ 6 0 1)) 8 (0 : Int32)) (fun μ11 =>
  me_lt (me_up μ11 8 (me_ix (μ 6 0 1)) 9 (-1 : Int32)) (fun μ12 =>
  me_lt (me_up μ12 8 (me_ix (μ 6 0 1)) 10 v6) (fun μ13 =>
  me_lt (me_up μ13 8 (me_ix (μ 6 0 1)) 11 (-1 : Int32)) (fun μ14 =>
  me_lt (me_up μ14 8 (me_ix (μ 6 0 1)) 12 (0 : Int32)) (fun μ15 =>
  me_lt (me_up μ15 8 (me_ix (μ 6 0 1)) 13 (0 : Int32)) (fun μ16 =>
  me_lt (me_up μ16 8 (me_ix (μ 6 0 1)) 14 (-1 : Int32)) (fun μ17 =>
  if v1 = (113 : Int32) then
  (me_lt (me_up μ17 6 0 2 ((μ17 6 0 2) + (1 : Int32))) (fun μ19 =>
  f_Post_make_b129 μ19 (me_ix (μ 6 0 1))))
  else
  (f_Post_make_b129 μ17 (me_ix (μ 6 0 1))))))))))))))))))))
  else
  (some (μ, (-1 : Int32)))
set_option maxHeartbeats 4000000 in
set_option maxRecDepth 100000 in
theorem z_Post_make {X : me_X} {B : me_B} {sz : Nat} (C : me_C X B RX6 cX6_make 8 (some .int)) {μ : me_M} {v1 : Int32} {v2 : Int32} {v3 : Int32} {v4 : Int32} {v5 : Int32} {v6 : Int32}   {r : me_M × Int32} (N : me_En X B sz (B, r.1, .ok (some (me_i r.2))) 0 0 0 0) (hNx : me_Nx X) (hB : me_St B)   (hf : f_Post_make μ v1 v2 v3 v4 v5 v6 = some r) : me_Z X B 0 0 μ 0 [(0, me_r 6 0), (1, me_i v1), (2, me_i v2), (3, me_i v3), (4, me_i v4), (5, me_i v5), (6, me_i v6)] [] := by
  unfold f_Post_make at hf
  refine me_aload_n C 0 (Or.inr (Or.inl ⟨_, rfl⟩)) dX6_make_0 rfl rfl ?_
  refine me_geti C 1 fg_Post_20 dX6_make_1 rfl ?_
  refine me_sipush C (v := 200) dX6_make_4 (by decide) ?_
  refine me_icmp_lt C (tgt := 12) dX6_make_7 (by decide) (fun c1 => ?_) (fun c1 => ?_)
  · replace hf := me_ip c1 hf
    refine me_aload_n C 0 (Or.inr (Or.inl ⟨_, rfl⟩)) dX6_make_12 rfl rfl ?_
    refine me_getr C hB 0 (k' := 7) (i' := 0) fg_Post_11 dX6_make_13 rfl rfl ?_
    refine me_aload_n C 0 (Or.inr (Or.inl ⟨_, rfl⟩)) dX6_make_16 rfl rfl ?_
    refine me_geti C 1 fg_Post_20 dX6_make_17 rfl ?_
    obtain ⟨g2, hf⟩ := me_gs hf
    refine me_aald C hB (k' := 8) (i' := (me_ix (μ 6 0 1))) rfl (fun _ => rfl) rfl g2 dX6_make_20 rfl ?_
    refine me_astore C (Or.inr (Or.inl ⟨_, rfl⟩)) dX6_make_21 (by decide) (L' := [(7, me_r 8 (me_ix (μ 6 0 1))), (0, me_r 6 0), (1, me_i v1), (2, me_i v2), (3, me_i v3), (4, me_i v4), (5, me_i v5), (6, me_i v6)]) rfl ?_
    refine me_aload C (Or.inr (Or.inl ⟨_, rfl⟩)) dX6_make_23 rfl ?_
    refine me_iload_n C 1 dX6_make_25 rfl rfl ?_
    obtain ⟨g3, hf⟩ := me_gs hf
    obtain ⟨μ4, e_μ4, hf⟩ := me_lts hf
    refine me_puti C 1 fw_Post_27 dX6_make_26 rfl g3 e_μ4 ?_
    refine me_aload C (Or.inr (Or.inl ⟨_, rfl⟩)) dX6_make_29 rfl ?_
    refine me_bipush C (v := 115) dX6_make_31 (by decide) ?_
    obtain ⟨μ5, e_μ5, hf⟩ := me_lts hf
    refine me_puti C 2 fw_Post_31 dX6_make_33 rfl (by decide +kernel) e_μ5 ?_
    refine me_aload C (Or.inr (Or.inl ⟨_, rfl⟩)) dX6_make_36 rfl ?_
    refine me_iload_n C 2 dX6_make_38 rfl rfl ?_
    obtain ⟨μ6, e_μ6, hf⟩ := me_lts hf
    refine me_puti C 3 fw_Post_34 dX6_make_39 rfl (me_nri _) e_μ6 ?_
    refine me_aload C (Or.inr (Or.inl ⟨_, rfl⟩)) dX6_make_42 rfl ?_
    refine me_iload_n C 3 dX6_make_44 rfl rfl ?_
    obtain ⟨μ7, e_μ7, hf⟩ := me_lts hf
    refine me_puti C 4 fw_Post_37 dX6_make_45 rfl (me_nri _) e_μ7 ?_
    refine me_aload C (Or.inr (Or.inl ⟨_, rfl⟩)) dX6_make_48 rfl ?_
    refine me_iload C dX6_make_50 rfl ?_
    obtain ⟨μ8, e_μ8, hf⟩ := me_lts hf
    refine me_puti C 5 fw_Post_40 dX6_make_52 rfl (me_nri _) e_μ8 ?_
    refine me_aload C (Or.inr (Or.inl ⟨_, rfl⟩)) dX6_make_55 rfl ?_
    refine me_iload C dX6_make_57 rfl ?_
    refine me_iconst C (v := 1) dX6_make_59 (by decide) ?_
    refine me_iadd C dX6_make_60 ?_
    obtain ⟨μ9, e_μ9, hf⟩ := me_lts hf
    refine me_puti C 6 fw_Post_43 dX6_make_61 rfl (me_nri _) e_μ9 ?_
    refine me_aload C (Or.inr (Or.inl ⟨_, rfl⟩)) dX6_make_64 rfl ?_
    refine me_iconst C (v := 0) dX6_make_66 (by decide) ?_
    obtain ⟨μ10, e_μ10, hf⟩ := me_lts hf
    refine me_puti C 7 fw_Post_46 dX6_make_67 rfl (me_nri _) e_μ10 ?_
    refine me_aload C (Or.inr (Or.inl ⟨_, rfl⟩)) dX6_make_70 rfl ?_
    refine me_iconst C (v := 0) dX6_make_72 (by decide) ?_
    obtain ⟨μ11, e_μ11, hf⟩ := me_lts hf
    refine me_puti C 8 fw_Post_49 dX6_make_73 rfl (me_nri _) e_μ11 ?_
    refine me_aload C (Or.inr (Or.inl ⟨_, rfl⟩)) dX6_make_76 rfl ?_
    refine me_iconst C (v := -1) dX6_make_78 (by decide) ?_
    obtain ⟨μ12, e_μ12, hf⟩ := me_lts hf
    refine me_puti C 9 fw_Post_52 dX6_make_79 rfl (me_nri _) e_μ12 ?_
    refine me_aload C (Or.inr (Or.inl ⟨_, rfl⟩)) dX6_make_82 rfl ?_
    refine me_iload C dX6_make_84 rfl ?_
    obtain ⟨μ13, e_μ13, hf⟩ := me_lts hf
    refine me_puti C 10 fw_Post_55 dX6_make_86 rfl (me_nri _) e_μ13 ?_
    refine me_aload C (Or.inr (Or.inl ⟨_, rfl⟩)) dX6_make_89 rfl ?_
    refine me_iconst C (v := -1) dX6_make_91 (by decide) ?_
    obtain ⟨μ14, e_μ14, hf⟩ := me_lts hf
    refine me_puti C 11 fw_Post_58 dX6_make_92 rfl (me_nri _) e_μ14 ?_
    refine me_aload C (Or.inr (Or.inl ⟨_, rfl⟩)) dX6_make_95 rfl ?_
    refine me_iconst C (v := 0) dX6_make_97 (by decide) ?_
    obtain ⟨μ15, e_μ15, hf⟩ := me_lts hf
    refine me_puti C 12 fw_Post_61 dX6_make_98 rfl (me_nri _) e_μ15 ?_
    refine me_aload C (Or.inr (Or.inl ⟨_, rfl⟩)) dX6_make_101 rfl ?_
    refine me_iconst C (v := 0) dX6_make_103 (by decide) ?_
    obtain ⟨μ16, e_μ16, hf⟩ := me_lts hf
    refine me_puti C 13 fw_Post_64 dX6_make_104 rfl (me_nri _) e_μ16 ?_
    refine me_aload C (Or.inr (Or.inl ⟨_, rfl⟩)) dX6_make_107 rfl ?_
    refine me_iconst C (v := -1) dX6_make_109 (by decide) ?_
    obtain ⟨μ17, e_μ17, hf⟩ := me_lts hf
    refine me_puti C 14 fw_Post_67 dX6_make_110 rfl (me_nri _) e_μ17 ?_
    refine me_iload_n C 1 dX6_make_113 rfl rfl ?_
    refine me_bipush C (v := 113) dX6_make_114 (by decide) ?_
    refine me_icmp_ne C (tgt := 129) dX6_make_116 (by decide) (fun c18 => ?_) (fun c18 => ?_)
    · replace hf := me_in c18 hf
      refine me_dropI [(0, me_r 6 0), (7, me_r 8 (me_ix (μ 6 0 1)))] [1, 0] rfl ?_
      exact z_Post_make_b129 C N hNx hB hf
    · replace hf := me_ip c18 hf
      refine me_aload_n C 0 (Or.inr (Or.inl ⟨_, rfl⟩)) dX6_make_119 rfl rfl ?_
      refine me_dup C rfl dX6_make_120 ?_
      refine me_geti C 2 fg_Post_24 dX6_make_121 rfl ?_
      refine me_iconst C (v := 1) dX6_make_124 (by decide) ?_
      refine me_iadd C dX6_make_125 ?_
      obtain ⟨μ19, e_μ19, hf⟩ := me_lts hf
      refine me_puti C 2 fw_Post_24 dX6_make_126 rfl (me_nri _) e_μ19 ?_
      refine me_dropI [(0, me_r 6 0), (7, me_r 8 (me_ix (μ 6 0 1)))] [1, 0] rfl ?_
      exact z_Post_make_b129 C N hNx hB hf
  · replace hf := me_in c1 hf
    refine me_iconst C (v := -1) dX6_make_10 (by decide) ?_
    exact me_iret C N dX6_make_11 (me_nri _) (by cases hf; rfl) (by decide) (by decide)
theorem c_Post_make {B : me_B} (hB : me_St B) {μ : me_M} {v1 : Int32} {v2 : Int32} {v3 : Int32} {v4 : Int32} {v5 : Int32} {v6 : Int32} {μ' : me_M} {r : Int32}  (hf : f_Post_make μ v1 v2 v3 v4 v5 v6 = some (μ', r)) : ∀ l E z, l.stackTraces = false → me_Met l yX6_make cX6_make 8 (some .int) 0 0 0 0 E B μ z [me_r 6 0, me_i v1, me_i v2, me_i v3, me_i v4, me_i v5, me_i v6] (B, μ', .ok (some (me_i r))) :=
  fun _ _ _ hl => me_ofZ hl (by decide +kernel) (Nat.le_of_ble_eq_true rfl) (fun _ C N hNx => z_Post_make C N hNx hB  hf)

def f_Mover_deliver (μ : me_M) (v1 : Nat) : Option (me_M × Unit) :=
  me_lt (me_up μ 8 v1 2 (100 : Int32)) (fun μ1 =>
  me_lt (me_up μ1 8 v1 11 (μ1 30 0 6)) (fun μ2 =>
  if (μ2 8 v1 1) = (113 : Int32) then
  (me_gd (me_inb (μ2 8 v1 4) 16) (
  me_gd (me_inb (μ2 8 v1 12) 8) (
  me_lt ((μ2 23 (me_ix (μ2 8 v1 4)) (me_ix (μ2 8 v1 12)))) (fun x6 =>
  me_gd (me_inb (μ2 8 v1 12) 8) (
  me_lt (me_up μ2 23 (me_ix (μ2 8 v1 4)) (me_ix (μ2 8 v1 12)) (x6 + (μ2 8 v1 13))) (fun μ8 =>
  me_lt (me_up μ8 6 0 2 ((μ8 6 0 2) - (1 : Int32))) (fun μ9 =>
  me_b2 (f_Post_make μ9 (97 : Int32) (μ9 8 v1 4) (μ9 8 v1 3) x6 (1 : Int32) (μ9 30 0 5)) (fun μ11 r10 =>
  me_lt (me_up μ11 8 v1 14 r10) (fun μ12 =>
  some (μ12, ()))))))))))
  else
  (some (μ2, ()))))
set_option maxHeartbeats 4000000 in
set_option maxRecDepth 100000 in
theorem z_Mover_deliver {X : me_X} {B : me_B} {sz : Nat} (C : me_C X B RX2 cX2_deliver 4 none) {μ : me_M} {v1 : Nat}   {r : me_M × Unit} (N : me_En X B sz (B, r.1, .ok (none)) 1 27 0 0) (hNx : me_Nx X) (hB : me_St B)   (hf : f_Mover_deliver μ v1 = some r) : me_Z X B 0 0 μ 0 [(0, me_r 30 0), (1, me_r 8 v1)] [] := by
  unfold f_Mover_deliver at hf
  refine me_aload_n C 1 (Or.inr (Or.inl ⟨_, rfl⟩)) dX2_deliver_0 rfl rfl ?_
  refine me_bipush C (v := 100) dX2_deliver_1 (by decide) ?_
  obtain ⟨μ1, e_μ1, hf⟩ := me_lts hf
  refine me_puti C 2 fw_Mover_168 dX2_deliver_3 rfl (by decide +kernel) e_μ1 ?_
  refine me_aload_n C 1 (Or.inr (Or.inl ⟨_, rfl⟩)) dX2_deliver_6 rfl rfl ?_
  refine me_aload_n C 0 (Or.inr (Or.inl ⟨_, rfl⟩)) dX2_deliver_7 rfl rfl ?_
  refine me_geti C 6 fg_Mover_39 dX2_deliver_8 rfl ?_
  obtain ⟨μ2, e_μ2, hf⟩ := me_lts hf
  refine me_puti C 11 fw_Mover_172 dX2_deliver_11 rfl (me_nri _) e_μ2 ?_
  refine me_aload_n C 1 (Or.inr (Or.inl ⟨_, rfl⟩)) dX2_deliver_14 rfl rfl ?_
  refine me_geti C 1 fg_Mover_175 dX2_deliver_15 rfl ?_
  refine me_bipush C (v := 113) dX2_deliver_18 (by decide) ?_
  refine me_icmp_ne C (tgt := 98) dX2_deliver_20 (by decide) (fun c3 => ?_) (fun c3 => ?_)
  · replace hf := me_in c3 hf
    exact me_vret C N dX2_deliver_98 (by cases hf; rfl) (by decide) (by decide)
  · replace hf := me_ip c3 hf
    refine me_aload_n C 0 (Or.inr (Or.inl ⟨_, rfl⟩)) dX2_deliver_23 rfl rfl ?_
    refine me_getr C hB 4 (k' := 21) (i' := 0) fg_Mover_31 dX2_deliver_24 rfl rfl ?_
    refine me_aload_n C 1 (Or.inr (Or.inl ⟨_, rfl⟩)) dX2_deliver_27 rfl rfl ?_
    refine me_geti C 4 fg_Mover_97 dX2_deliver_28 rfl ?_
    obtain ⟨g4, hf⟩ := me_gs hf
    refine me_aald C hB (k' := 22) (i' := (me_ix (μ2 8 v1 4))) rfl (fun _ => rfl) rfl g4 dX2_deliver_31 rfl ?_
    refine me_astore_n C 2 (Or.inr (Or.inl ⟨_, rfl⟩)) dX2_deliver_32 rfl (by decide) (L' := [(2, me_r 22 (me_ix (μ2 8 v1 4))), (0, me_r 30 0), (1, me_r 8 v1)]) rfl ?_
    refine me_aload_n C 2 (Or.inr (Or.inl ⟨_, rfl⟩)) dX2_deliver_33 rfl rfl ?_
    refine me_getr C hB 0 (k' := 23) (i' := (me_ix (μ2 8 v1 4))) fg_Mover_178 dX2_deliver_34 rfl rfl ?_
    refine me_aload_n C 1 (Or.inr (Or.inl ⟨_, rfl⟩)) dX2_deliver_37 rfl rfl ?_
    refine me_geti C 12 fg_Mover_183 dX2_deliver_38 rfl ?_
    obtain ⟨g5, hf⟩ := me_gs hf
    refine me_iald C rfl (fun _ => rfl) g5 dX2_deliver_41 ?_
    obtain ⟨x6, e_x6, hf⟩ := me_lts hf
    refine me_nm e_x6 ?_
    refine me_istore_n C 3 dX2_deliver_42 rfl (by decide) (L' := [(3, me_i x6), (2, me_r 22 (me_ix (μ2 8 v1 4))), (0, me_r 30 0), (1, me_r 8 v1)]) rfl ?_
    refine me_aload_n C 2 (Or.inr (Or.inl ⟨_, rfl⟩)) dX2_deliver_43 rfl rfl ?_
    refine me_getr C hB 0 (k' := 23) (i' := (me_ix (μ2 8 v1 4))) fg_Mover_178 dX2_deliver_44 rfl rfl ?_
    refine me_aload_n C 1 (Or.inr (Or.inl ⟨_, rfl⟩)) dX2_deliver_47 rfl rfl ?_
    refine me_geti C 12 fg_Mover_183 dX2_deliver_48 rfl ?_
    refine me_iload_n C 3 dX2_deliver_51 rfl rfl ?_
    refine me_aload_n C 1 (Or.inr (Or.inl ⟨_, rfl⟩)) dX2_deliver_52 rfl rfl ?_
    refine me_geti C 13 fg_Mover_186 dX2_deliver_53 rfl ?_
    refine me_iadd C dX2_deliver_56 ?_
    obtain ⟨g7, hf⟩ := me_gs hf
    obtain ⟨μ8, e_μ8, hf⟩ := me_lts hf
    refine me_iast C rfl (fun _ => rfl) g7 dX2_deliver_57 e_μ8 ?_
    refine me_aload_n C 0 (Or.inr (Or.inl ⟨_, rfl⟩)) dX2_deliver_58 rfl rfl ?_
    refine me_getr C hB 3 (k' := 6) (i' := 0) fg_Mover_27 dX2_deliver_59 rfl rfl ?_
    refine me_dup C rfl dX2_deliver_62 ?_
    refine me_geti C 2 fg_Mover_189 dX2_deliver_63 rfl ?_
    refine me_iconst C (v := 1) dX2_deliver_66 (by decide) ?_
    refine me_isub C dX2_deliver_67 ?_
    obtain ⟨μ9, e_μ9, hf⟩ := me_lts hf
    refine me_puti C 2 fw_Mover_189 dX2_deliver_68 rfl (me_nri _) e_μ9 ?_
    refine me_aload_n C 1 (Or.inr (Or.inl ⟨_, rfl⟩)) dX2_deliver_71 rfl rfl ?_
    refine me_aload_n C 0 (Or.inr (Or.inl ⟨_, rfl⟩)) dX2_deliver_72 rfl rfl ?_
    refine me_getr C hB 3 (k' := 6) (i' := 0) fg_Mover_27 dX2_deliver_73 rfl rfl ?_
    refine me_bipush C (v := 97) dX2_deliver_76 (by decide) ?_
    refine me_aload_n C 1 (Or.inr (Or.inl ⟨_, rfl⟩)) dX2_deliver_78 rfl rfl ?_
    refine me_geti C 4 fg_Mover_97 dX2_deliver_79 rfl ?_
    refine me_aload_n C 1 (Or.inr (Or.inl ⟨_, rfl⟩)) dX2_deliver_82 rfl rfl ?_
    refine me_geti C 3 fg_Mover_192 dX2_deliver_83 rfl ?_
    refine me_iload_n C 3 dX2_deliver_86 rfl rfl ?_
    refine me_iconst C (v := 1) dX2_deliver_87 (by decide) ?_
    refine me_aload_n C 0 (Or.inr (Or.inl ⟨_, rfl⟩)) dX2_deliver_88 rfl rfl ?_
    refine me_geti C 5 fg_Mover_35 dX2_deliver_89 rfl ?_
    obtain ⟨μ11, r10, h_r10, hf⟩ := me_bs2 hf
    refine me_callV C N  (As := [me_i (97 : Int32), me_i (μ9 8 v1 4), me_i (μ9 8 v1 3), me_i x6, me_i (1 : Int32), me_i (μ9 30 0 5)]) (st := [me_r 8 v1]) 0 0 (c_Post_make hB h_r10) mv_Post_make ml_Mover_195 rfl rfl dX2_deliver_92 rfl rfl ⟨by decide, by decide⟩ ⟨by decide, by decide, by decide, by decide⟩ (Nat.le_of_ble_eq_true rfl) ?_
    obtain ⟨μ12, e_μ12, hf⟩ := me_lts hf
    refine me_puti C 14 fw_Mover_199 dX2_deliver_95 rfl (me_nri _) e_μ12 ?_
    exact me_vret C N dX2_deliver_98 (by cases hf; rfl) (by decide) (by decide)
theorem c_Mover_deliver {B : me_B} (hB : me_St B) {μ : me_M} {v1 : Nat} {μ' : me_M} {r : Unit}  (hf : f_Mover_deliver μ v1 = some (μ', r)) : ∀ l E z, l.stackTraces = false → me_Met l yX2_deliver cX2_deliver 4 none 1 27 0 0 E B μ z [me_r 30 0, me_r 8 v1] (B, μ', .ok (none)) :=
  fun _ _ _ hl => me_ofZ hl (by decide +kernel) (Nat.le_of_ble_eq_true rfl) (fun _ C N hNx => z_Mover_deliver C N hNx hB  hf)
