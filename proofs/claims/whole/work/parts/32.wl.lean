/-! WALKS: M_multicast, M_ask, M_answer, M_kind, M_state, M_word, M_piecesAt, M_head, M_pieces, M_isDone, M_time, M_packets, M_isLying, M_firstLying -/
theorem dX12_multicast_0 : decode cX12_multicast 0 = .ok (.aload_n 0, 1) := by decide +kernel
theorem dX12_multicast_1 : decode cX12_multicast 1 = .ok (.aload_n 0, 1) := by decide +kernel
theorem dX12_multicast_2 : decode cX12_multicast 2 = .ok (.iload_n 1, 1) := by decide +kernel
theorem dX12_multicast_3 : decode cX12_multicast 3 = .ok (.invokevirtual 165, 3) := by decide +kernel
theorem dX12_multicast_6 : decode cX12_multicast 6 = .ok (.iconst 1, 1) := by decide +kernel
theorem dX12_multicast_7 : decode cX12_multicast 7 = .ok (.invokevirtual 155, 3) := by decide +kernel
theorem dX12_multicast_10 : decode cX12_multicast 10 = .ok (.ifCond .ne 55, 3) := by decide +kernel
theorem dX12_multicast_13 : decode cX12_multicast 13 = .ok (.aload_n 0, 1) := by decide +kernel
theorem dX12_multicast_14 : decode cX12_multicast 14 = .ok (.iload_n 2, 1) := by decide +kernel
theorem dX12_multicast_15 : decode cX12_multicast 15 = .ok (.iconst 1, 1) := by decide +kernel
theorem dX12_multicast_16 : decode cX12_multicast 16 = .ok (.if_icmp .lt 13, 3) := by decide +kernel
theorem dX12_multicast_19 : decode cX12_multicast 19 = .ok (.iload_n 2, 1) := by decide +kernel
theorem dX12_multicast_20 : decode cX12_multicast 20 = .ok (.iconst 1, 1) := by decide +kernel
theorem dX12_multicast_21 : decode cX12_multicast 21 = .ok (.aload_n 0, 1) := by decide +kernel
theorem dX12_multicast_22 : decode cX12_multicast 22 = .ok (.invokevirtual 144, 3) := by decide +kernel
theorem dX12_multicast_25 : decode cX12_multicast 25 = .ok (.ishl, 1) := by decide +kernel
theorem dX12_multicast_26 : decode cX12_multicast 26 = .ok (.if_icmp .lt 7, 3) := by decide +kernel
theorem dX12_multicast_29 : decode cX12_multicast 29 = .ok (.iconst 1, 1) := by decide +kernel
theorem dX12_multicast_30 : decode cX12_multicast 30 = .ok (.goto 4, 3) := by decide +kernel
theorem dX12_multicast_33 : decode cX12_multicast 33 = .ok (.iconst 0, 1) := by decide +kernel
theorem dX12_multicast_34 : decode cX12_multicast 34 = .ok (.iconst 2, 1) := by decide +kernel
theorem dX12_multicast_35 : decode cX12_multicast 35 = .ok (.invokevirtual 155, 3) := by decide +kernel
theorem dX12_multicast_38 : decode cX12_multicast 38 = .ok (.ifCond .ne 27, 3) := by decide +kernel
theorem dX12_multicast_41 : decode cX12_multicast 41 = .ok (.aload_n 0, 1) := by decide +kernel
theorem dX12_multicast_42 : decode cX12_multicast 42 = .ok (.aload_n 0, 1) := by decide +kernel
theorem dX12_multicast_43 : decode cX12_multicast 43 = .ok (.invokevirtual 169, 3) := by decide +kernel
theorem dX12_multicast_46 : decode cX12_multicast 46 = .ok (.iload_n 2, 1) := by decide +kernel
theorem dX12_multicast_47 : decode cX12_multicast 47 = .ok (.invokestatic 176, 3) := by decide +kernel
theorem dX12_multicast_50 : decode cX12_multicast 50 = .ok (.if_icmp .ge 7, 3) := by decide +kernel
theorem dX12_multicast_53 : decode cX12_multicast 53 = .ok (.iconst 1, 1) := by decide +kernel
theorem dX12_multicast_54 : decode cX12_multicast 54 = .ok (.goto 4, 3) := by decide +kernel
theorem dX12_multicast_57 : decode cX12_multicast 57 = .ok (.iconst 0, 1) := by decide +kernel
theorem dX12_multicast_58 : decode cX12_multicast 58 = .ok (.iconst 3, 1) := by decide +kernel
theorem dX12_multicast_59 : decode cX12_multicast 59 = .ok (.invokevirtual 155, 3) := by decide +kernel
theorem dX12_multicast_62 : decode cX12_multicast 62 = .ok (.ifCond .eq 5, 3) := by decide +kernel
theorem dX12_multicast_65 : decode cX12_multicast 65 = .ok (.iconst 0, 1) := by decide +kernel
theorem dX12_multicast_66 : decode cX12_multicast 66 = .ok (.ireturn, 1) := by decide +kernel
theorem dX12_multicast_67 : decode cX12_multicast 67 = .ok (.iconst 0, 1) := by decide +kernel
theorem dX12_multicast_68 : decode cX12_multicast 68 = .ok (.istore 4, 2) := by decide +kernel
theorem dX12_multicast_70 : decode cX12_multicast 70 = .ok (.iload 4, 2) := by decide +kernel
theorem dX12_multicast_72 : decode cX12_multicast 72 = .ok (.aload_n 0, 1) := by decide +kernel
theorem dX12_multicast_73 : decode cX12_multicast 73 = .ok (.invokevirtual 144, 3) := by decide +kernel
theorem dX12_multicast_76 : decode cX12_multicast 76 = .ok (.if_icmp .ge 32, 3) := by decide +kernel
theorem dX12_multicast_79 : decode cX12_multicast 79 = .ok (.iload_n 2, 1) := by decide +kernel
theorem dX12_multicast_80 : decode cX12_multicast 80 = .ok (.iload 4, 2) := by decide +kernel
theorem dX12_multicast_82 : decode cX12_multicast 82 = .ok (.ishr, 1) := by decide +kernel
theorem dX12_multicast_83 : decode cX12_multicast 83 = .ok (.iconst 1, 1) := by decide +kernel
theorem dX12_multicast_84 : decode cX12_multicast 84 = .ok (.iand, 1) := by decide +kernel
theorem dX12_multicast_85 : decode cX12_multicast 85 = .ok (.iconst 1, 1) := by decide +kernel
theorem dX12_multicast_86 : decode cX12_multicast 86 = .ok (.if_icmp .ne 16, 3) := by decide +kernel
theorem dX12_multicast_89 : decode cX12_multicast 89 = .ok (.aload_n 0, 1) := by decide +kernel
theorem dX12_multicast_90 : decode cX12_multicast 90 = .ok (.bipush 109, 2) := by decide +kernel
theorem dX12_multicast_92 : decode cX12_multicast 92 = .ok (.iload_n 1, 1) := by decide +kernel
theorem dX12_multicast_93 : decode cX12_multicast 93 = .ok (.iload 4, 2) := by decide +kernel
theorem dX12_multicast_95 : decode cX12_multicast 95 = .ok (.iload_n 3, 1) := by decide +kernel
theorem dX12_multicast_96 : decode cX12_multicast 96 = .ok (.iconst 1, 1) := by decide +kernel
theorem dX12_multicast_97 : decode cX12_multicast 97 = .ok (.invokevirtual 172, 3) := by decide +kernel
theorem dX12_multicast_100 : decode cX12_multicast 100 = .ok (.istore 5, 2) := by decide +kernel
theorem dX12_multicast_102 : decode cX12_multicast 102 = .ok (.iinc 4 1, 3) := by decide +kernel
theorem dX12_multicast_105 : decode cX12_multicast 105 = .ok (.goto (-35), 3) := by decide +kernel
theorem dX12_multicast_108 : decode cX12_multicast 108 = .ok (.iload_n 2, 1) := by decide +kernel
theorem dX12_multicast_109 : decode cX12_multicast 109 = .ok (.invokestatic 176, 3) := by decide +kernel
theorem dX12_multicast_112 : decode cX12_multicast 112 = .ok (.ireturn, 1) := by decide +kernel
theorem dX12_ask_0 : decode cX12_ask 0 = .ok (.aload_n 0, 1) := by decide +kernel
theorem dX12_ask_1 : decode cX12_ask 1 = .ok (.aload_n 0, 1) := by decide +kernel
theorem dX12_ask_2 : decode cX12_ask 2 = .ok (.iload_n 1, 1) := by decide +kernel
theorem dX12_ask_3 : decode cX12_ask 3 = .ok (.invokevirtual 165, 3) := by decide +kernel
theorem dX12_ask_6 : decode cX12_ask 6 = .ok (.ifCond .ne 11, 3) := by decide +kernel
theorem dX12_ask_9 : decode cX12_ask 9 = .ok (.aload_n 0, 1) := by decide +kernel
theorem dX12_ask_10 : decode cX12_ask 10 = .ok (.iload_n 2, 1) := by decide +kernel
theorem dX12_ask_11 : decode cX12_ask 11 = .ok (.invokevirtual 165, 3) := by decide +kernel
theorem dX12_ask_14 : decode cX12_ask 14 = .ok (.ifCond .eq 7, 3) := by decide +kernel
theorem dX12_ask_17 : decode cX12_ask 17 = .ok (.iconst 1, 1) := by decide +kernel
theorem dX12_ask_18 : decode cX12_ask 18 = .ok (.goto 4, 3) := by decide +kernel
theorem dX12_ask_21 : decode cX12_ask 21 = .ok (.iconst 0, 1) := by decide +kernel
theorem dX12_ask_22 : decode cX12_ask 22 = .ok (.iconst 1, 1) := by decide +kernel
theorem dX12_ask_23 : decode cX12_ask 23 = .ok (.invokevirtual 155, 3) := by decide +kernel
theorem dX12_ask_26 : decode cX12_ask 26 = .ok (.ifCond .ne 47, 3) := by decide +kernel
theorem dX12_ask_29 : decode cX12_ask 29 = .ok (.aload_n 0, 1) := by decide +kernel
theorem dX12_ask_30 : decode cX12_ask 30 = .ok (.iload_n 3, 1) := by decide +kernel
theorem dX12_ask_31 : decode cX12_ask 31 = .ok (.iconst 0, 1) := by decide +kernel
theorem dX12_ask_32 : decode cX12_ask 32 = .ok (.bipush 7, 2) := by decide +kernel
theorem dX12_ask_34 : decode cX12_ask 34 = .ok (.invokestatic 148, 3) := by decide +kernel
theorem dX12_ask_37 : decode cX12_ask 37 = .ok (.ifCond .ne 7, 3) := by decide +kernel
theorem dX12_ask_40 : decode cX12_ask 40 = .ok (.iconst 1, 1) := by decide +kernel
theorem dX12_ask_41 : decode cX12_ask 41 = .ok (.goto 4, 3) := by decide +kernel
theorem dX12_ask_44 : decode cX12_ask 44 = .ok (.iconst 0, 1) := by decide +kernel
theorem dX12_ask_45 : decode cX12_ask 45 = .ok (.iconst 2, 1) := by decide +kernel
theorem dX12_ask_46 : decode cX12_ask 46 = .ok (.invokevirtual 155, 3) := by decide +kernel
theorem dX12_ask_49 : decode cX12_ask 49 = .ok (.ifCond .ne 24, 3) := by decide +kernel
theorem dX12_ask_52 : decode cX12_ask 52 = .ok (.aload_n 0, 1) := by decide +kernel
theorem dX12_ask_53 : decode cX12_ask 53 = .ok (.aload_n 0, 1) := by decide +kernel
theorem dX12_ask_54 : decode cX12_ask 54 = .ok (.invokevirtual 169, 3) := by decide +kernel
theorem dX12_ask_57 : decode cX12_ask 57 = .ok (.iconst 2, 1) := by decide +kernel
theorem dX12_ask_58 : decode cX12_ask 58 = .ok (.if_icmp .ge 7, 3) := by decide +kernel
theorem dX12_ask_61 : decode cX12_ask 61 = .ok (.iconst 1, 1) := by decide +kernel
theorem dX12_ask_62 : decode cX12_ask 62 = .ok (.goto 4, 3) := by decide +kernel
theorem dX12_ask_65 : decode cX12_ask 65 = .ok (.iconst 0, 1) := by decide +kernel
theorem dX12_ask_66 : decode cX12_ask 66 = .ok (.iconst 3, 1) := by decide +kernel
theorem dX12_ask_67 : decode cX12_ask 67 = .ok (.invokevirtual 155, 3) := by decide +kernel
theorem dX12_ask_70 : decode cX12_ask 70 = .ok (.ifCond .eq 5, 3) := by decide +kernel
theorem dX12_ask_73 : decode cX12_ask 73 = .ok (.iconst 0, 1) := by decide +kernel
theorem dX12_ask_74 : decode cX12_ask 74 = .ok (.ireturn, 1) := by decide +kernel
theorem dX12_ask_75 : decode cX12_ask 75 = .ok (.aload_n 0, 1) := by decide +kernel
theorem dX12_ask_76 : decode cX12_ask 76 = .ok (.bipush 113, 2) := by decide +kernel
theorem dX12_ask_78 : decode cX12_ask 78 = .ok (.iload_n 1, 1) := by decide +kernel
theorem dX12_ask_79 : decode cX12_ask 79 = .ok (.iload_n 2, 1) := by decide +kernel
theorem dX12_ask_80 : decode cX12_ask 80 = .ok (.iconst 0, 1) := by decide +kernel
theorem dX12_ask_81 : decode cX12_ask 81 = .ok (.iconst 1, 1) := by decide +kernel
theorem dX12_ask_82 : decode cX12_ask 82 = .ok (.invokevirtual 172, 3) := by decide +kernel
theorem dX12_ask_85 : decode cX12_ask 85 = .ok (.istore 6, 2) := by decide +kernel
theorem dX12_ask_87 : decode cX12_ask 87 = .ok (.aload_n 0, 1) := by decide +kernel
theorem dX12_ask_88 : decode cX12_ask 88 = .ok (.getfield 52, 3) := by decide +kernel
theorem dX12_ask_91 : decode cX12_ask 91 = .ok (.iload 6, 2) := by decide +kernel
theorem dX12_ask_93 : decode cX12_ask 93 = .ok (.iload_n 3, 1) := by decide +kernel
theorem dX12_ask_94 : decode cX12_ask 94 = .ok (.iastore, 1) := by decide +kernel
theorem dX12_ask_95 : decode cX12_ask 95 = .ok (.aload_n 0, 1) := by decide +kernel
theorem dX12_ask_96 : decode cX12_ask 96 = .ok (.getfield 55, 3) := by decide +kernel
theorem dX12_ask_99 : decode cX12_ask 99 = .ok (.iload 6, 2) := by decide +kernel
theorem dX12_ask_101 : decode cX12_ask 101 = .ok (.iload 4, 2) := by decide +kernel
theorem dX12_ask_103 : decode cX12_ask 103 = .ok (.bastore, 1) := by decide +kernel
theorem dX12_ask_104 : decode cX12_ask 104 = .ok (.aload_n 0, 1) := by decide +kernel
theorem dX12_ask_105 : decode cX12_ask 105 = .ok (.getfield 59, 3) := by decide +kernel
theorem dX12_ask_108 : decode cX12_ask 108 = .ok (.iload 6, 2) := by decide +kernel
theorem dX12_ask_110 : decode cX12_ask 110 = .ok (.iload 5, 2) := by decide +kernel
theorem dX12_ask_112 : decode cX12_ask 112 = .ok (.iastore, 1) := by decide +kernel
theorem dX12_ask_113 : decode cX12_ask 113 = .ok (.iload 6, 2) := by decide +kernel
theorem dX12_ask_115 : decode cX12_ask 115 = .ok (.ireturn, 1) := by decide +kernel
theorem dX12_answer_0 : decode cX12_answer 0 = .ok (.aload_n 0, 1) := by decide +kernel
theorem dX12_answer_1 : decode cX12_answer 1 = .ok (.iload_n 1, 1) := by decide +kernel
theorem dX12_answer_2 : decode cX12_answer 2 = .ok (.invokevirtual 182, 3) := by decide +kernel
theorem dX12_answer_5 : decode cX12_answer 5 = .ok (.ifCond .ne 50, 3) := by decide +kernel
theorem dX12_answer_8 : decode cX12_answer 8 = .ok (.aload_n 0, 1) := by decide +kernel
theorem dX12_answer_9 : decode cX12_answer 9 = .ok (.aload_n 0, 1) := by decide +kernel
theorem dX12_answer_10 : decode cX12_answer 10 = .ok (.getfield 23, 3) := by decide +kernel
theorem dX12_answer_13 : decode cX12_answer 13 = .ok (.iload_n 1, 1) := by decide +kernel
theorem dX12_answer_14 : decode cX12_answer 14 = .ok (.caload, 1) := by decide +kernel
theorem dX12_answer_15 : decode cX12_answer 15 = .ok (.bipush 113, 2) := by decide +kernel
theorem dX12_answer_17 : decode cX12_answer 17 = .ok (.if_icmp .eq 7, 3) := by decide +kernel
theorem dX12_answer_20 : decode cX12_answer 20 = .ok (.iconst 1, 1) := by decide +kernel
theorem dX12_answer_21 : decode cX12_answer 21 = .ok (.goto 4, 3) := by decide +kernel
theorem dX12_answer_24 : decode cX12_answer 24 = .ok (.iconst 0, 1) := by decide +kernel
theorem dX12_answer_25 : decode cX12_answer 25 = .ok (.iconst 2, 1) := by decide +kernel
theorem dX12_answer_26 : decode cX12_answer 26 = .ok (.invokevirtual 155, 3) := by decide +kernel
theorem dX12_answer_29 : decode cX12_answer 29 = .ok (.ifCond .ne 26, 3) := by decide +kernel
theorem dX12_answer_32 : decode cX12_answer 32 = .ok (.aload_n 0, 1) := by decide +kernel
theorem dX12_answer_33 : decode cX12_answer 33 = .ok (.aload_n 0, 1) := by decide +kernel
theorem dX12_answer_34 : decode cX12_answer 34 = .ok (.getfield 62, 3) := by decide +kernel
theorem dX12_answer_37 : decode cX12_answer 37 = .ok (.iload_n 1, 1) := by decide +kernel
theorem dX12_answer_38 : decode cX12_answer 38 = .ok (.iaload, 1) := by decide +kernel
theorem dX12_answer_39 : decode cX12_answer 39 = .ok (.iconst (-1), 1) := by decide +kernel
theorem dX12_answer_40 : decode cX12_answer 40 = .ok (.if_icmp .ne 7, 3) := by decide +kernel
theorem dX12_answer_43 : decode cX12_answer 43 = .ok (.iconst 1, 1) := by decide +kernel
theorem dX12_answer_44 : decode cX12_answer 44 = .ok (.goto 4, 3) := by decide +kernel
theorem dX12_answer_47 : decode cX12_answer 47 = .ok (.iconst 0, 1) := by decide +kernel
theorem dX12_answer_48 : decode cX12_answer 48 = .ok (.iconst 3, 1) := by decide +kernel
theorem dX12_answer_49 : decode cX12_answer 49 = .ok (.invokevirtual 155, 3) := by decide +kernel
theorem dX12_answer_52 : decode cX12_answer 52 = .ok (.ifCond .eq 5, 3) := by decide +kernel
theorem dX12_answer_55 : decode cX12_answer 55 = .ok (.iconst 0, 1) := by decide +kernel
theorem dX12_answer_56 : decode cX12_answer 56 = .ok (.ireturn, 1) := by decide +kernel
theorem dX12_answer_57 : decode cX12_answer 57 = .ok (.aload_n 0, 1) := by decide +kernel
theorem dX12_answer_58 : decode cX12_answer 58 = .ok (.getfield 62, 3) := by decide +kernel
theorem dX12_answer_61 : decode cX12_answer 61 = .ok (.iload_n 1, 1) := by decide +kernel
theorem dX12_answer_62 : decode cX12_answer 62 = .ok (.iaload, 1) := by decide +kernel
theorem dX12_answer_63 : decode cX12_answer 63 = .ok (.ireturn, 1) := by decide +kernel
theorem dX12_kind_0 : decode cX12_kind 0 = .ok (.aload_n 0, 1) := by decide +kernel
theorem dX12_kind_1 : decode cX12_kind 1 = .ok (.iload_n 1, 1) := by decide +kernel
theorem dX12_kind_2 : decode cX12_kind 2 = .ok (.invokevirtual 182, 3) := by decide +kernel
theorem dX12_kind_5 : decode cX12_kind 5 = .ok (.ifCond .eq 8, 3) := by decide +kernel
theorem dX12_kind_8 : decode cX12_kind 8 = .ok (.bipush 32, 2) := by decide +kernel
theorem dX12_kind_10 : decode cX12_kind 10 = .ok (.goto 9, 3) := by decide +kernel
theorem dX12_kind_13 : decode cX12_kind 13 = .ok (.aload_n 0, 1) := by decide +kernel
theorem dX12_kind_14 : decode cX12_kind 14 = .ok (.getfield 23, 3) := by decide +kernel
theorem dX12_kind_17 : decode cX12_kind 17 = .ok (.iload_n 1, 1) := by decide +kernel
theorem dX12_kind_18 : decode cX12_kind 18 = .ok (.caload, 1) := by decide +kernel
theorem dX12_kind_19 : decode cX12_kind 19 = .ok (.ireturn, 1) := by decide +kernel
theorem dX12_state_0 : decode cX12_state 0 = .ok (.aload_n 0, 1) := by decide +kernel
theorem dX12_state_1 : decode cX12_state 1 = .ok (.iload_n 1, 1) := by decide +kernel
theorem dX12_state_2 : decode cX12_state 2 = .ok (.invokevirtual 182, 3) := by decide +kernel
theorem dX12_state_5 : decode cX12_state 5 = .ok (.ifCond .eq 8, 3) := by decide +kernel
theorem dX12_state_8 : decode cX12_state 8 = .ok (.bipush 32, 2) := by decide +kernel
theorem dX12_state_10 : decode cX12_state 10 = .ok (.goto 9, 3) := by decide +kernel
theorem dX12_state_13 : decode cX12_state 13 = .ok (.aload_n 0, 1) := by decide +kernel
theorem dX12_state_14 : decode cX12_state 14 = .ok (.getfield 27, 3) := by decide +kernel
theorem dX12_state_17 : decode cX12_state 17 = .ok (.iload_n 1, 1) := by decide +kernel
theorem dX12_state_18 : decode cX12_state 18 = .ok (.caload, 1) := by decide +kernel
theorem dX12_state_19 : decode cX12_state 19 = .ok (.ireturn, 1) := by decide +kernel
theorem dX12_word_0 : decode cX12_word 0 = .ok (.aload_n 0, 1) := by decide +kernel
theorem dX12_word_1 : decode cX12_word 1 = .ok (.iload_n 1, 1) := by decide +kernel
theorem dX12_word_2 : decode cX12_word 2 = .ok (.invokevirtual 182, 3) := by decide +kernel
theorem dX12_word_5 : decode cX12_word 5 = .ok (.ifCond .eq 7, 3) := by decide +kernel
theorem dX12_word_8 : decode cX12_word 8 = .ok (.iconst 0, 1) := by decide +kernel
theorem dX12_word_9 : decode cX12_word 9 = .ok (.goto 9, 3) := by decide +kernel
theorem dX12_word_12 : decode cX12_word 12 = .ok (.aload_n 0, 1) := by decide +kernel
theorem dX12_word_13 : decode cX12_word 13 = .ok (.getfield 37, 3) := by decide +kernel
theorem dX12_word_16 : decode cX12_word 16 = .ok (.iload_n 1, 1) := by decide +kernel
theorem dX12_word_17 : decode cX12_word 17 = .ok (.iaload, 1) := by decide +kernel
theorem dX12_word_18 : decode cX12_word 18 = .ok (.ireturn, 1) := by decide +kernel
theorem dX12_piecesAt_0 : decode cX12_piecesAt 0 = .ok (.iconst 0, 1) := by decide +kernel
theorem dX12_piecesAt_1 : decode cX12_piecesAt 1 = .ok (.istore 4, 2) := by decide +kernel
theorem dX12_piecesAt_3 : decode cX12_piecesAt 3 = .ok (.iconst 0, 1) := by decide +kernel
theorem dX12_piecesAt_4 : decode cX12_piecesAt 4 = .ok (.istore 5, 2) := by decide +kernel
theorem dX12_piecesAt_6 : decode cX12_piecesAt 6 = .ok (.iload 5, 2) := by decide +kernel
theorem dX12_piecesAt_8 : decode cX12_piecesAt 8 = .ok (.iconst 2, 1) := by decide +kernel
theorem dX12_piecesAt_9 : decode cX12_piecesAt 9 = .ok (.if_icmp .ge 98, 3) := by decide +kernel
theorem dX12_piecesAt_12 : decode cX12_piecesAt 12 = .ok (.iconst 0, 1) := by decide +kernel
theorem dX12_piecesAt_13 : decode cX12_piecesAt 13 = .ok (.istore 6, 2) := by decide +kernel
theorem dX12_piecesAt_15 : decode cX12_piecesAt 15 = .ok (.iload 6, 2) := by decide +kernel
theorem dX12_piecesAt_17 : decode cX12_piecesAt 17 = .ok (.iconst 5, 1) := by decide +kernel
theorem dX12_piecesAt_18 : decode cX12_piecesAt 18 = .ok (.if_icmp .ge 83, 3) := by decide +kernel
theorem dX12_piecesAt_21 : decode cX12_piecesAt 21 = .ok (.iconst 0, 1) := by decide +kernel
theorem dX12_piecesAt_22 : decode cX12_piecesAt 22 = .ok (.istore 7, 2) := by decide +kernel
theorem dX12_piecesAt_24 : decode cX12_piecesAt 24 = .ok (.iload 7, 2) := by decide +kernel
theorem dX12_piecesAt_26 : decode cX12_piecesAt 26 = .ok (.aload_n 0, 1) := by decide +kernel
theorem dX12_piecesAt_27 : decode cX12_piecesAt 27 = .ok (.getfield 75, 3) := by decide +kernel
theorem dX12_piecesAt_30 : decode cX12_piecesAt 30 = .ok (.iload_n 1, 1) := by decide +kernel
theorem dX12_piecesAt_31 : decode cX12_piecesAt 31 = .ok (.aaload, 1) := by decide +kernel
theorem dX12_piecesAt_32 : decode cX12_piecesAt 32 = .ok (.iload 5, 2) := by decide +kernel
theorem dX12_piecesAt_34 : decode cX12_piecesAt 34 = .ok (.aaload, 1) := by decide +kernel
theorem dX12_piecesAt_35 : decode cX12_piecesAt 35 = .ok (.iload 6, 2) := by decide +kernel
theorem dX12_piecesAt_37 : decode cX12_piecesAt 37 = .ok (.iaload, 1) := by decide +kernel
theorem dX12_piecesAt_38 : decode cX12_piecesAt 38 = .ok (.if_icmp .ge 57, 3) := by decide +kernel
theorem dX12_piecesAt_41 : decode cX12_piecesAt 41 = .ok (.aload_n 0, 1) := by decide +kernel
theorem dX12_piecesAt_42 : decode cX12_piecesAt 42 = .ok (.getfield 67, 3) := by decide +kernel
theorem dX12_piecesAt_45 : decode cX12_piecesAt 45 = .ok (.iload_n 1, 1) := by decide +kernel
theorem dX12_piecesAt_46 : decode cX12_piecesAt 46 = .ok (.aaload, 1) := by decide +kernel
theorem dX12_piecesAt_47 : decode cX12_piecesAt 47 = .ok (.iload 5, 2) := by decide +kernel
theorem dX12_piecesAt_49 : decode cX12_piecesAt 49 = .ok (.aaload, 1) := by decide +kernel
theorem dX12_piecesAt_50 : decode cX12_piecesAt 50 = .ok (.iload 6, 2) := by decide +kernel
theorem dX12_piecesAt_52 : decode cX12_piecesAt 52 = .ok (.aaload, 1) := by decide +kernel
theorem dX12_piecesAt_53 : decode cX12_piecesAt 53 = .ok (.iload 7, 2) := by decide +kernel
theorem dX12_piecesAt_55 : decode cX12_piecesAt 55 = .ok (.iaload, 1) := by decide +kernel
theorem dX12_piecesAt_56 : decode cX12_piecesAt 56 = .ok (.istore 8, 2) := by decide +kernel
theorem dX12_piecesAt_58 : decode cX12_piecesAt 58 = .ok (.iload 4, 2) := by decide +kernel
theorem dX12_piecesAt_60 : decode cX12_piecesAt 60 = .ok (.iload 8, 2) := by decide +kernel
theorem dX12_piecesAt_62 : decode cX12_piecesAt 62 = .ok (.bipush 8, 2) := by decide +kernel
theorem dX12_piecesAt_64 : decode cX12_piecesAt 64 = .ok (.idiv, 1) := by decide +kernel
theorem dX12_piecesAt_65 : decode cX12_piecesAt 65 = .ok (.iload_n 2, 1) := by decide +kernel
theorem dX12_piecesAt_66 : decode cX12_piecesAt 66 = .ok (.if_icmp .ne 19, 3) := by decide +kernel
theorem dX12_piecesAt_69 : decode cX12_piecesAt 69 = .ok (.iload_n 3, 1) := by decide +kernel
theorem dX12_piecesAt_70 : decode cX12_piecesAt 70 = .ok (.ifCond .eq 11, 3) := by decide +kernel
theorem dX12_piecesAt_73 : decode cX12_piecesAt 73 = .ok (.iload 8, 2) := by decide +kernel
theorem dX12_piecesAt_75 : decode cX12_piecesAt 75 = .ok (.bipush 8, 2) := by decide +kernel
theorem dX12_piecesAt_77 : decode cX12_piecesAt 77 = .ok (.irem, 1) := by decide +kernel
theorem dX12_piecesAt_78 : decode cX12_piecesAt 78 = .ok (.ifCond .ne 7, 3) := by decide +kernel
theorem dX12_piecesAt_81 : decode cX12_piecesAt 81 = .ok (.iconst 1, 1) := by decide +kernel
theorem dX12_piecesAt_82 : decode cX12_piecesAt 82 = .ok (.goto 4, 3) := by decide +kernel
theorem dX12_piecesAt_85 : decode cX12_piecesAt 85 = .ok (.iconst 0, 1) := by decide +kernel
theorem dX12_piecesAt_86 : decode cX12_piecesAt 86 = .ok (.iadd, 1) := by decide +kernel
theorem dX12_piecesAt_87 : decode cX12_piecesAt 87 = .ok (.istore 4, 2) := by decide +kernel
theorem dX12_piecesAt_89 : decode cX12_piecesAt 89 = .ok (.iinc 7 1, 3) := by decide +kernel
theorem dX12_piecesAt_92 : decode cX12_piecesAt 92 = .ok (.goto (-68), 3) := by decide +kernel
theorem dX12_piecesAt_95 : decode cX12_piecesAt 95 = .ok (.iinc 6 1, 3) := by decide +kernel
theorem dX12_piecesAt_98 : decode cX12_piecesAt 98 = .ok (.goto (-83), 3) := by decide +kernel
theorem dX12_piecesAt_101 : decode cX12_piecesAt 101 = .ok (.iinc 5 1, 3) := by decide +kernel
theorem dX12_piecesAt_104 : decode cX12_piecesAt 104 = .ok (.goto (-98), 3) := by decide +kernel
theorem dX12_piecesAt_107 : decode cX12_piecesAt 107 = .ok (.iload 4, 2) := by decide +kernel
theorem dX12_piecesAt_109 : decode cX12_piecesAt 109 = .ok (.ireturn, 1) := by decide +kernel
theorem dX12_head_0 : decode cX12_head 0 = .ok (.aload_n 0, 1) := by decide +kernel
theorem dX12_head_1 : decode cX12_head 1 = .ok (.iload_n 1, 1) := by decide +kernel
theorem dX12_head_2 : decode cX12_head 2 = .ok (.invokevirtual 182, 3) := by decide +kernel
theorem dX12_head_5 : decode cX12_head 5 = .ok (.ifCond .eq 5, 3) := by decide +kernel
theorem dX12_head_8 : decode cX12_head 8 = .ok (.iconst 0, 1) := by decide +kernel
theorem dX12_head_9 : decode cX12_head 9 = .ok (.ireturn, 1) := by decide +kernel
theorem dX12_head_10 : decode cX12_head 10 = .ok (.iconst (-1), 1) := by decide +kernel
theorem dX12_head_11 : decode cX12_head 11 = .ok (.istore_n 2, 1) := by decide +kernel
theorem dX12_head_12 : decode cX12_head 12 = .ok (.iconst 0, 1) := by decide +kernel
theorem dX12_head_13 : decode cX12_head 13 = .ok (.istore_n 3, 1) := by decide +kernel
theorem dX12_head_14 : decode cX12_head 14 = .ok (.iload_n 3, 1) := by decide +kernel
theorem dX12_head_15 : decode cX12_head 15 = .ok (.aload_n 0, 1) := by decide +kernel
theorem dX12_head_16 : decode cX12_head 16 = .ok (.invokevirtual 144, 3) := by decide +kernel
theorem dX12_head_19 : decode cX12_head 19 = .ok (.if_icmp .ge 25, 3) := by decide +kernel
theorem dX12_head_22 : decode cX12_head 22 = .ok (.aload_n 0, 1) := by decide +kernel
theorem dX12_head_23 : decode cX12_head 23 = .ok (.iload_n 3, 1) := by decide +kernel
theorem dX12_head_24 : decode cX12_head 24 = .ok (.iload_n 1, 1) := by decide +kernel
theorem dX12_head_25 : decode cX12_head 25 = .ok (.iconst 1, 1) := by decide +kernel
theorem dX12_head_26 : decode cX12_head 26 = .ok (.invokevirtual 185, 3) := by decide +kernel
theorem dX12_head_29 : decode cX12_head 29 = .ok (.ifCond .le 7, 3) := by decide +kernel
theorem dX12_head_32 : decode cX12_head 32 = .ok (.iload_n 3, 1) := by decide +kernel
theorem dX12_head_33 : decode cX12_head 33 = .ok (.goto 4, 3) := by decide +kernel
theorem dX12_head_36 : decode cX12_head 36 = .ok (.iload_n 2, 1) := by decide +kernel
theorem dX12_head_37 : decode cX12_head 37 = .ok (.istore_n 2, 1) := by decide +kernel
theorem dX12_head_38 : decode cX12_head 38 = .ok (.iinc 3 1, 3) := by decide +kernel
theorem dX12_head_41 : decode cX12_head 41 = .ok (.goto (-27), 3) := by decide +kernel
theorem dX12_head_44 : decode cX12_head 44 = .ok (.aload_n 0, 1) := by decide +kernel
theorem dX12_head_45 : decode cX12_head 45 = .ok (.iload_n 2, 1) := by decide +kernel
theorem dX12_head_46 : decode cX12_head 46 = .ok (.iconst (-1), 1) := by decide +kernel
theorem dX12_head_47 : decode cX12_head 47 = .ok (.if_icmp .ne 7, 3) := by decide +kernel
theorem dX12_head_50 : decode cX12_head 50 = .ok (.iconst 1, 1) := by decide +kernel
theorem dX12_head_51 : decode cX12_head 51 = .ok (.goto 4, 3) := by decide +kernel
theorem dX12_head_54 : decode cX12_head 54 = .ok (.iconst 0, 1) := by decide +kernel
theorem dX12_head_55 : decode cX12_head 55 = .ok (.iconst 2, 1) := by decide +kernel
theorem dX12_head_56 : decode cX12_head 56 = .ok (.invokevirtual 155, 3) := by decide +kernel
theorem dX12_head_59 : decode cX12_head 59 = .ok (.ifCond .eq 7, 3) := by decide +kernel
theorem dX12_head_62 : decode cX12_head 62 = .ok (.iconst 0, 1) := by decide +kernel
theorem dX12_head_63 : decode cX12_head 63 = .ok (.goto 4, 3) := by decide +kernel
theorem dX12_head_66 : decode cX12_head 66 = .ok (.iload_n 2, 1) := by decide +kernel
theorem dX12_head_67 : decode cX12_head 67 = .ok (.ireturn, 1) := by decide +kernel
theorem dX12_pieces_0 : decode cX12_pieces 0 = .ok (.aload_n 0, 1) := by decide +kernel
theorem dX12_pieces_1 : decode cX12_pieces 1 = .ok (.iload_n 1, 1) := by decide +kernel
theorem dX12_pieces_2 : decode cX12_pieces 2 = .ok (.invokevirtual 182, 3) := by decide +kernel
theorem dX12_pieces_5 : decode cX12_pieces 5 = .ok (.ifCond .eq 5, 3) := by decide +kernel
theorem dX12_pieces_8 : decode cX12_pieces 8 = .ok (.iconst 0, 1) := by decide +kernel
theorem dX12_pieces_9 : decode cX12_pieces 9 = .ok (.ireturn, 1) := by decide +kernel
theorem dX12_pieces_10 : decode cX12_pieces 10 = .ok (.iconst 0, 1) := by decide +kernel
theorem dX12_pieces_11 : decode cX12_pieces 11 = .ok (.istore_n 2, 1) := by decide +kernel
theorem dX12_pieces_12 : decode cX12_pieces 12 = .ok (.iconst 0, 1) := by decide +kernel
theorem dX12_pieces_13 : decode cX12_pieces 13 = .ok (.istore_n 3, 1) := by decide +kernel
theorem dX12_pieces_14 : decode cX12_pieces 14 = .ok (.iload_n 3, 1) := by decide +kernel
theorem dX12_pieces_15 : decode cX12_pieces 15 = .ok (.aload_n 0, 1) := by decide +kernel
theorem dX12_pieces_16 : decode cX12_pieces 16 = .ok (.invokevirtual 144, 3) := by decide +kernel
theorem dX12_pieces_19 : decode cX12_pieces 19 = .ok (.if_icmp .ge 19, 3) := by decide +kernel
theorem dX12_pieces_22 : decode cX12_pieces 22 = .ok (.iload_n 2, 1) := by decide +kernel
theorem dX12_pieces_23 : decode cX12_pieces 23 = .ok (.aload_n 0, 1) := by decide +kernel
theorem dX12_pieces_24 : decode cX12_pieces 24 = .ok (.iload_n 3, 1) := by decide +kernel
theorem dX12_pieces_25 : decode cX12_pieces 25 = .ok (.iload_n 1, 1) := by decide +kernel
theorem dX12_pieces_26 : decode cX12_pieces 26 = .ok (.iconst 0, 1) := by decide +kernel
theorem dX12_pieces_27 : decode cX12_pieces 27 = .ok (.invokevirtual 185, 3) := by decide +kernel
theorem dX12_pieces_30 : decode cX12_pieces 30 = .ok (.iadd, 1) := by decide +kernel
theorem dX12_pieces_31 : decode cX12_pieces 31 = .ok (.istore_n 2, 1) := by decide +kernel
theorem dX12_pieces_32 : decode cX12_pieces 32 = .ok (.iinc 3 1, 3) := by decide +kernel
theorem dX12_pieces_35 : decode cX12_pieces 35 = .ok (.goto (-21), 3) := by decide +kernel
theorem dX12_pieces_38 : decode cX12_pieces 38 = .ok (.iload_n 2, 1) := by decide +kernel
theorem dX12_pieces_39 : decode cX12_pieces 39 = .ok (.ireturn, 1) := by decide +kernel
theorem dX12_isDone_0 : decode cX12_isDone 0 = .ok (.aload_n 0, 1) := by decide +kernel
theorem dX12_isDone_1 : decode cX12_isDone 1 = .ok (.getfield 27, 3) := by decide +kernel
theorem dX12_isDone_4 : decode cX12_isDone 4 = .ok (.iload_n 1, 1) := by decide +kernel
theorem dX12_isDone_5 : decode cX12_isDone 5 = .ok (.caload, 1) := by decide +kernel
theorem dX12_isDone_6 : decode cX12_isDone 6 = .ok (.bipush 100, 2) := by decide +kernel
theorem dX12_isDone_8 : decode cX12_isDone 8 = .ok (.if_icmp .eq 14, 3) := by decide +kernel
theorem dX12_isDone_11 : decode cX12_isDone 11 = .ok (.aload_n 0, 1) := by decide +kernel
theorem dX12_isDone_12 : decode cX12_isDone 12 = .ok (.getfield 27, 3) := by decide +kernel
theorem dX12_isDone_15 : decode cX12_isDone 15 = .ok (.iload_n 1, 1) := by decide +kernel
theorem dX12_isDone_16 : decode cX12_isDone 16 = .ok (.caload, 1) := by decide +kernel
theorem dX12_isDone_17 : decode cX12_isDone 17 = .ok (.bipush 114, 2) := by decide +kernel
theorem dX12_isDone_19 : decode cX12_isDone 19 = .ok (.if_icmp .ne 7, 3) := by decide +kernel
theorem dX12_isDone_22 : decode cX12_isDone 22 = .ok (.iconst 1, 1) := by decide +kernel
theorem dX12_isDone_23 : decode cX12_isDone 23 = .ok (.goto 4, 3) := by decide +kernel
theorem dX12_isDone_26 : decode cX12_isDone 26 = .ok (.iconst 0, 1) := by decide +kernel
theorem dX12_isDone_27 : decode cX12_isDone 27 = .ok (.ireturn, 1) := by decide +kernel
theorem dX12_time_0 : decode cX12_time 0 = .ok (.aload_n 0, 1) := by decide +kernel
theorem dX12_time_1 : decode cX12_time 1 = .ok (.iload_n 1, 1) := by decide +kernel
theorem dX12_time_2 : decode cX12_time 2 = .ok (.invokevirtual 182, 3) := by decide +kernel
theorem dX12_time_5 : decode cX12_time 5 = .ok (.ifCond .ne 24, 3) := by decide +kernel
theorem dX12_time_8 : decode cX12_time 8 = .ok (.aload_n 0, 1) := by decide +kernel
theorem dX12_time_9 : decode cX12_time 9 = .ok (.aload_n 0, 1) := by decide +kernel
theorem dX12_time_10 : decode cX12_time 10 = .ok (.iload_n 1, 1) := by decide +kernel
theorem dX12_time_11 : decode cX12_time 11 = .ok (.invokevirtual 189, 3) := by decide +kernel
theorem dX12_time_14 : decode cX12_time 14 = .ok (.ifCond .ne 7, 3) := by decide +kernel
theorem dX12_time_17 : decode cX12_time 17 = .ok (.iconst 1, 1) := by decide +kernel
theorem dX12_time_18 : decode cX12_time 18 = .ok (.goto 4, 3) := by decide +kernel
theorem dX12_time_21 : decode cX12_time 21 = .ok (.iconst 0, 1) := by decide +kernel
theorem dX12_time_22 : decode cX12_time 22 = .ok (.iconst 2, 1) := by decide +kernel
theorem dX12_time_23 : decode cX12_time 23 = .ok (.invokevirtual 155, 3) := by decide +kernel
theorem dX12_time_26 : decode cX12_time 26 = .ok (.ifCond .eq 7, 3) := by decide +kernel
theorem dX12_time_29 : decode cX12_time 29 = .ok (.iconst 0, 1) := by decide +kernel
theorem dX12_time_30 : decode cX12_time 30 = .ok (.goto 16, 3) := by decide +kernel
theorem dX12_time_33 : decode cX12_time 33 = .ok (.aload_n 0, 1) := by decide +kernel
theorem dX12_time_34 : decode cX12_time 34 = .ok (.getfield 49, 3) := by decide +kernel
theorem dX12_time_37 : decode cX12_time 37 = .ok (.iload_n 1, 1) := by decide +kernel
theorem dX12_time_38 : decode cX12_time 38 = .ok (.iaload, 1) := by decide +kernel
theorem dX12_time_39 : decode cX12_time 39 = .ok (.aload_n 0, 1) := by decide +kernel
theorem dX12_time_40 : decode cX12_time 40 = .ok (.getfield 46, 3) := by decide +kernel
theorem dX12_time_43 : decode cX12_time 43 = .ok (.iload_n 1, 1) := by decide +kernel
theorem dX12_time_44 : decode cX12_time 44 = .ok (.iaload, 1) := by decide +kernel
theorem dX12_time_45 : decode cX12_time 45 = .ok (.isub, 1) := by decide +kernel
theorem dX12_time_46 : decode cX12_time 46 = .ok (.ireturn, 1) := by decide +kernel
theorem dX12_packets_0 : decode cX12_packets 0 = .ok (.aload_n 0, 1) := by decide +kernel
theorem dX12_packets_1 : decode cX12_packets 1 = .ok (.iconst 0, 1) := by decide +kernel
theorem dX12_packets_2 : decode cX12_packets 2 = .ok (.putfield 141, 3) := by decide +kernel
theorem dX12_packets_5 : decode cX12_packets 5 = .ok (.aload_n 0, 1) := by decide +kernel
theorem dX12_packets_6 : decode cX12_packets 6 = .ok (.getfield 152, 3) := by decide +kernel
theorem dX12_packets_9 : decode cX12_packets 9 = .ok (.ireturn, 1) := by decide +kernel
theorem dX12_isLying_0 : decode cX12_isLying 0 = .ok (.aload_n 0, 1) := by decide +kernel
theorem dX12_isLying_1 : decode cX12_isLying 1 = .ok (.getfield 23, 3) := by decide +kernel
theorem dX12_isLying_4 : decode cX12_isLying 4 = .ok (.iload_n 1, 1) := by decide +kernel
theorem dX12_isLying_5 : decode cX12_isLying 5 = .ok (.caload, 1) := by decide +kernel
theorem dX12_isLying_6 : decode cX12_isLying 6 = .ok (.bipush 109, 2) := by decide +kernel
theorem dX12_isLying_8 : decode cX12_isLying 8 = .ok (.if_icmp .ne 38, 3) := by decide +kernel
theorem dX12_isLying_11 : decode cX12_isLying 11 = .ok (.aload_n 0, 1) := by decide +kernel
theorem dX12_isLying_12 : decode cX12_isLying 12 = .ok (.getfield 27, 3) := by decide +kernel
theorem dX12_isLying_15 : decode cX12_isLying 15 = .ok (.iload_n 1, 1) := by decide +kernel
theorem dX12_isLying_16 : decode cX12_isLying 16 = .ok (.caload, 1) := by decide +kernel
theorem dX12_isLying_17 : decode cX12_isLying 17 = .ok (.bipush 100, 2) := by decide +kernel
theorem dX12_isLying_19 : decode cX12_isLying 19 = .ok (.if_icmp .ne 27, 3) := by decide +kernel
theorem dX12_isLying_22 : decode cX12_isLying 22 = .ok (.aload_n 0, 1) := by decide +kernel
theorem dX12_isLying_23 : decode cX12_isLying 23 = .ok (.getfield 34, 3) := by decide +kernel
theorem dX12_isLying_26 : decode cX12_isLying 26 = .ok (.iload_n 1, 1) := by decide +kernel
theorem dX12_isLying_27 : decode cX12_isLying 27 = .ok (.iaload, 1) := by decide +kernel
theorem dX12_isLying_28 : decode cX12_isLying 28 = .ok (.iload_n 2, 1) := by decide +kernel
theorem dX12_isLying_29 : decode cX12_isLying 29 = .ok (.if_icmp .ne 17, 3) := by decide +kernel
theorem dX12_isLying_32 : decode cX12_isLying 32 = .ok (.aload_n 0, 1) := by decide +kernel
theorem dX12_isLying_33 : decode cX12_isLying 33 = .ok (.getfield 30, 3) := by decide +kernel
theorem dX12_isLying_36 : decode cX12_isLying 36 = .ok (.iload_n 1, 1) := by decide +kernel
theorem dX12_isLying_37 : decode cX12_isLying 37 = .ok (.iaload, 1) := by decide +kernel
theorem dX12_isLying_38 : decode cX12_isLying 38 = .ok (.iload_n 3, 1) := by decide +kernel
theorem dX12_isLying_39 : decode cX12_isLying 39 = .ok (.if_icmp .ne 7, 3) := by decide +kernel
theorem dX12_isLying_42 : decode cX12_isLying 42 = .ok (.iconst 1, 1) := by decide +kernel
theorem dX12_isLying_43 : decode cX12_isLying 43 = .ok (.goto 4, 3) := by decide +kernel
theorem dX12_isLying_46 : decode cX12_isLying 46 = .ok (.iconst 0, 1) := by decide +kernel
theorem dX12_isLying_47 : decode cX12_isLying 47 = .ok (.ireturn, 1) := by decide +kernel
theorem dX12_firstLying_0 : decode cX12_firstLying 0 = .ok (.iconst (-1), 1) := by decide +kernel
theorem dX12_firstLying_1 : decode cX12_firstLying 1 = .ok (.istore_n 3, 1) := by decide +kernel
theorem dX12_firstLying_2 : decode cX12_firstLying 2 = .ok (.iconst 0, 1) := by decide +kernel
theorem dX12_firstLying_3 : decode cX12_firstLying 3 = .ok (.istore 4, 2) := by decide +kernel
theorem dX12_firstLying_5 : decode cX12_firstLying 5 = .ok (.iload 4, 2) := by decide +kernel
theorem dX12_firstLying_7 : decode cX12_firstLying 7 = .ok (.aload_n 0, 1) := by decide +kernel
theorem dX12_firstLying_8 : decode cX12_firstLying 8 = .ok (.getfield 152, 3) := by decide +kernel
theorem dX12_firstLying_11 : decode cX12_firstLying 11 = .ok (.if_icmp .ge 48, 3) := by decide +kernel
theorem dX12_firstLying_14 : decode cX12_firstLying 14 = .ok (.aload_n 0, 1) := by decide +kernel
theorem dX12_firstLying_15 : decode cX12_firstLying 15 = .ok (.iload 4, 2) := by decide +kernel
theorem dX12_firstLying_17 : decode cX12_firstLying 17 = .ok (.iload_n 1, 1) := by decide +kernel
theorem dX12_firstLying_18 : decode cX12_firstLying 18 = .ok (.iload_n 2, 1) := by decide +kernel
theorem dX12_firstLying_19 : decode cX12_firstLying 19 = .ok (.invokevirtual 192, 3) := by decide +kernel
theorem dX12_firstLying_22 : decode cX12_firstLying 22 = .ok (.ifCond .eq 29, 3) := by decide +kernel
theorem dX12_firstLying_25 : decode cX12_firstLying 25 = .ok (.iload_n 3, 1) := by decide +kernel
theorem dX12_firstLying_26 : decode cX12_firstLying 26 = .ok (.iconst (-1), 1) := by decide +kernel
theorem dX12_firstLying_27 : decode cX12_firstLying 27 = .ok (.if_icmp .eq 19, 3) := by decide +kernel
theorem dX12_firstLying_30 : decode cX12_firstLying 30 = .ok (.aload_n 0, 1) := by decide +kernel
theorem dX12_firstLying_31 : decode cX12_firstLying 31 = .ok (.getfield 49, 3) := by decide +kernel
theorem dX12_firstLying_34 : decode cX12_firstLying 34 = .ok (.iload 4, 2) := by decide +kernel
theorem dX12_firstLying_36 : decode cX12_firstLying 36 = .ok (.iaload, 1) := by decide +kernel
theorem dX12_firstLying_37 : decode cX12_firstLying 37 = .ok (.aload_n 0, 1) := by decide +kernel
theorem dX12_firstLying_38 : decode cX12_firstLying 38 = .ok (.getfield 49, 3) := by decide +kernel
theorem dX12_firstLying_41 : decode cX12_firstLying 41 = .ok (.iload_n 3, 1) := by decide +kernel
theorem dX12_firstLying_42 : decode cX12_firstLying 42 = .ok (.iaload, 1) := by decide +kernel
theorem dX12_firstLying_43 : decode cX12_firstLying 43 = .ok (.if_icmp .ge 8, 3) := by decide +kernel
theorem dX12_firstLying_46 : decode cX12_firstLying 46 = .ok (.iload 4, 2) := by decide +kernel
theorem dX12_firstLying_48 : decode cX12_firstLying 48 = .ok (.goto 4, 3) := by decide +kernel
theorem dX12_firstLying_51 : decode cX12_firstLying 51 = .ok (.iload_n 3, 1) := by decide +kernel
theorem dX12_firstLying_52 : decode cX12_firstLying 52 = .ok (.istore_n 3, 1) := by decide +kernel
theorem dX12_firstLying_53 : decode cX12_firstLying 53 = .ok (.iinc 4 1, 3) := by decide +kernel
theorem dX12_firstLying_56 : decode cX12_firstLying 56 = .ok (.goto (-51), 3) := by decide +kernel
theorem dX12_firstLying_59 : decode cX12_firstLying 59 = .ok (.iload_n 3, 1) := by decide +kernel
theorem dX12_firstLying_60 : decode cX12_firstLying 60 = .ok (.ireturn, 1) := by decide +kernel
def f_M_multicast_b70 (K70 : me_M → Int32 → Int32 → Int32 → Int32 → Option (me_M × Int32)) (μ : me_M) (v1 : Int32) (v2 : Int32) (v3 : Int32) (v4 : Int32) : Option (me_M × Int32) :=
  me_bd (f_M_nodes μ) (fun r1 =>
  if r1 ≤ v4 then
  (me_bd (f_Int_bitCount μ v2) (fun r3 =>
  some (μ, r3)))
  else
  (if ((v2 >>> (v4 &&& 31)) &&& (1 : Int32)) = (1 : Int32) then
  (me_b2 (f_M_made μ (109 : Int32) v1 v4 v3 (1 : Int32)) (fun μ7 r6 =>
  me_lt (me_inc v4 (1)) (fun x8 =>
  K70 μ7 v1 v2 v3 x8)))
  else
  (me_lt (me_inc v4 (1)) (fun x5 =>
  K70 μ v1 v2 v3 x5))))
set_option maxHeartbeats 4000000 in
set_option maxRecDepth 100000 in
theorem z_M_multicast_b70 {X : me_X} {B : me_B} {sz : Nat} (C : me_C X B RX12 cX12_multicast 6 (some .int)) {μ : me_M} {v1 : Int32} {v2 : Int32} {v3 : Int32} {v4 : Int32}  {K70 : me_M → Int32 → Int32 → Int32 → Int32 → Option (me_M × Int32)} {r : me_M × Int32} (N : me_En X B sz (B, r.1, .ok (some (me_i r.2))) 2 43 0 0) (hNx : me_Nx X) (hB : me_St B) (hK70 : ∀ (μ : me_M) (v1 : Int32) (v2 : Int32) (v3 : Int32) (v4 : Int32), K70 μ v1 v2 v3 v4 = some r → me_Z X B 0 0 μ 70 [(0, me_r 36 0), (1, me_i v1), (2, me_i v2), (3, me_i v3), (4, me_i v4)] [])  (hf : f_M_multicast_b70 K70 μ v1 v2 v3 v4 = some r) : me_Z X B 0 0 μ 70 [(0, me_r 36 0), (1, me_i v1), (2, me_i v2), (3, me_i v3), (4, me_i v4)] [] := by
  unfold f_M_multicast_b70 at hf
  refine me_iload C dX12_multicast_70 rfl ?_
  refine me_aload_n C 0 (Or.inr (Or.inl ⟨_, rfl⟩)) dX12_multicast_72 rfl rfl ?_
  obtain ⟨r1, h_r1, hf⟩ := me_bs hf
  refine me_callV C N  (As := []) (st := [me_i v4]) 0 0 (c_M_nodes hB h_r1) mv_M_nodes ml_M_144 rfl rfl dX12_multicast_73 rfl rfl ⟨by decide, by decide⟩ ⟨by decide, by decide, by decide, by decide⟩ (Nat.le_of_ble_eq_true rfl) ?_
  refine me_icmp_ge C (tgt := 108) dX12_multicast_76 (by decide) (fun c2 => ?_) (fun c2 => ?_)
  · replace hf := me_ip c2 hf
    refine me_iload_n C 2 dX12_multicast_108 rfl rfl ?_
    obtain ⟨r3, h_r3, hf⟩ := me_bs hf
    refine me_callS C N  (As := [me_i v2]) (st := []) 0 0 (c_Int_bitCount hB h_r3) ms_Int_bitCount ml_M_176 dX12_multicast_109 rfl rfl ⟨by decide, by decide⟩ ⟨by decide, by decide, by decide, by decide⟩ (Nat.le_of_ble_eq_true rfl) ?_
    exact me_iret C N dX12_multicast_112 (me_nri _) (by cases hf; rfl) (by decide) (by decide)
  · replace hf := me_in c2 hf
    refine me_iload_n C 2 dX12_multicast_79 rfl rfl ?_
    refine me_iload C dX12_multicast_80 rfl ?_
    refine me_ishr C dX12_multicast_82 ?_
    refine me_iconst C (v := 1) dX12_multicast_83 (by decide) ?_
    refine me_iand C dX12_multicast_84 ?_
    refine me_iconst C (v := 1) dX12_multicast_85 (by decide) ?_
    refine me_icmp_ne C (tgt := 102) dX12_multicast_86 (by decide) (fun c4 => ?_) (fun c4 => ?_)
    · replace hf := me_in c4 hf
      obtain ⟨x5, e_x5, hf⟩ := me_lts hf
      refine me_iinc C (v := x5) (L' := [(4, me_i x5), (0, me_r 36 0), (1, me_i v1), (2, me_i v2), (3, me_i v3)]) dX12_multicast_102 rfl e_x5.symm (by decide) rfl ?_
      refine me_goto C (tgt := 70) dX12_multicast_105 (by decide) ?_
      refine me_dropI [(0, me_r 36 0), (1, me_i v1), (2, me_i v2), (3, me_i v3), (4, me_i x5)] [1, 2, 3, 4, 0] rfl ?_
      exact hK70 μ v1 v2 v3 x5 hf
    · replace hf := me_ip c4 hf
      refine me_aload_n C 0 (Or.inr (Or.inl ⟨_, rfl⟩)) dX12_multicast_89 rfl rfl ?_
      refine me_bipush C (v := 109) dX12_multicast_90 (by decide) ?_
      refine me_iload_n C 1 dX12_multicast_92 rfl rfl ?_
      refine me_iload C dX12_multicast_93 rfl ?_
      refine me_iload_n C 3 dX12_multicast_95 rfl rfl ?_
      refine me_iconst C (v := 1) dX12_multicast_96 (by decide) ?_
      obtain ⟨μ7, r6, h_r6, hf⟩ := me_bs2 hf
      refine me_callV C N  (As := [me_i (109 : Int32), me_i v1, me_i v4, me_i v3, me_i (1 : Int32)]) (st := []) 0 0 (c_M_made hB h_r6) mv_M_made ml_M_172 rfl rfl dX12_multicast_97 rfl rfl ⟨by decide, by decide⟩ ⟨by decide, by decide, by decide, by decide⟩ (Nat.le_of_ble_eq_true rfl) ?_
      refine me_istore C dX12_multicast_100 (by decide) (L' := [(5, me_i r6), (0, me_r 36 0), (1, me_i v1), (2, me_i v2), (3, me_i v3), (4, me_i v4)]) rfl ?_
      obtain ⟨x8, e_x8, hf⟩ := me_lts hf
      refine me_iinc C (v := x8) (L' := [(4, me_i x8), (5, me_i r6), (0, me_r 36 0), (1, me_i v1), (2, me_i v2), (3, me_i v3)]) dX12_multicast_102 rfl e_x8.symm (by decide) rfl ?_
      refine me_goto C (tgt := 70) dX12_multicast_105 (by decide) ?_
      refine me_dropI [(0, me_r 36 0), (1, me_i v1), (2, me_i v2), (3, me_i v3), (4, me_i x8)] [2, 3, 4, 5, 0] rfl ?_
      exact hK70 μ7 v1 v2 v3 x8 hf
def f_M_multicast_h70  : Nat → me_M → Int32 → Int32 → Int32 → Int32 → Option (me_M × Int32)
  | 0, _, _, _, _, _ => none
  | n + 1, μ, v1, v2, v3, v4 => f_M_multicast_b70 (f_M_multicast_h70 n) μ v1 v2 v3 v4
set_option maxHeartbeats 4000000 in
set_option maxRecDepth 100000 in
theorem z_M_multicast_h70 {X : me_X} {B : me_B} {sz : Nat} (C : me_C X B RX12 cX12_multicast 6 (some .int))  {r : me_M × Int32} (N : me_En X B sz (B, r.1, .ok (some (me_i r.2))) 2 43 0 0) (hNx : me_Nx X) (hB : me_St B)  : ∀ (n : Nat) (μ : me_M) (v1 : Int32) (v2 : Int32) (v3 : Int32) (v4 : Int32), f_M_multicast_h70 n μ v1 v2 v3 v4 = some r → me_Z X B 0 0 μ 70 [(0, me_r 36 0), (1, me_i v1), (2, me_i v2), (3, me_i v3), (4, me_i v4)] [] := by
  intro n
  induction n with
  | zero => intro μ v1 v2 v3 v4  h; exact absurd (show (none : Option (me_M × Int32)) = some r from h) (fun q => by cases q)
  | succ n ih => intro μ v1 v2 v3 v4  h; exact z_M_multicast_b70 C N hNx hB  (K70 := f_M_multicast_h70 n) ih  h
def f_M_multicast_b58 (μ : me_M) (v1 : Int32) (v2 : Int32) (v3 : Int32) (s0 : Int32) : Option (me_M × Int32) :=
  me_b2 (f_M_isThrown μ s0 (3 : Int32)) (fun μ2 r1 =>
  if r1 = 0 then
  (f_M_multicast_h70 me_FU μ2 v1 v2 v3 (0 : Int32))
  else
  (some (μ2, (0 : Int32))))
set_option maxHeartbeats 4000000 in
set_option maxRecDepth 100000 in
theorem z_M_multicast_b58 {X : me_X} {B : me_B} {sz : Nat} (C : me_C X B RX12 cX12_multicast 6 (some .int)) {μ : me_M} {v1 : Int32} {v2 : Int32} {v3 : Int32} {s0 : Int32}   {r : me_M × Int32} (N : me_En X B sz (B, r.1, .ok (some (me_i r.2))) 2 43 0 0) (hNx : me_Nx X) (hB : me_St B)   (hf : f_M_multicast_b58 μ v1 v2 v3 s0 = some r) : me_Z X B 0 0 μ 58 [(0, me_r 36 0), (1, me_i v1), (2, me_i v2), (3, me_i v3)] [me_i s0, me_r 36 0] := by
  unfold f_M_multicast_b58 at hf
  refine me_iconst C (v := 3) dX12_multicast_58 (by decide) ?_
  obtain ⟨μ2, r1, h_r1, hf⟩ := me_bs2 hf
  refine me_callV C N  (As := [me_i s0, me_i (3 : Int32)]) (st := []) 0 0 (c_M_isThrown hB h_r1) mv_M_isThrown ml_M_155 rfl rfl dX12_multicast_59 rfl rfl ⟨by decide, by decide⟩ ⟨by decide, by decide, by decide, by decide⟩ (Nat.le_of_ble_eq_true rfl) ?_
  refine me_if_eq C (tgt := 67) dX12_multicast_62 (by decide) (fun c3 => ?_) (fun c3 => ?_)
  · replace hf := me_ip c3 hf
    refine me_iconst C (v := 0) dX12_multicast_67 (by decide) ?_
    refine me_istore C dX12_multicast_68 (by decide) (L' := [(4, me_i (0 : Int32)), (0, me_r 36 0), (1, me_i v1), (2, me_i v2), (3, me_i v3)]) rfl ?_
    refine me_dropI [(0, me_r 36 0), (1, me_i v1), (2, me_i v2), (3, me_i v3), (4, me_i (0 : Int32))] [1, 2, 3, 4, 0] rfl ?_
    exact z_M_multicast_h70 C N hNx hB me_FU μ2 v1 v2 v3 (0 : Int32) hf
  · replace hf := me_in c3 hf
    refine me_iconst C (v := 0) dX12_multicast_65 (by decide) ?_
    exact me_iret C N dX12_multicast_66 (me_nri _) (by cases hf; rfl) (by decide) (by decide)
def f_M_multicast_b34 (μ : me_M) (v1 : Int32) (v2 : Int32) (v3 : Int32) (s0 : Int32) : Option (me_M × Int32) :=
  me_b2 (f_M_isThrown μ s0 (2 : Int32)) (fun μ2 r1 =>
  if r1 = 0 then
  (me_bd (f_M_room μ2) (fun r4 =>
  me_bd (f_Int_bitCount μ2 v2) (fun r5 =>
  if r5 ≤ r4 then
  (f_M_multicast_b58 μ2 v1 v2 v3 (0 : Int32))
  else
  (f_M_multicast_b58 μ2 v1 v2 v3 (1 : Int32)))))
  else
  (some (μ2, (0 : Int32))))
set_option maxHeartbeats 4000000 in
set_option maxRecDepth 100000 in
theorem z_M_multicast_b34 {X : me_X} {B : me_B} {sz : Nat} (C : me_C X B RX12 cX12_multicast 6 (some .int)) {μ : me_M} {v1 : Int32} {v2 : Int32} {v3 : Int32} {s0 : Int32}   {r : me_M × Int32} (N : me_En X B sz (B, r.1, .ok (some (me_i r.2))) 2 43 0 0) (hNx : me_Nx X) (hB : me_St B)   (hf : f_M_multicast_b34 μ v1 v2 v3 s0 = some r) : me_Z X B 0 0 μ 34 [(0, me_r 36 0), (1, me_i v1), (2, me_i v2), (3, me_i v3)] [me_i s0, me_r 36 0] := by
  unfold f_M_multicast_b34 at hf
  refine me_iconst C (v := 2) dX12_multicast_34 (by decide) ?_
  obtain ⟨μ2, r1, h_r1, hf⟩ := me_bs2 hf
  refine me_callV C N  (As := [me_i s0, me_i (2 : Int32)]) (st := []) 0 0 (c_M_isThrown hB h_r1) mv_M_isThrown ml_M_155 rfl rfl dX12_multicast_35 rfl rfl ⟨by decide, by decide⟩ ⟨by decide, by decide, by decide, by decide⟩ (Nat.le_of_ble_eq_true rfl) ?_
  refine me_if_ne C (tgt := 65) dX12_multicast_38 (by decide) (fun c3 => ?_) (fun c3 => ?_)
  · replace hf := me_in c3 hf
    refine me_iconst C (v := 0) dX12_multicast_65 (by decide) ?_
    exact me_iret C N dX12_multicast_66 (me_nri _) (by cases hf; rfl) (by decide) (by decide)
  · replace hf := me_ip c3 hf
    refine me_aload_n C 0 (Or.inr (Or.inl ⟨_, rfl⟩)) dX12_multicast_41 rfl rfl ?_
    refine me_aload_n C 0 (Or.inr (Or.inl ⟨_, rfl⟩)) dX12_multicast_42 rfl rfl ?_
    obtain ⟨r4, h_r4, hf⟩ := me_bs hf
    refine me_callV C N  (As := []) (st := [me_r 36 0]) 0 0 (c_M_room hB h_r4) mv_M_room ml_M_169 rfl rfl dX12_multicast_43 rfl rfl ⟨by decide, by decide⟩ ⟨by decide, by decide, by decide, by decide⟩ (Nat.le_of_ble_eq_true rfl) ?_
    refine me_iload_n C 2 dX12_multicast_46 rfl rfl ?_
    obtain ⟨r5, h_r5, hf⟩ := me_bs hf
    refine me_callS C N  (As := [me_i v2]) (st := [me_i r4, me_r 36 0]) 0 0 (c_Int_bitCount hB h_r5) ms_Int_bitCount ml_M_176 dX12_multicast_47 rfl rfl ⟨by decide, by decide⟩ ⟨by decide, by decide, by decide, by decide⟩ (Nat.le_of_ble_eq_true rfl) ?_
    refine me_icmp_ge C (tgt := 57) dX12_multicast_50 (by decide) (fun c6 => ?_) (fun c6 => ?_)
    · replace hf := me_ip c6 hf
      refine me_iconst C (v := 0) dX12_multicast_57 (by decide) ?_
      refine me_dropI [(0, me_r 36 0), (1, me_i v1), (2, me_i v2), (3, me_i v3)] [0, 1, 2, 3] rfl ?_
      exact z_M_multicast_b58 C N hNx hB hf
    · replace hf := me_in c6 hf
      refine me_iconst C (v := 1) dX12_multicast_53 (by decide) ?_
      refine me_goto C (tgt := 58) dX12_multicast_54 (by decide) ?_
      refine me_dropI [(0, me_r 36 0), (1, me_i v1), (2, me_i v2), (3, me_i v3)] [0, 1, 2, 3] rfl ?_
      exact z_M_multicast_b58 C N hNx hB hf
def f_M_multicast_b29 (μ : me_M) (v1 : Int32) (v2 : Int32) (v3 : Int32) : Option (me_M × Int32) :=
  f_M_multicast_b34 μ v1 v2 v3 (1 : Int32)
set_option maxHeartbeats 4000000 in
set_option maxRecDepth 100000 in
theorem z_M_multicast_b29 {X : me_X} {B : me_B} {sz : Nat} (C : me_C X B RX12 cX12_multicast 6 (some .int)) {μ : me_M} {v1 : Int32} {v2 : Int32} {v3 : Int32}   {r : me_M × Int32} (N : me_En X B sz (B, r.1, .ok (some (me_i r.2))) 2 43 0 0) (hNx : me_Nx X) (hB : me_St B)   (hf : f_M_multicast_b29 μ v1 v2 v3 = some r) : me_Z X B 0 0 μ 29 [(0, me_r 36 0), (1, me_i v1), (2, me_i v2), (3, me_i v3)] [me_r 36 0] := by
  unfold f_M_multicast_b29 at hf
  refine me_iconst C (v := 1) dX12_multicast_29 (by decide) ?_
  refine me_goto C (tgt := 34) dX12_multicast_30 (by decide) ?_
  refine me_dropI [(0, me_r 36 0), (1, me_i v1), (2, me_i v2), (3, me_i v3)] [0, 1, 2, 3] rfl ?_
  exact z_M_multicast_b34 C N hNx hB hf
def f_M_multicast (μ : me_M) (v1 : Int32) (v2 : Int32) (v3 : Int32) : Option (me_M × Int32) :=
  me_bd (f_M_isNoNode μ v1) (fun r1 =>
  me_b2 (f_M_isThrown μ r1 (1 : Int32)) (fun μ3 r2 =>
  if r2 = 0 then
  (if v2 < (1 : Int32) then
  (f_M_multicast_b29 μ3 v1 v2 v3)
  else
  (me_bd (f_M_nodes μ3) (fun r6 =>
  if v2 < ((1 : Int32) <<< (r6 &&& 31)) then
  (f_M_multicast_b34 μ3 v1 v2 v3 (0 : Int32))
  else
  (f_M_multicast_b29 μ3 v1 v2 v3))))
  else
  (some (μ3, (0 : Int32)))))
set_option maxHeartbeats 4000000 in
set_option maxRecDepth 100000 in
theorem z_M_multicast {X : me_X} {B : me_B} {sz : Nat} (C : me_C X B RX12 cX12_multicast 6 (some .int)) {μ : me_M} {v1 : Int32} {v2 : Int32} {v3 : Int32}   {r : me_M × Int32} (N : me_En X B sz (B, r.1, .ok (some (me_i r.2))) 2 43 0 0) (hNx : me_Nx X) (hB : me_St B)   (hf : f_M_multicast μ v1 v2 v3 = some r) : me_Z X B 0 0 μ 0 [(0, me_r 36 0), (1, me_i v1), (2, me_i v2), (3, me_i v3)] [] := by
  unfold f_M_multicast at hf
  refine me_aload_n C 0 (Or.inr (Or.inl ⟨_, rfl⟩)) dX12_multicast_0 rfl rfl ?_
  refine me_aload_n C 0 (Or.inr (Or.inl ⟨_, rfl⟩)) dX12_multicast_1 rfl rfl ?_
  refine me_iload_n C 1 dX12_multicast_2 rfl rfl ?_
  obtain ⟨r1, h_r1, hf⟩ := me_bs hf
  refine me_callV C N  (As := [me_i v1]) (st := [me_r 36 0]) 0 0 (c_M_isNoNode hB h_r1) mv_M_isNoNode ml_M_165 rfl rfl dX12_multicast_3 rfl rfl ⟨by decide, by decide⟩ ⟨by decide, by decide, by decide, by decide⟩ (Nat.le_of_ble_eq_true rfl) ?_
  refine me_iconst C (v := 1) dX12_multicast_6 (by decide) ?_
  obtain ⟨μ3, r2, h_r2, hf⟩ := me_bs2 hf
  refine me_callV C N  (As := [me_i r1, me_i (1 : Int32)]) (st := []) 0 0 (c_M_isThrown hB h_r2) mv_M_isThrown ml_M_155 rfl rfl dX12_multicast_7 rfl rfl ⟨by decide, by decide⟩ ⟨by decide, by decide, by decide, by decide⟩ (Nat.le_of_ble_eq_true rfl) ?_
  refine me_if_ne C (tgt := 65) dX12_multicast_10 (by decide) (fun c4 => ?_) (fun c4 => ?_)
  · replace hf := me_in c4 hf
    refine me_iconst C (v := 0) dX12_multicast_65 (by decide) ?_
    exact me_iret C N dX12_multicast_66 (me_nri _) (by cases hf; rfl) (by decide) (by decide)
  · replace hf := me_ip c4 hf
    refine me_aload_n C 0 (Or.inr (Or.inl ⟨_, rfl⟩)) dX12_multicast_13 rfl rfl ?_
    refine me_iload_n C 2 dX12_multicast_14 rfl rfl ?_
    refine me_iconst C (v := 1) dX12_multicast_15 (by decide) ?_
    refine me_icmp_lt C (tgt := 29) dX12_multicast_16 (by decide) (fun c5 => ?_) (fun c5 => ?_)
    · replace hf := me_ip c5 hf
      refine me_dropI [(0, me_r 36 0), (1, me_i v1), (2, me_i v2), (3, me_i v3)] [0, 1, 2, 3] rfl ?_
      exact z_M_multicast_b29 C N hNx hB hf
    · replace hf := me_in c5 hf
      refine me_iload_n C 2 dX12_multicast_19 rfl rfl ?_
      refine me_iconst C (v := 1) dX12_multicast_20 (by decide) ?_
      refine me_aload_n C 0 (Or.inr (Or.inl ⟨_, rfl⟩)) dX12_multicast_21 rfl rfl ?_
      obtain ⟨r6, h_r6, hf⟩ := me_bs hf
      refine me_callV C N  (As := []) (st := [me_i (1 : Int32), me_i v2, me_r 36 0]) 0 0 (c_M_nodes hB h_r6) mv_M_nodes ml_M_144 rfl rfl dX12_multicast_22 rfl rfl ⟨by decide, by decide⟩ ⟨by decide, by decide, by decide, by decide⟩ (Nat.le_of_ble_eq_true rfl) ?_
      refine me_ishl C dX12_multicast_25 ?_
      refine me_icmp_lt C (tgt := 33) dX12_multicast_26 (by decide) (fun c7 => ?_) (fun c7 => ?_)
      · replace hf := me_ip c7 hf
        refine me_iconst C (v := 0) dX12_multicast_33 (by decide) ?_
        refine me_dropI [(0, me_r 36 0), (1, me_i v1), (2, me_i v2), (3, me_i v3)] [0, 1, 2, 3] rfl ?_
        exact z_M_multicast_b34 C N hNx hB hf
      · replace hf := me_in c7 hf
        refine me_dropI [(0, me_r 36 0), (1, me_i v1), (2, me_i v2), (3, me_i v3)] [0, 1, 2, 3] rfl ?_
        exact z_M_multicast_b29 C N hNx hB hf
theorem c_M_multicast {B : me_B} (hB : me_St B) {μ : me_M} {v1 : Int32} {v2 : Int32} {v3 : Int32} {μ' : me_M} {r : Int32}  (hf : f_M_multicast μ v1 v2 v3 = some (μ', r)) : ∀ l E z, l.stackTraces = false → me_Met l yX12_multicast cX12_multicast 6 (some .int) 2 43 0 0 E B μ z [me_r 36 0, me_i v1, me_i v2, me_i v3] (B, μ', .ok (some (me_i r))) :=
  fun _ _ _ hl => me_ofZ hl (by decide +kernel) (Nat.le_of_ble_eq_true rfl) (fun _ C N hNx => z_M_multicast C N hNx hB  hf)

def f_M_ask_b66 (μ : me_M) (v1 : Int32) (v2 : Int32) (v3 : Int32) (v4 : Int32) (v5 : Int32) (s0 : Int32) : Option (me_M × Int32) :=
  me_b2 (f_M_isThrown μ s0 (3 : Int32)) (fun μ2 r1 =>
  if r1 = 0 then
  (me_b2 (f_M_made μ2 (113 : Int32) v1 v2 (0 : Int32) (1 : Int32)) (fun μ5 r4 =>
  me_gd (me_inb r4 200) (
  me_lt (me_up μ5 46 0 (me_ix r4) v3) (fun μ7 =>
  me_gd (me_inb r4 200) (
  me_lt (me_up μ7 47 0 (me_ix r4) (vp_nar .boolean v4)) (fun μ9 =>
  me_gd (me_inb r4 200) (
  me_lt (me_up μ9 48 0 (me_ix r4) v5) (fun μ11 =>
  some (μ11, r4)))))))))
  else
  (some (μ2, (0 : Int32))))
set_option maxHeartbeats 4000000 in
set_option maxRecDepth 100000 in
theorem z_M_ask_b66 {X : me_X} {B : me_B} {sz : Nat} (C : me_C X B RX12 cX12_ask 7 (some .int)) {μ : me_M} {v1 : Int32} {v2 : Int32} {v3 : Int32} {v4 : Int32} {v5 : Int32} {s0 : Int32}   {r : me_M × Int32} (N : me_En X B sz (B, r.1, .ok (some (me_i r.2))) 2 43 0 0) (hNx : me_Nx X) (hB : me_St B)   (hf : f_M_ask_b66 μ v1 v2 v3 v4 v5 s0 = some r) : me_Z X B 0 0 μ 66 [(0, me_r 36 0), (1, me_i v1), (2, me_i v2), (3, me_i v3), (4, me_i v4), (5, me_i v5)] [me_i s0, me_r 36 0] := by
  unfold f_M_ask_b66 at hf
  refine me_iconst C (v := 3) dX12_ask_66 (by decide) ?_
  obtain ⟨μ2, r1, h_r1, hf⟩ := me_bs2 hf
  refine me_callV C N  (As := [me_i s0, me_i (3 : Int32)]) (st := []) 0 0 (c_M_isThrown hB h_r1) mv_M_isThrown ml_M_155 rfl rfl dX12_ask_67 rfl rfl ⟨by decide, by decide⟩ ⟨by decide, by decide, by decide, by decide⟩ (Nat.le_of_ble_eq_true rfl) ?_
  refine me_if_eq C (tgt := 75) dX12_ask_70 (by decide) (fun c3 => ?_) (fun c3 => ?_)
  · replace hf := me_ip c3 hf
    refine me_aload_n C 0 (Or.inr (Or.inl ⟨_, rfl⟩)) dX12_ask_75 rfl rfl ?_
    refine me_bipush C (v := 113) dX12_ask_76 (by decide) ?_
    refine me_iload_n C 1 dX12_ask_78 rfl rfl ?_
    refine me_iload_n C 2 dX12_ask_79 rfl rfl ?_
    refine me_iconst C (v := 0) dX12_ask_80 (by decide) ?_
    refine me_iconst C (v := 1) dX12_ask_81 (by decide) ?_
    obtain ⟨μ5, r4, h_r4, hf⟩ := me_bs2 hf
    refine me_callV C N  (As := [me_i (113 : Int32), me_i v1, me_i v2, me_i (0 : Int32), me_i (1 : Int32)]) (st := []) 0 0 (c_M_made hB h_r4) mv_M_made ml_M_172 rfl rfl dX12_ask_82 rfl rfl ⟨by decide, by decide⟩ ⟨by decide, by decide, by decide, by decide⟩ (Nat.le_of_ble_eq_true rfl) ?_
    refine me_istore C dX12_ask_85 (by decide) (L' := [(6, me_i r4), (0, me_r 36 0), (1, me_i v1), (2, me_i v2), (3, me_i v3), (4, me_i v4), (5, me_i v5)]) rfl ?_
    refine me_aload_n C 0 (Or.inr (Or.inl ⟨_, rfl⟩)) dX12_ask_87 rfl rfl ?_
    refine me_getr C hB 15 (k' := 46) (i' := 0) fg_M_52 dX12_ask_88 rfl rfl ?_
    refine me_iload C dX12_ask_91 rfl ?_
    refine me_iload_n C 3 dX12_ask_93 rfl rfl ?_
    obtain ⟨g6, hf⟩ := me_gs hf
    obtain ⟨μ7, e_μ7, hf⟩ := me_lts hf
    refine me_iast C rfl (fun _ => rfl) g6 dX12_ask_94 e_μ7 ?_
    refine me_aload_n C 0 (Or.inr (Or.inl ⟨_, rfl⟩)) dX12_ask_95 rfl rfl ?_
    refine me_getr C hB 16 (k' := 47) (i' := 0) fg_M_55 dX12_ask_96 rfl rfl ?_
    refine me_iload C dX12_ask_99 rfl ?_
    refine me_iload C dX12_ask_101 rfl ?_
    obtain ⟨g8, hf⟩ := me_gs hf
    obtain ⟨μ9, e_μ9, hf⟩ := me_lts hf
    refine me_zast C rfl (fun _ => rfl) g8 dX12_ask_103 e_μ9 ?_
    refine me_aload_n C 0 (Or.inr (Or.inl ⟨_, rfl⟩)) dX12_ask_104 rfl rfl ?_
    refine me_getr C hB 17 (k' := 48) (i' := 0) fg_M_59 dX12_ask_105 rfl rfl ?_
    refine me_iload C dX12_ask_108 rfl ?_
    refine me_iload C dX12_ask_110 rfl ?_
    obtain ⟨g10, hf⟩ := me_gs hf
    obtain ⟨μ11, e_μ11, hf⟩ := me_lts hf
    refine me_iast C rfl (fun _ => rfl) g10 dX12_ask_112 e_μ11 ?_
    refine me_iload C dX12_ask_113 rfl ?_
    exact me_iret C N dX12_ask_115 (me_nri _) (by cases hf; rfl) (by decide) (by decide)
  · replace hf := me_in c3 hf
    refine me_iconst C (v := 0) dX12_ask_73 (by decide) ?_
    exact me_iret C N dX12_ask_74 (me_nri _) (by cases hf; rfl) (by decide) (by decide)
def f_M_ask_b45 (μ : me_M) (v1 : Int32) (v2 : Int32) (v3 : Int32) (v4 : Int32) (v5 : Int32) (s0 : Int32) : Option (me_M × Int32) :=
  me_b2 (f_M_isThrown μ s0 (2 : Int32)) (fun μ2 r1 =>
  if r1 = 0 then
  (me_bd (f_M_room μ2) (fun r4 =>
  if (2 : Int32) ≤ r4 then
  (f_M_ask_b66 μ2 v1 v2 v3 v4 v5 (0 : Int32))
  else
  (f_M_ask_b66 μ2 v1 v2 v3 v4 v5 (1 : Int32))))
  else
  (some (μ2, (0 : Int32))))
set_option maxHeartbeats 4000000 in
set_option maxRecDepth 100000 in
theorem z_M_ask_b45 {X : me_X} {B : me_B} {sz : Nat} (C : me_C X B RX12 cX12_ask 7 (some .int)) {μ : me_M} {v1 : Int32} {v2 : Int32} {v3 : Int32} {v4 : Int32} {v5 : Int32} {s0 : Int32}   {r : me_M × Int32} (N : me_En X B sz (B, r.1, .ok (some (me_i r.2))) 2 43 0 0) (hNx : me_Nx X) (hB : me_St B)   (hf : f_M_ask_b45 μ v1 v2 v3 v4 v5 s0 = some r) : me_Z X B 0 0 μ 45 [(0, me_r 36 0), (1, me_i v1), (2, me_i v2), (3, me_i v3), (4, me_i v4), (5, me_i v5)] [me_i s0, me_r 36 0] := by
  unfold f_M_ask_b45 at hf
  refine me_iconst C (v := 2) dX12_ask_45 (by decide) ?_
  obtain ⟨μ2, r1, h_r1, hf⟩ := me_bs2 hf
  refine me_callV C N  (As := [me_i s0, me_i (2 : Int32)]) (st := []) 0 0 (c_M_isThrown hB h_r1) mv_M_isThrown ml_M_155 rfl rfl dX12_ask_46 rfl rfl ⟨by decide, by decide⟩ ⟨by decide, by decide, by decide, by decide⟩ (Nat.le_of_ble_eq_true rfl) ?_
  refine me_if_ne C (tgt := 73) dX12_ask_49 (by decide) (fun c3 => ?_) (fun c3 => ?_)
  · replace hf := me_in c3 hf
    refine me_iconst C (v := 0) dX12_ask_73 (by decide) ?_
    exact me_iret C N dX12_ask_74 (me_nri _) (by cases hf; rfl) (by decide) (by decide)
  · replace hf := me_ip c3 hf
    refine me_aload_n C 0 (Or.inr (Or.inl ⟨_, rfl⟩)) dX12_ask_52 rfl rfl ?_
    refine me_aload_n C 0 (Or.inr (Or.inl ⟨_, rfl⟩)) dX12_ask_53 rfl rfl ?_
    obtain ⟨r4, h_r4, hf⟩ := me_bs hf
    refine me_callV C N  (As := []) (st := [me_r 36 0]) 0 0 (c_M_room hB h_r4) mv_M_room ml_M_169 rfl rfl dX12_ask_54 rfl rfl ⟨by decide, by decide⟩ ⟨by decide, by decide, by decide, by decide⟩ (Nat.le_of_ble_eq_true rfl) ?_
    refine me_iconst C (v := 2) dX12_ask_57 (by decide) ?_
    refine me_icmp_ge C (tgt := 65) dX12_ask_58 (by decide) (fun c5 => ?_) (fun c5 => ?_)
    · replace hf := me_ip c5 hf
      refine me_iconst C (v := 0) dX12_ask_65 (by decide) ?_
      refine me_dropI [(0, me_r 36 0), (1, me_i v1), (2, me_i v2), (3, me_i v3), (4, me_i v4), (5, me_i v5)] [0, 1, 2, 3, 4, 5] rfl ?_
      exact z_M_ask_b66 C N hNx hB hf
    · replace hf := me_in c5 hf
      refine me_iconst C (v := 1) dX12_ask_61 (by decide) ?_
      refine me_goto C (tgt := 66) dX12_ask_62 (by decide) ?_
      refine me_dropI [(0, me_r 36 0), (1, me_i v1), (2, me_i v2), (3, me_i v3), (4, me_i v4), (5, me_i v5)] [0, 1, 2, 3, 4, 5] rfl ?_
      exact z_M_ask_b66 C N hNx hB hf
def f_M_ask_b22 (μ : me_M) (v1 : Int32) (v2 : Int32) (v3 : Int32) (v4 : Int32) (v5 : Int32) (s0 : Int32) : Option (me_M × Int32) :=
  me_b2 (f_M_isThrown μ s0 (1 : Int32)) (fun μ2 r1 =>
  if r1 = 0 then
  (me_bd (f_M_isIn μ2 v3 (0 : Int32) (7 : Int32)) (fun r4 =>
  if r4 = 0 then
  (f_M_ask_b45 μ2 v1 v2 v3 v4 v5 (1 : Int32))
  else
  (f_M_ask_b45 μ2 v1 v2 v3 v4 v5 (0 : Int32))))
  else
  (some (μ2, (0 : Int32))))
set_option maxHeartbeats 4000000 in
set_option maxRecDepth 100000 in
theorem z_M_ask_b22 {X : me_X} {B : me_B} {sz : Nat} (C : me_C X B RX12 cX12_ask 7 (some .int)) {μ : me_M} {v1 : Int32} {v2 : Int32} {v3 : Int32} {v4 : Int32} {v5 : Int32} {s0 : Int32}   {r : me_M × Int32} (N : me_En X B sz (B, r.1, .ok (some (me_i r.2))) 2 43 0 0) (hNx : me_Nx X) (hB : me_St B)   (hf : f_M_ask_b22 μ v1 v2 v3 v4 v5 s0 = some r) : me_Z X B 0 0 μ 22 [(0, me_r 36 0), (1, me_i v1), (2, me_i v2), (3, me_i v3), (4, me_i v4), (5, me_i v5)] [me_i s0, me_r 36 0] := by
  unfold f_M_ask_b22 at hf
  refine me_iconst C (v := 1) dX12_ask_22 (by decide) ?_
  obtain ⟨μ2, r1, h_r1, hf⟩ := me_bs2 hf
  refine me_callV C N  (As := [me_i s0, me_i (1 : Int32)]) (st := []) 0 0 (c_M_isThrown hB h_r1) mv_M_isThrown ml_M_155 rfl rfl dX12_ask_23 rfl rfl ⟨by decide, by decide⟩ ⟨by decide, by decide, by decide, by decide⟩ (Nat.le_of_ble_eq_true rfl) ?_
  refine me_if_ne C (tgt := 73) dX12_ask_26 (by decide) (fun c3 => ?_) (fun c3 => ?_)
  · replace hf := me_in c3 hf
    refine me_iconst C (v := 0) dX12_ask_73 (by decide) ?_
    exact me_iret C N dX12_ask_74 (me_nri _) (by cases hf; rfl) (by decide) (by decide)
  · replace hf := me_ip c3 hf
    refine me_aload_n C 0 (Or.inr (Or.inl ⟨_, rfl⟩)) dX12_ask_29 rfl rfl ?_
    refine me_iload_n C 3 dX12_ask_30 rfl rfl ?_
    refine me_iconst C (v := 0) dX12_ask_31 (by decide) ?_
    refine me_bipush C (v := 7) dX12_ask_32 (by decide) ?_
    obtain ⟨r4, h_r4, hf⟩ := me_bs hf
    refine me_callS C N  (As := [me_i v3, me_i (0 : Int32), me_i (7 : Int32)]) (st := [me_r 36 0]) 0 0 (c_M_isIn hB h_r4) ms_M_isIn ml_M_148 dX12_ask_34 rfl rfl ⟨by decide, by decide⟩ ⟨by decide, by decide, by decide, by decide⟩ (Nat.le_of_ble_eq_true rfl) ?_
    refine me_if_ne C (tgt := 44) dX12_ask_37 (by decide) (fun c5 => ?_) (fun c5 => ?_)
    · replace hf := me_in c5 hf
      refine me_iconst C (v := 0) dX12_ask_44 (by decide) ?_
      refine me_dropI [(0, me_r 36 0), (1, me_i v1), (2, me_i v2), (3, me_i v3), (4, me_i v4), (5, me_i v5)] [0, 1, 2, 3, 4, 5] rfl ?_
      exact z_M_ask_b45 C N hNx hB hf
    · replace hf := me_ip c5 hf
      refine me_iconst C (v := 1) dX12_ask_40 (by decide) ?_
      refine me_goto C (tgt := 45) dX12_ask_41 (by decide) ?_
      refine me_dropI [(0, me_r 36 0), (1, me_i v1), (2, me_i v2), (3, me_i v3), (4, me_i v4), (5, me_i v5)] [0, 1, 2, 3, 4, 5] rfl ?_
      exact z_M_ask_b45 C N hNx hB hf
def f_M_ask_b17 (μ : me_M) (v1 : Int32) (v2 : Int32) (v3 : Int32) (v4 : Int32) (v5 : Int32) : Option (me_M × Int32) :=
  f_M_ask_b22 μ v1 v2 v3 v4 v5 (1 : Int32)
set_option maxHeartbeats 4000000 in
set_option maxRecDepth 100000 in
theorem z_M_ask_b17 {X : me_X} {B : me_B} {sz : Nat} (C : me_C X B RX12 cX12_ask 7 (some .int)) {μ : me_M} {v1 : Int32} {v2 : Int32} {v3 : Int32} {v4 : Int32} {v5 : Int32}   {r : me_M × Int32} (N : me_En X B sz (B, r.1, .ok (some (me_i r.2))) 2 43 0 0) (hNx : me_Nx X) (hB : me_St B)   (hf : f_M_ask_b17 μ v1 v2 v3 v4 v5 = some r) : me_Z X B 0 0 μ 17 [(0, me_r 36 0), (1, me_i v1), (2, me_i v2), (3, me_i v3), (4, me_i v4), (5, me_i v5)] [me_r 36 0] := by
  unfold f_M_ask_b17 at hf
  refine me_iconst C (v := 1) dX12_ask_17 (by decide) ?_
  refine me_goto C (tgt := 22) dX12_ask_18 (by decide) ?_
  refine me_dropI [(0, me_r 36 0), (1, me_i v1), (2, me_i v2), (3, me_i v3), (4, me_i v4), (5, me_i v5)] [0, 1, 2, 3, 4, 5] rfl ?_
  exact z_M_ask_b22 C N hNx hB hf
def f_M_ask (μ : me_M) (v1 : Int32) (v2 : Int32) (v3 : Int32) (v4 : Int32) (v5 : Int32) : Option (me_M × Int32) :=
  me_bd (f_M_isNoNode μ v1) (fun r1 =>
  if r1 = 0 then
  (me_bd (f_M_isNoNode μ v2) (fun r3 =>
  if r3 = 0 then
  (f_M_ask_b22 μ v1 v2 v3 v4 v5 (0 : Int32))
  else
  (f_M_ask_b17 μ v1 v2 v3 v4 v5)))
  else
  (f_M_ask_b17 μ v1 v2 v3 v4 v5))
set_option maxHeartbeats 4000000 in
set_option maxRecDepth 100000 in
theorem z_M_ask {X : me_X} {B : me_B} {sz : Nat} (C : me_C X B RX12 cX12_ask 7 (some .int)) {μ : me_M} {v1 : Int32} {v2 : Int32} {v3 : Int32} {v4 : Int32} {v5 : Int32}   {r : me_M × Int32} (N : me_En X B sz (B, r.1, .ok (some (me_i r.2))) 2 43 0 0) (hNx : me_Nx X) (hB : me_St B)   (hf : f_M_ask μ v1 v2 v3 v4 v5 = some r) : me_Z X B 0 0 μ 0 [(0, me_r 36 0), (1, me_i v1), (2, me_i v2), (3, me_i v3), (4, me_i v4), (5, me_i v5)] [] := by
  unfold f_M_ask at hf
  refine me_aload_n C 0 (Or.inr (Or.inl ⟨_, rfl⟩)) dX12_ask_0 rfl rfl ?_
  refine me_aload_n C 0 (Or.inr (Or.inl ⟨_, rfl⟩)) dX12_ask_1 rfl rfl ?_
  refine me_iload_n C 1 dX12_ask_2 rfl rfl ?_
  obtain ⟨r1, h_r1, hf⟩ := me_bs hf
  refine me_callV C N  (As := [me_i v1]) (st := [me_r 36 0]) 0 0 (c_M_isNoNode hB h_r1) mv_M_isNoNode ml_M_165 rfl rfl dX12_ask_3 rfl rfl ⟨by decide, by decide⟩ ⟨by decide, by decide, by decide, by decide⟩ (Nat.le_of_ble_eq_true rfl) ?_
  refine me_if_ne C (tgt := 17) dX12_ask_6 (by decide) (fun c2 => ?_) (fun c2 => ?_)
  · replace hf := me_in c2 hf
    refine me_dropI [(0, me_r 36 0), (1, me_i v1), (2, me_i v2), (3, me_i v3), (4, me_i v4), (5, me_i v5)] [0, 1, 2, 3, 4, 5] rfl ?_
    exact z_M_ask_b17 C N hNx hB hf
  · replace hf := me_ip c2 hf
    refine me_aload_n C 0 (Or.inr (Or.inl ⟨_, rfl⟩)) dX12_ask_9 rfl rfl ?_
    refine me_iload_n C 2 dX12_ask_10 rfl rfl ?_
    obtain ⟨r3, h_r3, hf⟩ := me_bs hf
    refine me_callV C N  (As := [me_i v2]) (st := [me_r 36 0]) 0 0 (c_M_isNoNode hB h_r3) mv_M_isNoNode ml_M_165 rfl rfl dX12_ask_11 rfl rfl ⟨by decide, by decide⟩ ⟨by decide, by decide, by decide, by decide⟩ (Nat.le_of_ble_eq_true rfl) ?_
    refine me_if_eq C (tgt := 21) dX12_ask_14 (by decide) (fun c4 => ?_) (fun c4 => ?_)
    · replace hf := me_ip c4 hf
      refine me_iconst C (v := 0) dX12_ask_21 (by decide) ?_
      refine me_dropI [(0, me_r 36 0), (1, me_i v1), (2, me_i v2), (3, me_i v3), (4, me_i v4), (5, me_i v5)] [0, 1, 2, 3, 4, 5] rfl ?_
      exact z_M_ask_b22 C N hNx hB hf
    · replace hf := me_in c4 hf
      refine me_dropI [(0, me_r 36 0), (1, me_i v1), (2, me_i v2), (3, me_i v3), (4, me_i v4), (5, me_i v5)] [0, 1, 2, 3, 4, 5] rfl ?_
      exact z_M_ask_b17 C N hNx hB hf
theorem c_M_ask {B : me_B} (hB : me_St B) {μ : me_M} {v1 : Int32} {v2 : Int32} {v3 : Int32} {v4 : Int32} {v5 : Int32} {μ' : me_M} {r : Int32}  (hf : f_M_ask μ v1 v2 v3 v4 v5 = some (μ', r)) : ∀ l E z, l.stackTraces = false → me_Met l yX12_ask cX12_ask 7 (some .int) 2 43 0 0 E B μ z [me_r 36 0, me_i v1, me_i v2, me_i v3, me_i v4, me_i v5] (B, μ', .ok (some (me_i r))) :=
  fun _ _ _ hl => me_ofZ hl (by decide +kernel) (Nat.le_of_ble_eq_true rfl) (fun _ C N hNx => z_M_ask C N hNx hB  hf)

def f_M_answer_b48 (μ : me_M) (v1 : Int32) (s0 : Int32) : Option (me_M × Int32) :=
  me_b2 (f_M_isThrown μ s0 (3 : Int32)) (fun μ2 r1 =>
  if r1 = 0 then
  (me_gd (me_inb v1 200) (
  some (μ2, (μ2 49 0 (me_ix v1)))))
  else
  (some (μ2, (0 : Int32))))
set_option maxHeartbeats 4000000 in
set_option maxRecDepth 100000 in
theorem z_M_answer_b48 {X : me_X} {B : me_B} {sz : Nat} (C : me_C X B RX12 cX12_answer 2 (some .int)) {μ : me_M} {v1 : Int32} {s0 : Int32}   {r : me_M × Int32} (N : me_En X B sz (B, r.1, .ok (some (me_i r.2))) 2 43 0 0) (hNx : me_Nx X) (hB : me_St B)   (hf : f_M_answer_b48 μ v1 s0 = some r) : me_Z X B 0 0 μ 48 [(0, me_r 36 0), (1, me_i v1)] [me_i s0, me_r 36 0] := by
  unfold f_M_answer_b48 at hf
  refine me_iconst C (v := 3) dX12_answer_48 (by decide) ?_
  obtain ⟨μ2, r1, h_r1, hf⟩ := me_bs2 hf
  refine me_callV C N  (As := [me_i s0, me_i (3 : Int32)]) (st := []) 0 0 (c_M_isThrown hB h_r1) mv_M_isThrown ml_M_155 rfl rfl dX12_answer_49 rfl rfl ⟨by decide, by decide⟩ ⟨by decide, by decide, by decide, by decide⟩ (Nat.le_of_ble_eq_true rfl) ?_
  refine me_if_eq C (tgt := 57) dX12_answer_52 (by decide) (fun c3 => ?_) (fun c3 => ?_)
  · replace hf := me_ip c3 hf
    refine me_aload_n C 0 (Or.inr (Or.inl ⟨_, rfl⟩)) dX12_answer_57 rfl rfl ?_
    refine me_getr C hB 18 (k' := 49) (i' := 0) fg_M_62 dX12_answer_58 rfl rfl ?_
    refine me_iload_n C 1 dX12_answer_61 rfl rfl ?_
    obtain ⟨g4, hf⟩ := me_gs hf
    refine me_iald C rfl (fun _ => rfl) g4 dX12_answer_62 ?_
    exact me_iret C N dX12_answer_63 (me_nri _) (by cases hf; rfl) (by decide) (by decide)
  · replace hf := me_in c3 hf
    refine me_iconst C (v := 0) dX12_answer_55 (by decide) ?_
    exact me_iret C N dX12_answer_56 (me_nri _) (by cases hf; rfl) (by decide) (by decide)
def f_M_answer_b25 (μ : me_M) (v1 : Int32) (s0 : Int32) : Option (me_M × Int32) :=
  me_b2 (f_M_isThrown μ s0 (2 : Int32)) (fun μ2 r1 =>
  if r1 = 0 then
  (me_gd (me_inb v1 200) (
  if (μ2 49 0 (me_ix v1)) = (-1 : Int32) then
  (f_M_answer_b48 μ2 v1 (1 : Int32))
  else
  (f_M_answer_b48 μ2 v1 (0 : Int32))))
  else
  (some (μ2, (0 : Int32))))
set_option maxHeartbeats 4000000 in
set_option maxRecDepth 100000 in
theorem z_M_answer_b25 {X : me_X} {B : me_B} {sz : Nat} (C : me_C X B RX12 cX12_answer 2 (some .int)) {μ : me_M} {v1 : Int32} {s0 : Int32}   {r : me_M × Int32} (N : me_En X B sz (B, r.1, .ok (some (me_i r.2))) 2 43 0 0) (hNx : me_Nx X) (hB : me_St B)   (hf : f_M_answer_b25 μ v1 s0 = some r) : me_Z X B 0 0 μ 25 [(0, me_r 36 0), (1, me_i v1)] [me_i s0, me_r 36 0] := by
  unfold f_M_answer_b25 at hf
  refine me_iconst C (v := 2) dX12_answer_25 (by decide) ?_
  obtain ⟨μ2, r1, h_r1, hf⟩ := me_bs2 hf
  refine me_callV C N  (As := [me_i s0, me_i (2 : Int32)]) (st := []) 0 0 (c_M_isThrown hB h_r1) mv_M_isThrown ml_M_155 rfl rfl dX12_answer_26 rfl rfl ⟨by decide, by decide⟩ ⟨by decide, by decide, by decide, by decide⟩ (Nat.le_of_ble_eq_true rfl) ?_
  refine me_if_ne C (tgt := 55) dX12_answer_29 (by decide) (fun c3 => ?_) (fun c3 => ?_)
  · replace hf := me_in c3 hf
    refine me_iconst C (v := 0) dX12_answer_55 (by decide) ?_
    exact me_iret C N dX12_answer_56 (me_nri _) (by cases hf; rfl) (by decide) (by decide)
  · replace hf := me_ip c3 hf
    refine me_aload_n C 0 (Or.inr (Or.inl ⟨_, rfl⟩)) dX12_answer_32 rfl rfl ?_
    refine me_aload_n C 0 (Or.inr (Or.inl ⟨_, rfl⟩)) dX12_answer_33 rfl rfl ?_
    refine me_getr C hB 18 (k' := 49) (i' := 0) fg_M_62 dX12_answer_34 rfl rfl ?_
    refine me_iload_n C 1 dX12_answer_37 rfl rfl ?_
    obtain ⟨g4, hf⟩ := me_gs hf
    refine me_iald C rfl (fun _ => rfl) g4 dX12_answer_38 ?_
    refine me_iconst C (v := -1) dX12_answer_39 (by decide) ?_
    refine me_icmp_ne C (tgt := 47) dX12_answer_40 (by decide) (fun c5 => ?_) (fun c5 => ?_)
    · replace hf := me_in c5 hf
      refine me_iconst C (v := 0) dX12_answer_47 (by decide) ?_
      refine me_dropI [(0, me_r 36 0), (1, me_i v1)] [0, 1] rfl ?_
      exact z_M_answer_b48 C N hNx hB hf
    · replace hf := me_ip c5 hf
      refine me_iconst C (v := 1) dX12_answer_43 (by decide) ?_
      refine me_goto C (tgt := 48) dX12_answer_44 (by decide) ?_
      refine me_dropI [(0, me_r 36 0), (1, me_i v1)] [0, 1] rfl ?_
      exact z_M_answer_b48 C N hNx hB hf
def f_M_answer (μ : me_M) (v1 : Int32) : Option (me_M × Int32) :=
  me_b2 (f_M_isNoPacket μ v1) (fun μ2 r1 =>
  if r1 = 0 then
  (me_gd (me_inb v1 200) (
  if (μ2 37 0 (me_ix v1)) = (113 : Int32) then
  (f_M_answer_b25 μ2 v1 (0 : Int32))
  else
  (f_M_answer_b25 μ2 v1 (1 : Int32))))
  else
  (some (μ2, (0 : Int32))))
set_option maxHeartbeats 4000000 in
set_option maxRecDepth 100000 in
theorem z_M_answer {X : me_X} {B : me_B} {sz : Nat} (C : me_C X B RX12 cX12_answer 2 (some .int)) {μ : me_M} {v1 : Int32}   {r : me_M × Int32} (N : me_En X B sz (B, r.1, .ok (some (me_i r.2))) 2 43 0 0) (hNx : me_Nx X) (hB : me_St B)   (hf : f_M_answer μ v1 = some r) : me_Z X B 0 0 μ 0 [(0, me_r 36 0), (1, me_i v1)] [] := by
  unfold f_M_answer at hf
  refine me_aload_n C 0 (Or.inr (Or.inl ⟨_, rfl⟩)) dX12_answer_0 rfl rfl ?_
  refine me_iload_n C 1 dX12_answer_1 rfl rfl ?_
  obtain ⟨μ2, r1, h_r1, hf⟩ := me_bs2 hf
  refine me_callV C N  (As := [me_i v1]) (st := []) 0 0 (c_M_isNoPacket hB h_r1) mv_M_isNoPacket ml_M_182 rfl rfl dX12_answer_2 rfl rfl ⟨by decide, by decide⟩ ⟨by decide, by decide, by decide, by decide⟩ (Nat.le_of_ble_eq_true rfl) ?_
  refine me_if_ne C (tgt := 55) dX12_answer_5 (by decide) (fun c3 => ?_) (fun c3 => ?_)
  · replace hf := me_in c3 hf
    refine me_iconst C (v := 0) dX12_answer_55 (by decide) ?_
    exact me_iret C N dX12_answer_56 (me_nri _) (by cases hf; rfl) (by decide) (by decide)
  · replace hf := me_ip c3 hf
    refine me_aload_n C 0 (Or.inr (Or.inl ⟨_, rfl⟩)) dX12_answer_8 rfl rfl ?_
    refine me_aload_n C 0 (Or.inr (Or.inl ⟨_, rfl⟩)) dX12_answer_9 rfl rfl ?_
    refine me_getr C hB 6 (k' := 37) (i' := 0) fg_M_23 dX12_answer_10 rfl rfl ?_
    refine me_iload_n C 1 dX12_answer_13 rfl rfl ?_
    obtain ⟨g4, hf⟩ := me_gs hf
    refine me_cald C rfl (fun _ => rfl) g4 dX12_answer_14 ?_
    refine me_bipush C (v := 113) dX12_answer_15 (by decide) ?_
    refine me_icmp_eq C (tgt := 24) dX12_answer_17 (by decide) (fun c5 => ?_) (fun c5 => ?_)
    · replace hf := me_ip c5 hf
      refine me_iconst C (v := 0) dX12_answer_24 (by decide) ?_
      refine me_dropI [(0, me_r 36 0), (1, me_i v1)] [0, 1] rfl ?_
      exact z_M_answer_b25 C N hNx hB hf
    · replace hf := me_in c5 hf
      refine me_iconst C (v := 1) dX12_answer_20 (by decide) ?_
      refine me_goto C (tgt := 25) dX12_answer_21 (by decide) ?_
      refine me_dropI [(0, me_r 36 0), (1, me_i v1)] [0, 1] rfl ?_
      exact z_M_answer_b25 C N hNx hB hf
theorem c_M_answer {B : me_B} (hB : me_St B) {μ : me_M} {v1 : Int32} {μ' : me_M} {r : Int32}  (hf : f_M_answer μ v1 = some (μ', r)) : ∀ l E z, l.stackTraces = false → me_Met l yX12_answer cX12_answer 2 (some .int) 2 43 0 0 E B μ z [me_r 36 0, me_i v1] (B, μ', .ok (some (me_i r))) :=
  fun _ _ _ hl => me_ofZ hl (by decide +kernel) (Nat.le_of_ble_eq_true rfl) (fun _ C N hNx => z_M_answer C N hNx hB  hf)

def f_M_kind (μ : me_M) (v1 : Int32) : Option (me_M × Int32) :=
  me_b2 (f_M_isNoPacket μ v1) (fun μ2 r1 =>
  if r1 = 0 then
  (me_gd (me_inb v1 200) (
  me_gd (me_nr .char (μ2 37 0 (me_ix v1))) (
  some (μ2, (μ2 37 0 (me_ix v1))))))
  else
  (some (μ2, (32 : Int32))))
set_option maxHeartbeats 4000000 in
set_option maxRecDepth 100000 in
theorem z_M_kind {X : me_X} {B : me_B} {sz : Nat} (C : me_C X B RX12 cX12_kind 2 (some .char)) {μ : me_M} {v1 : Int32}   {r : me_M × Int32} (N : me_En X B sz (B, r.1, .ok (some (me_i r.2))) 2 43 0 0) (hNx : me_Nx X) (hB : me_St B)   (hf : f_M_kind μ v1 = some r) : me_Z X B 0 0 μ 0 [(0, me_r 36 0), (1, me_i v1)] [] := by
  unfold f_M_kind at hf
  refine me_aload_n C 0 (Or.inr (Or.inl ⟨_, rfl⟩)) dX12_kind_0 rfl rfl ?_
  refine me_iload_n C 1 dX12_kind_1 rfl rfl ?_
  obtain ⟨μ2, r1, h_r1, hf⟩ := me_bs2 hf
  refine me_callV C N  (As := [me_i v1]) (st := []) 0 0 (c_M_isNoPacket hB h_r1) mv_M_isNoPacket ml_M_182 rfl rfl dX12_kind_2 rfl rfl ⟨by decide, by decide⟩ ⟨by decide, by decide, by decide, by decide⟩ (Nat.le_of_ble_eq_true rfl) ?_
  refine me_if_eq C (tgt := 13) dX12_kind_5 (by decide) (fun c3 => ?_) (fun c3 => ?_)
  · replace hf := me_ip c3 hf
    refine me_aload_n C 0 (Or.inr (Or.inl ⟨_, rfl⟩)) dX12_kind_13 rfl rfl ?_
    refine me_getr C hB 6 (k' := 37) (i' := 0) fg_M_23 dX12_kind_14 rfl rfl ?_
    refine me_iload_n C 1 dX12_kind_17 rfl rfl ?_
    obtain ⟨g4, hf⟩ := me_gs hf
    refine me_cald C rfl (fun _ => rfl) g4 dX12_kind_18 ?_
    obtain ⟨g5, hf⟩ := me_gs hf
    exact me_iret C N dX12_kind_19 g5 (by cases hf; rfl) (by decide) (by decide)
  · replace hf := me_in c3 hf
    refine me_bipush C (v := 32) dX12_kind_8 (by decide) ?_
    refine me_goto C (tgt := 19) dX12_kind_10 (by decide) ?_
    exact me_iret C N dX12_kind_19 (by decide +kernel) (by cases hf; rfl) (by decide) (by decide)
theorem c_M_kind {B : me_B} (hB : me_St B) {μ : me_M} {v1 : Int32} {μ' : me_M} {r : Int32}  (hf : f_M_kind μ v1 = some (μ', r)) : ∀ l E z, l.stackTraces = false → me_Met l yX12_kind cX12_kind 2 (some .char) 2 43 0 0 E B μ z [me_r 36 0, me_i v1] (B, μ', .ok (some (me_i r))) :=
  fun _ _ _ hl => me_ofZ hl (by decide +kernel) (Nat.le_of_ble_eq_true rfl) (fun _ C N hNx => z_M_kind C N hNx hB  hf)

def f_M_state (μ : me_M) (v1 : Int32) : Option (me_M × Int32) :=
  me_b2 (f_M_isNoPacket μ v1) (fun μ2 r1 =>
  if r1 = 0 then
  (me_gd (me_inb v1 200) (
  me_gd (me_nr .char (μ2 38 0 (me_ix v1))) (
  some (μ2, (μ2 38 0 (me_ix v1))))))
  else
  (some (μ2, (32 : Int32))))
set_option maxHeartbeats 4000000 in
set_option maxRecDepth 100000 in
theorem z_M_state {X : me_X} {B : me_B} {sz : Nat} (C : me_C X B RX12 cX12_state 2 (some .char)) {μ : me_M} {v1 : Int32}   {r : me_M × Int32} (N : me_En X B sz (B, r.1, .ok (some (me_i r.2))) 2 43 0 0) (hNx : me_Nx X) (hB : me_St B)   (hf : f_M_state μ v1 = some r) : me_Z X B 0 0 μ 0 [(0, me_r 36 0), (1, me_i v1)] [] := by
  unfold f_M_state at hf
  refine me_aload_n C 0 (Or.inr (Or.inl ⟨_, rfl⟩)) dX12_state_0 rfl rfl ?_
  refine me_iload_n C 1 dX12_state_1 rfl rfl ?_
  obtain ⟨μ2, r1, h_r1, hf⟩ := me_bs2 hf
  refine me_callV C N  (As := [me_i v1]) (st := []) 0 0 (c_M_isNoPacket hB h_r1) mv_M_isNoPacket ml_M_182 rfl rfl dX12_state_2 rfl rfl ⟨by decide, by decide⟩ ⟨by decide, by decide, by decide, by decide⟩ (Nat.le_of_ble_eq_true rfl) ?_
  refine me_if_eq C (tgt := 13) dX12_state_5 (by decide) (fun c3 => ?_) (fun c3 => ?_)
  · replace hf := me_ip c3 hf
    refine me_aload_n C 0 (Or.inr (Or.inl ⟨_, rfl⟩)) dX12_state_13 rfl rfl ?_
    refine me_getr C hB 7 (k' := 38) (i' := 0) fg_M_27 dX12_state_14 rfl rfl ?_
    refine me_iload_n C 1 dX12_state_17 rfl rfl ?_
    obtain ⟨g4, hf⟩ := me_gs hf
    refine me_cald C rfl (fun _ => rfl) g4 dX12_state_18 ?_
    obtain ⟨g5, hf⟩ := me_gs hf
    exact me_iret C N dX12_state_19 g5 (by cases hf; rfl) (by decide) (by decide)
  · replace hf := me_in c3 hf
    refine me_bipush C (v := 32) dX12_state_8 (by decide) ?_
    refine me_goto C (tgt := 19) dX12_state_10 (by decide) ?_
    exact me_iret C N dX12_state_19 (by decide +kernel) (by cases hf; rfl) (by decide) (by decide)
theorem c_M_state {B : me_B} (hB : me_St B) {μ : me_M} {v1 : Int32} {μ' : me_M} {r : Int32}  (hf : f_M_state μ v1 = some (μ', r)) : ∀ l E z, l.stackTraces = false → me_Met l yX12_state cX12_state 2 (some .char) 2 43 0 0 E B μ z [me_r 36 0, me_i v1] (B, μ', .ok (some (me_i r))) :=
  fun _ _ _ hl => me_ofZ hl (by decide +kernel) (Nat.le_of_ble_eq_true rfl) (fun _ C N hNx => z_M_state C N hNx hB  hf)

def f_M_word (μ : me_M) (v1 : Int32) : Option (me_M × Int32) :=
  me_b2 (f_M_isNoPacket μ v1) (fun μ2 r1 =>
  if r1 = 0 then
  (me_gd (me_inb v1 200) (
  some (μ2, (μ2 41 0 (me_ix v1)))))
  else
  (some (μ2, (0 : Int32))))
set_option maxHeartbeats 4000000 in
set_option maxRecDepth 100000 in
theorem z_M_word {X : me_X} {B : me_B} {sz : Nat} (C : me_C X B RX12 cX12_word 2 (some .int)) {μ : me_M} {v1 : Int32}   {r : me_M × Int32} (N : me_En X B sz (B, r.1, .ok (some (me_i r.2))) 2 43 0 0) (hNx : me_Nx X) (hB : me_St B)   (hf : f_M_word μ v1 = some r) : me_Z X B 0 0 μ 0 [(0, me_r 36 0), (1, me_i v1)] [] := by
  unfold f_M_word at hf
  refine me_aload_n C 0 (Or.inr (Or.inl ⟨_, rfl⟩)) dX12_word_0 rfl rfl ?_
  refine me_iload_n C 1 dX12_word_1 rfl rfl ?_
  obtain ⟨μ2, r1, h_r1, hf⟩ := me_bs2 hf
  refine me_callV C N  (As := [me_i v1]) (st := []) 0 0 (c_M_isNoPacket hB h_r1) mv_M_isNoPacket ml_M_182 rfl rfl dX12_word_2 rfl rfl ⟨by decide, by decide⟩ ⟨by decide, by decide, by decide, by decide⟩ (Nat.le_of_ble_eq_true rfl) ?_
  refine me_if_eq C (tgt := 12) dX12_word_5 (by decide) (fun c3 => ?_) (fun c3 => ?_)
  · replace hf := me_ip c3 hf
    refine me_aload_n C 0 (Or.inr (Or.inl ⟨_, rfl⟩)) dX12_word_12 rfl rfl ?_
    refine me_getr C hB 10 (k' := 41) (i' := 0) fg_M_37 dX12_word_13 rfl rfl ?_
    refine me_iload_n C 1 dX12_word_16 rfl rfl ?_
    obtain ⟨g4, hf⟩ := me_gs hf
    refine me_iald C rfl (fun _ => rfl) g4 dX12_word_17 ?_
    exact me_iret C N dX12_word_18 (me_nri _) (by cases hf; rfl) (by decide) (by decide)
  · replace hf := me_in c3 hf
    refine me_iconst C (v := 0) dX12_word_8 (by decide) ?_
    refine me_goto C (tgt := 18) dX12_word_9 (by decide) ?_
    exact me_iret C N dX12_word_18 (me_nri _) (by cases hf; rfl) (by decide) (by decide)
theorem c_M_word {B : me_B} (hB : me_St B) {μ : me_M} {v1 : Int32} {μ' : me_M} {r : Int32}  (hf : f_M_word μ v1 = some (μ', r)) : ∀ l E z, l.stackTraces = false → me_Met l yX12_word cX12_word 2 (some .int) 2 43 0 0 E B μ z [me_r 36 0, me_i v1] (B, μ', .ok (some (me_i r))) :=
  fun _ _ _ hl => me_ofZ hl (by decide +kernel) (Nat.le_of_ble_eq_true rfl) (fun _ C N hNx => z_M_word C N hNx hB  hf)

def f_M_piecesAt_b81 (μ : me_M) (K6 : Int32 → Int32 → Int32 → Int32 → Int32 → Option Int32) (K15 : Int32 → Int32 → Int32 → Int32 → Int32 → Int32 → Option Int32) (K24 : Int32 → Int32 → Int32 → Int32 → Int32 → Int32 → Int32 → Option Int32) (v1 : Int32) (v2 : Int32) (v3 : Int32) (v5 : Int32) (v6 : Int32) (v7 : Int32) (s0 : Int32) : Option Int32 :=
  me_lt ((s0 + (1 : Int32))) (fun x1 =>
  me_lt (me_inc v7 (1)) (fun x2 =>
  K24 v1 v2 v3 x1 v5 v6 x2))
set_option maxHeartbeats 4000000 in
set_option maxRecDepth 100000 in
theorem z_M_piecesAt_b81 {X : me_X} {B : me_B} {sz : Nat} (C : me_C X B RX12 cX12_piecesAt 9 (some .int)) {μ : me_M} {v1 : Int32} {v2 : Int32} {v3 : Int32} {v5 : Int32} {v6 : Int32} {v7 : Int32} {s0 : Int32}  {K6 : Int32 → Int32 → Int32 → Int32 → Int32 → Option Int32} {K15 : Int32 → Int32 → Int32 → Int32 → Int32 → Int32 → Option Int32} {K24 : Int32 → Int32 → Int32 → Int32 → Int32 → Int32 → Int32 → Option Int32} {r : Int32} (N : me_En X B sz (B, μ, .ok (some (me_i r))) 0 0 0 0) (hNx : me_Nx X) (hB : me_St B) (hK6 : ∀ (v1 : Int32) (v2 : Int32) (v3 : Int32) (v4 : Int32) (v5 : Int32), K6 v1 v2 v3 v4 v5 = some r → me_Z X B 0 0 μ 6 [(0, me_r 36 0), (1, me_i v1), (2, me_i v2), (3, me_i v3), (4, me_i v4), (5, me_i v5)] []) (hK15 : ∀ (v1 : Int32) (v2 : Int32) (v3 : Int32) (v4 : Int32) (v5 : Int32) (v6 : Int32), K15 v1 v2 v3 v4 v5 v6 = some r → me_Z X B 0 0 μ 15 [(0, me_r 36 0), (1, me_i v1), (2, me_i v2), (3, me_i v3), (4, me_i v4), (5, me_i v5), (6, me_i v6)] []) (hK24 : ∀ (v1 : Int32) (v2 : Int32) (v3 : Int32) (v4 : Int32) (v5 : Int32) (v6 : Int32) (v7 : Int32), K24 v1 v2 v3 v4 v5 v6 v7 = some r → me_Z X B 0 0 μ 24 [(0, me_r 36 0), (1, me_i v1), (2, me_i v2), (3, me_i v3), (4, me_i v4), (5, me_i v5), (6, me_i v6), (7, me_i v7)] [])  (hf : f_M_piecesAt_b81 μ K6 K15 K24 v1 v2 v3 v5 v6 v7 s0 = some r) : me_Z X B 0 0 μ 81 [(0, me_r 36 0), (1, me_i v1), (2, me_i v2), (3, me_i v3), (5, me_i v5), (6, me_i v6), (7, me_i v7)] [me_i s0] := by
  unfold f_M_piecesAt_b81 at hf
  refine me_iconst C (v := 1) dX12_piecesAt_81 (by decide) ?_
  refine me_goto C (tgt := 86) dX12_piecesAt_82 (by decide) ?_
  refine me_iadd C dX12_piecesAt_86 ?_
  obtain ⟨x1, e_x1, hf⟩ := me_lts hf
  refine me_nm e_x1 ?_
  refine me_istore C dX12_piecesAt_87 (by decide) (L' := [(4, me_i x1), (0, me_r 36 0), (1, me_i v1), (2, me_i v2), (3, me_i v3), (5, me_i v5), (6, me_i v6), (7, me_i v7)]) rfl ?_
  obtain ⟨x2, e_x2, hf⟩ := me_lts hf
  refine me_iinc C (v := x2) (L' := [(7, me_i x2), (4, me_i x1), (0, me_r 36 0), (1, me_i v1), (2, me_i v2), (3, me_i v3), (5, me_i v5), (6, me_i v6)]) dX12_piecesAt_89 rfl e_x2.symm (by decide) rfl ?_
  refine me_goto C (tgt := 24) dX12_piecesAt_92 (by decide) ?_
  refine me_dropI [(0, me_r 36 0), (1, me_i v1), (2, me_i v2), (3, me_i v3), (4, me_i x1), (5, me_i v5), (6, me_i v6), (7, me_i x2)] [2, 3, 4, 5, 1, 6, 7, 0] rfl ?_
  exact hK24 v1 v2 v3 x1 v5 v6 x2 hf
def f_M_piecesAt_b85 (μ : me_M) (K6 : Int32 → Int32 → Int32 → Int32 → Int32 → Option Int32) (K15 : Int32 → Int32 → Int32 → Int32 → Int32 → Int32 → Option Int32) (K24 : Int32 → Int32 → Int32 → Int32 → Int32 → Int32 → Int32 → Option Int32) (v1 : Int32) (v2 : Int32) (v3 : Int32) (v5 : Int32) (v6 : Int32) (v7 : Int32) (s0 : Int32) : Option Int32 :=
  me_lt ((s0 + (0 : Int32))) (fun x1 =>
  me_lt (me_inc v7 (1)) (fun x2 =>
  K24 v1 v2 v3 x1 v5 v6 x2))
set_option maxHeartbeats 4000000 in
set_option maxRecDepth 100000 in
theorem z_M_piecesAt_b85 {X : me_X} {B : me_B} {sz : Nat} (C : me_C X B RX12 cX12_piecesAt 9 (some .int)) {μ : me_M} {v1 : Int32} {v2 : Int32} {v3 : Int32} {v5 : Int32} {v6 : Int32} {v7 : Int32} {s0 : Int32}  {K6 : Int32 → Int32 → Int32 → Int32 → Int32 → Option Int32} {K15 : Int32 → Int32 → Int32 → Int32 → Int32 → Int32 → Option Int32} {K24 : Int32 → Int32 → Int32 → Int32 → Int32 → Int32 → Int32 → Option Int32} {r : Int32} (N : me_En X B sz (B, μ, .ok (some (me_i r))) 0 0 0 0) (hNx : me_Nx X) (hB : me_St B) (hK6 : ∀ (v1 : Int32) (v2 : Int32) (v3 : Int32) (v4 : Int32) (v5 : Int32), K6 v1 v2 v3 v4 v5 = some r → me_Z X B 0 0 μ 6 [(0, me_r 36 0), (1, me_i v1), (2, me_i v2), (3, me_i v3), (4, me_i v4), (5, me_i v5)] []) (hK15 : ∀ (v1 : Int32) (v2 : Int32) (v3 : Int32) (v4 : Int32) (v5 : Int32) (v6 : Int32), K15 v1 v2 v3 v4 v5 v6 = some r → me_Z X B 0 0 μ 15 [(0, me_r 36 0), (1, me_i v1), (2, me_i v2), (3, me_i v3), (4, me_i v4), (5, me_i v5), (6, me_i v6)] []) (hK24 : ∀ (v1 : Int32) (v2 : Int32) (v3 : Int32) (v4 : Int32) (v5 : Int32) (v6 : Int32) (v7 : Int32), K24 v1 v2 v3 v4 v5 v6 v7 = some r → me_Z X B 0 0 μ 24 [(0, me_r 36 0), (1, me_i v1), (2, me_i v2), (3, me_i v3), (4, me_i v4), (5, me_i v5), (6, me_i v6), (7, me_i v7)] [])  (hf : f_M_piecesAt_b85 μ K6 K15 K24 v1 v2 v3 v5 v6 v7 s0 = some r) : me_Z X B 0 0 μ 85 [(0, me_r 36 0), (1, me_i v1), (2, me_i v2), (3, me_i v3), (5, me_i v5), (6, me_i v6), (7, me_i v7)] [me_i s0] := by
  unfold f_M_piecesAt_b85 at hf
  refine me_iconst C (v := 0) dX12_piecesAt_85 (by decide) ?_
  refine me_iadd C dX12_piecesAt_86 ?_
  obtain ⟨x1, e_x1, hf⟩ := me_lts hf
  refine me_nm e_x1 ?_
  refine me_istore C dX12_piecesAt_87 (by decide) (L' := [(4, me_i x1), (0, me_r 36 0), (1, me_i v1), (2, me_i v2), (3, me_i v3), (5, me_i v5), (6, me_i v6), (7, me_i v7)]) rfl ?_
  obtain ⟨x2, e_x2, hf⟩ := me_lts hf
  refine me_iinc C (v := x2) (L' := [(7, me_i x2), (4, me_i x1), (0, me_r 36 0), (1, me_i v1), (2, me_i v2), (3, me_i v3), (5, me_i v5), (6, me_i v6)]) dX12_piecesAt_89 rfl e_x2.symm (by decide) rfl ?_
  refine me_goto C (tgt := 24) dX12_piecesAt_92 (by decide) ?_
  refine me_dropI [(0, me_r 36 0), (1, me_i v1), (2, me_i v2), (3, me_i v3), (4, me_i x1), (5, me_i v5), (6, me_i v6), (7, me_i x2)] [2, 3, 4, 5, 1, 6, 7, 0] rfl ?_
  exact hK24 v1 v2 v3 x1 v5 v6 x2 hf
def f_M_piecesAt_b24 (μ : me_M) (K6 : Int32 → Int32 → Int32 → Int32 → Int32 → Option Int32) (K15 : Int32 → Int32 → Int32 → Int32 → Int32 → Int32 → Option Int32) (K24 : Int32 → Int32 → Int32 → Int32 → Int32 → Int32 → Int32 → Option Int32) (v1 : Int32) (v2 : Int32) (v3 : Int32) (v4 : Int32) (v5 : Int32) (v6 : Int32) (v7 : Int32) : Option Int32 :=
  me_gd (me_inb v1 16) (
  me_gd (me_inb v5 2) (
  me_gd (me_inb v6 5) (
  if (μ 60 (2 * (me_ix v1) + (me_ix v5)) (me_ix v6)) ≤ v7 then
  (me_lt (me_inc v6 (1)) (fun x5 =>
  K15 v1 v2 v3 v4 v5 x5))
  else
  (me_gd (me_inb v1 16) (
  me_gd (me_inb v5 2) (
  me_gd (me_inb v6 5) (
  me_gd (me_inb v7 4) (
  me_lt ((μ 53 (5 * (2 * (me_ix v1) + (me_ix v5)) + (me_ix v6)) (me_ix v7))) (fun x10 =>
  if (x10 / (8 : Int32)) = v2 then
  (if v3 = 0 then
  (f_M_piecesAt_b81 μ K6 K15 K24 v1 v2 v3 v5 v6 v7 v4)
  else
  (if (me_rem x10 (8 : Int32)) = 0 then
  (f_M_piecesAt_b81 μ K6 K15 K24 v1 v2 v3 v5 v6 v7 v4)
  else
  (f_M_piecesAt_b85 μ K6 K15 K24 v1 v2 v3 v5 v6 v7 v4)))
  else
  (f_M_piecesAt_b85 μ K6 K15 K24 v1 v2 v3 v5 v6 v7 v4))))))))))
set_option maxHeartbeats 4000000 in
set_option maxRecDepth 100000 in
theorem z_M_piecesAt_b24 {X : me_X} {B : me_B} {sz : Nat} (C : me_C X B RX12 cX12_piecesAt 9 (some .int)) {μ : me_M} {v1 : Int32} {v2 : Int32} {v3 : Int32} {v4 : Int32} {v5 : Int32} {v6 : Int32} {v7 : Int32}  {K6 : Int32 → Int32 → Int32 → Int32 → Int32 → Option Int32} {K15 : Int32 → Int32 → Int32 → Int32 → Int32 → Int32 → Option Int32} {K24 : Int32 → Int32 → Int32 → Int32 → Int32 → Int32 → Int32 → Option Int32} {r : Int32} (N : me_En X B sz (B, μ, .ok (some (me_i r))) 0 0 0 0) (hNx : me_Nx X) (hB : me_St B) (hK6 : ∀ (v1 : Int32) (v2 : Int32) (v3 : Int32) (v4 : Int32) (v5 : Int32), K6 v1 v2 v3 v4 v5 = some r → me_Z X B 0 0 μ 6 [(0, me_r 36 0), (1, me_i v1), (2, me_i v2), (3, me_i v3), (4, me_i v4), (5, me_i v5)] []) (hK15 : ∀ (v1 : Int32) (v2 : Int32) (v3 : Int32) (v4 : Int32) (v5 : Int32) (v6 : Int32), K15 v1 v2 v3 v4 v5 v6 = some r → me_Z X B 0 0 μ 15 [(0, me_r 36 0), (1, me_i v1), (2, me_i v2), (3, me_i v3), (4, me_i v4), (5, me_i v5), (6, me_i v6)] []) (hK24 : ∀ (v1 : Int32) (v2 : Int32) (v3 : Int32) (v4 : Int32) (v5 : Int32) (v6 : Int32) (v7 : Int32), K24 v1 v2 v3 v4 v5 v6 v7 = some r → me_Z X B 0 0 μ 24 [(0, me_r 36 0), (1, me_i v1), (2, me_i v2), (3, me_i v3), (4, me_i v4), (5, me_i v5), (6, me_i v6), (7, me_i v7)] [])  (hf : f_M_piecesAt_b24 μ K6 K15 K24 v1 v2 v3 v4 v5 v6 v7 = some r) : me_Z X B 0 0 μ 24 [(0, me_r 36 0), (1, me_i v1), (2, me_i v2), (3, me_i v3), (4, me_i v4), (5, me_i v5), (6, me_i v6), (7, me_i v7)] [] := by
  unfold f_M_piecesAt_b24 at hf
  refine me_iload C dX12_piecesAt_24 rfl ?_
  refine me_aload_n C 0 (Or.inr (Or.inl ⟨_, rfl⟩)) dX12_piecesAt_26 rfl rfl ?_
  refine me_getr C hB 22 (k' := 58) (i' := 0) fg_M_75 dX12_piecesAt_27 rfl rfl ?_
  refine me_iload_n C 1 dX12_piecesAt_30 rfl rfl ?_
  obtain ⟨g1, hf⟩ := me_gs hf
  refine me_aald C hB (k' := 59) (i' := (me_ix v1)) rfl (fun _ => rfl) rfl g1 dX12_piecesAt_31 rfl ?_
  refine me_iload C dX12_piecesAt_32 rfl ?_
  obtain ⟨g2, hf⟩ := me_gs hf
  refine me_aald C hB (k' := 60) (i' := 2 * (me_ix v1) + (me_ix v5)) rfl (fun _ => rfl) rfl g2 dX12_piecesAt_34 rfl ?_
  refine me_iload C dX12_piecesAt_35 rfl ?_
  obtain ⟨g3, hf⟩ := me_gs hf
  refine me_iald C rfl (fun _ => rfl) g3 dX12_piecesAt_37 ?_
  refine me_icmp_ge C (tgt := 95) dX12_piecesAt_38 (by decide) (fun c4 => ?_) (fun c4 => ?_)
  · replace hf := me_ip c4 hf
    obtain ⟨x5, e_x5, hf⟩ := me_lts hf
    refine me_iinc C (v := x5) (L' := [(6, me_i x5), (0, me_r 36 0), (1, me_i v1), (2, me_i v2), (3, me_i v3), (4, me_i v4), (5, me_i v5), (7, me_i v7)]) dX12_piecesAt_95 rfl e_x5.symm (by decide) rfl ?_
    refine me_goto C (tgt := 15) dX12_piecesAt_98 (by decide) ?_
    refine me_dropI [(0, me_r 36 0), (1, me_i v1), (2, me_i v2), (3, me_i v3), (4, me_i v4), (5, me_i v5), (6, me_i x5)] [1, 2, 3, 4, 5, 6, 0] rfl ?_
    exact hK15 v1 v2 v3 v4 v5 x5 hf
  · replace hf := me_in c4 hf
    refine me_aload_n C 0 (Or.inr (Or.inl ⟨_, rfl⟩)) dX12_piecesAt_41 rfl rfl ?_
    refine me_getr C hB 20 (k' := 50) (i' := 0) fg_M_67 dX12_piecesAt_42 rfl rfl ?_
    refine me_iload_n C 1 dX12_piecesAt_45 rfl rfl ?_
    obtain ⟨g6, hf⟩ := me_gs hf
    refine me_aald C hB (k' := 51) (i' := (me_ix v1)) rfl (fun _ => rfl) rfl g6 dX12_piecesAt_46 rfl ?_
    refine me_iload C dX12_piecesAt_47 rfl ?_
    obtain ⟨g7, hf⟩ := me_gs hf
    refine me_aald C hB (k' := 52) (i' := 2 * (me_ix v1) + (me_ix v5)) rfl (fun _ => rfl) rfl g7 dX12_piecesAt_49 rfl ?_
    refine me_iload C dX12_piecesAt_50 rfl ?_
    obtain ⟨g8, hf⟩ := me_gs hf
    refine me_aald C hB (k' := 53) (i' := 5 * (2 * (me_ix v1) + (me_ix v5)) + (me_ix v6)) rfl (fun _ => rfl) rfl g8 dX12_piecesAt_52 rfl ?_
    refine me_iload C dX12_piecesAt_53 rfl ?_
    obtain ⟨g9, hf⟩ := me_gs hf
    refine me_iald C rfl (fun _ => rfl) g9 dX12_piecesAt_55 ?_
    obtain ⟨x10, e_x10, hf⟩ := me_lts hf
    refine me_nm e_x10 ?_
    refine me_istore C dX12_piecesAt_56 (by decide) (L' := [(8, me_i x10), (0, me_r 36 0), (1, me_i v1), (2, me_i v2), (3, me_i v3), (4, me_i v4), (5, me_i v5), (6, me_i v6), (7, me_i v7)]) rfl ?_
    refine me_iload C dX12_piecesAt_58 rfl ?_
    refine me_iload C dX12_piecesAt_60 rfl ?_
    refine me_bipush C (v := 8) dX12_piecesAt_62 (by decide) ?_
    refine me_idiv C dX12_piecesAt_64 (by decide) ?_
    refine me_iload_n C 2 dX12_piecesAt_65 rfl rfl ?_
    refine me_icmp_ne C (tgt := 85) dX12_piecesAt_66 (by decide) (fun c11 => ?_) (fun c11 => ?_)
    · replace hf := me_in c11 hf
      refine me_dropI [(0, me_r 36 0), (1, me_i v1), (2, me_i v2), (3, me_i v3), (5, me_i v5), (6, me_i v6), (7, me_i v7)] [1, 2, 3, 4, 6, 7, 8] rfl ?_
      exact z_M_piecesAt_b85 C N hNx hB hK6 hK15 hK24 hf
    · replace hf := me_ip c11 hf
      refine me_iload_n C 3 dX12_piecesAt_69 rfl rfl ?_
      refine me_if_eq C (tgt := 81) dX12_piecesAt_70 (by decide) (fun c12 => ?_) (fun c12 => ?_)
      · replace hf := me_ip c12 hf
        refine me_dropI [(0, me_r 36 0), (1, me_i v1), (2, me_i v2), (3, me_i v3), (5, me_i v5), (6, me_i v6), (7, me_i v7)] [1, 2, 3, 4, 6, 7, 8] rfl ?_
        exact z_M_piecesAt_b81 C N hNx hB hK6 hK15 hK24 hf
      · replace hf := me_in c12 hf
        refine me_iload C dX12_piecesAt_73 rfl ?_
        refine me_bipush C (v := 8) dX12_piecesAt_75 (by decide) ?_
        refine me_irem C dX12_piecesAt_77 (by decide) ?_
        refine me_if_ne C (tgt := 85) dX12_piecesAt_78 (by decide) (fun c13 => ?_) (fun c13 => ?_)
        · replace hf := me_in c13 hf
          refine me_dropI [(0, me_r 36 0), (1, me_i v1), (2, me_i v2), (3, me_i v3), (5, me_i v5), (6, me_i v6), (7, me_i v7)] [1, 2, 3, 4, 6, 7, 8] rfl ?_
          exact z_M_piecesAt_b85 C N hNx hB hK6 hK15 hK24 hf
        · replace hf := me_ip c13 hf
          refine me_dropI [(0, me_r 36 0), (1, me_i v1), (2, me_i v2), (3, me_i v3), (5, me_i v5), (6, me_i v6), (7, me_i v7)] [1, 2, 3, 4, 6, 7, 8] rfl ?_
          exact z_M_piecesAt_b81 C N hNx hB hK6 hK15 hK24 hf
def f_M_piecesAt_h24 (μ : me_M) (K6 : Int32 → Int32 → Int32 → Int32 → Int32 → Option Int32) (K15 : Int32 → Int32 → Int32 → Int32 → Int32 → Int32 → Option Int32) : Nat → Int32 → Int32 → Int32 → Int32 → Int32 → Int32 → Int32 → Option Int32
  | 0, _, _, _, _, _, _, _ => none
  | n + 1, v1, v2, v3, v4, v5, v6, v7 => f_M_piecesAt_b24 μ K6 K15 (f_M_piecesAt_h24 μ K6 K15 n) v1 v2 v3 v4 v5 v6 v7
set_option maxHeartbeats 4000000 in
set_option maxRecDepth 100000 in
theorem z_M_piecesAt_h24 {X : me_X} {B : me_B} {sz : Nat} (C : me_C X B RX12 cX12_piecesAt 9 (some .int)) {μ : me_M} {K6 : Int32 → Int32 → Int32 → Int32 → Int32 → Option Int32} {K15 : Int32 → Int32 → Int32 → Int32 → Int32 → Int32 → Option Int32} {r : Int32} (N : me_En X B sz (B, μ, .ok (some (me_i r))) 0 0 0 0) (hNx : me_Nx X) (hB : me_St B) (hK6 : ∀ (v1 : Int32) (v2 : Int32) (v3 : Int32) (v4 : Int32) (v5 : Int32), K6 v1 v2 v3 v4 v5 = some r → me_Z X B 0 0 μ 6 [(0, me_r 36 0), (1, me_i v1), (2, me_i v2), (3, me_i v3), (4, me_i v4), (5, me_i v5)] []) (hK15 : ∀ (v1 : Int32) (v2 : Int32) (v3 : Int32) (v4 : Int32) (v5 : Int32) (v6 : Int32), K15 v1 v2 v3 v4 v5 v6 = some r → me_Z X B 0 0 μ 15 [(0, me_r 36 0), (1, me_i v1), (2, me_i v2), (3, me_i v3), (4, me_i v4), (5, me_i v5), (6, me_i v6)] []) : ∀ (n : Nat) (v1 : Int32) (v2 : Int32) (v3 : Int32) (v4 : Int32) (v5 : Int32) (v6 : Int32) (v7 : Int32), f_M_piecesAt_h24 μ K6 K15 n v1 v2 v3 v4 v5 v6 v7 = some r → me_Z X B 0 0 μ 24 [(0, me_r 36 0), (1, me_i v1), (2, me_i v2), (3, me_i v3), (4, me_i v4), (5, me_i v5), (6, me_i v6), (7, me_i v7)] [] := by
  intro n
  induction n with
  | zero => intro v1 v2 v3 v4 v5 v6 v7  h; exact absurd (show (none : Option Int32) = some r from h) (fun q => by cases q)
  | succ n ih => intro v1 v2 v3 v4 v5 v6 v7  h; exact z_M_piecesAt_b24 C N hNx hB hK6 hK15 (K24 := f_M_piecesAt_h24 μ K6 K15 n) ih  h
def f_M_piecesAt_b15 (μ : me_M) (K6 : Int32 → Int32 → Int32 → Int32 → Int32 → Option Int32) (K15 : Int32 → Int32 → Int32 → Int32 → Int32 → Int32 → Option Int32) (v1 : Int32) (v2 : Int32) (v3 : Int32) (v4 : Int32) (v5 : Int32) (v6 : Int32) : Option Int32 :=
  if (5 : Int32) ≤ v6 then
  (me_lt (me_inc v5 (1)) (fun x2 =>
  K6 v1 v2 v3 v4 x2))
  else
  (f_M_piecesAt_h24 μ K6 K15 me_FU v1 v2 v3 v4 v5 v6 (0 : Int32))
set_option maxHeartbeats 4000000 in
set_option maxRecDepth 100000 in
theorem z_M_piecesAt_b15 {X : me_X} {B : me_B} {sz : Nat} (C : me_C X B RX12 cX12_piecesAt 9 (some .int)) {μ : me_M} {v1 : Int32} {v2 : Int32} {v3 : Int32} {v4 : Int32} {v5 : Int32} {v6 : Int32}  {K6 : Int32 → Int32 → Int32 → Int32 → Int32 → Option Int32} {K15 : Int32 → Int32 → Int32 → Int32 → Int32 → Int32 → Option Int32} {r : Int32} (N : me_En X B sz (B, μ, .ok (some (me_i r))) 0 0 0 0) (hNx : me_Nx X) (hB : me_St B) (hK6 : ∀ (v1 : Int32) (v2 : Int32) (v3 : Int32) (v4 : Int32) (v5 : Int32), K6 v1 v2 v3 v4 v5 = some r → me_Z X B 0 0 μ 6 [(0, me_r 36 0), (1, me_i v1), (2, me_i v2), (3, me_i v3), (4, me_i v4), (5, me_i v5)] []) (hK15 : ∀ (v1 : Int32) (v2 : Int32) (v3 : Int32) (v4 : Int32) (v5 : Int32) (v6 : Int32), K15 v1 v2 v3 v4 v5 v6 = some r → me_Z X B 0 0 μ 15 [(0, me_r 36 0), (1, me_i v1), (2, me_i v2), (3, me_i v3), (4, me_i v4), (5, me_i v5), (6, me_i v6)] [])  (hf : f_M_piecesAt_b15 μ K6 K15 v1 v2 v3 v4 v5 v6 = some r) : me_Z X B 0 0 μ 15 [(0, me_r 36 0), (1, me_i v1), (2, me_i v2), (3, me_i v3), (4, me_i v4), (5, me_i v5), (6, me_i v6)] [] := by
  unfold f_M_piecesAt_b15 at hf
  refine me_iload C dX12_piecesAt_15 rfl ?_
  refine me_iconst C (v := 5) dX12_piecesAt_17 (by decide) ?_
  refine me_icmp_ge C (tgt := 101) dX12_piecesAt_18 (by decide) (fun c1 => ?_) (fun c1 => ?_)
  · replace hf := me_ip c1 hf
    obtain ⟨x2, e_x2, hf⟩ := me_lts hf
    refine me_iinc C (v := x2) (L' := [(5, me_i x2), (0, me_r 36 0), (1, me_i v1), (2, me_i v2), (3, me_i v3), (4, me_i v4), (6, me_i v6)]) dX12_piecesAt_101 rfl e_x2.symm (by decide) rfl ?_
    refine me_goto C (tgt := 6) dX12_piecesAt_104 (by decide) ?_
    refine me_dropI [(0, me_r 36 0), (1, me_i v1), (2, me_i v2), (3, me_i v3), (4, me_i v4), (5, me_i x2)] [1, 2, 3, 4, 5, 0] rfl ?_
    exact hK6 v1 v2 v3 v4 x2 hf
  · replace hf := me_in c1 hf
    refine me_iconst C (v := 0) dX12_piecesAt_21 (by decide) ?_
    refine me_istore C dX12_piecesAt_22 (by decide) (L' := [(7, me_i (0 : Int32)), (0, me_r 36 0), (1, me_i v1), (2, me_i v2), (3, me_i v3), (4, me_i v4), (5, me_i v5), (6, me_i v6)]) rfl ?_
    refine me_dropI [(0, me_r 36 0), (1, me_i v1), (2, me_i v2), (3, me_i v3), (4, me_i v4), (5, me_i v5), (6, me_i v6), (7, me_i (0 : Int32))] [1, 2, 3, 4, 5, 6, 7, 0] rfl ?_
    exact z_M_piecesAt_h24 C N hNx hB hK6 hK15 me_FU v1 v2 v3 v4 v5 v6 (0 : Int32) hf
def f_M_piecesAt_h15 (μ : me_M) (K6 : Int32 → Int32 → Int32 → Int32 → Int32 → Option Int32) : Nat → Int32 → Int32 → Int32 → Int32 → Int32 → Int32 → Option Int32
  | 0, _, _, _, _, _, _ => none
  | n + 1, v1, v2, v3, v4, v5, v6 => f_M_piecesAt_b15 μ K6 (f_M_piecesAt_h15 μ K6 n) v1 v2 v3 v4 v5 v6
set_option maxHeartbeats 4000000 in
set_option maxRecDepth 100000 in
theorem z_M_piecesAt_h15 {X : me_X} {B : me_B} {sz : Nat} (C : me_C X B RX12 cX12_piecesAt 9 (some .int)) {μ : me_M} {K6 : Int32 → Int32 → Int32 → Int32 → Int32 → Option Int32} {r : Int32} (N : me_En X B sz (B, μ, .ok (some (me_i r))) 0 0 0 0) (hNx : me_Nx X) (hB : me_St B) (hK6 : ∀ (v1 : Int32) (v2 : Int32) (v3 : Int32) (v4 : Int32) (v5 : Int32), K6 v1 v2 v3 v4 v5 = some r → me_Z X B 0 0 μ 6 [(0, me_r 36 0), (1, me_i v1), (2, me_i v2), (3, me_i v3), (4, me_i v4), (5, me_i v5)] []) : ∀ (n : Nat) (v1 : Int32) (v2 : Int32) (v3 : Int32) (v4 : Int32) (v5 : Int32) (v6 : Int32), f_M_piecesAt_h15 μ K6 n v1 v2 v3 v4 v5 v6 = some r → me_Z X B 0 0 μ 15 [(0, me_r 36 0), (1, me_i v1), (2, me_i v2), (3, me_i v3), (4, me_i v4), (5, me_i v5), (6, me_i v6)] [] := by
  intro n
  induction n with
  | zero => intro v1 v2 v3 v4 v5 v6  h; exact absurd (show (none : Option Int32) = some r from h) (fun q => by cases q)
  | succ n ih => intro v1 v2 v3 v4 v5 v6  h; exact z_M_piecesAt_b15 C N hNx hB hK6 (K15 := f_M_piecesAt_h15 μ K6 n) ih  h
def f_M_piecesAt_b6 (μ : me_M) (K6 : Int32 → Int32 → Int32 → Int32 → Int32 → Option Int32) (v1 : Int32) (v2 : Int32) (v3 : Int32) (v4 : Int32) (v5 : Int32) : Option Int32 :=
  if (2 : Int32) ≤ v5 then
  (some v4)
  else
  (f_M_piecesAt_h15 μ K6 me_FU v1 v2 v3 v4 v5 (0 : Int32))
set_option maxHeartbeats 4000000 in
set_option maxRecDepth 100000 in
theorem z_M_piecesAt_b6 {X : me_X} {B : me_B} {sz : Nat} (C : me_C X B RX12 cX12_piecesAt 9 (some .int)) {μ : me_M} {v1 : Int32} {v2 : Int32} {v3 : Int32} {v4 : Int32} {v5 : Int32}  {K6 : Int32 → Int32 → Int32 → Int32 → Int32 → Option Int32} {r : Int32} (N : me_En X B sz (B, μ, .ok (some (me_i r))) 0 0 0 0) (hNx : me_Nx X) (hB : me_St B) (hK6 : ∀ (v1 : Int32) (v2 : Int32) (v3 : Int32) (v4 : Int32) (v5 : Int32), K6 v1 v2 v3 v4 v5 = some r → me_Z X B 0 0 μ 6 [(0, me_r 36 0), (1, me_i v1), (2, me_i v2), (3, me_i v3), (4, me_i v4), (5, me_i v5)] [])  (hf : f_M_piecesAt_b6 μ K6 v1 v2 v3 v4 v5 = some r) : me_Z X B 0 0 μ 6 [(0, me_r 36 0), (1, me_i v1), (2, me_i v2), (3, me_i v3), (4, me_i v4), (5, me_i v5)] [] := by
  unfold f_M_piecesAt_b6 at hf
  refine me_iload C dX12_piecesAt_6 rfl ?_
  refine me_iconst C (v := 2) dX12_piecesAt_8 (by decide) ?_
  refine me_icmp_ge C (tgt := 107) dX12_piecesAt_9 (by decide) (fun c1 => ?_) (fun c1 => ?_)
  · replace hf := me_ip c1 hf
    refine me_iload C dX12_piecesAt_107 rfl ?_
    exact me_iret C N dX12_piecesAt_109 (me_nri _) (by cases hf; rfl) (by decide) (by decide)
  · replace hf := me_in c1 hf
    refine me_iconst C (v := 0) dX12_piecesAt_12 (by decide) ?_
    refine me_istore C dX12_piecesAt_13 (by decide) (L' := [(6, me_i (0 : Int32)), (0, me_r 36 0), (1, me_i v1), (2, me_i v2), (3, me_i v3), (4, me_i v4), (5, me_i v5)]) rfl ?_
    refine me_dropI [(0, me_r 36 0), (1, me_i v1), (2, me_i v2), (3, me_i v3), (4, me_i v4), (5, me_i v5), (6, me_i (0 : Int32))] [1, 2, 3, 4, 5, 6, 0] rfl ?_
    exact z_M_piecesAt_h15 C N hNx hB hK6 me_FU v1 v2 v3 v4 v5 (0 : Int32) hf
def f_M_piecesAt_h6 (μ : me_M) : Nat → Int32 → Int32 → Int32 → Int32 → Int32 → Option Int32
  | 0, _, _, _, _, _ => none
  | n + 1, v1, v2, v3, v4, v5 => f_M_piecesAt_b6 μ (f_M_piecesAt_h6 μ n) v1 v2 v3 v4 v5
set_option maxHeartbeats 4000000 in
set_option maxRecDepth 100000 in
theorem z_M_piecesAt_h6 {X : me_X} {B : me_B} {sz : Nat} (C : me_C X B RX12 cX12_piecesAt 9 (some .int)) {μ : me_M}  {r : Int32} (N : me_En X B sz (B, μ, .ok (some (me_i r))) 0 0 0 0) (hNx : me_Nx X) (hB : me_St B)  : ∀ (n : Nat) (v1 : Int32) (v2 : Int32) (v3 : Int32) (v4 : Int32) (v5 : Int32), f_M_piecesAt_h6 μ n v1 v2 v3 v4 v5 = some r → me_Z X B 0 0 μ 6 [(0, me_r 36 0), (1, me_i v1), (2, me_i v2), (3, me_i v3), (4, me_i v4), (5, me_i v5)] [] := by
  intro n
  induction n with
  | zero => intro v1 v2 v3 v4 v5  h; exact absurd (show (none : Option Int32) = some r from h) (fun q => by cases q)
  | succ n ih => intro v1 v2 v3 v4 v5  h; exact z_M_piecesAt_b6 C N hNx hB  (K6 := f_M_piecesAt_h6 μ n) ih  h
def f_M_piecesAt (μ : me_M) (v1 : Int32) (v2 : Int32) (v3 : Int32) : Option Int32 :=
  f_M_piecesAt_h6 μ me_FU v1 v2 v3 (0 : Int32) (0 : Int32)
set_option maxHeartbeats 4000000 in
set_option maxRecDepth 100000 in
theorem z_M_piecesAt {X : me_X} {B : me_B} {sz : Nat} (C : me_C X B RX12 cX12_piecesAt 9 (some .int)) {μ : me_M} {v1 : Int32} {v2 : Int32} {v3 : Int32}   {r : Int32} (N : me_En X B sz (B, μ, .ok (some (me_i r))) 0 0 0 0) (hNx : me_Nx X) (hB : me_St B)   (hf : f_M_piecesAt μ v1 v2 v3 = some r) : me_Z X B 0 0 μ 0 [(0, me_r 36 0), (1, me_i v1), (2, me_i v2), (3, me_i v3)] [] := by
  unfold f_M_piecesAt at hf
  refine me_iconst C (v := 0) dX12_piecesAt_0 (by decide) ?_
  refine me_istore C dX12_piecesAt_1 (by decide) (L' := [(4, me_i (0 : Int32)), (0, me_r 36 0), (1, me_i v1), (2, me_i v2), (3, me_i v3)]) rfl ?_
  refine me_iconst C (v := 0) dX12_piecesAt_3 (by decide) ?_
  refine me_istore C dX12_piecesAt_4 (by decide) (L' := [(5, me_i (0 : Int32)), (4, me_i (0 : Int32)), (0, me_r 36 0), (1, me_i v1), (2, me_i v2), (3, me_i v3)]) rfl ?_
  refine me_dropI [(0, me_r 36 0), (1, me_i v1), (2, me_i v2), (3, me_i v3), (4, me_i (0 : Int32)), (5, me_i (0 : Int32))] [2, 3, 4, 5, 1, 0] rfl ?_
  exact z_M_piecesAt_h6 C N hNx hB me_FU v1 v2 v3 (0 : Int32) (0 : Int32) hf
theorem c_M_piecesAt {B : me_B} (hB : me_St B) {μ : me_M} {v1 : Int32} {v2 : Int32} {v3 : Int32} {r : Int32}  (hf : f_M_piecesAt μ v1 v2 v3 = some r) : ∀ l E z, l.stackTraces = false → me_Met l yX12_piecesAt cX12_piecesAt 9 (some .int) 0 0 0 0 E B μ z [me_r 36 0, me_i v1, me_i v2, me_i v3] (B, μ, .ok (some (me_i r))) :=
  fun _ _ _ hl => me_ofZ hl (by decide +kernel) (Nat.le_of_ble_eq_true rfl) (fun _ C N hNx => z_M_piecesAt C N hNx hB  hf)

def f_M_head_b55 (μ : me_M) (v2 : Int32) (s0 : Int32) : Option (me_M × Int32) :=
  me_b2 (f_M_isThrown μ s0 (2 : Int32)) (fun μ2 r1 =>
  if r1 = 0 then
  (some (μ2, v2))
  else
  (some (μ2, (0 : Int32))))
set_option maxHeartbeats 4000000 in
set_option maxRecDepth 100000 in
theorem z_M_head_b55 {X : me_X} {B : me_B} {sz : Nat} (C : me_C X B RX12 cX12_head 4 (some .int)) {μ : me_M} {v2 : Int32} {s0 : Int32}   {r : me_M × Int32} (N : me_En X B sz (B, r.1, .ok (some (me_i r.2))) 2 43 0 0) (hNx : me_Nx X) (hB : me_St B)   (hf : f_M_head_b55 μ v2 s0 = some r) : me_Z X B 0 0 μ 55 [(2, me_i v2)] [me_i s0, me_r 36 0] := by
  unfold f_M_head_b55 at hf
  refine me_iconst C (v := 2) dX12_head_55 (by decide) ?_
  obtain ⟨μ2, r1, h_r1, hf⟩ := me_bs2 hf
  refine me_callV C N  (As := [me_i s0, me_i (2 : Int32)]) (st := []) 0 0 (c_M_isThrown hB h_r1) mv_M_isThrown ml_M_155 rfl rfl dX12_head_56 rfl rfl ⟨by decide, by decide⟩ ⟨by decide, by decide, by decide, by decide⟩ (Nat.le_of_ble_eq_true rfl) ?_
  refine me_if_eq C (tgt := 66) dX12_head_59 (by decide) (fun c3 => ?_) (fun c3 => ?_)
  · replace hf := me_ip c3 hf
    refine me_iload_n C 2 dX12_head_66 rfl rfl ?_
    exact me_iret C N dX12_head_67 (me_nri _) (by cases hf; rfl) (by decide) (by decide)
  · replace hf := me_in c3 hf
    refine me_iconst C (v := 0) dX12_head_62 (by decide) ?_
    refine me_goto C (tgt := 67) dX12_head_63 (by decide) ?_
    exact me_iret C N dX12_head_67 (me_nri _) (by cases hf; rfl) (by decide) (by decide)
def f_M_head_b14 (K14 : me_M → Int32 → Int32 → Int32 → Option (me_M × Int32)) (μ : me_M) (v1 : Int32) (v2 : Int32) (v3 : Int32) : Option (me_M × Int32) :=
  me_bd (f_M_nodes μ) (fun r1 =>
  if r1 ≤ v3 then
  (if v2 = (-1 : Int32) then
  (f_M_head_b55 μ v2 (1 : Int32))
  else
  (f_M_head_b55 μ v2 (0 : Int32)))
  else
  (me_bd (f_M_piecesAt μ v3 v1 (1 : Int32)) (fun r4 =>
  if r4 ≤ 0 then
  (me_lt (me_inc v3 (1)) (fun x6 =>
  K14 μ v1 v2 x6))
  else
  (me_lt (me_inc v3 (1)) (fun x7 =>
  K14 μ v1 v3 x7)))))
set_option maxHeartbeats 4000000 in
set_option maxRecDepth 100000 in
theorem z_M_head_b14 {X : me_X} {B : me_B} {sz : Nat} (C : me_C X B RX12 cX12_head 4 (some .int)) {μ : me_M} {v1 : Int32} {v2 : Int32} {v3 : Int32}  {K14 : me_M → Int32 → Int32 → Int32 → Option (me_M × Int32)} {r : me_M × Int32} (N : me_En X B sz (B, r.1, .ok (some (me_i r.2))) 2 43 0 0) (hNx : me_Nx X) (hB : me_St B) (hK14 : ∀ (μ : me_M) (v1 : Int32) (v2 : Int32) (v3 : Int32), K14 μ v1 v2 v3 = some r → me_Z X B 0 0 μ 14 [(0, me_r 36 0), (1, me_i v1), (2, me_i v2), (3, me_i v3)] [])  (hf : f_M_head_b14 K14 μ v1 v2 v3 = some r) : me_Z X B 0 0 μ 14 [(0, me_r 36 0), (1, me_i v1), (2, me_i v2), (3, me_i v3)] [] := by
  unfold f_M_head_b14 at hf
  refine me_iload_n C 3 dX12_head_14 rfl rfl ?_
  refine me_aload_n C 0 (Or.inr (Or.inl ⟨_, rfl⟩)) dX12_head_15 rfl rfl ?_
  obtain ⟨r1, h_r1, hf⟩ := me_bs hf
  refine me_callV C N  (As := []) (st := [me_i v3]) 0 0 (c_M_nodes hB h_r1) mv_M_nodes ml_M_144 rfl rfl dX12_head_16 rfl rfl ⟨by decide, by decide⟩ ⟨by decide, by decide, by decide, by decide⟩ (Nat.le_of_ble_eq_true rfl) ?_
  refine me_icmp_ge C (tgt := 44) dX12_head_19 (by decide) (fun c2 => ?_) (fun c2 => ?_)
  · replace hf := me_ip c2 hf
    refine me_aload_n C 0 (Or.inr (Or.inl ⟨_, rfl⟩)) dX12_head_44 rfl rfl ?_
    refine me_iload_n C 2 dX12_head_45 rfl rfl ?_
    refine me_iconst C (v := -1) dX12_head_46 (by decide) ?_
    refine me_icmp_ne C (tgt := 54) dX12_head_47 (by decide) (fun c3 => ?_) (fun c3 => ?_)
    · replace hf := me_in c3 hf
      refine me_iconst C (v := 0) dX12_head_54 (by decide) ?_
      refine me_dropI [(2, me_i v2)] [2] rfl ?_
      exact z_M_head_b55 C N hNx hB hf
    · replace hf := me_ip c3 hf
      refine me_iconst C (v := 1) dX12_head_50 (by decide) ?_
      refine me_goto C (tgt := 55) dX12_head_51 (by decide) ?_
      refine me_dropI [(2, me_i v2)] [2] rfl ?_
      exact z_M_head_b55 C N hNx hB hf
  · replace hf := me_in c2 hf
    refine me_aload_n C 0 (Or.inr (Or.inl ⟨_, rfl⟩)) dX12_head_22 rfl rfl ?_
    refine me_iload_n C 3 dX12_head_23 rfl rfl ?_
    refine me_iload_n C 1 dX12_head_24 rfl rfl ?_
    refine me_iconst C (v := 1) dX12_head_25 (by decide) ?_
    obtain ⟨r4, h_r4, hf⟩ := me_bs hf
    refine me_callV C N  (As := [me_i v3, me_i v1, me_i (1 : Int32)]) (st := []) 0 0 (c_M_piecesAt hB h_r4) mv_M_piecesAt ml_M_185 rfl rfl dX12_head_26 rfl rfl ⟨by decide, by decide⟩ ⟨by decide, by decide, by decide, by decide⟩ (Nat.le_of_ble_eq_true rfl) ?_
    refine me_if_le C (tgt := 36) dX12_head_29 (by decide) (fun c5 => ?_) (fun c5 => ?_)
    · replace hf := me_ip c5 hf
      refine me_iload_n C 2 dX12_head_36 rfl rfl ?_
      refine me_istore_n C 2 dX12_head_37 rfl (by decide) (L' := [(2, me_i v2), (0, me_r 36 0), (1, me_i v1), (3, me_i v3)]) rfl ?_
      obtain ⟨x6, e_x6, hf⟩ := me_lts hf
      refine me_iinc C (v := x6) (L' := [(3, me_i x6), (2, me_i v2), (0, me_r 36 0), (1, me_i v1)]) dX12_head_38 rfl e_x6.symm (by decide) rfl ?_
      refine me_goto C (tgt := 14) dX12_head_41 (by decide) ?_
      refine me_dropI [(0, me_r 36 0), (1, me_i v1), (2, me_i v2), (3, me_i x6)] [2, 3, 1, 0] rfl ?_
      exact hK14 μ v1 v2 x6 hf
    · replace hf := me_in c5 hf
      refine me_iload_n C 3 dX12_head_32 rfl rfl ?_
      refine me_goto C (tgt := 37) dX12_head_33 (by decide) ?_
      refine me_istore_n C 2 dX12_head_37 rfl (by decide) (L' := [(2, me_i v3), (0, me_r 36 0), (1, me_i v1), (3, me_i v3)]) rfl ?_
      obtain ⟨x7, e_x7, hf⟩ := me_lts hf
      refine me_iinc C (v := x7) (L' := [(3, me_i x7), (2, me_i v3), (0, me_r 36 0), (1, me_i v1)]) dX12_head_38 rfl e_x7.symm (by decide) rfl ?_
      refine me_goto C (tgt := 14) dX12_head_41 (by decide) ?_
      refine me_dropI [(0, me_r 36 0), (1, me_i v1), (2, me_i v3), (3, me_i x7)] [2, 3, 1, 0] rfl ?_
      exact hK14 μ v1 v3 x7 hf
def f_M_head_h14  : Nat → me_M → Int32 → Int32 → Int32 → Option (me_M × Int32)
  | 0, _, _, _, _ => none
  | n + 1, μ, v1, v2, v3 => f_M_head_b14 (f_M_head_h14 n) μ v1 v2 v3
set_option maxHeartbeats 4000000 in
set_option maxRecDepth 100000 in
theorem z_M_head_h14 {X : me_X} {B : me_B} {sz : Nat} (C : me_C X B RX12 cX12_head 4 (some .int))  {r : me_M × Int32} (N : me_En X B sz (B, r.1, .ok (some (me_i r.2))) 2 43 0 0) (hNx : me_Nx X) (hB : me_St B)  : ∀ (n : Nat) (μ : me_M) (v1 : Int32) (v2 : Int32) (v3 : Int32), f_M_head_h14 n μ v1 v2 v3 = some r → me_Z X B 0 0 μ 14 [(0, me_r 36 0), (1, me_i v1), (2, me_i v2), (3, me_i v3)] [] := by
  intro n
  induction n with
  | zero => intro μ v1 v2 v3  h; exact absurd (show (none : Option (me_M × Int32)) = some r from h) (fun q => by cases q)
  | succ n ih => intro μ v1 v2 v3  h; exact z_M_head_b14 C N hNx hB  (K14 := f_M_head_h14 n) ih  h
def f_M_head (μ : me_M) (v1 : Int32) : Option (me_M × Int32) :=
  me_b2 (f_M_isNoPacket μ v1) (fun μ2 r1 =>
  if r1 = 0 then
  (f_M_head_h14 me_FU μ2 v1 (-1 : Int32) (0 : Int32))
  else
  (some (μ2, (0 : Int32))))
set_option maxHeartbeats 4000000 in
set_option maxRecDepth 100000 in
theorem z_M_head {X : me_X} {B : me_B} {sz : Nat} (C : me_C X B RX12 cX12_head 4 (some .int)) {μ : me_M} {v1 : Int32}   {r : me_M × Int32} (N : me_En X B sz (B, r.1, .ok (some (me_i r.2))) 2 43 0 0) (hNx : me_Nx X) (hB : me_St B)   (hf : f_M_head μ v1 = some r) : me_Z X B 0 0 μ 0 [(0, me_r 36 0), (1, me_i v1)] [] := by
  unfold f_M_head at hf
  refine me_aload_n C 0 (Or.inr (Or.inl ⟨_, rfl⟩)) dX12_head_0 rfl rfl ?_
  refine me_iload_n C 1 dX12_head_1 rfl rfl ?_
  obtain ⟨μ2, r1, h_r1, hf⟩ := me_bs2 hf
  refine me_callV C N  (As := [me_i v1]) (st := []) 0 0 (c_M_isNoPacket hB h_r1) mv_M_isNoPacket ml_M_182 rfl rfl dX12_head_2 rfl rfl ⟨by decide, by decide⟩ ⟨by decide, by decide, by decide, by decide⟩ (Nat.le_of_ble_eq_true rfl) ?_
  refine me_if_eq C (tgt := 10) dX12_head_5 (by decide) (fun c3 => ?_) (fun c3 => ?_)
  · replace hf := me_ip c3 hf
    refine me_iconst C (v := -1) dX12_head_10 (by decide) ?_
    refine me_istore_n C 2 dX12_head_11 rfl (by decide) (L' := [(2, me_i (-1 : Int32)), (0, me_r 36 0), (1, me_i v1)]) rfl ?_
    refine me_iconst C (v := 0) dX12_head_12 (by decide) ?_
    refine me_istore_n C 3 dX12_head_13 rfl (by decide) (L' := [(3, me_i (0 : Int32)), (2, me_i (-1 : Int32)), (0, me_r 36 0), (1, me_i v1)]) rfl ?_
    refine me_dropI [(0, me_r 36 0), (1, me_i v1), (2, me_i (-1 : Int32)), (3, me_i (0 : Int32))] [2, 3, 1, 0] rfl ?_
    exact z_M_head_h14 C N hNx hB me_FU μ2 v1 (-1 : Int32) (0 : Int32) hf
  · replace hf := me_in c3 hf
    refine me_iconst C (v := 0) dX12_head_8 (by decide) ?_
    exact me_iret C N dX12_head_9 (me_nri _) (by cases hf; rfl) (by decide) (by decide)
theorem c_M_head {B : me_B} (hB : me_St B) {μ : me_M} {v1 : Int32} {μ' : me_M} {r : Int32}  (hf : f_M_head μ v1 = some (μ', r)) : ∀ l E z, l.stackTraces = false → me_Met l yX12_head cX12_head 4 (some .int) 2 43 0 0 E B μ z [me_r 36 0, me_i v1] (B, μ', .ok (some (me_i r))) :=
  fun _ _ _ hl => me_ofZ hl (by decide +kernel) (Nat.le_of_ble_eq_true rfl) (fun _ C N hNx => z_M_head C N hNx hB  hf)

def f_M_pieces_b14 (K14 : me_M → Int32 → Int32 → Int32 → Option (me_M × Int32)) (μ : me_M) (v1 : Int32) (v2 : Int32) (v3 : Int32) : Option (me_M × Int32) :=
  me_bd (f_M_nodes μ) (fun r1 =>
  if r1 ≤ v3 then
  (some (μ, v2))
  else
  (me_bd (f_M_piecesAt μ v3 v1 (0 : Int32)) (fun r3 =>
  me_lt ((v2 + r3)) (fun x4 =>
  me_lt (me_inc v3 (1)) (fun x5 =>
  K14 μ v1 x4 x5)))))
set_option maxHeartbeats 4000000 in
set_option maxRecDepth 100000 in
theorem z_M_pieces_b14 {X : me_X} {B : me_B} {sz : Nat} (C : me_C X B RX12 cX12_pieces 4 (some .int)) {μ : me_M} {v1 : Int32} {v2 : Int32} {v3 : Int32}  {K14 : me_M → Int32 → Int32 → Int32 → Option (me_M × Int32)} {r : me_M × Int32} (N : me_En X B sz (B, r.1, .ok (some (me_i r.2))) 2 43 0 0) (hNx : me_Nx X) (hB : me_St B) (hK14 : ∀ (μ : me_M) (v1 : Int32) (v2 : Int32) (v3 : Int32), K14 μ v1 v2 v3 = some r → me_Z X B 0 0 μ 14 [(0, me_r 36 0), (1, me_i v1), (2, me_i v2), (3, me_i v3)] [])  (hf : f_M_pieces_b14 K14 μ v1 v2 v3 = some r) : me_Z X B 0 0 μ 14 [(0, me_r 36 0), (1, me_i v1), (2, me_i v2), (3, me_i v3)] [] := by
  unfold f_M_pieces_b14 at hf
  refine me_iload_n C 3 dX12_pieces_14 rfl rfl ?_
  refine me_aload_n C 0 (Or.inr (Or.inl ⟨_, rfl⟩)) dX12_pieces_15 rfl rfl ?_
  obtain ⟨r1, h_r1, hf⟩ := me_bs hf
  refine me_callV C N  (As := []) (st := [me_i v3]) 0 0 (c_M_nodes hB h_r1) mv_M_nodes ml_M_144 rfl rfl dX12_pieces_16 rfl rfl ⟨by decide, by decide⟩ ⟨by decide, by decide, by decide, by decide⟩ (Nat.le_of_ble_eq_true rfl) ?_
  refine me_icmp_ge C (tgt := 38) dX12_pieces_19 (by decide) (fun c2 => ?_) (fun c2 => ?_)
  · replace hf := me_ip c2 hf
    refine me_iload_n C 2 dX12_pieces_38 rfl rfl ?_
    exact me_iret C N dX12_pieces_39 (me_nri _) (by cases hf; rfl) (by decide) (by decide)
  · replace hf := me_in c2 hf
    refine me_iload_n C 2 dX12_pieces_22 rfl rfl ?_
    refine me_aload_n C 0 (Or.inr (Or.inl ⟨_, rfl⟩)) dX12_pieces_23 rfl rfl ?_
    refine me_iload_n C 3 dX12_pieces_24 rfl rfl ?_
    refine me_iload_n C 1 dX12_pieces_25 rfl rfl ?_
    refine me_iconst C (v := 0) dX12_pieces_26 (by decide) ?_
    obtain ⟨r3, h_r3, hf⟩ := me_bs hf
    refine me_callV C N  (As := [me_i v3, me_i v1, me_i (0 : Int32)]) (st := [me_i v2]) 0 0 (c_M_piecesAt hB h_r3) mv_M_piecesAt ml_M_185 rfl rfl dX12_pieces_27 rfl rfl ⟨by decide, by decide⟩ ⟨by decide, by decide, by decide, by decide⟩ (Nat.le_of_ble_eq_true rfl) ?_
    refine me_iadd C dX12_pieces_30 ?_
    obtain ⟨x4, e_x4, hf⟩ := me_lts hf
    refine me_nm e_x4 ?_
    refine me_istore_n C 2 dX12_pieces_31 rfl (by decide) (L' := [(2, me_i x4), (0, me_r 36 0), (1, me_i v1), (3, me_i v3)]) rfl ?_
    obtain ⟨x5, e_x5, hf⟩ := me_lts hf
    refine me_iinc C (v := x5) (L' := [(3, me_i x5), (2, me_i x4), (0, me_r 36 0), (1, me_i v1)]) dX12_pieces_32 rfl e_x5.symm (by decide) rfl ?_
    refine me_goto C (tgt := 14) dX12_pieces_35 (by decide) ?_
    refine me_dropI [(0, me_r 36 0), (1, me_i v1), (2, me_i x4), (3, me_i x5)] [2, 3, 1, 0] rfl ?_
    exact hK14 μ v1 x4 x5 hf
def f_M_pieces_h14  : Nat → me_M → Int32 → Int32 → Int32 → Option (me_M × Int32)
  | 0, _, _, _, _ => none
  | n + 1, μ, v1, v2, v3 => f_M_pieces_b14 (f_M_pieces_h14 n) μ v1 v2 v3
set_option maxHeartbeats 4000000 in
set_option maxRecDepth 100000 in
theorem z_M_pieces_h14 {X : me_X} {B : me_B} {sz : Nat} (C : me_C X B RX12 cX12_pieces 4 (some .int))  {r : me_M × Int32} (N : me_En X B sz (B, r.1, .ok (some (me_i r.2))) 2 43 0 0) (hNx : me_Nx X) (hB : me_St B)  : ∀ (n : Nat) (μ : me_M) (v1 : Int32) (v2 : Int32) (v3 : Int32), f_M_pieces_h14 n μ v1 v2 v3 = some r → me_Z X B 0 0 μ 14 [(0, me_r 36 0), (1, me_i v1), (2, me_i v2), (3, me_i v3)] [] := by
  intro n
  induction n with
  | zero => intro μ v1 v2 v3  h; exact absurd (show (none : Option (me_M × Int32)) = some r from h) (fun q => by cases q)
  | succ n ih => intro μ v1 v2 v3  h; exact z_M_pieces_b14 C N hNx hB  (K14 := f_M_pieces_h14 n) ih  h
def f_M_pieces (μ : me_M) (v1 : Int32) : Option (me_M × Int32) :=
  me_b2 (f_M_isNoPacket μ v1) (fun μ2 r1 =>
  if r1 = 0 then
  (f_M_pieces_h14 me_FU μ2 v1 (0 : Int32) (0 : Int32))
  else
  (some (μ2, (0 : Int32))))
set_option maxHeartbeats 4000000 in
set_option maxRecDepth 100000 in
theorem z_M_pieces {X : me_X} {B : me_B} {sz : Nat} (C : me_C X B RX12 cX12_pieces 4 (some .int)) {μ : me_M} {v1 : Int32}   {r : me_M × Int32} (N : me_En X B sz (B, r.1, .ok (some (me_i r.2))) 2 43 0 0) (hNx : me_Nx X) (hB : me_St B)   (hf : f_M_pieces μ v1 = some r) : me_Z X B 0 0 μ 0 [(0, me_r 36 0), (1, me_i v1)] [] := by
  unfold f_M_pieces at hf
  refine me_aload_n C 0 (Or.inr (Or.inl ⟨_, rfl⟩)) dX12_pieces_0 rfl rfl ?_
  refine me_iload_n C 1 dX12_pieces_1 rfl rfl ?_
  obtain ⟨μ2, r1, h_r1, hf⟩ := me_bs2 hf
  refine me_callV C N  (As := [me_i v1]) (st := []) 0 0 (c_M_isNoPacket hB h_r1) mv_M_isNoPacket ml_M_182 rfl rfl dX12_pieces_2 rfl rfl ⟨by decide, by decide⟩ ⟨by decide, by decide, by decide, by decide⟩ (Nat.le_of_ble_eq_true rfl) ?_
  refine me_if_eq C (tgt := 10) dX12_pieces_5 (by decide) (fun c3 => ?_) (fun c3 => ?_)
  · replace hf := me_ip c3 hf
    refine me_iconst C (v := 0) dX12_pieces_10 (by decide) ?_
    refine me_istore_n C 2 dX12_pieces_11 rfl (by decide) (L' := [(2, me_i (0 : Int32)), (0, me_r 36 0), (1, me_i v1)]) rfl ?_
    refine me_iconst C (v := 0) dX12_pieces_12 (by decide) ?_
    refine me_istore_n C 3 dX12_pieces_13 rfl (by decide) (L' := [(3, me_i (0 : Int32)), (2, me_i (0 : Int32)), (0, me_r 36 0), (1, me_i v1)]) rfl ?_
    refine me_dropI [(0, me_r 36 0), (1, me_i v1), (2, me_i (0 : Int32)), (3, me_i (0 : Int32))] [2, 3, 1, 0] rfl ?_
    exact z_M_pieces_h14 C N hNx hB me_FU μ2 v1 (0 : Int32) (0 : Int32) hf
  · replace hf := me_in c3 hf
    refine me_iconst C (v := 0) dX12_pieces_8 (by decide) ?_
    exact me_iret C N dX12_pieces_9 (me_nri _) (by cases hf; rfl) (by decide) (by decide)
theorem c_M_pieces {B : me_B} (hB : me_St B) {μ : me_M} {v1 : Int32} {μ' : me_M} {r : Int32}  (hf : f_M_pieces μ v1 = some (μ', r)) : ∀ l E z, l.stackTraces = false → me_Met l yX12_pieces cX12_pieces 4 (some .int) 2 43 0 0 E B μ z [me_r 36 0, me_i v1] (B, μ', .ok (some (me_i r))) :=
  fun _ _ _ hl => me_ofZ hl (by decide +kernel) (Nat.le_of_ble_eq_true rfl) (fun _ C N hNx => z_M_pieces C N hNx hB  hf)

def f_M_isDone_b22 (μ : me_M) : Option Int32 :=
  some (1 : Int32)
set_option maxHeartbeats 4000000 in
set_option maxRecDepth 100000 in
theorem z_M_isDone_b22 {X : me_X} {B : me_B} {sz : Nat} (C : me_C X B RX12 cX12_isDone 2 (some .boolean)) {μ : me_M}    {r : Int32} (N : me_En X B sz (B, μ, .ok (some (me_i r))) 0 0 0 0) (hNx : me_Nx X) (hB : me_St B)   (hf : f_M_isDone_b22 μ = some r) : me_Z X B 0 0 μ 22 [] [] := by
  unfold f_M_isDone_b22 at hf
  refine me_iconst C (v := 1) dX12_isDone_22 (by decide) ?_
  refine me_goto C (tgt := 27) dX12_isDone_23 (by decide) ?_
  exact me_iret C N dX12_isDone_27 (by decide +kernel) (by cases hf; rfl) (by decide) (by decide)
def f_M_isDone (μ : me_M) (v1 : Int32) : Option Int32 :=
  me_gd (me_inb v1 200) (
  if (μ 38 0 (me_ix v1)) = (100 : Int32) then
  (f_M_isDone_b22 μ)
  else
  (me_gd (me_inb v1 200) (
  if (μ 38 0 (me_ix v1)) = (114 : Int32) then
  (f_M_isDone_b22 μ)
  else
  (some (0 : Int32)))))
set_option maxHeartbeats 4000000 in
set_option maxRecDepth 100000 in
theorem z_M_isDone {X : me_X} {B : me_B} {sz : Nat} (C : me_C X B RX12 cX12_isDone 2 (some .boolean)) {μ : me_M} {v1 : Int32}   {r : Int32} (N : me_En X B sz (B, μ, .ok (some (me_i r))) 0 0 0 0) (hNx : me_Nx X) (hB : me_St B)   (hf : f_M_isDone μ v1 = some r) : me_Z X B 0 0 μ 0 [(0, me_r 36 0), (1, me_i v1)] [] := by
  unfold f_M_isDone at hf
  refine me_aload_n C 0 (Or.inr (Or.inl ⟨_, rfl⟩)) dX12_isDone_0 rfl rfl ?_
  refine me_getr C hB 7 (k' := 38) (i' := 0) fg_M_27 dX12_isDone_1 rfl rfl ?_
  refine me_iload_n C 1 dX12_isDone_4 rfl rfl ?_
  obtain ⟨g1, hf⟩ := me_gs hf
  refine me_cald C rfl (fun _ => rfl) g1 dX12_isDone_5 ?_
  refine me_bipush C (v := 100) dX12_isDone_6 (by decide) ?_
  refine me_icmp_eq C (tgt := 22) dX12_isDone_8 (by decide) (fun c2 => ?_) (fun c2 => ?_)
  · replace hf := me_ip c2 hf
    refine me_dropI [] [] rfl ?_
    exact z_M_isDone_b22 C N hNx hB hf
  · replace hf := me_in c2 hf
    refine me_aload_n C 0 (Or.inr (Or.inl ⟨_, rfl⟩)) dX12_isDone_11 rfl rfl ?_
    refine me_getr C hB 7 (k' := 38) (i' := 0) fg_M_27 dX12_isDone_12 rfl rfl ?_
    refine me_iload_n C 1 dX12_isDone_15 rfl rfl ?_
    obtain ⟨g3, hf⟩ := me_gs hf
    refine me_cald C rfl (fun _ => rfl) g3 dX12_isDone_16 ?_
    refine me_bipush C (v := 114) dX12_isDone_17 (by decide) ?_
    refine me_icmp_ne C (tgt := 26) dX12_isDone_19 (by decide) (fun c4 => ?_) (fun c4 => ?_)
    · replace hf := me_in c4 hf
      refine me_iconst C (v := 0) dX12_isDone_26 (by decide) ?_
      exact me_iret C N dX12_isDone_27 (by decide +kernel) (by cases hf; rfl) (by decide) (by decide)
    · replace hf := me_ip c4 hf
      refine me_dropI [] [] rfl ?_
      exact z_M_isDone_b22 C N hNx hB hf
theorem c_M_isDone {B : me_B} (hB : me_St B) {μ : me_M} {v1 : Int32} {r : Int32}  (hf : f_M_isDone μ v1 = some r) : ∀ l E z, l.stackTraces = false → me_Met l yX12_isDone cX12_isDone 2 (some .boolean) 0 0 0 0 E B μ z [me_r 36 0, me_i v1] (B, μ, .ok (some (me_i r))) :=
  fun _ _ _ hl => me_ofZ hl (by decide +kernel) (Nat.le_of_ble_eq_true rfl) (fun _ C N hNx => z_M_isDone C N hNx hB  hf)

def f_M_time_b29 (μ : me_M) : Option (me_M × Int32) :=
  some (μ, (0 : Int32))
set_option maxHeartbeats 4000000 in
set_option maxRecDepth 100000 in
theorem z_M_time_b29 {X : me_X} {B : me_B} {sz : Nat} (C : me_C X B RX12 cX12_time 2 (some .int)) {μ : me_M}    {r : me_M × Int32} (N : me_En X B sz (B, r.1, .ok (some (me_i r.2))) 2 43 0 0) (hNx : me_Nx X) (hB : me_St B)   (hf : f_M_time_b29 μ = some r) : me_Z X B 0 0 μ 29 [] [] := by
  unfold f_M_time_b29 at hf
  refine me_iconst C (v := 0) dX12_time_29 (by decide) ?_
  refine me_goto C (tgt := 46) dX12_time_30 (by decide) ?_
  exact me_iret C N dX12_time_46 (me_nri _) (by cases hf; rfl) (by decide) (by decide)
def f_M_time_b22 (μ : me_M) (v1 : Int32) (s0 : Int32) : Option (me_M × Int32) :=
  me_b2 (f_M_isThrown μ s0 (2 : Int32)) (fun μ2 r1 =>
  if r1 = 0 then
  (me_gd (me_inb v1 200) (
  me_gd (me_inb v1 200) (
  some (μ2, ((μ2 45 0 (me_ix v1)) - (μ2 44 0 (me_ix v1)))))))
  else
  (f_M_time_b29 μ2))
set_option maxHeartbeats 4000000 in
set_option maxRecDepth 100000 in
theorem z_M_time_b22 {X : me_X} {B : me_B} {sz : Nat} (C : me_C X B RX12 cX12_time 2 (some .int)) {μ : me_M} {v1 : Int32} {s0 : Int32}   {r : me_M × Int32} (N : me_En X B sz (B, r.1, .ok (some (me_i r.2))) 2 43 0 0) (hNx : me_Nx X) (hB : me_St B)   (hf : f_M_time_b22 μ v1 s0 = some r) : me_Z X B 0 0 μ 22 [(0, me_r 36 0), (1, me_i v1)] [me_i s0, me_r 36 0] := by
  unfold f_M_time_b22 at hf
  refine me_iconst C (v := 2) dX12_time_22 (by decide) ?_
  obtain ⟨μ2, r1, h_r1, hf⟩ := me_bs2 hf
  refine me_callV C N  (As := [me_i s0, me_i (2 : Int32)]) (st := []) 0 0 (c_M_isThrown hB h_r1) mv_M_isThrown ml_M_155 rfl rfl dX12_time_23 rfl rfl ⟨by decide, by decide⟩ ⟨by decide, by decide, by decide, by decide⟩ (Nat.le_of_ble_eq_true rfl) ?_
  refine me_if_eq C (tgt := 33) dX12_time_26 (by decide) (fun c3 => ?_) (fun c3 => ?_)
  · replace hf := me_ip c3 hf
    refine me_aload_n C 0 (Or.inr (Or.inl ⟨_, rfl⟩)) dX12_time_33 rfl rfl ?_
    refine me_getr C hB 14 (k' := 45) (i' := 0) fg_M_49 dX12_time_34 rfl rfl ?_
    refine me_iload_n C 1 dX12_time_37 rfl rfl ?_
    obtain ⟨g4, hf⟩ := me_gs hf
    refine me_iald C rfl (fun _ => rfl) g4 dX12_time_38 ?_
    refine me_aload_n C 0 (Or.inr (Or.inl ⟨_, rfl⟩)) dX12_time_39 rfl rfl ?_
    refine me_getr C hB 13 (k' := 44) (i' := 0) fg_M_46 dX12_time_40 rfl rfl ?_
    refine me_iload_n C 1 dX12_time_43 rfl rfl ?_
    obtain ⟨g5, hf⟩ := me_gs hf
    refine me_iald C rfl (fun _ => rfl) g5 dX12_time_44 ?_
    refine me_isub C dX12_time_45 ?_
    exact me_iret C N dX12_time_46 (me_nri _) (by cases hf; rfl) (by decide) (by decide)
  · replace hf := me_in c3 hf
    refine me_dropI [] [] rfl ?_
    exact z_M_time_b29 C N hNx hB hf
def f_M_time (μ : me_M) (v1 : Int32) : Option (me_M × Int32) :=
  me_b2 (f_M_isNoPacket μ v1) (fun μ2 r1 =>
  if r1 = 0 then
  (me_bd (f_M_isDone μ2 v1) (fun r4 =>
  if r4 = 0 then
  (f_M_time_b22 μ2 v1 (1 : Int32))
  else
  (f_M_time_b22 μ2 v1 (0 : Int32))))
  else
  (f_M_time_b29 μ2))
set_option maxHeartbeats 4000000 in
set_option maxRecDepth 100000 in
theorem z_M_time {X : me_X} {B : me_B} {sz : Nat} (C : me_C X B RX12 cX12_time 2 (some .int)) {μ : me_M} {v1 : Int32}   {r : me_M × Int32} (N : me_En X B sz (B, r.1, .ok (some (me_i r.2))) 2 43 0 0) (hNx : me_Nx X) (hB : me_St B)   (hf : f_M_time μ v1 = some r) : me_Z X B 0 0 μ 0 [(0, me_r 36 0), (1, me_i v1)] [] := by
  unfold f_M_time at hf
  refine me_aload_n C 0 (Or.inr (Or.inl ⟨_, rfl⟩)) dX12_time_0 rfl rfl ?_
  refine me_iload_n C 1 dX12_time_1 rfl rfl ?_
  obtain ⟨μ2, r1, h_r1, hf⟩ := me_bs2 hf
  refine me_callV C N  (As := [me_i v1]) (st := []) 0 0 (c_M_isNoPacket hB h_r1) mv_M_isNoPacket ml_M_182 rfl rfl dX12_time_2 rfl rfl ⟨by decide, by decide⟩ ⟨by decide, by decide, by decide, by decide⟩ (Nat.le_of_ble_eq_true rfl) ?_
  refine me_if_ne C (tgt := 29) dX12_time_5 (by decide) (fun c3 => ?_) (fun c3 => ?_)
  · replace hf := me_in c3 hf
    refine me_dropI [] [] rfl ?_
    exact z_M_time_b29 C N hNx hB hf
  · replace hf := me_ip c3 hf
    refine me_aload_n C 0 (Or.inr (Or.inl ⟨_, rfl⟩)) dX12_time_8 rfl rfl ?_
    refine me_aload_n C 0 (Or.inr (Or.inl ⟨_, rfl⟩)) dX12_time_9 rfl rfl ?_
    refine me_iload_n C 1 dX12_time_10 rfl rfl ?_
    obtain ⟨r4, h_r4, hf⟩ := me_bs hf
    refine me_callV C N  (As := [me_i v1]) (st := [me_r 36 0]) 0 0 (c_M_isDone hB h_r4) mv_M_isDone ml_M_189 rfl rfl dX12_time_11 rfl rfl ⟨by decide, by decide⟩ ⟨by decide, by decide, by decide, by decide⟩ (Nat.le_of_ble_eq_true rfl) ?_
    refine me_if_ne C (tgt := 21) dX12_time_14 (by decide) (fun c5 => ?_) (fun c5 => ?_)
    · replace hf := me_in c5 hf
      refine me_iconst C (v := 0) dX12_time_21 (by decide) ?_
      refine me_dropI [(0, me_r 36 0), (1, me_i v1)] [0, 1] rfl ?_
      exact z_M_time_b22 C N hNx hB hf
    · replace hf := me_ip c5 hf
      refine me_iconst C (v := 1) dX12_time_17 (by decide) ?_
      refine me_goto C (tgt := 22) dX12_time_18 (by decide) ?_
      refine me_dropI [(0, me_r 36 0), (1, me_i v1)] [0, 1] rfl ?_
      exact z_M_time_b22 C N hNx hB hf
theorem c_M_time {B : me_B} (hB : me_St B) {μ : me_M} {v1 : Int32} {μ' : me_M} {r : Int32}  (hf : f_M_time μ v1 = some (μ', r)) : ∀ l E z, l.stackTraces = false → me_Met l yX12_time cX12_time 2 (some .int) 2 43 0 0 E B μ z [me_r 36 0, me_i v1] (B, μ', .ok (some (me_i r))) :=
  fun _ _ _ hl => me_ofZ hl (by decide +kernel) (Nat.le_of_ble_eq_true rfl) (fun _ C N hNx => z_M_time C N hNx hB  hf)

def f_M_packets (μ : me_M) : Option (me_M × Int32) :=
  me_lt (me_up μ 36 0 42 (0 : Int32)) (fun μ1 =>
  some (μ1, (μ1 36 0 19)))
set_option maxHeartbeats 4000000 in
set_option maxRecDepth 100000 in
theorem z_M_packets {X : me_X} {B : me_B} {sz : Nat} (C : me_C X B RX12 cX12_packets 1 (some .int)) {μ : me_M}    {r : me_M × Int32} (N : me_En X B sz (B, r.1, .ok (some (me_i r.2))) 0 0 0 0) (hNx : me_Nx X) (hB : me_St B)   (hf : f_M_packets μ = some r) : me_Z X B 0 0 μ 0 [(0, me_r 36 0)] [] := by
  unfold f_M_packets at hf
  refine me_aload_n C 0 (Or.inr (Or.inl ⟨_, rfl⟩)) dX12_packets_0 rfl rfl ?_
  refine me_iconst C (v := 0) dX12_packets_1 (by decide) ?_
  obtain ⟨μ1, e_μ1, hf⟩ := me_lts hf
  refine me_puti C 42 fw_M_141 dX12_packets_2 rfl (me_nri _) e_μ1 ?_
  refine me_aload_n C 0 (Or.inr (Or.inl ⟨_, rfl⟩)) dX12_packets_5 rfl rfl ?_
  refine me_geti C 19 fg_M_152 dX12_packets_6 rfl ?_
  exact me_iret C N dX12_packets_9 (me_nri _) (by cases hf; rfl) (by decide) (by decide)
theorem c_M_packets {B : me_B} (hB : me_St B) {μ : me_M}  {μ' : me_M} {r : Int32}  (hf : f_M_packets μ = some (μ', r)) : ∀ l E z, l.stackTraces = false → me_Met l yX12_packets cX12_packets 1 (some .int) 0 0 0 0 E B μ z [me_r 36 0] (B, μ', .ok (some (me_i r))) :=
  fun _ _ _ hl => me_ofZ hl (by decide +kernel) (Nat.le_of_ble_eq_true rfl) (fun _ C N hNx => z_M_packets C N hNx hB  hf)

def f_M_isLying (μ : me_M) (v1 : Int32) (v2 : Int32) (v3 : Int32) : Option Int32 :=
  me_gd (me_inb v1 200) (
  if (μ 37 0 (me_ix v1)) = (109 : Int32) then
  (me_gd (me_inb v1 200) (
  if (μ 38 0 (me_ix v1)) = (100 : Int32) then
  (me_gd (me_inb v1 200) (
  if (μ 40 0 (me_ix v1)) = v2 then
  (me_gd (me_inb v1 200) (
  if (μ 39 0 (me_ix v1)) = v3 then
  (some (1 : Int32))
  else
  (some (0 : Int32))))
  else
  (some (0 : Int32))))
  else
  (some (0 : Int32))))
  else
  (some (0 : Int32)))
set_option maxHeartbeats 4000000 in
set_option maxRecDepth 100000 in
theorem z_M_isLying {X : me_X} {B : me_B} {sz : Nat} (C : me_C X B RX12 cX12_isLying 4 (some .boolean)) {μ : me_M} {v1 : Int32} {v2 : Int32} {v3 : Int32}   {r : Int32} (N : me_En X B sz (B, μ, .ok (some (me_i r))) 0 0 0 0) (hNx : me_Nx X) (hB : me_St B)   (hf : f_M_isLying μ v1 v2 v3 = some r) : me_Z X B 0 0 μ 0 [(0, me_r 36 0), (1, me_i v1), (2, me_i v2), (3, me_i v3)] [] := by
  unfold f_M_isLying at hf
  refine me_aload_n C 0 (Or.inr (Or.inl ⟨_, rfl⟩)) dX12_isLying_0 rfl rfl ?_
  refine me_getr C hB 6 (k' := 37) (i' := 0) fg_M_23 dX12_isLying_1 rfl rfl ?_
  refine me_iload_n C 1 dX12_isLying_4 rfl rfl ?_
  obtain ⟨g1, hf⟩ := me_gs hf
  refine me_cald C rfl (fun _ => rfl) g1 dX12_isLying_5 ?_
  refine me_bipush C (v := 109) dX12_isLying_6 (by decide) ?_
  refine me_icmp_ne C (tgt := 46) dX12_isLying_8 (by decide) (fun c2 => ?_) (fun c2 => ?_)
  · replace hf := me_in c2 hf
    refine me_iconst C (v := 0) dX12_isLying_46 (by decide) ?_
    exact me_iret C N dX12_isLying_47 (by decide +kernel) (by cases hf; rfl) (by decide) (by decide)
  · replace hf := me_ip c2 hf
    refine me_aload_n C 0 (Or.inr (Or.inl ⟨_, rfl⟩)) dX12_isLying_11 rfl rfl ?_
    refine me_getr C hB 7 (k' := 38) (i' := 0) fg_M_27 dX12_isLying_12 rfl rfl ?_
    refine me_iload_n C 1 dX12_isLying_15 rfl rfl ?_
    obtain ⟨g3, hf⟩ := me_gs hf
    refine me_cald C rfl (fun _ => rfl) g3 dX12_isLying_16 ?_
    refine me_bipush C (v := 100) dX12_isLying_17 (by decide) ?_
    refine me_icmp_ne C (tgt := 46) dX12_isLying_19 (by decide) (fun c4 => ?_) (fun c4 => ?_)
    · replace hf := me_in c4 hf
      refine me_iconst C (v := 0) dX12_isLying_46 (by decide) ?_
      exact me_iret C N dX12_isLying_47 (by decide +kernel) (by cases hf; rfl) (by decide) (by decide)
    · replace hf := me_ip c4 hf
      refine me_aload_n C 0 (Or.inr (Or.inl ⟨_, rfl⟩)) dX12_isLying_22 rfl rfl ?_
      refine me_getr C hB 9 (k' := 40) (i' := 0) fg_M_34 dX12_isLying_23 rfl rfl ?_
      refine me_iload_n C 1 dX12_isLying_26 rfl rfl ?_
      obtain ⟨g5, hf⟩ := me_gs hf
      refine me_iald C rfl (fun _ => rfl) g5 dX12_isLying_27 ?_
      refine me_iload_n C 2 dX12_isLying_28 rfl rfl ?_
      refine me_icmp_ne C (tgt := 46) dX12_isLying_29 (by decide) (fun c6 => ?_) (fun c6 => ?_)
      · replace hf := me_in c6 hf
        refine me_iconst C (v := 0) dX12_isLying_46 (by decide) ?_
        exact me_iret C N dX12_isLying_47 (by decide +kernel) (by cases hf; rfl) (by decide) (by decide)
      · replace hf := me_ip c6 hf
        refine me_aload_n C 0 (Or.inr (Or.inl ⟨_, rfl⟩)) dX12_isLying_32 rfl rfl ?_
        refine me_getr C hB 8 (k' := 39) (i' := 0) fg_M_30 dX12_isLying_33 rfl rfl ?_
        refine me_iload_n C 1 dX12_isLying_36 rfl rfl ?_
        obtain ⟨g7, hf⟩ := me_gs hf
        refine me_iald C rfl (fun _ => rfl) g7 dX12_isLying_37 ?_
        refine me_iload_n C 3 dX12_isLying_38 rfl rfl ?_
        refine me_icmp_ne C (tgt := 46) dX12_isLying_39 (by decide) (fun c8 => ?_) (fun c8 => ?_)
        · replace hf := me_in c8 hf
          refine me_iconst C (v := 0) dX12_isLying_46 (by decide) ?_
          exact me_iret C N dX12_isLying_47 (by decide +kernel) (by cases hf; rfl) (by decide) (by decide)
        · replace hf := me_ip c8 hf
          refine me_iconst C (v := 1) dX12_isLying_42 (by decide) ?_
          refine me_goto C (tgt := 47) dX12_isLying_43 (by decide) ?_
          exact me_iret C N dX12_isLying_47 (by decide +kernel) (by cases hf; rfl) (by decide) (by decide)
theorem c_M_isLying {B : me_B} (hB : me_St B) {μ : me_M} {v1 : Int32} {v2 : Int32} {v3 : Int32} {r : Int32}  (hf : f_M_isLying μ v1 v2 v3 = some r) : ∀ l E z, l.stackTraces = false → me_Met l yX12_isLying cX12_isLying 4 (some .boolean) 0 0 0 0 E B μ z [me_r 36 0, me_i v1, me_i v2, me_i v3] (B, μ, .ok (some (me_i r))) :=
  fun _ _ _ hl => me_ofZ hl (by decide +kernel) (Nat.le_of_ble_eq_true rfl) (fun _ C N hNx => z_M_isLying C N hNx hB  hf)

def f_M_firstLying_b46 (μ : me_M) (K5 : Int32 → Int32 → Int32 → Int32 → Option Int32) (v1 : Int32) (v2 : Int32) (v4 : Int32) : Option Int32 :=
  me_lt (me_inc v4 (1)) (fun x1 =>
  K5 v1 v2 v4 x1)
set_option maxHeartbeats 4000000 in
set_option maxRecDepth 100000 in
theorem z_M_firstLying_b46 {X : me_X} {B : me_B} {sz : Nat} (C : me_C X B RX12 cX12_firstLying 5 (some .int)) {μ : me_M} {v1 : Int32} {v2 : Int32} {v4 : Int32}  {K5 : Int32 → Int32 → Int32 → Int32 → Option Int32} {r : Int32} (N : me_En X B sz (B, μ, .ok (some (me_i r))) 1 23 0 0) (hNx : me_Nx X) (hB : me_St B) (hK5 : ∀ (v1 : Int32) (v2 : Int32) (v3 : Int32) (v4 : Int32), K5 v1 v2 v3 v4 = some r → me_Z X B 0 0 μ 5 [(0, me_r 36 0), (1, me_i v1), (2, me_i v2), (3, me_i v3), (4, me_i v4)] [])  (hf : f_M_firstLying_b46 μ K5 v1 v2 v4 = some r) : me_Z X B 0 0 μ 46 [(0, me_r 36 0), (1, me_i v1), (2, me_i v2), (4, me_i v4)] [] := by
  unfold f_M_firstLying_b46 at hf
  refine me_iload C dX12_firstLying_46 rfl ?_
  refine me_goto C (tgt := 52) dX12_firstLying_48 (by decide) ?_
  refine me_istore_n C 3 dX12_firstLying_52 rfl (by decide) (L' := [(3, me_i v4), (0, me_r 36 0), (1, me_i v1), (2, me_i v2), (4, me_i v4)]) rfl ?_
  obtain ⟨x1, e_x1, hf⟩ := me_lts hf
  refine me_iinc C (v := x1) (L' := [(4, me_i x1), (3, me_i v4), (0, me_r 36 0), (1, me_i v1), (2, me_i v2)]) dX12_firstLying_53 rfl e_x1.symm (by decide) rfl ?_
  refine me_goto C (tgt := 5) dX12_firstLying_56 (by decide) ?_
  refine me_dropI [(0, me_r 36 0), (1, me_i v1), (2, me_i v2), (3, me_i v4), (4, me_i x1)] [2, 3, 4, 1, 0] rfl ?_
  exact hK5 v1 v2 v4 x1 hf
def f_M_firstLying_b51 (μ : me_M) (K5 : Int32 → Int32 → Int32 → Int32 → Option Int32) (v1 : Int32) (v2 : Int32) (v3 : Int32) (v4 : Int32) : Option Int32 :=
  me_lt (me_inc v4 (1)) (fun x1 =>
  K5 v1 v2 v3 x1)
set_option maxHeartbeats 4000000 in
set_option maxRecDepth 100000 in
theorem z_M_firstLying_b51 {X : me_X} {B : me_B} {sz : Nat} (C : me_C X B RX12 cX12_firstLying 5 (some .int)) {μ : me_M} {v1 : Int32} {v2 : Int32} {v3 : Int32} {v4 : Int32}  {K5 : Int32 → Int32 → Int32 → Int32 → Option Int32} {r : Int32} (N : me_En X B sz (B, μ, .ok (some (me_i r))) 1 23 0 0) (hNx : me_Nx X) (hB : me_St B) (hK5 : ∀ (v1 : Int32) (v2 : Int32) (v3 : Int32) (v4 : Int32), K5 v1 v2 v3 v4 = some r → me_Z X B 0 0 μ 5 [(0, me_r 36 0), (1, me_i v1), (2, me_i v2), (3, me_i v3), (4, me_i v4)] [])  (hf : f_M_firstLying_b51 μ K5 v1 v2 v3 v4 = some r) : me_Z X B 0 0 μ 51 [(0, me_r 36 0), (1, me_i v1), (2, me_i v2), (3, me_i v3), (4, me_i v4)] [] := by
  unfold f_M_firstLying_b51 at hf
  refine me_iload_n C 3 dX12_firstLying_51 rfl rfl ?_
  refine me_istore_n C 3 dX12_firstLying_52 rfl (by decide) (L' := [(3, me_i v3), (0, me_r 36 0), (1, me_i v1), (2, me_i v2), (4, me_i v4)]) rfl ?_
  obtain ⟨x1, e_x1, hf⟩ := me_lts hf
  refine me_iinc C (v := x1) (L' := [(4, me_i x1), (3, me_i v3), (0, me_r 36 0), (1, me_i v1), (2, me_i v2)]) dX12_firstLying_53 rfl e_x1.symm (by decide) rfl ?_
  refine me_goto C (tgt := 5) dX12_firstLying_56 (by decide) ?_
  refine me_dropI [(0, me_r 36 0), (1, me_i v1), (2, me_i v2), (3, me_i v3), (4, me_i x1)] [2, 3, 4, 1, 0] rfl ?_
  exact hK5 v1 v2 v3 x1 hf
def f_M_firstLying_b5 (μ : me_M) (K5 : Int32 → Int32 → Int32 → Int32 → Option Int32) (v1 : Int32) (v2 : Int32) (v3 : Int32) (v4 : Int32) : Option Int32 :=
  if (μ 36 0 19) ≤ v4 then
  (some v3)
  else
  (me_bd (f_M_isLying μ v4 v1 v2) (fun r2 =>
  if r2 = 0 then
  (f_M_firstLying_b51 μ K5 v1 v2 v3 v4)
  else
  (if v3 = (-1 : Int32) then
  (f_M_firstLying_b46 μ K5 v1 v2 v4)
  else
  (me_gd (me_inb v4 200) (
  me_gd (me_inb v3 200) (
  if (μ 45 0 (me_ix v3)) ≤ (μ 45 0 (me_ix v4)) then
  (f_M_firstLying_b51 μ K5 v1 v2 v3 v4)
  else
  (f_M_firstLying_b46 μ K5 v1 v2 v4)))))))
set_option maxHeartbeats 4000000 in
set_option maxRecDepth 100000 in
theorem z_M_firstLying_b5 {X : me_X} {B : me_B} {sz : Nat} (C : me_C X B RX12 cX12_firstLying 5 (some .int)) {μ : me_M} {v1 : Int32} {v2 : Int32} {v3 : Int32} {v4 : Int32}  {K5 : Int32 → Int32 → Int32 → Int32 → Option Int32} {r : Int32} (N : me_En X B sz (B, μ, .ok (some (me_i r))) 1 23 0 0) (hNx : me_Nx X) (hB : me_St B) (hK5 : ∀ (v1 : Int32) (v2 : Int32) (v3 : Int32) (v4 : Int32), K5 v1 v2 v3 v4 = some r → me_Z X B 0 0 μ 5 [(0, me_r 36 0), (1, me_i v1), (2, me_i v2), (3, me_i v3), (4, me_i v4)] [])  (hf : f_M_firstLying_b5 μ K5 v1 v2 v3 v4 = some r) : me_Z X B 0 0 μ 5 [(0, me_r 36 0), (1, me_i v1), (2, me_i v2), (3, me_i v3), (4, me_i v4)] [] := by
  unfold f_M_firstLying_b5 at hf
  refine me_iload C dX12_firstLying_5 rfl ?_
  refine me_aload_n C 0 (Or.inr (Or.inl ⟨_, rfl⟩)) dX12_firstLying_7 rfl rfl ?_
  refine me_geti C 19 fg_M_152 dX12_firstLying_8 rfl ?_
  refine me_icmp_ge C (tgt := 59) dX12_firstLying_11 (by decide) (fun c1 => ?_) (fun c1 => ?_)
  · replace hf := me_ip c1 hf
    refine me_iload_n C 3 dX12_firstLying_59 rfl rfl ?_
    exact me_iret C N dX12_firstLying_60 (me_nri _) (by cases hf; rfl) (by decide) (by decide)
  · replace hf := me_in c1 hf
    refine me_aload_n C 0 (Or.inr (Or.inl ⟨_, rfl⟩)) dX12_firstLying_14 rfl rfl ?_
    refine me_iload C dX12_firstLying_15 rfl ?_
    refine me_iload_n C 1 dX12_firstLying_17 rfl rfl ?_
    refine me_iload_n C 2 dX12_firstLying_18 rfl rfl ?_
    obtain ⟨r2, h_r2, hf⟩ := me_bs hf
    refine me_callV C N  (As := [me_i v4, me_i v1, me_i v2]) (st := []) 0 0 (c_M_isLying hB h_r2) mv_M_isLying ml_M_192 rfl rfl dX12_firstLying_19 rfl rfl ⟨by decide, by decide⟩ ⟨by decide, by decide, by decide, by decide⟩ (Nat.le_of_ble_eq_true rfl) ?_
    refine me_if_eq C (tgt := 51) dX12_firstLying_22 (by decide) (fun c3 => ?_) (fun c3 => ?_)
    · replace hf := me_ip c3 hf
      refine me_dropI [(0, me_r 36 0), (1, me_i v1), (2, me_i v2), (3, me_i v3), (4, me_i v4)] [0, 1, 2, 3, 4] rfl ?_
      exact z_M_firstLying_b51 C N hNx hB hK5 hf
    · replace hf := me_in c3 hf
      refine me_iload_n C 3 dX12_firstLying_25 rfl rfl ?_
      refine me_iconst C (v := -1) dX12_firstLying_26 (by decide) ?_
      refine me_icmp_eq C (tgt := 46) dX12_firstLying_27 (by decide) (fun c4 => ?_) (fun c4 => ?_)
      · replace hf := me_ip c4 hf
        refine me_dropI [(0, me_r 36 0), (1, me_i v1), (2, me_i v2), (4, me_i v4)] [0, 1, 2, 4] rfl ?_
        exact z_M_firstLying_b46 C N hNx hB hK5 hf
      · replace hf := me_in c4 hf
        refine me_aload_n C 0 (Or.inr (Or.inl ⟨_, rfl⟩)) dX12_firstLying_30 rfl rfl ?_
        refine me_getr C hB 14 (k' := 45) (i' := 0) fg_M_49 dX12_firstLying_31 rfl rfl ?_
        refine me_iload C dX12_firstLying_34 rfl ?_
        obtain ⟨g5, hf⟩ := me_gs hf
        refine me_iald C rfl (fun _ => rfl) g5 dX12_firstLying_36 ?_
        refine me_aload_n C 0 (Or.inr (Or.inl ⟨_, rfl⟩)) dX12_firstLying_37 rfl rfl ?_
        refine me_getr C hB 14 (k' := 45) (i' := 0) fg_M_49 dX12_firstLying_38 rfl rfl ?_
        refine me_iload_n C 3 dX12_firstLying_41 rfl rfl ?_
        obtain ⟨g6, hf⟩ := me_gs hf
        refine me_iald C rfl (fun _ => rfl) g6 dX12_firstLying_42 ?_
        refine me_icmp_ge C (tgt := 51) dX12_firstLying_43 (by decide) (fun c7 => ?_) (fun c7 => ?_)
        · replace hf := me_ip c7 hf
          refine me_dropI [(0, me_r 36 0), (1, me_i v1), (2, me_i v2), (3, me_i v3), (4, me_i v4)] [0, 1, 2, 3, 4] rfl ?_
          exact z_M_firstLying_b51 C N hNx hB hK5 hf
        · replace hf := me_in c7 hf
          refine me_dropI [(0, me_r 36 0), (1, me_i v1), (2, me_i v2), (4, me_i v4)] [0, 1, 2, 4] rfl ?_
          exact z_M_firstLying_b46 C N hNx hB hK5 hf
def f_M_firstLying_h5 (μ : me_M) : Nat → Int32 → Int32 → Int32 → Int32 → Option Int32
  | 0, _, _, _, _ => none
  | n + 1, v1, v2, v3, v4 => f_M_firstLying_b5 μ (f_M_firstLying_h5 μ n) v1 v2 v3 v4
set_option maxHeartbeats 4000000 in
set_option maxRecDepth 100000 in
theorem z_M_firstLying_h5 {X : me_X} {B : me_B} {sz : Nat} (C : me_C X B RX12 cX12_firstLying 5 (some .int)) {μ : me_M}  {r : Int32} (N : me_En X B sz (B, μ, .ok (some (me_i r))) 1 23 0 0) (hNx : me_Nx X) (hB : me_St B)  : ∀ (n : Nat) (v1 : Int32) (v2 : Int32) (v3 : Int32) (v4 : Int32), f_M_firstLying_h5 μ n v1 v2 v3 v4 = some r → me_Z X B 0 0 μ 5 [(0, me_r 36 0), (1, me_i v1), (2, me_i v2), (3, me_i v3), (4, me_i v4)] [] := by
  intro n
  induction n with
  | zero => intro v1 v2 v3 v4  h; exact absurd (show (none : Option Int32) = some r from h) (fun q => by cases q)
  | succ n ih => intro v1 v2 v3 v4  h; exact z_M_firstLying_b5 C N hNx hB  (K5 := f_M_firstLying_h5 μ n) ih  h
def f_M_firstLying (μ : me_M) (v1 : Int32) (v2 : Int32) : Option Int32 :=
  f_M_firstLying_h5 μ me_FU v1 v2 (-1 : Int32) (0 : Int32)
set_option maxHeartbeats 4000000 in
set_option maxRecDepth 100000 in
theorem z_M_firstLying {X : me_X} {B : me_B} {sz : Nat} (C : me_C X B RX12 cX12_firstLying 5 (some .int)) {μ : me_M} {v1 : Int32} {v2 : Int32}   {r : Int32} (N : me_En X B sz (B, μ, .ok (some (me_i r))) 1 23 0 0) (hNx : me_Nx X) (hB : me_St B)   (hf : f_M_firstLying μ v1 v2 = some r) : me_Z X B 0 0 μ 0 [(0, me_r 36 0), (1, me_i v1), (2, me_i v2)] [] := by
  unfold f_M_firstLying at hf
  refine me_iconst C (v := -1) dX12_firstLying_0 (by decide) ?_
  refine me_istore_n C 3 dX12_firstLying_1 rfl (by decide) (L' := [(3, me_i (-1 : Int32)), (0, me_r 36 0), (1, me_i v1), (2, me_i v2)]) rfl ?_
  refine me_iconst C (v := 0) dX12_firstLying_2 (by decide) ?_
  refine me_istore C dX12_firstLying_3 (by decide) (L' := [(4, me_i (0 : Int32)), (3, me_i (-1 : Int32)), (0, me_r 36 0), (1, me_i v1), (2, me_i v2)]) rfl ?_
  refine me_dropI [(0, me_r 36 0), (1, me_i v1), (2, me_i v2), (3, me_i (-1 : Int32)), (4, me_i (0 : Int32))] [2, 3, 4, 1, 0] rfl ?_
  exact z_M_firstLying_h5 C N hNx hB me_FU v1 v2 (-1 : Int32) (0 : Int32) hf
theorem c_M_firstLying {B : me_B} (hB : me_St B) {μ : me_M} {v1 : Int32} {v2 : Int32} {r : Int32}  (hf : f_M_firstLying μ v1 v2 = some r) : ∀ l E z, l.stackTraces = false → me_Met l yX12_firstLying cX12_firstLying 5 (some .int) 1 23 0 0 E B μ z [me_r 36 0, me_i v1, me_i v2] (B, μ, .ok (some (me_i r))) :=
  fun _ _ _ hl => me_ofZ hl (by decide +kernel) (Nat.le_of_ble_eq_true rfl) (fun _ C N hNx => z_M_firstLying C N hNx hB  hf)
