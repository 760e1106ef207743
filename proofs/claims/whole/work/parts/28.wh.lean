/-! WALKS: Y_multicast, Y_ask, Y_needPacket, Y_answer, Y_kind, Y_state, Y_word, Y_head, Y_pieces, Y_time, Y_packets, Y_lying, Y_receive, Y_setAllPlaces, Y_makeAnew, Y_net, Y_beats, Y_beat, Str_isLatin1, Str_coder, Str_length, La1_canEncode, La1_indexOfChar, La1_indexOf, Str_indexOf2, Str_indexOf1, Y_way -/
theorem dX11_multicast_0 : decode cX11_multicast 0 = .ok (.aload_n 0, 1) := by decide +kernel
theorem dX11_multicast_1 : decode cX11_multicast 1 = .ok (.iload_n 1, 1) := by decide +kernel
theorem dX11_multicast_2 : decode cX11_multicast 2 = .ok (.invokevirtual 103, 3) := by decide +kernel
theorem dX11_multicast_5 : decode cX11_multicast 5 = .ok (.iload_n 2, 1) := by decide +kernel
theorem dX11_multicast_6 : decode cX11_multicast 6 = .ok (.ifCond .eq 15, 3) := by decide +kernel
theorem dX11_multicast_9 : decode cX11_multicast 9 = .ok (.iload_n 2, 1) := by decide +kernel
theorem dX11_multicast_10 : decode cX11_multicast 10 = .ok (.aload_n 0, 1) := by decide +kernel
theorem dX11_multicast_11 : decode cX11_multicast 11 = .ok (.getfield 10, 3) := by decide +kernel
theorem dX11_multicast_14 : decode cX11_multicast 14 = .ok (.getfield 106, 3) := by decide +kernel
theorem dX11_multicast_17 : decode cX11_multicast 17 = .ok (.iushr, 1) := by decide +kernel
theorem dX11_multicast_18 : decode cX11_multicast 18 = .ok (.ifCond .eq 13, 3) := by decide +kernel
theorem dX11_multicast_21 : decode cX11_multicast 21 = .ok (.new 109, 3) := by decide +kernel
theorem dX11_multicast_24 : decode cX11_multicast 24 = .ok (.dup, 1) := by decide +kernel
theorem dX11_multicast_25 : decode cX11_multicast 25 = .ok (.ldc 111, 2) := by decide +kernel
theorem dX11_multicast_27 : decode cX11_multicast 27 = .ok (.invokespecial 113, 3) := by decide +kernel
theorem dX11_multicast_30 : decode cX11_multicast 30 = .ok (.athrow, 1) := by decide +kernel
theorem dX11_multicast_31 : decode cX11_multicast 31 = .ok (.iload_n 2, 1) := by decide +kernel
theorem dX11_multicast_32 : decode cX11_multicast 32 = .ok (.invokestatic 116, 3) := by decide +kernel
theorem dX11_multicast_35 : decode cX11_multicast 35 = .ok (.istore 4, 2) := by decide +kernel
theorem dX11_multicast_37 : decode cX11_multicast 37 = .ok (.aload_n 0, 1) := by decide +kernel
theorem dX11_multicast_38 : decode cX11_multicast 38 = .ok (.iload 4, 2) := by decide +kernel
theorem dX11_multicast_40 : decode cX11_multicast 40 = .ok (.invokevirtual 91, 3) := by decide +kernel
theorem dX11_multicast_43 : decode cX11_multicast 43 = .ok (.iconst 0, 1) := by decide +kernel
theorem dX11_multicast_44 : decode cX11_multicast 44 = .ok (.istore 5, 2) := by decide +kernel
theorem dX11_multicast_46 : decode cX11_multicast 46 = .ok (.iload 5, 2) := by decide +kernel
theorem dX11_multicast_48 : decode cX11_multicast 48 = .ok (.aload_n 0, 1) := by decide +kernel
theorem dX11_multicast_49 : decode cX11_multicast 49 = .ok (.getfield 10, 3) := by decide +kernel
theorem dX11_multicast_52 : decode cX11_multicast 52 = .ok (.getfield 106, 3) := by decide +kernel
theorem dX11_multicast_55 : decode cX11_multicast 55 = .ok (.if_icmp .ge 40, 3) := by decide +kernel
theorem dX11_multicast_58 : decode cX11_multicast 58 = .ok (.iload_n 2, 1) := by decide +kernel
theorem dX11_multicast_59 : decode cX11_multicast 59 = .ok (.iload 5, 2) := by decide +kernel
theorem dX11_multicast_61 : decode cX11_multicast 61 = .ok (.iushr, 1) := by decide +kernel
theorem dX11_multicast_62 : decode cX11_multicast 62 = .ok (.iconst 1, 1) := by decide +kernel
theorem dX11_multicast_63 : decode cX11_multicast 63 = .ok (.iand, 1) := by decide +kernel
theorem dX11_multicast_64 : decode cX11_multicast 64 = .ok (.ifCond .eq 25, 3) := by decide +kernel
theorem dX11_multicast_67 : decode cX11_multicast 67 = .ok (.aload_n 0, 1) := by decide +kernel
theorem dX11_multicast_68 : decode cX11_multicast 68 = .ok (.getfield 19, 3) := by decide +kernel
theorem dX11_multicast_71 : decode cX11_multicast 71 = .ok (.bipush 109, 2) := by decide +kernel
theorem dX11_multicast_73 : decode cX11_multicast 73 = .ok (.iload_n 1, 1) := by decide +kernel
theorem dX11_multicast_74 : decode cX11_multicast 74 = .ok (.iload 5, 2) := by decide +kernel
theorem dX11_multicast_76 : decode cX11_multicast 76 = .ok (.iload_n 3, 1) := by decide +kernel
theorem dX11_multicast_77 : decode cX11_multicast 77 = .ok (.iconst 1, 1) := by decide +kernel
theorem dX11_multicast_78 : decode cX11_multicast 78 = .ok (.aload_n 0, 1) := by decide +kernel
theorem dX11_multicast_79 : decode cX11_multicast 79 = .ok (.getfield 58, 3) := by decide +kernel
theorem dX11_multicast_82 : decode cX11_multicast 82 = .ok (.getfield 95, 3) := by decide +kernel
theorem dX11_multicast_85 : decode cX11_multicast 85 = .ok (.invokevirtual 99, 3) := by decide +kernel
theorem dX11_multicast_88 : decode cX11_multicast 88 = .ok (.pop, 1) := by decide +kernel
theorem dX11_multicast_89 : decode cX11_multicast 89 = .ok (.iinc 5 1, 3) := by decide +kernel
theorem dX11_multicast_92 : decode cX11_multicast 92 = .ok (.goto (-46), 3) := by decide +kernel
theorem dX11_multicast_95 : decode cX11_multicast 95 = .ok (.iload 4, 2) := by decide +kernel
theorem dX11_multicast_97 : decode cX11_multicast 97 = .ok (.ireturn, 1) := by decide +kernel
theorem dX11_ask_0 : decode cX11_ask 0 = .ok (.aload_n 0, 1) := by decide +kernel
theorem dX11_ask_1 : decode cX11_ask 1 = .ok (.iload_n 1, 1) := by decide +kernel
theorem dX11_ask_2 : decode cX11_ask 2 = .ok (.iload_n 2, 1) := by decide +kernel
theorem dX11_ask_3 : decode cX11_ask 3 = .ok (.invokevirtual 84, 3) := by decide +kernel
theorem dX11_ask_6 : decode cX11_ask 6 = .ok (.aload_n 0, 1) := by decide +kernel
theorem dX11_ask_7 : decode cX11_ask 7 = .ok (.iload_n 3, 1) := by decide +kernel
theorem dX11_ask_8 : decode cX11_ask 8 = .ok (.iconst 0, 1) := by decide +kernel
theorem dX11_ask_9 : decode cX11_ask 9 = .ok (.bipush 7, 2) := by decide +kernel
theorem dX11_ask_11 : decode cX11_ask 11 = .ok (.invokevirtual 87, 3) := by decide +kernel
theorem dX11_ask_14 : decode cX11_ask 14 = .ok (.aload_n 0, 1) := by decide +kernel
theorem dX11_ask_15 : decode cX11_ask 15 = .ok (.iconst 2, 1) := by decide +kernel
theorem dX11_ask_16 : decode cX11_ask 16 = .ok (.invokevirtual 91, 3) := by decide +kernel
theorem dX11_ask_19 : decode cX11_ask 19 = .ok (.aload_n 0, 1) := by decide +kernel
theorem dX11_ask_20 : decode cX11_ask 20 = .ok (.getfield 19, 3) := by decide +kernel
theorem dX11_ask_23 : decode cX11_ask 23 = .ok (.bipush 113, 2) := by decide +kernel
theorem dX11_ask_25 : decode cX11_ask 25 = .ok (.iload_n 1, 1) := by decide +kernel
theorem dX11_ask_26 : decode cX11_ask 26 = .ok (.iload_n 2, 1) := by decide +kernel
theorem dX11_ask_27 : decode cX11_ask 27 = .ok (.iconst 0, 1) := by decide +kernel
theorem dX11_ask_28 : decode cX11_ask 28 = .ok (.iconst 1, 1) := by decide +kernel
theorem dX11_ask_29 : decode cX11_ask 29 = .ok (.aload_n 0, 1) := by decide +kernel
theorem dX11_ask_30 : decode cX11_ask 30 = .ok (.getfield 58, 3) := by decide +kernel
theorem dX11_ask_33 : decode cX11_ask 33 = .ok (.getfield 95, 3) := by decide +kernel
theorem dX11_ask_36 : decode cX11_ask 36 = .ok (.invokevirtual 99, 3) := by decide +kernel
theorem dX11_ask_39 : decode cX11_ask 39 = .ok (.istore 6, 2) := by decide +kernel
theorem dX11_ask_41 : decode cX11_ask 41 = .ok (.aload_n 0, 1) := by decide +kernel
theorem dX11_ask_42 : decode cX11_ask 42 = .ok (.getfield 19, 3) := by decide +kernel
theorem dX11_ask_45 : decode cX11_ask 45 = .ok (.iload 6, 2) := by decide +kernel
theorem dX11_ask_47 : decode cX11_ask 47 = .ok (.invokevirtual 122, 3) := by decide +kernel
theorem dX11_ask_50 : decode cX11_ask 50 = .ok (.astore 7, 2) := by decide +kernel
theorem dX11_ask_52 : decode cX11_ask 52 = .ok (.aload 7, 2) := by decide +kernel
theorem dX11_ask_54 : decode cX11_ask 54 = .ok (.ifnull 25, 3) := by decide +kernel
theorem dX11_ask_57 : decode cX11_ask 57 = .ok (.aload 7, 2) := by decide +kernel
theorem dX11_ask_59 : decode cX11_ask 59 = .ok (.iload_n 3, 1) := by decide +kernel
theorem dX11_ask_60 : decode cX11_ask 60 = .ok (.putfield 126, 3) := by decide +kernel
theorem dX11_ask_63 : decode cX11_ask 63 = .ok (.aload 7, 2) := by decide +kernel
theorem dX11_ask_65 : decode cX11_ask 65 = .ok (.iload 4, 2) := by decide +kernel
theorem dX11_ask_67 : decode cX11_ask 67 = .ok (.ifCond .eq 8, 3) := by decide +kernel
theorem dX11_ask_70 : decode cX11_ask 70 = .ok (.iload 5, 2) := by decide +kernel
theorem dX11_ask_72 : decode cX11_ask 72 = .ok (.goto 4, 3) := by decide +kernel
theorem dX11_ask_75 : decode cX11_ask 75 = .ok (.iconst 0, 1) := by decide +kernel
theorem dX11_ask_76 : decode cX11_ask 76 = .ok (.putfield 131, 3) := by decide +kernel
theorem dX11_ask_79 : decode cX11_ask 79 = .ok (.iload 6, 2) := by decide +kernel
theorem dX11_ask_81 : decode cX11_ask 81 = .ok (.ireturn, 1) := by decide +kernel
theorem dX11_needPacket_0 : decode cX11_needPacket 0 = .ok (.aload_n 0, 1) := by decide +kernel
theorem dX11_needPacket_1 : decode cX11_needPacket 1 = .ok (.getfield 19, 3) := by decide +kernel
theorem dX11_needPacket_4 : decode cX11_needPacket 4 = .ok (.iload_n 1, 1) := by decide +kernel
theorem dX11_needPacket_5 : decode cX11_needPacket 5 = .ok (.invokevirtual 122, 3) := by decide +kernel
theorem dX11_needPacket_8 : decode cX11_needPacket 8 = .ok (.astore_n 2, 1) := by decide +kernel
theorem dX11_needPacket_9 : decode cX11_needPacket 9 = .ok (.aload_n 2, 1) := by decide +kernel
theorem dX11_needPacket_10 : decode cX11_needPacket 10 = .ok (.ifnonnull 14, 3) := by decide +kernel
theorem dX11_needPacket_13 : decode cX11_needPacket 13 = .ok (.new 423, 3) := by decide +kernel
theorem dX11_needPacket_16 : decode cX11_needPacket 16 = .ok (.dup, 1) := by decide +kernel
theorem dX11_needPacket_17 : decode cX11_needPacket 17 = .ok (.ldc_w 428, 3) := by decide +kernel
theorem dX11_needPacket_20 : decode cX11_needPacket 20 = .ok (.invokespecial 427, 3) := by decide +kernel
theorem dX11_needPacket_23 : decode cX11_needPacket 23 = .ok (.athrow, 1) := by decide +kernel
theorem dX11_needPacket_24 : decode cX11_needPacket 24 = .ok (.aload_n 2, 1) := by decide +kernel
theorem dX11_needPacket_25 : decode cX11_needPacket 25 = .ok (.areturn, 1) := by decide +kernel
theorem dX11_answer_0 : decode cX11_answer 0 = .ok (.aload_n 0, 1) := by decide +kernel
theorem dX11_answer_1 : decode cX11_answer 1 = .ok (.iload_n 1, 1) := by decide +kernel
theorem dX11_answer_2 : decode cX11_answer 2 = .ok (.invokevirtual 134, 3) := by decide +kernel
theorem dX11_answer_5 : decode cX11_answer 5 = .ok (.astore_n 2, 1) := by decide +kernel
theorem dX11_answer_6 : decode cX11_answer 6 = .ok (.aload_n 2, 1) := by decide +kernel
theorem dX11_answer_7 : decode cX11_answer 7 = .ok (.getfield 137, 3) := by decide +kernel
theorem dX11_answer_10 : decode cX11_answer 10 = .ok (.bipush 113, 2) := by decide +kernel
theorem dX11_answer_12 : decode cX11_answer 12 = .ok (.if_icmp .eq 13, 3) := by decide +kernel
theorem dX11_answer_15 : decode cX11_answer 15 = .ok (.new 109, 3) := by decide +kernel
theorem dX11_answer_18 : decode cX11_answer 18 = .ok (.dup, 1) := by decide +kernel
theorem dX11_answer_19 : decode cX11_answer 19 = .ok (.ldc 141, 2) := by decide +kernel
theorem dX11_answer_21 : decode cX11_answer 21 = .ok (.invokespecial 113, 3) := by decide +kernel
theorem dX11_answer_24 : decode cX11_answer 24 = .ok (.athrow, 1) := by decide +kernel
theorem dX11_answer_25 : decode cX11_answer 25 = .ok (.aload_n 2, 1) := by decide +kernel
theorem dX11_answer_26 : decode cX11_answer 26 = .ok (.getfield 143, 3) := by decide +kernel
theorem dX11_answer_29 : decode cX11_answer 29 = .ok (.iconst (-1), 1) := by decide +kernel
theorem dX11_answer_30 : decode cX11_answer 30 = .ok (.if_icmp .ne 13, 3) := by decide +kernel
theorem dX11_answer_33 : decode cX11_answer 33 = .ok (.new 146, 3) := by decide +kernel
theorem dX11_answer_36 : decode cX11_answer 36 = .ok (.dup, 1) := by decide +kernel
theorem dX11_answer_37 : decode cX11_answer 37 = .ok (.ldc 148, 2) := by decide +kernel
theorem dX11_answer_39 : decode cX11_answer 39 = .ok (.invokespecial 150, 3) := by decide +kernel
theorem dX11_answer_42 : decode cX11_answer 42 = .ok (.athrow, 1) := by decide +kernel
theorem dX11_answer_43 : decode cX11_answer 43 = .ok (.aload_n 2, 1) := by decide +kernel
theorem dX11_answer_44 : decode cX11_answer 44 = .ok (.getfield 143, 3) := by decide +kernel
theorem dX11_answer_47 : decode cX11_answer 47 = .ok (.ireturn, 1) := by decide +kernel
theorem dX11_kind_0 : decode cX11_kind 0 = .ok (.aload_n 0, 1) := by decide +kernel
theorem dX11_kind_1 : decode cX11_kind 1 = .ok (.iload_n 1, 1) := by decide +kernel
theorem dX11_kind_2 : decode cX11_kind 2 = .ok (.invokevirtual 134, 3) := by decide +kernel
theorem dX11_kind_5 : decode cX11_kind 5 = .ok (.getfield 137, 3) := by decide +kernel
theorem dX11_kind_8 : decode cX11_kind 8 = .ok (.ireturn, 1) := by decide +kernel
theorem dX11_state_0 : decode cX11_state 0 = .ok (.aload_n 0, 1) := by decide +kernel
theorem dX11_state_1 : decode cX11_state 1 = .ok (.iload_n 1, 1) := by decide +kernel
theorem dX11_state_2 : decode cX11_state 2 = .ok (.invokevirtual 134, 3) := by decide +kernel
theorem dX11_state_5 : decode cX11_state 5 = .ok (.getfield 151, 3) := by decide +kernel
theorem dX11_state_8 : decode cX11_state 8 = .ok (.ireturn, 1) := by decide +kernel
theorem dX11_word_0 : decode cX11_word 0 = .ok (.aload_n 0, 1) := by decide +kernel
theorem dX11_word_1 : decode cX11_word 1 = .ok (.iload_n 1, 1) := by decide +kernel
theorem dX11_word_2 : decode cX11_word 2 = .ok (.invokevirtual 134, 3) := by decide +kernel
theorem dX11_word_5 : decode cX11_word 5 = .ok (.getfield 154, 3) := by decide +kernel
theorem dX11_word_8 : decode cX11_word 8 = .ok (.ireturn, 1) := by decide +kernel
theorem dX11_head_0 : decode cX11_head 0 = .ok (.aload_n 0, 1) := by decide +kernel
theorem dX11_head_1 : decode cX11_head 1 = .ok (.iload_n 1, 1) := by decide +kernel
theorem dX11_head_2 : decode cX11_head 2 = .ok (.invokevirtual 134, 3) := by decide +kernel
theorem dX11_head_5 : decode cX11_head 5 = .ok (.getfield 157, 3) := by decide +kernel
theorem dX11_head_8 : decode cX11_head 8 = .ok (.istore_n 2, 1) := by decide +kernel
theorem dX11_head_9 : decode cX11_head 9 = .ok (.iload_n 2, 1) := by decide +kernel
theorem dX11_head_10 : decode cX11_head 10 = .ok (.iconst (-1), 1) := by decide +kernel
theorem dX11_head_11 : decode cX11_head 11 = .ok (.if_icmp .ne 13, 3) := by decide +kernel
theorem dX11_head_14 : decode cX11_head 14 = .ok (.new 146, 3) := by decide +kernel
theorem dX11_head_17 : decode cX11_head 17 = .ok (.dup, 1) := by decide +kernel
theorem dX11_head_18 : decode cX11_head 18 = .ok (.ldc 160, 2) := by decide +kernel
theorem dX11_head_20 : decode cX11_head 20 = .ok (.invokespecial 150, 3) := by decide +kernel
theorem dX11_head_23 : decode cX11_head 23 = .ok (.athrow, 1) := by decide +kernel
theorem dX11_head_24 : decode cX11_head 24 = .ok (.iload_n 2, 1) := by decide +kernel
theorem dX11_head_25 : decode cX11_head 25 = .ok (.ireturn, 1) := by decide +kernel
theorem dX11_pieces_0 : decode cX11_pieces 0 = .ok (.aload_n 0, 1) := by decide +kernel
theorem dX11_pieces_1 : decode cX11_pieces 1 = .ok (.iload_n 1, 1) := by decide +kernel
theorem dX11_pieces_2 : decode cX11_pieces 2 = .ok (.invokevirtual 134, 3) := by decide +kernel
theorem dX11_pieces_5 : decode cX11_pieces 5 = .ok (.invokevirtual 162, 3) := by decide +kernel
theorem dX11_pieces_8 : decode cX11_pieces 8 = .ok (.ireturn, 1) := by decide +kernel
theorem dX11_time_0 : decode cX11_time 0 = .ok (.aload_n 0, 1) := by decide +kernel
theorem dX11_time_1 : decode cX11_time 1 = .ok (.iload_n 1, 1) := by decide +kernel
theorem dX11_time_2 : decode cX11_time 2 = .ok (.invokevirtual 134, 3) := by decide +kernel
theorem dX11_time_5 : decode cX11_time 5 = .ok (.astore_n 2, 1) := by decide +kernel
theorem dX11_time_6 : decode cX11_time 6 = .ok (.aload_n 2, 1) := by decide +kernel
theorem dX11_time_7 : decode cX11_time 7 = .ok (.invokevirtual 166, 3) := by decide +kernel
theorem dX11_time_10 : decode cX11_time 10 = .ok (.ifCond .ne 13, 3) := by decide +kernel
theorem dX11_time_13 : decode cX11_time 13 = .ok (.new 146, 3) := by decide +kernel
theorem dX11_time_16 : decode cX11_time 16 = .ok (.dup, 1) := by decide +kernel
theorem dX11_time_17 : decode cX11_time 17 = .ok (.ldc 170, 2) := by decide +kernel
theorem dX11_time_19 : decode cX11_time 19 = .ok (.invokespecial 150, 3) := by decide +kernel
theorem dX11_time_22 : decode cX11_time 22 = .ok (.athrow, 1) := by decide +kernel
theorem dX11_time_23 : decode cX11_time 23 = .ok (.aload_n 2, 1) := by decide +kernel
theorem dX11_time_24 : decode cX11_time 24 = .ok (.invokevirtual 172, 3) := by decide +kernel
theorem dX11_time_27 : decode cX11_time 27 = .ok (.ireturn, 1) := by decide +kernel
theorem dX11_packets_0 : decode cX11_packets 0 = .ok (.aload_n 0, 1) := by decide +kernel
theorem dX11_packets_1 : decode cX11_packets 1 = .ok (.getfield 19, 3) := by decide +kernel
theorem dX11_packets_4 : decode cX11_packets 4 = .ok (.getfield 175, 3) := by decide +kernel
theorem dX11_packets_7 : decode cX11_packets 7 = .ok (.ireturn, 1) := by decide +kernel
theorem dX11_lying_0 : decode cX11_lying 0 = .ok (.aload_n 0, 1) := by decide +kernel
theorem dX11_lying_1 : decode cX11_lying 1 = .ok (.iload_n 1, 1) := by decide +kernel
theorem dX11_lying_2 : decode cX11_lying 2 = .ok (.iload_n 2, 1) := by decide +kernel
theorem dX11_lying_3 : decode cX11_lying 3 = .ok (.invokevirtual 84, 3) := by decide +kernel
theorem dX11_lying_6 : decode cX11_lying 6 = .ok (.aload_n 0, 1) := by decide +kernel
theorem dX11_lying_7 : decode cX11_lying 7 = .ok (.getfield 19, 3) := by decide +kernel
theorem dX11_lying_10 : decode cX11_lying 10 = .ok (.iload_n 1, 1) := by decide +kernel
theorem dX11_lying_11 : decode cX11_lying 11 = .ok (.iload_n 2, 1) := by decide +kernel
theorem dX11_lying_12 : decode cX11_lying 12 = .ok (.invokevirtual 178, 3) := by decide +kernel
theorem dX11_lying_15 : decode cX11_lying 15 = .ok (.ireturn, 1) := by decide +kernel
theorem dX11_receive_0 : decode cX11_receive 0 = .ok (.aload_n 0, 1) := by decide +kernel
theorem dX11_receive_1 : decode cX11_receive 1 = .ok (.iload_n 1, 1) := by decide +kernel
theorem dX11_receive_2 : decode cX11_receive 2 = .ok (.iload_n 2, 1) := by decide +kernel
theorem dX11_receive_3 : decode cX11_receive 3 = .ok (.invokevirtual 84, 3) := by decide +kernel
theorem dX11_receive_6 : decode cX11_receive 6 = .ok (.aload_n 0, 1) := by decide +kernel
theorem dX11_receive_7 : decode cX11_receive 7 = .ok (.getfield 19, 3) := by decide +kernel
theorem dX11_receive_10 : decode cX11_receive 10 = .ok (.iload_n 1, 1) := by decide +kernel
theorem dX11_receive_11 : decode cX11_receive 11 = .ok (.iload_n 2, 1) := by decide +kernel
theorem dX11_receive_12 : decode cX11_receive 12 = .ok (.invokevirtual 182, 3) := by decide +kernel
theorem dX11_receive_15 : decode cX11_receive 15 = .ok (.astore_n 3, 1) := by decide +kernel
theorem dX11_receive_16 : decode cX11_receive 16 = .ok (.aload_n 3, 1) := by decide +kernel
theorem dX11_receive_17 : decode cX11_receive 17 = .ok (.ifnonnull 13, 3) := by decide +kernel
theorem dX11_receive_20 : decode cX11_receive 20 = .ok (.new 146, 3) := by decide +kernel
theorem dX11_receive_23 : decode cX11_receive 23 = .ok (.dup, 1) := by decide +kernel
theorem dX11_receive_24 : decode cX11_receive 24 = .ok (.ldc 186, 2) := by decide +kernel
theorem dX11_receive_26 : decode cX11_receive 26 = .ok (.invokespecial 150, 3) := by decide +kernel
theorem dX11_receive_29 : decode cX11_receive 29 = .ok (.athrow, 1) := by decide +kernel
theorem dX11_receive_30 : decode cX11_receive 30 = .ok (.aload_n 3, 1) := by decide +kernel
theorem dX11_receive_31 : decode cX11_receive 31 = .ok (.bipush 114, 2) := by decide +kernel
theorem dX11_receive_33 : decode cX11_receive 33 = .ok (.putfield 151, 3) := by decide +kernel
theorem dX11_receive_36 : decode cX11_receive 36 = .ok (.aload_n 3, 1) := by decide +kernel
theorem dX11_receive_37 : decode cX11_receive 37 = .ok (.getfield 188, 3) := by decide +kernel
theorem dX11_receive_40 : decode cX11_receive 40 = .ok (.ireturn, 1) := by decide +kernel
theorem dX11_setAllPlaces_0 : decode cX11_setAllPlaces 0 = .ok (.aload_n 0, 1) := by decide +kernel
theorem dX11_setAllPlaces_1 : decode cX11_setAllPlaces 1 = .ok (.iload_n 1, 1) := by decide +kernel
theorem dX11_setAllPlaces_2 : decode cX11_setAllPlaces 2 = .ok (.putfield 225, 3) := by decide +kernel
theorem dX11_setAllPlaces_5 : decode cX11_setAllPlaces 5 = .ok (.iconst 0, 1) := by decide +kernel
theorem dX11_setAllPlaces_6 : decode cX11_setAllPlaces 6 = .ok (.istore_n 2, 1) := by decide +kernel
theorem dX11_setAllPlaces_7 : decode cX11_setAllPlaces 7 = .ok (.iload_n 2, 1) := by decide +kernel
theorem dX11_setAllPlaces_8 : decode cX11_setAllPlaces 8 = .ok (.bipush 16, 2) := by decide +kernel
theorem dX11_setAllPlaces_10 : decode cX11_setAllPlaces 10 = .ok (.if_icmp .ge 19, 3) := by decide +kernel
theorem dX11_setAllPlaces_13 : decode cX11_setAllPlaces 13 = .ok (.aload_n 0, 1) := by decide +kernel
theorem dX11_setAllPlaces_14 : decode cX11_setAllPlaces 14 = .ok (.getfield 34, 3) := by decide +kernel
theorem dX11_setAllPlaces_17 : decode cX11_setAllPlaces 17 = .ok (.iload_n 2, 1) := by decide +kernel
theorem dX11_setAllPlaces_18 : decode cX11_setAllPlaces 18 = .ok (.aaload, 1) := by decide +kernel
theorem dX11_setAllPlaces_19 : decode cX11_setAllPlaces 19 = .ok (.iload_n 1, 1) := by decide +kernel
theorem dX11_setAllPlaces_20 : decode cX11_setAllPlaces 20 = .ok (.invokevirtual 412, 3) := by decide +kernel
theorem dX11_setAllPlaces_23 : decode cX11_setAllPlaces 23 = .ok (.iinc 2 1, 3) := by decide +kernel
theorem dX11_setAllPlaces_26 : decode cX11_setAllPlaces 26 = .ok (.goto (-19), 3) := by decide +kernel
theorem dX11_setAllPlaces_29 : decode cX11_setAllPlaces 29 = .ok (.return_, 1) := by decide +kernel
theorem dX11_makeAnew_0 : decode cX11_makeAnew 0 = .ok (.aload_n 0, 1) := by decide +kernel
theorem dX11_makeAnew_1 : decode cX11_makeAnew 1 = .ok (.getfield 10, 3) := by decide +kernel
theorem dX11_makeAnew_4 : decode cX11_makeAnew 4 = .ok (.iload_n 1, 1) := by decide +kernel
theorem dX11_makeAnew_5 : decode cX11_makeAnew 5 = .ok (.iload_n 2, 1) := by decide +kernel
theorem dX11_makeAnew_6 : decode cX11_makeAnew 6 = .ok (.invokevirtual 402, 3) := by decide +kernel
theorem dX11_makeAnew_9 : decode cX11_makeAnew 9 = .ok (.aload_n 0, 1) := by decide +kernel
theorem dX11_makeAnew_10 : decode cX11_makeAnew 10 = .ok (.getfield 19, 3) := by decide +kernel
theorem dX11_makeAnew_13 : decode cX11_makeAnew 13 = .ok (.invokevirtual 405, 3) := by decide +kernel
theorem dX11_makeAnew_16 : decode cX11_makeAnew 16 = .ok (.aload_n 0, 1) := by decide +kernel
theorem dX11_makeAnew_17 : decode cX11_makeAnew 17 = .ok (.getfield 28, 3) := by decide +kernel
theorem dX11_makeAnew_20 : decode cX11_makeAnew 20 = .ok (.invokevirtual 408, 3) := by decide +kernel
theorem dX11_makeAnew_23 : decode cX11_makeAnew 23 = .ok (.aload_n 0, 1) := by decide +kernel
theorem dX11_makeAnew_24 : decode cX11_makeAnew 24 = .ok (.getfield 49, 3) := by decide +kernel
theorem dX11_makeAnew_27 : decode cX11_makeAnew 27 = .ok (.bipush 120, 2) := by decide +kernel
theorem dX11_makeAnew_29 : decode cX11_makeAnew 29 = .ok (.putfield 222, 3) := by decide +kernel
theorem dX11_makeAnew_32 : decode cX11_makeAnew 32 = .ok (.aload_n 0, 1) := by decide +kernel
theorem dX11_makeAnew_33 : decode cX11_makeAnew 33 = .ok (.getfield 58, 3) := by decide +kernel
theorem dX11_makeAnew_36 : decode cX11_makeAnew 36 = .ok (.invokevirtual 409, 3) := by decide +kernel
theorem dX11_makeAnew_39 : decode cX11_makeAnew 39 = .ok (.iconst 0, 1) := by decide +kernel
theorem dX11_makeAnew_40 : decode cX11_makeAnew 40 = .ok (.istore_n 3, 1) := by decide +kernel
theorem dX11_makeAnew_41 : decode cX11_makeAnew 41 = .ok (.iload_n 3, 1) := by decide +kernel
theorem dX11_makeAnew_42 : decode cX11_makeAnew 42 = .ok (.bipush 16, 2) := by decide +kernel
theorem dX11_makeAnew_44 : decode cX11_makeAnew 44 = .ok (.if_icmp .ge 27, 3) := by decide +kernel
theorem dX11_makeAnew_47 : decode cX11_makeAnew 47 = .ok (.aload_n 0, 1) := by decide +kernel
theorem dX11_makeAnew_48 : decode cX11_makeAnew 48 = .ok (.getfield 34, 3) := by decide +kernel
theorem dX11_makeAnew_51 : decode cX11_makeAnew 51 = .ok (.iload_n 3, 1) := by decide +kernel
theorem dX11_makeAnew_52 : decode cX11_makeAnew 52 = .ok (.aaload, 1) := by decide +kernel
theorem dX11_makeAnew_53 : decode cX11_makeAnew 53 = .ok (.invokevirtual 410, 3) := by decide +kernel
theorem dX11_makeAnew_56 : decode cX11_makeAnew 56 = .ok (.aload_n 0, 1) := by decide +kernel
theorem dX11_makeAnew_57 : decode cX11_makeAnew 57 = .ok (.getfield 40, 3) := by decide +kernel
theorem dX11_makeAnew_60 : decode cX11_makeAnew 60 = .ok (.iload_n 3, 1) := by decide +kernel
theorem dX11_makeAnew_61 : decode cX11_makeAnew 61 = .ok (.aaload, 1) := by decide +kernel
theorem dX11_makeAnew_62 : decode cX11_makeAnew 62 = .ok (.invokevirtual 411, 3) := by decide +kernel
theorem dX11_makeAnew_65 : decode cX11_makeAnew 65 = .ok (.iinc 3 1, 3) := by decide +kernel
theorem dX11_makeAnew_68 : decode cX11_makeAnew 68 = .ok (.goto (-27), 3) := by decide +kernel
theorem dX11_makeAnew_71 : decode cX11_makeAnew 71 = .ok (.aload_n 0, 1) := by decide +kernel
theorem dX11_makeAnew_72 : decode cX11_makeAnew 72 = .ok (.iconst 2, 1) := by decide +kernel
theorem dX11_makeAnew_73 : decode cX11_makeAnew 73 = .ok (.invokevirtual 228, 3) := by decide +kernel
theorem dX11_makeAnew_76 : decode cX11_makeAnew 76 = .ok (.return_, 1) := by decide +kernel
theorem dX11_net_0 : decode cX11_net 0 = .ok (.aload_n 0, 1) := by decide +kernel
theorem dX11_net_1 : decode cX11_net 1 = .ok (.iload_n 1, 1) := by decide +kernel
theorem dX11_net_2 : decode cX11_net 2 = .ok (.iconst 1, 1) := by decide +kernel
theorem dX11_net_3 : decode cX11_net 3 = .ok (.iconst 4, 1) := by decide +kernel
theorem dX11_net_4 : decode cX11_net 4 = .ok (.invokevirtual 87, 3) := by decide +kernel
theorem dX11_net_7 : decode cX11_net 7 = .ok (.aload_n 0, 1) := by decide +kernel
theorem dX11_net_8 : decode cX11_net 8 = .ok (.iload_n 2, 1) := by decide +kernel
theorem dX11_net_9 : decode cX11_net 9 = .ok (.iconst 1, 1) := by decide +kernel
theorem dX11_net_10 : decode cX11_net 10 = .ok (.iconst 4, 1) := by decide +kernel
theorem dX11_net_11 : decode cX11_net 11 = .ok (.invokevirtual 87, 3) := by decide +kernel
theorem dX11_net_14 : decode cX11_net 14 = .ok (.aload_n 0, 1) := by decide +kernel
theorem dX11_net_15 : decode cX11_net 15 = .ok (.iload_n 1, 1) := by decide +kernel
theorem dX11_net_16 : decode cX11_net 16 = .ok (.iload_n 2, 1) := by decide +kernel
theorem dX11_net_17 : decode cX11_net 17 = .ok (.invokevirtual 80, 3) := by decide +kernel
theorem dX11_net_20 : decode cX11_net 20 = .ok (.aload_n 0, 1) := by decide +kernel
theorem dX11_net_21 : decode cX11_net 21 = .ok (.getfield 10, 3) := by decide +kernel
theorem dX11_net_24 : decode cX11_net 24 = .ok (.getfield 106, 3) := by decide +kernel
theorem dX11_net_27 : decode cX11_net 27 = .ok (.ireturn, 1) := by decide +kernel
theorem dX11_beats_0 : decode cX11_beats 0 = .ok (.aload_n 0, 1) := by decide +kernel
theorem dX11_beats_1 : decode cX11_beats 1 = .ok (.iload_n 1, 1) := by decide +kernel
theorem dX11_beats_2 : decode cX11_beats 2 = .ok (.iconst 1, 1) := by decide +kernel
theorem dX11_beats_3 : decode cX11_beats 3 = .ok (.bipush 100, 2) := by decide +kernel
theorem dX11_beats_5 : decode cX11_beats 5 = .ok (.invokevirtual 87, 3) := by decide +kernel
theorem dX11_beats_8 : decode cX11_beats 8 = .ok (.iconst 0, 1) := by decide +kernel
theorem dX11_beats_9 : decode cX11_beats 9 = .ok (.istore_n 2, 1) := by decide +kernel
theorem dX11_beats_10 : decode cX11_beats 10 = .ok (.iload_n 2, 1) := by decide +kernel
theorem dX11_beats_11 : decode cX11_beats 11 = .ok (.iload_n 1, 1) := by decide +kernel
theorem dX11_beats_12 : decode cX11_beats 12 = .ok (.if_icmp .ge 58, 3) := by decide +kernel
theorem dX11_beats_15 : decode cX11_beats 15 = .ok (.aload_n 0, 1) := by decide +kernel
theorem dX11_beats_16 : decode cX11_beats 16 = .ok (.getfield 58, 3) := by decide +kernel
theorem dX11_beats_19 : decode cX11_beats 19 = .ok (.invokevirtual 191, 3) := by decide +kernel
theorem dX11_beats_22 : decode cX11_beats 22 = .ok (.aload_n 0, 1) := by decide +kernel
theorem dX11_beats_23 : decode cX11_beats 23 = .ok (.getfield 67, 3) := by decide +kernel
theorem dX11_beats_26 : decode cX11_beats 26 = .ok (.aload_n 0, 1) := by decide +kernel
theorem dX11_beats_27 : decode cX11_beats 27 = .ok (.getfield 58, 3) := by decide +kernel
theorem dX11_beats_30 : decode cX11_beats 30 = .ok (.getfield 95, 3) := by decide +kernel
theorem dX11_beats_33 : decode cX11_beats 33 = .ok (.invokevirtual 194, 3) := by decide +kernel
theorem dX11_beats_36 : decode cX11_beats 36 = .ok (.aload_n 0, 1) := by decide +kernel
theorem dX11_beats_37 : decode cX11_beats 37 = .ok (.getfield 58, 3) := by decide +kernel
theorem dX11_beats_40 : decode cX11_beats 40 = .ok (.invokevirtual 197, 3) := by decide +kernel
theorem dX11_beats_43 : decode cX11_beats 43 = .ok (.aload_n 0, 1) := by decide +kernel
theorem dX11_beats_44 : decode cX11_beats 44 = .ok (.getfield 58, 3) := by decide +kernel
theorem dX11_beats_47 : decode cX11_beats 47 = .ok (.invokevirtual 200, 3) := by decide +kernel
theorem dX11_beats_50 : decode cX11_beats 50 = .ok (.aload_n 0, 1) := by decide +kernel
theorem dX11_beats_51 : decode cX11_beats 51 = .ok (.getfield 67, 3) := by decide +kernel
theorem dX11_beats_54 : decode cX11_beats 54 = .ok (.invokevirtual 203, 3) := by decide +kernel
theorem dX11_beats_57 : decode cX11_beats 57 = .ok (.aload_n 0, 1) := by decide +kernel
theorem dX11_beats_58 : decode cX11_beats 58 = .ok (.getfield 58, 3) := by decide +kernel
theorem dX11_beats_61 : decode cX11_beats 61 = .ok (.invokevirtual 206, 3) := by decide +kernel
theorem dX11_beats_64 : decode cX11_beats 64 = .ok (.iinc 2 1, 3) := by decide +kernel
theorem dX11_beats_67 : decode cX11_beats 67 = .ok (.goto (-57), 3) := by decide +kernel
theorem dX11_beats_70 : decode cX11_beats 70 = .ok (.aload_n 0, 1) := by decide +kernel
theorem dX11_beats_71 : decode cX11_beats 71 = .ok (.getfield 58, 3) := by decide +kernel
theorem dX11_beats_74 : decode cX11_beats 74 = .ok (.getfield 209, 3) := by decide +kernel
theorem dX11_beats_77 : decode cX11_beats 77 = .ok (.ireturn, 1) := by decide +kernel
theorem dX11_beat_0 : decode cX11_beat 0 = .ok (.aload_n 0, 1) := by decide +kernel
theorem dX11_beat_1 : decode cX11_beat 1 = .ok (.getfield 58, 3) := by decide +kernel
theorem dX11_beat_4 : decode cX11_beat 4 = .ok (.getfield 95, 3) := by decide +kernel
theorem dX11_beat_7 : decode cX11_beat 7 = .ok (.ireturn, 1) := by decide +kernel
theorem dJ0_isLatin1_aae02_0 : decode cJ0_isLatin1_aae02 0 = .ok (.getstatic 38, 3) := by decide +kernel
theorem dJ0_isLatin1_aae02_3 : decode cJ0_isLatin1_aae02 3 = .ok (.ifCond .eq 14, 3) := by decide +kernel
theorem dJ0_isLatin1_aae02_6 : decode cJ0_isLatin1_aae02 6 = .ok (.aload_n 0, 1) := by decide +kernel
theorem dJ0_isLatin1_aae02_7 : decode cJ0_isLatin1_aae02 7 = .ok (.getfield 15, 3) := by decide +kernel
theorem dJ0_isLatin1_aae02_10 : decode cJ0_isLatin1_aae02 10 = .ok (.ifCond .ne 7, 3) := by decide +kernel
theorem dJ0_isLatin1_aae02_13 : decode cJ0_isLatin1_aae02 13 = .ok (.iconst 1, 1) := by decide +kernel
theorem dJ0_isLatin1_aae02_14 : decode cJ0_isLatin1_aae02 14 = .ok (.goto 4, 3) := by decide +kernel
theorem dJ0_isLatin1_aae02_17 : decode cJ0_isLatin1_aae02 17 = .ok (.iconst 0, 1) := by decide +kernel
theorem dJ0_isLatin1_aae02_18 : decode cJ0_isLatin1_aae02 18 = .ok (.ireturn, 1) := by decide +kernel
theorem dJ0_coder_7d493_0 : decode cJ0_coder_7d493 0 = .ok (.getstatic 38, 3) := by decide +kernel
theorem dJ0_coder_7d493_3 : decode cJ0_coder_7d493 3 = .ok (.ifCond .eq 10, 3) := by decide +kernel
theorem dJ0_coder_7d493_6 : decode cJ0_coder_7d493 6 = .ok (.aload_n 0, 1) := by decide +kernel
theorem dJ0_coder_7d493_7 : decode cJ0_coder_7d493 7 = .ok (.getfield 15, 3) := by decide +kernel
theorem dJ0_coder_7d493_10 : decode cJ0_coder_7d493 10 = .ok (.goto 4, 3) := by decide +kernel
theorem dJ0_coder_7d493_13 : decode cJ0_coder_7d493 13 = .ok (.iconst 1, 1) := by decide +kernel
theorem dJ0_coder_7d493_14 : decode cJ0_coder_7d493 14 = .ok (.ireturn, 1) := by decide +kernel
theorem dJ0_length_8abf5_0 : decode cJ0_length_8abf5 0 = .ok (.aload_n 0, 1) := by decide +kernel
theorem dJ0_length_8abf5_1 : decode cJ0_length_8abf5 1 = .ok (.getfield 9, 3) := by decide +kernel
theorem dJ0_length_8abf5_4 : decode cJ0_length_8abf5 4 = .ok (.arraylength, 1) := by decide +kernel
theorem dJ0_length_8abf5_5 : decode cJ0_length_8abf5 5 = .ok (.aload_n 0, 1) := by decide +kernel
theorem dJ0_length_8abf5_6 : decode cJ0_length_8abf5 6 = .ok (.invokevirtual 335, 3) := by decide +kernel
theorem dJ0_length_8abf5_9 : decode cJ0_length_8abf5 9 = .ok (.ishr, 1) := by decide +kernel
theorem dJ0_length_8abf5_10 : decode cJ0_length_8abf5 10 = .ok (.ireturn, 1) := by decide +kernel
theorem dJ1_canEncode_9a6ad_0 : decode cJ1_canEncode_9a6ad 0 = .ok (.iload_n 0, 1) := by decide +kernel
theorem dJ1_canEncode_9a6ad_1 : decode cJ1_canEncode_9a6ad 1 = .ok (.ifCond .lt 14, 3) := by decide +kernel
theorem dJ1_canEncode_9a6ad_4 : decode cJ1_canEncode_9a6ad 4 = .ok (.iload_n 0, 1) := by decide +kernel
theorem dJ1_canEncode_9a6ad_5 : decode cJ1_canEncode_9a6ad 5 = .ok (.sipush 255, 3) := by decide +kernel
theorem dJ1_canEncode_9a6ad_8 : decode cJ1_canEncode_9a6ad 8 = .ok (.if_icmp .gt 7, 3) := by decide +kernel
theorem dJ1_canEncode_9a6ad_11 : decode cJ1_canEncode_9a6ad 11 = .ok (.iconst 1, 1) := by decide +kernel
theorem dJ1_canEncode_9a6ad_12 : decode cJ1_canEncode_9a6ad 12 = .ok (.goto 4, 3) := by decide +kernel
theorem dJ1_canEncode_9a6ad_15 : decode cJ1_canEncode_9a6ad 15 = .ok (.iconst 0, 1) := by decide +kernel
theorem dJ1_canEncode_9a6ad_16 : decode cJ1_canEncode_9a6ad 16 = .ok (.ireturn, 1) := by decide +kernel
theorem dJ1_indexOfChar_4cfef_0 : decode cJ1_indexOfChar_4cfef 0 = .ok (.iload_n 1, 1) := by decide +kernel
theorem dJ1_indexOfChar_4cfef_1 : decode cJ1_indexOfChar_4cfef 1 = .ok (.i2b, 1) := by decide +kernel
theorem dJ1_indexOfChar_4cfef_2 : decode cJ1_indexOfChar_4cfef 2 = .ok (.istore 4, 2) := by decide +kernel
theorem dJ1_indexOfChar_4cfef_4 : decode cJ1_indexOfChar_4cfef 4 = .ok (.iload_n 2, 1) := by decide +kernel
theorem dJ1_indexOfChar_4cfef_5 : decode cJ1_indexOfChar_4cfef 5 = .ok (.istore 5, 2) := by decide +kernel
theorem dJ1_indexOfChar_4cfef_7 : decode cJ1_indexOfChar_4cfef 7 = .ok (.iload 5, 2) := by decide +kernel
theorem dJ1_indexOfChar_4cfef_9 : decode cJ1_indexOfChar_4cfef 9 = .ok (.iload_n 3, 1) := by decide +kernel
theorem dJ1_indexOfChar_4cfef_10 : decode cJ1_indexOfChar_4cfef 10 = .ok (.if_icmp .ge 21, 3) := by decide +kernel
theorem dJ1_indexOfChar_4cfef_13 : decode cJ1_indexOfChar_4cfef 13 = .ok (.aload_n 0, 1) := by decide +kernel
theorem dJ1_indexOfChar_4cfef_14 : decode cJ1_indexOfChar_4cfef 14 = .ok (.iload 5, 2) := by decide +kernel
theorem dJ1_indexOfChar_4cfef_16 : decode cJ1_indexOfChar_4cfef 16 = .ok (.baload, 1) := by decide +kernel
theorem dJ1_indexOfChar_4cfef_17 : decode cJ1_indexOfChar_4cfef 17 = .ok (.iload 4, 2) := by decide +kernel
theorem dJ1_indexOfChar_4cfef_19 : decode cJ1_indexOfChar_4cfef 19 = .ok (.if_icmp .ne 6, 3) := by decide +kernel
theorem dJ1_indexOfChar_4cfef_22 : decode cJ1_indexOfChar_4cfef 22 = .ok (.iload 5, 2) := by decide +kernel
theorem dJ1_indexOfChar_4cfef_24 : decode cJ1_indexOfChar_4cfef 24 = .ok (.ireturn, 1) := by decide +kernel
theorem dJ1_indexOfChar_4cfef_25 : decode cJ1_indexOfChar_4cfef 25 = .ok (.iinc 5 1, 3) := by decide +kernel
theorem dJ1_indexOfChar_4cfef_28 : decode cJ1_indexOfChar_4cfef 28 = .ok (.goto (-21), 3) := by decide +kernel
theorem dJ1_indexOfChar_4cfef_31 : decode cJ1_indexOfChar_4cfef 31 = .ok (.iconst (-1), 1) := by decide +kernel
theorem dJ1_indexOfChar_4cfef_32 : decode cJ1_indexOfChar_4cfef 32 = .ok (.ireturn, 1) := by decide +kernel
theorem dJ1_indexOf_4cfef_0 : decode cJ1_indexOf_4cfef 0 = .ok (.iload_n 1, 1) := by decide +kernel
theorem dJ1_indexOf_4cfef_1 : decode cJ1_indexOf_4cfef 1 = .ok (.invokestatic 88, 3) := by decide +kernel
theorem dJ1_indexOf_4cfef_4 : decode cJ1_indexOf_4cfef 4 = .ok (.ifCond .ne 5, 3) := by decide +kernel
theorem dJ1_indexOf_4cfef_7 : decode cJ1_indexOf_4cfef 7 = .ok (.iconst (-1), 1) := by decide +kernel
theorem dJ1_indexOf_4cfef_8 : decode cJ1_indexOf_4cfef 8 = .ok (.ireturn, 1) := by decide +kernel
theorem dJ1_indexOf_4cfef_9 : decode cJ1_indexOf_4cfef 9 = .ok (.iload_n 2, 1) := by decide +kernel
theorem dJ1_indexOf_4cfef_10 : decode cJ1_indexOf_4cfef 10 = .ok (.iconst 0, 1) := by decide +kernel
theorem dJ1_indexOf_4cfef_11 : decode cJ1_indexOf_4cfef 11 = .ok (.invokestatic 92, 3) := by decide +kernel
theorem dJ1_indexOf_4cfef_14 : decode cJ1_indexOf_4cfef 14 = .ok (.istore_n 2, 1) := by decide +kernel
theorem dJ1_indexOf_4cfef_15 : decode cJ1_indexOf_4cfef 15 = .ok (.iload_n 3, 1) := by decide +kernel
theorem dJ1_indexOf_4cfef_16 : decode cJ1_indexOf_4cfef 16 = .ok (.aload_n 0, 1) := by decide +kernel
theorem dJ1_indexOf_4cfef_17 : decode cJ1_indexOf_4cfef 17 = .ok (.arraylength, 1) := by decide +kernel
theorem dJ1_indexOf_4cfef_18 : decode cJ1_indexOf_4cfef 18 = .ok (.invokestatic 38, 3) := by decide +kernel
theorem dJ1_indexOf_4cfef_21 : decode cJ1_indexOf_4cfef 21 = .ok (.istore_n 3, 1) := by decide +kernel
theorem dJ1_indexOf_4cfef_22 : decode cJ1_indexOf_4cfef 22 = .ok (.iload_n 2, 1) := by decide +kernel
theorem dJ1_indexOf_4cfef_23 : decode cJ1_indexOf_4cfef 23 = .ok (.iload_n 3, 1) := by decide +kernel
theorem dJ1_indexOf_4cfef_24 : decode cJ1_indexOf_4cfef 24 = .ok (.if_icmp .lt 5, 3) := by decide +kernel
theorem dJ1_indexOf_4cfef_27 : decode cJ1_indexOf_4cfef 27 = .ok (.iconst (-1), 1) := by decide +kernel
theorem dJ1_indexOf_4cfef_28 : decode cJ1_indexOf_4cfef 28 = .ok (.ireturn, 1) := by decide +kernel
theorem dJ1_indexOf_4cfef_29 : decode cJ1_indexOf_4cfef 29 = .ok (.aload_n 0, 1) := by decide +kernel
theorem dJ1_indexOf_4cfef_30 : decode cJ1_indexOf_4cfef 30 = .ok (.iload_n 1, 1) := by decide +kernel
theorem dJ1_indexOf_4cfef_31 : decode cJ1_indexOf_4cfef 31 = .ok (.iload_n 2, 1) := by decide +kernel
theorem dJ1_indexOf_4cfef_32 : decode cJ1_indexOf_4cfef 32 = .ok (.iload_n 3, 1) := by decide +kernel
theorem dJ1_indexOf_4cfef_33 : decode cJ1_indexOf_4cfef 33 = .ok (.invokestatic 95, 3) := by decide +kernel
theorem dJ1_indexOf_4cfef_36 : decode cJ1_indexOf_4cfef 36 = .ok (.ireturn, 1) := by decide +kernel
theorem dJ0_indexOf_7cf53_0 : decode cJ0_indexOf_7cf53 0 = .ok (.aload_n 0, 1) := by decide +kernel
theorem dJ0_indexOf_7cf53_1 : decode cJ0_indexOf_7cf53 1 = .ok (.invokevirtual 492, 3) := by decide +kernel
theorem dJ0_indexOf_7cf53_4 : decode cJ0_indexOf_7cf53 4 = .ok (.ifCond .eq 19, 3) := by decide +kernel
theorem dJ0_indexOf_7cf53_7 : decode cJ0_indexOf_7cf53 7 = .ok (.aload_n 0, 1) := by decide +kernel
theorem dJ0_indexOf_7cf53_8 : decode cJ0_indexOf_7cf53 8 = .ok (.getfield 9, 3) := by decide +kernel
theorem dJ0_indexOf_7cf53_11 : decode cJ0_indexOf_7cf53 11 = .ok (.iload_n 1, 1) := by decide +kernel
theorem dJ0_indexOf_7cf53_12 : decode cJ0_indexOf_7cf53 12 = .ok (.iload_n 2, 1) := by decide +kernel
theorem dJ0_indexOf_7cf53_13 : decode cJ0_indexOf_7cf53 13 = .ok (.aload_n 0, 1) := by decide +kernel
theorem dJ0_indexOf_7cf53_14 : decode cJ0_indexOf_7cf53 14 = .ok (.invokevirtual 505, 3) := by decide +kernel
theorem dJ0_indexOf_7cf53_17 : decode cJ0_indexOf_7cf53 17 = .ok (.invokestatic 637, 3) := by decide +kernel
theorem dJ0_indexOf_7cf53_20 : decode cJ0_indexOf_7cf53 20 = .ok (.goto 16, 3) := by decide +kernel
theorem dJ0_indexOf_7cf53_23 : decode cJ0_indexOf_7cf53 23 = .ok (.aload_n 0, 1) := by decide +kernel
theorem dJ0_indexOf_7cf53_36 : decode cJ0_indexOf_7cf53 36 = .ok (.ireturn, 1) := by decide +kernel
theorem dJ0_indexOf_0f7a4_0 : decode cJ0_indexOf_0f7a4 0 = .ok (.aload_n 0, 1) := by decide +kernel
theorem dJ0_indexOf_0f7a4_1 : decode cJ0_indexOf_0f7a4 1 = .ok (.iload_n 1, 1) := by decide +kernel
theorem dJ0_indexOf_0f7a4_2 : decode cJ0_indexOf_0f7a4 2 = .ok (.iconst 0, 1) := by decide +kernel
theorem dJ0_indexOf_0f7a4_3 : decode cJ0_indexOf_0f7a4 3 = .ok (.invokevirtual 633, 3) := by decide +kernel
theorem dJ0_indexOf_0f7a4_6 : decode cJ0_indexOf_0f7a4 6 = .ok (.ireturn, 1) := by decide +kernel
theorem dX11_way_0 : decode cX11_way 0 = .ok (.ldc 213, 2) := by decide +kernel
theorem dX11_way_2 : decode cX11_way 2 = .ok (.iload_n 1, 1) := by decide +kernel
theorem dX11_way_3 : decode cX11_way 3 = .ok (.invokevirtual 215, 3) := by decide +kernel
theorem dX11_way_6 : decode cX11_way 6 = .ok (.ifCond .ge 13, 3) := by decide +kernel
theorem dX11_way_9 : decode cX11_way 9 = .ok (.new 109, 3) := by decide +kernel
theorem dX11_way_12 : decode cX11_way 12 = .ok (.dup, 1) := by decide +kernel
theorem dX11_way_13 : decode cX11_way 13 = .ok (.ldc 220, 2) := by decide +kernel
theorem dX11_way_15 : decode cX11_way 15 = .ok (.invokespecial 113, 3) := by decide +kernel
theorem dX11_way_18 : decode cX11_way 18 = .ok (.athrow, 1) := by decide +kernel
theorem dX11_way_19 : decode cX11_way 19 = .ok (.aload_n 0, 1) := by decide +kernel
theorem dX11_way_20 : decode cX11_way 20 = .ok (.getfield 49, 3) := by decide +kernel
theorem dX11_way_23 : decode cX11_way 23 = .ok (.getfield 222, 3) := by decide +kernel
theorem dX11_way_26 : decode cX11_way 26 = .ok (.istore_n 2, 1) := by decide +kernel
theorem dX11_way_27 : decode cX11_way 27 = .ok (.aload_n 0, 1) := by decide +kernel
theorem dX11_way_28 : decode cX11_way 28 = .ok (.getfield 49, 3) := by decide +kernel
theorem dX11_way_31 : decode cX11_way 31 = .ok (.iload_n 1, 1) := by decide +kernel
theorem dX11_way_32 : decode cX11_way 32 = .ok (.putfield 222, 3) := by decide +kernel
theorem dX11_way_35 : decode cX11_way 35 = .ok (.iload_n 2, 1) := by decide +kernel
theorem dX11_way_36 : decode cX11_way 36 = .ok (.ireturn, 1) := by decide +kernel
def f_Y_multicast_b21 (μ : me_M) : Option (me_M × (Except Nat Int32)) :=
  some (μ, .error 2)
set_option maxHeartbeats 4000000 in
set_option maxRecDepth 100000 in
theorem z_Y_multicast_b21 {X : me_X} {B : me_B} {sz : Nat} (C : me_C X B RX11 cX11_multicast 6 (some .int)) {μ : me_M}    {r : me_M × (Except Nat Int32)} (N : me_En X B sz (B, r.1, me_xc (fun v => some (me_i v)) r.2) 7 111 2 12) (hNx : me_Nx X) (hB : me_St B)   (hf : f_Y_multicast_b21 μ = some r) : me_Z X B 1 6 μ 21 [] [] := by
  unfold f_Y_multicast_b21 at hf
  exact me_throw C N hNx 2 cl_Y_109 ie_2 sr_Y_111 tw_Y_113 ft_2 dX11_multicast_21 dX11_multicast_24 dX11_multicast_25 dX11_multicast_27 dX11_multicast_30 ⟨by decide, by decide⟩ (Nat.le_of_ble_eq_true rfl) ⟨by decide, by decide⟩ (by cases hf; rfl)
def f_Y_multicast_b46 (K46 : me_M → Int32 → Int32 → Int32 → Int32 → Int32 → Option (me_M × (Except Nat Int32))) (μ : me_M) (v1 : Int32) (v2 : Int32) (v3 : Int32) (v4 : Int32) (v5 : Int32) : Option (me_M × (Except Nat Int32)) :=
  if (μ 1 0 4) ≤ v5 then
  (some (μ, .ok v4))
  else
  (if ((me_ushr v2 v5) &&& (1 : Int32)) = 0 then
  (me_lt (me_inc v5 (1)) (fun x3 =>
  K46 μ v1 v2 v3 v4 x3))
  else
  (me_b2 (f_Post_make μ (109 : Int32) v1 v5 v3 (1 : Int32) (μ 30 0 5)) (fun μ5 r4 =>
  me_lt (me_inc v5 (1)) (fun x6 =>
  K46 μ5 v1 v2 v3 v4 x6))))
set_option maxHeartbeats 4000000 in
set_option maxRecDepth 100000 in
theorem z_Y_multicast_b46 {X : me_X} {B : me_B} {sz : Nat} (C : me_C X B RX11 cX11_multicast 6 (some .int)) {μ : me_M} {v1 : Int32} {v2 : Int32} {v3 : Int32} {v4 : Int32} {v5 : Int32}  {K46 : me_M → Int32 → Int32 → Int32 → Int32 → Int32 → Option (me_M × (Except Nat Int32))} {r : me_M × (Except Nat Int32)} (N : me_En X B sz (B, r.1, me_xc (fun v => some (me_i v)) r.2) 7 111 2 12) (hNx : me_Nx X) (hB : me_St B) (hK46 : ∀ (μ : me_M) (v1 : Int32) (v2 : Int32) (v3 : Int32) (v4 : Int32) (v5 : Int32), K46 μ v1 v2 v3 v4 v5 = some r → me_Z X B 2 12 μ 46 [(0, me_r 0 0), (1, me_i v1), (2, me_i v2), (3, me_i v3), (4, me_i v4), (5, me_i v5)] [])  (hf : f_Y_multicast_b46 K46 μ v1 v2 v3 v4 v5 = some r) : me_Z X B 2 12 μ 46 [(0, me_r 0 0), (1, me_i v1), (2, me_i v2), (3, me_i v3), (4, me_i v4), (5, me_i v5)] [] := by
  unfold f_Y_multicast_b46 at hf
  refine me_iload C dX11_multicast_46 rfl ?_
  refine me_aload_n C 0 (Or.inr (Or.inl ⟨_, rfl⟩)) dX11_multicast_48 rfl rfl ?_
  refine me_getr C hB 0 (k' := 1) (i' := 0) fg_Y_10 dX11_multicast_49 rfl rfl ?_
  refine me_geti C 4 fg_Y_106 dX11_multicast_52 rfl ?_
  refine me_icmp_ge C (tgt := 95) dX11_multicast_55 (by decide) (fun c1 => ?_) (fun c1 => ?_)
  · replace hf := me_ip c1 hf
    refine me_iload C dX11_multicast_95 rfl ?_
    exact me_iret C N dX11_multicast_97 (me_nri _) (by cases hf; rfl) (by decide) (by decide)
  · replace hf := me_in c1 hf
    refine me_iload_n C 2 dX11_multicast_58 rfl rfl ?_
    refine me_iload C dX11_multicast_59 rfl ?_
    refine me_iushr C dX11_multicast_61 ?_
    refine me_iconst C (v := 1) dX11_multicast_62 (by decide) ?_
    refine me_iand C dX11_multicast_63 ?_
    refine me_if_eq C (tgt := 89) dX11_multicast_64 (by decide) (fun c2 => ?_) (fun c2 => ?_)
    · replace hf := me_ip c2 hf
      obtain ⟨x3, e_x3, hf⟩ := me_lts hf
      refine me_iinc C (v := x3) (L' := [(5, me_i x3), (0, me_r 0 0), (1, me_i v1), (2, me_i v2), (3, me_i v3), (4, me_i v4)]) dX11_multicast_89 rfl e_x3.symm (by decide) rfl ?_
      refine me_goto C (tgt := 46) dX11_multicast_92 (by decide) ?_
      refine me_dropI [(0, me_r 0 0), (1, me_i v1), (2, me_i v2), (3, me_i v3), (4, me_i v4), (5, me_i x3)] [1, 2, 3, 4, 5, 0] rfl ?_
      exact hK46 μ v1 v2 v3 v4 x3 hf
    · replace hf := me_in c2 hf
      refine me_aload_n C 0 (Or.inr (Or.inl ⟨_, rfl⟩)) dX11_multicast_67 rfl rfl ?_
      refine me_getr C hB 1 (k' := 6) (i' := 0) fg_Y_19 dX11_multicast_68 rfl rfl ?_
      refine me_bipush C (v := 109) dX11_multicast_71 (by decide) ?_
      refine me_iload_n C 1 dX11_multicast_73 rfl rfl ?_
      refine me_iload C dX11_multicast_74 rfl ?_
      refine me_iload_n C 3 dX11_multicast_76 rfl rfl ?_
      refine me_iconst C (v := 1) dX11_multicast_77 (by decide) ?_
      refine me_aload_n C 0 (Or.inr (Or.inl ⟨_, rfl⟩)) dX11_multicast_78 rfl rfl ?_
      refine me_getr C hB 6 (k' := 30) (i' := 0) fg_Y_58 dX11_multicast_79 rfl rfl ?_
      refine me_geti C 5 fg_Y_95 dX11_multicast_82 rfl ?_
      obtain ⟨μ5, r4, h_r4, hf⟩ := me_bs2 hf
      refine me_callV C N  (As := [me_i (109 : Int32), me_i v1, me_i v5, me_i v3, me_i (1 : Int32), me_i (μ 30 0 5)]) (st := []) 2 12 (c_Post_make hB h_r4) mv_Post_make ml_Y_99 rfl rfl dX11_multicast_85 rfl rfl ⟨by decide, by decide⟩ ⟨by decide, by decide, by decide, by decide⟩ (Nat.le_of_ble_eq_true rfl) ?_
      refine me_pop C rfl dX11_multicast_88 ?_
      obtain ⟨x6, e_x6, hf⟩ := me_lts hf
      refine me_iinc C (v := x6) (L' := [(5, me_i x6), (0, me_r 0 0), (1, me_i v1), (2, me_i v2), (3, me_i v3), (4, me_i v4)]) dX11_multicast_89 rfl e_x6.symm (by decide) rfl ?_
      refine me_goto C (tgt := 46) dX11_multicast_92 (by decide) ?_
      refine me_dropI [(0, me_r 0 0), (1, me_i v1), (2, me_i v2), (3, me_i v3), (4, me_i v4), (5, me_i x6)] [1, 2, 3, 4, 5, 0] rfl ?_
      exact hK46 μ5 v1 v2 v3 v4 x6 hf
def f_Y_multicast_h46  : Nat → me_M → Int32 → Int32 → Int32 → Int32 → Int32 → Option (me_M × (Except Nat Int32))
  | 0, _, _, _, _, _, _ => none
  | n + 1, μ, v1, v2, v3, v4, v5 => f_Y_multicast_b46 (f_Y_multicast_h46 n) μ v1 v2 v3 v4 v5
set_option maxHeartbeats 4000000 in
set_option maxRecDepth 100000 in
theorem z_Y_multicast_h46 {X : me_X} {B : me_B} {sz : Nat} (C : me_C X B RX11 cX11_multicast 6 (some .int))  {r : me_M × (Except Nat Int32)} (N : me_En X B sz (B, r.1, me_xc (fun v => some (me_i v)) r.2) 7 111 2 12) (hNx : me_Nx X) (hB : me_St B)  : ∀ (n : Nat) (μ : me_M) (v1 : Int32) (v2 : Int32) (v3 : Int32) (v4 : Int32) (v5 : Int32), f_Y_multicast_h46 n μ v1 v2 v3 v4 v5 = some r → me_Z X B 2 12 μ 46 [(0, me_r 0 0), (1, me_i v1), (2, me_i v2), (3, me_i v3), (4, me_i v4), (5, me_i v5)] [] := by
  intro n
  induction n with
  | zero => intro μ v1 v2 v3 v4 v5  h; exact absurd (show (none : Option (me_M × (Except Nat Int32))) = some r from h) (fun q => by cases q)
  | succ n ih => intro μ v1 v2 v3 v4 v5  h; exact z_Y_multicast_b46 C N hNx hB  (K46 := f_Y_multicast_h46 n) ih  h
def f_Y_multicast (μ : me_M) (v1 : Int32) (v2 : Int32) (v3 : Int32) : Option (me_M × (Except Nat Int32)) :=
  me_bd (f_Y_needNode μ v1) (fun r1 =>
  me_xb2 r1 μ (fun r1 =>
  if v2 = 0 then
  (f_Y_multicast_b21 μ)
  else
  (if (me_ushr v2 (μ 1 0 4)) = 0 then
  (me_bd (f_Int_bitCount μ v2) (fun r4 =>
  me_bd (f_Y_needRoom μ r4) (fun r5 =>
  me_xb2 r5 μ (fun r5 =>
  f_Y_multicast_h46 me_FU μ v1 v2 v3 r4 (0 : Int32)))))
  else
  (f_Y_multicast_b21 μ))))
set_option maxHeartbeats 4000000 in
set_option maxRecDepth 100000 in
theorem z_Y_multicast {X : me_X} {B : me_B} {sz : Nat} (C : me_C X B RX11 cX11_multicast 6 (some .int)) {μ : me_M} {v1 : Int32} {v2 : Int32} {v3 : Int32}   {r : me_M × (Except Nat Int32)} (N : me_En X B sz (B, r.1, me_xc (fun v => some (me_i v)) r.2) 7 111 2 12) (hNx : me_Nx X) (hB : me_St B)   (hf : f_Y_multicast μ v1 v2 v3 = some r) : me_Z X B 0 0 μ 0 [(0, me_r 0 0), (1, me_i v1), (2, me_i v2), (3, me_i v3)] [] := by
  unfold f_Y_multicast at hf
  refine me_aload_n C 0 (Or.inr (Or.inl ⟨_, rfl⟩)) dX11_multicast_0 rfl rfl ?_
  refine me_iload_n C 1 dX11_multicast_1 rfl rfl ?_
  obtain ⟨r1, h_r1, hf⟩ := me_bs hf
  rcases r1 with r1 | r1
  · replace hf := me_xb2e hf
    refine me_callVE C N  (As := [me_i v1]) (st := []) 1 6 (c_Y_needNode hB h_r1) mv_Y_needNode ml_Y_103 rfl rfl dX11_multicast_2 rfl rfl ⟨by decide, by decide⟩ ⟨by decide, by decide, by decide, by decide⟩ (Nat.le_of_ble_eq_true rfl) ?_
    exact me_outX C N hNx (by cases hf; rfl) (by decide) (by decide)
  replace hf := me_xb2o hf
  refine me_callV0 C N  (As := [me_i v1]) (st := []) 1 6 (c_Y_needNode hB h_r1) mv_Y_needNode ml_Y_103 rfl rfl dX11_multicast_2 rfl rfl ⟨by decide, by decide⟩ ⟨by decide, by decide, by decide, by decide⟩ (Nat.le_of_ble_eq_true rfl) ?_
  refine me_iload_n C 2 dX11_multicast_5 rfl rfl ?_
  refine me_if_eq C (tgt := 21) dX11_multicast_6 (by decide) (fun c2 => ?_) (fun c2 => ?_)
  · replace hf := me_ip c2 hf
    refine me_dropI [] [] rfl ?_
    exact z_Y_multicast_b21 C N hNx hB hf
  · replace hf := me_in c2 hf
    refine me_iload_n C 2 dX11_multicast_9 rfl rfl ?_
    refine me_aload_n C 0 (Or.inr (Or.inl ⟨_, rfl⟩)) dX11_multicast_10 rfl rfl ?_
    refine me_getr C hB 0 (k' := 1) (i' := 0) fg_Y_10 dX11_multicast_11 rfl rfl ?_
    refine me_geti C 4 fg_Y_106 dX11_multicast_14 rfl ?_
    refine me_iushr C dX11_multicast_17 ?_
    refine me_if_eq C (tgt := 31) dX11_multicast_18 (by decide) (fun c3 => ?_) (fun c3 => ?_)
    · replace hf := me_ip c3 hf
      refine me_iload_n C 2 dX11_multicast_31 rfl rfl ?_
      obtain ⟨r4, h_r4, hf⟩ := me_bs hf
      refine me_callS C N  (As := [me_i v2]) (st := []) 1 6 (c_Int_bitCount hB h_r4) ms_Int_bitCount ml_Y_116 dX11_multicast_32 rfl rfl ⟨by decide, by decide⟩ ⟨by decide, by decide, by decide, by decide⟩ (Nat.le_of_ble_eq_true rfl) ?_
      refine me_istore C dX11_multicast_35 (by decide) (L' := [(4, me_i r4), (0, me_r 0 0), (1, me_i v1), (2, me_i v2), (3, me_i v3)]) rfl ?_
      refine me_aload_n C 0 (Or.inr (Or.inl ⟨_, rfl⟩)) dX11_multicast_37 rfl rfl ?_
      refine me_iload C dX11_multicast_38 rfl ?_
      obtain ⟨r5, h_r5, hf⟩ := me_bs hf
      rcases r5 with r5 | r5
      · replace hf := me_xb2e hf
        refine me_callVE C N  (As := [me_i r4]) (st := []) 2 12 (c_Y_needRoom hB h_r5) mv_Y_needRoom ml_Y_91 rfl rfl dX11_multicast_40 rfl rfl ⟨by decide, by decide⟩ ⟨by decide, by decide, by decide, by decide⟩ (Nat.le_of_ble_eq_true rfl) ?_
        exact me_outX C N hNx (by cases hf; rfl) (by decide) (by decide)
      replace hf := me_xb2o hf
      refine me_callV0 C N  (As := [me_i r4]) (st := []) 2 12 (c_Y_needRoom hB h_r5) mv_Y_needRoom ml_Y_91 rfl rfl dX11_multicast_40 rfl rfl ⟨by decide, by decide⟩ ⟨by decide, by decide, by decide, by decide⟩ (Nat.le_of_ble_eq_true rfl) ?_
      refine me_iconst C (v := 0) dX11_multicast_43 (by decide) ?_
      refine me_istore C dX11_multicast_44 (by decide) (L' := [(5, me_i (0 : Int32)), (4, me_i r4), (0, me_r 0 0), (1, me_i v1), (2, me_i v2), (3, me_i v3)]) rfl ?_
      refine me_dropI [(0, me_r 0 0), (1, me_i v1), (2, me_i v2), (3, me_i v3), (4, me_i r4), (5, me_i (0 : Int32))] [2, 3, 4, 5, 1, 0] rfl ?_
      exact z_Y_multicast_h46 C N hNx hB me_FU μ v1 v2 v3 r4 (0 : Int32) hf
    · replace hf := me_in c3 hf
      refine me_dropI [] [] rfl ?_
      exact z_Y_multicast_b21 C N hNx hB hf
theorem c_Y_multicast {B : me_B} (hB : me_St B) {μ : me_M} {v1 : Int32} {v2 : Int32} {v3 : Int32} {μ' : me_M} {r : Except Nat Int32}  (hf : f_Y_multicast μ v1 v2 v3 = some (μ', r)) : ∀ l E z, l.stackTraces = false → me_Met l yX11_multicast cX11_multicast 6 (some .int) 7 111 2 12 E B μ z [me_r 0 0, me_i v1, me_i v2, me_i v3] (B, μ', me_xc (fun v => some (me_i v)) r) :=
  fun _ _ _ hl => me_ofZ hl (by decide +kernel) (Nat.le_of_ble_eq_true rfl) (fun _ C N hNx => z_Y_multicast C N hNx hB  hf)

def f_Y_ask_b76 (μ : me_M) (v6 : Int32) (s0 : Int32) (s1 : Nat) : Option (me_M × (Except Nat Int32)) :=
  me_lt (me_up μ 8 s1 13 s0) (fun μ1 =>
  some (μ1, .ok v6))
set_option maxHeartbeats 4000000 in
set_option maxRecDepth 100000 in
theorem z_Y_ask_b76 {X : me_X} {B : me_B} {sz : Nat} (C : me_C X B RX11 cX11_ask 8 (some .int)) {μ : me_M} {v6 : Int32} {s0 : Int32} {s1 : Nat}   {r : me_M × (Except Nat Int32)} (N : me_En X B sz (B, r.1, me_xc (fun v => some (me_i v)) r.2) 8 133 4 24) (hNx : me_Nx X) (hB : me_St B)   (hf : f_Y_ask_b76 μ v6 s0 s1 = some r) : me_Z X B 4 24 μ 76 [(6, me_i v6)] [me_i s0, me_r 8 s1] := by
  unfold f_Y_ask_b76 at hf
  obtain ⟨μ1, e_μ1, hf⟩ := me_lts hf
  refine me_puti C 13 fw_Y_131 dX11_ask_76 rfl (me_nri _) e_μ1 ?_
  refine me_iload C dX11_ask_79 rfl ?_
  exact me_iret C N dX11_ask_81 (me_nri _) (by cases hf; rfl) (by decide) (by decide)
def f_Y_ask (μ : me_M) (v1 : Int32) (v2 : Int32) (v3 : Int32) (v4 : Int32) (v5 : Int32) : Option (me_M × (Except Nat Int32)) :=
  me_bd (f_Y_needNodes μ v1 v2) (fun r1 =>
  me_xb2 r1 μ (fun r1 =>
  me_bd (f_Y_needRange μ v3 (0 : Int32) (7 : Int32)) (fun r2 =>
  me_xb2 r2 μ (fun r2 =>
  me_bd (f_Y_needRoom μ (2 : Int32)) (fun r3 =>
  me_xb2 r3 μ (fun r3 =>
  me_b2 (f_Post_make μ (113 : Int32) v1 v2 (0 : Int32) (1 : Int32) (μ 30 0 5)) (fun μ5 r4 =>
  me_bd (f_Post_find μ5 r4) (fun r6 =>
  me_oq r6
  (some (μ5, .ok r4))
  (fun r6i => me_lt (me_up μ5 8 r6i 12 v3) (fun μ7 =>
  if v4 = 0 then
  (f_Y_ask_b76 μ7 r4 (0 : Int32) r6i)
  else
  (f_Y_ask_b76 μ7 r4 v5 r6i)))))))))))
set_option maxHeartbeats 4000000 in
set_option maxRecDepth 100000 in
theorem z_Y_ask {X : me_X} {B : me_B} {sz : Nat} (C : me_C X B RX11 cX11_ask 8 (some .int)) {μ : me_M} {v1 : Int32} {v2 : Int32} {v3 : Int32} {v4 : Int32} {v5 : Int32}   {r : me_M × (Except Nat Int32)} (N : me_En X B sz (B, r.1, me_xc (fun v => some (me_i v)) r.2) 8 133 4 24) (hNx : me_Nx X) (hB : me_St B)   (hf : f_Y_ask μ v1 v2 v3 v4 v5 = some r) : me_Z X B 0 0 μ 0 [(0, me_r 0 0), (1, me_i v1), (2, me_i v2), (3, me_i v3), (4, me_i v4), (5, me_i v5)] [] := by
  unfold f_Y_ask at hf
  refine me_aload_n C 0 (Or.inr (Or.inl ⟨_, rfl⟩)) dX11_ask_0 rfl rfl ?_
  refine me_iload_n C 1 dX11_ask_1 rfl rfl ?_
  refine me_iload_n C 2 dX11_ask_2 rfl rfl ?_
  obtain ⟨r1, h_r1, hf⟩ := me_bs hf
  rcases r1 with r1 | r1
  · replace hf := me_xb2e hf
    refine me_callVE C N  (As := [me_i v1, me_i v2]) (st := []) 2 12 (c_Y_needNodes hB h_r1) mv_Y_needNodes ml_Y_84 rfl rfl dX11_ask_3 rfl rfl ⟨by decide, by decide⟩ ⟨by decide, by decide, by decide, by decide⟩ (Nat.le_of_ble_eq_true rfl) ?_
    exact me_outX C N hNx (by cases hf; rfl) (by decide) (by decide)
  replace hf := me_xb2o hf
  refine me_callV0 C N  (As := [me_i v1, me_i v2]) (st := []) 2 12 (c_Y_needNodes hB h_r1) mv_Y_needNodes ml_Y_84 rfl rfl dX11_ask_3 rfl rfl ⟨by decide, by decide⟩ ⟨by decide, by decide, by decide, by decide⟩ (Nat.le_of_ble_eq_true rfl) ?_
  refine me_aload_n C 0 (Or.inr (Or.inl ⟨_, rfl⟩)) dX11_ask_6 rfl rfl ?_
  refine me_iload_n C 3 dX11_ask_7 rfl rfl ?_
  refine me_iconst C (v := 0) dX11_ask_8 (by decide) ?_
  refine me_bipush C (v := 7) dX11_ask_9 (by decide) ?_
  obtain ⟨r2, h_r2, hf⟩ := me_bs hf
  rcases r2 with r2 | r2
  · replace hf := me_xb2e hf
    refine me_callVE C N  (As := [me_i v3, me_i (0 : Int32), me_i (7 : Int32)]) (st := []) 3 18 (c_Y_needRange hB h_r2) mv_Y_needRange ml_Y_87 rfl rfl dX11_ask_11 rfl rfl ⟨by decide, by decide⟩ ⟨by decide, by decide, by decide, by decide⟩ (Nat.le_of_ble_eq_true rfl) ?_
    exact me_outX C N hNx (by cases hf; rfl) (by decide) (by decide)
  replace hf := me_xb2o hf
  refine me_callV0 C N  (As := [me_i v3, me_i (0 : Int32), me_i (7 : Int32)]) (st := []) 3 18 (c_Y_needRange hB h_r2) mv_Y_needRange ml_Y_87 rfl rfl dX11_ask_11 rfl rfl ⟨by decide, by decide⟩ ⟨by decide, by decide, by decide, by decide⟩ (Nat.le_of_ble_eq_true rfl) ?_
  refine me_aload_n C 0 (Or.inr (Or.inl ⟨_, rfl⟩)) dX11_ask_14 rfl rfl ?_
  refine me_iconst C (v := 2) dX11_ask_15 (by decide) ?_
  obtain ⟨r3, h_r3, hf⟩ := me_bs hf
  rcases r3 with r3 | r3
  · replace hf := me_xb2e hf
    refine me_callVE C N  (As := [me_i (2 : Int32)]) (st := []) 4 24 (c_Y_needRoom hB h_r3) mv_Y_needRoom ml_Y_91 rfl rfl dX11_ask_16 rfl rfl ⟨by decide, by decide⟩ ⟨by decide, by decide, by decide, by decide⟩ (Nat.le_of_ble_eq_true rfl) ?_
    exact me_outX C N hNx (by cases hf; rfl) (by decide) (by decide)
  replace hf := me_xb2o hf
  refine me_callV0 C N  (As := [me_i (2 : Int32)]) (st := []) 4 24 (c_Y_needRoom hB h_r3) mv_Y_needRoom ml_Y_91 rfl rfl dX11_ask_16 rfl rfl ⟨by decide, by decide⟩ ⟨by decide, by decide, by decide, by decide⟩ (Nat.le_of_ble_eq_true rfl) ?_
  refine me_aload_n C 0 (Or.inr (Or.inl ⟨_, rfl⟩)) dX11_ask_19 rfl rfl ?_
  refine me_getr C hB 1 (k' := 6) (i' := 0) fg_Y_19 dX11_ask_20 rfl rfl ?_
  refine me_bipush C (v := 113) dX11_ask_23 (by decide) ?_
  refine me_iload_n C 1 dX11_ask_25 rfl rfl ?_
  refine me_iload_n C 2 dX11_ask_26 rfl rfl ?_
  refine me_iconst C (v := 0) dX11_ask_27 (by decide) ?_
  refine me_iconst C (v := 1) dX11_ask_28 (by decide) ?_
  refine me_aload_n C 0 (Or.inr (Or.inl ⟨_, rfl⟩)) dX11_ask_29 rfl rfl ?_
  refine me_getr C hB 6 (k' := 30) (i' := 0) fg_Y_58 dX11_ask_30 rfl rfl ?_
  refine me_geti C 5 fg_Y_95 dX11_ask_33 rfl ?_
  obtain ⟨μ5, r4, h_r4, hf⟩ := me_bs2 hf
  refine me_callV C N  (As := [me_i (113 : Int32), me_i v1, me_i v2, me_i (0 : Int32), me_i (1 : Int32), me_i (μ 30 0 5)]) (st := []) 4 24 (c_Post_make hB h_r4) mv_Post_make ml_Y_99 rfl rfl dX11_ask_36 rfl rfl ⟨by decide, by decide⟩ ⟨by decide, by decide, by decide, by decide⟩ (Nat.le_of_ble_eq_true rfl) ?_
  refine me_istore C dX11_ask_39 (by decide) (L' := [(6, me_i r4), (0, me_r 0 0), (1, me_i v1), (2, me_i v2), (3, me_i v3), (4, me_i v4), (5, me_i v5)]) rfl ?_
  refine me_aload_n C 0 (Or.inr (Or.inl ⟨_, rfl⟩)) dX11_ask_41 rfl rfl ?_
  refine me_getr C hB 1 (k' := 6) (i' := 0) fg_Y_19 dX11_ask_42 rfl rfl ?_
  refine me_iload C dX11_ask_45 rfl ?_
  obtain ⟨r6, h_r6, hf⟩ := me_bs hf
  refine me_callV C N  (As := [me_i r4]) (st := []) 4 24 (c_Post_find hB h_r6) mv_Post_find ml_Y_122 rfl rfl dX11_ask_47 rfl rfl ⟨by decide, by decide⟩ ⟨by decide, by decide, by decide, by decide⟩ (Nat.le_of_ble_eq_true rfl) ?_
  rcases r6 with _ | r6i
  · replace hf := me_oqn hf
    refine me_astore C (Or.inl rfl) dX11_ask_50 (by decide) (L' := [(7, me_n), (6, me_i r4), (0, me_r 0 0), (1, me_i v1), (2, me_i v2), (3, me_i v3), (4, me_i v4), (5, me_i v5)]) rfl ?_
    refine me_aload C (Or.inl rfl) dX11_ask_52 rfl ?_
    refine me_ifnull_n C (tgt := 79) dX11_ask_54 (by decide) ?_
    refine me_iload C dX11_ask_79 rfl ?_
    exact me_iret C N dX11_ask_81 (me_nri _) (by cases hf; rfl) (by decide) (by decide)
  · replace hf := me_oqs hf
    refine me_astore C (Or.inr (Or.inl ⟨_, rfl⟩)) dX11_ask_50 (by decide) (L' := [(7, me_r 8 r6i), (6, me_i r4), (0, me_r 0 0), (1, me_i v1), (2, me_i v2), (3, me_i v3), (4, me_i v4), (5, me_i v5)]) rfl ?_
    refine me_aload C (Or.inr (Or.inl ⟨_, rfl⟩)) dX11_ask_52 rfl ?_
    refine me_ifnull_r C dX11_ask_54 ?_
    refine me_aload C (Or.inr (Or.inl ⟨_, rfl⟩)) dX11_ask_57 rfl ?_
    refine me_iload_n C 3 dX11_ask_59 rfl rfl ?_
    obtain ⟨μ7, e_μ7, hf⟩ := me_lts hf
    refine me_puti C 12 fw_Y_126 dX11_ask_60 rfl (me_nri _) e_μ7 ?_
    refine me_aload C (Or.inr (Or.inl ⟨_, rfl⟩)) dX11_ask_63 rfl ?_
    refine me_iload C dX11_ask_65 rfl ?_
    refine me_if_eq C (tgt := 75) dX11_ask_67 (by decide) (fun c8 => ?_) (fun c8 => ?_)
    · replace hf := me_ip c8 hf
      refine me_iconst C (v := 0) dX11_ask_75 (by decide) ?_
      refine me_dropI [(6, me_i r4)] [1] rfl ?_
      exact z_Y_ask_b76 C N hNx hB hf
    · replace hf := me_in c8 hf
      refine me_iload C dX11_ask_70 rfl ?_
      refine me_goto C (tgt := 76) dX11_ask_72 (by decide) ?_
      refine me_dropI [(6, me_i r4)] [1] rfl ?_
      exact z_Y_ask_b76 C N hNx hB hf
theorem c_Y_ask {B : me_B} (hB : me_St B) {μ : me_M} {v1 : Int32} {v2 : Int32} {v3 : Int32} {v4 : Int32} {v5 : Int32} {μ' : me_M} {r : Except Nat Int32}  (hf : f_Y_ask μ v1 v2 v3 v4 v5 = some (μ', r)) : ∀ l E z, l.stackTraces = false → me_Met l yX11_ask cX11_ask 8 (some .int) 8 133 4 24 E B μ z [me_r 0 0, me_i v1, me_i v2, me_i v3, me_i v4, me_i v5] (B, μ', me_xc (fun v => some (me_i v)) r) :=
  fun _ _ _ hl => me_ofZ hl (by decide +kernel) (Nat.le_of_ble_eq_true rfl) (fun _ C N hNx => z_Y_ask C N hNx hB  hf)

def f_Y_needPacket (μ : me_M) (v1 : Int32) : Option (Except Nat Nat) :=
  me_bd (f_Post_find μ v1) (fun r1 =>
  me_oq r1
  (some (.error 1))
  (fun r1i => some (.ok r1i)))
set_option maxHeartbeats 4000000 in
set_option maxRecDepth 100000 in
theorem z_Y_needPacket {X : me_X} {B : me_B} {sz : Nat} (C : me_C X B RX11 cX11_needPacket 3 (some (.object "Meshyard$Packet"))) {μ : me_M} {v1 : Int32}   {r : Except Nat Nat} (N : me_En X B sz (B, μ, me_xc (fun v => some (me_r 8 v)) r) 6 90 1 6) (hNx : me_Nx X) (hB : me_St B)   (hf : f_Y_needPacket μ v1 = some r) : me_Z X B 0 0 μ 0 [(0, me_r 0 0), (1, me_i v1)] [] := by
  unfold f_Y_needPacket at hf
  refine me_aload_n C 0 (Or.inr (Or.inl ⟨_, rfl⟩)) dX11_needPacket_0 rfl rfl ?_
  refine me_getr C hB 1 (k' := 6) (i' := 0) fg_Y_19 dX11_needPacket_1 rfl rfl ?_
  refine me_iload_n C 1 dX11_needPacket_4 rfl rfl ?_
  obtain ⟨r1, h_r1, hf⟩ := me_bs hf
  refine me_callV C N  (As := [me_i v1]) (st := []) 0 0 (c_Post_find hB h_r1) mv_Post_find ml_Y_122 rfl rfl dX11_needPacket_5 rfl rfl ⟨by decide, by decide⟩ ⟨by decide, by decide, by decide, by decide⟩ (Nat.le_of_ble_eq_true rfl) ?_
  rcases r1 with _ | r1i
  · replace hf := me_oqn hf
    refine me_astore_n C 2 (Or.inl rfl) dX11_needPacket_8 rfl (by decide) (L' := [(2, me_n), (0, me_r 0 0), (1, me_i v1)]) rfl ?_
    refine me_aload_n C 2 (Or.inl rfl) dX11_needPacket_9 rfl rfl ?_
    refine me_ifnonnull_n C dX11_needPacket_10 ?_
    exact me_throwW C N hNx 1 cl_Y_423 ie_1 sr_Y_428 tw_Y_427 ft_1 dX11_needPacket_13 dX11_needPacket_16 dX11_needPacket_17 dX11_needPacket_20 dX11_needPacket_23 ⟨by decide, by decide⟩ (Nat.le_of_ble_eq_true rfl) ⟨by decide, by decide⟩ (by cases hf; rfl)
  · replace hf := me_oqs hf
    refine me_astore_n C 2 (Or.inr (Or.inl ⟨_, rfl⟩)) dX11_needPacket_8 rfl (by decide) (L' := [(2, me_r 8 r1i), (0, me_r 0 0), (1, me_i v1)]) rfl ?_
    refine me_aload_n C 2 (Or.inr (Or.inl ⟨_, rfl⟩)) dX11_needPacket_9 rfl rfl ?_
    refine me_ifnonnull_r C (tgt := 24) dX11_needPacket_10 (by decide) ?_
    refine me_aload_n C 2 (Or.inr (Or.inl ⟨_, rfl⟩)) dX11_needPacket_24 rfl rfl ?_
    exact me_aret C N (Or.inr ⟨_, rfl⟩) dX11_needPacket_25 (by cases hf; rfl) (by decide) (by decide)
theorem c_Y_needPacket {B : me_B} (hB : me_St B) {μ : me_M} {v1 : Int32} {r : Except Nat Nat}  (hf : f_Y_needPacket μ v1 = some r) : ∀ l E z, l.stackTraces = false → me_Met l yX11_needPacket cX11_needPacket 3 (some (.object "Meshyard$Packet")) 6 90 1 6 E B μ z [me_r 0 0, me_i v1] (B, μ, me_xc (fun v => some (me_r 8 v)) r) :=
  fun _ _ _ hl => me_ofZ hl (by decide +kernel) (Nat.le_of_ble_eq_true rfl) (fun _ C N hNx => z_Y_needPacket C N hNx hB  hf)

def f_Y_answer (μ : me_M) (v1 : Int32) : Option (Except Nat Int32) :=
  me_bd (f_Y_needPacket μ v1) (fun r1 =>
  me_xb r1 (fun r1 =>
  if (μ 8 r1 1) = (113 : Int32) then
  (if (μ 8 r1 14) = (-1 : Int32) then
  (some (.error 5))
  else
  (some (.ok (μ 8 r1 14))))
  else
  (some (.error 2))))
set_option maxHeartbeats 4000000 in
set_option maxRecDepth 100000 in
theorem z_Y_answer {X : me_X} {B : me_B} {sz : Nat} (C : me_C X B RX11 cX11_answer 3 (some .int)) {μ : me_M} {v1 : Int32}   {r : Except Nat Int32} (N : me_En X B sz (B, μ, me_xc (fun v => some (me_i v)) r) 7 112 2 12) (hNx : me_Nx X) (hB : me_St B)   (hf : f_Y_answer μ v1 = some r) : me_Z X B 0 0 μ 0 [(0, me_r 0 0), (1, me_i v1)] [] := by
  unfold f_Y_answer at hf
  refine me_aload_n C 0 (Or.inr (Or.inl ⟨_, rfl⟩)) dX11_answer_0 rfl rfl ?_
  refine me_iload_n C 1 dX11_answer_1 rfl rfl ?_
  obtain ⟨r1, h_r1, hf⟩ := me_bs hf
  rcases r1 with r1 | r1
  · replace hf := me_xbe hf
    refine me_callVE C N  (As := [me_i v1]) (st := []) 1 6 (c_Y_needPacket hB h_r1) mv_Y_needPacket ml_Y_134 rfl rfl dX11_answer_2 rfl rfl ⟨by decide, by decide⟩ ⟨by decide, by decide, by decide, by decide⟩ (Nat.le_of_ble_eq_true rfl) ?_
    exact me_outX C N hNx (by cases hf; rfl) (by decide) (by decide)
  replace hf := me_xbo hf
  refine me_callV C N  (As := [me_i v1]) (st := []) 1 6 (c_Y_needPacket hB h_r1) mv_Y_needPacket ml_Y_134 rfl rfl dX11_answer_2 rfl rfl ⟨by decide, by decide⟩ ⟨by decide, by decide, by decide, by decide⟩ (Nat.le_of_ble_eq_true rfl) ?_
  refine me_astore_n C 2 (Or.inr (Or.inl ⟨_, rfl⟩)) dX11_answer_5 rfl (by decide) (L' := [(2, me_r 8 r1), (0, me_r 0 0), (1, me_i v1)]) rfl ?_
  refine me_aload_n C 2 (Or.inr (Or.inl ⟨_, rfl⟩)) dX11_answer_6 rfl rfl ?_
  refine me_geti C 1 fg_Y_137 dX11_answer_7 rfl ?_
  refine me_bipush C (v := 113) dX11_answer_10 (by decide) ?_
  refine me_icmp_eq C (tgt := 25) dX11_answer_12 (by decide) (fun c2 => ?_) (fun c2 => ?_)
  · replace hf := me_ip c2 hf
    refine me_aload_n C 2 (Or.inr (Or.inl ⟨_, rfl⟩)) dX11_answer_25 rfl rfl ?_
    refine me_geti C 14 fg_Y_143 dX11_answer_26 rfl ?_
    refine me_iconst C (v := -1) dX11_answer_29 (by decide) ?_
    refine me_icmp_ne C (tgt := 43) dX11_answer_30 (by decide) (fun c3 => ?_) (fun c3 => ?_)
    · replace hf := me_in c3 hf
      refine me_aload_n C 2 (Or.inr (Or.inl ⟨_, rfl⟩)) dX11_answer_43 rfl rfl ?_
      refine me_geti C 14 fg_Y_143 dX11_answer_44 rfl ?_
      exact me_iret C N dX11_answer_47 (me_nri _) (by cases hf; rfl) (by decide) (by decide)
    · replace hf := me_ip c3 hf
      exact me_throwN C N hNx 5 cl_Y_146 ie_5 sr_Y_148 tw_Y_150 rfl dX11_answer_33 dX11_answer_36 dX11_answer_37 dX11_answer_39 dX11_answer_42 ⟨by decide, by decide⟩ (Nat.le_of_ble_eq_true rfl) ⟨by decide, by decide⟩ (by cases hf; rfl)
  · replace hf := me_in c2 hf
    exact me_throw C N hNx 2 cl_Y_109 ie_2 sr_Y_141 tw_Y_113 ft_2 dX11_answer_15 dX11_answer_18 dX11_answer_19 dX11_answer_21 dX11_answer_24 ⟨by decide, by decide⟩ (Nat.le_of_ble_eq_true rfl) ⟨by decide, by decide⟩ (by cases hf; rfl)
theorem c_Y_answer {B : me_B} (hB : me_St B) {μ : me_M} {v1 : Int32} {r : Except Nat Int32}  (hf : f_Y_answer μ v1 = some r) : ∀ l E z, l.stackTraces = false → me_Met l yX11_answer cX11_answer 3 (some .int) 7 112 2 12 E B μ z [me_r 0 0, me_i v1] (B, μ, me_xc (fun v => some (me_i v)) r) :=
  fun _ _ _ hl => me_ofZ hl (by decide +kernel) (Nat.le_of_ble_eq_true rfl) (fun _ C N hNx => z_Y_answer C N hNx hB  hf)

def f_Y_kind (μ : me_M) (v1 : Int32) : Option (Except Nat Int32) :=
  me_bd (f_Y_needPacket μ v1) (fun r1 =>
  me_xb r1 (fun r1 =>
  me_gd (me_nr .char (μ 8 r1 1)) (
  some (.ok (μ 8 r1 1)))))
set_option maxHeartbeats 4000000 in
set_option maxRecDepth 100000 in
theorem z_Y_kind {X : me_X} {B : me_B} {sz : Nat} (C : me_C X B RX11 cX11_kind 2 (some .char)) {μ : me_M} {v1 : Int32}   {r : Except Nat Int32} (N : me_En X B sz (B, μ, me_xc (fun v => some (me_i v)) r) 7 112 1 6) (hNx : me_Nx X) (hB : me_St B)   (hf : f_Y_kind μ v1 = some r) : me_Z X B 0 0 μ 0 [(0, me_r 0 0), (1, me_i v1)] [] := by
  unfold f_Y_kind at hf
  refine me_aload_n C 0 (Or.inr (Or.inl ⟨_, rfl⟩)) dX11_kind_0 rfl rfl ?_
  refine me_iload_n C 1 dX11_kind_1 rfl rfl ?_
  obtain ⟨r1, h_r1, hf⟩ := me_bs hf
  rcases r1 with r1 | r1
  · replace hf := me_xbe hf
    refine me_callVE C N  (As := [me_i v1]) (st := []) 1 6 (c_Y_needPacket hB h_r1) mv_Y_needPacket ml_Y_134 rfl rfl dX11_kind_2 rfl rfl ⟨by decide, by decide⟩ ⟨by decide, by decide, by decide, by decide⟩ (Nat.le_of_ble_eq_true rfl) ?_
    exact me_outX C N hNx (by cases hf; rfl) (by decide) (by decide)
  replace hf := me_xbo hf
  refine me_callV C N  (As := [me_i v1]) (st := []) 1 6 (c_Y_needPacket hB h_r1) mv_Y_needPacket ml_Y_134 rfl rfl dX11_kind_2 rfl rfl ⟨by decide, by decide⟩ ⟨by decide, by decide, by decide, by decide⟩ (Nat.le_of_ble_eq_true rfl) ?_
  refine me_geti C 1 fg_Y_137 dX11_kind_5 rfl ?_
  obtain ⟨g2, hf⟩ := me_gs hf
  exact me_iret C N dX11_kind_8 g2 (by cases hf; rfl) (by decide) (by decide)
theorem c_Y_kind {B : me_B} (hB : me_St B) {μ : me_M} {v1 : Int32} {r : Except Nat Int32}  (hf : f_Y_kind μ v1 = some r) : ∀ l E z, l.stackTraces = false → me_Met l yX11_kind cX11_kind 2 (some .char) 7 112 1 6 E B μ z [me_r 0 0, me_i v1] (B, μ, me_xc (fun v => some (me_i v)) r) :=
  fun _ _ _ hl => me_ofZ hl (by decide +kernel) (Nat.le_of_ble_eq_true rfl) (fun _ C N hNx => z_Y_kind C N hNx hB  hf)

def f_Y_state (μ : me_M) (v1 : Int32) : Option (Except Nat Int32) :=
  me_bd (f_Y_needPacket μ v1) (fun r1 =>
  me_xb r1 (fun r1 =>
  me_gd (me_nr .char (μ 8 r1 2)) (
  some (.ok (μ 8 r1 2)))))
set_option maxHeartbeats 4000000 in
set_option maxRecDepth 100000 in
theorem z_Y_state {X : me_X} {B : me_B} {sz : Nat} (C : me_C X B RX11 cX11_state 2 (some .char)) {μ : me_M} {v1 : Int32}   {r : Except Nat Int32} (N : me_En X B sz (B, μ, me_xc (fun v => some (me_i v)) r) 7 112 1 6) (hNx : me_Nx X) (hB : me_St B)   (hf : f_Y_state μ v1 = some r) : me_Z X B 0 0 μ 0 [(0, me_r 0 0), (1, me_i v1)] [] := by
  unfold f_Y_state at hf
  refine me_aload_n C 0 (Or.inr (Or.inl ⟨_, rfl⟩)) dX11_state_0 rfl rfl ?_
  refine me_iload_n C 1 dX11_state_1 rfl rfl ?_
  obtain ⟨r1, h_r1, hf⟩ := me_bs hf
  rcases r1 with r1 | r1
  · replace hf := me_xbe hf
    refine me_callVE C N  (As := [me_i v1]) (st := []) 1 6 (c_Y_needPacket hB h_r1) mv_Y_needPacket ml_Y_134 rfl rfl dX11_state_2 rfl rfl ⟨by decide, by decide⟩ ⟨by decide, by decide, by decide, by decide⟩ (Nat.le_of_ble_eq_true rfl) ?_
    exact me_outX C N hNx (by cases hf; rfl) (by decide) (by decide)
  replace hf := me_xbo hf
  refine me_callV C N  (As := [me_i v1]) (st := []) 1 6 (c_Y_needPacket hB h_r1) mv_Y_needPacket ml_Y_134 rfl rfl dX11_state_2 rfl rfl ⟨by decide, by decide⟩ ⟨by decide, by decide, by decide, by decide⟩ (Nat.le_of_ble_eq_true rfl) ?_
  refine me_geti C 2 fg_Y_151 dX11_state_5 rfl ?_
  obtain ⟨g2, hf⟩ := me_gs hf
  exact me_iret C N dX11_state_8 g2 (by cases hf; rfl) (by decide) (by decide)
theorem c_Y_state {B : me_B} (hB : me_St B) {μ : me_M} {v1 : Int32} {r : Except Nat Int32}  (hf : f_Y_state μ v1 = some r) : ∀ l E z, l.stackTraces = false → me_Met l yX11_state cX11_state 2 (some .char) 7 112 1 6 E B μ z [me_r 0 0, me_i v1] (B, μ, me_xc (fun v => some (me_i v)) r) :=
  fun _ _ _ hl => me_ofZ hl (by decide +kernel) (Nat.le_of_ble_eq_true rfl) (fun _ C N hNx => z_Y_state C N hNx hB  hf)

def f_Y_word (μ : me_M) (v1 : Int32) : Option (Except Nat Int32) :=
  me_bd (f_Y_needPacket μ v1) (fun r1 =>
  me_xb r1 (fun r1 =>
  some (.ok (μ 8 r1 5))))
set_option maxHeartbeats 4000000 in
set_option maxRecDepth 100000 in
theorem z_Y_word {X : me_X} {B : me_B} {sz : Nat} (C : me_C X B RX11 cX11_word 2 (some .int)) {μ : me_M} {v1 : Int32}   {r : Except Nat Int32} (N : me_En X B sz (B, μ, me_xc (fun v => some (me_i v)) r) 7 112 1 6) (hNx : me_Nx X) (hB : me_St B)   (hf : f_Y_word μ v1 = some r) : me_Z X B 0 0 μ 0 [(0, me_r 0 0), (1, me_i v1)] [] := by
  unfold f_Y_word at hf
  refine me_aload_n C 0 (Or.inr (Or.inl ⟨_, rfl⟩)) dX11_word_0 rfl rfl ?_
  refine me_iload_n C 1 dX11_word_1 rfl rfl ?_
  obtain ⟨r1, h_r1, hf⟩ := me_bs hf
  rcases r1 with r1 | r1
  · replace hf := me_xbe hf
    refine me_callVE C N  (As := [me_i v1]) (st := []) 1 6 (c_Y_needPacket hB h_r1) mv_Y_needPacket ml_Y_134 rfl rfl dX11_word_2 rfl rfl ⟨by decide, by decide⟩ ⟨by decide, by decide, by decide, by decide⟩ (Nat.le_of_ble_eq_true rfl) ?_
    exact me_outX C N hNx (by cases hf; rfl) (by decide) (by decide)
  replace hf := me_xbo hf
  refine me_callV C N  (As := [me_i v1]) (st := []) 1 6 (c_Y_needPacket hB h_r1) mv_Y_needPacket ml_Y_134 rfl rfl dX11_word_2 rfl rfl ⟨by decide, by decide⟩ ⟨by decide, by decide, by decide, by decide⟩ (Nat.le_of_ble_eq_true rfl) ?_
  refine me_geti C 5 fg_Y_154 dX11_word_5 rfl ?_
  exact me_iret C N dX11_word_8 (me_nri _) (by cases hf; rfl) (by decide) (by decide)
theorem c_Y_word {B : me_B} (hB : me_St B) {μ : me_M} {v1 : Int32} {r : Except Nat Int32}  (hf : f_Y_word μ v1 = some r) : ∀ l E z, l.stackTraces = false → me_Met l yX11_word cX11_word 2 (some .int) 7 112 1 6 E B μ z [me_r 0 0, me_i v1] (B, μ, me_xc (fun v => some (me_i v)) r) :=
  fun _ _ _ hl => me_ofZ hl (by decide +kernel) (Nat.le_of_ble_eq_true rfl) (fun _ C N hNx => z_Y_word C N hNx hB  hf)

def f_Y_head (μ : me_M) (v1 : Int32) : Option (Except Nat Int32) :=
  me_bd (f_Y_needPacket μ v1) (fun r1 =>
  me_xb r1 (fun r1 =>
  me_lt ((μ 8 r1 9)) (fun x2 =>
  if x2 = (-1 : Int32) then
  (some (.error 5))
  else
  (some (.ok x2)))))
set_option maxHeartbeats 4000000 in
set_option maxRecDepth 100000 in
theorem z_Y_head {X : me_X} {B : me_B} {sz : Nat} (C : me_C X B RX11 cX11_head 3 (some .int)) {μ : me_M} {v1 : Int32}   {r : Except Nat Int32} (N : me_En X B sz (B, μ, me_xc (fun v => some (me_i v)) r) 7 112 2 12) (hNx : me_Nx X) (hB : me_St B)   (hf : f_Y_head μ v1 = some r) : me_Z X B 0 0 μ 0 [(0, me_r 0 0), (1, me_i v1)] [] := by
  unfold f_Y_head at hf
  refine me_aload_n C 0 (Or.inr (Or.inl ⟨_, rfl⟩)) dX11_head_0 rfl rfl ?_
  refine me_iload_n C 1 dX11_head_1 rfl rfl ?_
  obtain ⟨r1, h_r1, hf⟩ := me_bs hf
  rcases r1 with r1 | r1
  · replace hf := me_xbe hf
    refine me_callVE C N  (As := [me_i v1]) (st := []) 1 6 (c_Y_needPacket hB h_r1) mv_Y_needPacket ml_Y_134 rfl rfl dX11_head_2 rfl rfl ⟨by decide, by decide⟩ ⟨by decide, by decide, by decide, by decide⟩ (Nat.le_of_ble_eq_true rfl) ?_
    exact me_outX C N hNx (by cases hf; rfl) (by decide) (by decide)
  replace hf := me_xbo hf
  refine me_callV C N  (As := [me_i v1]) (st := []) 1 6 (c_Y_needPacket hB h_r1) mv_Y_needPacket ml_Y_134 rfl rfl dX11_head_2 rfl rfl ⟨by decide, by decide⟩ ⟨by decide, by decide, by decide, by decide⟩ (Nat.le_of_ble_eq_true rfl) ?_
  refine me_geti C 9 fg_Y_157 dX11_head_5 rfl ?_
  obtain ⟨x2, e_x2, hf⟩ := me_lts hf
  refine me_nm e_x2 ?_
  refine me_istore_n C 2 dX11_head_8 rfl (by decide) (L' := [(2, me_i x2), (0, me_r 0 0), (1, me_i v1)]) rfl ?_
  refine me_iload_n C 2 dX11_head_9 rfl rfl ?_
  refine me_iconst C (v := -1) dX11_head_10 (by decide) ?_
  refine me_icmp_ne C (tgt := 24) dX11_head_11 (by decide) (fun c3 => ?_) (fun c3 => ?_)
  · replace hf := me_in c3 hf
    refine me_iload_n C 2 dX11_head_24 rfl rfl ?_
    exact me_iret C N dX11_head_25 (me_nri _) (by cases hf; rfl) (by decide) (by decide)
  · replace hf := me_ip c3 hf
    exact me_throwN C N hNx 5 cl_Y_146 ie_5 sr_Y_160 tw_Y_150 rfl dX11_head_14 dX11_head_17 dX11_head_18 dX11_head_20 dX11_head_23 ⟨by decide, by decide⟩ (Nat.le_of_ble_eq_true rfl) ⟨by decide, by decide⟩ (by cases hf; rfl)
theorem c_Y_head {B : me_B} (hB : me_St B) {μ : me_M} {v1 : Int32} {r : Except Nat Int32}  (hf : f_Y_head μ v1 = some r) : ∀ l E z, l.stackTraces = false → me_Met l yX11_head cX11_head 3 (some .int) 7 112 2 12 E B μ z [me_r 0 0, me_i v1] (B, μ, me_xc (fun v => some (me_i v)) r) :=
  fun _ _ _ hl => me_ofZ hl (by decide +kernel) (Nat.le_of_ble_eq_true rfl) (fun _ C N hNx => z_Y_head C N hNx hB  hf)

def f_Y_pieces (μ : me_M) (v1 : Int32) : Option (Except Nat Int32) :=
  me_bd (f_Y_needPacket μ v1) (fun r1 =>
  me_xb r1 (fun r1 =>
  me_bd (f_Packet_piecesInRows μ r1) (fun r2 =>
  some (.ok r2))))
set_option maxHeartbeats 4000000 in
set_option maxRecDepth 100000 in
theorem z_Y_pieces {X : me_X} {B : me_B} {sz : Nat} (C : me_C X B RX11 cX11_pieces 2 (some .int)) {μ : me_M} {v1 : Int32}   {r : Except Nat Int32} (N : me_En X B sz (B, μ, me_xc (fun v => some (me_i v)) r) 7 112 1 6) (hNx : me_Nx X) (hB : me_St B)   (hf : f_Y_pieces μ v1 = some r) : me_Z X B 0 0 μ 0 [(0, me_r 0 0), (1, me_i v1)] [] := by
  unfold f_Y_pieces at hf
  refine me_aload_n C 0 (Or.inr (Or.inl ⟨_, rfl⟩)) dX11_pieces_0 rfl rfl ?_
  refine me_iload_n C 1 dX11_pieces_1 rfl rfl ?_
  obtain ⟨r1, h_r1, hf⟩ := me_bs hf
  rcases r1 with r1 | r1
  · replace hf := me_xbe hf
    refine me_callVE C N  (As := [me_i v1]) (st := []) 1 6 (c_Y_needPacket hB h_r1) mv_Y_needPacket ml_Y_134 rfl rfl dX11_pieces_2 rfl rfl ⟨by decide, by decide⟩ ⟨by decide, by decide, by decide, by decide⟩ (Nat.le_of_ble_eq_true rfl) ?_
    exact me_outX C N hNx (by cases hf; rfl) (by decide) (by decide)
  replace hf := me_xbo hf
  refine me_callV C N  (As := [me_i v1]) (st := []) 1 6 (c_Y_needPacket hB h_r1) mv_Y_needPacket ml_Y_134 rfl rfl dX11_pieces_2 rfl rfl ⟨by decide, by decide⟩ ⟨by decide, by decide, by decide, by decide⟩ (Nat.le_of_ble_eq_true rfl) ?_
  obtain ⟨r2, h_r2, hf⟩ := me_bs hf
  refine me_callV C N  (As := []) (st := []) 1 6 (c_Packet_piecesInRows hB h_r2) mv_Packet_piecesInRows ml_Y_162 rfl rfl dX11_pieces_5 rfl rfl ⟨by decide, by decide⟩ ⟨by decide, by decide, by decide, by decide⟩ (Nat.le_of_ble_eq_true rfl) ?_
  exact me_iret C N dX11_pieces_8 (me_nri _) (by cases hf; rfl) (by decide) (by decide)
theorem c_Y_pieces {B : me_B} (hB : me_St B) {μ : me_M} {v1 : Int32} {r : Except Nat Int32}  (hf : f_Y_pieces μ v1 = some r) : ∀ l E z, l.stackTraces = false → me_Met l yX11_pieces cX11_pieces 2 (some .int) 7 112 1 6 E B μ z [me_r 0 0, me_i v1] (B, μ, me_xc (fun v => some (me_i v)) r) :=
  fun _ _ _ hl => me_ofZ hl (by decide +kernel) (Nat.le_of_ble_eq_true rfl) (fun _ C N hNx => z_Y_pieces C N hNx hB  hf)

def f_Y_time (μ : me_M) (v1 : Int32) : Option (Except Nat Int32) :=
  me_bd (f_Y_needPacket μ v1) (fun r1 =>
  me_xb r1 (fun r1 =>
  me_bd (f_Packet_wasDelivered μ r1) (fun r2 =>
  if r2 = 0 then
  (some (.error 5))
  else
  (me_bd (f_Packet_beatsTaken μ r1) (fun r4 =>
  some (.ok r4))))))
set_option maxHeartbeats 4000000 in
set_option maxRecDepth 100000 in
theorem z_Y_time {X : me_X} {B : me_B} {sz : Nat} (C : me_C X B RX11 cX11_time 3 (some .int)) {μ : me_M} {v1 : Int32}   {r : Except Nat Int32} (N : me_En X B sz (B, μ, me_xc (fun v => some (me_i v)) r) 7 112 2 12) (hNx : me_Nx X) (hB : me_St B)   (hf : f_Y_time μ v1 = some r) : me_Z X B 0 0 μ 0 [(0, me_r 0 0), (1, me_i v1)] [] := by
  unfold f_Y_time at hf
  refine me_aload_n C 0 (Or.inr (Or.inl ⟨_, rfl⟩)) dX11_time_0 rfl rfl ?_
  refine me_iload_n C 1 dX11_time_1 rfl rfl ?_
  obtain ⟨r1, h_r1, hf⟩ := me_bs hf
  rcases r1 with r1 | r1
  · replace hf := me_xbe hf
    refine me_callVE C N  (As := [me_i v1]) (st := []) 1 6 (c_Y_needPacket hB h_r1) mv_Y_needPacket ml_Y_134 rfl rfl dX11_time_2 rfl rfl ⟨by decide, by decide⟩ ⟨by decide, by decide, by decide, by decide⟩ (Nat.le_of_ble_eq_true rfl) ?_
    exact me_outX C N hNx (by cases hf; rfl) (by decide) (by decide)
  replace hf := me_xbo hf
  refine me_callV C N  (As := [me_i v1]) (st := []) 1 6 (c_Y_needPacket hB h_r1) mv_Y_needPacket ml_Y_134 rfl rfl dX11_time_2 rfl rfl ⟨by decide, by decide⟩ ⟨by decide, by decide, by decide, by decide⟩ (Nat.le_of_ble_eq_true rfl) ?_
  refine me_astore_n C 2 (Or.inr (Or.inl ⟨_, rfl⟩)) dX11_time_5 rfl (by decide) (L' := [(2, me_r 8 r1), (0, me_r 0 0), (1, me_i v1)]) rfl ?_
  refine me_aload_n C 2 (Or.inr (Or.inl ⟨_, rfl⟩)) dX11_time_6 rfl rfl ?_
  obtain ⟨r2, h_r2, hf⟩ := me_bs hf
  refine me_callV C N  (As := []) (st := []) 1 6 (c_Packet_wasDelivered hB h_r2) mv_Packet_wasDelivered ml_Y_166 rfl rfl dX11_time_7 rfl rfl ⟨by decide, by decide⟩ ⟨by decide, by decide, by decide, by decide⟩ (Nat.le_of_ble_eq_true rfl) ?_
  refine me_if_ne C (tgt := 23) dX11_time_10 (by decide) (fun c3 => ?_) (fun c3 => ?_)
  · replace hf := me_in c3 hf
    refine me_aload_n C 2 (Or.inr (Or.inl ⟨_, rfl⟩)) dX11_time_23 rfl rfl ?_
    obtain ⟨r4, h_r4, hf⟩ := me_bs hf
    refine me_callV C N  (As := []) (st := []) 1 6 (c_Packet_beatsTaken hB h_r4) mv_Packet_beatsTaken ml_Y_172 rfl rfl dX11_time_24 rfl rfl ⟨by decide, by decide⟩ ⟨by decide, by decide, by decide, by decide⟩ (Nat.le_of_ble_eq_true rfl) ?_
    exact me_iret C N dX11_time_27 (me_nri _) (by cases hf; rfl) (by decide) (by decide)
  · replace hf := me_ip c3 hf
    exact me_throwN C N hNx 5 cl_Y_146 ie_5 sr_Y_170 tw_Y_150 rfl dX11_time_13 dX11_time_16 dX11_time_17 dX11_time_19 dX11_time_22 ⟨by decide, by decide⟩ (Nat.le_of_ble_eq_true rfl) ⟨by decide, by decide⟩ (by cases hf; rfl)
theorem c_Y_time {B : me_B} (hB : me_St B) {μ : me_M} {v1 : Int32} {r : Except Nat Int32}  (hf : f_Y_time μ v1 = some r) : ∀ l E z, l.stackTraces = false → me_Met l yX11_time cX11_time 3 (some .int) 7 112 2 12 E B μ z [me_r 0 0, me_i v1] (B, μ, me_xc (fun v => some (me_i v)) r) :=
  fun _ _ _ hl => me_ofZ hl (by decide +kernel) (Nat.le_of_ble_eq_true rfl) (fun _ C N hNx => z_Y_time C N hNx hB  hf)

def f_Y_packets (μ : me_M) : Option Int32 :=
  some (μ 6 0 1)
set_option maxHeartbeats 4000000 in
set_option maxRecDepth 100000 in
theorem z_Y_packets {X : me_X} {B : me_B} {sz : Nat} (C : me_C X B RX11 cX11_packets 1 (some .int)) {μ : me_M}    {r : Int32} (N : me_En X B sz (B, μ, .ok (some (me_i r))) 0 0 0 0) (hNx : me_Nx X) (hB : me_St B)   (hf : f_Y_packets μ = some r) : me_Z X B 0 0 μ 0 [(0, me_r 0 0)] [] := by
  unfold f_Y_packets at hf
  refine me_aload_n C 0 (Or.inr (Or.inl ⟨_, rfl⟩)) dX11_packets_0 rfl rfl ?_
  refine me_getr C hB 1 (k' := 6) (i' := 0) fg_Y_19 dX11_packets_1 rfl rfl ?_
  refine me_geti C 1 fg_Y_175 dX11_packets_4 rfl ?_
  exact me_iret C N dX11_packets_7 (me_nri _) (by cases hf; rfl) (by decide) (by decide)
theorem c_Y_packets {B : me_B} (hB : me_St B) {μ : me_M}  {r : Int32}  (hf : f_Y_packets μ = some r) : ∀ l E z, l.stackTraces = false → me_Met l yX11_packets cX11_packets 1 (some .int) 0 0 0 0 E B μ z [me_r 0 0] (B, μ, .ok (some (me_i r))) :=
  fun _ _ _ hl => me_ofZ hl (by decide +kernel) (Nat.le_of_ble_eq_true rfl) (fun _ C N hNx => z_Y_packets C N hNx hB  hf)

def f_Y_lying (μ : me_M) (v1 : Int32) (v2 : Int32) : Option (Except Nat Int32) :=
  me_bd (f_Y_needNodes μ v1 v2) (fun r1 =>
  me_xb r1 (fun r1 =>
  me_bd (f_Post_countLying μ v1 v2) (fun r2 =>
  some (.ok r2))))
set_option maxHeartbeats 4000000 in
set_option maxRecDepth 100000 in
theorem z_Y_lying {X : me_X} {B : me_B} {sz : Nat} (C : me_C X B RX11 cX11_lying 3 (some .int)) {μ : me_M} {v1 : Int32} {v2 : Int32}   {r : Except Nat Int32} (N : me_En X B sz (B, μ, me_xc (fun v => some (me_i v)) r) 8 133 2 12) (hNx : me_Nx X) (hB : me_St B)   (hf : f_Y_lying μ v1 v2 = some r) : me_Z X B 0 0 μ 0 [(0, me_r 0 0), (1, me_i v1), (2, me_i v2)] [] := by
  unfold f_Y_lying at hf
  refine me_aload_n C 0 (Or.inr (Or.inl ⟨_, rfl⟩)) dX11_lying_0 rfl rfl ?_
  refine me_iload_n C 1 dX11_lying_1 rfl rfl ?_
  refine me_iload_n C 2 dX11_lying_2 rfl rfl ?_
  obtain ⟨r1, h_r1, hf⟩ := me_bs hf
  rcases r1 with r1 | r1
  · replace hf := me_xbe hf
    refine me_callVE C N  (As := [me_i v1, me_i v2]) (st := []) 2 12 (c_Y_needNodes hB h_r1) mv_Y_needNodes ml_Y_84 rfl rfl dX11_lying_3 rfl rfl ⟨by decide, by decide⟩ ⟨by decide, by decide, by decide, by decide⟩ (Nat.le_of_ble_eq_true rfl) ?_
    exact me_outX C N hNx (by cases hf; rfl) (by decide) (by decide)
  replace hf := me_xbo hf
  refine me_callV0 C N  (As := [me_i v1, me_i v2]) (st := []) 2 12 (c_Y_needNodes hB h_r1) mv_Y_needNodes ml_Y_84 rfl rfl dX11_lying_3 rfl rfl ⟨by decide, by decide⟩ ⟨by decide, by decide, by decide, by decide⟩ (Nat.le_of_ble_eq_true rfl) ?_
  refine me_aload_n C 0 (Or.inr (Or.inl ⟨_, rfl⟩)) dX11_lying_6 rfl rfl ?_
  refine me_getr C hB 1 (k' := 6) (i' := 0) fg_Y_19 dX11_lying_7 rfl rfl ?_
  refine me_iload_n C 1 dX11_lying_10 rfl rfl ?_
  refine me_iload_n C 2 dX11_lying_11 rfl rfl ?_
  obtain ⟨r2, h_r2, hf⟩ := me_bs hf
  refine me_callV C N  (As := [me_i v1, me_i v2]) (st := []) 2 12 (c_Post_countLying hB h_r2) mv_Post_countLying ml_Y_178 rfl rfl dX11_lying_12 rfl rfl ⟨by decide, by decide⟩ ⟨by decide, by decide, by decide, by decide⟩ (Nat.le_of_ble_eq_true rfl) ?_
  exact me_iret C N dX11_lying_15 (me_nri _) (by cases hf; rfl) (by decide) (by decide)
theorem c_Y_lying {B : me_B} (hB : me_St B) {μ : me_M} {v1 : Int32} {v2 : Int32} {r : Except Nat Int32}  (hf : f_Y_lying μ v1 v2 = some r) : ∀ l E z, l.stackTraces = false → me_Met l yX11_lying cX11_lying 3 (some .int) 8 133 2 12 E B μ z [me_r 0 0, me_i v1, me_i v2] (B, μ, me_xc (fun v => some (me_i v)) r) :=
  fun _ _ _ hl => me_ofZ hl (by decide +kernel) (Nat.le_of_ble_eq_true rfl) (fun _ C N hNx => z_Y_lying C N hNx hB  hf)

def f_Y_receive (μ : me_M) (v1 : Int32) (v2 : Int32) : Option (me_M × (Except Nat Int32)) :=
  me_bd (f_Y_needNodes μ v1 v2) (fun r1 =>
  me_xb2 r1 μ (fun r1 =>
  me_bd (f_Post_firstLying μ v1 v2) (fun r2 =>
  me_oq r2
  (some (μ, .error 5))
  (fun r2i => me_lt (me_up μ 8 r2i 2 (114 : Int32)) (fun μ3 =>
  some (μ3, .ok (μ3 8 r2i 0)))))))
set_option maxHeartbeats 4000000 in
set_option maxRecDepth 100000 in
theorem z_Y_receive {X : me_X} {B : me_B} {sz : Nat} (C : me_C X B RX11 cX11_receive 4 (some .int)) {μ : me_M} {v1 : Int32} {v2 : Int32}   {r : me_M × (Except Nat Int32)} (N : me_En X B sz (B, r.1, me_xc (fun v => some (me_i v)) r.2) 8 133 3 18) (hNx : me_Nx X) (hB : me_St B)   (hf : f_Y_receive μ v1 v2 = some r) : me_Z X B 0 0 μ 0 [(0, me_r 0 0), (1, me_i v1), (2, me_i v2)] [] := by
  unfold f_Y_receive at hf
  refine me_aload_n C 0 (Or.inr (Or.inl ⟨_, rfl⟩)) dX11_receive_0 rfl rfl ?_
  refine me_iload_n C 1 dX11_receive_1 rfl rfl ?_
  refine me_iload_n C 2 dX11_receive_2 rfl rfl ?_
  obtain ⟨r1, h_r1, hf⟩ := me_bs hf
  rcases r1 with r1 | r1
  · replace hf := me_xb2e hf
    refine me_callVE C N  (As := [me_i v1, me_i v2]) (st := []) 2 12 (c_Y_needNodes hB h_r1) mv_Y_needNodes ml_Y_84 rfl rfl dX11_receive_3 rfl rfl ⟨by decide, by decide⟩ ⟨by decide, by decide, by decide, by decide⟩ (Nat.le_of_ble_eq_true rfl) ?_
    exact me_outX C N hNx (by cases hf; rfl) (by decide) (by decide)
  replace hf := me_xb2o hf
  refine me_callV0 C N  (As := [me_i v1, me_i v2]) (st := []) 2 12 (c_Y_needNodes hB h_r1) mv_Y_needNodes ml_Y_84 rfl rfl dX11_receive_3 rfl rfl ⟨by decide, by decide⟩ ⟨by decide, by decide, by decide, by decide⟩ (Nat.le_of_ble_eq_true rfl) ?_
  refine me_aload_n C 0 (Or.inr (Or.inl ⟨_, rfl⟩)) dX11_receive_6 rfl rfl ?_
  refine me_getr C hB 1 (k' := 6) (i' := 0) fg_Y_19 dX11_receive_7 rfl rfl ?_
  refine me_iload_n C 1 dX11_receive_10 rfl rfl ?_
  refine me_iload_n C 2 dX11_receive_11 rfl rfl ?_
  obtain ⟨r2, h_r2, hf⟩ := me_bs hf
  refine me_callV C N  (As := [me_i v1, me_i v2]) (st := []) 2 12 (c_Post_firstLying hB h_r2) mv_Post_firstLying ml_Y_182 rfl rfl dX11_receive_12 rfl rfl ⟨by decide, by decide⟩ ⟨by decide, by decide, by decide, by decide⟩ (Nat.le_of_ble_eq_true rfl) ?_
  rcases r2 with _ | r2i
  · replace hf := me_oqn hf
    refine me_astore_n C 3 (Or.inl rfl) dX11_receive_15 rfl (by decide) (L' := [(3, me_n), (0, me_r 0 0), (1, me_i v1), (2, me_i v2)]) rfl ?_
    refine me_aload_n C 3 (Or.inl rfl) dX11_receive_16 rfl rfl ?_
    refine me_ifnonnull_n C dX11_receive_17 ?_
    exact me_throwN C N hNx 5 cl_Y_146 ie_5 sr_Y_186 tw_Y_150 rfl dX11_receive_20 dX11_receive_23 dX11_receive_24 dX11_receive_26 dX11_receive_29 ⟨by decide, by decide⟩ (Nat.le_of_ble_eq_true rfl) ⟨by decide, by decide⟩ (by cases hf; rfl)
  · replace hf := me_oqs hf
    refine me_astore_n C 3 (Or.inr (Or.inl ⟨_, rfl⟩)) dX11_receive_15 rfl (by decide) (L' := [(3, me_r 8 r2i), (0, me_r 0 0), (1, me_i v1), (2, me_i v2)]) rfl ?_
    refine me_aload_n C 3 (Or.inr (Or.inl ⟨_, rfl⟩)) dX11_receive_16 rfl rfl ?_
    refine me_ifnonnull_r C (tgt := 30) dX11_receive_17 (by decide) ?_
    refine me_aload_n C 3 (Or.inr (Or.inl ⟨_, rfl⟩)) dX11_receive_30 rfl rfl ?_
    refine me_bipush C (v := 114) dX11_receive_31 (by decide) ?_
    obtain ⟨μ3, e_μ3, hf⟩ := me_lts hf
    refine me_puti C 2 fw_Y_151 dX11_receive_33 rfl (by decide +kernel) e_μ3 ?_
    refine me_aload_n C 3 (Or.inr (Or.inl ⟨_, rfl⟩)) dX11_receive_36 rfl rfl ?_
    refine me_geti C 0 fg_Y_188 dX11_receive_37 rfl ?_
    exact me_iret C N dX11_receive_40 (me_nri _) (by cases hf; rfl) (by decide) (by decide)
theorem c_Y_receive {B : me_B} (hB : me_St B) {μ : me_M} {v1 : Int32} {v2 : Int32} {μ' : me_M} {r : Except Nat Int32}  (hf : f_Y_receive μ v1 v2 = some (μ', r)) : ∀ l E z, l.stackTraces = false → me_Met l yX11_receive cX11_receive 4 (some .int) 8 133 3 18 E B μ z [me_r 0 0, me_i v1, me_i v2] (B, μ', me_xc (fun v => some (me_i v)) r) :=
  fun _ _ _ hl => me_ofZ hl (by decide +kernel) (Nat.le_of_ble_eq_true rfl) (fun _ C N hNx => z_Y_receive C N hNx hB  hf)

def f_Y_setAllPlaces_b7 (K7 : me_M → Int32 → Int32 → Option (me_M × Unit)) (μ : me_M) (v1 : Int32) (v2 : Int32) : Option (me_M × Unit) :=
  if (16 : Int32) ≤ v2 then
  (some (μ, ()))
  else
  (me_gd (me_inb v2 16) (
  me_b2 (f_Router_setPlaces μ (me_ix v2) v1) (fun μ4 r3 =>
  me_lt (me_inc v2 (1)) (fun x5 =>
  K7 μ4 v1 x5))))
set_option maxHeartbeats 4000000 in
set_option maxRecDepth 100000 in
theorem z_Y_setAllPlaces_b7 {X : me_X} {B : me_B} {sz : Nat} (C : me_C X B RX11 cX11_setAllPlaces 3 none) {μ : me_M} {v1 : Int32} {v2 : Int32}  {K7 : me_M → Int32 → Int32 → Option (me_M × Unit)} {r : me_M × Unit} (N : me_En X B sz (B, r.1, .ok (none)) 1 22 0 0) (hNx : me_Nx X) (hB : me_St B) (hK7 : ∀ (μ : me_M) (v1 : Int32) (v2 : Int32), K7 μ v1 v2 = some r → me_Z X B 0 0 μ 7 [(0, me_r 0 0), (1, me_i v1), (2, me_i v2)] [])  (hf : f_Y_setAllPlaces_b7 K7 μ v1 v2 = some r) : me_Z X B 0 0 μ 7 [(0, me_r 0 0), (1, me_i v1), (2, me_i v2)] [] := by
  unfold f_Y_setAllPlaces_b7 at hf
  refine me_iload_n C 2 dX11_setAllPlaces_7 rfl rfl ?_
  refine me_bipush C (v := 16) dX11_setAllPlaces_8 (by decide) ?_
  refine me_icmp_ge C (tgt := 29) dX11_setAllPlaces_10 (by decide) (fun c1 => ?_) (fun c1 => ?_)
  · replace hf := me_ip c1 hf
    exact me_vret C N dX11_setAllPlaces_29 (by cases hf; rfl) (by decide) (by decide)
  · replace hf := me_in c1 hf
    refine me_aload_n C 0 (Or.inr (Or.inl ⟨_, rfl⟩)) dX11_setAllPlaces_13 rfl rfl ?_
    refine me_getr C hB 3 (k' := 12) (i' := 0) fg_Y_34 dX11_setAllPlaces_14 rfl rfl ?_
    refine me_iload_n C 2 dX11_setAllPlaces_17 rfl rfl ?_
    obtain ⟨g2, hf⟩ := me_gs hf
    refine me_aald C hB (k' := 13) (i' := (me_ix v2)) rfl (fun _ => rfl) rfl g2 dX11_setAllPlaces_18 rfl ?_
    refine me_iload_n C 1 dX11_setAllPlaces_19 rfl rfl ?_
    obtain ⟨μ4, r3, h_r3, hf⟩ := me_bs2 hf
    refine me_callV0 C N  (As := [me_i v1]) (st := []) 0 0 (c_Router_setPlaces hB h_r3) mv_Router_setPlaces ml_Y_412 rfl rfl dX11_setAllPlaces_20 rfl rfl ⟨by decide, by decide⟩ ⟨by decide, by decide, by decide, by decide⟩ (Nat.le_of_ble_eq_true rfl) ?_
    obtain ⟨x5, e_x5, hf⟩ := me_lts hf
    refine me_iinc C (v := x5) (L' := [(2, me_i x5), (0, me_r 0 0), (1, me_i v1)]) dX11_setAllPlaces_23 rfl e_x5.symm (by decide) rfl ?_
    refine me_goto C (tgt := 7) dX11_setAllPlaces_26 (by decide) ?_
    refine me_dropI [(0, me_r 0 0), (1, me_i v1), (2, me_i x5)] [1, 2, 0] rfl ?_
    exact hK7 μ4 v1 x5 hf
def f_Y_setAllPlaces_h7  : Nat → me_M → Int32 → Int32 → Option (me_M × Unit)
  | 0, _, _, _ => none
  | n + 1, μ, v1, v2 => f_Y_setAllPlaces_b7 (f_Y_setAllPlaces_h7 n) μ v1 v2
set_option maxHeartbeats 4000000 in
set_option maxRecDepth 100000 in
theorem z_Y_setAllPlaces_h7 {X : me_X} {B : me_B} {sz : Nat} (C : me_C X B RX11 cX11_setAllPlaces 3 none)  {r : me_M × Unit} (N : me_En X B sz (B, r.1, .ok (none)) 1 22 0 0) (hNx : me_Nx X) (hB : me_St B)  : ∀ (n : Nat) (μ : me_M) (v1 : Int32) (v2 : Int32), f_Y_setAllPlaces_h7 n μ v1 v2 = some r → me_Z X B 0 0 μ 7 [(0, me_r 0 0), (1, me_i v1), (2, me_i v2)] [] := by
  intro n
  induction n with
  | zero => intro μ v1 v2  h; exact absurd (show (none : Option (me_M × Unit)) = some r from h) (fun q => by cases q)
  | succ n ih => intro μ v1 v2  h; exact z_Y_setAllPlaces_b7 C N hNx hB  (K7 := f_Y_setAllPlaces_h7 n) ih  h
def f_Y_setAllPlaces (μ : me_M) (v1 : Int32) : Option (me_M × Unit) :=
  me_lt (me_up μ 0 0 9 v1) (fun μ1 =>
  f_Y_setAllPlaces_h7 me_FU μ1 v1 (0 : Int32))
set_option maxHeartbeats 4000000 in
set_option maxRecDepth 100000 in
theorem z_Y_setAllPlaces {X : me_X} {B : me_B} {sz : Nat} (C : me_C X B RX11 cX11_setAllPlaces 3 none) {μ : me_M} {v1 : Int32}   {r : me_M × Unit} (N : me_En X B sz (B, r.1, .ok (none)) 1 22 0 0) (hNx : me_Nx X) (hB : me_St B)   (hf : f_Y_setAllPlaces μ v1 = some r) : me_Z X B 0 0 μ 0 [(0, me_r 0 0), (1, me_i v1)] [] := by
  unfold f_Y_setAllPlaces at hf
  refine me_aload_n C 0 (Or.inr (Or.inl ⟨_, rfl⟩)) dX11_setAllPlaces_0 rfl rfl ?_
  refine me_iload_n C 1 dX11_setAllPlaces_1 rfl rfl ?_
  obtain ⟨μ1, e_μ1, hf⟩ := me_lts hf
  refine me_puti C 9 fw_Y_225 dX11_setAllPlaces_2 rfl (me_nri _) e_μ1 ?_
  refine me_iconst C (v := 0) dX11_setAllPlaces_5 (by decide) ?_
  refine me_istore_n C 2 dX11_setAllPlaces_6 rfl (by decide) (L' := [(2, me_i (0 : Int32)), (0, me_r 0 0), (1, me_i v1)]) rfl ?_
  refine me_dropI [(0, me_r 0 0), (1, me_i v1), (2, me_i (0 : Int32))] [1, 2, 0] rfl ?_
  exact z_Y_setAllPlaces_h7 C N hNx hB me_FU μ1 v1 (0 : Int32) hf
theorem c_Y_setAllPlaces {B : me_B} (hB : me_St B) {μ : me_M} {v1 : Int32} {μ' : me_M} {r : Unit}  (hf : f_Y_setAllPlaces μ v1 = some (μ', r)) : ∀ l E z, l.stackTraces = false → me_Met l yX11_setAllPlaces cX11_setAllPlaces 3 none 1 22 0 0 E B μ z [me_r 0 0, me_i v1] (B, μ', .ok (none)) :=
  fun _ _ _ hl => me_ofZ hl (by decide +kernel) (Nat.le_of_ble_eq_true rfl) (fun _ C N hNx => z_Y_setAllPlaces C N hNx hB  hf)

def f_Y_makeAnew_b41 (K41 : me_M → Int32 → Option (me_M × Unit)) (μ : me_M) (v3 : Int32) : Option (me_M × Unit) :=
  if (16 : Int32) ≤ v3 then
  (me_b2 (f_Y_setAllPlaces μ (2 : Int32)) (fun μ3 r2 =>
  some (μ3, ())))
  else
  (me_gd (me_inb v3 16) (
  me_b2 (f_Router_reset μ (me_ix v3)) (fun μ6 r5 =>
  me_gd (me_inb v3 16) (
  me_b2 (f_Core_reset μ6 (me_ix v3)) (fun μ9 r8 =>
  me_lt (me_inc v3 (1)) (fun x10 =>
  K41 μ9 x10))))))
set_option maxHeartbeats 4000000 in
set_option maxRecDepth 100000 in
theorem z_Y_makeAnew_b41 {X : me_X} {B : me_B} {sz : Nat} (C : me_C X B RX11 cX11_makeAnew 4 none) {μ : me_M} {v3 : Int32}  {K41 : me_M → Int32 → Option (me_M × Unit)} {r : me_M × Unit} (N : me_En X B sz (B, r.1, .ok (none)) 2 44 0 0) (hNx : me_Nx X) (hB : me_St B) (hK41 : ∀ (μ : me_M) (v3 : Int32), K41 μ v3 = some r → me_Z X B 0 0 μ 41 [(0, me_r 0 0), (3, me_i v3)] [])  (hf : f_Y_makeAnew_b41 K41 μ v3 = some r) : me_Z X B 0 0 μ 41 [(0, me_r 0 0), (3, me_i v3)] [] := by
  unfold f_Y_makeAnew_b41 at hf
  refine me_iload_n C 3 dX11_makeAnew_41 rfl rfl ?_
  refine me_bipush C (v := 16) dX11_makeAnew_42 (by decide) ?_
  refine me_icmp_ge C (tgt := 71) dX11_makeAnew_44 (by decide) (fun c1 => ?_) (fun c1 => ?_)
  · replace hf := me_ip c1 hf
    refine me_aload_n C 0 (Or.inr (Or.inl ⟨_, rfl⟩)) dX11_makeAnew_71 rfl rfl ?_
    refine me_iconst C (v := 2) dX11_makeAnew_72 (by decide) ?_
    obtain ⟨μ3, r2, h_r2, hf⟩ := me_bs2 hf
    refine me_callV0 C N  (As := [me_i (2 : Int32)]) (st := []) 0 0 (c_Y_setAllPlaces hB h_r2) mv_Y_setAllPlaces ml_Y_228 rfl rfl dX11_makeAnew_73 rfl rfl ⟨by decide, by decide⟩ ⟨by decide, by decide, by decide, by decide⟩ (Nat.le_of_ble_eq_true rfl) ?_
    exact me_vret C N dX11_makeAnew_76 (by cases hf; rfl) (by decide) (by decide)
  · replace hf := me_in c1 hf
    refine me_aload_n C 0 (Or.inr (Or.inl ⟨_, rfl⟩)) dX11_makeAnew_47 rfl rfl ?_
    refine me_getr C hB 3 (k' := 12) (i' := 0) fg_Y_34 dX11_makeAnew_48 rfl rfl ?_
    refine me_iload_n C 3 dX11_makeAnew_51 rfl rfl ?_
    obtain ⟨g4, hf⟩ := me_gs hf
    refine me_aald C hB (k' := 13) (i' := (me_ix v3)) rfl (fun _ => rfl) rfl g4 dX11_makeAnew_52 rfl ?_
    obtain ⟨μ6, r5, h_r5, hf⟩ := me_bs2 hf
    refine me_callV0 C N  (As := []) (st := []) 0 0 (c_Router_reset hB h_r5) mv_Router_reset ml_Y_410 rfl rfl dX11_makeAnew_53 rfl rfl ⟨by decide, by decide⟩ ⟨by decide, by decide, by decide, by decide⟩ (Nat.le_of_ble_eq_true rfl) ?_
    refine me_aload_n C 0 (Or.inr (Or.inl ⟨_, rfl⟩)) dX11_makeAnew_56 rfl rfl ?_
    refine me_getr C hB 4 (k' := 21) (i' := 0) fg_Y_40 dX11_makeAnew_57 rfl rfl ?_
    refine me_iload_n C 3 dX11_makeAnew_60 rfl rfl ?_
    obtain ⟨g7, hf⟩ := me_gs hf
    refine me_aald C hB (k' := 22) (i' := (me_ix v3)) rfl (fun _ => rfl) rfl g7 dX11_makeAnew_61 rfl ?_
    obtain ⟨μ9, r8, h_r8, hf⟩ := me_bs2 hf
    refine me_callV0 C N  (As := []) (st := []) 0 0 (c_Core_reset hB h_r8) mv_Core_reset ml_Y_411 rfl rfl dX11_makeAnew_62 rfl rfl ⟨by decide, by decide⟩ ⟨by decide, by decide, by decide, by decide⟩ (Nat.le_of_ble_eq_true rfl) ?_
    obtain ⟨x10, e_x10, hf⟩ := me_lts hf
    refine me_iinc C (v := x10) (L' := [(3, me_i x10), (0, me_r 0 0)]) dX11_makeAnew_65 rfl e_x10.symm (by decide) rfl ?_
    refine me_goto C (tgt := 41) dX11_makeAnew_68 (by decide) ?_
    refine me_dropI [(0, me_r 0 0), (3, me_i x10)] [1, 0] rfl ?_
    exact hK41 μ9 x10 hf
def f_Y_makeAnew_h41  : Nat → me_M → Int32 → Option (me_M × Unit)
  | 0, _, _ => none
  | n + 1, μ, v3 => f_Y_makeAnew_b41 (f_Y_makeAnew_h41 n) μ v3
set_option maxHeartbeats 4000000 in
set_option maxRecDepth 100000 in
theorem z_Y_makeAnew_h41 {X : me_X} {B : me_B} {sz : Nat} (C : me_C X B RX11 cX11_makeAnew 4 none)  {r : me_M × Unit} (N : me_En X B sz (B, r.1, .ok (none)) 2 44 0 0) (hNx : me_Nx X) (hB : me_St B)  : ∀ (n : Nat) (μ : me_M) (v3 : Int32), f_Y_makeAnew_h41 n μ v3 = some r → me_Z X B 0 0 μ 41 [(0, me_r 0 0), (3, me_i v3)] [] := by
  intro n
  induction n with
  | zero => intro μ v3  h; exact absurd (show (none : Option (me_M × Unit)) = some r from h) (fun q => by cases q)
  | succ n ih => intro μ v3  h; exact z_Y_makeAnew_b41 C N hNx hB  (K41 := f_Y_makeAnew_h41 n) ih  h
def f_Y_makeAnew (μ : me_M) (v1 : Int32) (v2 : Int32) : Option (me_M × Unit) :=
  me_b2 (f_Net_lay μ v1 v2) (fun μ2 r1 =>
  me_b2 (f_Post_reset μ2) (fun μ4 r3 =>
  me_b2 (f_Placing_reset μ4) (fun μ6 r5 =>
  me_lt (me_up μ6 27 0 4 (120 : Int32)) (fun μ7 =>
  me_b2 (f_Mover_reset μ7) (fun μ9 r8 =>
  f_Y_makeAnew_h41 me_FU μ9 (0 : Int32))))))
set_option maxHeartbeats 4000000 in
set_option maxRecDepth 100000 in
theorem z_Y_makeAnew {X : me_X} {B : me_B} {sz : Nat} (C : me_C X B RX11 cX11_makeAnew 4 none) {μ : me_M} {v1 : Int32} {v2 : Int32}   {r : me_M × Unit} (N : me_En X B sz (B, r.1, .ok (none)) 2 44 0 0) (hNx : me_Nx X) (hB : me_St B)   (hf : f_Y_makeAnew μ v1 v2 = some r) : me_Z X B 0 0 μ 0 [(0, me_r 0 0), (1, me_i v1), (2, me_i v2)] [] := by
  unfold f_Y_makeAnew at hf
  refine me_aload_n C 0 (Or.inr (Or.inl ⟨_, rfl⟩)) dX11_makeAnew_0 rfl rfl ?_
  refine me_getr C hB 0 (k' := 1) (i' := 0) fg_Y_10 dX11_makeAnew_1 rfl rfl ?_
  refine me_iload_n C 1 dX11_makeAnew_4 rfl rfl ?_
  refine me_iload_n C 2 dX11_makeAnew_5 rfl rfl ?_
  obtain ⟨μ2, r1, h_r1, hf⟩ := me_bs2 hf
  refine me_callV0 C N  (As := [me_i v1, me_i v2]) (st := []) 0 0 (c_Net_lay hB h_r1) mv_Net_lay ml_Y_402 rfl rfl dX11_makeAnew_6 rfl rfl ⟨by decide, by decide⟩ ⟨by decide, by decide, by decide, by decide⟩ (Nat.le_of_ble_eq_true rfl) ?_
  refine me_aload_n C 0 (Or.inr (Or.inl ⟨_, rfl⟩)) dX11_makeAnew_9 rfl rfl ?_
  refine me_getr C hB 1 (k' := 6) (i' := 0) fg_Y_19 dX11_makeAnew_10 rfl rfl ?_
  obtain ⟨μ4, r3, h_r3, hf⟩ := me_bs2 hf
  refine me_callV0 C N  (As := []) (st := []) 0 0 (c_Post_reset hB h_r3) mv_Post_reset ml_Y_405 rfl rfl dX11_makeAnew_13 rfl rfl ⟨by decide, by decide⟩ ⟨by decide, by decide, by decide, by decide⟩ (Nat.le_of_ble_eq_true rfl) ?_
  refine me_aload_n C 0 (Or.inr (Or.inl ⟨_, rfl⟩)) dX11_makeAnew_16 rfl rfl ?_
  refine me_getr C hB 2 (k' := 9) (i' := 0) fg_Y_28 dX11_makeAnew_17 rfl rfl ?_
  obtain ⟨μ6, r5, h_r5, hf⟩ := me_bs2 hf
  refine me_callV0 C N  (As := []) (st := []) 0 0 (c_Placing_reset hB h_r5) mv_Placing_reset ml_Y_408 rfl rfl dX11_makeAnew_20 rfl rfl ⟨by decide, by decide⟩ ⟨by decide, by decide, by decide, by decide⟩ (Nat.le_of_ble_eq_true rfl) ?_
  refine me_aload_n C 0 (Or.inr (Or.inl ⟨_, rfl⟩)) dX11_makeAnew_23 rfl rfl ?_
  refine me_getr C hB 5 (k' := 27) (i' := 0) fg_Y_49 dX11_makeAnew_24 rfl rfl ?_
  refine me_bipush C (v := 120) dX11_makeAnew_27 (by decide) ?_
  obtain ⟨μ7, e_μ7, hf⟩ := me_lts hf
  refine me_puti C 4 fw_Y_222 dX11_makeAnew_29 rfl (by decide +kernel) e_μ7 ?_
  refine me_aload_n C 0 (Or.inr (Or.inl ⟨_, rfl⟩)) dX11_makeAnew_32 rfl rfl ?_
  refine me_getr C hB 6 (k' := 30) (i' := 0) fg_Y_58 dX11_makeAnew_33 rfl rfl ?_
  obtain ⟨μ9, r8, h_r8, hf⟩ := me_bs2 hf
  refine me_callV0 C N  (As := []) (st := []) 0 0 (c_Mover_reset hB h_r8) mv_Mover_reset ml_Y_409 rfl rfl dX11_makeAnew_36 rfl rfl ⟨by decide, by decide⟩ ⟨by decide, by decide, by decide, by decide⟩ (Nat.le_of_ble_eq_true rfl) ?_
  refine me_iconst C (v := 0) dX11_makeAnew_39 (by decide) ?_
  refine me_istore_n C 3 dX11_makeAnew_40 rfl (by decide) (L' := [(3, me_i (0 : Int32)), (0, me_r 0 0), (1, me_i v1), (2, me_i v2)]) rfl ?_
  refine me_dropI [(0, me_r 0 0), (3, me_i (0 : Int32))] [1, 0] rfl ?_
  exact z_Y_makeAnew_h41 C N hNx hB me_FU μ9 (0 : Int32) hf
theorem c_Y_makeAnew {B : me_B} (hB : me_St B) {μ : me_M} {v1 : Int32} {v2 : Int32} {μ' : me_M} {r : Unit}  (hf : f_Y_makeAnew μ v1 v2 = some (μ', r)) : ∀ l E z, l.stackTraces = false → me_Met l yX11_makeAnew cX11_makeAnew 4 none 2 44 0 0 E B μ z [me_r 0 0, me_i v1, me_i v2] (B, μ', .ok (none)) :=
  fun _ _ _ hl => me_ofZ hl (by decide +kernel) (Nat.le_of_ble_eq_true rfl) (fun _ C N hNx => z_Y_makeAnew C N hNx hB  hf)

def f_Y_net (μ : me_M) (v1 : Int32) (v2 : Int32) : Option (me_M × (Except Nat Int32)) :=
  me_bd (f_Y_needRange μ v1 (1 : Int32) (4 : Int32)) (fun r1 =>
  me_xb2 r1 μ (fun r1 =>
  me_bd (f_Y_needRange μ v2 (1 : Int32) (4 : Int32)) (fun r2 =>
  me_xb2 r2 μ (fun r2 =>
  me_b2 (f_Y_makeAnew μ v1 v2) (fun μ4 r3 =>
  some (μ4, .ok (μ4 1 0 4)))))))
set_option maxHeartbeats 4000000 in
set_option maxRecDepth 100000 in
theorem z_Y_net {X : me_X} {B : me_B} {sz : Nat} (C : me_C X B RX11 cX11_net 3 (some .int)) {μ : me_M} {v1 : Int32} {v2 : Int32}   {r : me_M × (Except Nat Int32)} (N : me_En X B sz (B, r.1, me_xc (fun v => some (me_i v)) r.2) 7 113 2 12) (hNx : me_Nx X) (hB : me_St B)   (hf : f_Y_net μ v1 v2 = some r) : me_Z X B 0 0 μ 0 [(0, me_r 0 0), (1, me_i v1), (2, me_i v2)] [] := by
  unfold f_Y_net at hf
  refine me_aload_n C 0 (Or.inr (Or.inl ⟨_, rfl⟩)) dX11_net_0 rfl rfl ?_
  refine me_iload_n C 1 dX11_net_1 rfl rfl ?_
  refine me_iconst C (v := 1) dX11_net_2 (by decide) ?_
  refine me_iconst C (v := 4) dX11_net_3 (by decide) ?_
  obtain ⟨r1, h_r1, hf⟩ := me_bs hf
  rcases r1 with r1 | r1
  · replace hf := me_xb2e hf
    refine me_callVE C N  (As := [me_i v1, me_i (1 : Int32), me_i (4 : Int32)]) (st := []) 1 6 (c_Y_needRange hB h_r1) mv_Y_needRange ml_Y_87 rfl rfl dX11_net_4 rfl rfl ⟨by decide, by decide⟩ ⟨by decide, by decide, by decide, by decide⟩ (Nat.le_of_ble_eq_true rfl) ?_
    exact me_outX C N hNx (by cases hf; rfl) (by decide) (by decide)
  replace hf := me_xb2o hf
  refine me_callV0 C N  (As := [me_i v1, me_i (1 : Int32), me_i (4 : Int32)]) (st := []) 1 6 (c_Y_needRange hB h_r1) mv_Y_needRange ml_Y_87 rfl rfl dX11_net_4 rfl rfl ⟨by decide, by decide⟩ ⟨by decide, by decide, by decide, by decide⟩ (Nat.le_of_ble_eq_true rfl) ?_
  refine me_aload_n C 0 (Or.inr (Or.inl ⟨_, rfl⟩)) dX11_net_7 rfl rfl ?_
  refine me_iload_n C 2 dX11_net_8 rfl rfl ?_
  refine me_iconst C (v := 1) dX11_net_9 (by decide) ?_
  refine me_iconst C (v := 4) dX11_net_10 (by decide) ?_
  obtain ⟨r2, h_r2, hf⟩ := me_bs hf
  rcases r2 with r2 | r2
  · replace hf := me_xb2e hf
    refine me_callVE C N  (As := [me_i v2, me_i (1 : Int32), me_i (4 : Int32)]) (st := []) 2 12 (c_Y_needRange hB h_r2) mv_Y_needRange ml_Y_87 rfl rfl dX11_net_11 rfl rfl ⟨by decide, by decide⟩ ⟨by decide, by decide, by decide, by decide⟩ (Nat.le_of_ble_eq_true rfl) ?_
    exact me_outX C N hNx (by cases hf; rfl) (by decide) (by decide)
  replace hf := me_xb2o hf
  refine me_callV0 C N  (As := [me_i v2, me_i (1 : Int32), me_i (4 : Int32)]) (st := []) 2 12 (c_Y_needRange hB h_r2) mv_Y_needRange ml_Y_87 rfl rfl dX11_net_11 rfl rfl ⟨by decide, by decide⟩ ⟨by decide, by decide, by decide, by decide⟩ (Nat.le_of_ble_eq_true rfl) ?_
  refine me_aload_n C 0 (Or.inr (Or.inl ⟨_, rfl⟩)) dX11_net_14 rfl rfl ?_
  refine me_iload_n C 1 dX11_net_15 rfl rfl ?_
  refine me_iload_n C 2 dX11_net_16 rfl rfl ?_
  obtain ⟨μ4, r3, h_r3, hf⟩ := me_bs2 hf
  refine me_callV0 C N  (As := [me_i v1, me_i v2]) (st := []) 2 12 (c_Y_makeAnew hB h_r3) mv_Y_makeAnew ml_Y_80 rfl rfl dX11_net_17 rfl rfl ⟨by decide, by decide⟩ ⟨by decide, by decide, by decide, by decide⟩ (Nat.le_of_ble_eq_true rfl) ?_
  refine me_aload_n C 0 (Or.inr (Or.inl ⟨_, rfl⟩)) dX11_net_20 rfl rfl ?_
  refine me_getr C hB 0 (k' := 1) (i' := 0) fg_Y_10 dX11_net_21 rfl rfl ?_
  refine me_geti C 4 fg_Y_106 dX11_net_24 rfl ?_
  exact me_iret C N dX11_net_27 (me_nri _) (by cases hf; rfl) (by decide) (by decide)
theorem c_Y_net {B : me_B} (hB : me_St B) {μ : me_M} {v1 : Int32} {v2 : Int32} {μ' : me_M} {r : Except Nat Int32}  (hf : f_Y_net μ v1 v2 = some (μ', r)) : ∀ l E z, l.stackTraces = false → me_Met l yX11_net cX11_net 3 (some .int) 7 113 2 12 E B μ z [me_r 0 0, me_i v1, me_i v2] (B, μ', me_xc (fun v => some (me_i v)) r) :=
  fun _ _ _ hl => me_ofZ hl (by decide +kernel) (Nat.le_of_ble_eq_true rfl) (fun _ C N hNx => z_Y_net C N hNx hB  hf)

def f_Y_beats_b10 (K10 : me_M → Int32 → Int32 → Option (me_M × (Except Nat Int32))) (μ : me_M) (v1 : Int32) (v2 : Int32) : Option (me_M × (Except Nat Int32)) :=
  if v1 ≤ v2 then
  (me_gd (me_nr .boolean (μ 30 0 7)) (
  some (μ, .ok (μ 30 0 7))))
  else
  (me_b2 (f_Mover_beginBeat μ) (fun μ4 r3 =>
  me_b2 (f_Works_runCores μ4 (μ4 30 0 5)) (fun μ6 r5 =>
  me_b2 (f_Mover_moveAll μ6) (fun μ8 r7 =>
  me_b2 (f_Mover_putAll μ8) (fun μ10 r9 =>
  me_b2 (f_Works_passBarrier μ10) (fun μ12 r11 =>
  me_b2 (f_Mover_endBeat μ12) (fun μ14 r13 =>
  me_lt (me_inc v2 (1)) (fun x15 =>
  K10 μ14 v1 x15))))))))
set_option maxHeartbeats 4000000 in
set_option maxRecDepth 100000 in
theorem z_Y_beats_b10 {X : me_X} {B : me_B} {sz : Nat} (C : me_C X B RX11 cX11_beats 3 (some .boolean)) {μ : me_M} {v1 : Int32} {v2 : Int32}  {K10 : me_M → Int32 → Int32 → Option (me_M × (Except Nat Int32))} {r : me_M × (Except Nat Int32)} (N : me_En X B sz (B, r.1, me_xc (fun v => some (me_i v)) r.2) 7 172 1 6) (hNx : me_Nx X) (hB : me_St B) (hK10 : ∀ (μ : me_M) (v1 : Int32) (v2 : Int32), K10 μ v1 v2 = some r → me_Z X B 1 6 μ 10 [(0, me_r 0 0), (1, me_i v1), (2, me_i v2)] [])  (hf : f_Y_beats_b10 K10 μ v1 v2 = some r) : me_Z X B 1 6 μ 10 [(0, me_r 0 0), (1, me_i v1), (2, me_i v2)] [] := by
  unfold f_Y_beats_b10 at hf
  refine me_iload_n C 2 dX11_beats_10 rfl rfl ?_
  refine me_iload_n C 1 dX11_beats_11 rfl rfl ?_
  refine me_icmp_ge C (tgt := 70) dX11_beats_12 (by decide) (fun c1 => ?_) (fun c1 => ?_)
  · replace hf := me_ip c1 hf
    refine me_aload_n C 0 (Or.inr (Or.inl ⟨_, rfl⟩)) dX11_beats_70 rfl rfl ?_
    refine me_getr C hB 6 (k' := 30) (i' := 0) fg_Y_58 dX11_beats_71 rfl rfl ?_
    refine me_geti C 7 fg_Y_209 dX11_beats_74 rfl ?_
    obtain ⟨g2, hf⟩ := me_gs hf
    exact me_iret C N dX11_beats_77 g2 (by cases hf; rfl) (by decide) (by decide)
  · replace hf := me_in c1 hf
    refine me_aload_n C 0 (Or.inr (Or.inl ⟨_, rfl⟩)) dX11_beats_15 rfl rfl ?_
    refine me_getr C hB 6 (k' := 30) (i' := 0) fg_Y_58 dX11_beats_16 rfl rfl ?_
    obtain ⟨μ4, r3, h_r3, hf⟩ := me_bs2 hf
    refine me_callV0 C N  (As := []) (st := []) 1 6 (c_Mover_beginBeat hB h_r3) mv_Mover_beginBeat ml_Y_191 rfl rfl dX11_beats_19 rfl rfl ⟨by decide, by decide⟩ ⟨by decide, by decide, by decide, by decide⟩ (Nat.le_of_ble_eq_true rfl) ?_
    refine me_aload_n C 0 (Or.inr (Or.inl ⟨_, rfl⟩)) dX11_beats_22 rfl rfl ?_
    refine me_getr C hB 7 (k' := 31) (i' := 0) fg_Y_67 dX11_beats_23 rfl rfl ?_
    refine me_aload_n C 0 (Or.inr (Or.inl ⟨_, rfl⟩)) dX11_beats_26 rfl rfl ?_
    refine me_getr C hB 6 (k' := 30) (i' := 0) fg_Y_58 dX11_beats_27 rfl rfl ?_
    refine me_geti C 5 fg_Y_95 dX11_beats_30 rfl ?_
    obtain ⟨μ6, r5, h_r5, hf⟩ := me_bs2 hf
    refine me_callV0 C N  (As := [me_i (μ4 30 0 5)]) (st := []) 1 6 (c_Works_runCores hB h_r5) mv_Works_runCores ml_Y_194 rfl rfl dX11_beats_33 rfl rfl ⟨by decide, by decide⟩ ⟨by decide, by decide, by decide, by decide⟩ (Nat.le_of_ble_eq_true rfl) ?_
    refine me_aload_n C 0 (Or.inr (Or.inl ⟨_, rfl⟩)) dX11_beats_36 rfl rfl ?_
    refine me_getr C hB 6 (k' := 30) (i' := 0) fg_Y_58 dX11_beats_37 rfl rfl ?_
    obtain ⟨μ8, r7, h_r7, hf⟩ := me_bs2 hf
    refine me_callV0 C N  (As := []) (st := []) 1 6 (c_Mover_moveAll hB h_r7) mv_Mover_moveAll ml_Y_197 rfl rfl dX11_beats_40 rfl rfl ⟨by decide, by decide⟩ ⟨by decide, by decide, by decide, by decide⟩ (Nat.le_of_ble_eq_true rfl) ?_
    refine me_aload_n C 0 (Or.inr (Or.inl ⟨_, rfl⟩)) dX11_beats_43 rfl rfl ?_
    refine me_getr C hB 6 (k' := 30) (i' := 0) fg_Y_58 dX11_beats_44 rfl rfl ?_
    obtain ⟨μ10, r9, h_r9, hf⟩ := me_bs2 hf
    refine me_callV0 C N  (As := []) (st := []) 1 6 (c_Mover_putAll hB h_r9) mv_Mover_putAll ml_Y_200 rfl rfl dX11_beats_47 rfl rfl ⟨by decide, by decide⟩ ⟨by decide, by decide, by decide, by decide⟩ (Nat.le_of_ble_eq_true rfl) ?_
    refine me_aload_n C 0 (Or.inr (Or.inl ⟨_, rfl⟩)) dX11_beats_50 rfl rfl ?_
    refine me_getr C hB 7 (k' := 31) (i' := 0) fg_Y_67 dX11_beats_51 rfl rfl ?_
    obtain ⟨μ12, r11, h_r11, hf⟩ := me_bs2 hf
    refine me_callV0 C N  (As := []) (st := []) 1 6 (c_Works_passBarrier hB h_r11) mv_Works_passBarrier ml_Y_203 rfl rfl dX11_beats_54 rfl rfl ⟨by decide, by decide⟩ ⟨by decide, by decide, by decide, by decide⟩ (Nat.le_of_ble_eq_true rfl) ?_
    refine me_aload_n C 0 (Or.inr (Or.inl ⟨_, rfl⟩)) dX11_beats_57 rfl rfl ?_
    refine me_getr C hB 6 (k' := 30) (i' := 0) fg_Y_58 dX11_beats_58 rfl rfl ?_
    obtain ⟨μ14, r13, h_r13, hf⟩ := me_bs2 hf
    refine me_callV0 C N  (As := []) (st := []) 1 6 (c_Mover_endBeat hB h_r13) mv_Mover_endBeat ml_Y_206 rfl rfl dX11_beats_61 rfl rfl ⟨by decide, by decide⟩ ⟨by decide, by decide, by decide, by decide⟩ (Nat.le_of_ble_eq_true rfl) ?_
    obtain ⟨x15, e_x15, hf⟩ := me_lts hf
    refine me_iinc C (v := x15) (L' := [(2, me_i x15), (0, me_r 0 0), (1, me_i v1)]) dX11_beats_64 rfl e_x15.symm (by decide) rfl ?_
    refine me_goto C (tgt := 10) dX11_beats_67 (by decide) ?_
    refine me_dropI [(0, me_r 0 0), (1, me_i v1), (2, me_i x15)] [1, 2, 0] rfl ?_
    exact hK10 μ14 v1 x15 hf
def f_Y_beats_h10  : Nat → me_M → Int32 → Int32 → Option (me_M × (Except Nat Int32))
  | 0, _, _, _ => none
  | n + 1, μ, v1, v2 => f_Y_beats_b10 (f_Y_beats_h10 n) μ v1 v2
set_option maxHeartbeats 4000000 in
set_option maxRecDepth 100000 in
theorem z_Y_beats_h10 {X : me_X} {B : me_B} {sz : Nat} (C : me_C X B RX11 cX11_beats 3 (some .boolean))  {r : me_M × (Except Nat Int32)} (N : me_En X B sz (B, r.1, me_xc (fun v => some (me_i v)) r.2) 7 172 1 6) (hNx : me_Nx X) (hB : me_St B)  : ∀ (n : Nat) (μ : me_M) (v1 : Int32) (v2 : Int32), f_Y_beats_h10 n μ v1 v2 = some r → me_Z X B 1 6 μ 10 [(0, me_r 0 0), (1, me_i v1), (2, me_i v2)] [] := by
  intro n
  induction n with
  | zero => intro μ v1 v2  h; exact absurd (show (none : Option (me_M × (Except Nat Int32))) = some r from h) (fun q => by cases q)
  | succ n ih => intro μ v1 v2  h; exact z_Y_beats_b10 C N hNx hB  (K10 := f_Y_beats_h10 n) ih  h
def f_Y_beats (μ : me_M) (v1 : Int32) : Option (me_M × (Except Nat Int32)) :=
  me_bd (f_Y_needRange μ v1 (1 : Int32) (100 : Int32)) (fun r1 =>
  me_xb2 r1 μ (fun r1 =>
  f_Y_beats_h10 me_FU μ v1 (0 : Int32)))
set_option maxHeartbeats 4000000 in
set_option maxRecDepth 100000 in
theorem z_Y_beats {X : me_X} {B : me_B} {sz : Nat} (C : me_C X B RX11 cX11_beats 3 (some .boolean)) {μ : me_M} {v1 : Int32}   {r : me_M × (Except Nat Int32)} (N : me_En X B sz (B, r.1, me_xc (fun v => some (me_i v)) r.2) 7 172 1 6) (hNx : me_Nx X) (hB : me_St B)   (hf : f_Y_beats μ v1 = some r) : me_Z X B 0 0 μ 0 [(0, me_r 0 0), (1, me_i v1)] [] := by
  unfold f_Y_beats at hf
  refine me_aload_n C 0 (Or.inr (Or.inl ⟨_, rfl⟩)) dX11_beats_0 rfl rfl ?_
  refine me_iload_n C 1 dX11_beats_1 rfl rfl ?_
  refine me_iconst C (v := 1) dX11_beats_2 (by decide) ?_
  refine me_bipush C (v := 100) dX11_beats_3 (by decide) ?_
  obtain ⟨r1, h_r1, hf⟩ := me_bs hf
  rcases r1 with r1 | r1
  · replace hf := me_xb2e hf
    refine me_callVE C N  (As := [me_i v1, me_i (1 : Int32), me_i (100 : Int32)]) (st := []) 1 6 (c_Y_needRange hB h_r1) mv_Y_needRange ml_Y_87 rfl rfl dX11_beats_5 rfl rfl ⟨by decide, by decide⟩ ⟨by decide, by decide, by decide, by decide⟩ (Nat.le_of_ble_eq_true rfl) ?_
    exact me_outX C N hNx (by cases hf; rfl) (by decide) (by decide)
  replace hf := me_xb2o hf
  refine me_callV0 C N  (As := [me_i v1, me_i (1 : Int32), me_i (100 : Int32)]) (st := []) 1 6 (c_Y_needRange hB h_r1) mv_Y_needRange ml_Y_87 rfl rfl dX11_beats_5 rfl rfl ⟨by decide, by decide⟩ ⟨by decide, by decide, by decide, by decide⟩ (Nat.le_of_ble_eq_true rfl) ?_
  refine me_iconst C (v := 0) dX11_beats_8 (by decide) ?_
  refine me_istore_n C 2 dX11_beats_9 rfl (by decide) (L' := [(2, me_i (0 : Int32)), (0, me_r 0 0), (1, me_i v1)]) rfl ?_
  refine me_dropI [(0, me_r 0 0), (1, me_i v1), (2, me_i (0 : Int32))] [1, 2, 0] rfl ?_
  exact z_Y_beats_h10 C N hNx hB me_FU μ v1 (0 : Int32) hf
theorem c_Y_beats {B : me_B} (hB : me_St B) {μ : me_M} {v1 : Int32} {μ' : me_M} {r : Except Nat Int32}  (hf : f_Y_beats μ v1 = some (μ', r)) : ∀ l E z, l.stackTraces = false → me_Met l yX11_beats cX11_beats 3 (some .boolean) 7 172 1 6 E B μ z [me_r 0 0, me_i v1] (B, μ', me_xc (fun v => some (me_i v)) r) :=
  fun _ _ _ hl => me_ofZ hl (by decide +kernel) (Nat.le_of_ble_eq_true rfl) (fun _ C N hNx => z_Y_beats C N hNx hB  hf)

def f_Y_beat (μ : me_M) : Option Int32 :=
  some (μ 30 0 5)
set_option maxHeartbeats 4000000 in
set_option maxRecDepth 100000 in
theorem z_Y_beat {X : me_X} {B : me_B} {sz : Nat} (C : me_C X B RX11 cX11_beat 1 (some .int)) {μ : me_M}    {r : Int32} (N : me_En X B sz (B, μ, .ok (some (me_i r))) 0 0 0 0) (hNx : me_Nx X) (hB : me_St B)   (hf : f_Y_beat μ = some r) : me_Z X B 0 0 μ 0 [(0, me_r 0 0)] [] := by
  unfold f_Y_beat at hf
  refine me_aload_n C 0 (Or.inr (Or.inl ⟨_, rfl⟩)) dX11_beat_0 rfl rfl ?_
  refine me_getr C hB 6 (k' := 30) (i' := 0) fg_Y_58 dX11_beat_1 rfl rfl ?_
  refine me_geti C 5 fg_Y_95 dX11_beat_4 rfl ?_
  exact me_iret C N dX11_beat_7 (me_nri _) (by cases hf; rfl) (by decide) (by decide)
theorem c_Y_beat {B : me_B} (hB : me_St B) {μ : me_M}  {r : Int32}  (hf : f_Y_beat μ = some r) : ∀ l E z, l.stackTraces = false → me_Met l yX11_beat cX11_beat 1 (some .int) 0 0 0 0 E B μ z [me_r 0 0] (B, μ, .ok (some (me_i r))) :=
  fun _ _ _ hl => me_ofZ hl (by decide +kernel) (Nat.le_of_ble_eq_true rfl) (fun _ C N hNx => z_Y_beat C N hNx hB  hf)

def f_Str_isLatin1 (μ : me_M) (v0 : Nat) : Option Int32 :=
  some (1 : Int32)
set_option maxHeartbeats 4000000 in
set_option maxRecDepth 100000 in
theorem z_Str_isLatin1 {X : me_X} {B : me_B} {sz : Nat} (C : me_C X B RJ0 cJ0_isLatin1_aae02 1 (some .boolean)) {μ : me_M} {v0 : Nat}   {r : Int32} (N : me_En X B sz (B, μ, .ok (some (me_i r))) 0 0 0 0) (hNx : me_Nx X) (hB : me_St B)  (h_v0 : v0 < 3) (hf : f_Str_isLatin1 μ v0 = some r) : me_Z X B 0 0 μ 0 [(0, .inl (.ref (B.1 200 v0)))] [] := by
  unfold f_Str_isLatin1 at hf
  refine me_gcs C fl_Str_38 dJ0_isLatin1_aae02_0 ?_
  refine me_if_eq C (tgt := 17) dJ0_isLatin1_aae02_3 (by decide) (fun c1 => ?_) (fun c1 => ?_)
  · exact absurd c1 (by decide)
  · refine me_aload_n C 0 (Or.inr (Or.inr ⟨_, rfl⟩)) dJ0_isLatin1_aae02_6 rfl rfl ?_
    refine me_getcod C h_v0 fl_Str_15 dJ0_isLatin1_aae02_7 ?_
    refine me_if_ne C (tgt := 17) dJ0_isLatin1_aae02_10 (by decide) (fun c2 => ?_) (fun c2 => ?_)
    · exact absurd c2 (by decide)
    · refine me_iconst C (v := 1) dJ0_isLatin1_aae02_13 (by decide) ?_
      refine me_goto C (tgt := 18) dJ0_isLatin1_aae02_14 (by decide) ?_
      exact me_iret C N dJ0_isLatin1_aae02_18 (by decide +kernel) (by cases hf; rfl) (by decide) (by decide)
theorem c_Str_isLatin1 {B : me_B} (hB : me_St B) {μ : me_M} {v0 : Nat} {r : Int32} (h_v0 : v0 < 3) (hf : f_Str_isLatin1 μ v0 = some r) : ∀ l E z, l.stackTraces = false → me_Met l yJ0_isLatin1_aae02 cJ0_isLatin1_aae02 1 (some .boolean) 0 0 0 0 E B μ z [.inl (.ref (B.1 200 v0))] (B, μ, .ok (some (me_i r))) :=
  fun _ _ _ hl => me_ofZ hl (by decide +kernel) (Nat.le_of_ble_eq_true rfl) (fun _ C N hNx => z_Str_isLatin1 C N hNx hB h_v0 hf)

def f_Str_coder (μ : me_M) (v0 : Nat) : Option Int32 :=
  some (0 : Int32)
set_option maxHeartbeats 4000000 in
set_option maxRecDepth 100000 in
theorem z_Str_coder {X : me_X} {B : me_B} {sz : Nat} (C : me_C X B RJ0 cJ0_coder_7d493 1 (some .byte)) {μ : me_M} {v0 : Nat}   {r : Int32} (N : me_En X B sz (B, μ, .ok (some (me_i r))) 0 0 0 0) (hNx : me_Nx X) (hB : me_St B)  (h_v0 : v0 < 3) (hf : f_Str_coder μ v0 = some r) : me_Z X B 0 0 μ 0 [(0, .inl (.ref (B.1 200 v0)))] [] := by
  unfold f_Str_coder at hf
  refine me_gcs C fl_Str_38 dJ0_coder_7d493_0 ?_
  refine me_if_eq C (tgt := 13) dJ0_coder_7d493_3 (by decide) (fun c1 => ?_) (fun c1 => ?_)
  · exact absurd c1 (by decide)
  · refine me_aload_n C 0 (Or.inr (Or.inr ⟨_, rfl⟩)) dJ0_coder_7d493_6 rfl rfl ?_
    refine me_getcod C h_v0 fl_Str_15 dJ0_coder_7d493_7 ?_
    refine me_goto C (tgt := 14) dJ0_coder_7d493_10 (by decide) ?_
    exact me_iret C N dJ0_coder_7d493_14 (by decide +kernel) (by cases hf; rfl) (by decide) (by decide)
theorem c_Str_coder {B : me_B} (hB : me_St B) {μ : me_M} {v0 : Nat} {r : Int32} (h_v0 : v0 < 3) (hf : f_Str_coder μ v0 = some r) : ∀ l E z, l.stackTraces = false → me_Met l yJ0_coder_7d493 cJ0_coder_7d493 1 (some .byte) 0 0 0 0 E B μ z [.inl (.ref (B.1 200 v0))] (B, μ, .ok (some (me_i r))) :=
  fun _ _ _ hl => me_ofZ hl (by decide +kernel) (Nat.le_of_ble_eq_true rfl) (fun _ C N hNx => z_Str_coder C N hNx hB h_v0 hf)

def f_Str_length (μ : me_M) (v0 : Nat) : Option Int32 :=
  me_bd (f_Str_coder μ v0) (fun r1 =>
  some ((Int32.ofNat (me_sb v0).length) >>> (r1 &&& 31)))
set_option maxHeartbeats 4000000 in
set_option maxRecDepth 100000 in
theorem z_Str_length {X : me_X} {B : me_B} {sz : Nat} (C : me_C X B RJ0 cJ0_length_8abf5 1 (some .int)) {μ : me_M} {v0 : Nat}   {r : Int32} (N : me_En X B sz (B, μ, .ok (some (me_i r))) 1 20 0 0) (hNx : me_Nx X) (hB : me_St B)  (h_v0 : v0 < 3) (hf : f_Str_length μ v0 = some r) : me_Z X B 0 0 μ 0 [(0, .inl (.ref (B.1 200 v0)))] [] := by
  unfold f_Str_length at hf
  refine me_aload_n C 0 (Or.inr (Or.inr ⟨_, rfl⟩)) dJ0_length_8abf5_0 rfl rfl ?_
  refine me_getval C h_v0 fl_Str_9 dJ0_length_8abf5_1 ?_
  refine me_slen C h_v0 dJ0_length_8abf5_4 ?_
  refine me_aload_n C 0 (Or.inr (Or.inr ⟨_, rfl⟩)) dJ0_length_8abf5_5 rfl rfl ?_
  obtain ⟨r1, h_r1, hf⟩ := me_bs hf
  refine me_callG C N h_v0 (As := []) (st := [me_i (Int32.ofNat (me_sb v0).length)]) 0 0 (c_Str_coder hB h_v0 h_r1) mv_Str_coder ml_Str_335 rfl dJ0_length_8abf5_6 rfl rfl ⟨by decide, by decide⟩ ⟨by decide, by decide, by decide, by decide⟩ (Nat.le_of_ble_eq_true rfl) ?_
  refine me_ishr C dJ0_length_8abf5_9 ?_
  exact me_iret C N dJ0_length_8abf5_10 (me_nri _) (by cases hf; rfl) (by decide) (by decide)
theorem c_Str_length {B : me_B} (hB : me_St B) {μ : me_M} {v0 : Nat} {r : Int32} (h_v0 : v0 < 3) (hf : f_Str_length μ v0 = some r) : ∀ l E z, l.stackTraces = false → me_Met l yJ0_length_8abf5 cJ0_length_8abf5 1 (some .int) 1 20 0 0 E B μ z [.inl (.ref (B.1 200 v0))] (B, μ, .ok (some (me_i r))) :=
  fun _ _ _ hl => me_ofZ hl (by decide +kernel) (Nat.le_of_ble_eq_true rfl) (fun _ C N hNx => z_Str_length C N hNx hB h_v0 hf)

def f_La1_canEncode (μ : me_M) (v0 : Int32) : Option Int32 :=
  if v0 < 0 then
  (some (0 : Int32))
  else
  (if (255 : Int32) < v0 then
  (some (0 : Int32))
  else
  (some (1 : Int32)))
set_option maxHeartbeats 4000000 in
set_option maxRecDepth 100000 in
theorem z_La1_canEncode {X : me_X} {B : me_B} {sz : Nat} (C : me_C X B RJ1 cJ1_canEncode_9a6ad 1 (some .boolean)) {μ : me_M} {v0 : Int32}   {r : Int32} (N : me_En X B sz (B, μ, .ok (some (me_i r))) 0 0 0 0) (hNx : me_Nx X) (hB : me_St B)   (hf : f_La1_canEncode μ v0 = some r) : me_Z X B 0 0 μ 0 [(0, me_i v0)] [] := by
  unfold f_La1_canEncode at hf
  refine me_iload_n C 0 dJ1_canEncode_9a6ad_0 rfl rfl ?_
  refine me_if_lt C (tgt := 15) dJ1_canEncode_9a6ad_1 (by decide) (fun c1 => ?_) (fun c1 => ?_)
  · replace hf := me_ip c1 hf
    refine me_iconst C (v := 0) dJ1_canEncode_9a6ad_15 (by decide) ?_
    exact me_iret C N dJ1_canEncode_9a6ad_16 (by decide +kernel) (by cases hf; rfl) (by decide) (by decide)
  · replace hf := me_in c1 hf
    refine me_iload_n C 0 dJ1_canEncode_9a6ad_4 rfl rfl ?_
    refine me_sipush C (v := 255) dJ1_canEncode_9a6ad_5 (by decide) ?_
    refine me_icmp_gt C (tgt := 15) dJ1_canEncode_9a6ad_8 (by decide) (fun c2 => ?_) (fun c2 => ?_)
    · replace hf := me_ip c2 hf
      refine me_iconst C (v := 0) dJ1_canEncode_9a6ad_15 (by decide) ?_
      exact me_iret C N dJ1_canEncode_9a6ad_16 (by decide +kernel) (by cases hf; rfl) (by decide) (by decide)
    · replace hf := me_in c2 hf
      refine me_iconst C (v := 1) dJ1_canEncode_9a6ad_11 (by decide) ?_
      refine me_goto C (tgt := 16) dJ1_canEncode_9a6ad_12 (by decide) ?_
      exact me_iret C N dJ1_canEncode_9a6ad_16 (by decide +kernel) (by cases hf; rfl) (by decide) (by decide)
theorem c_La1_canEncode {B : me_B} (hB : me_St B) {μ : me_M} {v0 : Int32} {r : Int32}  (hf : f_La1_canEncode μ v0 = some r) : ∀ l E z, l.stackTraces = false → me_Met l yJ1_canEncode_9a6ad cJ1_canEncode_9a6ad 1 (some .boolean) 0 0 0 0 E B μ z [me_i v0] (B, μ, .ok (some (me_i r))) :=
  fun _ _ _ hl => me_ofZ hl (by decide +kernel) (Nat.le_of_ble_eq_true rfl) (fun _ C N hNx => z_La1_canEncode C N hNx hB  hf)

def f_La1_indexOfChar_b7 (μ : me_M) (K7 : Nat → Int32 → Int32 → Int32 → Option Int32) (v0 : Nat) (v3 : Int32) (v4 : Int32) (v5 : Int32) : Option Int32 :=
  if v3 ≤ v5 then
  (some (-1 : Int32))
  else
  (me_gd (me_inb v5 (me_sb v0).length) (
  if ((me_sb v0).getD (me_ix v5) 0) = v4 then
  (some v5)
  else
  (me_lt (me_inc v5 (1)) (fun x4 =>
  K7 v0 v3 v4 x4))))
set_option maxHeartbeats 4000000 in
set_option maxRecDepth 100000 in
theorem z_La1_indexOfChar_b7 {X : me_X} {B : me_B} {sz : Nat} (C : me_C X B RJ1 cJ1_indexOfChar_4cfef 6 (some .int)) {μ : me_M} {v0 : Nat} {v3 : Int32} {v4 : Int32} {v5 : Int32}  {K7 : Nat → Int32 → Int32 → Int32 → Option Int32} {r : Int32} (N : me_En X B sz (B, μ, .ok (some (me_i r))) 0 0 0 0) (hNx : me_Nx X) (hB : me_St B) (hK7 : ∀ (v0 : Nat) (v3 : Int32) (v4 : Int32) (v5 : Int32), v0 < 3 → K7 v0 v3 v4 v5 = some r → me_Z X B 0 0 μ 7 [(0, .inl (.ref (B.1 201 v0))), (3, me_i v3), (4, me_i v4), (5, me_i v5)] []) (h_v0 : v0 < 3) (hf : f_La1_indexOfChar_b7 μ K7 v0 v3 v4 v5 = some r) : me_Z X B 0 0 μ 7 [(0, .inl (.ref (B.1 201 v0))), (3, me_i v3), (4, me_i v4), (5, me_i v5)] [] := by
  unfold f_La1_indexOfChar_b7 at hf
  refine me_iload C dJ1_indexOfChar_4cfef_7 rfl ?_
  refine me_iload_n C 3 dJ1_indexOfChar_4cfef_9 rfl rfl ?_
  refine me_icmp_ge C (tgt := 31) dJ1_indexOfChar_4cfef_10 (by decide) (fun c1 => ?_) (fun c1 => ?_)
  · replace hf := me_ip c1 hf
    refine me_iconst C (v := -1) dJ1_indexOfChar_4cfef_31 (by decide) ?_
    exact me_iret C N dJ1_indexOfChar_4cfef_32 (me_nri _) (by cases hf; rfl) (by decide) (by decide)
  · replace hf := me_in c1 hf
    refine me_aload_n C 0 (Or.inr (Or.inr ⟨_, rfl⟩)) dJ1_indexOfChar_4cfef_13 rfl rfl ?_
    refine me_iload C dJ1_indexOfChar_4cfef_14 rfl ?_
    obtain ⟨g2, hf⟩ := me_gs hf
    refine me_sbl C h_v0 g2 dJ1_indexOfChar_4cfef_16 ?_
    refine me_iload C dJ1_indexOfChar_4cfef_17 rfl ?_
    refine me_icmp_ne C (tgt := 25) dJ1_indexOfChar_4cfef_19 (by decide) (fun c3 => ?_) (fun c3 => ?_)
    · replace hf := me_in c3 hf
      obtain ⟨x4, e_x4, hf⟩ := me_lts hf
      refine me_iinc C (v := x4) (L' := [(5, me_i x4), (0, .inl (.ref (B.1 201 v0))), (3, me_i v3), (4, me_i v4)]) dJ1_indexOfChar_4cfef_25 rfl e_x4.symm (by decide) rfl ?_
      refine me_goto C (tgt := 7) dJ1_indexOfChar_4cfef_28 (by decide) ?_
      refine me_dropI [(0, .inl (.ref (B.1 201 v0))), (3, me_i v3), (4, me_i v4), (5, me_i x4)] [1, 2, 3, 0] rfl ?_
      exact hK7 v0 v3 v4 x4 h_v0 hf
    · replace hf := me_ip c3 hf
      refine me_iload C dJ1_indexOfChar_4cfef_22 rfl ?_
      exact me_iret C N dJ1_indexOfChar_4cfef_24 (me_nri _) (by cases hf; rfl) (by decide) (by decide)
def f_La1_indexOfChar_h7 (μ : me_M) : Nat → Nat → Int32 → Int32 → Int32 → Option Int32
  | 0, _, _, _, _ => none
  | n + 1, v0, v3, v4, v5 => f_La1_indexOfChar_b7 μ (f_La1_indexOfChar_h7 μ n) v0 v3 v4 v5
set_option maxHeartbeats 4000000 in
set_option maxRecDepth 100000 in
theorem z_La1_indexOfChar_h7 {X : me_X} {B : me_B} {sz : Nat} (C : me_C X B RJ1 cJ1_indexOfChar_4cfef 6 (some .int)) {μ : me_M}  {r : Int32} (N : me_En X B sz (B, μ, .ok (some (me_i r))) 0 0 0 0) (hNx : me_Nx X) (hB : me_St B)  : ∀ (n : Nat) (v0 : Nat) (v3 : Int32) (v4 : Int32) (v5 : Int32), v0 < 3 → f_La1_indexOfChar_h7 μ n v0 v3 v4 v5 = some r → me_Z X B 0 0 μ 7 [(0, .inl (.ref (B.1 201 v0))), (3, me_i v3), (4, me_i v4), (5, me_i v5)] [] := by
  intro n
  induction n with
  | zero => intro v0 v3 v4 v5 h_v0 h; exact absurd (show (none : Option Int32) = some r from h) (fun q => by cases q)
  | succ n ih => intro v0 v3 v4 v5 h_v0 h; exact z_La1_indexOfChar_b7 C N hNx hB  (K7 := f_La1_indexOfChar_h7 μ n) ih h_v0 h
def f_La1_indexOfChar (μ : me_M) (v0 : Nat) (v1 : Int32) (v2 : Int32) (v3 : Int32) : Option Int32 :=
  me_lt ((Int8.toInt32 (Int32.toInt8 v1))) (fun x1 =>
  f_La1_indexOfChar_h7 μ me_FU v0 v3 x1 v2)
set_option maxHeartbeats 4000000 in
set_option maxRecDepth 100000 in
theorem z_La1_indexOfChar {X : me_X} {B : me_B} {sz : Nat} (C : me_C X B RJ1 cJ1_indexOfChar_4cfef 6 (some .int)) {μ : me_M} {v0 : Nat} {v1 : Int32} {v2 : Int32} {v3 : Int32}   {r : Int32} (N : me_En X B sz (B, μ, .ok (some (me_i r))) 0 0 0 0) (hNx : me_Nx X) (hB : me_St B)  (h_v0 : v0 < 3) (hf : f_La1_indexOfChar μ v0 v1 v2 v3 = some r) : me_Z X B 0 0 μ 0 [(0, .inl (.ref (B.1 201 v0))), (1, me_i v1), (2, me_i v2), (3, me_i v3)] [] := by
  unfold f_La1_indexOfChar at hf
  refine me_iload_n C 1 dJ1_indexOfChar_4cfef_0 rfl rfl ?_
  refine me_i2b C dJ1_indexOfChar_4cfef_1 ?_
  obtain ⟨x1, e_x1, hf⟩ := me_lts hf
  refine me_nm e_x1 ?_
  refine me_istore C dJ1_indexOfChar_4cfef_2 (by decide) (L' := [(4, me_i x1), (0, .inl (.ref (B.1 201 v0))), (1, me_i v1), (2, me_i v2), (3, me_i v3)]) rfl ?_
  refine me_iload_n C 2 dJ1_indexOfChar_4cfef_4 rfl rfl ?_
  refine me_istore C dJ1_indexOfChar_4cfef_5 (by decide) (L' := [(5, me_i v2), (4, me_i x1), (0, .inl (.ref (B.1 201 v0))), (1, me_i v1), (2, me_i v2), (3, me_i v3)]) rfl ?_
  refine me_dropI [(0, .inl (.ref (B.1 201 v0))), (3, me_i v3), (4, me_i x1), (5, me_i v2)] [2, 5, 1, 0] rfl ?_
  exact z_La1_indexOfChar_h7 C N hNx hB me_FU v0 v3 x1 v2 h_v0 hf
theorem c_La1_indexOfChar {B : me_B} (hB : me_St B) {μ : me_M} {v0 : Nat} {v1 : Int32} {v2 : Int32} {v3 : Int32} {r : Int32} (h_v0 : v0 < 3) (hf : f_La1_indexOfChar μ v0 v1 v2 v3 = some r) : ∀ l E z, l.stackTraces = false → me_Met l yJ1_indexOfChar_4cfef cJ1_indexOfChar_4cfef 6 (some .int) 0 0 0 0 E B μ z [.inl (.ref (B.1 201 v0)), me_i v1, me_i v2, me_i v3] (B, μ, .ok (some (me_i r))) :=
  fun _ _ _ hl => me_ofZ hl (by decide +kernel) (Nat.le_of_ble_eq_true rfl) (fun _ C N hNx => z_La1_indexOfChar C N hNx hB h_v0 hf)

def f_La1_indexOf (μ : me_M) (v0 : Nat) (v1 : Int32) (v2 : Int32) (v3 : Int32) : Option Int32 :=
  me_bd (f_La1_canEncode μ v1) (fun r1 =>
  if r1 = 0 then
  (some (-1 : Int32))
  else
  (me_lt ((me_max' v2 (0 : Int32))) (fun x3 =>
  me_lt ((me_min' v3 (Int32.ofNat (me_sb v0).length))) (fun x4 =>
  if x3 < x4 then
  (me_bd (f_La1_indexOfChar μ v0 v1 x3 x4) (fun r6 =>
  some r6))
  else
  (some (-1 : Int32))))))
set_option maxHeartbeats 4000000 in
set_option maxRecDepth 100000 in
theorem z_La1_indexOf {X : me_X} {B : me_B} {sz : Nat} (C : me_C X B RJ1 cJ1_indexOf_4cfef 4 (some .int)) {μ : me_M} {v0 : Nat} {v1 : Int32} {v2 : Int32} {v3 : Int32}   {r : Int32} (N : me_En X B sz (B, μ, .ok (some (me_i r))) 1 25 0 0) (hNx : me_Nx X) (hB : me_St B)  (h_v0 : v0 < 3) (hf : f_La1_indexOf μ v0 v1 v2 v3 = some r) : me_Z X B 0 0 μ 0 [(0, .inl (.ref (B.1 201 v0))), (1, me_i v1), (2, me_i v2), (3, me_i v3)] [] := by
  unfold f_La1_indexOf at hf
  refine me_iload_n C 1 dJ1_indexOf_4cfef_0 rfl rfl ?_
  obtain ⟨r1, h_r1, hf⟩ := me_bs hf
  refine me_callS C N  (As := [me_i v1]) (st := []) 0 0 (c_La1_canEncode hB h_r1) ms_La1_canEncode ml_La1_88 dJ1_indexOf_4cfef_1 rfl rfl ⟨by decide, by decide⟩ ⟨by decide, by decide, by decide, by decide⟩ (Nat.le_of_ble_eq_true rfl) ?_
  refine me_if_ne C (tgt := 9) dJ1_indexOf_4cfef_4 (by decide) (fun c2 => ?_) (fun c2 => ?_)
  · replace hf := me_in c2 hf
    refine me_iload_n C 2 dJ1_indexOf_4cfef_9 rfl rfl ?_
    refine me_iconst C (v := 0) dJ1_indexOf_4cfef_10 (by decide) ?_
    refine me_mmax C N bl_La1_92 dJ1_indexOf_4cfef_11 ⟨by decide, by decide⟩ (Nat.le_of_ble_eq_true rfl) (by decide) (by decide) ?_
    obtain ⟨x3, e_x3, hf⟩ := me_lts hf
    refine me_nm e_x3 ?_
    refine me_istore_n C 2 dJ1_indexOf_4cfef_14 rfl (by decide) (L' := [(2, me_i x3), (0, .inl (.ref (B.1 201 v0))), (1, me_i v1), (3, me_i v3)]) rfl ?_
    refine me_iload_n C 3 dJ1_indexOf_4cfef_15 rfl rfl ?_
    refine me_aload_n C 0 (Or.inr (Or.inr ⟨_, rfl⟩)) dJ1_indexOf_4cfef_16 rfl rfl ?_
    refine me_slen C h_v0 dJ1_indexOf_4cfef_17 ?_
    refine me_mmin C N bl_La1_38 dJ1_indexOf_4cfef_18 ⟨by decide, by decide⟩ (Nat.le_of_ble_eq_true rfl) (by decide) (by decide) ?_
    obtain ⟨x4, e_x4, hf⟩ := me_lts hf
    refine me_nm e_x4 ?_
    refine me_istore_n C 3 dJ1_indexOf_4cfef_21 rfl (by decide) (L' := [(3, me_i x4), (2, me_i x3), (0, .inl (.ref (B.1 201 v0))), (1, me_i v1)]) rfl ?_
    refine me_iload_n C 2 dJ1_indexOf_4cfef_22 rfl rfl ?_
    refine me_iload_n C 3 dJ1_indexOf_4cfef_23 rfl rfl ?_
    refine me_icmp_lt C (tgt := 29) dJ1_indexOf_4cfef_24 (by decide) (fun c5 => ?_) (fun c5 => ?_)
    · replace hf := me_ip c5 hf
      refine me_aload_n C 0 (Or.inr (Or.inr ⟨_, rfl⟩)) dJ1_indexOf_4cfef_29 rfl rfl ?_
      refine me_iload_n C 1 dJ1_indexOf_4cfef_30 rfl rfl ?_
      refine me_iload_n C 2 dJ1_indexOf_4cfef_31 rfl rfl ?_
      refine me_iload_n C 3 dJ1_indexOf_4cfef_32 rfl rfl ?_
      obtain ⟨r6, h_r6, hf⟩ := me_bs hf
      refine me_callS C N  (As := [.inl (.ref (B.1 201 v0)), me_i v1, me_i x3, me_i x4]) (st := []) 0 0 (c_La1_indexOfChar hB h_v0 h_r6) ms_La1_indexOfChar ml_La1_95 dJ1_indexOf_4cfef_33 rfl rfl ⟨by decide, by decide⟩ ⟨by decide, by decide, by decide, by decide⟩ (Nat.le_of_ble_eq_true rfl) ?_
      exact me_iret C N dJ1_indexOf_4cfef_36 (me_nri _) (by cases hf; rfl) (by decide) (by decide)
    · replace hf := me_in c5 hf
      refine me_iconst C (v := -1) dJ1_indexOf_4cfef_27 (by decide) ?_
      exact me_iret C N dJ1_indexOf_4cfef_28 (me_nri _) (by cases hf; rfl) (by decide) (by decide)
  · replace hf := me_ip c2 hf
    refine me_iconst C (v := -1) dJ1_indexOf_4cfef_7 (by decide) ?_
    exact me_iret C N dJ1_indexOf_4cfef_8 (me_nri _) (by cases hf; rfl) (by decide) (by decide)
theorem c_La1_indexOf {B : me_B} (hB : me_St B) {μ : me_M} {v0 : Nat} {v1 : Int32} {v2 : Int32} {v3 : Int32} {r : Int32} (h_v0 : v0 < 3) (hf : f_La1_indexOf μ v0 v1 v2 v3 = some r) : ∀ l E z, l.stackTraces = false → me_Met l yJ1_indexOf_4cfef cJ1_indexOf_4cfef 4 (some .int) 1 25 0 0 E B μ z [.inl (.ref (B.1 201 v0)), me_i v1, me_i v2, me_i v3] (B, μ, .ok (some (me_i r))) :=
  fun _ _ _ hl => me_ofZ hl (by decide +kernel) (Nat.le_of_ble_eq_true rfl) (fun _ C N hNx => z_La1_indexOf C N hNx hB h_v0 hf)

def f_Str_indexOf2 (μ : me_M) (v0 : Nat) (v1 : Int32) (v2 : Int32) : Option Int32 :=
  me_bd (f_Str_isLatin1 μ v0) (fun r1 =>
  if r1 = 0 then
  (none)
  else
  (me_bd (f_Str_length μ v0) (fun r3 =>
  me_bd (f_La1_indexOf μ v0 v1 v2 r3) (fun r4 =>
  some r4))))
set_option maxHeartbeats 4000000 in
set_option maxRecDepth 100000 in
theorem z_Str_indexOf2 {X : me_X} {B : me_B} {sz : Nat} (C : me_C X B RJ0 cJ0_indexOf_7cf53 3 (some .int)) {μ : me_M} {v0 : Nat} {v1 : Int32} {v2 : Int32}   {r : Int32} (N : me_En X B sz (B, μ, .ok (some (me_i r))) 2 48 0 0) (hNx : me_Nx X) (hB : me_St B)  (h_v0 : v0 < 3) (hf : f_Str_indexOf2 μ v0 v1 v2 = some r) : me_Z X B 0 0 μ 0 [(0, .inl (.ref (B.1 200 v0))), (1, me_i v1), (2, me_i v2)] [] := by
  unfold f_Str_indexOf2 at hf
  refine me_aload_n C 0 (Or.inr (Or.inr ⟨_, rfl⟩)) dJ0_indexOf_7cf53_0 rfl rfl ?_
  obtain ⟨r1, h_r1, hf⟩ := me_bs hf
  refine me_callG C N h_v0 (As := []) (st := []) 0 0 (c_Str_isLatin1 hB h_v0 h_r1) mv_Str_isLatin1 ml_Str_492 rfl dJ0_indexOf_7cf53_1 rfl rfl ⟨by decide, by decide⟩ ⟨by decide, by decide, by decide, by decide⟩ (Nat.le_of_ble_eq_true rfl) ?_
  refine me_if_eq C (tgt := 23) dJ0_indexOf_7cf53_4 (by decide) (fun c2 => ?_) (fun c2 => ?_)
  · replace hf := me_ip c2 hf
    cases hf
  · replace hf := me_in c2 hf
    refine me_aload_n C 0 (Or.inr (Or.inr ⟨_, rfl⟩)) dJ0_indexOf_7cf53_7 rfl rfl ?_
    refine me_getval C h_v0 fl_Str_9 dJ0_indexOf_7cf53_8 ?_
    refine me_iload_n C 1 dJ0_indexOf_7cf53_11 rfl rfl ?_
    refine me_iload_n C 2 dJ0_indexOf_7cf53_12 rfl rfl ?_
    refine me_aload_n C 0 (Or.inr (Or.inr ⟨_, rfl⟩)) dJ0_indexOf_7cf53_13 rfl rfl ?_
    obtain ⟨r3, h_r3, hf⟩ := me_bs hf
    refine me_callG C N h_v0 (As := []) (st := [me_i v2, me_i v1, .inl (.ref (B.1 201 v0))]) 0 0 (c_Str_length hB h_v0 h_r3) mv_Str_length ml_Str_505 rfl dJ0_indexOf_7cf53_14 rfl rfl ⟨by decide, by decide⟩ ⟨by decide, by decide, by decide, by decide⟩ (Nat.le_of_ble_eq_true rfl) ?_
    obtain ⟨r4, h_r4, hf⟩ := me_bs hf
    refine me_callS C N  (As := [.inl (.ref (B.1 201 v0)), me_i v1, me_i v2, me_i r3]) (st := []) 0 0 (c_La1_indexOf hB h_v0 h_r4) ms_La1_indexOf ml_Str_637 dJ0_indexOf_7cf53_17 rfl rfl ⟨by decide, by decide⟩ ⟨by decide, by decide, by decide, by decide⟩ (Nat.le_of_ble_eq_true rfl) ?_
    refine me_goto C (tgt := 36) dJ0_indexOf_7cf53_20 (by decide) ?_
    exact me_iret C N dJ0_indexOf_7cf53_36 (me_nri _) (by cases hf; rfl) (by decide) (by decide)
theorem c_Str_indexOf2 {B : me_B} (hB : me_St B) {μ : me_M} {v0 : Nat} {v1 : Int32} {v2 : Int32} {r : Int32} (h_v0 : v0 < 3) (hf : f_Str_indexOf2 μ v0 v1 v2 = some r) : ∀ l E z, l.stackTraces = false → me_Met l yJ0_indexOf_7cf53 cJ0_indexOf_7cf53 3 (some .int) 2 48 0 0 E B μ z [.inl (.ref (B.1 200 v0)), me_i v1, me_i v2] (B, μ, .ok (some (me_i r))) :=
  fun _ _ _ hl => me_ofZ hl (by decide +kernel) (Nat.le_of_ble_eq_true rfl) (fun _ C N hNx => z_Str_indexOf2 C N hNx hB h_v0 hf)

def f_Str_indexOf1 (μ : me_M) (v0 : Nat) (v1 : Int32) : Option Int32 :=
  me_bd (f_Str_indexOf2 μ v0 v1 (0 : Int32)) (fun r1 =>
  some r1)
set_option maxHeartbeats 4000000 in
set_option maxRecDepth 100000 in
theorem z_Str_indexOf1 {X : me_X} {B : me_B} {sz : Nat} (C : me_C X B RJ0 cJ0_indexOf_0f7a4 2 (some .int)) {μ : me_M} {v0 : Nat} {v1 : Int32}   {r : Int32} (N : me_En X B sz (B, μ, .ok (some (me_i r))) 3 70 0 0) (hNx : me_Nx X) (hB : me_St B)  (h_v0 : v0 < 3) (hf : f_Str_indexOf1 μ v0 v1 = some r) : me_Z X B 0 0 μ 0 [(0, .inl (.ref (B.1 200 v0))), (1, me_i v1)] [] := by
  unfold f_Str_indexOf1 at hf
  refine me_aload_n C 0 (Or.inr (Or.inr ⟨_, rfl⟩)) dJ0_indexOf_0f7a4_0 rfl rfl ?_
  refine me_iload_n C 1 dJ0_indexOf_0f7a4_1 rfl rfl ?_
  refine me_iconst C (v := 0) dJ0_indexOf_0f7a4_2 (by decide) ?_
  obtain ⟨r1, h_r1, hf⟩ := me_bs hf
  refine me_callG C N h_v0 (As := [me_i v1, me_i (0 : Int32)]) (st := []) 0 0 (c_Str_indexOf2 hB h_v0 h_r1) mv_Str_indexOf2 ml_Str_633 rfl dJ0_indexOf_0f7a4_3 rfl rfl ⟨by decide, by decide⟩ ⟨by decide, by decide, by decide, by decide⟩ (Nat.le_of_ble_eq_true rfl) ?_
  exact me_iret C N dJ0_indexOf_0f7a4_6 (me_nri _) (by cases hf; rfl) (by decide) (by decide)
theorem c_Str_indexOf1 {B : me_B} (hB : me_St B) {μ : me_M} {v0 : Nat} {v1 : Int32} {r : Int32} (h_v0 : v0 < 3) (hf : f_Str_indexOf1 μ v0 v1 = some r) : ∀ l E z, l.stackTraces = false → me_Met l yJ0_indexOf_0f7a4 cJ0_indexOf_0f7a4 2 (some .int) 3 70 0 0 E B μ z [.inl (.ref (B.1 200 v0)), me_i v1] (B, μ, .ok (some (me_i r))) :=
  fun _ _ _ hl => me_ofZ hl (by decide +kernel) (Nat.le_of_ble_eq_true rfl) (fun _ C N hNx => z_Str_indexOf1 C N hNx hB h_v0 hf)

def f_Y_way (μ : me_M) (v1 : Int32) : Option (me_M × (Except Nat Int32)) :=
  me_bd (f_Str_indexOf1 μ 0 v1) (fun r1 =>
  if 0 ≤ r1 then
  (me_lt ((μ 27 0 4)) (fun x3 =>
  me_gd (me_nr .char v1) (
  me_lt (me_up μ 27 0 4 v1) (fun μ5 =>
  me_gd (me_nr .char x3) (
  some (μ5, .ok x3))))))
  else
  (some (μ, .error 2)))
set_option maxHeartbeats 4000000 in
set_option maxRecDepth 100000 in
theorem z_Y_way {X : me_X} {B : me_B} {sz : Nat} (C : me_C X B RX11 cX11_way 3 (some .char)) {μ : me_M} {v1 : Int32}   {r : me_M × (Except Nat Int32)} (N : me_En X B sz (B, r.1, me_xc (fun v => some (me_i v)) r.2) 6 91 1 6) (hNx : me_Nx X) (hB : me_St B)   (hf : f_Y_way μ v1 = some r) : me_Z X B 0 0 μ 0 [(0, me_r 0 0), (1, me_i v1)] [] := by
  unfold f_Y_way at hf
  refine me_ldcS C sx_Y_213 dX11_way_0 ?_
  refine me_iload_n C 1 dX11_way_2 rfl rfl ?_
  obtain ⟨r1, h_r1, hf⟩ := me_bs hf
  refine me_callG C N (by decide) (As := [me_i v1]) (st := []) 0 0 (c_Str_indexOf1 hB (by decide) h_r1) mv_Str_indexOf1 ml_Y_215 rfl dX11_way_3 rfl rfl ⟨by decide, by decide⟩ ⟨by decide, by decide, by decide, by decide⟩ (Nat.le_of_ble_eq_true rfl) ?_
  refine me_if_ge C (tgt := 19) dX11_way_6 (by decide) (fun c2 => ?_) (fun c2 => ?_)
  · replace hf := me_ip c2 hf
    refine me_aload_n C 0 (Or.inr (Or.inl ⟨_, rfl⟩)) dX11_way_19 rfl rfl ?_
    refine me_getr C hB 5 (k' := 27) (i' := 0) fg_Y_49 dX11_way_20 rfl rfl ?_
    refine me_geti C 4 fg_Y_222 dX11_way_23 rfl ?_
    obtain ⟨x3, e_x3, hf⟩ := me_lts hf
    refine me_nm e_x3 ?_
    refine me_istore_n C 2 dX11_way_26 rfl (by decide) (L' := [(2, me_i x3), (0, me_r 0 0), (1, me_i v1)]) rfl ?_
    refine me_aload_n C 0 (Or.inr (Or.inl ⟨_, rfl⟩)) dX11_way_27 rfl rfl ?_
    refine me_getr C hB 5 (k' := 27) (i' := 0) fg_Y_49 dX11_way_28 rfl rfl ?_
    refine me_iload_n C 1 dX11_way_31 rfl rfl ?_
    obtain ⟨g4, hf⟩ := me_gs hf
    obtain ⟨μ5, e_μ5, hf⟩ := me_lts hf
    refine me_puti C 4 fw_Y_222 dX11_way_32 rfl g4 e_μ5 ?_
    refine me_iload_n C 2 dX11_way_35 rfl rfl ?_
    obtain ⟨g6, hf⟩ := me_gs hf
    exact me_iret C N dX11_way_36 g6 (by cases hf; rfl) (by decide) (by decide)
  · replace hf := me_in c2 hf
    exact me_throw C N hNx 2 cl_Y_109 ie_2 sr_Y_220 tw_Y_113 ft_2 dX11_way_9 dX11_way_12 dX11_way_13 dX11_way_15 dX11_way_18 ⟨by decide, by decide⟩ (Nat.le_of_ble_eq_true rfl) ⟨by decide, by decide⟩ (by cases hf; rfl)
theorem c_Y_way {B : me_B} (hB : me_St B) {μ : me_M} {v1 : Int32} {μ' : me_M} {r : Except Nat Int32}  (hf : f_Y_way μ v1 = some (μ', r)) : ∀ l E z, l.stackTraces = false → me_Met l yX11_way cX11_way 3 (some .char) 6 91 1 6 E B μ z [me_r 0 0, me_i v1] (B, μ', me_xc (fun v => some (me_i v)) r) :=
  fun _ _ _ hl => me_ofZ hl (by decide +kernel) (Nat.le_of_ble_eq_true rfl) (fun _ C N hNx => z_Y_way C N hNx hB  hf)
