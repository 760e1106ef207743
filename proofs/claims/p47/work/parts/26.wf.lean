/-! WALKS: Works_runOne, Works_runCores, Works_passBarrier, Y_needNode, Y_needNodes, Y_needRange, Y_needRoom, Y_send, Y_ask, Y_needPacket, Y_answer, Y_kind, Y_state, Y_word, Y_head, Y_pieces, Y_time, Y_packets, Y_lying, Y_receive, Y_setAllPlaces, Y_makeAnew, Y_net -/
theorem dX10_runOne_0 : decode cX10_runOne 0 = .ok (.aload_n 2, 1) := by decide +kernel
theorem dX10_runOne_1 : decode cX10_runOne 1 = .ok (.invokevirtual 37, 3) := by decide +kernel
theorem dX10_runOne_4 : decode cX10_runOne 4 = .ok (.ifCond .ne 10, 3) := by decide +kernel
theorem dX10_runOne_7 : decode cX10_runOne 7 = .ok (.aload_n 2, 1) := by decide +kernel
theorem dX10_runOne_8 : decode cX10_runOne 8 = .ok (.bipush 106, 2) := by decide +kernel
theorem dX10_runOne_10 : decode cX10_runOne 10 = .ok (.invokevirtual 40, 3) := by decide +kernel
theorem dX10_runOne_13 : decode cX10_runOne 13 = .ok (.return_, 1) := by decide +kernel
theorem dX10_runOne_14 : decode cX10_runOne 14 = .ok (.aload_n 2, 1) := by decide +kernel
theorem dX10_runOne_15 : decode cX10_runOne 15 = .ok (.getfield 44, 3) := by decide +kernel
theorem dX10_runOne_18 : decode cX10_runOne 18 = .ok (.aload_n 2, 1) := by decide +kernel
theorem dX10_runOne_19 : decode cX10_runOne 19 = .ok (.getfield 48, 3) := by decide +kernel
theorem dX10_runOne_22 : decode cX10_runOne 22 = .ok (.caload, 1) := by decide +kernel
theorem dX10_runOne_23 : decode cX10_runOne 23 = .ok (.istore 4, 2) := by decide +kernel
theorem dX10_runOne_25 : decode cX10_runOne 25 = .ok (.aload_n 2, 1) := by decide +kernel
theorem dX10_runOne_26 : decode cX10_runOne 26 = .ok (.getfield 51, 3) := by decide +kernel
theorem dX10_runOne_29 : decode cX10_runOne 29 = .ok (.aload_n 2, 1) := by decide +kernel
theorem dX10_runOne_30 : decode cX10_runOne 30 = .ok (.getfield 48, 3) := by decide +kernel
theorem dX10_runOne_33 : decode cX10_runOne 33 = .ok (.iaload, 1) := by decide +kernel
theorem dX10_runOne_34 : decode cX10_runOne 34 = .ok (.istore 5, 2) := by decide +kernel
theorem dX10_runOne_36 : decode cX10_runOne 36 = .ok (.iload 4, 2) := by decide +kernel
theorem dX10_runOne_38 : decode cX10_runOne 38 = .ok (.tableswitch 163 98 115 #[145, 163, 113, 163, 163, 163, 154, 163, 136, 163, 95, 163, 163, 163, 86, 163, 125, 104], 86) := by decide +kernel
theorem dX10_runOne_124 : decode cX10_runOne 124 = .ok (.aload_n 2, 1) := by decide +kernel
theorem dX10_runOne_125 : decode cX10_runOne 125 = .ok (.iload 5, 2) := by decide +kernel
theorem dX10_runOne_127 : decode cX10_runOne 127 = .ok (.invokevirtual 55, 3) := by decide +kernel
theorem dX10_runOne_130 : decode cX10_runOne 130 = .ok (.goto 77, 3) := by decide +kernel
theorem dX10_runOne_133 : decode cX10_runOne 133 = .ok (.aload_n 2, 1) := by decide +kernel
theorem dX10_runOne_134 : decode cX10_runOne 134 = .ok (.iload 5, 2) := by decide +kernel
theorem dX10_runOne_136 : decode cX10_runOne 136 = .ok (.invokevirtual 59, 3) := by decide +kernel
theorem dX10_runOne_139 : decode cX10_runOne 139 = .ok (.goto 68, 3) := by decide +kernel
theorem dX10_runOne_142 : decode cX10_runOne 142 = .ok (.aload_n 2, 1) := by decide +kernel
theorem dX10_runOne_143 : decode cX10_runOne 143 = .ok (.iload 5, 2) := by decide +kernel
theorem dX10_runOne_145 : decode cX10_runOne 145 = .ok (.invokevirtual 62, 3) := by decide +kernel
theorem dX10_runOne_148 : decode cX10_runOne 148 = .ok (.goto 59, 3) := by decide +kernel
theorem dX10_runOne_151 : decode cX10_runOne 151 = .ok (.aload_n 0, 1) := by decide +kernel
theorem dX10_runOne_152 : decode cX10_runOne 152 = .ok (.iload_n 1, 1) := by decide +kernel
theorem dX10_runOne_153 : decode cX10_runOne 153 = .ok (.aload_n 2, 1) := by decide +kernel
theorem dX10_runOne_154 : decode cX10_runOne 154 = .ok (.iload 5, 2) := by decide +kernel
theorem dX10_runOne_156 : decode cX10_runOne 156 = .ok (.iload_n 3, 1) := by decide +kernel
theorem dX10_runOne_157 : decode cX10_runOne 157 = .ok (.invokevirtual 65, 3) := by decide +kernel
theorem dX10_runOne_160 : decode cX10_runOne 160 = .ok (.goto 47, 3) := by decide +kernel
theorem dX10_runOne_163 : decode cX10_runOne 163 = .ok (.aload_n 0, 1) := by decide +kernel
theorem dX10_runOne_164 : decode cX10_runOne 164 = .ok (.iload_n 1, 1) := by decide +kernel
theorem dX10_runOne_165 : decode cX10_runOne 165 = .ok (.aload_n 2, 1) := by decide +kernel
theorem dX10_runOne_166 : decode cX10_runOne 166 = .ok (.iload 5, 2) := by decide +kernel
theorem dX10_runOne_168 : decode cX10_runOne 168 = .ok (.invokevirtual 69, 3) := by decide +kernel
theorem dX10_runOne_171 : decode cX10_runOne 171 = .ok (.goto 36, 3) := by decide +kernel
theorem dX10_runOne_174 : decode cX10_runOne 174 = .ok (.aload_n 2, 1) := by decide +kernel
theorem dX10_runOne_175 : decode cX10_runOne 175 = .ok (.iload 5, 2) := by decide +kernel
theorem dX10_runOne_177 : decode cX10_runOne 177 = .ok (.invokevirtual 72, 3) := by decide +kernel
theorem dX10_runOne_180 : decode cX10_runOne 180 = .ok (.goto 27, 3) := by decide +kernel
theorem dX10_runOne_183 : decode cX10_runOne 183 = .ok (.aload_n 2, 1) := by decide +kernel
theorem dX10_runOne_184 : decode cX10_runOne 184 = .ok (.bipush 98, 2) := by decide +kernel
theorem dX10_runOne_186 : decode cX10_runOne 186 = .ok (.putfield 75, 3) := by decide +kernel
theorem dX10_runOne_189 : decode cX10_runOne 189 = .ok (.goto 18, 3) := by decide +kernel
theorem dX10_runOne_192 : decode cX10_runOne 192 = .ok (.aload_n 2, 1) := by decide +kernel
theorem dX10_runOne_193 : decode cX10_runOne 193 = .ok (.bipush 104, 2) := by decide +kernel
theorem dX10_runOne_195 : decode cX10_runOne 195 = .ok (.putfield 75, 3) := by decide +kernel
theorem dX10_runOne_198 : decode cX10_runOne 198 = .ok (.goto 9, 3) := by decide +kernel
theorem dX10_runOne_201 : decode cX10_runOne 201 = .ok (.aload_n 2, 1) := by decide +kernel
theorem dX10_runOne_202 : decode cX10_runOne 202 = .ok (.iload 4, 2) := by decide +kernel
theorem dX10_runOne_204 : decode cX10_runOne 204 = .ok (.invokevirtual 79, 3) := by decide +kernel
theorem dX10_runOne_207 : decode cX10_runOne 207 = .ok (.return_, 1) := by decide +kernel
theorem dX10_runCores_0 : decode cX10_runCores 0 = .ok (.iconst 0, 1) := by decide +kernel
theorem dX10_runCores_1 : decode cX10_runCores 1 = .ok (.istore_n 2, 1) := by decide +kernel
theorem dX10_runCores_2 : decode cX10_runCores 2 = .ok (.iload_n 2, 1) := by decide +kernel
theorem dX10_runCores_3 : decode cX10_runCores 3 = .ok (.aload_n 0, 1) := by decide +kernel
theorem dX10_runCores_4 : decode cX10_runCores 4 = .ok (.getfield 7, 3) := by decide +kernel
theorem dX10_runCores_7 : decode cX10_runCores 7 = .ok (.getfield 21, 3) := by decide +kernel
theorem dX10_runCores_10 : decode cX10_runCores 10 = .ok (.if_icmp .ge 33, 3) := by decide +kernel
theorem dX10_runCores_13 : decode cX10_runCores 13 = .ok (.aload_n 0, 1) := by decide +kernel
theorem dX10_runCores_14 : decode cX10_runCores 14 = .ok (.getfield 17, 3) := by decide +kernel
theorem dX10_runCores_17 : decode cX10_runCores 17 = .ok (.iload_n 2, 1) := by decide +kernel
theorem dX10_runCores_18 : decode cX10_runCores 18 = .ok (.aaload, 1) := by decide +kernel
theorem dX10_runCores_19 : decode cX10_runCores 19 = .ok (.invokevirtual 27, 3) := by decide +kernel
theorem dX10_runCores_22 : decode cX10_runCores 22 = .ok (.ifCond .eq 15, 3) := by decide +kernel
theorem dX10_runCores_25 : decode cX10_runCores 25 = .ok (.aload_n 0, 1) := by decide +kernel
theorem dX10_runCores_26 : decode cX10_runCores 26 = .ok (.iload_n 2, 1) := by decide +kernel
theorem dX10_runCores_27 : decode cX10_runCores 27 = .ok (.aload_n 0, 1) := by decide +kernel
theorem dX10_runCores_28 : decode cX10_runCores 28 = .ok (.getfield 17, 3) := by decide +kernel
theorem dX10_runCores_31 : decode cX10_runCores 31 = .ok (.iload_n 2, 1) := by decide +kernel
theorem dX10_runCores_32 : decode cX10_runCores 32 = .ok (.aaload, 1) := by decide +kernel
theorem dX10_runCores_33 : decode cX10_runCores 33 = .ok (.iload_n 1, 1) := by decide +kernel
theorem dX10_runCores_34 : decode cX10_runCores 34 = .ok (.invokevirtual 33, 3) := by decide +kernel
theorem dX10_runCores_37 : decode cX10_runCores 37 = .ok (.iinc 2 1, 3) := by decide +kernel
theorem dX10_runCores_40 : decode cX10_runCores 40 = .ok (.goto (-38), 3) := by decide +kernel
theorem dX10_runCores_43 : decode cX10_runCores 43 = .ok (.return_, 1) := by decide +kernel
theorem dX10_passBarrier_0 : decode cX10_passBarrier 0 = .ok (.iconst 0, 1) := by decide +kernel
theorem dX10_passBarrier_1 : decode cX10_passBarrier 1 = .ok (.istore_n 1, 1) := by decide +kernel
theorem dX10_passBarrier_2 : decode cX10_passBarrier 2 = .ok (.iload_n 1, 1) := by decide +kernel
theorem dX10_passBarrier_3 : decode cX10_passBarrier 3 = .ok (.aload_n 0, 1) := by decide +kernel
theorem dX10_passBarrier_4 : decode cX10_passBarrier 4 = .ok (.getfield 7, 3) := by decide +kernel
theorem dX10_passBarrier_7 : decode cX10_passBarrier 7 = .ok (.getfield 21, 3) := by decide +kernel
theorem dX10_passBarrier_10 : decode cX10_passBarrier 10 = .ok (.if_icmp .ge 22, 3) := by decide +kernel
theorem dX10_passBarrier_13 : decode cX10_passBarrier 13 = .ok (.aload_n 0, 1) := by decide +kernel
theorem dX10_passBarrier_14 : decode cX10_passBarrier 14 = .ok (.getfield 17, 3) := by decide +kernel
theorem dX10_passBarrier_17 : decode cX10_passBarrier 17 = .ok (.iload_n 1, 1) := by decide +kernel
theorem dX10_passBarrier_18 : decode cX10_passBarrier 18 = .ok (.aaload, 1) := by decide +kernel
theorem dX10_passBarrier_19 : decode cX10_passBarrier 19 = .ok (.invokevirtual 27, 3) := by decide +kernel
theorem dX10_passBarrier_22 : decode cX10_passBarrier 22 = .ok (.ifCond .eq 4, 3) := by decide +kernel
theorem dX10_passBarrier_25 : decode cX10_passBarrier 25 = .ok (.return_, 1) := by decide +kernel
theorem dX10_passBarrier_26 : decode cX10_passBarrier 26 = .ok (.iinc 1 1, 3) := by decide +kernel
theorem dX10_passBarrier_29 : decode cX10_passBarrier 29 = .ok (.goto (-27), 3) := by decide +kernel
theorem dX10_passBarrier_32 : decode cX10_passBarrier 32 = .ok (.iconst 0, 1) := by decide +kernel
theorem dX10_passBarrier_33 : decode cX10_passBarrier 33 = .ok (.istore_n 1, 1) := by decide +kernel
theorem dX10_passBarrier_34 : decode cX10_passBarrier 34 = .ok (.iload_n 1, 1) := by decide +kernel
theorem dX10_passBarrier_35 : decode cX10_passBarrier 35 = .ok (.aload_n 0, 1) := by decide +kernel
theorem dX10_passBarrier_36 : decode cX10_passBarrier 36 = .ok (.getfield 7, 3) := by decide +kernel
theorem dX10_passBarrier_39 : decode cX10_passBarrier 39 = .ok (.getfield 21, 3) := by decide +kernel
theorem dX10_passBarrier_42 : decode cX10_passBarrier 42 = .ok (.if_icmp .ge 41, 3) := by decide +kernel
theorem dX10_passBarrier_45 : decode cX10_passBarrier 45 = .ok (.aload_n 0, 1) := by decide +kernel
theorem dX10_passBarrier_46 : decode cX10_passBarrier 46 = .ok (.getfield 17, 3) := by decide +kernel
theorem dX10_passBarrier_49 : decode cX10_passBarrier 49 = .ok (.iload_n 1, 1) := by decide +kernel
theorem dX10_passBarrier_50 : decode cX10_passBarrier 50 = .ok (.aaload, 1) := by decide +kernel
theorem dX10_passBarrier_51 : decode cX10_passBarrier 51 = .ok (.astore_n 2, 1) := by decide +kernel
theorem dX10_passBarrier_52 : decode cX10_passBarrier 52 = .ok (.aload_n 2, 1) := by decide +kernel
theorem dX10_passBarrier_53 : decode cX10_passBarrier 53 = .ok (.getfield 75, 3) := by decide +kernel
theorem dX10_passBarrier_56 : decode cX10_passBarrier 56 = .ok (.bipush 98, 2) := by decide +kernel
theorem dX10_passBarrier_58 : decode cX10_passBarrier 58 = .ok (.if_icmp .ne 19, 3) := by decide +kernel
theorem dX10_passBarrier_61 : decode cX10_passBarrier 61 = .ok (.aload_n 2, 1) := by decide +kernel
theorem dX10_passBarrier_62 : decode cX10_passBarrier 62 = .ok (.bipush 114, 2) := by decide +kernel
theorem dX10_passBarrier_64 : decode cX10_passBarrier 64 = .ok (.putfield 75, 3) := by decide +kernel
theorem dX10_passBarrier_67 : decode cX10_passBarrier 67 = .ok (.aload_n 2, 1) := by decide +kernel
theorem dX10_passBarrier_68 : decode cX10_passBarrier 68 = .ok (.dup, 1) := by decide +kernel
theorem dX10_passBarrier_69 : decode cX10_passBarrier 69 = .ok (.getfield 48, 3) := by decide +kernel
theorem dX10_passBarrier_72 : decode cX10_passBarrier 72 = .ok (.iconst 1, 1) := by decide +kernel
theorem dX10_passBarrier_73 : decode cX10_passBarrier 73 = .ok (.iadd, 1) := by decide +kernel
theorem dX10_passBarrier_74 : decode cX10_passBarrier 74 = .ok (.putfield 48, 3) := by decide +kernel
theorem dX10_passBarrier_77 : decode cX10_passBarrier 77 = .ok (.iinc 1 1, 3) := by decide +kernel
theorem dX10_passBarrier_80 : decode cX10_passBarrier 80 = .ok (.goto (-46), 3) := by decide +kernel
theorem dX10_passBarrier_83 : decode cX10_passBarrier 83 = .ok (.return_, 1) := by decide +kernel
theorem dX11_needNode_0 : decode cX11_needNode 0 = .ok (.aload_n 0, 1) := by decide +kernel
theorem dX11_needNode_1 : decode cX11_needNode 1 = .ok (.getfield 10, 3) := by decide +kernel
theorem dX11_needNode_4 : decode cX11_needNode 4 = .ok (.iload_n 1, 1) := by decide +kernel
theorem dX11_needNode_5 : decode cX11_needNode 5 = .ok (.invokevirtual 419, 3) := by decide +kernel
theorem dX11_needNode_8 : decode cX11_needNode 8 = .ok (.ifCond .ne 14, 3) := by decide +kernel
theorem dX11_needNode_11 : decode cX11_needNode 11 = .ok (.new 423, 3) := by decide +kernel
theorem dX11_needNode_14 : decode cX11_needNode 14 = .ok (.dup, 1) := by decide +kernel
theorem dX11_needNode_15 : decode cX11_needNode 15 = .ok (.ldc_w 425, 3) := by decide +kernel
theorem dX11_needNode_18 : decode cX11_needNode 18 = .ok (.invokespecial 427, 3) := by decide +kernel
theorem dX11_needNode_21 : decode cX11_needNode 21 = .ok (.athrow, 1) := by decide +kernel
theorem dX11_needNode_22 : decode cX11_needNode 22 = .ok (.return_, 1) := by decide +kernel
theorem dX11_needNodes_0 : decode cX11_needNodes 0 = .ok (.aload_n 0, 1) := by decide +kernel
theorem dX11_needNodes_1 : decode cX11_needNodes 1 = .ok (.iload_n 1, 1) := by decide +kernel
theorem dX11_needNodes_2 : decode cX11_needNodes 2 = .ok (.invokevirtual 103, 3) := by decide +kernel
theorem dX11_needNodes_5 : decode cX11_needNodes 5 = .ok (.aload_n 0, 1) := by decide +kernel
theorem dX11_needNodes_6 : decode cX11_needNodes 6 = .ok (.iload_n 2, 1) := by decide +kernel
theorem dX11_needNodes_7 : decode cX11_needNodes 7 = .ok (.invokevirtual 103, 3) := by decide +kernel
theorem dX11_needNodes_10 : decode cX11_needNodes 10 = .ok (.return_, 1) := by decide +kernel
theorem dX11_needRange_0 : decode cX11_needRange 0 = .ok (.iload_n 1, 1) := by decide +kernel
theorem dX11_needRange_1 : decode cX11_needRange 1 = .ok (.iload_n 2, 1) := by decide +kernel
theorem dX11_needRange_2 : decode cX11_needRange 2 = .ok (.if_icmp .lt 8, 3) := by decide +kernel
theorem dX11_needRange_5 : decode cX11_needRange 5 = .ok (.iload_n 1, 1) := by decide +kernel
theorem dX11_needRange_6 : decode cX11_needRange 6 = .ok (.iload_n 3, 1) := by decide +kernel
theorem dX11_needRange_7 : decode cX11_needRange 7 = .ok (.if_icmp .le 14, 3) := by decide +kernel
theorem dX11_needRange_10 : decode cX11_needRange 10 = .ok (.new 109, 3) := by decide +kernel
theorem dX11_needRange_13 : decode cX11_needRange 13 = .ok (.dup, 1) := by decide +kernel
theorem dX11_needRange_14 : decode cX11_needRange 14 = .ok (.ldc_w 432, 3) := by decide +kernel
theorem dX11_needRange_17 : decode cX11_needRange 17 = .ok (.invokespecial 113, 3) := by decide +kernel
theorem dX11_needRange_20 : decode cX11_needRange 20 = .ok (.athrow, 1) := by decide +kernel
theorem dX11_needRange_21 : decode cX11_needRange 21 = .ok (.return_, 1) := by decide +kernel
theorem dX11_needRoom_0 : decode cX11_needRoom 0 = .ok (.aload_n 0, 1) := by decide +kernel
theorem dX11_needRoom_1 : decode cX11_needRoom 1 = .ok (.getfield 19, 3) := by decide +kernel
theorem dX11_needRoom_4 : decode cX11_needRoom 4 = .ok (.iload_n 1, 1) := by decide +kernel
theorem dX11_needRoom_5 : decode cX11_needRoom 5 = .ok (.invokevirtual 434, 3) := by decide +kernel
theorem dX11_needRoom_8 : decode cX11_needRoom 8 = .ok (.ifCond .ne 14, 3) := by decide +kernel
theorem dX11_needRoom_11 : decode cX11_needRoom 11 = .ok (.new 303, 3) := by decide +kernel
theorem dX11_needRoom_14 : decode cX11_needRoom 14 = .ok (.dup, 1) := by decide +kernel
theorem dX11_needRoom_15 : decode cX11_needRoom 15 = .ok (.ldc_w 437, 3) := by decide +kernel
theorem dX11_needRoom_18 : decode cX11_needRoom 18 = .ok (.invokespecial 307, 3) := by decide +kernel
theorem dX11_needRoom_21 : decode cX11_needRoom 21 = .ok (.athrow, 1) := by decide +kernel
theorem dX11_needRoom_22 : decode cX11_needRoom 22 = .ok (.return_, 1) := by decide +kernel
theorem dX11_send_0 : decode cX11_send 0 = .ok (.aload_n 0, 1) := by decide +kernel
theorem dX11_send_1 : decode cX11_send 1 = .ok (.iload_n 1, 1) := by decide +kernel
theorem dX11_send_2 : decode cX11_send 2 = .ok (.iload_n 2, 1) := by decide +kernel
theorem dX11_send_3 : decode cX11_send 3 = .ok (.invokevirtual 84, 3) := by decide +kernel
theorem dX11_send_6 : decode cX11_send 6 = .ok (.aload_n 0, 1) := by decide +kernel
theorem dX11_send_7 : decode cX11_send 7 = .ok (.iload 4, 2) := by decide +kernel
theorem dX11_send_9 : decode cX11_send 9 = .ok (.iconst 1, 1) := by decide +kernel
theorem dX11_send_10 : decode cX11_send 10 = .ok (.iconst 4, 1) := by decide +kernel
theorem dX11_send_11 : decode cX11_send 11 = .ok (.invokevirtual 87, 3) := by decide +kernel
theorem dX11_send_14 : decode cX11_send 14 = .ok (.aload_n 0, 1) := by decide +kernel
theorem dX11_send_15 : decode cX11_send 15 = .ok (.iconst 1, 1) := by decide +kernel
theorem dX11_send_16 : decode cX11_send 16 = .ok (.invokevirtual 91, 3) := by decide +kernel
theorem dX11_send_19 : decode cX11_send 19 = .ok (.aload_n 0, 1) := by decide +kernel
theorem dX11_send_20 : decode cX11_send 20 = .ok (.getfield 19, 3) := by decide +kernel
theorem dX11_send_23 : decode cX11_send 23 = .ok (.bipush 109, 2) := by decide +kernel
theorem dX11_send_25 : decode cX11_send 25 = .ok (.iload_n 1, 1) := by decide +kernel
theorem dX11_send_26 : decode cX11_send 26 = .ok (.iload_n 2, 1) := by decide +kernel
theorem dX11_send_27 : decode cX11_send 27 = .ok (.iload_n 3, 1) := by decide +kernel
theorem dX11_send_28 : decode cX11_send 28 = .ok (.iload 4, 2) := by decide +kernel
theorem dX11_send_30 : decode cX11_send 30 = .ok (.aload_n 0, 1) := by decide +kernel
theorem dX11_send_31 : decode cX11_send 31 = .ok (.getfield 58, 3) := by decide +kernel
theorem dX11_send_34 : decode cX11_send 34 = .ok (.getfield 95, 3) := by decide +kernel
theorem dX11_send_37 : decode cX11_send 37 = .ok (.invokevirtual 99, 3) := by decide +kernel
theorem dX11_send_40 : decode cX11_send 40 = .ok (.ireturn, 1) := by decide +kernel
theorem dX11_ask_0 : decode cX11_ask 0 = .ok (.aload_n 0, 1) := by decide +kernel
theorem dX11_ask_1 : decode cX11_ask 1 = .ok (.iload_n 1, 1) := by decide +kernel
theorem dX11_ask_2 : decode cX11_ask 2 = .ok (.iload_n 2, 1) := by decide +kernel
theorem dX11_ask_3 : decode cX11_ask 3 = .ok (.invokevirtual 84, 3) := by decide +kernel
theorem dX11_ask_6 : decode cX11_ask 6 = .ok (.aload_n 0, 1) := by decide +kernel
theorem dX11_ask_7 : decode cX11_ask 7 = .ok (.iload_n 3, 1) := by decide +kernel
theorem dX11_ask_8 : decode cX11_ask 8 = .ok (.iconst 0, 1) := by decide +kernel
theorem dX11_ask_9 : decode cX11_ask 9 = .ok (.bipush 7, 2) := by decide +kernel
theorem dX11_ask_11 : decode cX11_ask 11 = .ok (.invokevirtual 87, 3) := by decide +kernel
theorem dX11_ask_14 : decode cX11_ask 14 = .ok (.aload_n 0, 1) := by decide +kernel
theorem dX11_ask_15 : decode cX11_ask 15 = .ok (.iconst 2, 1) := by decide +kernel
theorem dX11_ask_16 : decode cX11_ask 16 = .ok (.invokevirtual 91, 3) := by decide +kernel
theorem dX11_ask_19 : decode cX11_ask 19 = .ok (.aload_n 0, 1) := by decide +kernel
theorem dX11_ask_20 : decode cX11_ask 20 = .ok (.getfield 19, 3) := by decide +kernel
theorem dX11_ask_23 : decode cX11_ask 23 = .ok (.bipush 113, 2) := by decide +kernel
theorem dX11_ask_25 : decode cX11_ask 25 = .ok (.iload_n 1, 1) := by decide +kernel
theorem dX11_ask_26 : decode cX11_ask 26 = .ok (.iload_n 2, 1) := by decide +kernel
theorem dX11_ask_27 : decode cX11_ask 27 = .ok (.iconst 0, 1) := by decide +kernel
theorem dX11_ask_28 : decode cX11_ask 28 = .ok (.iconst 1, 1) := by decide +kernel
theorem dX11_ask_29 : decode cX11_ask 29 = .ok (.aload_n 0, 1) := by decide +kernel
theorem dX11_ask_30 : decode cX11_ask 30 = .ok (.getfield 58, 3) := by decide +kernel
theorem dX11_ask_33 : decode cX11_ask 33 = .ok (.getfield 95, 3) := by decide +kernel
theorem dX11_ask_36 : decode cX11_ask 36 = .ok (.invokevirtual 99, 3) := by decide +kernel
theorem dX11_ask_39 : decode cX11_ask 39 = .ok (.istore 6, 2) := by decide +kernel
theorem dX11_ask_41 : decode cX11_ask 41 = .ok (.aload_n 0, 1) := by decide +kernel
theorem dX11_ask_42 : decode cX11_ask 42 = .ok (.getfield 19, 3) := by decide +kernel
theorem dX11_ask_45 : decode cX11_ask 45 = .ok (.iload 6, 2) := by decide +kernel
theorem dX11_ask_47 : decode cX11_ask 47 = .ok (.invokevirtual 122, 3) := by decide +kernel
theorem dX11_ask_50 : decode cX11_ask 50 = .ok (.astore 7, 2) := by decide +kernel
theorem dX11_ask_52 : decode cX11_ask 52 = .ok (.aload 7, 2) := by decide +kernel
theorem dX11_ask_54 : decode cX11_ask 54 = .ok (.ifnull 25, 3) := by decide +kernel
theorem dX11_ask_57 : decode cX11_ask 57 = .ok (.aload 7, 2) := by decide +kernel
theorem dX11_ask_59 : decode cX11_ask 59 = .ok (.iload_n 3, 1) := by decide +kernel
theorem dX11_ask_60 : decode cX11_ask 60 = .ok (.putfield 126, 3) := by decide +kernel
theorem dX11_ask_63 : decode cX11_ask 63 = .ok (.aload 7, 2) := by decide +kernel
theorem dX11_ask_65 : decode cX11_ask 65 = .ok (.iload 4, 2) := by decide +kernel
theorem dX11_ask_67 : decode cX11_ask 67 = .ok (.ifCond .eq 8, 3) := by decide +kernel
theorem dX11_ask_70 : decode cX11_ask 70 = .ok (.iload 5, 2) := by decide +kernel
theorem dX11_ask_72 : decode cX11_ask 72 = .ok (.goto 4, 3) := by decide +kernel
theorem dX11_ask_75 : decode cX11_ask 75 = .ok (.iconst 0, 1) := by decide +kernel
theorem dX11_ask_76 : decode cX11_ask 76 = .ok (.putfield 131, 3) := by decide +kernel
theorem dX11_ask_79 : decode cX11_ask 79 = .ok (.iload 6, 2) := by decide +kernel
theorem dX11_ask_81 : decode cX11_ask 81 = .ok (.ireturn, 1) := by decide +kernel
theorem dX11_needPacket_0 : decode cX11_needPacket 0 = .ok (.aload_n 0, 1) := by decide +kernel
theorem dX11_needPacket_1 : decode cX11_needPacket 1 = .ok (.getfield 19, 3) := by decide +kernel
theorem dX11_needPacket_4 : decode cX11_needPacket 4 = .ok (.iload_n 1, 1) := by decide +kernel
theorem dX11_needPacket_5 : decode cX11_needPacket 5 = .ok (.invokevirtual 122, 3) := by decide +kernel
theorem dX11_needPacket_8 : decode cX11_needPacket 8 = .ok (.astore_n 2, 1) := by decide +kernel
theorem dX11_needPacket_9 : decode cX11_needPacket 9 = .ok (.aload_n 2, 1) := by decide +kernel
theorem dX11_needPacket_10 : decode cX11_needPacket 10 = .ok (.ifnonnull 14, 3) := by decide +kernel
theorem dX11_needPacket_13 : decode cX11_needPacket 13 = .ok (.new 423, 3) := by decide +kernel
theorem dX11_needPacket_16 : decode cX11_needPacket 16 = .ok (.dup, 1) := by decide +kernel
theorem dX11_needPacket_17 : decode cX11_needPacket 17 = .ok (.ldc_w 428, 3) := by decide +kernel
theorem dX11_needPacket_20 : decode cX11_needPacket 20 = .ok (.invokespecial 427, 3) := by decide +kernel
theorem dX11_needPacket_23 : decode cX11_needPacket 23 = .ok (.athrow, 1) := by decide +kernel
theorem dX11_needPacket_24 : decode cX11_needPacket 24 = .ok (.aload_n 2, 1) := by decide +kernel
theorem dX11_needPacket_25 : decode cX11_needPacket 25 = .ok (.areturn, 1) := by decide +kernel
theorem dX11_answer_0 : decode cX11_answer 0 = .ok (.aload_n 0, 1) := by decide +kernel
theorem dX11_answer_1 : decode cX11_answer 1 = .ok (.iload_n 1, 1) := by decide +kernel
theorem dX11_answer_2 : decode cX11_answer 2 = .ok (.invokevirtual 134, 3) := by decide +kernel
theorem dX11_answer_5 : decode cX11_answer 5 = .ok (.astore_n 2, 1) := by decide +kernel
theorem dX11_answer_6 : decode cX11_answer 6 = .ok (.aload_n 2, 1) := by decide +kernel
theorem dX11_answer_7 : decode cX11_answer 7 = .ok (.getfield 137, 3) := by decide +kernel
theorem dX11_answer_10 : decode cX11_answer 10 = .ok (.bipush 113, 2) := by decide +kernel
theorem dX11_answer_12 : decode cX11_answer 12 = .ok (.if_icmp .eq 13, 3) := by decide +kernel
theorem dX11_answer_15 : decode cX11_answer 15 = .ok (.new 109, 3) := by decide +kernel
theorem dX11_answer_18 : decode cX11_answer 18 = .ok (.dup, 1) := by decide +kernel
theorem dX11_answer_19 : decode cX11_answer 19 = .ok (.ldc 141, 2) := by decide +kernel
theorem dX11_answer_21 : decode cX11_answer 21 = .ok (.invokespecial 113, 3) := by decide +kernel
theorem dX11_answer_24 : decode cX11_answer 24 = .ok (.athrow, 1) := by decide +kernel
theorem dX11_answer_25 : decode cX11_answer 25 = .ok (.aload_n 2, 1) := by decide +kernel
theorem dX11_answer_26 : decode cX11_answer 26 = .ok (.getfield 143, 3) := by decide +kernel
theorem dX11_answer_29 : decode cX11_answer 29 = .ok (.iconst (-1), 1) := by decide +kernel
theorem dX11_answer_30 : decode cX11_answer 30 = .ok (.if_icmp .ne 13, 3) := by decide +kernel
theorem dX11_answer_33 : decode cX11_answer 33 = .ok (.new 146, 3) := by decide +kernel
theorem dX11_answer_36 : decode cX11_answer 36 = .ok (.dup, 1) := by decide +kernel
theorem dX11_answer_37 : decode cX11_answer 37 = .ok (.ldc 148, 2) := by decide +kernel
theorem dX11_answer_39 : decode cX11_answer 39 = .ok (.invokespecial 150, 3) := by decide +kernel
theorem dX11_answer_42 : decode cX11_answer 42 = .ok (.athrow, 1) := by decide +kernel
theorem dX11_answer_43 : decode cX11_answer 43 = .ok (.aload_n 2, 1) := by decide +kernel
theorem dX11_answer_44 : decode cX11_answer 44 = .ok (.getfield 143, 3) := by decide +kernel
theorem dX11_answer_47 : decode cX11_answer 47 = .ok (.ireturn, 1) := by decide +kernel
theorem dX11_kind_0 : decode cX11_kind 0 = .ok (.aload_n 0, 1) := by decide +kernel
theorem dX11_kind_1 : decode cX11_kind 1 = .ok (.iload_n 1, 1) := by decide +kernel
theorem dX11_kind_2 : decode cX11_kind 2 = .ok (.invokevirtual 134, 3) := by decide +kernel
theorem dX11_kind_5 : decode cX11_kind 5 = .ok (.getfield 137, 3) := by decide +kernel
theorem dX11_kind_8 : decode cX11_kind 8 = .ok (.ireturn, 1) := by decide +kernel
theorem dX11_state_0 : decode cX11_state 0 = .ok (.aload_n 0, 1) := by decide +kernel
theorem dX11_state_1 : decode cX11_state 1 = .ok (.iload_n 1, 1) := by decide +kernel
theorem dX11_state_2 : decode cX11_state 2 = .ok (.invokevirtual 134, 3) := by decide +kernel
theorem dX11_state_5 : decode cX11_state 5 = .ok (.getfield 151, 3) := by decide +kernel
theorem dX11_state_8 : decode cX11_state 8 = .ok (.ireturn, 1) := by decide +kernel
theorem dX11_word_0 : decode cX11_word 0 = .ok (.aload_n 0, 1) := by decide +kernel
theorem dX11_word_1 : decode cX11_word 1 = .ok (.iload_n 1, 1) := by decide +kernel
theorem dX11_word_2 : decode cX11_word 2 = .ok (.invokevirtual 134, 3) := by decide +kernel
theorem dX11_word_5 : decode cX11_word 5 = .ok (.getfield 154, 3) := by decide +kernel
theorem dX11_word_8 : decode cX11_word 8 = .ok (.ireturn, 1) := by decide +kernel
theorem dX11_head_0 : decode cX11_head 0 = .ok (.aload_n 0, 1) := by decide +kernel
theorem dX11_head_1 : decode cX11_head 1 = .ok (.iload_n 1, 1) := by decide +kernel
theorem dX11_head_2 : decode cX11_head 2 = .ok (.invokevirtual 134, 3) := by decide +kernel
theorem dX11_head_5 : decode cX11_head 5 = .ok (.getfield 157, 3) := by decide +kernel
theorem dX11_head_8 : decode cX11_head 8 = .ok (.istore_n 2, 1) := by decide +kernel
theorem dX11_head_9 : decode cX11_head 9 = .ok (.iload_n 2, 1) := by decide +kernel
theorem dX11_head_10 : decode cX11_head 10 = .ok (.iconst (-1), 1) := by decide +kernel
theorem dX11_head_11 : decode cX11_head 11 = .ok (.if_icmp .ne 13, 3) := by decide +kernel
theorem dX11_head_14 : decode cX11_head 14 = .ok (.new 146, 3) := by decide +kernel
theorem dX11_head_17 : decode cX11_head 17 = .ok (.dup, 1) := by decide +kernel
theorem dX11_head_18 : decode cX11_head 18 = .ok (.ldc 160, 2) := by decide +kernel
theorem dX11_head_20 : decode cX11_head 20 = .ok (.invokespecial 150, 3) := by decide +kernel
theorem dX11_head_23 : decode cX11_head 23 = .ok (.athrow, 1) := by decide +kernel
theorem dX11_head_24 : decode cX11_head 24 = .ok (.iload_n 2, 1) := by decide +kernel
theorem dX11_head_25 : decode cX11_head 25 = .ok (.ireturn, 1) := by decide +kernel
theorem dX11_pieces_0 : decode cX11_pieces 0 = .ok (.aload_n 0, 1) := by decide +kernel
theorem dX11_pieces_1 : decode cX11_pieces 1 = .ok (.iload_n 1, 1) := by decide +kernel
theorem dX11_pieces_2 : decode cX11_pieces 2 = .ok (.invokevirtual 134, 3) := by decide +kernel
theorem dX11_pieces_5 : decode cX11_pieces 5 = .ok (.invokevirtual 162, 3) := by decide +kernel
theorem dX11_pieces_8 : decode cX11_pieces 8 = .ok (.ireturn, 1) := by decide +kernel
theorem dX11_time_0 : decode cX11_time 0 = .ok (.aload_n 0, 1) := by decide +kernel
theorem dX11_time_1 : decode cX11_time 1 = .ok (.iload_n 1, 1) := by decide +kernel
theorem dX11_time_2 : decode cX11_time 2 = .ok (.invokevirtual 134, 3) := by decide +kernel
theorem dX11_time_5 : decode cX11_time 5 = .ok (.astore_n 2, 1) := by decide +kernel
theorem dX11_time_6 : decode cX11_time 6 = .ok (.aload_n 2, 1) := by decide +kernel
theorem dX11_time_7 : decode cX11_time 7 = .ok (.invokevirtual 166, 3) := by decide +kernel
theorem dX11_time_10 : decode cX11_time 10 = .ok (.ifCond .ne 13, 3) := by decide +kernel
theorem dX11_time_13 : decode cX11_time 13 = .ok (.new 146, 3) := by decide +kernel
theorem dX11_time_16 : decode cX11_time 16 = .ok (.dup, 1) := by decide +kernel
theorem dX11_time_17 : decode cX11_time 17 = .ok (.ldc 170, 2) := by decide +kernel
theorem dX11_time_19 : decode cX11_time 19 = .ok (.invokespecial 150, 3) := by decide +kernel
theorem dX11_time_22 : decode cX11_time 22 = .ok (.athrow, 1) := by decide +kernel
theorem dX11_time_23 : decode cX11_time 23 = .ok (.aload_n 2, 1) := by decide +kernel
theorem dX11_time_24 : decode cX11_time 24 = .ok (.invokevirtual 172, 3) := by decide +kernel
theorem dX11_time_27 : decode cX11_time 27 = .ok (.ireturn, 1) := by decide +kernel
theorem dX11_packets_0 : decode cX11_packets 0 = .ok (.aload_n 0, 1) := by decide +kernel
theorem dX11_packets_1 : decode cX11_packets 1 = .ok (.getfield 19, 3) := by decide +kernel
theorem dX11_packets_4 : decode cX11_packets 4 = .ok (.getfield 175, 3) := by decide +kernel
theorem dX11_packets_7 : decode cX11_packets 7 = .ok (.ireturn, 1) := by decide +kernel
theorem dX11_lying_0 : decode cX11_lying 0 = .ok (.aload_n 0, 1) := by decide +kernel
theorem dX11_lying_1 : decode cX11_lying 1 = .ok (.iload_n 1, 1) := by decide +kernel
theorem dX11_lying_2 : decode cX11_lying 2 = .ok (.iload_n 2, 1) := by decide +kernel
theorem dX11_lying_3 : decode cX11_lying 3 = .ok (.invokevirtual 84, 3) := by decide +kernel
theorem dX11_lying_6 : decode cX11_lying 6 = .ok (.aload_n 0, 1) := by decide +kernel
theorem dX11_lying_7 : decode cX11_lying 7 = .ok (.getfield 19, 3) := by decide +kernel
theorem dX11_lying_10 : decode cX11_lying 10 = .ok (.iload_n 1, 1) := by decide +kernel
theorem dX11_lying_11 : decode cX11_lying 11 = .ok (.iload_n 2, 1) := by decide +kernel
theorem dX11_lying_12 : decode cX11_lying 12 = .ok (.invokevirtual 178, 3) := by decide +kernel
theorem dX11_lying_15 : decode cX11_lying 15 = .ok (.ireturn, 1) := by decide +kernel
theorem dX11_receive_0 : decode cX11_receive 0 = .ok (.aload_n 0, 1) := by decide +kernel
theorem dX11_receive_1 : decode cX11_receive 1 = .ok (.iload_n 1, 1) := by decide +kernel
theorem dX11_receive_2 : decode cX11_receive 2 = .ok (.iload_n 2, 1) := by decide +kernel
theorem dX11_receive_3 : decode cX11_receive 3 = .ok (.invokevirtual 84, 3) := by decide +kernel
theorem dX11_receive_6 : decode cX11_receive 6 = .ok (.aload_n 0, 1) := by decide +kernel
theorem dX11_receive_7 : decode cX11_receive 7 = .ok (.getfield 19, 3) := by decide +kernel
theorem dX11_receive_10 : decode cX11_receive 10 = .ok (.iload_n 1, 1) := by decide +kernel
theorem dX11_receive_11 : decode cX11_receive 11 = .ok (.iload_n 2, 1) := by decide +kernel
theorem dX11_receive_12 : decode cX11_receive 12 = .ok (.invokevirtual 182, 3) := by decide +kernel
theorem dX11_receive_15 : decode cX11_receive 15 = .ok (.astore_n 3, 1) := by decide +kernel
theorem dX11_receive_16 : decode cX11_receive 16 = .ok (.aload_n 3, 1) := by decide +kernel
theorem dX11_receive_17 : decode cX11_receive 17 = .ok (.ifnonnull 13, 3) := by decide +kernel
theorem dX11_receive_20 : decode cX11_receive 20 = .ok (.new 146, 3) := by decide +kernel
theorem dX11_receive_23 : decode cX11_receive 23 = .ok (.dup, 1) := by decide +kernel
theorem dX11_receive_24 : decode cX11_receive 24 = .ok (.ldc 186, 2) := by decide +kernel
theorem dX11_receive_26 : decode cX11_receive 26 = .ok (.invokespecial 150, 3) := by decide +kernel
theorem dX11_receive_29 : decode cX11_receive 29 = .ok (.athrow, 1) := by decide +kernel
theorem dX11_receive_30 : decode cX11_receive 30 = .ok (.aload_n 3, 1) := by decide +kernel
theorem dX11_receive_31 : decode cX11_receive 31 = .ok (.bipush 114, 2) := by decide +kernel
theorem dX11_receive_33 : decode cX11_receive 33 = .ok (.putfield 151, 3) := by decide +kernel
theorem dX11_receive_36 : decode cX11_receive 36 = .ok (.aload_n 3, 1) := by decide +kernel
theorem dX11_receive_37 : decode cX11_receive 37 = .ok (.getfield 188, 3) := by decide +kernel
theorem dX11_receive_40 : decode cX11_receive 40 = .ok (.ireturn, 1) := by decide +kernel
theorem dX11_setAllPlaces_0 : decode cX11_setAllPlaces 0 = .ok (.aload_n 0, 1) := by decide +kernel
theorem dX11_setAllPlaces_1 : decode cX11_setAllPlaces 1 = .ok (.iload_n 1, 1) := by decide +kernel
theorem dX11_setAllPlaces_2 : decode cX11_setAllPlaces 2 = .ok (.putfield 225, 3) := by decide +kernel
theorem dX11_setAllPlaces_5 : decode cX11_setAllPlaces 5 = .ok (.iconst 0, 1) := by decide +kernel
theorem dX11_setAllPlaces_6 : decode cX11_setAllPlaces 6 = .ok (.istore_n 2, 1) := by decide +kernel
theorem dX11_setAllPlaces_7 : decode cX11_setAllPlaces 7 = .ok (.iload_n 2, 1) := by decide +kernel
theorem dX11_setAllPlaces_8 : decode cX11_setAllPlaces 8 = .ok (.bipush 16, 2) := by decide +kernel
theorem dX11_setAllPlaces_10 : decode cX11_setAllPlaces 10 = .ok (.if_icmp .ge 19, 3) := by decide +kernel
theorem dX11_setAllPlaces_13 : decode cX11_setAllPlaces 13 = .ok (.aload_n 0, 1) := by decide +kernel
theorem dX11_setAllPlaces_14 : decode cX11_setAllPlaces 14 = .ok (.getfield 34, 3) := by decide +kernel
theorem dX11_setAllPlaces_17 : decode cX11_setAllPlaces 17 = .ok (.iload_n 2, 1) := by decide +kernel
theorem dX11_setAllPlaces_18 : decode cX11_setAllPlaces 18 = .ok (.aaload, 1) := by decide +kernel
theorem dX11_setAllPlaces_19 : decode cX11_setAllPlaces 19 = .ok (.iload_n 1, 1) := by decide +kernel
theorem dX11_setAllPlaces_20 : decode cX11_setAllPlaces 20 = .ok (.invokevirtual 412, 3) := by decide +kernel
theorem dX11_setAllPlaces_23 : decode cX11_setAllPlaces 23 = .ok (.iinc 2 1, 3) := by decide +kernel
theorem dX11_setAllPlaces_26 : decode cX11_setAllPlaces 26 = .ok (.goto (-19), 3) := by decide +kernel
theorem dX11_setAllPlaces_29 : decode cX11_setAllPlaces 29 = .ok (.return_, 1) := by decide +kernel
theorem dX11_makeAnew_0 : decode cX11_makeAnew 0 = .ok (.aload_n 0, 1) := by decide +kernel
theorem dX11_makeAnew_1 : decode cX11_makeAnew 1 = .ok (.getfield 10, 3) := by decide +kernel
theorem dX11_makeAnew_4 : decode cX11_makeAnew 4 = .ok (.iload_n 1, 1) := by decide +kernel
theorem dX11_makeAnew_5 : decode cX11_makeAnew 5 = .ok (.iload_n 2, 1) := by decide +kernel
theorem dX11_makeAnew_6 : decode cX11_makeAnew 6 = .ok (.invokevirtual 402, 3) := by decide +kernel
theorem dX11_makeAnew_9 : decode cX11_makeAnew 9 = .ok (.aload_n 0, 1) := by decide +kernel
theorem dX11_makeAnew_10 : decode cX11_makeAnew 10 = .ok (.getfield 19, 3) := by decide +kernel
theorem dX11_makeAnew_13 : decode cX11_makeAnew 13 = .ok (.invokevirtual 405, 3) := by decide +kernel
theorem dX11_makeAnew_16 : decode cX11_makeAnew 16 = .ok (.aload_n 0, 1) := by decide +kernel
theorem dX11_makeAnew_17 : decode cX11_makeAnew 17 = .ok (.getfield 28, 3) := by decide +kernel
theorem dX11_makeAnew_20 : decode cX11_makeAnew 20 = .ok (.invokevirtual 408, 3) := by decide +kernel
theorem dX11_makeAnew_23 : decode cX11_makeAnew 23 = .ok (.aload_n 0, 1) := by decide +kernel
theorem dX11_makeAnew_24 : decode cX11_makeAnew 24 = .ok (.getfield 49, 3) := by decide +kernel
theorem dX11_makeAnew_27 : decode cX11_makeAnew 27 = .ok (.bipush 120, 2) := by decide +kernel
theorem dX11_makeAnew_29 : decode cX11_makeAnew 29 = .ok (.putfield 222, 3) := by decide +kernel
theorem dX11_makeAnew_32 : decode cX11_makeAnew 32 = .ok (.aload_n 0, 1) := by decide +kernel
theorem dX11_makeAnew_33 : decode cX11_makeAnew 33 = .ok (.getfield 58, 3) := by decide +kernel
theorem dX11_makeAnew_36 : decode cX11_makeAnew 36 = .ok (.invokevirtual 409, 3) := by decide +kernel
theorem dX11_makeAnew_39 : decode cX11_makeAnew 39 = .ok (.iconst 0, 1) := by decide +kernel
theorem dX11_makeAnew_40 : decode cX11_makeAnew 40 = .ok (.istore_n 3, 1) := by decide +kernel
theorem dX11_makeAnew_41 : decode cX11_makeAnew 41 = .ok (.iload_n 3, 1) := by decide +kernel
theorem dX11_makeAnew_42 : decode cX11_makeAnew 42 = .ok (.bipush 16, 2) := by decide +kernel
theorem dX11_makeAnew_44 : decode cX11_makeAnew 44 = .ok (.if_icmp .ge 27, 3) := by decide +kernel
theorem dX11_makeAnew_47 : decode cX11_makeAnew 47 = .ok (.aload_n 0, 1) := by decide +kernel
theorem dX11_makeAnew_48 : decode cX11_makeAnew 48 = .ok (.getfield 34, 3) := by decide +kernel
theorem dX11_makeAnew_51 : decode cX11_makeAnew 51 = .ok (.iload_n 3, 1) := by decide +kernel
theorem dX11_makeAnew_52 : decode cX11_makeAnew 52 = .ok (.aaload, 1) := by decide +kernel
theorem dX11_makeAnew_53 : decode cX11_makeAnew 53 = .ok (.invokevirtual 410, 3) := by decide +kernel
theorem dX11_makeAnew_56 : decode cX11_makeAnew 56 = .ok (.aload_n 0, 1) := by decide +kernel
theorem dX11_makeAnew_57 : decode cX11_makeAnew 57 = .ok (.getfield 40, 3) := by decide +kernel
theorem dX11_makeAnew_60 : decode cX11_makeAnew 60 = .ok (.iload_n 3, 1) := by decide +kernel
theorem dX11_makeAnew_61 : decode cX11_makeAnew 61 = .ok (.aaload, 1) := by decide +kernel
theorem dX11_makeAnew_62 : decode cX11_makeAnew 62 = .ok (.invokevirtual 411, 3) := by decide +kernel
theorem dX11_makeAnew_65 : decode cX11_makeAnew 65 = .ok (.iinc 3 1, 3) := by decide +kernel
theorem dX11_makeAnew_68 : decode cX11_makeAnew 68 = .ok (.goto (-27), 3) := by decide +kernel
theorem dX11_makeAnew_71 : decode cX11_makeAnew 71 = .ok (.aload_n 0, 1) := by decide +kernel
theorem dX11_makeAnew_72 : decode cX11_makeAnew 72 = .ok (.iconst 2, 1) := by decide +kernel
theorem dX11_makeAnew_73 : decode cX11_makeAnew 73 = .ok (.invokevirtual 228, 3) := by decide +kernel
theorem dX11_makeAnew_76 : decode cX11_makeAnew 76 = .ok (.return_, 1) := by decide +kernel
theorem dX11_net_0 : decode cX11_net 0 = .ok (.aload_n 0, 1) := by decide +kernel
theorem dX11_net_1 : decode cX11_net 1 = .ok (.iload_n 1, 1) := by decide +kernel
theorem dX11_net_2 : decode cX11_net 2 = .ok (.iconst 1, 1) := by decide +kernel
theorem dX11_net_3 : decode cX11_net 3 = .ok (.iconst 4, 1) := by decide +kernel
theorem dX11_net_4 : decode cX11_net 4 = .ok (.invokevirtual 87, 3) := by decide +kernel
theorem dX11_net_7 : decode cX11_net 7 = .ok (.aload_n 0, 1) := by decide +kernel
theorem dX11_net_8 : decode cX11_net 8 = .ok (.iload_n 2, 1) := by decide +kernel
theorem dX11_net_9 : decode cX11_net 9 = .ok (.iconst 1, 1) := by decide +kernel
theorem dX11_net_10 : decode cX11_net 10 = .ok (.iconst 4, 1) := by decide +kernel
theorem dX11_net_11 : decode cX11_net 11 = .ok (.invokevirtual 87, 3) := by decide +kernel
theorem dX11_net_14 : decode cX11_net 14 = .ok (.aload_n 0, 1) := by decide +kernel
theorem dX11_net_15 : decode cX11_net 15 = .ok (.iload_n 1, 1) := by decide +kernel
theorem dX11_net_16 : decode cX11_net 16 = .ok (.iload_n 2, 1) := by decide +kernel
theorem dX11_net_17 : decode cX11_net 17 = .ok (.invokevirtual 80, 3) := by decide +kernel
theorem dX11_net_20 : decode cX11_net 20 = .ok (.aload_n 0, 1) := by decide +kernel
theorem dX11_net_21 : decode cX11_net 21 = .ok (.getfield 10, 3) := by decide +kernel
theorem dX11_net_24 : decode cX11_net 24 = .ok (.getfield 106, 3) := by decide +kernel
theorem dX11_net_27 : decode cX11_net 27 = .ok (.ireturn, 1) := by decide +kernel
def f_Works_runOne (μ : me_M) (v1 : Int32) (v2 : Nat) (v3 : Int32) : Option (me_M × Unit) :=
  me_bd (f_Core_hasInstruction μ v2) (fun r1 =>
  if r1 = 0 then
  (me_b2 (f_Core_stopBy μ v2 (106 : Int32)) (fun μ32 r31 =>
  some (μ32, ())))
  else
  (me_gd (me_inb (μ 22 v2 6) 12) (
  me_lt ((μ 25 v2 (me_ix (μ 22 v2 6)))) (fun x4 =>
  me_gd (me_inb (μ 22 v2 6) 12) (
  me_lt ((μ 26 v2 (me_ix (μ 22 v2 6)))) (fun x6 =>
  if x4 = (98 : Int32) then
  (me_lt (me_up μ 22 v2 7 (98 : Int32)) (fun μ8 =>
  some (μ8, ())))
  else if x4 = (100 : Int32) then
  (me_b2 (f_Works_sendWord μ v1 v2 x6 v3) (fun μ11 r10 =>
  some (μ11, ())))
  else if x4 = (104 : Int32) then
  (me_lt (me_up μ 22 v2 7 (104 : Int32)) (fun μ13 =>
  some (μ13, ())))
  else if x4 = (106 : Int32) then
  (me_b2 (f_Core_jump μ v2 x6) (fun μ16 r15 =>
  some (μ16, ())))
  else if x4 = (108 : Int32) then
  (me_b2 (f_Core_load μ v2 x6) (fun μ19 r18 =>
  some (μ19, ())))
  else if x4 = (112 : Int32) then
  (me_b2 (f_Core_pushAndGoOn μ v2 x6) (fun μ22 r21 =>
  some (μ22, ())))
  else if x4 = (114 : Int32) then
  (me_b2 (f_Works_receiveWord μ v1 v2 x6) (fun μ25 r24 =>
  some (μ25, ())))
  else if x4 = (115 : Int32) then
  (me_b2 (f_Core_store μ v2 x6) (fun μ28 r27 =>
  some (μ28, ())))
  else (me_b2 (f_Core_reckon μ v2 x4) (fun μ30 r29 =>
  some (μ30, ())))))))))
set_option maxHeartbeats 4000000 in
set_option maxRecDepth 100000 in
theorem z_Works_runOne {X : me_X} {B : me_B} {sz : Nat} (C : me_C X B RX10 cX10_runOne 6 none) {μ : me_M} {v1 : Int32} {v2 : Nat} {v3 : Int32}   {r : me_M × Unit} (N : me_En X B sz (B, r.1, .ok (none)) 3 72 0 0) (hNx : me_Nx X) (hB : me_St B)   (hf : f_Works_runOne μ v1 v2 v3 = some r) : me_Z X B 0 0 μ 0 [(0, me_r 31 0), (1, me_i v1), (2, me_r 22 v2), (3, me_i v3)] [] := by
  unfold f_Works_runOne at hf
  refine me_aload_n C 2 (Or.inr (Or.inl ⟨_, rfl⟩)) dX10_runOne_0 rfl rfl ?_
  obtain ⟨r1, h_r1, hf⟩ := me_bs hf
  refine me_callV C N  (As := []) (st := []) 0 0 (c_Core_hasInstruction hB h_r1) mv_Core_hasInstruction ml_Works_37 rfl rfl dX10_runOne_1 rfl rfl ⟨by decide, by decide⟩ ⟨by decide, by decide, by decide, by decide⟩ (Nat.le_of_ble_eq_true rfl) ?_
  refine me_if_ne C (tgt := 14) dX10_runOne_4 (by decide) (fun c2 => ?_) (fun c2 => ?_)
  · replace hf := me_in c2 hf
    refine me_aload_n C 2 (Or.inr (Or.inl ⟨_, rfl⟩)) dX10_runOne_14 rfl rfl ?_
    refine me_getr C hB 2 (k' := 25) (i' := v2) fg_Works_44 dX10_runOne_15 rfl rfl ?_
    refine me_aload_n C 2 (Or.inr (Or.inl ⟨_, rfl⟩)) dX10_runOne_18 rfl rfl ?_
    refine me_geti C 6 fg_Works_48 dX10_runOne_19 rfl ?_
    obtain ⟨g3, hf⟩ := me_gs hf
    refine me_cald C rfl (fun _ => rfl) g3 dX10_runOne_22 ?_
    obtain ⟨x4, e_x4, hf⟩ := me_lts hf
    refine me_nm e_x4 ?_
    refine me_istore C dX10_runOne_23 (by decide) (L' := [(4, me_i x4), (0, me_r 31 0), (1, me_i v1), (2, me_r 22 v2), (3, me_i v3)]) rfl ?_
    refine me_aload_n C 2 (Or.inr (Or.inl ⟨_, rfl⟩)) dX10_runOne_25 rfl rfl ?_
    refine me_getr C hB 3 (k' := 26) (i' := v2) fg_Works_51 dX10_runOne_26 rfl rfl ?_
    refine me_aload_n C 2 (Or.inr (Or.inl ⟨_, rfl⟩)) dX10_runOne_29 rfl rfl ?_
    refine me_geti C 6 fg_Works_48 dX10_runOne_30 rfl ?_
    obtain ⟨g5, hf⟩ := me_gs hf
    refine me_iald C rfl (fun _ => rfl) g5 dX10_runOne_33 ?_
    obtain ⟨x6, e_x6, hf⟩ := me_lts hf
    refine me_nm e_x6 ?_
    refine me_istore C dX10_runOne_34 (by decide) (L' := [(5, me_i x6), (4, me_i x4), (0, me_r 31 0), (1, me_i v1), (2, me_r 22 v2), (3, me_i v3)]) rfl ?_
    refine me_iload C dX10_runOne_36 rfl ?_
    by_cases c7 : x4 = (98 : Int32)
    · refine me_tab C (145) (tgt := 183) dX10_runOne_38 (by rw [c7]; decide +kernel) (by decide) ?_
      replace hf := me_ip c7 hf
      refine me_aload_n C 2 (Or.inr (Or.inl ⟨_, rfl⟩)) dX10_runOne_183 rfl rfl ?_
      refine me_bipush C (v := 98) dX10_runOne_184 (by decide) ?_
      obtain ⟨μ8, e_μ8, hf⟩ := me_lts hf
      refine me_puti C 7 fw_Works_75 dX10_runOne_186 rfl (by decide +kernel) e_μ8 ?_
      refine me_goto C (tgt := 207) dX10_runOne_189 (by decide) ?_
      exact me_vret C N dX10_runOne_207 (by cases hf; rfl) (by decide) (by decide)
    replace hf := me_in c7 hf
    by_cases c9 : x4 = (100 : Int32)
    · refine me_tab C (113) (tgt := 151) dX10_runOne_38 (by rw [c9]; decide +kernel) (by decide) ?_
      replace hf := me_ip c9 hf
      refine me_aload_n C 0 (Or.inr (Or.inl ⟨_, rfl⟩)) dX10_runOne_151 rfl rfl ?_
      refine me_iload_n C 1 dX10_runOne_152 rfl rfl ?_
      refine me_aload_n C 2 (Or.inr (Or.inl ⟨_, rfl⟩)) dX10_runOne_153 rfl rfl ?_
      refine me_iload C dX10_runOne_154 rfl ?_
      refine me_iload_n C 3 dX10_runOne_156 rfl rfl ?_
      obtain ⟨μ11, r10, h_r10, hf⟩ := me_bs2 hf
      refine me_callV0 C N  (As := [me_i v1, me_r 22 v2, me_i x6, me_i v3]) (st := []) 0 0 (c_Works_sendWord hB h_r10) mv_Works_sendWord ml_Works_65 rfl rfl dX10_runOne_157 rfl rfl ⟨by decide, by decide⟩ ⟨by decide, by decide, by decide, by decide⟩ (Nat.le_of_ble_eq_true rfl) ?_
      refine me_goto C (tgt := 207) dX10_runOne_160 (by decide) ?_
      exact me_vret C N dX10_runOne_207 (by cases hf; rfl) (by decide) (by decide)
    replace hf := me_in c9 hf
    by_cases c12 : x4 = (104 : Int32)
    · refine me_tab C (154) (tgt := 192) dX10_runOne_38 (by rw [c12]; decide +kernel) (by decide) ?_
      replace hf := me_ip c12 hf
      refine me_aload_n C 2 (Or.inr (Or.inl ⟨_, rfl⟩)) dX10_runOne_192 rfl rfl ?_
      refine me_bipush C (v := 104) dX10_runOne_193 (by decide) ?_
      obtain ⟨μ13, e_μ13, hf⟩ := me_lts hf
      refine me_puti C 7 fw_Works_75 dX10_runOne_195 rfl (by decide +kernel) e_μ13 ?_
      refine me_goto C (tgt := 207) dX10_runOne_198 (by decide) ?_
      exact me_vret C N dX10_runOne_207 (by cases hf; rfl) (by decide) (by decide)
    replace hf := me_in c12 hf
    by_cases c14 : x4 = (106 : Int32)
    · refine me_tab C (136) (tgt := 174) dX10_runOne_38 (by rw [c14]; decide +kernel) (by decide) ?_
      replace hf := me_ip c14 hf
      refine me_aload_n C 2 (Or.inr (Or.inl ⟨_, rfl⟩)) dX10_runOne_174 rfl rfl ?_
      refine me_iload C dX10_runOne_175 rfl ?_
      obtain ⟨μ16, r15, h_r15, hf⟩ := me_bs2 hf
      refine me_callV0 C N  (As := [me_i x6]) (st := []) 0 0 (c_Core_jump hB h_r15) mv_Core_jump ml_Works_72 rfl rfl dX10_runOne_177 rfl rfl ⟨by decide, by decide⟩ ⟨by decide, by decide, by decide, by decide⟩ (Nat.le_of_ble_eq_true rfl) ?_
      refine me_goto C (tgt := 207) dX10_runOne_180 (by decide) ?_
      exact me_vret C N dX10_runOne_207 (by cases hf; rfl) (by decide) (by decide)
    replace hf := me_in c14 hf
    by_cases c17 : x4 = (108 : Int32)
    · refine me_tab C (95) (tgt := 133) dX10_runOne_38 (by rw [c17]; decide +kernel) (by decide) ?_
      replace hf := me_ip c17 hf
      refine me_aload_n C 2 (Or.inr (Or.inl ⟨_, rfl⟩)) dX10_runOne_133 rfl rfl ?_
      refine me_iload C dX10_runOne_134 rfl ?_
      obtain ⟨μ19, r18, h_r18, hf⟩ := me_bs2 hf
      refine me_callV0 C N  (As := [me_i x6]) (st := []) 0 0 (c_Core_load hB h_r18) mv_Core_load ml_Works_59 rfl rfl dX10_runOne_136 rfl rfl ⟨by decide, by decide⟩ ⟨by decide, by decide, by decide, by decide⟩ (Nat.le_of_ble_eq_true rfl) ?_
      refine me_goto C (tgt := 207) dX10_runOne_139 (by decide) ?_
      exact me_vret C N dX10_runOne_207 (by cases hf; rfl) (by decide) (by decide)
    replace hf := me_in c17 hf
    by_cases c20 : x4 = (112 : Int32)
    · refine me_tab C (86) (tgt := 124) dX10_runOne_38 (by rw [c20]; decide +kernel) (by decide) ?_
      replace hf := me_ip c20 hf
      refine me_aload_n C 2 (Or.inr (Or.inl ⟨_, rfl⟩)) dX10_runOne_124 rfl rfl ?_
      refine me_iload C dX10_runOne_125 rfl ?_
      obtain ⟨μ22, r21, h_r21, hf⟩ := me_bs2 hf
      refine me_callV0 C N  (As := [me_i x6]) (st := []) 0 0 (c_Core_pushAndGoOn hB h_r21) mv_Core_pushAndGoOn ml_Works_55 rfl rfl dX10_runOne_127 rfl rfl ⟨by decide, by decide⟩ ⟨by decide, by decide, by decide, by decide⟩ (Nat.le_of_ble_eq_true rfl) ?_
      refine me_goto C (tgt := 207) dX10_runOne_130 (by decide) ?_
      exact me_vret C N dX10_runOne_207 (by cases hf; rfl) (by decide) (by decide)
    replace hf := me_in c20 hf
    by_cases c23 : x4 = (114 : Int32)
    · refine me_tab C (125) (tgt := 163) dX10_runOne_38 (by rw [c23]; decide +kernel) (by decide) ?_
      replace hf := me_ip c23 hf
      refine me_aload_n C 0 (Or.inr (Or.inl ⟨_, rfl⟩)) dX10_runOne_163 rfl rfl ?_
      refine me_iload_n C 1 dX10_runOne_164 rfl rfl ?_
      refine me_aload_n C 2 (Or.inr (Or.inl ⟨_, rfl⟩)) dX10_runOne_165 rfl rfl ?_
      refine me_iload C dX10_runOne_166 rfl ?_
      obtain ⟨μ25, r24, h_r24, hf⟩ := me_bs2 hf
      refine me_callV0 C N  (As := [me_i v1, me_r 22 v2, me_i x6]) (st := []) 0 0 (c_Works_receiveWord hB h_r24) mv_Works_receiveWord ml_Works_69 rfl rfl dX10_runOne_168 rfl rfl ⟨by decide, by decide⟩ ⟨by decide, by decide, by decide, by decide⟩ (Nat.le_of_ble_eq_true rfl) ?_
      refine me_goto C (tgt := 207) dX10_runOne_171 (by decide) ?_
      exact me_vret C N dX10_runOne_207 (by cases hf; rfl) (by decide) (by decide)
    replace hf := me_in c23 hf
    by_cases c26 : x4 = (115 : Int32)
    · refine me_tab C (104) (tgt := 142) dX10_runOne_38 (by rw [c26]; decide +kernel) (by decide) ?_
      replace hf := me_ip c26 hf
      refine me_aload_n C 2 (Or.inr (Or.inl ⟨_, rfl⟩)) dX10_runOne_142 rfl rfl ?_
      refine me_iload C dX10_runOne_143 rfl ?_
      obtain ⟨μ28, r27, h_r27, hf⟩ := me_bs2 hf
      refine me_callV0 C N  (As := [me_i x6]) (st := []) 0 0 (c_Core_store hB h_r27) mv_Core_store ml_Works_62 rfl rfl dX10_runOne_145 rfl rfl ⟨by decide, by decide⟩ ⟨by decide, by decide, by decide, by decide⟩ (Nat.le_of_ble_eq_true rfl) ?_
      refine me_goto C (tgt := 207) dX10_runOne_148 (by decide) ?_
      exact me_vret C N dX10_runOne_207 (by cases hf; rfl) (by decide) (by decide)
    replace hf := me_in c26 hf
    refine me_tabD C [98, 100, 104, 106, 108, 112, 114, 115] (tgt := 201) dX10_runOne_38 (by decide +kernel) ⟨c7, c9, c12, c14, c17, c20, c23, c26, trivial⟩ (by decide) ?_
    refine me_aload_n C 2 (Or.inr (Or.inl ⟨_, rfl⟩)) dX10_runOne_201 rfl rfl ?_
    refine me_iload C dX10_runOne_202 rfl ?_
    obtain ⟨μ30, r29, h_r29, hf⟩ := me_bs2 hf
    refine me_callV0 C N  (As := [me_i x4]) (st := []) 0 0 (c_Core_reckon hB h_r29) mv_Core_reckon ml_Works_79 rfl rfl dX10_runOne_204 rfl rfl ⟨by decide, by decide⟩ ⟨by decide, by decide, by decide, by decide⟩ (Nat.le_of_ble_eq_true rfl) ?_
    exact me_vret C N dX10_runOne_207 (by cases hf; rfl) (by decide) (by decide)
  · replace hf := me_ip c2 hf
    refine me_aload_n C 2 (Or.inr (Or.inl ⟨_, rfl⟩)) dX10_runOne_7 rfl rfl ?_
    refine me_bipush C (v := 106) dX10_runOne_8 (by decide) ?_
    obtain ⟨μ32, r31, h_r31, hf⟩ := me_bs2 hf
    refine me_callV0 C N  (As := [me_i (106 : Int32)]) (st := []) 0 0 (c_Core_stopBy hB h_r31) mv_Core_stopBy ml_Works_40 rfl rfl dX10_runOne_10 rfl rfl ⟨by decide, by decide⟩ ⟨by decide, by decide, by decide, by decide⟩ (Nat.le_of_ble_eq_true rfl) ?_
    exact me_vret C N dX10_runOne_13 (by cases hf; rfl) (by decide) (by decide)
theorem c_Works_runOne {B : me_B} (hB : me_St B) {μ : me_M} {v1 : Int32} {v2 : Nat} {v3 : Int32} {μ' : me_M} {r : Unit}  (hf : f_Works_runOne μ v1 v2 v3 = some (μ', r)) : ∀ l E z, l.stackTraces = false → me_Met l yX10_runOne cX10_runOne 6 none 3 72 0 0 E B μ z [me_r 31 0, me_i v1, me_r 22 v2, me_i v3] (B, μ', .ok (none)) :=
  fun _ _ _ hl => me_ofZ hl (by decide +kernel) (Nat.le_of_ble_eq_true rfl) (fun _ C N hNx => z_Works_runOne C N hNx hB  hf)

def f_Works_runCores_b2 (K2 : me_M → Int32 → Int32 → Option (me_M × Unit)) (μ : me_M) (v1 : Int32) (v2 : Int32) : Option (me_M × Unit) :=
  if (μ 1 0 4) ≤ v2 then
  (some (μ, ()))
  else
  (me_gd (me_inb v2 16) (
  me_bd (f_Core_isActive μ (me_ix v2)) (fun r3 =>
  if r3 = 0 then
  (me_lt (me_inc v2 (1)) (fun x5 =>
  K2 μ v1 x5))
  else
  (me_gd (me_inb v2 16) (
  me_b2 (f_Works_runOne μ v2 (me_ix v2) v1) (fun μ8 r7 =>
  me_lt (me_inc v2 (1)) (fun x9 =>
  K2 μ8 v1 x9)))))))
set_option maxHeartbeats 4000000 in
set_option maxRecDepth 100000 in
theorem z_Works_runCores_b2 {X : me_X} {B : me_B} {sz : Nat} (C : me_C X B RX10 cX10_runCores 3 none) {μ : me_M} {v1 : Int32} {v2 : Int32}  {K2 : me_M → Int32 → Int32 → Option (me_M × Unit)} {r : me_M × Unit} (N : me_En X B sz (B, r.1, .ok (none)) 4 97 0 0) (hNx : me_Nx X) (hB : me_St B) (hK2 : ∀ (μ : me_M) (v1 : Int32) (v2 : Int32), K2 μ v1 v2 = some r → me_Z X B 0 0 μ 2 [(0, me_r 31 0), (1, me_i v1), (2, me_i v2)] [])  (hf : f_Works_runCores_b2 K2 μ v1 v2 = some r) : me_Z X B 0 0 μ 2 [(0, me_r 31 0), (1, me_i v1), (2, me_i v2)] [] := by
  unfold f_Works_runCores_b2 at hf
  refine me_iload_n C 2 dX10_runCores_2 rfl rfl ?_
  refine me_aload_n C 0 (Or.inr (Or.inl ⟨_, rfl⟩)) dX10_runCores_3 rfl rfl ?_
  refine me_getr C hB 0 (k' := 1) (i' := 0) fg_Works_7 dX10_runCores_4 rfl rfl ?_
  refine me_geti C 4 fg_Works_21 dX10_runCores_7 rfl ?_
  refine me_icmp_ge C (tgt := 43) dX10_runCores_10 (by decide) (fun c1 => ?_) (fun c1 => ?_)
  · replace hf := me_ip c1 hf
    exact me_vret C N dX10_runCores_43 (by cases hf; rfl) (by decide) (by decide)
  · replace hf := me_in c1 hf
    refine me_aload_n C 0 (Or.inr (Or.inl ⟨_, rfl⟩)) dX10_runCores_13 rfl rfl ?_
    refine me_getr C hB 2 (k' := 21) (i' := 0) fg_Works_17 dX10_runCores_14 rfl rfl ?_
    refine me_iload_n C 2 dX10_runCores_17 rfl rfl ?_
    obtain ⟨g2, hf⟩ := me_gs hf
    refine me_aald C hB (k' := 22) (i' := (me_ix v2)) rfl (fun _ => rfl) rfl g2 dX10_runCores_18 rfl ?_
    obtain ⟨r3, h_r3, hf⟩ := me_bs hf
    refine me_callV C N  (As := []) (st := []) 0 0 (c_Core_isActive hB h_r3) mv_Core_isActive ml_Works_27 rfl rfl dX10_runCores_19 rfl rfl ⟨by decide, by decide⟩ ⟨by decide, by decide, by decide, by decide⟩ (Nat.le_of_ble_eq_true rfl) ?_
    refine me_if_eq C (tgt := 37) dX10_runCores_22 (by decide) (fun c4 => ?_) (fun c4 => ?_)
    · replace hf := me_ip c4 hf
      obtain ⟨x5, e_x5, hf⟩ := me_lts hf
      refine me_iinc C (v := x5) (L' := [(2, me_i x5), (0, me_r 31 0), (1, me_i v1)]) dX10_runCores_37 rfl e_x5.symm (by decide) rfl ?_
      refine me_goto C (tgt := 2) dX10_runCores_40 (by decide) ?_
      refine me_dropI [(0, me_r 31 0), (1, me_i v1), (2, me_i x5)] [1, 2, 0] rfl ?_
      exact hK2 μ v1 x5 hf
    · replace hf := me_in c4 hf
      refine me_aload_n C 0 (Or.inr (Or.inl ⟨_, rfl⟩)) dX10_runCores_25 rfl rfl ?_
      refine me_iload_n C 2 dX10_runCores_26 rfl rfl ?_
      refine me_aload_n C 0 (Or.inr (Or.inl ⟨_, rfl⟩)) dX10_runCores_27 rfl rfl ?_
      refine me_getr C hB 2 (k' := 21) (i' := 0) fg_Works_17 dX10_runCores_28 rfl rfl ?_
      refine me_iload_n C 2 dX10_runCores_31 rfl rfl ?_
      obtain ⟨g6, hf⟩ := me_gs hf
      refine me_aald C hB (k' := 22) (i' := (me_ix v2)) rfl (fun _ => rfl) rfl g6 dX10_runCores_32 rfl ?_
      refine me_iload_n C 1 dX10_runCores_33 rfl rfl ?_
      obtain ⟨μ8, r7, h_r7, hf⟩ := me_bs2 hf
      refine me_callV0 C N  (As := [me_i v2, me_r 22 (me_ix v2), me_i v1]) (st := []) 0 0 (c_Works_runOne hB h_r7) mv_Works_runOne ml_Works_33 rfl rfl dX10_runCores_34 rfl rfl ⟨by decide, by decide⟩ ⟨by decide, by decide, by decide, by decide⟩ (Nat.le_of_ble_eq_true rfl) ?_
      obtain ⟨x9, e_x9, hf⟩ := me_lts hf
      refine me_iinc C (v := x9) (L' := [(2, me_i x9), (0, me_r 31 0), (1, me_i v1)]) dX10_runCores_37 rfl e_x9.symm (by decide) rfl ?_
      refine me_goto C (tgt := 2) dX10_runCores_40 (by decide) ?_
      refine me_dropI [(0, me_r 31 0), (1, me_i v1), (2, me_i x9)] [1, 2, 0] rfl ?_
      exact hK2 μ8 v1 x9 hf
def f_Works_runCores_h2  : Nat → me_M → Int32 → Int32 → Option (me_M × Unit)
  | 0, _, _, _ => none
  | n + 1, μ, v1, v2 => f_Works_runCores_b2 (f_Works_runCores_h2 n) μ v1 v2
set_option maxHeartbeats 4000000 in
set_option maxRecDepth 100000 in
theorem z_Works_runCores_h2 {X : me_X} {B : me_B} {sz : Nat} (C : me_C X B RX10 cX10_runCores 3 none)  {r : me_M × Unit} (N : me_En X B sz (B, r.1, .ok (none)) 4 97 0 0) (hNx : me_Nx X) (hB : me_St B)  : ∀ (n : Nat) (μ : me_M) (v1 : Int32) (v2 : Int32), f_Works_runCores_h2 n μ v1 v2 = some r → me_Z X B 0 0 μ 2 [(0, me_r 31 0), (1, me_i v1), (2, me_i v2)] [] := by
  intro n
  induction n with
  | zero => intro μ v1 v2  h; exact absurd (show (none : Option (me_M × Unit)) = some r from h) (fun q => by cases q)
  | succ n ih => intro μ v1 v2  h; exact z_Works_runCores_b2 C N hNx hB  (K2 := f_Works_runCores_h2 n) ih  h
def f_Works_runCores (μ : me_M) (v1 : Int32) : Option (me_M × Unit) :=
  f_Works_runCores_h2 me_FU μ v1 (0 : Int32)
set_option maxHeartbeats 4000000 in
set_option maxRecDepth 100000 in
theorem z_Works_runCores {X : me_X} {B : me_B} {sz : Nat} (C : me_C X B RX10 cX10_runCores 3 none) {μ : me_M} {v1 : Int32}   {r : me_M × Unit} (N : me_En X B sz (B, r.1, .ok (none)) 4 97 0 0) (hNx : me_Nx X) (hB : me_St B)   (hf : f_Works_runCores μ v1 = some r) : me_Z X B 0 0 μ 0 [(0, me_r 31 0), (1, me_i v1)] [] := by
  unfold f_Works_runCores at hf
  refine me_iconst C (v := 0) dX10_runCores_0 (by decide) ?_
  refine me_istore_n C 2 dX10_runCores_1 rfl (by decide) (L' := [(2, me_i (0 : Int32)), (0, me_r 31 0), (1, me_i v1)]) rfl ?_
  refine me_dropI [(0, me_r 31 0), (1, me_i v1), (2, me_i (0 : Int32))] [1, 2, 0] rfl ?_
  exact z_Works_runCores_h2 C N hNx hB me_FU μ v1 (0 : Int32) hf
theorem c_Works_runCores {B : me_B} (hB : me_St B) {μ : me_M} {v1 : Int32} {μ' : me_M} {r : Unit}  (hf : f_Works_runCores μ v1 = some (μ', r)) : ∀ l E z, l.stackTraces = false → me_Met l yX10_runCores cX10_runCores 3 none 4 97 0 0 E B μ z [me_r 31 0, me_i v1] (B, μ', .ok (none)) :=
  fun _ _ _ hl => me_ofZ hl (by decide +kernel) (Nat.le_of_ble_eq_true rfl) (fun _ C N hNx => z_Works_runCores C N hNx hB  hf)

def f_Works_passBarrier_b34 (K34 : me_M → Int32 → Option (me_M × Unit)) (μ : me_M) (v1 : Int32) : Option (me_M × Unit) :=
  if (μ 1 0 4) ≤ v1 then
  (some (μ, ()))
  else
  (me_gd (me_inb v1 16) (
  if (μ 22 (me_ix v1) 7) = (98 : Int32) then
  (me_lt (me_up μ 22 (me_ix v1) 7 (114 : Int32)) (fun μ5 =>
  me_lt (me_up μ5 22 (me_ix v1) 6 ((μ5 22 (me_ix v1) 6) + (1 : Int32))) (fun μ6 =>
  me_lt (me_inc v1 (1)) (fun x7 =>
  K34 μ6 x7))))
  else
  (me_lt (me_inc v1 (1)) (fun x4 =>
  K34 μ x4))))
set_option maxHeartbeats 4000000 in
set_option maxRecDepth 100000 in
theorem z_Works_passBarrier_b34 {X : me_X} {B : me_B} {sz : Nat} (C : me_C X B RX10 cX10_passBarrier 3 none) {μ : me_M} {v1 : Int32}  {K34 : me_M → Int32 → Option (me_M × Unit)} {r : me_M × Unit} (N : me_En X B sz (B, r.1, .ok (none)) 1 20 0 0) (hNx : me_Nx X) (hB : me_St B) (hK34 : ∀ (μ : me_M) (v1 : Int32), K34 μ v1 = some r → me_Z X B 0 0 μ 34 [(0, me_r 31 0), (1, me_i v1)] [])  (hf : f_Works_passBarrier_b34 K34 μ v1 = some r) : me_Z X B 0 0 μ 34 [(0, me_r 31 0), (1, me_i v1)] [] := by
  unfold f_Works_passBarrier_b34 at hf
  refine me_iload_n C 1 dX10_passBarrier_34 rfl rfl ?_
  refine me_aload_n C 0 (Or.inr (Or.inl ⟨_, rfl⟩)) dX10_passBarrier_35 rfl rfl ?_
  refine me_getr C hB 0 (k' := 1) (i' := 0) fg_Works_7 dX10_passBarrier_36 rfl rfl ?_
  refine me_geti C 4 fg_Works_21 dX10_passBarrier_39 rfl ?_
  refine me_icmp_ge C (tgt := 83) dX10_passBarrier_42 (by decide) (fun c1 => ?_) (fun c1 => ?_)
  · replace hf := me_ip c1 hf
    exact me_vret C N dX10_passBarrier_83 (by cases hf; rfl) (by decide) (by decide)
  · replace hf := me_in c1 hf
    refine me_aload_n C 0 (Or.inr (Or.inl ⟨_, rfl⟩)) dX10_passBarrier_45 rfl rfl ?_
    refine me_getr C hB 2 (k' := 21) (i' := 0) fg_Works_17 dX10_passBarrier_46 rfl rfl ?_
    refine me_iload_n C 1 dX10_passBarrier_49 rfl rfl ?_
    obtain ⟨g2, hf⟩ := me_gs hf
    refine me_aald C hB (k' := 22) (i' := (me_ix v1)) rfl (fun _ => rfl) rfl g2 dX10_passBarrier_50 rfl ?_
    refine me_astore_n C 2 (Or.inr (Or.inl ⟨_, rfl⟩)) dX10_passBarrier_51 rfl (by decide) (L' := [(2, me_r 22 (me_ix v1)), (0, me_r 31 0), (1, me_i v1)]) rfl ?_
    refine me_aload_n C 2 (Or.inr (Or.inl ⟨_, rfl⟩)) dX10_passBarrier_52 rfl rfl ?_
    refine me_geti C 7 fg_Works_75 dX10_passBarrier_53 rfl ?_
    refine me_bipush C (v := 98) dX10_passBarrier_56 (by decide) ?_
    refine me_icmp_ne C (tgt := 77) dX10_passBarrier_58 (by decide) (fun c3 => ?_) (fun c3 => ?_)
    · replace hf := me_in c3 hf
      obtain ⟨x4, e_x4, hf⟩ := me_lts hf
      refine me_iinc C (v := x4) (L' := [(1, me_i x4), (2, me_r 22 (me_ix v1)), (0, me_r 31 0)]) dX10_passBarrier_77 rfl e_x4.symm (by decide) rfl ?_
      refine me_goto C (tgt := 34) dX10_passBarrier_80 (by decide) ?_
      refine me_dropI [(0, me_r 31 0), (1, me_i x4)] [2, 0] rfl ?_
      exact hK34 μ x4 hf
    · replace hf := me_ip c3 hf
      refine me_aload_n C 2 (Or.inr (Or.inl ⟨_, rfl⟩)) dX10_passBarrier_61 rfl rfl ?_
      refine me_bipush C (v := 114) dX10_passBarrier_62 (by decide) ?_
      obtain ⟨μ5, e_μ5, hf⟩ := me_lts hf
      refine me_puti C 7 fw_Works_75 dX10_passBarrier_64 rfl (by decide +kernel) e_μ5 ?_
      refine me_aload_n C 2 (Or.inr (Or.inl ⟨_, rfl⟩)) dX10_passBarrier_67 rfl rfl ?_
      refine me_dup C rfl dX10_passBarrier_68 ?_
      refine me_geti C 6 fg_Works_48 dX10_passBarrier_69 rfl ?_
      refine me_iconst C (v := 1) dX10_passBarrier_72 (by decide) ?_
      refine me_iadd C dX10_passBarrier_73 ?_
      obtain ⟨μ6, e_μ6, hf⟩ := me_lts hf
      refine me_puti C 6 fw_Works_48 dX10_passBarrier_74 rfl (me_nri _) e_μ6 ?_
      obtain ⟨x7, e_x7, hf⟩ := me_lts hf
      refine me_iinc C (v := x7) (L' := [(1, me_i x7), (2, me_r 22 (me_ix v1)), (0, me_r 31 0)]) dX10_passBarrier_77 rfl e_x7.symm (by decide) rfl ?_
      refine me_goto C (tgt := 34) dX10_passBarrier_80 (by decide) ?_
      refine me_dropI [(0, me_r 31 0), (1, me_i x7)] [2, 0] rfl ?_
      exact hK34 μ6 x7 hf
def f_Works_passBarrier_h34  : Nat → me_M → Int32 → Option (me_M × Unit)
  | 0, _, _ => none
  | n + 1, μ, v1 => f_Works_passBarrier_b34 (f_Works_passBarrier_h34 n) μ v1
set_option maxHeartbeats 4000000 in
set_option maxRecDepth 100000 in
theorem z_Works_passBarrier_h34 {X : me_X} {B : me_B} {sz : Nat} (C : me_C X B RX10 cX10_passBarrier 3 none)  {r : me_M × Unit} (N : me_En X B sz (B, r.1, .ok (none)) 1 20 0 0) (hNx : me_Nx X) (hB : me_St B)  : ∀ (n : Nat) (μ : me_M) (v1 : Int32), f_Works_passBarrier_h34 n μ v1 = some r → me_Z X B 0 0 μ 34 [(0, me_r 31 0), (1, me_i v1)] [] := by
  intro n
  induction n with
  | zero => intro μ v1  h; exact absurd (show (none : Option (me_M × Unit)) = some r from h) (fun q => by cases q)
  | succ n ih => intro μ v1  h; exact z_Works_passBarrier_b34 C N hNx hB  (K34 := f_Works_passBarrier_h34 n) ih  h
def f_Works_passBarrier_b2 (K2 : me_M → Int32 → Option (me_M × Unit)) (μ : me_M) (v1 : Int32) : Option (me_M × Unit) :=
  if (μ 1 0 4) ≤ v1 then
  (f_Works_passBarrier_h34 me_FU μ (0 : Int32))
  else
  (me_gd (me_inb v1 16) (
  me_bd (f_Core_isActive μ (me_ix v1)) (fun r3 =>
  if r3 = 0 then
  (me_lt (me_inc v1 (1)) (fun x5 =>
  K2 μ x5))
  else
  (some (μ, ())))))
set_option maxHeartbeats 4000000 in
set_option maxRecDepth 100000 in
theorem z_Works_passBarrier_b2 {X : me_X} {B : me_B} {sz : Nat} (C : me_C X B RX10 cX10_passBarrier 3 none) {μ : me_M} {v1 : Int32}  {K2 : me_M → Int32 → Option (me_M × Unit)} {r : me_M × Unit} (N : me_En X B sz (B, r.1, .ok (none)) 1 20 0 0) (hNx : me_Nx X) (hB : me_St B) (hK2 : ∀ (μ : me_M) (v1 : Int32), K2 μ v1 = some r → me_Z X B 0 0 μ 2 [(0, me_r 31 0), (1, me_i v1)] [])  (hf : f_Works_passBarrier_b2 K2 μ v1 = some r) : me_Z X B 0 0 μ 2 [(0, me_r 31 0), (1, me_i v1)] [] := by
  unfold f_Works_passBarrier_b2 at hf
  refine me_iload_n C 1 dX10_passBarrier_2 rfl rfl ?_
  refine me_aload_n C 0 (Or.inr (Or.inl ⟨_, rfl⟩)) dX10_passBarrier_3 rfl rfl ?_
  refine me_getr C hB 0 (k' := 1) (i' := 0) fg_Works_7 dX10_passBarrier_4 rfl rfl ?_
  refine me_geti C 4 fg_Works_21 dX10_passBarrier_7 rfl ?_
  refine me_icmp_ge C (tgt := 32) dX10_passBarrier_10 (by decide) (fun c1 => ?_) (fun c1 => ?_)
  · replace hf := me_ip c1 hf
    refine me_iconst C (v := 0) dX10_passBarrier_32 (by decide) ?_
    refine me_istore_n C 1 dX10_passBarrier_33 rfl (by decide) (L' := [(1, me_i (0 : Int32)), (0, me_r 31 0)]) rfl ?_
    refine me_dropI [(0, me_r 31 0), (1, me_i (0 : Int32))] [1, 0] rfl ?_
    exact z_Works_passBarrier_h34 C N hNx hB me_FU μ (0 : Int32) hf
  · replace hf := me_in c1 hf
    refine me_aload_n C 0 (Or.inr (Or.inl ⟨_, rfl⟩)) dX10_passBarrier_13 rfl rfl ?_
    refine me_getr C hB 2 (k' := 21) (i' := 0) fg_Works_17 dX10_passBarrier_14 rfl rfl ?_
    refine me_iload_n C 1 dX10_passBarrier_17 rfl rfl ?_
    obtain ⟨g2, hf⟩ := me_gs hf
    refine me_aald C hB (k' := 22) (i' := (me_ix v1)) rfl (fun _ => rfl) rfl g2 dX10_passBarrier_18 rfl ?_
    obtain ⟨r3, h_r3, hf⟩ := me_bs hf
    refine me_callV C N  (As := []) (st := []) 0 0 (c_Core_isActive hB h_r3) mv_Core_isActive ml_Works_27 rfl rfl dX10_passBarrier_19 rfl rfl ⟨by decide, by decide⟩ ⟨by decide, by decide, by decide, by decide⟩ (Nat.le_of_ble_eq_true rfl) ?_
    refine me_if_eq C (tgt := 26) dX10_passBarrier_22 (by decide) (fun c4 => ?_) (fun c4 => ?_)
    · replace hf := me_ip c4 hf
      obtain ⟨x5, e_x5, hf⟩ := me_lts hf
      refine me_iinc C (v := x5) (L' := [(1, me_i x5), (0, me_r 31 0)]) dX10_passBarrier_26 rfl e_x5.symm (by decide) rfl ?_
      refine me_goto C (tgt := 2) dX10_passBarrier_29 (by decide) ?_
      refine me_dropI [(0, me_r 31 0), (1, me_i x5)] [1, 0] rfl ?_
      exact hK2 μ x5 hf
    · replace hf := me_in c4 hf
      exact me_vret C N dX10_passBarrier_25 (by cases hf; rfl) (by decide) (by decide)
def f_Works_passBarrier_h2  : Nat → me_M → Int32 → Option (me_M × Unit)
  | 0, _, _ => none
  | n + 1, μ, v1 => f_Works_passBarrier_b2 (f_Works_passBarrier_h2 n) μ v1
set_option maxHeartbeats 4000000 in
set_option maxRecDepth 100000 in
theorem z_Works_passBarrier_h2 {X : me_X} {B : me_B} {sz : Nat} (C : me_C X B RX10 cX10_passBarrier 3 none)  {r : me_M × Unit} (N : me_En X B sz (B, r.1, .ok (none)) 1 20 0 0) (hNx : me_Nx X) (hB : me_St B)  : ∀ (n : Nat) (μ : me_M) (v1 : Int32), f_Works_passBarrier_h2 n μ v1 = some r → me_Z X B 0 0 μ 2 [(0, me_r 31 0), (1, me_i v1)] [] := by
  intro n
  induction n with
  | zero => intro μ v1  h; exact absurd (show (none : Option (me_M × Unit)) = some r from h) (fun q => by cases q)
  | succ n ih => intro μ v1  h; exact z_Works_passBarrier_b2 C N hNx hB  (K2 := f_Works_passBarrier_h2 n) ih  h
def f_Works_passBarrier (μ : me_M) : Option (me_M × Unit) :=
  f_Works_passBarrier_h2 me_FU μ (0 : Int32)
set_option maxHeartbeats 4000000 in
set_option maxRecDepth 100000 in
theorem z_Works_passBarrier {X : me_X} {B : me_B} {sz : Nat} (C : me_C X B RX10 cX10_passBarrier 3 none) {μ : me_M}    {r : me_M × Unit} (N : me_En X B sz (B, r.1, .ok (none)) 1 20 0 0) (hNx : me_Nx X) (hB : me_St B)   (hf : f_Works_passBarrier μ = some r) : me_Z X B 0 0 μ 0 [(0, me_r 31 0)] [] := by
  unfold f_Works_passBarrier at hf
  refine me_iconst C (v := 0) dX10_passBarrier_0 (by decide) ?_
  refine me_istore_n C 1 dX10_passBarrier_1 rfl (by decide) (L' := [(1, me_i (0 : Int32)), (0, me_r 31 0)]) rfl ?_
  refine me_dropI [(0, me_r 31 0), (1, me_i (0 : Int32))] [1, 0] rfl ?_
  exact z_Works_passBarrier_h2 C N hNx hB me_FU μ (0 : Int32) hf
theorem c_Works_passBarrier {B : me_B} (hB : me_St B) {μ : me_M}  {μ' : me_M} {r : Unit}  (hf : f_Works_passBarrier μ = some (μ', r)) : ∀ l E z, l.stackTraces = false → me_Met l yX10_passBarrier cX10_passBarrier 3 none 1 20 0 0 E B μ z [me_r 31 0] (B, μ', .ok (none)) :=
  fun _ _ _ hl => me_ofZ hl (by decide +kernel) (Nat.le_of_ble_eq_true rfl) (fun _ C N hNx => z_Works_passBarrier C N hNx hB  hf)

def f_Y_needNode (μ : me_M) (v1 : Int32) : Option (Except Nat Unit) :=
  me_bd (f_Net_hasNode μ v1) (fun r1 =>
  if r1 = 0 then
  (some (.error 1))
  else
  (some (.ok ())))
set_option maxHeartbeats 4000000 in
set_option maxRecDepth 100000 in
theorem z_Y_needNode {X : me_X} {B : me_B} {sz : Nat} (C : me_C X B RX11 cX11_needNode 2 none) {μ : me_M} {v1 : Int32}   {r : Except Nat Unit} (N : me_En X B sz (B, μ, me_xc (fun _ => none) r) 6 90 1 6) (hNx : me_Nx X) (hB : me_St B)   (hf : f_Y_needNode μ v1 = some r) : me_Z X B 0 0 μ 0 [(0, me_r 0 0), (1, me_i v1)] [] := by
  unfold f_Y_needNode at hf
  refine me_aload_n C 0 (Or.inr (Or.inl ⟨_, rfl⟩)) dX11_needNode_0 rfl rfl ?_
  refine me_getr C hB 0 (k' := 1) (i' := 0) fg_Y_10 dX11_needNode_1 rfl rfl ?_
  refine me_iload_n C 1 dX11_needNode_4 rfl rfl ?_
  obtain ⟨r1, h_r1, hf⟩ := me_bs hf
  refine me_callV C N  (As := [me_i v1]) (st := []) 0 0 (c_Net_hasNode hB h_r1) mv_Net_hasNode ml_Y_419 rfl rfl dX11_needNode_5 rfl rfl ⟨by decide, by decide⟩ ⟨by decide, by decide, by decide, by decide⟩ (Nat.le_of_ble_eq_true rfl) ?_
  refine me_if_ne C (tgt := 22) dX11_needNode_8 (by decide) (fun c2 => ?_) (fun c2 => ?_)
  · replace hf := me_in c2 hf
    exact me_vret C N dX11_needNode_22 (by cases hf; rfl) (by decide) (by decide)
  · replace hf := me_ip c2 hf
    exact me_throwW C N hNx 1 cl_Y_423 ie_1 sr_Y_425 tw_Y_427 ft_1 dX11_needNode_11 dX11_needNode_14 dX11_needNode_15 dX11_needNode_18 dX11_needNode_21 ⟨by decide, by decide⟩ (Nat.le_of_ble_eq_true rfl) ⟨by decide, by decide⟩ (by cases hf; rfl)
theorem c_Y_needNode {B : me_B} (hB : me_St B) {μ : me_M} {v1 : Int32} {r : Except Nat Unit}  (hf : f_Y_needNode μ v1 = some r) : ∀ l E z, l.stackTraces = false → me_Met l yX11_needNode cX11_needNode 2 none 6 90 1 6 E B μ z [me_r 0 0, me_i v1] (B, μ, me_xc (fun _ => none) r) :=
  fun _ _ _ hl => me_ofZ hl (by decide +kernel) (Nat.le_of_ble_eq_true rfl) (fun _ C N hNx => z_Y_needNode C N hNx hB  hf)

def f_Y_needNodes (μ : me_M) (v1 : Int32) (v2 : Int32) : Option (Except Nat Unit) :=
  me_bd (f_Y_needNode μ v1) (fun r1 =>
  me_xb r1 (fun r1 =>
  me_bd (f_Y_needNode μ v2) (fun r2 =>
  me_xb r2 (fun r2 =>
  some (.ok ())))))
set_option maxHeartbeats 4000000 in
set_option maxRecDepth 100000 in
theorem z_Y_needNodes {X : me_X} {B : me_B} {sz : Nat} (C : me_C X B RX11 cX11_needNodes 3 none) {μ : me_M} {v1 : Int32} {v2 : Int32}   {r : Except Nat Unit} (N : me_En X B sz (B, μ, me_xc (fun _ => none) r) 7 111 2 12) (hNx : me_Nx X) (hB : me_St B)   (hf : f_Y_needNodes μ v1 v2 = some r) : me_Z X B 0 0 μ 0 [(0, me_r 0 0), (1, me_i v1), (2, me_i v2)] [] := by
  unfold f_Y_needNodes at hf
  refine me_aload_n C 0 (Or.inr (Or.inl ⟨_, rfl⟩)) dX11_needNodes_0 rfl rfl ?_
  refine me_iload_n C 1 dX11_needNodes_1 rfl rfl ?_
  obtain ⟨r1, h_r1, hf⟩ := me_bs hf
  rcases r1 with r1 | r1
  · replace hf := me_xbe hf
    refine me_callVE C N  (As := [me_i v1]) (st := []) 1 6 (c_Y_needNode hB h_r1) mv_Y_needNode ml_Y_103 rfl rfl dX11_needNodes_2 rfl rfl ⟨by decide, by decide⟩ ⟨by decide, by decide, by decide, by decide⟩ (Nat.le_of_ble_eq_true rfl) ?_
    exact me_outX C N hNx (by cases hf; rfl) (by decide) (by decide)
  replace hf := me_xbo hf
  refine me_callV0 C N  (As := [me_i v1]) (st := []) 1 6 (c_Y_needNode hB h_r1) mv_Y_needNode ml_Y_103 rfl rfl dX11_needNodes_2 rfl rfl ⟨by decide, by decide⟩ ⟨by decide, by decide, by decide, by decide⟩ (Nat.le_of_ble_eq_true rfl) ?_
  refine me_aload_n C 0 (Or.inr (Or.inl ⟨_, rfl⟩)) dX11_needNodes_5 rfl rfl ?_
  refine me_iload_n C 2 dX11_needNodes_6 rfl rfl ?_
  obtain ⟨r2, h_r2, hf⟩ := me_bs hf
  rcases r2 with r2 | r2
  · replace hf := me_xbe hf
    refine me_callVE C N  (As := [me_i v2]) (st := []) 2 12 (c_Y_needNode hB h_r2) mv_Y_needNode ml_Y_103 rfl rfl dX11_needNodes_7 rfl rfl ⟨by decide, by decide⟩ ⟨by decide, by decide, by decide, by decide⟩ (Nat.le_of_ble_eq_true rfl) ?_
    exact me_outX C N hNx (by cases hf; rfl) (by decide) (by decide)
  replace hf := me_xbo hf
  refine me_callV0 C N  (As := [me_i v2]) (st := []) 2 12 (c_Y_needNode hB h_r2) mv_Y_needNode ml_Y_103 rfl rfl dX11_needNodes_7 rfl rfl ⟨by decide, by decide⟩ ⟨by decide, by decide, by decide, by decide⟩ (Nat.le_of_ble_eq_true rfl) ?_
  exact me_vret C N dX11_needNodes_10 (by cases hf; rfl) (by decide) (by decide)
theorem c_Y_needNodes {B : me_B} (hB : me_St B) {μ : me_M} {v1 : Int32} {v2 : Int32} {r : Except Nat Unit}  (hf : f_Y_needNodes μ v1 v2 = some r) : ∀ l E z, l.stackTraces = false → me_Met l yX11_needNodes cX11_needNodes 3 none 7 111 2 12 E B μ z [me_r 0 0, me_i v1, me_i v2] (B, μ, me_xc (fun _ => none) r) :=
  fun _ _ _ hl => me_ofZ hl (by decide +kernel) (Nat.le_of_ble_eq_true rfl) (fun _ C N hNx => z_Y_needNodes C N hNx hB  hf)

def f_Y_needRange_b10 (μ : me_M) : Option (Except Nat Unit) :=
  some (.error 2)
set_option maxHeartbeats 4000000 in
set_option maxRecDepth 100000 in
theorem z_Y_needRange_b10 {X : me_X} {B : me_B} {sz : Nat} (C : me_C X B RX11 cX11_needRange 4 none) {μ : me_M}    {r : Except Nat Unit} (N : me_En X B sz (B, μ, me_xc (fun _ => none) r) 6 90 1 6) (hNx : me_Nx X) (hB : me_St B)   (hf : f_Y_needRange_b10 μ = some r) : me_Z X B 0 0 μ 10 [] [] := by
  unfold f_Y_needRange_b10 at hf
  exact me_throwW C N hNx 2 cl_Y_109 ie_2 sr_Y_432 tw_Y_113 ft_2 dX11_needRange_10 dX11_needRange_13 dX11_needRange_14 dX11_needRange_17 dX11_needRange_20 ⟨by decide, by decide⟩ (Nat.le_of_ble_eq_true rfl) ⟨by decide, by decide⟩ (by cases hf; rfl)
def f_Y_needRange (μ : me_M) (v1 : Int32) (v2 : Int32) (v3 : Int32) : Option (Except Nat Unit) :=
  if v1 < v2 then
  (f_Y_needRange_b10 μ)
  else
  (if v1 ≤ v3 then
  (some (.ok ()))
  else
  (f_Y_needRange_b10 μ))
set_option maxHeartbeats 4000000 in
set_option maxRecDepth 100000 in
theorem z_Y_needRange {X : me_X} {B : me_B} {sz : Nat} (C : me_C X B RX11 cX11_needRange 4 none) {μ : me_M} {v1 : Int32} {v2 : Int32} {v3 : Int32}   {r : Except Nat Unit} (N : me_En X B sz (B, μ, me_xc (fun _ => none) r) 6 90 1 6) (hNx : me_Nx X) (hB : me_St B)   (hf : f_Y_needRange μ v1 v2 v3 = some r) : me_Z X B 0 0 μ 0 [(0, me_r 0 0), (1, me_i v1), (2, me_i v2), (3, me_i v3)] [] := by
  unfold f_Y_needRange at hf
  refine me_iload_n C 1 dX11_needRange_0 rfl rfl ?_
  refine me_iload_n C 2 dX11_needRange_1 rfl rfl ?_
  refine me_icmp_lt C (tgt := 10) dX11_needRange_2 (by decide) (fun c1 => ?_) (fun c1 => ?_)
  · replace hf := me_ip c1 hf
    refine me_dropI [] [] rfl ?_
    exact z_Y_needRange_b10 C N hNx hB hf
  · replace hf := me_in c1 hf
    refine me_iload_n C 1 dX11_needRange_5 rfl rfl ?_
    refine me_iload_n C 3 dX11_needRange_6 rfl rfl ?_
    refine me_icmp_le C (tgt := 21) dX11_needRange_7 (by decide) (fun c2 => ?_) (fun c2 => ?_)
    · replace hf := me_ip c2 hf
      exact me_vret C N dX11_needRange_21 (by cases hf; rfl) (by decide) (by decide)
    · replace hf := me_in c2 hf
      refine me_dropI [] [] rfl ?_
      exact z_Y_needRange_b10 C N hNx hB hf
theorem c_Y_needRange {B : me_B} (hB : me_St B) {μ : me_M} {v1 : Int32} {v2 : Int32} {v3 : Int32} {r : Except Nat Unit}  (hf : f_Y_needRange μ v1 v2 v3 = some r) : ∀ l E z, l.stackTraces = false → me_Met l yX11_needRange cX11_needRange 4 none 6 90 1 6 E B μ z [me_r 0 0, me_i v1, me_i v2, me_i v3] (B, μ, me_xc (fun _ => none) r) :=
  fun _ _ _ hl => me_ofZ hl (by decide +kernel) (Nat.le_of_ble_eq_true rfl) (fun _ C N hNx => z_Y_needRange C N hNx hB  hf)

def f_Y_needRoom (μ : me_M) (v1 : Int32) : Option (Except Nat Unit) :=
  me_bd (f_Post_hasRoom μ v1) (fun r1 =>
  if r1 = 0 then
  (some (.error 3))
  else
  (some (.ok ())))
set_option maxHeartbeats 4000000 in
set_option maxRecDepth 100000 in
theorem z_Y_needRoom {X : me_X} {B : me_B} {sz : Nat} (C : me_C X B RX11 cX11_needRoom 2 none) {μ : me_M} {v1 : Int32}   {r : Except Nat Unit} (N : me_En X B sz (B, μ, me_xc (fun _ => none) r) 6 90 1 6) (hNx : me_Nx X) (hB : me_St B)   (hf : f_Y_needRoom μ v1 = some r) : me_Z X B 0 0 μ 0 [(0, me_r 0 0), (1, me_i v1)] [] := by
  unfold f_Y_needRoom at hf
  refine me_aload_n C 0 (Or.inr (Or.inl ⟨_, rfl⟩)) dX11_needRoom_0 rfl rfl ?_
  refine me_getr C hB 1 (k' := 6) (i' := 0) fg_Y_19 dX11_needRoom_1 rfl rfl ?_
  refine me_iload_n C 1 dX11_needRoom_4 rfl rfl ?_
  obtain ⟨r1, h_r1, hf⟩ := me_bs hf
  refine me_callV C N  (As := [me_i v1]) (st := []) 0 0 (c_Post_hasRoom hB h_r1) mv_Post_hasRoom ml_Y_434 rfl rfl dX11_needRoom_5 rfl rfl ⟨by decide, by decide⟩ ⟨by decide, by decide, by decide, by decide⟩ (Nat.le_of_ble_eq_true rfl) ?_
  refine me_if_ne C (tgt := 22) dX11_needRoom_8 (by decide) (fun c2 => ?_) (fun c2 => ?_)
  · replace hf := me_in c2 hf
    exact me_vret C N dX11_needRoom_22 (by cases hf; rfl) (by decide) (by decide)
  · replace hf := me_ip c2 hf
    exact me_throwW C N hNx 3 cl_Y_303 ie_3 sr_Y_437 tw_Y_307 ft_3 dX11_needRoom_11 dX11_needRoom_14 dX11_needRoom_15 dX11_needRoom_18 dX11_needRoom_21 ⟨by decide, by decide⟩ (Nat.le_of_ble_eq_true rfl) ⟨by decide, by decide⟩ (by cases hf; rfl)
theorem c_Y_needRoom {B : me_B} (hB : me_St B) {μ : me_M} {v1 : Int32} {r : Except Nat Unit}  (hf : f_Y_needRoom μ v1 = some r) : ∀ l E z, l.stackTraces = false → me_Met l yX11_needRoom cX11_needRoom 2 none 6 90 1 6 E B μ z [me_r 0 0, me_i v1] (B, μ, me_xc (fun _ => none) r) :=
  fun _ _ _ hl => me_ofZ hl (by decide +kernel) (Nat.le_of_ble_eq_true rfl) (fun _ C N hNx => z_Y_needRoom C N hNx hB  hf)

def f_Y_send (μ : me_M) (v1 : Int32) (v2 : Int32) (v3 : Int32) (v4 : Int32) : Option (me_M × (Except Nat Int32)) :=
  me_bd (f_Y_needNodes μ v1 v2) (fun r1 =>
  me_xb2 r1 μ (fun r1 =>
  me_bd (f_Y_needRange μ v4 (1 : Int32) (4 : Int32)) (fun r2 =>
  me_xb2 r2 μ (fun r2 =>
  me_bd (f_Y_needRoom μ (1 : Int32)) (fun r3 =>
  me_xb2 r3 μ (fun r3 =>
  me_b2 (f_Post_make μ (109 : Int32) v1 v2 v3 v4 (μ 30 0 5)) (fun μ5 r4 =>
  some (μ5, .ok r4))))))))
set_option maxHeartbeats 4000000 in
set_option maxRecDepth 100000 in
theorem z_Y_send {X : me_X} {B : me_B} {sz : Nat} (C : me_C X B RX11 cX11_send 5 (some .int)) {μ : me_M} {v1 : Int32} {v2 : Int32} {v3 : Int32} {v4 : Int32}   {r : me_M × (Except Nat Int32)} (N : me_En X B sz (B, r.1, me_xc (fun v => some (me_i v)) r.2) 8 133 4 24) (hNx : me_Nx X) (hB : me_St B)   (hf : f_Y_send μ v1 v2 v3 v4 = some r) : me_Z X B 0 0 μ 0 [(0, me_r 0 0), (1, me_i v1), (2, me_i v2), (3, me_i v3), (4, me_i v4)] [] := by
  unfold f_Y_send at hf
  refine me_aload_n C 0 (Or.inr (Or.inl ⟨_, rfl⟩)) dX11_send_0 rfl rfl ?_
  refine me_iload_n C 1 dX11_send_1 rfl rfl ?_
  refine me_iload_n C 2 dX11_send_2 rfl rfl ?_
  obtain ⟨r1, h_r1, hf⟩ := me_bs hf
  rcases r1 with r1 | r1
  · replace hf := me_xb2e hf
    refine me_callVE C N  (As := [me_i v1, me_i v2]) (st := []) 2 12 (c_Y_needNodes hB h_r1) mv_Y_needNodes ml_Y_84 rfl rfl dX11_send_3 rfl rfl ⟨by decide, by decide⟩ ⟨by decide, by decide, by decide, by decide⟩ (Nat.le_of_ble_eq_true rfl) ?_
    exact me_outX C N hNx (by cases hf; rfl) (by decide) (by decide)
  replace hf := me_xb2o hf
  refine me_callV0 C N  (As := [me_i v1, me_i v2]) (st := []) 2 12 (c_Y_needNodes hB h_r1) mv_Y_needNodes ml_Y_84 rfl rfl dX11_send_3 rfl rfl ⟨by decide, by decide⟩ ⟨by decide, by decide, by decide, by decide⟩ (Nat.le_of_ble_eq_true rfl) ?_
  refine me_aload_n C 0 (Or.inr (Or.inl ⟨_, rfl⟩)) dX11_send_6 rfl rfl ?_
  refine me_iload C dX11_send_7 rfl ?_
  refine me_iconst C (v := 1) dX11_send_9 (by decide) ?_
  refine me_iconst C (v := 4) dX11_send_10 (by decide) ?_
  obtain ⟨r2, h_r2, hf⟩ := me_bs hf
  rcases r2 with r2 | r2
  · replace hf := me_xb2e hf
    refine me_callVE C N  (As := [me_i v4, me_i (1 : Int32), me_i (4 : Int32)]) (st := []) 3 18 (c_Y_needRange hB h_r2) mv_Y_needRange ml_Y_87 rfl rfl dX11_send_11 rfl rfl ⟨by decide, by decide⟩ ⟨by decide, by decide, by decide, by decide⟩ (Nat.le_of_ble_eq_true rfl) ?_
    exact me_outX C N hNx (by cases hf; rfl) (by decide) (by decide)
  replace hf := me_xb2o hf
  refine me_callV0 C N  (As := [me_i v4, me_i (1 : Int32), me_i (4 : Int32)]) (st := []) 3 18 (c_Y_needRange hB h_r2) mv_Y_needRange ml_Y_87 rfl rfl dX11_send_11 rfl rfl ⟨by decide, by decide⟩ ⟨by decide, by decide, by decide, by decide⟩ (Nat.le_of_ble_eq_true rfl) ?_
  refine me_aload_n C 0 (Or.inr (Or.inl ⟨_, rfl⟩)) dX11_send_14 rfl rfl ?_
  refine me_iconst C (v := 1) dX11_send_15 (by decide) ?_
  obtain ⟨r3, h_r3, hf⟩ := me_bs hf
  rcases r3 with r3 | r3
  · replace hf := me_xb2e hf
    refine me_callVE C N  (As := [me_i (1 : Int32)]) (st := []) 4 24 (c_Y_needRoom hB h_r3) mv_Y_needRoom ml_Y_91 rfl rfl dX11_send_16 rfl rfl ⟨by decide, by decide⟩ ⟨by decide, by decide, by decide, by decide⟩ (Nat.le_of_ble_eq_true rfl) ?_
    exact me_outX C N hNx (by cases hf; rfl) (by decide) (by decide)
  replace hf := me_xb2o hf
  refine me_callV0 C N  (As := [me_i (1 : Int32)]) (st := []) 4 24 (c_Y_needRoom hB h_r3) mv_Y_needRoom ml_Y_91 rfl rfl dX11_send_16 rfl rfl ⟨by decide, by decide⟩ ⟨by decide, by decide, by decide, by decide⟩ (Nat.le_of_ble_eq_true rfl) ?_
  refine me_aload_n C 0 (Or.inr (Or.inl ⟨_, rfl⟩)) dX11_send_19 rfl rfl ?_
  refine me_getr C hB 1 (k' := 6) (i' := 0) fg_Y_19 dX11_send_20 rfl rfl ?_
  refine me_bipush C (v := 109) dX11_send_23 (by decide) ?_
  refine me_iload_n C 1 dX11_send_25 rfl rfl ?_
  refine me_iload_n C 2 dX11_send_26 rfl rfl ?_
  refine me_iload_n C 3 dX11_send_27 rfl rfl ?_
  refine me_iload C dX11_send_28 rfl ?_
  refine me_aload_n C 0 (Or.inr (Or.inl ⟨_, rfl⟩)) dX11_send_30 rfl rfl ?_
  refine me_getr C hB 6 (k' := 30) (i' := 0) fg_Y_58 dX11_send_31 rfl rfl ?_
  refine me_geti C 5 fg_Y_95 dX11_send_34 rfl ?_
  obtain ⟨μ5, r4, h_r4, hf⟩ := me_bs2 hf
  refine me_callV C N  (As := [me_i (109 : Int32), me_i v1, me_i v2, me_i v3, me_i v4, me_i (μ 30 0 5)]) (st := []) 4 24 (c_Post_make hB h_r4) mv_Post_make ml_Y_99 rfl rfl dX11_send_37 rfl rfl ⟨by decide, by decide⟩ ⟨by decide, by decide, by decide, by decide⟩ (Nat.le_of_ble_eq_true rfl) ?_
  exact me_iret C N dX11_send_40 (me_nri _) (by cases hf; rfl) (by decide) (by decide)
theorem c_Y_send {B : me_B} (hB : me_St B) {μ : me_M} {v1 : Int32} {v2 : Int32} {v3 : Int32} {v4 : Int32} {μ' : me_M} {r : Except Nat Int32}  (hf : f_Y_send μ v1 v2 v3 v4 = some (μ', r)) : ∀ l E z, l.stackTraces = false → me_Met l yX11_send cX11_send 5 (some .int) 8 133 4 24 E B μ z [me_r 0 0, me_i v1, me_i v2, me_i v3, me_i v4] (B, μ', me_xc (fun v => some (me_i v)) r) :=
  fun _ _ _ hl => me_ofZ hl (by decide +kernel) (Nat.le_of_ble_eq_true rfl) (fun _ C N hNx => z_Y_send C N hNx hB  hf)

def f_Y_ask_b76 (μ : me_M) (v6 : Int32) (s0 : Int32) (s1 : Nat) : Option (me_M × (Except Nat Int32)) :=
  me_lt (me_up μ 8 s1 13 s0) (fun μ1 =>
  some (μ1, .ok v6))
set_option maxHeartbeats 4000000 in
set_option maxRecDepth 100000 in
theorem z_Y_ask_b76 {X : me_X} {B : me_B} {sz : Nat} (C : me_C X B RX11 cX11_ask 8 (some .int)) {μ : me_M} {v6 : Int32} {s0 : Int32} {s1 : Nat}   {r : me_M × (Except Nat Int32)} (N : me_En X B sz (B, r.1, me_xc (fun v => some (me_i v)) r.2) 8 133 4 24) (hNx : me_Nx X) (hB : me_St B)   (hf : f_Y_ask_b76 μ v6 s0 s1 = some r) : me_Z X B 4 24 μ 76 [(6, me_i v6)] [me_i s0, me_r 8 s1] := by
  unfold f_Y_ask_b76 at hf
  obtain ⟨μ1, e_μ1, hf⟩ := me_lts hf
  refine me_puti C 13 fw_Y_131 dX11_ask_76 rfl (me_nri _) e_μ1 ?_
  refine me_iload C dX11_ask_79 rfl ?_
  exact me_iret C N dX11_ask_81 (me_nri _) (by cases hf; rfl) (by decide) (by decide)
def f_Y_ask (μ : me_M) (v1 : Int32) (v2 : Int32) (v3 : Int32) (v4 : Int32) (v5 : Int32) : Option (me_M × (Except Nat Int32)) :=
  me_bd (f_Y_needNodes μ v1 v2) (fun r1 =>
  me_xb2 r1 μ (fun r1 =>
  me_bd (f_Y_needRange μ v3 (0 : Int32) (7 : Int32)) (fun r2 =>
  me_xb2 r2 μ (fun r2 =>
  me_bd (f_Y_needRoom μ (2 : Int32)) (fun r3 =>
  me_xb2 r3 μ (fun r3 =>
  me_b2 (f_Post_make μ (113 : Int32) v1 v2 (0 : Int32) (1 : Int32) (μ 30 0 5)) (fun μ5 r4 =>
  me_bd (f_Post_find μ5 r4) (fun r6 =>
  me_oq r6
  (some (μ5, .ok r4))
  (fun r6i => me_lt (me_up μ5 8 r6i 12 v3) (fun μ7 =>
  if v4 = 0 then
  (f_Y_ask_b76 μ7 r4 (0 : Int32) r6i)
  else
  (f_Y_ask_b76 μ7 r4 v5 r6i)))))))))))
set_option maxHeartbeats 4000000 in
set_option maxRecDepth 100000 in
theorem z_Y_ask {X : me_X} {B : me_B} {sz : Nat} (C : me_C X B RX11 cX11_ask 8 (some .int)) {μ : me_M} {v1 : Int32} {v2 : Int32} {v3 : Int32} {v4 : Int32} {v5 : Int32}   {r : me_M × (Except Nat Int32)} (N : me_En X B sz (B, r.1, me_xc (fun v => some (me_i v)) r.2) 8 133 4 24) (hNx : me_Nx X) (hB : me_St B)   (hf : f_Y_ask μ v1 v2 v3 v4 v5 = some r) : me_Z X B 0 0 μ 0 [(0, me_r 0 0), (1, me_i v1), (2, me_i v2), (3, me_i v3), (4, me_i v4), (5, me_i v5)] [] := by
  unfold f_Y_ask at hf
  refine me_aload_n C 0 (Or.inr (Or.inl ⟨_, rfl⟩)) dX11_ask_0 rfl rfl ?_
  refine me_iload_n C 1 dX11_ask_1 rfl rfl ?_
  refine me_iload_n C 2 dX11_ask_2 rfl rfl ?_
  obtain ⟨r1, h_r1, hf⟩ := me_bs hf
  rcases r1 with r1 | r1
  · replace hf := me_xb2e hf
    refine me_callVE C N  (As := [me_i v1, me_i v2]) (st := []) 2 12 (c_Y_needNodes hB h_r1) mv_Y_needNodes ml_Y_84 rfl rfl dX11_ask_3 rfl rfl ⟨by decide, by decide⟩ ⟨by decide, by decide, by decide, by decide⟩ (Nat.le_of_ble_eq_true rfl) ?_
    exact me_outX C N hNx (by cases hf; rfl) (by decide) (by decide)
  replace hf := me_xb2o hf
  refine me_callV0 C N  (As := [me_i v1, me_i v2]) (st := []) 2 12 (c_Y_needNodes hB h_r1) mv_Y_needNodes ml_Y_84 rfl rfl dX11_ask_3 rfl rfl ⟨by decide, by decide⟩ ⟨by decide, by decide, by decide, by decide⟩ (Nat.le_of_ble_eq_true rfl) ?_
  refine me_aload_n C 0 (Or.inr (Or.inl ⟨_, rfl⟩)) dX11_ask_6 rfl rfl ?_
  refine me_iload_n C 3 dX11_ask_7 rfl rfl ?_
  refine me_iconst C (v := 0) dX11_ask_8 (by decide) ?_
  refine me_bipush C (v := 7) dX11_ask_9 (by decide) ?_
  obtain ⟨r2, h_r2, hf⟩ := me_bs hf
  rcases r2 with r2 | r2
  · replace hf := me_xb2e hf
    refine me_callVE C N  (As := [me_i v3, me_i (0 : Int32), me_i (7 : Int32)]) (st := []) 3 18 (c_Y_needRange hB h_r2) mv_Y_needRange ml_Y_87 rfl rfl dX11_ask_11 rfl rfl ⟨by decide, by decide⟩ ⟨by decide, by decide, by decide, by decide⟩ (Nat.le_of_ble_eq_true rfl) ?_
    exact me_outX C N hNx (by cases hf; rfl) (by decide) (by decide)
  replace hf := me_xb2o hf
  refine me_callV0 C N  (As := [me_i v3, me_i (0 : Int32), me_i (7 : Int32)]) (st := []) 3 18 (c_Y_needRange hB h_r2) mv_Y_needRange ml_Y_87 rfl rfl dX11_ask_11 rfl rfl ⟨by decide, by decide⟩ ⟨by decide, by decide, by decide, by decide⟩ (Nat.le_of_ble_eq_true rfl) ?_
  refine me_aload_n C 0 (Or.inr (Or.inl ⟨_, rfl⟩)) dX11_ask_14 rfl rfl ?_
  refine me_iconst C (v := 2) dX11_ask_15 (by decide) ?_
  obtain ⟨r3, h_r3, hf⟩ := me_bs hf
  rcases r3 with r3 | r3
  · replace hf := me_xb2e hf
    refine me_callVE C N  (As := [me_i (2 : Int32)]) (st := []) 4 24 (c_Y_needRoom hB h_r3) mv_Y_needRoom ml_Y_91 rfl rfl dX11_ask_16 rfl rfl ⟨by decide, by decide⟩ ⟨by decide, by decide, by decide, by decide⟩ (Nat.le_of_ble_eq_true rfl) ?_
    exact me_outX C N hNx (by cases hf; rfl) (by decide) (by decide)
  replace hf := me_xb2o hf
  refine me_callV0 C N  (As := [me_i (2 : Int32)]) (st := []) 4 24 (c_Y_needRoom hB h_r3) mv_Y_needRoom ml_Y_91 rfl rfl dX11_ask_16 rfl rfl ⟨by decide, by decide⟩ ⟨by decide, by decide, by decide, by decide⟩ (Nat.le_of_ble_eq_true rfl) ?_
  refine me_aload_n C 0 (Or.inr (Or.inl ⟨_, rfl⟩)) dX11_ask_19 rfl rfl ?_
  refine me_getr C hB 1 (k' := 6) (i' := 0) fg_Y_19 dX11_ask_20 rfl rfl ?_
  refine me_bipush C (v := 113) dX11_ask_23 (by decide) ?_
  refine me_iload_n C 1 dX11_ask_25 rfl rfl ?_
  refine me_iload_n C 2 dX11_ask_26 rfl rfl ?_
  refine me_iconst C (v := 0) dX11_ask_27 (by decide) ?_
  refine me_iconst C (v := 1) dX11_ask_28 (by decide) ?_
  refine me_aload_n C 0 (Or.inr (Or.inl ⟨_, rfl⟩)) dX11_ask_29 rfl rfl ?_
  refine me_getr C hB 6 (k' := 30) (i' := 0) fg_Y_58 dX11_ask_30 rfl rfl ?_
  refine me_geti C 5 fg_Y_95 dX11_ask_33 rfl ?_
  obtain ⟨μ5, r4, h_r4, hf⟩ := me_bs2 hf
  refine me_callV C N  (As := [me_i (113 : Int32), me_i v1, me_i v2, me_i (0 : Int32), me_i (1 : Int32), me_i (μ 30 0 5)]) (st := []) 4 24 (c_Post_make hB h_r4) mv_Post_make ml_Y_99 rfl rfl dX11_ask_36 rfl rfl ⟨by decide, by decide⟩ ⟨by decide, by decide, by decide, by decide⟩ (Nat.le_of_ble_eq_true rfl) ?_
  refine me_istore C dX11_ask_39 (by decide) (L' := [(6, me_i r4), (0, me_r 0 0), (1, me_i v1), (2, me_i v2), (3, me_i v3), (4, me_i v4), (5, me_i v5)]) rfl ?_
  refine me_aload_n C 0 (Or.inr (Or.inl ⟨_, rfl⟩)) dX11_ask_41 rfl rfl ?_
  refine me_getr C hB 1 (k' := 6) (i' := 0) fg_Y_19 dX11_ask_42 rfl rfl ?_
  refine me_iload C dX11_ask_45 rfl ?_
  obtain ⟨r6, h_r6, hf⟩ := me_bs hf
  refine me_callV C N  (As := [me_i r4]) (st := []) 4 24 (c_Post_find hB h_r6) mv_Post_find ml_Y_122 rfl rfl dX11_ask_47 rfl rfl ⟨by decide, by decide⟩ ⟨by decide, by decide, by decide, by decide⟩ (Nat.le_of_ble_eq_true rfl) ?_
  rcases r6 with _ | r6i
  · replace hf := me_oqn hf
    refine me_astore C (Or.inl rfl) dX11_ask_50 (by decide) (L' := [(7, me_n), (6, me_i r4), (0, me_r 0 0), (1, me_i v1), (2, me_i v2), (3, me_i v3), (4, me_i v4), (5, me_i v5)]) rfl ?_
    refine me_aload C (Or.inl rfl) dX11_ask_52 rfl ?_
    refine me_ifnull_n C (tgt := 79) dX11_ask_54 (by decide) ?_
    refine me_iload C dX11_ask_79 rfl ?_
    exact me_iret C N dX11_ask_81 (me_nri _) (by cases hf; rfl) (by decide) (by decide)
  · replace hf := me_oqs hf
    refine me_astore C (Or.inr (Or.inl ⟨_, rfl⟩)) dX11_ask_50 (by decide) (L' := [(7, me_r 8 r6i), (6, me_i r4), (0, me_r 0 0), (1, me_i v1), (2, me_i v2), (3, me_i v3), (4, me_i v4), (5, me_i v5)]) rfl ?_
    refine me_aload C (Or.inr (Or.inl ⟨_, rfl⟩)) dX11_ask_52 rfl ?_
    refine me_ifnull_r C dX11_ask_54 ?_
    refine me_aload C (Or.inr (Or.inl ⟨_, rfl⟩)) dX11_ask_57 rfl ?_
    refine me_iload_n C 3 dX11_ask_59 rfl rfl ?_
    obtain ⟨μ7, e_μ7, hf⟩ := me_lts hf
    refine me_puti C 12 fw_Y_126 dX11_ask_60 rfl (me_nri _) e_μ7 ?_
    refine me_aload C (Or.inr (Or.inl ⟨_, rfl⟩)) dX11_ask_63 rfl ?_
    refine me_iload C dX11_ask_65 rfl ?_
    refine me_if_eq C (tgt := 75) dX11_ask_67 (by decide) (fun c8 => ?_) (fun c8 => ?_)
    · replace hf := me_ip c8 hf
      refine me_iconst C (v := 0) dX11_ask_75 (by decide) ?_
      refine me_dropI [(6, me_i r4)] [1] rfl ?_
      exact z_Y_ask_b76 C N hNx hB hf
    · replace hf := me_in c8 hf
      refine me_iload C dX11_ask_70 rfl ?_
      refine me_goto C (tgt := 76) dX11_ask_72 (by decide) ?_
      refine me_dropI [(6, me_i r4)] [1] rfl ?_
      exact z_Y_ask_b76 C N hNx hB hf
theorem c_Y_ask {B : me_B} (hB : me_St B) {μ : me_M} {v1 : Int32} {v2 : Int32} {v3 : Int32} {v4 : Int32} {v5 : Int32} {μ' : me_M} {r : Except Nat Int32}  (hf : f_Y_ask μ v1 v2 v3 v4 v5 = some (μ', r)) : ∀ l E z, l.stackTraces = false → me_Met l yX11_ask cX11_ask 8 (some .int) 8 133 4 24 E B μ z [me_r 0 0, me_i v1, me_i v2, me_i v3, me_i v4, me_i v5] (B, μ', me_xc (fun v => some (me_i v)) r) :=
  fun _ _ _ hl => me_ofZ hl (by decide +kernel) (Nat.le_of_ble_eq_true rfl) (fun _ C N hNx => z_Y_ask C N hNx hB  hf)

def f_Y_needPacket (μ : me_M) (v1 : Int32) : Option (Except Nat Nat) :=
  me_bd (f_Post_find μ v1) (fun r1 =>
  me_oq r1
  (some (.error 1))
  (fun r1i => some (.ok r1i)))
set_option maxHeartbeats 4000000 in
set_option maxRecDepth 100000 in
theorem z_Y_needPacket {X : me_X} {B : me_B} {sz : Nat} (C : me_C X B RX11 cX11_needPacket 3 (some (.object "Meshyard$Packet"))) {μ : me_M} {v1 : Int32}   {r : Except Nat Nat} (N : me_En X B sz (B, μ, me_xc (fun v => some (me_r 8 v)) r) 6 90 1 6) (hNx : me_Nx X) (hB : me_St B)   (hf : f_Y_needPacket μ v1 = some r) : me_Z X B 0 0 μ 0 [(0, me_r 0 0), (1, me_i v1)] [] := by
  unfold f_Y_needPacket at hf
  refine me_aload_n C 0 (Or.inr (Or.inl ⟨_, rfl⟩)) dX11_needPacket_0 rfl rfl ?_
  refine me_getr C hB 1 (k' := 6) (i' := 0) fg_Y_19 dX11_needPacket_1 rfl rfl ?_
  refine me_iload_n C 1 dX11_needPacket_4 rfl rfl ?_
  obtain ⟨r1, h_r1, hf⟩ := me_bs hf
  refine me_callV C N  (As := [me_i v1]) (st := []) 0 0 (c_Post_find hB h_r1) mv_Post_find ml_Y_122 rfl rfl dX11_needPacket_5 rfl rfl ⟨by decide, by decide⟩ ⟨by decide, by decide, by decide, by decide⟩ (Nat.le_of_ble_eq_true rfl) ?_
  rcases r1 with _ | r1i
  · replace hf := me_oqn hf
    refine me_astore_n C 2 (Or.inl rfl) dX11_needPacket_8 rfl (by decide) (L' := [(2, me_n), (0, me_r 0 0), (1, me_i v1)]) rfl ?_
    refine me_aload_n C 2 (Or.inl rfl) dX11_needPacket_9 rfl rfl ?_
    refine me_ifnonnull_n C dX11_needPacket_10 ?_
    exact me_throwW C N hNx 1 cl_Y_423 ie_1 sr_Y_428 tw_Y_427 ft_1 dX11_needPacket_13 dX11_needPacket_16 dX11_needPacket_17 dX11_needPacket_20 dX11_needPacket_23 ⟨by decide, by decide⟩ (Nat.le_of_ble_eq_true rfl) ⟨by decide, by decide⟩ (by cases hf; rfl)
  · replace hf := me_oqs hf
    refine me_astore_n C 2 (Or.inr (Or.inl ⟨_, rfl⟩)) dX11_needPacket_8 rfl (by decide) (L' := [(2, me_r 8 r1i), (0, me_r 0 0), (1, me_i v1)]) rfl ?_
    refine me_aload_n C 2 (Or.inr (Or.inl ⟨_, rfl⟩)) dX11_needPacket_9 rfl rfl ?_
    refine me_ifnonnull_r C (tgt := 24) dX11_needPacket_10 (by decide) ?_
    refine me_aload_n C 2 (Or.inr (Or.inl ⟨_, rfl⟩)) dX11_needPacket_24 rfl rfl ?_
    exact me_aret C N (Or.inr ⟨_, rfl⟩) dX11_needPacket_25 (by cases hf; rfl) (by decide) (by decide)
theorem c_Y_needPacket {B : me_B} (hB : me_St B) {μ : me_M} {v1 : Int32} {r : Except Nat Nat}  (hf : f_Y_needPacket μ v1 = some r) : ∀ l E z, l.stackTraces = false → me_Met l yX11_needPacket cX11_needPacket 3 (some (.object "Meshyard$Packet")) 6 90 1 6 E B μ z [me_r 0 0, me_i v1] (B, μ, me_xc (fun v => some (me_r 8 v)) r) :=
  fun _ _ _ hl => me_ofZ hl (by decide +kernel) (Nat.le_of_ble_eq_true rfl) (fun _ C N hNx => z_Y_needPacket C N hNx hB  hf)

def f_Y_answer (μ : me_M) (v1 : Int32) : Option (Except Nat Int32) :=
  me_bd (f_Y_needPacket μ v1) (fun r1 =>
  me_xb r1 (fun r1 =>
  if (μ 8 r1 1) = (113 : Int32) then
  (if (μ 8 r1 14) = (-1 : Int32) then
  (some (.error 5))
  else
  (some (.ok (μ 8 r1 14))))
  else
  (some (.error 2))))
set_option maxHeartbeats 4000000 in
set_option maxRecDepth 100000 in
theorem z_Y_answer {X : me_X} {B : me_B} {sz : Nat} (C : me_C X B RX11 cX11_answer 3 (some .int)) {μ : me_M} {v1 : Int32}   {r : Except Nat Int32} (N : me_En X B sz (B, μ, me_xc (fun v => some (me_i v)) r) 7 112 2 12) (hNx : me_Nx X) (hB : me_St B)   (hf : f_Y_answer μ v1 = some r) : me_Z X B 0 0 μ 0 [(0, me_r 0 0), (1, me_i v1)] [] := by
  unfold f_Y_answer at hf
  refine me_aload_n C 0 (Or.inr (Or.inl ⟨_, rfl⟩)) dX11_answer_0 rfl rfl ?_
  refine me_iload_n C 1 dX11_answer_1 rfl rfl ?_
  obtain ⟨r1, h_r1, hf⟩ := me_bs hf
  rcases r1 with r1 | r1
  · replace hf := me_xbe hf
    refine me_callVE C N  (As := [me_i v1]) (st := []) 1 6 (c_Y_needPacket hB h_r1) mv_Y_needPacket ml_Y_134 rfl rfl dX11_answer_2 rfl rfl ⟨by decide, by decide⟩ ⟨by decide, by decide, by decide, by decide⟩ (Nat.le_of_ble_eq_true rfl) ?_
    exact me_outX C N hNx (by cases hf; rfl) (by decide) (by decide)
  replace hf := me_xbo hf
  refine me_callV C N  (As := [me_i v1]) (st := []) 1 6 (c_Y_needPacket hB h_r1) mv_Y_needPacket ml_Y_134 rfl rfl dX11_answer_2 rfl rfl ⟨by decide, by decide⟩ ⟨by decide, by decide, by decide, by decide⟩ (Nat.le_of_ble_eq_true rfl) ?_
  refine me_astore_n C 2 (Or.inr (Or.inl ⟨_, rfl⟩)) dX11_answer_5 rfl (by decide) (L' := [(2, me_r 8 r1), (0, me_r 0 0), (1, me_i v1)]) rfl ?_
  refine me_aload_n C 2 (Or.inr (Or.inl ⟨_, rfl⟩)) dX11_answer_6 rfl rfl ?_
  refine me_geti C 1 fg_Y_137 dX11_answer_7 rfl ?_
  refine me_bipush C (v := 113) dX11_answer_10 (by decide) ?_
  refine me_icmp_eq C (tgt := 25) dX11_answer_12 (by decide) (fun c2 => ?_) (fun c2 => ?_)
  · replace hf := me_ip c2 hf
    refine me_aload_n C 2 (Or.inr (Or.inl ⟨_, rfl⟩)) dX11_answer_25 rfl rfl ?_
    refine me_geti C 14 fg_Y_143 dX11_answer_26 rfl ?_
    refine me_iconst C (v := -1) dX11_answer_29 (by decide) ?_
    refine me_icmp_ne C (tgt := 43) dX11_answer_30 (by decide) (fun c3 => ?_) (fun c3 => ?_)
    · replace hf := me_in c3 hf
      refine me_aload_n C 2 (Or.inr (Or.inl ⟨_, rfl⟩)) dX11_answer_43 rfl rfl ?_
      refine me_geti C 14 fg_Y_143 dX11_answer_44 rfl ?_
      exact me_iret C N dX11_answer_47 (me_nri _) (by cases hf; rfl) (by decide) (by decide)
    · replace hf := me_ip c3 hf
      exact me_throwN C N hNx 5 cl_Y_146 ie_5 sr_Y_148 tw_Y_150 rfl dX11_answer_33 dX11_answer_36 dX11_answer_37 dX11_answer_39 dX11_answer_42 ⟨by decide, by decide⟩ (Nat.le_of_ble_eq_true rfl) ⟨by decide, by decide⟩ (by cases hf; rfl)
  · replace hf := me_in c2 hf
    exact me_throw C N hNx 2 cl_Y_109 ie_2 sr_Y_141 tw_Y_113 ft_2 dX11_answer_15 dX11_answer_18 dX11_answer_19 dX11_answer_21 dX11_answer_24 ⟨by decide, by decide⟩ (Nat.le_of_ble_eq_true rfl) ⟨by decide, by decide⟩ (by cases hf; rfl)
theorem c_Y_answer {B : me_B} (hB : me_St B) {μ : me_M} {v1 : Int32} {r : Except Nat Int32}  (hf : f_Y_answer μ v1 = some r) : ∀ l E z, l.stackTraces = false → me_Met l yX11_answer cX11_answer 3 (some .int) 7 112 2 12 E B μ z [me_r 0 0, me_i v1] (B, μ, me_xc (fun v => some (me_i v)) r) :=
  fun _ _ _ hl => me_ofZ hl (by decide +kernel) (Nat.le_of_ble_eq_true rfl) (fun _ C N hNx => z_Y_answer C N hNx hB  hf)

def f_Y_kind (μ : me_M) (v1 : Int32) : Option (Except Nat Int32) :=
  me_bd (f_Y_needPacket μ v1) (fun r1 =>
  me_xb r1 (fun r1 =>
  me_gd (me_nr .char (μ 8 r1 1)) (
  some (.ok (μ 8 r1 1)))))
set_option maxHeartbeats 4000000 in
set_option maxRecDepth 100000 in
theorem z_Y_kind {X : me_X} {B : me_B} {sz : Nat} (C : me_C X B RX11 cX11_kind 2 (some .char)) {μ : me_M} {v1 : Int32}   {r : Except Nat Int32} (N : me_En X B sz (B, μ, me_xc (fun v => some (me_i v)) r) 7 112 1 6) (hNx : me_Nx X) (hB : me_St B)   (hf : f_Y_kind μ v1 = some r) : me_Z X B 0 0 μ 0 [(0, me_r 0 0), (1, me_i v1)] [] := by
  unfold f_Y_kind at hf
  refine me_aload_n C 0 (Or.inr (Or.inl ⟨_, rfl⟩)) dX11_kind_0 rfl rfl ?_
  refine me_iload_n C 1 dX11_kind_1 rfl rfl ?_
  obtain ⟨r1, h_r1, hf⟩ := me_bs hf
  rcases r1 with r1 | r1
  · replace hf := me_xbe hf
    refine me_callVE C N  (As := [me_i v1]) (st := []) 1 6 (c_Y_needPacket hB h_r1) mv_Y_needPacket ml_Y_134 rfl rfl dX11_kind_2 rfl rfl ⟨by decide, by decide⟩ ⟨by decide, by decide, by decide, by decide⟩ (Nat.le_of_ble_eq_true rfl) ?_
    exact me_outX C N hNx (by cases hf; rfl) (by decide) (by decide)
  replace hf := me_xbo hf
  refine me_callV C N  (As := [me_i v1]) (st := []) 1 6 (c_Y_needPacket hB h_r1) mv_Y_needPacket ml_Y_134 rfl rfl dX11_kind_2 rfl rfl ⟨by decide, by decide⟩ ⟨by decide, by decide, by decide, by decide⟩ (Nat.le_of_ble_eq_true rfl) ?_
  refine me_geti C 1 fg_Y_137 dX11_kind_5 rfl ?_
  obtain ⟨g2, hf⟩ := me_gs hf
  exact me_iret C N dX11_kind_8 g2 (by cases hf; rfl) (by decide) (by decide)
theorem c_Y_kind {B : me_B} (hB : me_St B) {μ : me_M} {v1 : Int32} {r : Except Nat Int32}  (hf : f_Y_kind μ v1 = some r) : ∀ l E z, l.stackTraces = false → me_Met l yX11_kind cX11_kind 2 (some .char) 7 112 1 6 E B μ z [me_r 0 0, me_i v1] (B, μ, me_xc (fun v => some (me_i v)) r) :=
  fun _ _ _ hl => me_ofZ hl (by decide +kernel) (Nat.le_of_ble_eq_true rfl) (fun _ C N hNx => z_Y_kind C N hNx hB  hf)

def f_Y_state (μ : me_M) (v1 : Int32) : Option (Except Nat Int32) :=
  me_bd (f_Y_needPacket μ v1) (fun r1 =>
  me_xb r1 (fun r1 =>
  me_gd (me_nr .char (μ 8 r1 2)) (
  some (.ok (μ 8 r1 2)))))
set_option maxHeartbeats 4000000 in
set_option maxRecDepth 100000 in
theorem z_Y_state {X : me_X} {B : me_B} {sz : Nat} (C : me_C X B RX11 cX11_state 2 (some .char)) {μ : me_M} {v1 : Int32}   {r : Except Nat Int32} (N : me_En X B sz (B, μ, me_xc (fun v => some (me_i v)) r) 7 112 1 6) (hNx : me_Nx X) (hB : me_St B)   (hf : f_Y_state μ v1 = some r) : me_Z X B 0 0 μ 0 [(0, me_r 0 0), (1, me_i v1)] [] := by
  unfold f_Y_state at hf
  refine me_aload_n C 0 (Or.inr (Or.inl ⟨_, rfl⟩)) dX11_state_0 rfl rfl ?_
  refine me_iload_n C 1 dX11_state_1 rfl rfl ?_
  obtain ⟨r1, h_r1, hf⟩ := me_bs hf
  rcases r1 with r1 | r1
  · replace hf := me_xbe hf
    refine me_callVE C N  (As := [me_i v1]) (st := []) 1 6 (c_Y_needPacket hB h_r1) mv_Y_needPacket ml_Y_134 rfl rfl dX11_state_2 rfl rfl ⟨by decide, by decide⟩ ⟨by decide, by decide, by decide, by decide⟩ (Nat.le_of_ble_eq_true rfl) ?_
    exact me_outX C N hNx (by cases hf; rfl) (by decide) (by decide)
  replace hf := me_xbo hf
  refine me_callV C N  (As := [me_i v1]) (st := []) 1 6 (c_Y_needPacket hB h_r1) mv_Y_needPacket ml_Y_134 rfl rfl dX11_state_2 rfl rfl ⟨by decide, by decide⟩ ⟨by decide, by decide, by decide, by decide⟩ (Nat.le_of_ble_eq_true rfl) ?_
  refine me_geti C 2 fg_Y_151 dX11_state_5 rfl ?_
  obtain ⟨g2, hf⟩ := me_gs hf
  exact me_iret C N dX11_state_8 g2 (by cases hf; rfl) (by decide) (by decide)
theorem c_Y_state {B : me_B} (hB : me_St B) {μ : me_M} {v1 : Int32} {r : Except Nat Int32}  (hf : f_Y_state μ v1 = some r) : ∀ l E z, l.stackTraces = false → me_Met l yX11_state cX11_state 2 (some .char) 7 112 1 6 E B μ z [me_r 0 0, me_i v1] (B, μ, me_xc (fun v => some (me_i v)) r) :=
  fun _ _ _ hl => me_ofZ hl (by decide +kernel) (Nat.le_of_ble_eq_true rfl) (fun _ C N hNx => z_Y_state C N hNx hB  hf)

def f_Y_word (μ : me_M) (v1 : Int32) : Option (Except Nat Int32) :=
  me_bd (f_Y_needPacket μ v1) (fun r1 =>
  me_xb r1 (fun r1 =>
  some (.ok (μ 8 r1 5))))
set_option maxHeartbeats 4000000 in
set_option maxRecDepth 100000 in
theorem z_Y_word {X : me_X} {B : me_B} {sz : Nat} (C : me_C X B RX11 cX11_word 2 (some .int)) {μ : me_M} {v1 : Int32}   {r : Except Nat Int32} (N : me_En X B sz (B, μ, me_xc (fun v => some (me_i v)) r) 7 112 1 6) (hNx : me_Nx X) (hB : me_St B)   (hf : f_Y_word μ v1 = some r) : me_Z X B 0 0 μ 0 [(0, me_r 0 0), (1, me_i v1)] [] := by
  unfold f_Y_word at hf
  refine me_aload_n C 0 (Or.inr (Or.inl ⟨_, rfl⟩)) dX11_word_0 rfl rfl ?_
  refine me_iload_n C 1 dX11_word_1 rfl rfl ?_
  obtain ⟨r1, h_r1, hf⟩ := me_bs hf
  rcases r1 with r1 | r1
  · replace hf := me_xbe hf
    refine me_callVE C N  (As := [me_i v1]) (st := []) 1 6 (c_Y_needPacket hB h_r1) mv_Y_needPacket ml_Y_134 rfl rfl dX11_word_2 rfl rfl ⟨by decide, by decide⟩ ⟨by decide, by decide, by decide, by decide⟩ (Nat.le_of_ble_eq_true rfl) ?_
    exact me_outX C N hNx (by cases hf; rfl) (by decide) (by decide)
  replace hf := me_xbo hf
  refine me_callV C N  (As := [me_i v1]) (st := []) 1 6 (c_Y_needPacket hB h_r1) mv_Y_needPacket ml_Y_134 rfl rfl dX11_word_2 rfl rfl ⟨by decide, by decide⟩ ⟨by decide, by decide, by decide, by decide⟩ (Nat.le_of_ble_eq_true rfl) ?_
  refine me_geti C 5 fg_Y_154 dX11_word_5 rfl ?_
  exact me_iret C N dX11_word_8 (me_nri _) (by cases hf; rfl) (by decide) (by decide)
theorem c_Y_word {B : me_B} (hB : me_St B) {μ : me_M} {v1 : Int32} {r : Except Nat Int32}  (hf : f_Y_word μ v1 = some r) : ∀ l E z, l.stackTraces = false → me_Met l yX11_word cX11_word 2 (some .int) 7 112 1 6 E B μ z [me_r 0 0, me_i v1] (B, μ, me_xc (fun v => some (me_i v)) r) :=
  fun _ _ _ hl => me_ofZ hl (by decide +kernel) (Nat.le_of_ble_eq_true rfl) (fun _ C N hNx => z_Y_word C N hNx hB  hf)

def f_Y_head (μ : me_M) (v1 : Int32) : Option (Except Nat Int32) :=
  me_bd (f_Y_needPacket μ v1) (fun r1 =>
  me_xb r1 (fun r1 =>
  me_lt ((μ 8 r1 9)) (fun x2 =>
  if x2 = (-1 : Int32) then
  (some (.error 5))
  else
  (some (.ok x2)))))
set_option maxHeartbeats 4000000 in
set_option maxRecDepth 100000 in
theorem z_Y_head {X : me_X} {B : me_B} {sz : Nat} (C : me_C X B RX11 cX11_head 3 (some .int)) {μ : me_M} {v1 : Int32}   {r : Except Nat Int32} (N : me_En X B sz (B, μ, me_xc (fun v => some (me_i v)) r) 7 112 2 12) (hNx : me_Nx X) (hB : me_St B)   (hf : f_Y_head μ v1 = some r) : me_Z X B 0 0 μ 0 [(0, me_r 0 0), (1, me_i v1)] [] := by
  unfold f_Y_head at hf
  refine me_aload_n C 0 (Or.inr (Or.inl ⟨_, rfl⟩)) dX11_head_0 rfl rfl ?_
  refine me_iload_n C 1 dX11_head_1 rfl rfl ?_
  obtain ⟨r1, h_r1, hf⟩ := me_bs hf
  rcases r1 with r1 | r1
  · replace hf := me_xbe hf
    refine me_callVE C N  (As := [me_i v1]) (st := []) 1 6 (c_Y_needPacket hB h_r1) mv_Y_needPacket ml_Y_134 rfl rfl dX11_head_2 rfl rfl ⟨by decide, by decide⟩ ⟨by decide, by decide, by decide, by decide⟩ (Nat.le_of_ble_eq_true rfl) ?_
    exact me_outX C N hNx (by cases hf; rfl) (by decide) (by decide)
  replace hf := me_xbo hf
  refine me_callV C N  (As := [me_i v1]) (st := []) 1 6 (c_Y_needPacket hB h_r1) mv_Y_needPacket ml_Y_134 rfl rfl dX11_head_2 rfl rfl ⟨by decide, by decide⟩ ⟨by decide, by decide, by decide, by decide⟩ (Nat.le_of_ble_eq_true rfl) ?_
  refine me_geti C 9 fg_Y_157 dX11_head_5 rfl ?_
  obtain ⟨x2, e_x2, hf⟩ := me_lts hf
  refine me_nm e_x2 ?_
  refine me_istore_n C 2 dX11_head_8 rfl (by decide) (L' := [(2, me_i x2), (0, me_r 0 0), (1, me_i v1)]) rfl ?_
  refine me_iload_n C 2 dX11_head_9 rfl rfl ?_
  refine me_iconst C (v := -1) dX11_head_10 (by decide) ?_
  refine me_icmp_ne C (tgt := 24) dX11_head_11 (by decide) (fun c3 => ?_) (fun c3 => ?_)
  · replace hf := me_in c3 hf
    refine me_iload_n C 2 dX11_head_24 rfl rfl ?_
    exact me_iret C N dX11_head_25 (me_nri _) (by cases hf; rfl) (by decide) (by decide)
  · replace hf := me_ip c3 hf
    exact me_throwN C N hNx 5 cl_Y_146 ie_5 sr_Y_160 tw_Y_150 rfl dX11_head_14 dX11_head_17 dX11_head_18 dX11_head_20 dX11_head_23 ⟨by decide, by decide⟩ (Nat.le_of_ble_eq_true rfl) ⟨by decide, by decide⟩ (by cases hf; rfl)
theorem c_Y_head {B : me_B} (hB : me_St B) {μ : me_M} {v1 : Int32} {r : Except Nat Int32}  (hf : f_Y_head μ v1 = some r) : ∀ l E z, l.stackTraces = false → me_Met l yX11_head cX11_head 3 (some .int) 7 112 2 12 E B μ z [me_r 0 0, me_i v1] (B, μ, me_xc (fun v => some (me_i v)) r) :=
  fun _ _ _ hl => me_ofZ hl (by decide +kernel) (Nat.le_of_ble_eq_true rfl) (fun _ C N hNx => z_Y_head C N hNx hB  hf)

def f_Y_pieces (μ : me_M) (v1 : Int32) : Option (Except Nat Int32) :=
  me_bd (f_Y_needPacket μ v1) (fun r1 =>
  me_xb r1 (fun r1 =>
  me_bd (f_Packet_piecesInRows μ r1) (fun r2 =>
  some (.ok r2))))
set_option maxHeartbeats 4000000 in
set_option maxRecDepth 100000 in
theorem z_Y_pieces {X : me_X} {B : me_B} {sz : Nat} (C : me_C X B RX11 cX11_pieces 2 (some .int)) {μ : me_M} {v1 : Int32}   {r : Except Nat Int32} (N : me_En X B sz (B, μ, me_xc (fun v => some (me_i v)) r) 7 112 1 6) (hNx : me_Nx X) (hB : me_St B)   (hf : f_Y_pieces μ v1 = some r) : me_Z X B 0 0 μ 0 [(0, me_r 0 0), (1, me_i v1)] [] := by
  unfold f_Y_pieces at hf
  refine me_aload_n C 0 (Or.inr (Or.inl ⟨_, rfl⟩)) dX11_pieces_0 rfl rfl ?_
  refine me_iload_n C 1 dX11_pieces_1 rfl rfl ?_
  obtain ⟨r1, h_r1, hf⟩ := me_bs hf
  rcases r1 with r1 | r1
  · replace hf := me_xbe hf
    refine me_callVE C N  (As := [me_i v1]) (st := []) 1 6 (c_Y_needPacket hB h_r1) mv_Y_needPacket ml_Y_134 rfl rfl dX11_pieces_2 rfl rfl ⟨by decide, by decide⟩ ⟨by decide, by decide, by decide, by decide⟩ (Nat.le_of_ble_eq_true rfl) ?_
    exact me_outX C N hNx (by cases hf; rfl) (by decide) (by decide)
  replace hf := me_xbo hf
  refine me_callV C N  (As := [me_i v1]) (st := []) 1 6 (c_Y_needPacket hB h_r1) mv_Y_needPacket ml_Y_134 rfl rfl dX11_pieces_2 rfl rfl ⟨by decide, by decide⟩ ⟨by decide, by decide, by decide, by decide⟩ (Nat.le_of_ble_eq_true rfl) ?_
  obtain ⟨r2, h_r2, hf⟩ := me_bs hf
  refine me_callV C N  (As := []) (st := []) 1 6 (c_Packet_piecesInRows hB h_r2) mv_Packet_piecesInRows ml_Y_162 rfl rfl dX11_pieces_5 rfl rfl ⟨by decide, by decide⟩ ⟨by decide, by decide, by decide, by decide⟩ (Nat.le_of_ble_eq_true rfl) ?_
  exact me_iret C N dX11_pieces_8 (me_nri _) (by cases hf; rfl) (by decide) (by decide)
theorem c_Y_pieces {B : me_B} (hB : me_St B) {μ : me_M} {v1 : Int32} {r : Except Nat Int32}  (hf : f_Y_pieces μ v1 = some r) : ∀ l E z, l.stackTraces = false → me_Met l yX11_pieces cX11_pieces 2 (some .int) 7 112 1 6 E B μ z [me_r 0 0, me_i v1] (B, μ, me_xc (fun v => some (me_i v)) r) :=
  fun _ _ _ hl => me_ofZ hl (by decide +kernel) (Nat.le_of_ble_eq_true rfl) (fun _ C N hNx => z_Y_pieces C N hNx hB  hf)

def f_Y_time (μ : me_M) (v1 : Int32) : Option (Except Nat Int32) :=
  me_bd (f_Y_needPacket μ v1) (fun r1 =>
  me_xb r1 (fun r1 =>
  me_bd (f_Packet_wasDelivered μ r1) (fun r2 =>
  if r2 = 0 then
  (some (.error 5))
  else
  (me_bd (f_Packet_beatsTaken μ r1) (fun r4 =>
  some (.ok r4))))))
set_option maxHeartbeats 4000000 in
set_option maxRecDepth 100000 in
theorem z_Y_time {X : me_X} {B : me_B} {sz : Nat} (C : me_C X B RX11 cX11_time 3 (some .int)) {μ : me_M} {v1 : Int32}   {r : Except Nat Int32} (N : me_En X B sz (B, μ, me_xc (fun v => some (me_i v)) r) 7 112 2 12) (hNx : me_Nx X) (hB : me_St B)   (hf : f_Y_time μ v1 = some r) : me_Z X B 0 0 μ 0 [(0, me_r 0 0), (1, me_i v1)] [] := by
  unfold f_Y_time at hf
  refine me_aload_n C 0 (Or.inr (Or.inl ⟨_, rfl⟩)) dX11_time_0 rfl rfl ?_
  refine me_iload_n C 1 dX11_time_1 rfl rfl ?_
  obtain ⟨r1, h_r1, hf⟩ := me_bs hf
  rcases r1 with r1 | r1
  · replace hf := me_xbe hf
    refine me_callVE C N  (As := [me_i v1]) (st := []) 1 6 (c_Y_needPacket hB h_r1) mv_Y_needPacket ml_Y_134 rfl rfl dX11_time_2 rfl rfl ⟨by decide, by decide⟩ ⟨by decide, by decide, by decide, by decide⟩ (Nat.le_of_ble_eq_true rfl) ?_
    exact me_outX C N hNx (by cases hf; rfl) (by decide) (by decide)
  replace hf := me_xbo hf
  refine me_callV C N  (As := [me_i v1]) (st := []) 1 6 (c_Y_needPacket hB h_r1) mv_Y_needPacket ml_Y_134 rfl rfl dX11_time_2 rfl rfl ⟨by decide, by decide⟩ ⟨by decide, by decide, by decide, by decide⟩ (Nat.le_of_ble_eq_true rfl) ?_
  refine me_astore_n C 2 (Or.inr (Or.inl ⟨_, rfl⟩)) dX11_time_5 rfl (by decide) (L' := [(2, me_r 8 r1), (0, me_r 0 0), (1, me_i v1)]) rfl ?_
  refine me_aload_n C 2 (Or.inr (Or.inl ⟨_, rfl⟩)) dX11_time_6 rfl rfl ?_
  obtain ⟨r2, h_r2, hf⟩ := me_bs hf
  refine me_callV C N  (As := []) (st := []) 1 6 (c_Packet_wasDelivered hB h_r2) mv_Packet_wasDelivered ml_Y_166 rfl rfl dX11_time_7 rfl rfl ⟨by decide, by decide⟩ ⟨by decide, by decide, by decide, by decide⟩ (Nat.le_of_ble_eq_true rfl) ?_
  refine me_if_ne C (tgt := 23) dX11_time_10 (by decide) (fun c3 => ?_) (fun c3 => ?_)
  · replace hf := me_in c3 hf
    refine me_aload_n C 2 (Or.inr (Or.inl ⟨_, rfl⟩)) dX11_time_23 rfl rfl ?_
    obtain ⟨r4, h_r4, hf⟩ := me_bs hf
    refine me_callV C N  (As := []) (st := []) 1 6 (c_Packet_beatsTaken hB h_r4) mv_Packet_beatsTaken ml_Y_172 rfl rfl dX11_time_24 rfl rfl ⟨by decide, by decide⟩ ⟨by decide, by decide, by decide, by decide⟩ (Nat.le_of_ble_eq_true rfl) ?_
    exact me_iret C N dX11_time_27 (me_nri _) (by cases hf; rfl) (by decide) (by decide)
  · replace hf := me_ip c3 hf
    exact me_throwN C N hNx 5 cl_Y_146 ie_5 sr_Y_170 tw_Y_150 rfl dX11_time_13 dX11_time_16 dX11_time_17 dX11_time_19 dX11_time_22 ⟨by decide, by decide⟩ (Nat.le_of_ble_eq_true rfl) ⟨by decide, by decide⟩ (by cases hf; rfl)
theorem c_Y_time {B : me_B} (hB : me_St B) {μ : me_M} {v1 : Int32} {r : Except Nat Int32}  (hf : f_Y_time μ v1 = some r) : ∀ l E z, l.stackTraces = false → me_Met l yX11_time cX11_time 3 (some .int) 7 112 2 12 E B μ z [me_r 0 0, me_i v1] (B, μ, me_xc (fun v => some (me_i v)) r) :=
  fun _ _ _ hl => me_ofZ hl (by decide +kernel) (Nat.le_of_ble_eq_true rfl) (fun _ C N hNx => z_Y_time C N hNx hB  hf)

def f_Y_packets (μ : me_M) : Option Int32 :=
  some (μ 6 0 1)
set_option maxHeartbeats 4000000 in
set_option maxRecDepth 100000 in
theorem z_Y_packets {X : me_X} {B : me_B} {sz : Nat} (C : me_C X B RX11 cX11_packets 1 (some .int)) {μ : me_M}    {r : Int32} (N : me_En X B sz (B, μ, .ok (some (me_i r))) 0 0 0 0) (hNx : me_Nx X) (hB : me_St B)   (hf : f_Y_packets μ = some r) : me_Z X B 0 0 μ 0 [(0, me_r 0 0)] [] := by
  unfold f_Y_packets at hf
  refine me_aload_n C 0 (Or.inr (Or.inl ⟨_, rfl⟩)) dX11_packets_0 rfl rfl ?_
  refine me_getr C hB 1 (k' := 6) (i' := 0) fg_Y_19 dX11_packets_1 rfl rfl ?_
  refine me_geti C 1 fg_Y_175 dX11_packets_4 rfl ?_
  exact me_iret C N dX11_packets_7 (me_nri _) (by cases hf; rfl) (by decide) (by decide)
theorem c_Y_packets {B : me_B} (hB : me_St B) {μ : me_M}  {r : Int32}  (hf : f_Y_packets μ = some r) : ∀ l E z, l.stackTraces = false → me_Met l yX11_packets cX11_packets 1 (some .int) 0 0 0 0 E B μ z [me_r 0 0] (B, μ, .ok (some (me_i r))) :=
  fun _ _ _ hl => me_ofZ hl (by decide +kernel) (Nat.le_of_ble_eq_true rfl) (fun _ C N hNx => z_Y_packets C N hNx hB  hf)

def f_Y_lying (μ : me_M) (v1 : Int32) (v2 : Int32) : Option (Except Nat Int32) :=
  me_bd (f_Y_needNodes μ v1 v2) (fun r1 =>
  me_xb r1 (fun r1 =>
  me_bd (f_Post_countLying μ v1 v2) (fun r2 =>
  some (.ok r2))))
set_option maxHeartbeats 4000000 in
set_option maxRecDepth 100000 in
theorem z_Y_lying {X : me_X} {B : me_B} {sz : Nat} (C : me_C X B RX11 cX11_lying 3 (some .int)) {μ : me_M} {v1 : Int32} {v2 : Int32}   {r : Except Nat Int32} (N : me_En X B sz (B, μ, me_xc (fun v => some (me_i v)) r) 8 133 2 12) (hNx : me_Nx X) (hB : me_St B)   (hf : f_Y_lying μ v1 v2 = some r) : me_Z X B 0 0 μ 0 [(0, me_r 0 0), (1, me_i v1), (2, me_i v2)] [] := by
  unfold f_Y_lying at hf
  refine me_aload_n C 0 (Or.inr (Or.inl ⟨_, rfl⟩)) dX11_lying_0 rfl rfl ?_
  refine me_iload_n C 1 dX11_lying_1 rfl rfl ?_
  refine me_iload_n C 2 dX11_lying_2 rfl rfl ?_
  obtain ⟨r1, h_r1, hf⟩ := me_bs hf
  rcases r1 with r1 | r1
  · replace hf := me_xbe hf
    refine me_callVE C N  (As := [me_i v1, me_i v2]) (st := []) 2 12 (c_Y_needNodes hB h_r1) mv_Y_needNodes ml_Y_84 rfl rfl dX11_lying_3 rfl rfl ⟨by decide, by decide⟩ ⟨by decide, by decide, by decide, by decide⟩ (Nat.le_of_ble_eq_true rfl) ?_
    exact me_outX C N hNx (by cases hf; rfl) (by decide) (by decide)
  replace hf := me_xbo hf
  refine me_callV0 C N  (As := [me_i v1, me_i v2]) (st := []) 2 12 (c_Y_needNodes hB h_r1) mv_Y_needNodes ml_Y_84 rfl rfl dX11_lying_3 rfl rfl ⟨by decide, by decide⟩ ⟨by decide, by decide, by decide, by decide⟩ (Nat.le_of_ble_eq_true rfl) ?_
  refine me_aload_n C 0 (Or.inr (Or.inl ⟨_, rfl⟩)) dX11_lying_6 rfl rfl ?_
  refine me_getr C hB 1 (k' := 6) (i' := 0) fg_Y_19 dX11_lying_7 rfl rfl ?_
  refine me_iload_n C 1 dX11_lying_10 rfl rfl ?_
  refine me_iload_n C 2 dX11_lying_11 rfl rfl ?_
  obtain ⟨r2, h_r2, hf⟩ := me_bs hf
  refine me_callV C N  (As := [me_i v1, me_i v2]) (st := []) 2 12 (c_Post_countLying hB h_r2) mv_Post_countLying ml_Y_178 rfl rfl dX11_lying_12 rfl rfl ⟨by decide, by decide⟩ ⟨by decide, by decide, by decide, by decide⟩ (Nat.le_of_ble_eq_true rfl) ?_
  exact me_iret C N dX11_lying_15 (me_nri _) (by cases hf; rfl) (by decide) (by decide)
theorem c_Y_lying {B : me_B} (hB : me_St B) {μ : me_M} {v1 : Int32} {v2 : Int32} {r : Except Nat Int32}  (hf : f_Y_lying μ v1 v2 = some r) : ∀ l E z, l.stackTraces = false → me_Met l yX11_lying cX11_lying 3 (some .int) 8 133 2 12 E B μ z [me_r 0 0, me_i v1, me_i v2] (B, μ, me_xc (fun v => some (me_i v)) r) :=
  fun _ _ _ hl => me_ofZ hl (by decide +kernel) (Nat.le_of_ble_eq_true rfl) (fun _ C N hNx => z_Y_lying C N hNx hB  hf)

def f_Y_receive (μ : me_M) (v1 : Int32) (v2 : Int32) : Option (me_M × (Except Nat Int32)) :=
  me_bd (f_Y_needNodes μ v1 v2) (fun r1 =>
  me_xb2 r1 μ (fun r1 =>
  me_bd (f_Post_firstLying μ v1 v2) (fun r2 =>
  me_oq r2
  (some (μ, .error 5))
  (fun r2i => me_lt (me_up μ 8 r2i 2 (114 : Int32)) (fun μ3 =>
  some (μ3, .ok (μ3 8 r2i 0)))))))
set_option maxHeartbeats 4000000 in
set_option maxRecDepth 100000 in
theorem z_Y_receive {X : me_X} {B : me_B} {sz : Nat} (C : me_C X B RX11 cX11_receive 4 (some .int)) {μ : me_M} {v1 : Int32} {v2 : Int32}   {r : me_M × (Except Nat Int32)} (N : me_En X B sz (B, r.1, me_xc (fun v => some (me_i v)) r.2) 8 133 3 18) (hNx : me_Nx X) (hB : me_St B)   (hf : f_Y_receive μ v1 v2 = some r) : me_Z X B 0 0 μ 0 [(0, me_r 0 0), (1, me_i v1), (2, me_i v2)] [] := by
  unfold f_Y_receive at hf
  refine me_aload_n C 0 (Or.inr (Or.inl ⟨_, rfl⟩)) dX11_receive_0 rfl rfl ?_
  refine me_iload_n C 1 dX11_receive_1 rfl rfl ?_
  refine me_iload_n C 2 dX11_receive_2 rfl rfl ?_
  obtain ⟨r1, h_r1, hf⟩ := me_bs hf
  rcases r1 with r1 | r1
  · replace hf := me_xb2e hf
    refine me_callVE C N  (As := [me_i v1, me_i v2]) (st := []) 2 12 (c_Y_needNodes hB h_r1) mv_Y_needNodes ml_Y_84 rfl rfl dX11_receive_3 rfl rfl ⟨by decide, by decide⟩ ⟨by decide, by decide, by decide, by decide⟩ (Nat.le_of_ble_eq_true rfl) ?_
    exact me_outX C N hNx (by cases hf; rfl) (by decide) (by decide)
  replace hf := me_xb2o hf
  refine me_callV0 C N  (As := [me_i v1, me_i v2]) (st := []) 2 12 (c_Y_needNodes hB h_r1) mv_Y_needNodes ml_Y_84 rfl rfl dX11_receive_3 rfl rfl ⟨by decide, by decide⟩ ⟨by decide, by decide, by decide, by decide⟩ (Nat.le_of_ble_eq_true rfl) ?_
  refine me_aload_n C 0 (Or.inr (Or.inl ⟨_, rfl⟩)) dX11_receive_6 rfl rfl ?_
  refine me_getr C hB 1 (k' := 6) (i' := 0) fg_Y_19 dX11_receive_7 rfl rfl ?_
  refine me_iload_n C 1 dX11_receive_10 rfl rfl ?_
  refine me_iload_n C 2 dX11_receive_11 rfl rfl ?_
  obtain ⟨r2, h_r2, hf⟩ := me_bs hf
  refine me_callV C N  (As := [me_i v1, me_i v2]) (st := []) 2 12 (c_Post_firstLying hB h_r2) mv_Post_firstLying ml_Y_182 rfl rfl dX11_receive_12 rfl rfl ⟨by decide, by decide⟩ ⟨by decide, by decide, by decide, by decide⟩ (Nat.le_of_ble_eq_true rfl) ?_
  rcases r2 with _ | r2i
  · replace hf := me_oqn hf
    refine me_astore_n C 3 (Or.inl rfl) dX11_receive_15 rfl (by decide) (L' := [(3, me_n), (0, me_r 0 0), (1, me_i v1), (2, me_i v2)]) rfl ?_
    refine me_aload_n C 3 (Or.inl rfl) dX11_receive_16 rfl rfl ?_
    refine me_ifnonnull_n C dX11_receive_17 ?_
    exact me_throwN C N hNx 5 cl_Y_146 ie_5 sr_Y_186 tw_Y_150 rfl dX11_receive_20 dX11_receive_23 dX11_receive_24 dX11_receive_26 dX11_receive_29 ⟨by decide, by decide⟩ (Nat.le_of_ble_eq_true rfl) ⟨by decide, by decide⟩ (by cases hf; rfl)
  · replace hf := me_oqs hf
    refine me_astore_n C 3 (Or.inr (Or.inl ⟨_, rfl⟩)) dX11_receive_15 rfl (by decide) (L' := [(3, me_r 8 r2i), (0, me_r 0 0), (1, me_i v1), (2, me_i v2)]) rfl ?_
    refine me_aload_n C 3 (Or.inr (Or.inl ⟨_, rfl⟩)) dX11_receive_16 rfl rfl ?_
    refine me_ifnonnull_r C (tgt := 30) dX11_receive_17 (by decide) ?_
    refine me_aload_n C 3 (Or.inr (Or.inl ⟨_, rfl⟩)) dX11_receive_30 rfl rfl ?_
    refine me_bipush C (v := 114) dX11_receive_31 (by decide) ?_
    obtain ⟨μ3, e_μ3, hf⟩ := me_lts hf
    refine me_puti C 2 fw_Y_151 dX11_receive_33 rfl (by decide +kernel) e_μ3 ?_
    refine me_aload_n C 3 (Or.inr (Or.inl ⟨_, rfl⟩)) dX11_receive_36 rfl rfl ?_
    refine me_geti C 0 fg_Y_188 dX11_receive_37 rfl ?_
    exact me_iret C N dX11_receive_40 (me_nri _) (by cases hf; rfl) (by decide) (by decide)
theorem c_Y_receive {B : me_B} (hB : me_St B) {μ : me_M} {v1 : Int32} {v2 : Int32} {μ' : me_M} {r : Except Nat Int32}  (hf : f_Y_receive μ v1 v2 = some (μ', r)) : ∀ l E z, l.stackTraces = false → me_Met l yX11_receive cX11_receive 4 (some .int) 8 133 3 18 E B μ z [me_r 0 0, me_i v1, me_i v2] (B, μ', me_xc (fun v => some (me_i v)) r) :=
  fun _ _ _ hl => me_ofZ hl (by decide +kernel) (Nat.le_of_ble_eq_true rfl) (fun _ C N hNx => z_Y_receive C N hNx hB  hf)

def f_Y_setAllPlaces_b7 (K7 : me_M → Int32 → Int32 → Option (me_M × Unit)) (μ : me_M) (v1 : Int32) (v2 : Int32) : Option (me_M × Unit) :=
  if (16 : Int32) ≤ v2 then
  (some (μ, ()))
  else
  (me_gd (me_inb v2 16) (
  me_b2 (f_Router_setPlaces μ (me_ix v2) v1) (fun μ4 r3 =>
  me_lt (me_inc v2 (1)) (fun x5 =>
  K7 μ4 v1 x5))))
set_option maxHeartbeats 4000000 in
set_option maxRecDepth 100000 in
theorem z_Y_setAllPlaces_b7 {X : me_X} {B : me_B} {sz : Nat} (C : me_C X B RX11 cX11_setAllPlaces 3 none) {μ : me_M} {v1 : Int32} {v2 : Int32}  {K7 : me_M → Int32 → Int32 → Option (me_M × Unit)} {r : me_M × Unit} (N : me_En X B sz (B, r.1, .ok (none)) 1 22 0 0) (hNx : me_Nx X) (hB : me_St B) (hK7 : ∀ (μ : me_M) (v1 : Int32) (v2 : Int32), K7 μ v1 v2 = some r → me_Z X B 0 0 μ 7 [(0, me_r 0 0), (1, me_i v1), (2, me_i v2)] [])  (hf : f_Y_setAllPlaces_b7 K7 μ v1 v2 = some r) : me_Z X B 0 0 μ 7 [(0, me_r 0 0), (1, me_i v1), (2, me_i v2)] [] := by
  unfold f_Y_setAllPlaces_b7 at hf
  refine me_iload_n C 2 dX11_setAllPlaces_7 rfl rfl ?_
  refine me_bipush C (v := 16) dX11_setAllPlaces_8 (by decide) ?_
  refine me_icmp_ge C (tgt := 29) dX11_setAllPlaces_10 (by decide) (fun c1 => ?_) (fun c1 => ?_)
  · replace hf := me_ip c1 hf
    exact me_vret C N dX11_setAllPlaces_29 (by cases hf; rfl) (by decide) (by decide)
  · replace hf := me_in c1 hf
    refine me_aload_n C 0 (Or.inr (Or.inl ⟨_, rfl⟩)) dX11_setAllPlaces_13 rfl rfl ?_
    refine me_getr C hB 3 (k' := 12) (i' := 0) fg_Y_34 dX11_setAllPlaces_14 rfl rfl ?_
    refine me_iload_n C 2 dX11_setAllPlaces_17 rfl rfl ?_
    obtain ⟨g2, hf⟩ := me_gs hf
    refine me_aald C hB (k' := 13) (i' := (me_ix v2)) rfl (fun _ => rfl) rfl g2 dX11_setAllPlaces_18 rfl ?_
    refine me_iload_n C 1 dX11_setAllPlaces_19 rfl rfl ?_
    obtain ⟨μ4, r3, h_r3, hf⟩ := me_bs2 hf
    refine me_callV0 C N  (As := [me_i v1]) (st := []) 0 0 (c_Router_setPlaces hB h_r3) mv_Router_setPlaces ml_Y_412 rfl rfl dX11_setAllPlaces_20 rfl rfl ⟨by decide, by decide⟩ ⟨by decide, by decide, by decide, by decide⟩ (Nat.le_of_ble_eq_true rfl) ?_
    obtain ⟨x5, e_x5, hf⟩ := me_lts hf
    refine me_iinc C (v := x5) (L' := [(2, me_i x5), (0, me_r 0 0), (1, me_i v1)]) dX11_setAllPlaces_23 rfl e_x5.symm (by decide) rfl ?_
    refine me_goto C (tgt := 7) dX11_setAllPlaces_26 (by decide) ?_
    refine me_dropI [(0, me_r 0 0), (1, me_i v1), (2, me_i x5)] [1, 2, 0] rfl ?_
    exact hK7 μ4 v1 x5 hf
def f_Y_setAllPlaces_h7  : Nat → me_M → Int32 → Int32 → Option (me_M × Unit)
  | 0, _, _, _ => none
  | n + 1, μ, v1, v2 => f_Y_setAllPlaces_b7 (f_Y_setAllPlaces_h7 n) μ v1 v2
set_option maxHeartbeats 4000000 in
set_option maxRecDepth 100000 in
theorem z_Y_setAllPlaces_h7 {X : me_X} {B : me_B} {sz : Nat} (C : me_C X B RX11 cX11_setAllPlaces 3 none)  {r : me_M × Unit} (N : me_En X B sz (B, r.1, .ok (none)) 1 22 0 0) (hNx : me_Nx X) (hB : me_St B)  : ∀ (n : Nat) (μ : me_M) (v1 : Int32) (v2 : Int32), f_Y_setAllPlaces_h7 n μ v1 v2 = some r → me_Z X B 0 0 μ 7 [(0, me_r 0 0), (1, me_i v1), (2, me_i v2)] [] := by
  intro n
  induction n with
  | zero => intro μ v1 v2  h; exact absurd (show (none : Option (me_M × Unit)) = some r from h) (fun q => by cases q)
  | succ n ih => intro μ v1 v2  h; exact z_Y_setAllPlaces_b7 C N hNx hB  (K7 := f_Y_setAllPlaces_h7 n) ih  h
def f_Y_setAllPlaces (μ : me_M) (v1 : Int32) : Option (me_M × Unit) :=
  me_lt (me_up μ 0 0 9 v1) (fun μ1 =>
  f_Y_setAllPlaces_h7 me_FU μ1 v1 (0 : Int32))
set_option maxHeartbeats 4000000 in
set_option maxRecDepth 100000 in
theorem z_Y_setAllPlaces {X : me_X} {B : me_B} {sz : Nat} (C : me_C X B RX11 cX11_setAllPlaces 3 none) {μ : me_M} {v1 : Int32}   {r : me_M × Unit} (N : me_En X B sz (B, r.1, .ok (none)) 1 22 0 0) (hNx : me_Nx X) (hB : me_St B)   (hf : f_Y_setAllPlaces μ v1 = some r) : me_Z X B 0 0 μ 0 [(0, me_r 0 0), (1, me_i v1)] [] := by
  unfold f_Y_setAllPlaces at hf
  refine me_aload_n C 0 (Or.inr (Or.inl ⟨_, rfl⟩)) dX11_setAllPlaces_0 rfl rfl ?_
  refine me_iload_n C 1 dX11_setAllPlaces_1 rfl rfl ?_
  obtain ⟨μ1, e_μ1, hf⟩ := me_lts hf
  refine me_puti C 9 fw_Y_225 dX11_setAllPlaces_2 rfl (me_nri _) e_μ1 ?_
  refine me_iconst C (v := 0) dX11_setAllPlaces_5 (by decide) ?_
  refine me_istore_n C 2 dX11_setAllPlaces_6 rfl (by decide) (L' := [(2, me_i (0 : Int32)), (0, me_r 0 0), (1, me_i v1)]) rfl ?_
  refine me_dropI [(0, me_r 0 0), (1, me_i v1), (2, me_i (0 : Int32))] [1, 2, 0] rfl ?_
  exact z_Y_setAllPlaces_h7 C N hNx hB me_FU μ1 v1 (0 : Int32) hf
theorem c_Y_setAllPlaces {B : me_B} (hB : me_St B) {μ : me_M} {v1 : Int32} {μ' : me_M} {r : Unit}  (hf : f_Y_setAllPlaces μ v1 = some (μ', r)) : ∀ l E z, l.stackTraces = false → me_Met l yX11_setAllPlaces cX11_setAllPlaces 3 none 1 22 0 0 E B μ z [me_r 0 0, me_i v1] (B, μ', .ok (none)) :=
  fun _ _ _ hl => me_ofZ hl (by decide +kernel) (Nat.le_of_ble_eq_true rfl) (fun _ C N hNx => z_Y_setAllPlaces C N hNx hB  hf)

def f_Y_makeAnew_b41 (K41 : me_M → Int32 → Option (me_M × Unit)) (μ : me_M) (v3 : Int32) : Option (me_M × Unit) :=
  if (16 : Int32) ≤ v3 then
  (me_b2 (f_Y_setAllPlaces μ (2 : Int32)) (fun μ3 r2 =>
  some (μ3, ())))
  else
  (me_gd (me_inb v3 16) (
  me_b2 (f_Router_reset μ (me_ix v3)) (fun μ6 r5 =>
  me_gd (me_inb v3 16) (
  me_b2 (f_Core_reset μ6 (me_ix v3)) (fun μ9 r8 =>
  me_lt (me_inc v3 (1)) (fun x10 =>
  K41 μ9 x10))))))
set_option maxHeartbeats 4000000 in
set_option maxRecDepth 100000 in
theorem z_Y_makeAnew_b41 {X : me_X} {B : me_B} {sz : Nat} (C : me_C X B RX11 cX11_makeAnew 4 none) {μ : me_M} {v3 : Int32}  {K41 : me_M → Int32 → Option (me_M × Unit)} {r : me_M × Unit} (N : me_En X B sz (B, r.1, .ok (none)) 2 44 0 0) (hNx : me_Nx X) (hB : me_St B) (hK41 : ∀ (μ : me_M) (v3 : Int32), K41 μ v3 = some r → me_Z X B 0 0 μ 41 [(0, me_r 0 0), (3, me_i v3)] [])  (hf : f_Y_makeAnew_b41 K41 μ v3 = some r) : me_Z X B 0 0 μ 41 [(0, me_r 0 0), (3, me_i v3)] [] := by
  unfold f_Y_makeAnew_b41 at hf
  refine me_iload_n C 3 dX11_makeAnew_41 rfl rfl ?_
  refine me_bipush C (v := 16) dX11_makeAnew_42 (by decide) ?_
  refine me_icmp_ge C (tgt := 71) dX11_makeAnew_44 (by decide) (fun c1 => ?_) (fun c1 => ?_)
  · replace hf := me_ip c1 hf
    refine me_aload_n C 0 (Or.inr (Or.inl ⟨_, rfl⟩)) dX11_makeAnew_71 rfl rfl ?_
    refine me_iconst C (v := 2) dX11_makeAnew_72 (by decide) ?_
    obtain ⟨μ3, r2, h_r2, hf⟩ := me_bs2 hf
    refine me_callV0 C N  (As := [me_i (2 : Int32)]) (st := []) 0 0 (c_Y_setAllPlaces hB h_r2) mv_Y_setAllPlaces ml_Y_228 rfl rfl dX11_makeAnew_73 rfl rfl ⟨by decide, by decide⟩ ⟨by decide, by decide, by decide, by decide⟩ (Nat.le_of_ble_eq_true rfl) ?_
    exact me_vret C N dX11_makeAnew_76 (by cases hf; rfl) (by decide) (by decide)
  · replace hf := me_in c1 hf
    refine me_aload_n C 0 (Or.inr (Or.inl ⟨_, rfl⟩)) dX11_makeAnew_47 rfl rfl ?_
    refine me_getr C hB 3 (k' := 12) (i' := 0) fg_Y_34 dX11_makeAnew_48 rfl rfl ?_
    refine me_iload_n C 3 dX11_makeAnew_51 rfl rfl ?_
    obtain ⟨g4, hf⟩ := me_gs hf
    refine me_aald C hB (k' := 13) (i' := (me_ix v3)) rfl (fun _ => rfl) rfl g4 dX11_makeAnew_52 rfl ?_
    obtain ⟨μ6, r5, h_r5, hf⟩ := me_bs2 hf
    refine me_callV0 C N  (As := []) (st := []) 0 0 (c_Router_reset hB h_r5) mv_Router_reset ml_Y_410 rfl rfl dX11_makeAnew_53 rfl rfl ⟨by decide, by decide⟩ ⟨by decide, by decide, by decide, by decide⟩ (Nat.le_of_ble_eq_true rfl) ?_
    refine me_aload_n C 0 (Or.inr (Or.inl ⟨_, rfl⟩)) dX11_makeAnew_56 rfl rfl ?_
    refine me_getr C hB 4 (k' := 21) (i' := 0) fg_Y_40 dX11_makeAnew_57 rfl rfl ?_
    refine me_iload_n C 3 dX11_makeAnew_60 rfl rfl ?_
    obtain ⟨g7, hf⟩ := me_gs hf
    refine me_aald C hB (k' := 22) (i' := (me_ix v3)) rfl (fun _ => rfl) rfl g7 dX11_makeAnew_61 rfl ?_
    obtain ⟨μ9, r8, h_r8, hf⟩ := me_bs2 hf
    refine me_callV0 C N  (As := []) (st := []) 0 0 (c_Core_reset hB h_r8) mv_Core_reset ml_Y_411 rfl rfl dX11_makeAnew_62 rfl rfl ⟨by decide, by decide⟩ ⟨by decide, by decide, by decide, by decide⟩ (Nat.le_of_ble_eq_true rfl) ?_
    obtain ⟨x10, e_x10, hf⟩ := me_lts hf
    refine me_iinc C (v := x10) (L' := [(3, me_i x10), (0, me_r 0 0)]) dX11_makeAnew_65 rfl e_x10.symm (by decide) rfl ?_
    refine me_goto C (tgt := 41) dX11_makeAnew_68 (by decide) ?_
    refine me_dropI [(0, me_r 0 0), (3, me_i x10)] [1, 0] rfl ?_
    exact hK41 μ9 x10 hf
def f_Y_makeAnew_h41  : Nat → me_M → Int32 → Option (me_M × Unit)
  | 0, _, _ => none
  | n + 1, μ, v3 => f_Y_makeAnew_b41 (f_Y_makeAnew_h41 n) μ v3
set_option maxHeartbeats 4000000 in
set_option maxRecDepth 100000 in
theorem z_Y_makeAnew_h41 {X : me_X} {B : me_B} {sz : Nat} (C : me_C X B RX11 cX11_makeAnew 4 none)  {r : me_M × Unit} (N : me_En X B sz (B, r.1, .ok (none)) 2 44 0 0) (hNx : me_Nx X) (hB : me_St B)  : ∀ (n : Nat) (μ : me_M) (v3 : Int32), f_Y_makeAnew_h41 n μ v3 = some r → me_Z X B 0 0 μ 41 [(0, me_r 0 0), (3, me_i v3)] [] := by
  intro n
  induction n with
  | zero => intro μ v3  h; exact absurd (show (none : Option (me_M × Unit)) = some r from h) (fun q => by cases q)
  | succ n ih => intro μ v3  h; exact z_Y_makeAnew_b41 C N hNx hB  (K41 := f_Y_makeAnew_h41 n) ih  h
def f_Y_makeAnew (μ : me_M) (v1 : Int32) (v2 : Int32) : Option (me_M × Unit) :=
  me_b2 (f_Net_lay μ v1 v2) (fun μ2 r1 =>
  me_b2 (f_Post_reset μ2) (fun μ4 r3 =>
  me_b2 (f_Placing_reset μ4) (fun μ6 r5 =>
  me_lt (me_up μ6 27 0 4 (120 : Int32)) (fun μ7 =>
  me_b2 (f_Mover_reset μ7) (fun μ9 r8 =>
  f_Y_makeAnew_h41 me_FU μ9 (0 : Int32))))))
set_option maxHeartbeats 4000000 in
set_option maxRecDepth 100000 in
theorem z_Y_makeAnew {X : me_X} {B : me_B} {sz : Nat} (C : me_C X B RX11 cX11_makeAnew 4 none) {μ : me_M} {v1 : Int32} {v2 : Int32}   {r : me_M × Unit} (N : me_En X B sz (B, r.1, .ok (none)) 2 44 0 0) (hNx : me_Nx X) (hB : me_St B)   (hf : f_Y_makeAnew μ v1 v2 = some r) : me_Z X B 0 0 μ 0 [(0, me_r 0 0), (1, me_i v1), (2, me_i v2)] [] := by
  unfold f_Y_makeAnew at hf
  refine me_aload_n C 0 (Or.inr (Or.inl ⟨_, rfl⟩)) dX11_makeAnew_0 rfl rfl ?_
  refine me_getr C hB 0 (k' := 1) (i' := 0) fg_Y_10 dX11_makeAnew_1 rfl rfl ?_
  refine me_iload_n C 1 dX11_makeAnew_4 rfl rfl ?_
  refine me_iload_n C 2 dX11_makeAnew_5 rfl rfl ?_
  obtain ⟨μ2, r1, h_r1, hf⟩ := me_bs2 hf
  refine me_callV0 C N  (As := [me_i v1, me_i v2]) (st := []) 0 0 (c_Net_lay hB h_r1) mv_Net_lay ml_Y_402 rfl rfl dX11_makeAnew_6 rfl rfl ⟨by decide, by decide⟩ ⟨by decide, by decide, by decide, by decide⟩ (Nat.le_of_ble_eq_true rfl) ?_
  refine me_aload_n C 0 (Or.inr (Or.inl ⟨_, rfl⟩)) dX11_makeAnew_9 rfl rfl ?_
  refine me_getr C hB 1 (k' := 6) (i' := 0) fg_Y_19 dX11_makeAnew_10 rfl rfl ?_
  obtain ⟨μ4, r3, h_r3, hf⟩ := me_bs2 hf
  refine me_callV0 C N  (As := []) (st := []) 0 0 (c_Post_reset hB h_r3) mv_Post_reset ml_Y_405 rfl rfl dX11_makeAnew_13 rfl rfl ⟨by decide, by decide⟩ ⟨by decide, by decide, by decide, by decide⟩ (Nat.le_of_ble_eq_true rfl) ?_
  refine me_aload_n C 0 (Or.inr (Or.inl ⟨_, rfl⟩)) dX11_makeAnew_16 rfl rfl ?_
  refine me_getr C hB 2 (k' := 9) (i' := 0) fg_Y_28 dX11_makeAnew_17 rfl rfl ?_
  obtain ⟨μ6, r5, h_r5, hf⟩ := me_bs2 hf
  refine me_callV0 C N  (As := []) (st := []) 0 0 (c_Placing_reset hB h_r5) mv_Placing_reset ml_Y_408 rfl rfl dX11_makeAnew_20 rfl rfl ⟨by decide, by decide⟩ ⟨by decide, by decide, by decide, by decide⟩ (Nat.le_of_ble_eq_true rfl) ?_
  refine me_aload_n C 0 (Or.inr (Or.inl ⟨_, rfl⟩)) dX11_makeAnew_23 rfl rfl ?_
  refine me_getr C hB 5 (k' := 27) (i' := 0) fg_Y_49 dX11_makeAnew_24 rfl rfl ?_
  refine me_bipush C (v := 120) dX11_makeAnew_27 (by decide) ?_
  obtain ⟨μ7, e_μ7, hf⟩ := me_lts hf
  refine me_puti C 4 fw_Y_222 dX11_makeAnew_29 rfl (by decide +kernel) e_μ7 ?_
  refine me_aload_n C 0 (Or.inr (Or.inl ⟨_, rfl⟩)) dX11_makeAnew_32 rfl rfl ?_
  refine me_getr C hB 6 (k' := 30) (i' := 0) fg_Y_58 dX11_makeAnew_33 rfl rfl ?_
  obtain ⟨μ9, r8, h_r8, hf⟩ := me_bs2 hf
  refine me_callV0 C N  (As := []) (st := []) 0 0 (c_Mover_reset hB h_r8) mv_Mover_reset ml_Y_409 rfl rfl dX11_makeAnew_36 rfl rfl ⟨by decide, by decide⟩ ⟨by decide, by decide, by decide, by decide⟩ (Nat.le_of_ble_eq_true rfl) ?_
  refine me_iconst C (v := 0) dX11_makeAnew_39 (by decide) ?_
  refine me_istore_n C 3 dX11_makeAnew_40 rfl (by decide) (L' := [(3, me_i (0 : Int32)), (0, me_r 0 0), (1, me_i v1), (2, me_i v2)]) rfl ?_
  refine me_dropI [(0, me_r 0 0), (3, me_i (0 : Int32))] [1, 0] rfl ?_
  exact z_Y_makeAnew_h41 C N hNx hB me_FU μ9 (0 : Int32) hf
theorem c_Y_makeAnew {B : me_B} (hB : me_St B) {μ : me_M} {v1 : Int32} {v2 : Int32} {μ' : me_M} {r : Unit}  (hf : f_Y_makeAnew μ v1 v2 = some (μ', r)) : ∀ l E z, l.stackTraces = false → me_Met l yX11_makeAnew cX11_makeAnew 4 none 2 44 0 0 E B μ z [me_r 0 0, me_i v1, me_i v2] (B, μ', .ok (none)) :=
  fun _ _ _ hl => me_ofZ hl (by decide +kernel) (Nat.le_of_ble_eq_true rfl) (fun _ C N hNx => z_Y_makeAnew C N hNx hB  hf)

def f_Y_net (μ : me_M) (v1 : Int32) (v2 : Int32) : Option (me_M × (Except Nat Int32)) :=
  me_bd (f_Y_needRange μ v1 (1 : Int32) (4 : Int32)) (fun r1 =>
  me_xb2 r1 μ (fun r1 =>
  me_bd (f_Y_needRange μ v2 (1 : Int32) (4 : Int32)) (fun r2 =>
  me_xb2 r2 μ (fun r2 =>
  me_b2 (f_Y_makeAnew μ v1 v2) (fun μ4 r3 =>
  some (μ4, .ok (μ4 1 0 4)))))))
set_option maxHeartbeats 4000000 in
set_option maxRecDepth 100000 in
theorem z_Y_net {X : me_X} {B : me_B} {sz : Nat} (C : me_C X B RX11 cX11_net 3 (some .int)) {μ : me_M} {v1 : Int32} {v2 : Int32}   {r : me_M × (Except Nat Int32)} (N : me_En X B sz (B, r.1, me_xc (fun v => some (me_i v)) r.2) 7 113 2 12) (hNx : me_Nx X) (hB : me_St B)   (hf : f_Y_net μ v1 v2 = some r) : me_Z X B 0 0 μ 0 [(0, me_r 0 0), (1, me_i v1), (2, me_i v2)] [] := by
  unfold f_Y_net at hf
  refine me_aload_n C 0 (Or.inr (Or.inl ⟨_, rfl⟩)) dX11_net_0 rfl rfl ?_
  refine me_iload_n C 1 dX11_net_1 rfl rfl ?_
  refine me_iconst C (v := 1) dX11_net_2 (by decide) ?_
  refine me_iconst C (v := 4) dX11_net_3 (by decide) ?_
  obtain ⟨r1, h_r1, hf⟩ := me_bs hf
  rcases r1 with r1 | r1
  · replace hf := me_xb2e hf
    refine me_callVE C N  (As := [me_i v1, me_i (1 : Int32), me_i (4 : Int32)]) (st := []) 1 6 (c_Y_needRange hB h_r1) mv_Y_needRange ml_Y_87 rfl rfl dX11_net_4 rfl rfl ⟨by decide, by decide⟩ ⟨by decide, by decide, by decide, by decide⟩ (Nat.le_of_ble_eq_true rfl) ?_
    exact me_outX C N hNx (by cases hf; rfl) (by decide) (by decide)
  replace hf := me_xb2o hf
  refine me_callV0 C N  (As := [me_i v1, me_i (1 : Int32), me_i (4 : Int32)]) (st := []) 1 6 (c_Y_needRange hB h_r1) mv_Y_needRange ml_Y_87 rfl rfl dX11_net_4 rfl rfl ⟨by decide, by decide⟩ ⟨by decide, by decide, by decide, by decide⟩ (Nat.le_of_ble_eq_true rfl) ?_
  refine me_aload_n C 0 (Or.inr (Or.inl ⟨_, rfl⟩)) dX11_net_7 rfl rfl ?_
  refine me_iload_n C 2 dX11_net_8 rfl rfl ?_
  refine me_iconst C (v := 1) dX11_net_9 (by decide) ?_
  refine me_iconst C (v := 4) dX11_net_10 (by decide) ?_
  obtain ⟨r2, h_r2, hf⟩ := me_bs hf
  rcases r2 with r2 | r2
  · replace hf := me_xb2e hf
    refine me_callVE C N  (As := [me_i v2, me_i (1 : Int32), me_i (4 : Int32)]) (st := []) 2 12 (c_Y_needRange hB h_r2) mv_Y_needRange ml_Y_87 rfl rfl dX11_net_11 rfl rfl ⟨by decide, by decide⟩ ⟨by decide, by decide, by decide, by decide⟩ (Nat.le_of_ble_eq_true rfl) ?_
    exact me_outX C N hNx (by cases hf; rfl) (by decide) (by decide)
  replace hf := me_xb2o hf
  refine me_callV0 C N  (As := [me_i v2, me_i (1 : Int32), me_i (4 : Int32)]) (st := []) 2 12 (c_Y_needRange hB h_r2) mv_Y_needRange ml_Y_87 rfl rfl dX11_net_11 rfl rfl ⟨by decide, by decide⟩ ⟨by decide, by decide, by decide, by decide⟩ (Nat.le_of_ble_eq_true rfl) ?_
  refine me_aload_n C 0 (Or.inr (Or.inl ⟨_, rfl⟩)) dX11_net_14 rfl rfl ?_
  refine me_iload_n C 1 dX11_net_15 rfl rfl ?_
  refine me_iload_n C 2 dX11_net_16 rfl rfl ?_
  obtain ⟨μ4, r3, h_r3, hf⟩ := me_bs2 hf
  refine me_callV0 C N  (As := [me_i v1, me_i v2]) (st := []) 2 12 (c_Y_makeAnew hB h_r3) mv_Y_makeAnew ml_Y_80 rfl rfl dX11_net_17 rfl rfl ⟨by decide, by decide⟩ ⟨by decide, by decide, by decide, by decide⟩ (Nat.le_of_ble_eq_true rfl) ?_
  refine me_aload_n C 0 (Or.inr (Or.inl ⟨_, rfl⟩)) dX11_net_20 rfl rfl ?_
  refine me_getr C hB 0 (k' := 1) (i' := 0) fg_Y_10 dX11_net_21 rfl rfl ?_
  refine me_geti C 4 fg_Y_106 dX11_net_24 rfl ?_
  exact me_iret C N dX11_net_27 (me_nri _) (by cases hf; rfl) (by decide) (by decide)
theorem c_Y_net {B : me_B} (hB : me_St B) {μ : me_M} {v1 : Int32} {v2 : Int32} {μ' : me_M} {r : Except Nat Int32}  (hf : f_Y_net μ v1 v2 = some (μ', r)) : ∀ l E z, l.stackTraces = false → me_Met l yX11_net cX11_net 3 (some .int) 7 113 2 12 E B μ z [me_r 0 0, me_i v1, me_i v2] (B, μ', me_xc (fun v => some (me_i v)) r) :=
  fun _ _ _ hl => me_ofZ hl (by decide +kernel) (Nat.le_of_ble_eq_true rfl) (fun _ C N hNx => z_Y_net C N hNx hB  hf)
