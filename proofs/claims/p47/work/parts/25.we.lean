/-! WALKS: Net_lay, Packet_wasDelivered, Packet_piecesInRows, Packet_beatsTaken, Placing_reset, Post_reset, Post_hasRoom, Post_liesAt, Post_countLying, Post_firstLying, Post_countLost, Row_reset, Router_reset, Router_setPlaces, Router_isIdle, Works_receiveWord, Works_sendWord -/
theorem dX3_lay_0 : decode cX3_lay 0 = .ok (.aload_n 0, 1) := by decide +kernel
theorem dX3_lay_1 : decode cX3_lay 1 = .ok (.iload_n 1, 1) := by decide +kernel
theorem dX3_lay_2 : decode cX3_lay 2 = .ok (.iload_n 2, 1) := by decide +kernel
theorem dX3_lay_3 : decode cX3_lay 3 = .ok (.imul, 1) := by decide +kernel
theorem dX3_lay_4 : decode cX3_lay 4 = .ok (.putfield 25, 3) := by decide +kernel
theorem dX3_lay_7 : decode cX3_lay 7 = .ok (.iconst 0, 1) := by decide +kernel
theorem dX3_lay_8 : decode cX3_lay 8 = .ok (.istore_n 3, 1) := by decide +kernel
theorem dX3_lay_9 : decode cX3_lay 9 = .ok (.iconst 0, 1) := by decide +kernel
theorem dX3_lay_10 : decode cX3_lay 10 = .ok (.istore 4, 2) := by decide +kernel
theorem dX3_lay_12 : decode cX3_lay 12 = .ok (.iload 4, 2) := by decide +kernel
theorem dX3_lay_14 : decode cX3_lay 14 = .ok (.iload_n 2, 1) := by decide +kernel
theorem dX3_lay_15 : decode cX3_lay 15 = .ok (.if_icmp .ge 143, 3) := by decide +kernel
theorem dX3_lay_18 : decode cX3_lay 18 = .ok (.iconst 0, 1) := by decide +kernel
theorem dX3_lay_19 : decode cX3_lay 19 = .ok (.istore 5, 2) := by decide +kernel
theorem dX3_lay_21 : decode cX3_lay 21 = .ok (.iload 5, 2) := by decide +kernel
theorem dX3_lay_23 : decode cX3_lay 23 = .ok (.iload_n 1, 1) := by decide +kernel
theorem dX3_lay_24 : decode cX3_lay 24 = .ok (.if_icmp .ge 128, 3) := by decide +kernel
theorem dX3_lay_27 : decode cX3_lay 27 = .ok (.iload_n 3, 1) := by decide +kernel
theorem dX3_lay_28 : decode cX3_lay 28 = .ok (.bipush 16, 2) := by decide +kernel
theorem dX3_lay_30 : decode cX3_lay 30 = .ok (.if_icmp .ge 122, 3) := by decide +kernel
theorem dX3_lay_33 : decode cX3_lay 33 = .ok (.aload_n 0, 1) := by decide +kernel
theorem dX3_lay_34 : decode cX3_lay 34 = .ok (.getfield 19, 3) := by decide +kernel
theorem dX3_lay_37 : decode cX3_lay 37 = .ok (.iload_n 3, 1) := by decide +kernel
theorem dX3_lay_38 : decode cX3_lay 38 = .ok (.iload 5, 2) := by decide +kernel
theorem dX3_lay_40 : decode cX3_lay 40 = .ok (.iastore, 1) := by decide +kernel
theorem dX3_lay_41 : decode cX3_lay 41 = .ok (.aload_n 0, 1) := by decide +kernel
theorem dX3_lay_42 : decode cX3_lay 42 = .ok (.getfield 22, 3) := by decide +kernel
theorem dX3_lay_45 : decode cX3_lay 45 = .ok (.iload_n 3, 1) := by decide +kernel
theorem dX3_lay_46 : decode cX3_lay 46 = .ok (.iload 4, 2) := by decide +kernel
theorem dX3_lay_48 : decode cX3_lay 48 = .ok (.iastore, 1) := by decide +kernel
theorem dX3_lay_49 : decode cX3_lay 49 = .ok (.aload_n 0, 1) := by decide +kernel
theorem dX3_lay_50 : decode cX3_lay 50 = .ok (.getfield 9, 3) := by decide +kernel
theorem dX3_lay_53 : decode cX3_lay 53 = .ok (.iload_n 3, 1) := by decide +kernel
theorem dX3_lay_54 : decode cX3_lay 54 = .ok (.iconst 4, 1) := by decide +kernel
theorem dX3_lay_55 : decode cX3_lay 55 = .ok (.imul, 1) := by decide +kernel
theorem dX3_lay_56 : decode cX3_lay 56 = .ok (.iconst 0, 1) := by decide +kernel
theorem dX3_lay_57 : decode cX3_lay 57 = .ok (.iadd, 1) := by decide +kernel
theorem dX3_lay_58 : decode cX3_lay 58 = .ok (.iload 5, 2) := by decide +kernel
theorem dX3_lay_60 : decode cX3_lay 60 = .ok (.iconst 1, 1) := by decide +kernel
theorem dX3_lay_61 : decode cX3_lay 61 = .ok (.iadd, 1) := by decide +kernel
theorem dX3_lay_62 : decode cX3_lay 62 = .ok (.iload_n 1, 1) := by decide +kernel
theorem dX3_lay_63 : decode cX3_lay 63 = .ok (.if_icmp .ge 9, 3) := by decide +kernel
theorem dX3_lay_66 : decode cX3_lay 66 = .ok (.iload_n 3, 1) := by decide +kernel
theorem dX3_lay_67 : decode cX3_lay 67 = .ok (.iconst 1, 1) := by decide +kernel
theorem dX3_lay_68 : decode cX3_lay 68 = .ok (.iadd, 1) := by decide +kernel
theorem dX3_lay_69 : decode cX3_lay 69 = .ok (.goto 4, 3) := by decide +kernel
theorem dX3_lay_72 : decode cX3_lay 72 = .ok (.iconst (-1), 1) := by decide +kernel
theorem dX3_lay_73 : decode cX3_lay 73 = .ok (.iastore, 1) := by decide +kernel
theorem dX3_lay_74 : decode cX3_lay 74 = .ok (.aload_n 0, 1) := by decide +kernel
theorem dX3_lay_75 : decode cX3_lay 75 = .ok (.getfield 9, 3) := by decide +kernel
theorem dX3_lay_78 : decode cX3_lay 78 = .ok (.iload_n 3, 1) := by decide +kernel
theorem dX3_lay_79 : decode cX3_lay 79 = .ok (.iconst 4, 1) := by decide +kernel
theorem dX3_lay_80 : decode cX3_lay 80 = .ok (.imul, 1) := by decide +kernel
theorem dX3_lay_81 : decode cX3_lay 81 = .ok (.iconst 1, 1) := by decide +kernel
theorem dX3_lay_82 : decode cX3_lay 82 = .ok (.iadd, 1) := by decide +kernel
theorem dX3_lay_83 : decode cX3_lay 83 = .ok (.iload 5, 2) := by decide +kernel
theorem dX3_lay_85 : decode cX3_lay 85 = .ok (.ifCond .le 9, 3) := by decide +kernel
theorem dX3_lay_88 : decode cX3_lay 88 = .ok (.iload_n 3, 1) := by decide +kernel
theorem dX3_lay_89 : decode cX3_lay 89 = .ok (.iconst 1, 1) := by decide +kernel
theorem dX3_lay_90 : decode cX3_lay 90 = .ok (.isub, 1) := by decide +kernel
theorem dX3_lay_91 : decode cX3_lay 91 = .ok (.goto 4, 3) := by decide +kernel
theorem dX3_lay_94 : decode cX3_lay 94 = .ok (.iconst (-1), 1) := by decide +kernel
theorem dX3_lay_95 : decode cX3_lay 95 = .ok (.iastore, 1) := by decide +kernel
theorem dX3_lay_96 : decode cX3_lay 96 = .ok (.aload_n 0, 1) := by decide +kernel
theorem dX3_lay_97 : decode cX3_lay 97 = .ok (.getfield 9, 3) := by decide +kernel
theorem dX3_lay_100 : decode cX3_lay 100 = .ok (.iload_n 3, 1) := by decide +kernel
theorem dX3_lay_101 : decode cX3_lay 101 = .ok (.iconst 4, 1) := by decide +kernel
theorem dX3_lay_102 : decode cX3_lay 102 = .ok (.imul, 1) := by decide +kernel
theorem dX3_lay_103 : decode cX3_lay 103 = .ok (.iconst 2, 1) := by decide +kernel
theorem dX3_lay_104 : decode cX3_lay 104 = .ok (.iadd, 1) := by decide +kernel
theorem dX3_lay_105 : decode cX3_lay 105 = .ok (.iload 4, 2) := by decide +kernel
theorem dX3_lay_107 : decode cX3_lay 107 = .ok (.iconst 1, 1) := by decide +kernel
theorem dX3_lay_108 : decode cX3_lay 108 = .ok (.iadd, 1) := by decide +kernel
theorem dX3_lay_109 : decode cX3_lay 109 = .ok (.iload_n 2, 1) := by decide +kernel
theorem dX3_lay_110 : decode cX3_lay 110 = .ok (.if_icmp .ge 9, 3) := by decide +kernel
theorem dX3_lay_113 : decode cX3_lay 113 = .ok (.iload_n 3, 1) := by decide +kernel
theorem dX3_lay_114 : decode cX3_lay 114 = .ok (.iload_n 1, 1) := by decide +kernel
theorem dX3_lay_115 : decode cX3_lay 115 = .ok (.iadd, 1) := by decide +kernel
theorem dX3_lay_116 : decode cX3_lay 116 = .ok (.goto 4, 3) := by decide +kernel
theorem dX3_lay_119 : decode cX3_lay 119 = .ok (.iconst (-1), 1) := by decide +kernel
theorem dX3_lay_120 : decode cX3_lay 120 = .ok (.iastore, 1) := by decide +kernel
theorem dX3_lay_121 : decode cX3_lay 121 = .ok (.aload_n 0, 1) := by decide +kernel
theorem dX3_lay_122 : decode cX3_lay 122 = .ok (.getfield 9, 3) := by decide +kernel
theorem dX3_lay_125 : decode cX3_lay 125 = .ok (.iload_n 3, 1) := by decide +kernel
theorem dX3_lay_126 : decode cX3_lay 126 = .ok (.iconst 4, 1) := by decide +kernel
theorem dX3_lay_127 : decode cX3_lay 127 = .ok (.imul, 1) := by decide +kernel
theorem dX3_lay_128 : decode cX3_lay 128 = .ok (.iconst 3, 1) := by decide +kernel
theorem dX3_lay_129 : decode cX3_lay 129 = .ok (.iadd, 1) := by decide +kernel
theorem dX3_lay_130 : decode cX3_lay 130 = .ok (.iload 4, 2) := by decide +kernel
theorem dX3_lay_132 : decode cX3_lay 132 = .ok (.ifCond .le 9, 3) := by decide +kernel
theorem dX3_lay_135 : decode cX3_lay 135 = .ok (.iload_n 3, 1) := by decide +kernel
theorem dX3_lay_136 : decode cX3_lay 136 = .ok (.iload_n 1, 1) := by decide +kernel
theorem dX3_lay_137 : decode cX3_lay 137 = .ok (.isub, 1) := by decide +kernel
theorem dX3_lay_138 : decode cX3_lay 138 = .ok (.goto 4, 3) := by decide +kernel
theorem dX3_lay_141 : decode cX3_lay 141 = .ok (.iconst (-1), 1) := by decide +kernel
theorem dX3_lay_142 : decode cX3_lay 142 = .ok (.iastore, 1) := by decide +kernel
theorem dX3_lay_143 : decode cX3_lay 143 = .ok (.iinc 3 1, 3) := by decide +kernel
theorem dX3_lay_146 : decode cX3_lay 146 = .ok (.iinc 5 1, 3) := by decide +kernel
theorem dX3_lay_149 : decode cX3_lay 149 = .ok (.goto (-128), 3) := by decide +kernel
theorem dX3_lay_152 : decode cX3_lay 152 = .ok (.iinc 4 1, 3) := by decide +kernel
theorem dX3_lay_155 : decode cX3_lay 155 = .ok (.goto (-143), 3) := by decide +kernel
theorem dX3_lay_158 : decode cX3_lay 158 = .ok (.iconst 0, 1) := by decide +kernel
theorem dX3_lay_159 : decode cX3_lay 159 = .ok (.istore 4, 2) := by decide +kernel
theorem dX3_lay_161 : decode cX3_lay 161 = .ok (.iload 4, 2) := by decide +kernel
theorem dX3_lay_163 : decode cX3_lay 163 = .ok (.bipush 64, 2) := by decide +kernel
theorem dX3_lay_165 : decode cX3_lay 165 = .ok (.if_icmp .ge 17, 3) := by decide +kernel
theorem dX3_lay_168 : decode cX3_lay 168 = .ok (.aload_n 0, 1) := by decide +kernel
theorem dX3_lay_169 : decode cX3_lay 169 = .ok (.getfield 15, 3) := by decide +kernel
theorem dX3_lay_172 : decode cX3_lay 172 = .ok (.iload 4, 2) := by decide +kernel
theorem dX3_lay_174 : decode cX3_lay 174 = .ok (.iconst 0, 1) := by decide +kernel
theorem dX3_lay_175 : decode cX3_lay 175 = .ok (.bastore, 1) := by decide +kernel
theorem dX3_lay_176 : decode cX3_lay 176 = .ok (.iinc 4 1, 3) := by decide +kernel
theorem dX3_lay_179 : decode cX3_lay 179 = .ok (.goto (-18), 3) := by decide +kernel
theorem dX3_lay_182 : decode cX3_lay 182 = .ok (.return_, 1) := by decide +kernel
theorem dX4_wasDelivered_0 : decode cX4_wasDelivered 0 = .ok (.aload_n 0, 1) := by decide +kernel
theorem dX4_wasDelivered_1 : decode cX4_wasDelivered 1 = .ok (.getfield 23, 3) := by decide +kernel
theorem dX4_wasDelivered_4 : decode cX4_wasDelivered 4 = .ok (.bipush 100, 2) := by decide +kernel
theorem dX4_wasDelivered_6 : decode cX4_wasDelivered 6 = .ok (.if_icmp .eq 12, 3) := by decide +kernel
theorem dX4_wasDelivered_9 : decode cX4_wasDelivered 9 = .ok (.aload_n 0, 1) := by decide +kernel
theorem dX4_wasDelivered_10 : decode cX4_wasDelivered 10 = .ok (.getfield 23, 3) := by decide +kernel
theorem dX4_wasDelivered_13 : decode cX4_wasDelivered 13 = .ok (.bipush 114, 2) := by decide +kernel
theorem dX4_wasDelivered_15 : decode cX4_wasDelivered 15 = .ok (.if_icmp .ne 7, 3) := by decide +kernel
theorem dX4_wasDelivered_18 : decode cX4_wasDelivered 18 = .ok (.iconst 1, 1) := by decide +kernel
theorem dX4_wasDelivered_19 : decode cX4_wasDelivered 19 = .ok (.goto 4, 3) := by decide +kernel
theorem dX4_wasDelivered_22 : decode cX4_wasDelivered 22 = .ok (.iconst 0, 1) := by decide +kernel
theorem dX4_wasDelivered_23 : decode cX4_wasDelivered 23 = .ok (.ireturn, 1) := by decide +kernel
theorem dX4_piecesInRows_0 : decode cX4_piecesInRows 0 = .ok (.aload_n 0, 1) := by decide +kernel
theorem dX4_piecesInRows_1 : decode cX4_piecesInRows 1 = .ok (.getfield 23, 3) := by decide +kernel
theorem dX4_piecesInRows_4 : decode cX4_piecesInRows 4 = .ok (.bipush 108, 2) := by decide +kernel
theorem dX4_piecesInRows_6 : decode cX4_piecesInRows 6 = .ok (.if_icmp .ne 7, 3) := by decide +kernel
theorem dX4_piecesInRows_9 : decode cX4_piecesInRows 9 = .ok (.iconst 0, 1) := by decide +kernel
theorem dX4_piecesInRows_10 : decode cX4_piecesInRows 10 = .ok (.goto 12, 3) := by decide +kernel
theorem dX4_piecesInRows_13 : decode cX4_piecesInRows 13 = .ok (.aload_n 0, 1) := by decide +kernel
theorem dX4_piecesInRows_14 : decode cX4_piecesInRows 14 = .ok (.getfield 20, 3) := by decide +kernel
theorem dX4_piecesInRows_17 : decode cX4_piecesInRows 17 = .ok (.aload_n 0, 1) := by decide +kernel
theorem dX4_piecesInRows_18 : decode cX4_piecesInRows 18 = .ok (.getfield 26, 3) := by decide +kernel
theorem dX4_piecesInRows_21 : decode cX4_piecesInRows 21 = .ok (.isub, 1) := by decide +kernel
theorem dX4_piecesInRows_22 : decode cX4_piecesInRows 22 = .ok (.ireturn, 1) := by decide +kernel
theorem dX4_beatsTaken_0 : decode cX4_beatsTaken 0 = .ok (.aload_n 0, 1) := by decide +kernel
theorem dX4_beatsTaken_1 : decode cX4_beatsTaken 1 = .ok (.getfield 29, 3) := by decide +kernel
theorem dX4_beatsTaken_4 : decode cX4_beatsTaken 4 = .ok (.aload_n 0, 1) := by decide +kernel
theorem dX4_beatsTaken_5 : decode cX4_beatsTaken 5 = .ok (.getfield 32, 3) := by decide +kernel
theorem dX4_beatsTaken_8 : decode cX4_beatsTaken 8 = .ok (.isub, 1) := by decide +kernel
theorem dX4_beatsTaken_9 : decode cX4_beatsTaken 9 = .ok (.ireturn, 1) := by decide +kernel
theorem dX5_reset_0 : decode cX5_reset 0 = .ok (.aload_n 0, 1) := by decide +kernel
theorem dX5_reset_1 : decode cX5_reset 1 = .ok (.iconst 0, 1) := by decide +kernel
theorem dX5_reset_2 : decode cX5_reset 2 = .ok (.putfield 22, 3) := by decide +kernel
theorem dX5_reset_5 : decode cX5_reset 5 = .ok (.iconst 0, 1) := by decide +kernel
theorem dX5_reset_6 : decode cX5_reset 6 = .ok (.istore_n 1, 1) := by decide +kernel
theorem dX5_reset_7 : decode cX5_reset 7 = .ok (.iload_n 1, 1) := by decide +kernel
theorem dX5_reset_8 : decode cX5_reset 8 = .ok (.aload_n 0, 1) := by decide +kernel
theorem dX5_reset_9 : decode cX5_reset 9 = .ok (.getfield 15, 3) := by decide +kernel
theorem dX5_reset_12 : decode cX5_reset 12 = .ok (.arraylength, 1) := by decide +kernel
theorem dX5_reset_13 : decode cX5_reset 13 = .ok (.if_icmp .ge 16, 3) := by decide +kernel
theorem dX5_reset_16 : decode cX5_reset 16 = .ok (.aload_n 0, 1) := by decide +kernel
theorem dX5_reset_17 : decode cX5_reset 17 = .ok (.getfield 15, 3) := by decide +kernel
theorem dX5_reset_20 : decode cX5_reset 20 = .ok (.iload_n 1, 1) := by decide +kernel
theorem dX5_reset_21 : decode cX5_reset 21 = .ok (.iconst 0, 1) := by decide +kernel
theorem dX5_reset_22 : decode cX5_reset 22 = .ok (.iastore, 1) := by decide +kernel
theorem dX5_reset_23 : decode cX5_reset 23 = .ok (.iinc 1 1, 3) := by decide +kernel
theorem dX5_reset_26 : decode cX5_reset 26 = .ok (.goto (-19), 3) := by decide +kernel
theorem dX5_reset_29 : decode cX5_reset 29 = .ok (.return_, 1) := by decide +kernel
theorem dX6_reset_0 : decode cX6_reset 0 = .ok (.aload_n 0, 1) := by decide +kernel
theorem dX6_reset_1 : decode cX6_reset 1 = .ok (.iconst 0, 1) := by decide +kernel
theorem dX6_reset_2 : decode cX6_reset 2 = .ok (.putfield 20, 3) := by decide +kernel
theorem dX6_reset_5 : decode cX6_reset 5 = .ok (.aload_n 0, 1) := by decide +kernel
theorem dX6_reset_6 : decode cX6_reset 6 = .ok (.iconst 0, 1) := by decide +kernel
theorem dX6_reset_7 : decode cX6_reset 7 = .ok (.putfield 24, 3) := by decide +kernel
theorem dX6_reset_10 : decode cX6_reset 10 = .ok (.return_, 1) := by decide +kernel
theorem dX6_hasRoom_0 : decode cX6_hasRoom 0 = .ok (.aload_n 0, 1) := by decide +kernel
theorem dX6_hasRoom_1 : decode cX6_hasRoom 1 = .ok (.getfield 20, 3) := by decide +kernel
theorem dX6_hasRoom_4 : decode cX6_hasRoom 4 = .ok (.aload_n 0, 1) := by decide +kernel
theorem dX6_hasRoom_5 : decode cX6_hasRoom 5 = .ok (.getfield 24, 3) := by decide +kernel
theorem dX6_hasRoom_8 : decode cX6_hasRoom 8 = .ok (.iadd, 1) := by decide +kernel
theorem dX6_hasRoom_9 : decode cX6_hasRoom 9 = .ok (.iload_n 1, 1) := by decide +kernel
theorem dX6_hasRoom_10 : decode cX6_hasRoom 10 = .ok (.iadd, 1) := by decide +kernel
theorem dX6_hasRoom_11 : decode cX6_hasRoom 11 = .ok (.sipush 200, 3) := by decide +kernel
theorem dX6_hasRoom_14 : decode cX6_hasRoom 14 = .ok (.if_icmp .gt 7, 3) := by decide +kernel
theorem dX6_hasRoom_17 : decode cX6_hasRoom 17 = .ok (.iconst 1, 1) := by decide +kernel
theorem dX6_hasRoom_18 : decode cX6_hasRoom 18 = .ok (.goto 4, 3) := by decide +kernel
theorem dX6_hasRoom_21 : decode cX6_hasRoom 21 = .ok (.iconst 0, 1) := by decide +kernel
theorem dX6_hasRoom_22 : decode cX6_hasRoom 22 = .ok (.ireturn, 1) := by decide +kernel
theorem dX6_liesAt_0 : decode cX6_liesAt 0 = .ok (.aload_n 1, 1) := by decide +kernel
theorem dX6_liesAt_1 : decode cX6_liesAt 1 = .ok (.getfield 27, 3) := by decide +kernel
theorem dX6_liesAt_4 : decode cX6_liesAt 4 = .ok (.bipush 109, 2) := by decide +kernel
theorem dX6_liesAt_6 : decode cX6_liesAt 6 = .ok (.if_icmp .ne 32, 3) := by decide +kernel
theorem dX6_liesAt_9 : decode cX6_liesAt 9 = .ok (.aload_n 1, 1) := by decide +kernel
theorem dX6_liesAt_10 : decode cX6_liesAt 10 = .ok (.getfield 31, 3) := by decide +kernel
theorem dX6_liesAt_13 : decode cX6_liesAt 13 = .ok (.bipush 100, 2) := by decide +kernel
theorem dX6_liesAt_15 : decode cX6_liesAt 15 = .ok (.if_icmp .ne 23, 3) := by decide +kernel
theorem dX6_liesAt_18 : decode cX6_liesAt 18 = .ok (.aload_n 1, 1) := by decide +kernel
theorem dX6_liesAt_19 : decode cX6_liesAt 19 = .ok (.getfield 37, 3) := by decide +kernel
theorem dX6_liesAt_22 : decode cX6_liesAt 22 = .ok (.iload_n 2, 1) := by decide +kernel
theorem dX6_liesAt_23 : decode cX6_liesAt 23 = .ok (.if_icmp .ne 15, 3) := by decide +kernel
theorem dX6_liesAt_26 : decode cX6_liesAt 26 = .ok (.aload_n 1, 1) := by decide +kernel
theorem dX6_liesAt_27 : decode cX6_liesAt 27 = .ok (.getfield 34, 3) := by decide +kernel
theorem dX6_liesAt_30 : decode cX6_liesAt 30 = .ok (.iload_n 3, 1) := by decide +kernel
theorem dX6_liesAt_31 : decode cX6_liesAt 31 = .ok (.if_icmp .ne 7, 3) := by decide +kernel
theorem dX6_liesAt_34 : decode cX6_liesAt 34 = .ok (.iconst 1, 1) := by decide +kernel
theorem dX6_liesAt_35 : decode cX6_liesAt 35 = .ok (.goto 4, 3) := by decide +kernel
theorem dX6_liesAt_38 : decode cX6_liesAt 38 = .ok (.iconst 0, 1) := by decide +kernel
theorem dX6_liesAt_39 : decode cX6_liesAt 39 = .ok (.ireturn, 1) := by decide +kernel
theorem dX6_countLying_0 : decode cX6_countLying 0 = .ok (.iconst 0, 1) := by decide +kernel
theorem dX6_countLying_1 : decode cX6_countLying 1 = .ok (.istore_n 3, 1) := by decide +kernel
theorem dX6_countLying_2 : decode cX6_countLying 2 = .ok (.iconst 0, 1) := by decide +kernel
theorem dX6_countLying_3 : decode cX6_countLying 3 = .ok (.istore 4, 2) := by decide +kernel
theorem dX6_countLying_5 : decode cX6_countLying 5 = .ok (.iload 4, 2) := by decide +kernel
theorem dX6_countLying_7 : decode cX6_countLying 7 = .ok (.aload_n 0, 1) := by decide +kernel
theorem dX6_countLying_8 : decode cX6_countLying 8 = .ok (.getfield 20, 3) := by decide +kernel
theorem dX6_countLying_11 : decode cX6_countLying 11 = .ok (.if_icmp .ge 28, 3) := by decide +kernel
theorem dX6_countLying_14 : decode cX6_countLying 14 = .ok (.aload_n 0, 1) := by decide +kernel
theorem dX6_countLying_15 : decode cX6_countLying 15 = .ok (.aload_n 0, 1) := by decide +kernel
theorem dX6_countLying_16 : decode cX6_countLying 16 = .ok (.getfield 11, 3) := by decide +kernel
theorem dX6_countLying_19 : decode cX6_countLying 19 = .ok (.iload 4, 2) := by decide +kernel
theorem dX6_countLying_21 : decode cX6_countLying 21 = .ok (.aaload, 1) := by decide +kernel
theorem dX6_countLying_22 : decode cX6_countLying 22 = .ok (.iload_n 1, 1) := by decide +kernel
theorem dX6_countLying_23 : decode cX6_countLying 23 = .ok (.iload_n 2, 1) := by decide +kernel
theorem dX6_countLying_24 : decode cX6_countLying 24 = .ok (.invokevirtual 73, 3) := by decide +kernel
theorem dX6_countLying_27 : decode cX6_countLying 27 = .ok (.ifCond .eq 6, 3) := by decide +kernel
theorem dX6_countLying_30 : decode cX6_countLying 30 = .ok (.iinc 3 1, 3) := by decide +kernel
theorem dX6_countLying_33 : decode cX6_countLying 33 = .ok (.iinc 4 1, 3) := by decide +kernel
theorem dX6_countLying_36 : decode cX6_countLying 36 = .ok (.goto (-31), 3) := by decide +kernel
theorem dX6_countLying_39 : decode cX6_countLying 39 = .ok (.iload_n 3, 1) := by decide +kernel
theorem dX6_countLying_40 : decode cX6_countLying 40 = .ok (.ireturn, 1) := by decide +kernel
theorem dX6_firstLying_0 : decode cX6_firstLying 0 = .ok (.aconst_null, 1) := by decide +kernel
theorem dX6_firstLying_1 : decode cX6_firstLying 1 = .ok (.astore_n 3, 1) := by decide +kernel
theorem dX6_firstLying_2 : decode cX6_firstLying 2 = .ok (.iconst 0, 1) := by decide +kernel
theorem dX6_firstLying_3 : decode cX6_firstLying 3 = .ok (.istore 4, 2) := by decide +kernel
theorem dX6_firstLying_5 : decode cX6_firstLying 5 = .ok (.iload 4, 2) := by decide +kernel
theorem dX6_firstLying_7 : decode cX6_firstLying 7 = .ok (.aload_n 0, 1) := by decide +kernel
theorem dX6_firstLying_8 : decode cX6_firstLying 8 = .ok (.getfield 20, 3) := by decide +kernel
theorem dX6_firstLying_11 : decode cX6_firstLying 11 = .ok (.if_icmp .ge 48, 3) := by decide +kernel
theorem dX6_firstLying_14 : decode cX6_firstLying 14 = .ok (.aload_n 0, 1) := by decide +kernel
theorem dX6_firstLying_15 : decode cX6_firstLying 15 = .ok (.getfield 11, 3) := by decide +kernel
theorem dX6_firstLying_18 : decode cX6_firstLying 18 = .ok (.iload 4, 2) := by decide +kernel
theorem dX6_firstLying_20 : decode cX6_firstLying 20 = .ok (.aaload, 1) := by decide +kernel
theorem dX6_firstLying_21 : decode cX6_firstLying 21 = .ok (.astore 5, 2) := by decide +kernel
theorem dX6_firstLying_23 : decode cX6_firstLying 23 = .ok (.aload_n 0, 1) := by decide +kernel
theorem dX6_firstLying_24 : decode cX6_firstLying 24 = .ok (.aload 5, 2) := by decide +kernel
theorem dX6_firstLying_26 : decode cX6_firstLying 26 = .ok (.iload_n 1, 1) := by decide +kernel
theorem dX6_firstLying_27 : decode cX6_firstLying 27 = .ok (.iload_n 2, 1) := by decide +kernel
theorem dX6_firstLying_28 : decode cX6_firstLying 28 = .ok (.invokevirtual 73, 3) := by decide +kernel
theorem dX6_firstLying_31 : decode cX6_firstLying 31 = .ok (.ifCond .eq 22, 3) := by decide +kernel
theorem dX6_firstLying_34 : decode cX6_firstLying 34 = .ok (.aload_n 3, 1) := by decide +kernel
theorem dX6_firstLying_35 : decode cX6_firstLying 35 = .ok (.ifnull 15, 3) := by decide +kernel
theorem dX6_firstLying_38 : decode cX6_firstLying 38 = .ok (.aload 5, 2) := by decide +kernel
theorem dX6_firstLying_40 : decode cX6_firstLying 40 = .ok (.getfield 58, 3) := by decide +kernel
theorem dX6_firstLying_43 : decode cX6_firstLying 43 = .ok (.aload_n 3, 1) := by decide +kernel
theorem dX6_firstLying_44 : decode cX6_firstLying 44 = .ok (.getfield 58, 3) := by decide +kernel
theorem dX6_firstLying_47 : decode cX6_firstLying 47 = .ok (.if_icmp .ge 6, 3) := by decide +kernel
theorem dX6_firstLying_50 : decode cX6_firstLying 50 = .ok (.aload 5, 2) := by decide +kernel
theorem dX6_firstLying_52 : decode cX6_firstLying 52 = .ok (.astore_n 3, 1) := by decide +kernel
theorem dX6_firstLying_53 : decode cX6_firstLying 53 = .ok (.iinc 4 1, 3) := by decide +kernel
theorem dX6_firstLying_56 : decode cX6_firstLying 56 = .ok (.goto (-51), 3) := by decide +kernel
theorem dX6_firstLying_59 : decode cX6_firstLying 59 = .ok (.aload_n 3, 1) := by decide +kernel
theorem dX6_firstLying_60 : decode cX6_firstLying 60 = .ok (.areturn, 1) := by decide +kernel
theorem dX6_countLost_0 : decode cX6_countLost 0 = .ok (.iconst 0, 1) := by decide +kernel
theorem dX6_countLost_1 : decode cX6_countLost 1 = .ok (.istore_n 1, 1) := by decide +kernel
theorem dX6_countLost_2 : decode cX6_countLost 2 = .ok (.iconst 0, 1) := by decide +kernel
theorem dX6_countLost_3 : decode cX6_countLost 3 = .ok (.istore_n 2, 1) := by decide +kernel
theorem dX6_countLost_4 : decode cX6_countLost 4 = .ok (.iload_n 2, 1) := by decide +kernel
theorem dX6_countLost_5 : decode cX6_countLost 5 = .ok (.aload_n 0, 1) := by decide +kernel
theorem dX6_countLost_6 : decode cX6_countLost 6 = .ok (.getfield 20, 3) := by decide +kernel
theorem dX6_countLost_9 : decode cX6_countLost 9 = .ok (.if_icmp .ge 26, 3) := by decide +kernel
theorem dX6_countLost_12 : decode cX6_countLost 12 = .ok (.aload_n 0, 1) := by decide +kernel
theorem dX6_countLost_13 : decode cX6_countLost 13 = .ok (.getfield 11, 3) := by decide +kernel
theorem dX6_countLost_16 : decode cX6_countLost 16 = .ok (.iload_n 2, 1) := by decide +kernel
theorem dX6_countLost_17 : decode cX6_countLost 17 = .ok (.aaload, 1) := by decide +kernel
theorem dX6_countLost_18 : decode cX6_countLost 18 = .ok (.getfield 31, 3) := by decide +kernel
theorem dX6_countLost_21 : decode cX6_countLost 21 = .ok (.bipush 108, 2) := by decide +kernel
theorem dX6_countLost_23 : decode cX6_countLost 23 = .ok (.if_icmp .ne 6, 3) := by decide +kernel
theorem dX6_countLost_26 : decode cX6_countLost 26 = .ok (.iinc 1 1, 3) := by decide +kernel
theorem dX6_countLost_29 : decode cX6_countLost 29 = .ok (.iinc 2 1, 3) := by decide +kernel
theorem dX6_countLost_32 : decode cX6_countLost 32 = .ok (.goto (-28), 3) := by decide +kernel
theorem dX6_countLost_35 : decode cX6_countLost 35 = .ok (.iload_n 1, 1) := by decide +kernel
theorem dX6_countLost_36 : decode cX6_countLost 36 = .ok (.ireturn, 1) := by decide +kernel
theorem dX8_reset_0 : decode cX8_reset 0 = .ok (.aload_n 0, 1) := by decide +kernel
theorem dX8_reset_1 : decode cX8_reset 1 = .ok (.iconst 0, 1) := by decide +kernel
theorem dX8_reset_2 : decode cX8_reset 2 = .ok (.putfield 21, 3) := by decide +kernel
theorem dX8_reset_5 : decode cX8_reset 5 = .ok (.aload_n 0, 1) := by decide +kernel
theorem dX8_reset_6 : decode cX8_reset 6 = .ok (.iconst (-1), 1) := by decide +kernel
theorem dX8_reset_7 : decode cX8_reset 7 = .ok (.putfield 25, 3) := by decide +kernel
theorem dX8_reset_10 : decode cX8_reset 10 = .ok (.aload_n 0, 1) := by decide +kernel
theorem dX8_reset_11 : decode cX8_reset 11 = .ok (.iconst (-1), 1) := by decide +kernel
theorem dX8_reset_12 : decode cX8_reset 12 = .ok (.putfield 28, 3) := by decide +kernel
theorem dX8_reset_15 : decode cX8_reset 15 = .ok (.aload_n 0, 1) := by decide +kernel
theorem dX8_reset_16 : decode cX8_reset 16 = .ok (.iconst 0, 1) := by decide +kernel
theorem dX8_reset_17 : decode cX8_reset 17 = .ok (.putfield 31, 3) := by decide +kernel
theorem dX8_reset_20 : decode cX8_reset 20 = .ok (.return_, 1) := by decide +kernel
theorem dX7_reset_0 : decode cX7_reset 0 = .ok (.iconst 0, 1) := by decide +kernel
theorem dX7_reset_1 : decode cX7_reset 1 = .ok (.istore_n 1, 1) := by decide +kernel
theorem dX7_reset_2 : decode cX7_reset 2 = .ok (.iload_n 1, 1) := by decide +kernel
theorem dX7_reset_3 : decode cX7_reset 3 = .ok (.aload_n 0, 1) := by decide +kernel
theorem dX7_reset_4 : decode cX7_reset 4 = .ok (.getfield 11, 3) := by decide +kernel
theorem dX7_reset_7 : decode cX7_reset 7 = .ok (.arraylength, 1) := by decide +kernel
theorem dX7_reset_8 : decode cX7_reset 8 = .ok (.if_icmp .ge 25, 3) := by decide +kernel
theorem dX7_reset_11 : decode cX7_reset 11 = .ok (.aload_n 0, 1) := by decide +kernel
theorem dX7_reset_12 : decode cX7_reset 12 = .ok (.getfield 11, 3) := by decide +kernel
theorem dX7_reset_15 : decode cX7_reset 15 = .ok (.iload_n 1, 1) := by decide +kernel
theorem dX7_reset_16 : decode cX7_reset 16 = .ok (.aaload, 1) := by decide +kernel
theorem dX7_reset_17 : decode cX7_reset 17 = .ok (.invokevirtual 25, 3) := by decide +kernel
theorem dX7_reset_20 : decode cX7_reset 20 = .ok (.aload_n 0, 1) := by decide +kernel
theorem dX7_reset_21 : decode cX7_reset 21 = .ok (.getfield 17, 3) := by decide +kernel
theorem dX7_reset_24 : decode cX7_reset 24 = .ok (.iload_n 1, 1) := by decide +kernel
theorem dX7_reset_25 : decode cX7_reset 25 = .ok (.iconst 0, 1) := by decide +kernel
theorem dX7_reset_26 : decode cX7_reset 26 = .ok (.iastore, 1) := by decide +kernel
theorem dX7_reset_27 : decode cX7_reset 27 = .ok (.iinc 1 1, 3) := by decide +kernel
theorem dX7_reset_30 : decode cX7_reset 30 = .ok (.goto (-28), 3) := by decide +kernel
theorem dX7_reset_33 : decode cX7_reset 33 = .ok (.aload_n 0, 1) := by decide +kernel
theorem dX7_reset_34 : decode cX7_reset 34 = .ok (.getfield 21, 3) := by decide +kernel
theorem dX7_reset_37 : decode cX7_reset 37 = .ok (.iconst 0, 1) := by decide +kernel
theorem dX7_reset_38 : decode cX7_reset 38 = .ok (.iconst 0, 1) := by decide +kernel
theorem dX7_reset_39 : decode cX7_reset 39 = .ok (.iastore, 1) := by decide +kernel
theorem dX7_reset_40 : decode cX7_reset 40 = .ok (.aload_n 0, 1) := by decide +kernel
theorem dX7_reset_41 : decode cX7_reset 41 = .ok (.getfield 21, 3) := by decide +kernel
theorem dX7_reset_44 : decode cX7_reset 44 = .ok (.iconst 1, 1) := by decide +kernel
theorem dX7_reset_45 : decode cX7_reset 45 = .ok (.iconst 0, 1) := by decide +kernel
theorem dX7_reset_46 : decode cX7_reset 46 = .ok (.iastore, 1) := by decide +kernel
theorem dX7_reset_47 : decode cX7_reset 47 = .ok (.aload_n 0, 1) := by decide +kernel
theorem dX7_reset_48 : decode cX7_reset 48 = .ok (.iconst 1, 1) := by decide +kernel
theorem dX7_reset_49 : decode cX7_reset 49 = .ok (.putfield 28, 3) := by decide +kernel
theorem dX7_reset_52 : decode cX7_reset 52 = .ok (.aload_n 0, 1) := by decide +kernel
theorem dX7_reset_53 : decode cX7_reset 53 = .ok (.iconst 0, 1) := by decide +kernel
theorem dX7_reset_54 : decode cX7_reset 54 = .ok (.putfield 32, 3) := by decide +kernel
theorem dX7_reset_57 : decode cX7_reset 57 = .ok (.return_, 1) := by decide +kernel
theorem dX7_setPlaces_0 : decode cX7_setPlaces 0 = .ok (.iconst 0, 1) := by decide +kernel
theorem dX7_setPlaces_1 : decode cX7_setPlaces 1 = .ok (.istore_n 2, 1) := by decide +kernel
theorem dX7_setPlaces_2 : decode cX7_setPlaces 2 = .ok (.iload_n 2, 1) := by decide +kernel
theorem dX7_setPlaces_3 : decode cX7_setPlaces 3 = .ok (.aload_n 0, 1) := by decide +kernel
theorem dX7_setPlaces_4 : decode cX7_setPlaces 4 = .ok (.getfield 11, 3) := by decide +kernel
theorem dX7_setPlaces_7 : decode cX7_setPlaces 7 = .ok (.arraylength, 1) := by decide +kernel
theorem dX7_setPlaces_8 : decode cX7_setPlaces 8 = .ok (.if_icmp .ge 19, 3) := by decide +kernel
theorem dX7_setPlaces_11 : decode cX7_setPlaces 11 = .ok (.aload_n 0, 1) := by decide +kernel
theorem dX7_setPlaces_12 : decode cX7_setPlaces 12 = .ok (.getfield 11, 3) := by decide +kernel
theorem dX7_setPlaces_15 : decode cX7_setPlaces 15 = .ok (.iload_n 2, 1) := by decide +kernel
theorem dX7_setPlaces_16 : decode cX7_setPlaces 16 = .ok (.aaload, 1) := by decide +kernel
theorem dX7_setPlaces_17 : decode cX7_setPlaces 17 = .ok (.iload_n 1, 1) := by decide +kernel
theorem dX7_setPlaces_18 : decode cX7_setPlaces 18 = .ok (.putfield 35, 3) := by decide +kernel
theorem dX7_setPlaces_21 : decode cX7_setPlaces 21 = .ok (.iinc 2 1, 3) := by decide +kernel
theorem dX7_setPlaces_24 : decode cX7_setPlaces 24 = .ok (.goto (-22), 3) := by decide +kernel
theorem dX7_setPlaces_27 : decode cX7_setPlaces 27 = .ok (.return_, 1) := by decide +kernel
theorem dX7_isIdle_0 : decode cX7_isIdle 0 = .ok (.iconst 0, 1) := by decide +kernel
theorem dX7_isIdle_1 : decode cX7_isIdle 1 = .ok (.istore_n 1, 1) := by decide +kernel
theorem dX7_isIdle_2 : decode cX7_isIdle 2 = .ok (.iload_n 1, 1) := by decide +kernel
theorem dX7_isIdle_3 : decode cX7_isIdle 3 = .ok (.aload_n 0, 1) := by decide +kernel
theorem dX7_isIdle_4 : decode cX7_isIdle 4 = .ok (.getfield 11, 3) := by decide +kernel
theorem dX7_isIdle_7 : decode cX7_isIdle 7 = .ok (.arraylength, 1) := by decide +kernel
theorem dX7_isIdle_8 : decode cX7_isIdle 8 = .ok (.if_icmp .ge 36, 3) := by decide +kernel
theorem dX7_isIdle_11 : decode cX7_isIdle 11 = .ok (.aload_n 0, 1) := by decide +kernel
theorem dX7_isIdle_12 : decode cX7_isIdle 12 = .ok (.getfield 11, 3) := by decide +kernel
theorem dX7_isIdle_15 : decode cX7_isIdle 15 = .ok (.iload_n 1, 1) := by decide +kernel
theorem dX7_isIdle_16 : decode cX7_isIdle 16 = .ok (.aaload, 1) := by decide +kernel
theorem dX7_isIdle_17 : decode cX7_isIdle 17 = .ok (.getfield 39, 3) := by decide +kernel
theorem dX7_isIdle_20 : decode cX7_isIdle 20 = .ok (.ifCond .gt 16, 3) := by decide +kernel
theorem dX7_isIdle_23 : decode cX7_isIdle 23 = .ok (.aload_n 0, 1) := by decide +kernel
theorem dX7_isIdle_24 : decode cX7_isIdle 24 = .ok (.getfield 11, 3) := by decide +kernel
theorem dX7_isIdle_27 : decode cX7_isIdle 27 = .ok (.iload_n 1, 1) := by decide +kernel
theorem dX7_isIdle_28 : decode cX7_isIdle 28 = .ok (.aaload, 1) := by decide +kernel
theorem dX7_isIdle_29 : decode cX7_isIdle 29 = .ok (.getfield 42, 3) := by decide +kernel
theorem dX7_isIdle_32 : decode cX7_isIdle 32 = .ok (.iconst (-1), 1) := by decide +kernel
theorem dX7_isIdle_33 : decode cX7_isIdle 33 = .ok (.if_icmp .eq 5, 3) := by decide +kernel
theorem dX7_isIdle_36 : decode cX7_isIdle 36 = .ok (.iconst 0, 1) := by decide +kernel
theorem dX7_isIdle_37 : decode cX7_isIdle 37 = .ok (.ireturn, 1) := by decide +kernel
theorem dX7_isIdle_38 : decode cX7_isIdle 38 = .ok (.iinc 1 1, 3) := by decide +kernel
theorem dX7_isIdle_41 : decode cX7_isIdle 41 = .ok (.goto (-39), 3) := by decide +kernel
theorem dX7_isIdle_44 : decode cX7_isIdle 44 = .ok (.iconst 1, 1) := by decide +kernel
theorem dX7_isIdle_45 : decode cX7_isIdle 45 = .ok (.ireturn, 1) := by decide +kernel
theorem dX10_receiveWord_0 : decode cX10_receiveWord 0 = .ok (.aload_n 0, 1) := by decide +kernel
theorem dX10_receiveWord_1 : decode cX10_receiveWord 1 = .ok (.getfield 13, 3) := by decide +kernel
theorem dX10_receiveWord_4 : decode cX10_receiveWord 4 = .ok (.iload_n 1, 1) := by decide +kernel
theorem dX10_receiveWord_5 : decode cX10_receiveWord 5 = .ok (.iload_n 3, 1) := by decide +kernel
theorem dX10_receiveWord_6 : decode cX10_receiveWord 6 = .ok (.invokevirtual 101, 3) := by decide +kernel
theorem dX10_receiveWord_9 : decode cX10_receiveWord 9 = .ok (.astore 4, 2) := by decide +kernel
theorem dX10_receiveWord_11 : decode cX10_receiveWord 11 = .ok (.aload 4, 2) := by decide +kernel
theorem dX10_receiveWord_13 : decode cX10_receiveWord 13 = .ok (.ifnonnull 10, 3) := by decide +kernel
theorem dX10_receiveWord_16 : decode cX10_receiveWord 16 = .ok (.aload_n 2, 1) := by decide +kernel
theorem dX10_receiveWord_17 : decode cX10_receiveWord 17 = .ok (.bipush 119, 2) := by decide +kernel
theorem dX10_receiveWord_19 : decode cX10_receiveWord 19 = .ok (.putfield 75, 3) := by decide +kernel
theorem dX10_receiveWord_22 : decode cX10_receiveWord 22 = .ok (.return_, 1) := by decide +kernel
theorem dX10_receiveWord_23 : decode cX10_receiveWord 23 = .ok (.aload_n 2, 1) := by decide +kernel
theorem dX10_receiveWord_24 : decode cX10_receiveWord 24 = .ok (.invokevirtual 105, 3) := by decide +kernel
theorem dX10_receiveWord_27 : decode cX10_receiveWord 27 = .ok (.ifCond .ne 16, 3) := by decide +kernel
theorem dX10_receiveWord_30 : decode cX10_receiveWord 30 = .ok (.aload 4, 2) := by decide +kernel
theorem dX10_receiveWord_32 : decode cX10_receiveWord 32 = .ok (.bipush 114, 2) := by decide +kernel
theorem dX10_receiveWord_34 : decode cX10_receiveWord 34 = .ok (.putfield 108, 3) := by decide +kernel
theorem dX10_receiveWord_37 : decode cX10_receiveWord 37 = .ok (.aload_n 2, 1) := by decide +kernel
theorem dX10_receiveWord_38 : decode cX10_receiveWord 38 = .ok (.bipush 114, 2) := by decide +kernel
theorem dX10_receiveWord_40 : decode cX10_receiveWord 40 = .ok (.putfield 75, 3) := by decide +kernel
theorem dX10_receiveWord_43 : decode cX10_receiveWord 43 = .ok (.aload_n 2, 1) := by decide +kernel
theorem dX10_receiveWord_44 : decode cX10_receiveWord 44 = .ok (.aload 4, 2) := by decide +kernel
theorem dX10_receiveWord_46 : decode cX10_receiveWord 46 = .ok (.getfield 111, 3) := by decide +kernel
theorem dX10_receiveWord_49 : decode cX10_receiveWord 49 = .ok (.invokevirtual 55, 3) := by decide +kernel
theorem dX10_receiveWord_52 : decode cX10_receiveWord 52 = .ok (.return_, 1) := by decide +kernel
theorem dX10_sendWord_0 : decode cX10_sendWord 0 = .ok (.aload_n 2, 1) := by decide +kernel
theorem dX10_sendWord_1 : decode cX10_sendWord 1 = .ok (.iconst 1, 1) := by decide +kernel
theorem dX10_sendWord_2 : decode cX10_sendWord 2 = .ok (.invokevirtual 82, 3) := by decide +kernel
theorem dX10_sendWord_5 : decode cX10_sendWord 5 = .ok (.ifCond .ne 4, 3) := by decide +kernel
theorem dX10_sendWord_8 : decode cX10_sendWord 8 = .ok (.return_, 1) := by decide +kernel
theorem dX10_sendWord_9 : decode cX10_sendWord 9 = .ok (.aload_n 0, 1) := by decide +kernel
theorem dX10_sendWord_10 : decode cX10_sendWord 10 = .ok (.getfield 13, 3) := by decide +kernel
theorem dX10_sendWord_13 : decode cX10_sendWord 13 = .ok (.iconst 1, 1) := by decide +kernel
theorem dX10_sendWord_14 : decode cX10_sendWord 14 = .ok (.invokevirtual 86, 3) := by decide +kernel
theorem dX10_sendWord_17 : decode cX10_sendWord 17 = .ok (.ifCond .ne 10, 3) := by decide +kernel
theorem dX10_sendWord_20 : decode cX10_sendWord 20 = .ok (.aload_n 2, 1) := by decide +kernel
theorem dX10_sendWord_21 : decode cX10_sendWord 21 = .ok (.bipush 112, 2) := by decide +kernel
theorem dX10_sendWord_23 : decode cX10_sendWord 23 = .ok (.invokevirtual 40, 3) := by decide +kernel
theorem dX10_sendWord_26 : decode cX10_sendWord 26 = .ok (.return_, 1) := by decide +kernel
theorem dX10_sendWord_27 : decode cX10_sendWord 27 = .ok (.aload_n 2, 1) := by decide +kernel
theorem dX10_sendWord_28 : decode cX10_sendWord 28 = .ok (.dup, 1) := by decide +kernel
theorem dX10_sendWord_29 : decode cX10_sendWord 29 = .ok (.getfield 91, 3) := by decide +kernel
theorem dX10_sendWord_32 : decode cX10_sendWord 32 = .ok (.iconst 1, 1) := by decide +kernel
theorem dX10_sendWord_33 : decode cX10_sendWord 33 = .ok (.isub, 1) := by decide +kernel
theorem dX10_sendWord_34 : decode cX10_sendWord 34 = .ok (.putfield 91, 3) := by decide +kernel
theorem dX10_sendWord_37 : decode cX10_sendWord 37 = .ok (.aload_n 0, 1) := by decide +kernel
theorem dX10_sendWord_38 : decode cX10_sendWord 38 = .ok (.getfield 13, 3) := by decide +kernel
theorem dX10_sendWord_41 : decode cX10_sendWord 41 = .ok (.bipush 109, 2) := by decide +kernel
theorem dX10_sendWord_43 : decode cX10_sendWord 43 = .ok (.iload_n 1, 1) := by decide +kernel
theorem dX10_sendWord_44 : decode cX10_sendWord 44 = .ok (.iload_n 3, 1) := by decide +kernel
theorem dX10_sendWord_45 : decode cX10_sendWord 45 = .ok (.aload_n 2, 1) := by decide +kernel
theorem dX10_sendWord_46 : decode cX10_sendWord 46 = .ok (.getfield 94, 3) := by decide +kernel
theorem dX10_sendWord_49 : decode cX10_sendWord 49 = .ok (.aload_n 2, 1) := by decide +kernel
theorem dX10_sendWord_50 : decode cX10_sendWord 50 = .ok (.getfield 91, 3) := by decide +kernel
theorem dX10_sendWord_53 : decode cX10_sendWord 53 = .ok (.iaload, 1) := by decide +kernel
theorem dX10_sendWord_54 : decode cX10_sendWord 54 = .ok (.iconst 1, 1) := by decide +kernel
theorem dX10_sendWord_55 : decode cX10_sendWord 55 = .ok (.iload 4, 2) := by decide +kernel
theorem dX10_sendWord_57 : decode cX10_sendWord 57 = .ok (.invokevirtual 97, 3) := by decide +kernel
theorem dX10_sendWord_60 : decode cX10_sendWord 60 = .ok (.pop, 1) := by decide +kernel
theorem dX10_sendWord_61 : decode cX10_sendWord 61 = .ok (.aload_n 2, 1) := by decide +kernel
theorem dX10_sendWord_62 : decode cX10_sendWord 62 = .ok (.dup, 1) := by decide +kernel
theorem dX10_sendWord_63 : decode cX10_sendWord 63 = .ok (.getfield 48, 3) := by decide +kernel
theorem dX10_sendWord_66 : decode cX10_sendWord 66 = .ok (.iconst 1, 1) := by decide +kernel
theorem dX10_sendWord_67 : decode cX10_sendWord 67 = .ok (.iadd, 1) := by decide +kernel
theorem dX10_sendWord_68 : decode cX10_sendWord 68 = .ok (.putfield 48, 3) := by decide +kernel
theorem dX10_sendWord_71 : decode cX10_sendWord 71 = .ok (.return_, 1) := by decide +kernel
def f_Net_lay_b120 (K12 : me_M → Int32 → Int32 → Int32 → Int32 → Option (me_M × Unit)) (K21 : me_M → Int32 → Int32 → Int32 → Int32 → Int32 → Option (me_M × Unit)) (μ : me_M) (v1 : Int32) (v2 : Int32) (v3 : Int32) (v4 : Int32) (v5 : Int32) (s0 : Int32) (s1 : Int32) : Option (me_M × Unit) :=
  me_gd (me_inb s1 64) (
  me_lt (me_up μ 2 0 (me_ix s1) s0) (fun μ2 =>
  if v4 ≤ 0 then
  (me_gd (me_inb ((v3 * (4 : Int32)) + (3 : Int32)) 64) (
  me_lt (me_up μ2 2 0 (me_ix ((v3 * (4 : Int32)) + (3 : Int32))) (-1 : Int32)) (fun μ5 =>
  me_lt (me_inc v3 (1)) (fun x6 =>
  me_lt (me_inc v5 (1)) (fun x7 =>
  K21 μ5 v1 v2 x6 v4 x7)))))
  else
  (me_gd (me_inb ((v3 * (4 : Int32)) + (3 : Int32)) 64) (
  me_lt (me_up μ2 2 0 (me_ix ((v3 * (4 : Int32)) + (3 : Int32))) (v3 - v1)) (fun μ9 =>
  me_lt (me_inc v3 (1)) (fun x10 =>
  me_lt (me_inc v5 (1)) (fun x11 =>
  K21 μ9 v1 v2 x10 v4 x11)))))))
set_option maxHeartbeats 4000000 in
set_option maxRecDepth 100000 in
theorem z_Net_lay_b120 {X : me_X} {B : me_B} {sz : Nat} (C : me_C X B RX3 cX3_lay 6 none) {μ : me_M} {v1 : Int32} {v2 : Int32} {v3 : Int32} {v4 : Int32} {v5 : Int32} {s0 : Int32} {s1 : Int32}  {K12 : me_M → Int32 → Int32 → Int32 → Int32 → Option (me_M × Unit)} {K21 : me_M → Int32 → Int32 → Int32 → Int32 → Int32 → Option (me_M × Unit)} {r : me_M × Unit} (N : me_En X B sz (B, r.1, .ok (none)) 0 0 0 0) (hNx : me_Nx X) (hB : me_St B) (hK12 : ∀ (μ : me_M) (v1 : Int32) (v2 : Int32) (v3 : Int32) (v4 : Int32), K12 μ v1 v2 v3 v4 = some r → me_Z X B 0 0 μ 12 [(0, me_r 1 0), (1, me_i v1), (2, me_i v2), (3, me_i v3), (4, me_i v4)] []) (hK21 : ∀ (μ : me_M) (v1 : Int32) (v2 : Int32) (v3 : Int32) (v4 : Int32) (v5 : Int32), K21 μ v1 v2 v3 v4 v5 = some r → me_Z X B 0 0 μ 21 [(0, me_r 1 0), (1, me_i v1), (2, me_i v2), (3, me_i v3), (4, me_i v4), (5, me_i v5)] [])  (hf : f_Net_lay_b120 K12 K21 μ v1 v2 v3 v4 v5 s0 s1 = some r) : me_Z X B 0 0 μ 120 [(0, me_r 1 0), (1, me_i v1), (2, me_i v2), (3, me_i v3), (4, me_i v4), (5, me_i v5)] [me_i s0, me_i s1, me_r 2 0] := by
  unfold f_Net_lay_b120 at hf
  obtain ⟨g1, hf⟩ := me_gs hf
  obtain ⟨μ2, e_μ2, hf⟩ := me_lts hf
  refine me_iast C rfl (fun _ => rfl) g1 dX3_lay_120 e_μ2 ?_
  refine me_aload_n C 0 (Or.inr (Or.inl ⟨_, rfl⟩)) dX3_lay_121 rfl rfl ?_
  refine me_getr C hB 0 (k' := 2) (i' := 0) fg_Net_9 dX3_lay_122 rfl rfl ?_
  refine me_iload_n C 3 dX3_lay_125 rfl rfl ?_
  refine me_iconst C (v := 4) dX3_lay_126 (by decide) ?_
  refine me_imul C dX3_lay_127 ?_
  refine me_iconst C (v := 3) dX3_lay_128 (by decide) ?_
  refine me_iadd C dX3_lay_129 ?_
  refine me_iload C dX3_lay_130 rfl ?_
  refine me_if_le C (tgt := 141) dX3_lay_132 (by decide) (fun c3 => ?_) (fun c3 => ?_)
  · replace hf := me_ip c3 hf
    refine me_iconst C (v := -1) dX3_lay_141 (by decide) ?_
    obtain ⟨g4, hf⟩ := me_gs hf
    obtain ⟨μ5, e_μ5, hf⟩ := me_lts hf
    refine me_iast C rfl (fun _ => rfl) g4 dX3_lay_142 e_μ5 ?_
    obtain ⟨x6, e_x6, hf⟩ := me_lts hf
    refine me_iinc C (v := x6) (L' := [(3, me_i x6), (0, me_r 1 0), (1, me_i v1), (2, me_i v2), (4, me_i v4), (5, me_i v5)]) dX3_lay_143 rfl e_x6.symm (by decide) rfl ?_
    obtain ⟨x7, e_x7, hf⟩ := me_lts hf
    refine me_iinc C (v := x7) (L' := [(5, me_i x7), (3, me_i x6), (0, me_r 1 0), (1, me_i v1), (2, me_i v2), (4, me_i v4)]) dX3_lay_146 rfl e_x7.symm (by decide) rfl ?_
    refine me_goto C (tgt := 21) dX3_lay_149 (by decide) ?_
    refine me_dropI [(0, me_r 1 0), (1, me_i v1), (2, me_i v2), (3, me_i x6), (4, me_i v4), (5, me_i x7)] [2, 3, 4, 1, 5, 0] rfl ?_
    exact hK21 μ5 v1 v2 x6 v4 x7 hf
  · replace hf := me_in c3 hf
    refine me_iload_n C 3 dX3_lay_135 rfl rfl ?_
    refine me_iload_n C 1 dX3_lay_136 rfl rfl ?_
    refine me_isub C dX3_lay_137 ?_
    refine me_goto C (tgt := 142) dX3_lay_138 (by decide) ?_
    obtain ⟨g8, hf⟩ := me_gs hf
    obtain ⟨μ9, e_μ9, hf⟩ := me_lts hf
    refine me_iast C rfl (fun _ => rfl) g8 dX3_lay_142 e_μ9 ?_
    obtain ⟨x10, e_x10, hf⟩ := me_lts hf
    refine me_iinc C (v := x10) (L' := [(3, me_i x10), (0, me_r 1 0), (1, me_i v1), (2, me_i v2), (4, me_i v4), (5, me_i v5)]) dX3_lay_143 rfl e_x10.symm (by decide) rfl ?_
    obtain ⟨x11, e_x11, hf⟩ := me_lts hf
    refine me_iinc C (v := x11) (L' := [(5, me_i x11), (3, me_i x10), (0, me_r 1 0), (1, me_i v1), (2, me_i v2), (4, me_i v4)]) dX3_lay_146 rfl e_x11.symm (by decide) rfl ?_
    refine me_goto C (tgt := 21) dX3_lay_149 (by decide) ?_
    refine me_dropI [(0, me_r 1 0), (1, me_i v1), (2, me_i v2), (3, me_i x10), (4, me_i v4), (5, me_i x11)] [2, 3, 4, 1, 5, 0] rfl ?_
    exact hK21 μ9 v1 v2 x10 v4 x11 hf
def f_Net_lay_b95 (K12 : me_M → Int32 → Int32 → Int32 → Int32 → Option (me_M × Unit)) (K21 : me_M → Int32 → Int32 → Int32 → Int32 → Int32 → Option (me_M × Unit)) (μ : me_M) (v1 : Int32) (v2 : Int32) (v3 : Int32) (v4 : Int32) (v5 : Int32) (s0 : Int32) (s1 : Int32) : Option (me_M × Unit) :=
  me_gd (me_inb s1 64) (
  me_lt (me_up μ 2 0 (me_ix s1) s0) (fun μ2 =>
  if v2 ≤ (v4 + (1 : Int32)) then
  (f_Net_lay_b120 K12 K21 μ2 v1 v2 v3 v4 v5 (-1 : Int32) ((v3 * (4 : Int32)) + (2 : Int32)))
  else
  (f_Net_lay_b120 K12 K21 μ2 v1 v2 v3 v4 v5 (v3 + v1) ((v3 * (4 : Int32)) + (2 : Int32)))))
set_option maxHeartbeats 4000000 in
set_option maxRecDepth 100000 in
theorem z_Net_lay_b95 {X : me_X} {B : me_B} {sz : Nat} (C : me_C X B RX3 cX3_lay 6 none) {μ : me_M} {v1 : Int32} {v2 : Int32} {v3 : Int32} {v4 : Int32} {v5 : Int32} {s0 : Int32} {s1 : Int32}  {K12 : me_M → Int32 → Int32 → Int32 → Int32 → Option (me_M × Unit)} {K21 : me_M → Int32 → Int32 → Int32 → Int32 → Int32 → Option (me_M × Unit)} {r : me_M × Unit} (N : me_En X B sz (B, r.1, .ok (none)) 0 0 0 0) (hNx : me_Nx X) (hB : me_St B) (hK12 : ∀ (μ : me_M) (v1 : Int32) (v2 : Int32) (v3 : Int32) (v4 : Int32), K12 μ v1 v2 v3 v4 = some r → me_Z X B 0 0 μ 12 [(0, me_r 1 0), (1, me_i v1), (2, me_i v2), (3, me_i v3), (4, me_i v4)] []) (hK21 : ∀ (μ : me_M) (v1 : Int32) (v2 : Int32) (v3 : Int32) (v4 : Int32) (v5 : Int32), K21 μ v1 v2 v3 v4 v5 = some r → me_Z X B 0 0 μ 21 [(0, me_r 1 0), (1, me_i v1), (2, me_i v2), (3, me_i v3), (4, me_i v4), (5, me_i v5)] [])  (hf : f_Net_lay_b95 K12 K21 μ v1 v2 v3 v4 v5 s0 s1 = some r) : me_Z X B 0 0 μ 95 [(0, me_r 1 0), (1, me_i v1), (2, me_i v2), (3, me_i v3), (4, me_i v4), (5, me_i v5)] [me_i s0, me_i s1, me_r 2 0] := by
  unfold f_Net_lay_b95 at hf
  obtain ⟨g1, hf⟩ := me_gs hf
  obtain ⟨μ2, e_μ2, hf⟩ := me_lts hf
  refine me_iast C rfl (fun _ => rfl) g1 dX3_lay_95 e_μ2 ?_
  refine me_aload_n C 0 (Or.inr (Or.inl ⟨_, rfl⟩)) dX3_lay_96 rfl rfl ?_
  refine me_getr C hB 0 (k' := 2) (i' := 0) fg_Net_9 dX3_lay_97 rfl rfl ?_
  refine me_iload_n C 3 dX3_lay_100 rfl rfl ?_
  refine me_iconst C (v := 4) dX3_lay_101 (by decide) ?_
  refine me_imul C dX3_lay_102 ?_
  refine me_iconst C (v := 2) dX3_lay_103 (by decide) ?_
  refine me_iadd C dX3_lay_104 ?_
  refine me_iload C dX3_lay_105 rfl ?_
  refine me_iconst C (v := 1) dX3_lay_107 (by decide) ?_
  refine me_iadd C dX3_lay_108 ?_
  refine me_iload_n C 2 dX3_lay_109 rfl rfl ?_
  refine me_icmp_ge C (tgt := 119) dX3_lay_110 (by decide) (fun c3 => ?_) (fun c3 => ?_)
  · replace hf := me_ip c3 hf
    refine me_iconst C (v := -1) dX3_lay_119 (by decide) ?_
    refine me_dropI [(0, me_r 1 0), (1, me_i v1), (2, me_i v2), (3, me_i v3), (4, me_i v4), (5, me_i v5)] [0, 1, 2, 3, 4, 5] rfl ?_
    exact z_Net_lay_b120 C N hNx hB hK12 hK21 hf
  · replace hf := me_in c3 hf
    refine me_iload_n C 3 dX3_lay_113 rfl rfl ?_
    refine me_iload_n C 1 dX3_lay_114 rfl rfl ?_
    refine me_iadd C dX3_lay_115 ?_
    refine me_goto C (tgt := 120) dX3_lay_116 (by decide) ?_
    refine me_dropI [(0, me_r 1 0), (1, me_i v1), (2, me_i v2), (3, me_i v3), (4, me_i v4), (5, me_i v5)] [0, 1, 2, 3, 4, 5] rfl ?_
    exact z_Net_lay_b120 C N hNx hB hK12 hK21 hf
def f_Net_lay_b73 (K12 : me_M → Int32 → Int32 → Int32 → Int32 → Option (me_M × Unit)) (K21 : me_M → Int32 → Int32 → Int32 → Int32 → Int32 → Option (me_M × Unit)) (μ : me_M) (v1 : Int32) (v2 : Int32) (v3 : Int32) (v4 : Int32) (v5 : Int32) (s0 : Int32) (s1 : Int32) : Option (me_M × Unit) :=
  me_gd (me_inb s1 64) (
  me_lt (me_up μ 2 0 (me_ix s1) s0) (fun μ2 =>
  if v5 ≤ 0 then
  (f_Net_lay_b95 K12 K21 μ2 v1 v2 v3 v4 v5 (-1 : Int32) ((v3 * (4 : Int32)) + (1 : Int32)))
  else
  (f_Net_lay_b95 K12 K21 μ2 v1 v2 v3 v4 v5 (v3 - (1 : Int32)) ((v3 * (4 : Int32)) + (1 : Int32)))))
set_option maxHeartbeats 4000000 in
set_option maxRecDepth 100000 in
theorem z_Net_lay_b73 {X : me_X} {B : me_B} {sz : Nat} (C : me_C X B RX3 cX3_lay 6 none) {μ : me_M} {v1 : Int32} {v2 : Int32} {v3 : Int32} {v4 : Int32} {v5 : Int32} {s0 : Int32} {s1 : Int32}  {K12 : me_M → Int32 → Int32 → Int32 → Int32 → Option (me_M × Unit)} {K21 : me_M → Int32 → Int32 → Int32 → Int32 → Int32 → Option (me_M × Unit)} {r : me_M × Unit} (N : me_En X B sz (B, r.1, .ok (none)) 0 0 0 0) (hNx : me_Nx X) (hB : me_St B) (hK12 : ∀ (μ : me_M) (v1 : Int32) (v2 : Int32) (v3 : Int32) (v4 : Int32), K12 μ v1 v2 v3 v4 = some r → me_Z X B 0 0 μ 12 [(0, me_r 1 0), (1, me_i v1), (2, me_i v2), (3, me_i v3), (4, me_i v4)] []) (hK21 : ∀ (μ : me_M) (v1 : Int32) (v2 : Int32) (v3 : Int32) (v4 : Int32) (v5 : Int32), K21 μ v1 v2 v3 v4 v5 = some r → me_Z X B 0 0 μ 21 [(0, me_r 1 0), (1, me_i v1), (2, me_i v2), (3, me_i v3), (4, me_i v4), (5, me_i v5)] [])  (hf : f_Net_lay_b73 K12 K21 μ v1 v2 v3 v4 v5 s0 s1 = some r) : me_Z X B 0 0 μ 73 [(0, me_r 1 0), (1, me_i v1), (2, me_i v2), (3, me_i v3), (4, me_i v4), (5, me_i v5)] [me_i s0, me_i s1, me_r 2 0] := by
  unfold f_Net_lay_b73 at hf
  obtain ⟨g1, hf⟩ := me_gs hf
  obtain ⟨μ2, e_μ2, hf⟩ := me_lts hf
  refine me_iast C rfl (fun _ => rfl) g1 dX3_lay_73 e_μ2 ?_
  refine me_aload_n C 0 (Or.inr (Or.inl ⟨_, rfl⟩)) dX3_lay_74 rfl rfl ?_
  refine me_getr C hB 0 (k' := 2) (i' := 0) fg_Net_9 dX3_lay_75 rfl rfl ?_
  refine me_iload_n C 3 dX3_lay_78 rfl rfl ?_
  refine me_iconst C (v := 4) dX3_lay_79 (by decide) ?_
  refine me_imul C dX3_lay_80 ?_
  refine me_iconst C (v := 1) dX3_lay_81 (by decide) ?_
  refine me_iadd C dX3_lay_82 ?_
  refine me_iload C dX3_lay_83 rfl ?_
  refine me_if_le C (tgt := 94) dX3_lay_85 (by decide) (fun c3 => ?_) (fun c3 => ?_)
  · replace hf := me_ip c3 hf
    refine me_iconst C (v := -1) dX3_lay_94 (by decide) ?_
    refine me_dropI [(0, me_r 1 0), (1, me_i v1), (2, me_i v2), (3, me_i v3), (4, me_i v4), (5, me_i v5)] [0, 1, 2, 3, 4, 5] rfl ?_
    exact z_Net_lay_b95 C N hNx hB hK12 hK21 hf
  · replace hf := me_in c3 hf
    refine me_iload_n C 3 dX3_lay_88 rfl rfl ?_
    refine me_iconst C (v := 1) dX3_lay_89 (by decide) ?_
    refine me_isub C dX3_lay_90 ?_
    refine me_goto C (tgt := 95) dX3_lay_91 (by decide) ?_
    refine me_dropI [(0, me_r 1 0), (1, me_i v1), (2, me_i v2), (3, me_i v3), (4, me_i v4), (5, me_i v5)] [0, 1, 2, 3, 4, 5] rfl ?_
    exact z_Net_lay_b95 C N hNx hB hK12 hK21 hf
def f_Net_lay_b21 (K12 : me_M → Int32 → Int32 → Int32 → Int32 → Option (me_M × Unit)) (K21 : me_M → Int32 → Int32 → Int32 → Int32 → Int32 → Option (me_M × Unit)) (μ : me_M) (v1 : Int32) (v2 : Int32) (v3 : Int32) (v4 : Int32) (v5 : Int32) : Option (me_M × Unit) :=
  if v1 ≤ v5 then
  (me_lt (me_inc v4 (1)) (fun x2 =>
  K12 μ v1 v2 v3 x2))
  else
  (if (16 : Int32) ≤ v3 then
  (me_lt (me_inc v4 (1)) (fun x4 =>
  K12 μ v1 v2 v3 x4))
  else
  (me_gd (me_inb v3 16) (
  me_lt (me_up μ 4 0 (me_ix v3) v5) (fun μ6 =>
  me_gd (me_inb v3 16) (
  me_lt (me_up μ6 5 0 (me_ix v3) v4) (fun μ8 =>
  if v1 ≤ (v5 + (1 : Int32)) then
  (f_Net_lay_b73 K12 K21 μ8 v1 v2 v3 v4 v5 (-1 : Int32) ((v3 * (4 : Int32)) + (0 : Int32)))
  else
  (f_Net_lay_b73 K12 K21 μ8 v1 v2 v3 v4 v5 (v3 + (1 : Int32)) ((v3 * (4 : Int32)) + (0 : Int32)))))))))
set_option maxHeartbeats 4000000 in
set_option maxRecDepth 100000 in
theorem z_Net_lay_b21 {X : me_X} {B : me_B} {sz : Nat} (C : me_C X B RX3 cX3_lay 6 none) {μ : me_M} {v1 : Int32} {v2 : Int32} {v3 : Int32} {v4 : Int32} {v5 : Int32}  {K12 : me_M → Int32 → Int32 → Int32 → Int32 → Option (me_M × Unit)} {K21 : me_M → Int32 → Int32 → Int32 → Int32 → Int32 → Option (me_M × Unit)} {r : me_M × Unit} (N : me_En X B sz (B, r.1, .ok (none)) 0 0 0 0) (hNx : me_Nx X) (hB : me_St B) (hK12 : ∀ (μ : me_M) (v1 : Int32) (v2 : Int32) (v3 : Int32) (v4 : Int32), K12 μ v1 v2 v3 v4 = some r → me_Z X B 0 0 μ 12 [(0, me_r 1 0), (1, me_i v1), (2, me_i v2), (3, me_i v3), (4, me_i v4)] []) (hK21 : ∀ (μ : me_M) (v1 : Int32) (v2 : Int32) (v3 : Int32) (v4 : Int32) (v5 : Int32), K21 μ v1 v2 v3 v4 v5 = some r → me_Z X B 0 0 μ 21 [(0, me_r 1 0), (1, me_i v1), (2, me_i v2), (3, me_i v3), (4, me_i v4), (5, me_i v5)] [])  (hf : f_Net_lay_b21 K12 K21 μ v1 v2 v3 v4 v5 = some r) : me_Z X B 0 0 μ 21 [(0, me_r 1 0), (1, me_i v1), (2, me_i v2), (3, me_i v3), (4, me_i v4), (5, me_i v5)] [] := by
  unfold f_Net_lay_b21 at hf
  refine me_iload C dX3_lay_21 rfl ?_
  refine me_iload_n C 1 dX3_lay_23 rfl rfl ?_
  refine me_icmp_ge C (tgt := 152) dX3_lay_24 (by decide) (fun c1 => ?_) (fun c1 => ?_)
  · replace hf := me_ip c1 hf
    obtain ⟨x2, e_x2, hf⟩ := me_lts hf
    refine me_iinc C (v := x2) (L' := [(4, me_i x2), (0, me_r 1 0), (1, me_i v1), (2, me_i v2), (3, me_i v3), (5, me_i v5)]) dX3_lay_152 rfl e_x2.symm (by decide) rfl ?_
    refine me_goto C (tgt := 12) dX3_lay_155 (by decide) ?_
    refine me_dropI [(0, me_r 1 0), (1, me_i v1), (2, me_i v2), (3, me_i v3), (4, me_i x2)] [1, 2, 3, 4, 0] rfl ?_
    exact hK12 μ v1 v2 v3 x2 hf
  · replace hf := me_in c1 hf
    refine me_iload_n C 3 dX3_lay_27 rfl rfl ?_
    refine me_bipush C (v := 16) dX3_lay_28 (by decide) ?_
    refine me_icmp_ge C (tgt := 152) dX3_lay_30 (by decide) (fun c3 => ?_) (fun c3 => ?_)
    · replace hf := me_ip c3 hf
      obtain ⟨x4, e_x4, hf⟩ := me_lts hf
      refine me_iinc C (v := x4) (L' := [(4, me_i x4), (0, me_r 1 0), (1, me_i v1), (2, me_i v2), (3, me_i v3), (5, me_i v5)]) dX3_lay_152 rfl e_x4.symm (by decide) rfl ?_
      refine me_goto C (tgt := 12) dX3_lay_155 (by decide) ?_
      refine me_dropI [(0, me_r 1 0), (1, me_i v1), (2, me_i v2), (3, me_i v3), (4, me_i x4)] [1, 2, 3, 4, 0] rfl ?_
      exact hK12 μ v1 v2 v3 x4 hf
    · replace hf := me_in c3 hf
      refine me_aload_n C 0 (Or.inr (Or.inl ⟨_, rfl⟩)) dX3_lay_33 rfl rfl ?_
      refine me_getr C hB 2 (k' := 4) (i' := 0) fg_Net_19 dX3_lay_34 rfl rfl ?_
      refine me_iload_n C 3 dX3_lay_37 rfl rfl ?_
      refine me_iload C dX3_lay_38 rfl ?_
      obtain ⟨g5, hf⟩ := me_gs hf
      obtain ⟨μ6, e_μ6, hf⟩ := me_lts hf
      refine me_iast C rfl (fun _ => rfl) g5 dX3_lay_40 e_μ6 ?_
      refine me_aload_n C 0 (Or.inr (Or.inl ⟨_, rfl⟩)) dX3_lay_41 rfl rfl ?_
      refine me_getr C hB 3 (k' := 5) (i' := 0) fg_Net_22 dX3_lay_42 rfl rfl ?_
      refine me_iload_n C 3 dX3_lay_45 rfl rfl ?_
      refine me_iload C dX3_lay_46 rfl ?_
      obtain ⟨g7, hf⟩ := me_gs hf
      obtain ⟨μ8, e_μ8, hf⟩ := me_lts hf
      refine me_iast C rfl (fun _ => rfl) g7 dX3_lay_48 e_μ8 ?_
      refine me_aload_n C 0 (Or.inr (Or.inl ⟨_, rfl⟩)) dX3_lay_49 rfl rfl ?_
      refine me_getr C hB 0 (k' := 2) (i' := 0) fg_Net_9 dX3_lay_50 rfl rfl ?_
      refine me_iload_n C 3 dX3_lay_53 rfl rfl ?_
      refine me_iconst C (v := 4) dX3_lay_54 (by decide) ?_
      refine me_imul C dX3_lay_55 ?_
      refine me_iconst C (v := 0) dX3_lay_56 (by decide) ?_
      refine me_iadd C dX3_lay_57 ?_
      refine me_iload C dX3_lay_58 rfl ?_
      refine me_iconst C (v := 1) dX3_lay_60 (by decide) ?_
      refine me_iadd C dX3_lay_61 ?_
      refine me_iload_n C 1 dX3_lay_62 rfl rfl ?_
      refine me_icmp_ge C (tgt := 72) dX3_lay_63 (by decide) (fun c9 => ?_) (fun c9 => ?_)
      · replace hf := me_ip c9 hf
        refine me_iconst C (v := -1) dX3_lay_72 (by decide) ?_
        refine me_dropI [(0, me_r 1 0), (1, me_i v1), (2, me_i v2), (3, me_i v3), (4, me_i v4), (5, me_i v5)] [0, 1, 2, 3, 4, 5] rfl ?_
        exact z_Net_lay_b73 C N hNx hB hK12 hK21 hf
      · replace hf := me_in c9 hf
        refine me_iload_n C 3 dX3_lay_66 rfl rfl ?_
        refine me_iconst C (v := 1) dX3_lay_67 (by decide) ?_
        refine me_iadd C dX3_lay_68 ?_
        refine me_goto C (tgt := 73) dX3_lay_69 (by decide) ?_
        refine me_dropI [(0, me_r 1 0), (1, me_i v1), (2, me_i v2), (3, me_i v3), (4, me_i v4), (5, me_i v5)] [0, 1, 2, 3, 4, 5] rfl ?_
        exact z_Net_lay_b73 C N hNx hB hK12 hK21 hf
def f_Net_lay_h21 (K12 : me_M → Int32 → Int32 → Int32 → Int32 → Option (me_M × Unit)) : Nat → me_M → Int32 → Int32 → Int32 → Int32 → Int32 → Option (me_M × Unit)
  | 0, _, _, _, _, _, _ => none
  | n + 1, μ, v1, v2, v3, v4, v5 => f_Net_lay_b21 K12 (f_Net_lay_h21 K12 n) μ v1 v2 v3 v4 v5
set_option maxHeartbeats 4000000 in
set_option maxRecDepth 100000 in
theorem z_Net_lay_h21 {X : me_X} {B : me_B} {sz : Nat} (C : me_C X B RX3 cX3_lay 6 none) {K12 : me_M → Int32 → Int32 → Int32 → Int32 → Option (me_M × Unit)} {r : me_M × Unit} (N : me_En X B sz (B, r.1, .ok (none)) 0 0 0 0) (hNx : me_Nx X) (hB : me_St B) (hK12 : ∀ (μ : me_M) (v1 : Int32) (v2 : Int32) (v3 : Int32) (v4 : Int32), K12 μ v1 v2 v3 v4 = some r → me_Z X B 0 0 μ 12 [(0, me_r 1 0), (1, me_i v1), (2, me_i v2), (3, me_i v3), (4, me_i v4)] []) : ∀ (n : Nat) (μ : me_M) (v1 : Int32) (v2 : Int32) (v3 : Int32) (v4 : Int32) (v5 : Int32), f_Net_lay_h21 K12 n μ v1 v2 v3 v4 v5 = some r → me_Z X B 0 0 μ 21 [(0, me_r 1 0), (1, me_i v1), (2, me_i v2), (3, me_i v3), (4, me_i v4), (5, me_i v5)] [] := by
  intro n
  induction n with
  | zero => intro μ v1 v2 v3 v4 v5  h; exact absurd (show (none : Option (me_M × Unit)) = some r from h) (fun q => by cases q)
  | succ n ih => intro μ v1 v2 v3 v4 v5  h; exact z_Net_lay_b21 C N hNx hB hK12 (K21 := f_Net_lay_h21 K12 n) ih  h
def f_Net_lay_b161 (K161 : me_M → Int32 → Option (me_M × Unit)) (μ : me_M) (v4 : Int32) : Option (me_M × Unit) :=
  if (64 : Int32) ≤ v4 then
  (some (μ, ()))
  else
  (me_gd (me_inb v4 64) (
  me_lt (me_up μ 3 0 (me_ix v4) (vp_nar .boolean (0 : Int32))) (fun μ3 =>
  me_lt (me_inc v4 (1)) (fun x4 =>
  K161 μ3 x4))))
set_option maxHeartbeats 4000000 in
set_option maxRecDepth 100000 in
theorem z_Net_lay_b161 {X : me_X} {B : me_B} {sz : Nat} (C : me_C X B RX3 cX3_lay 6 none) {μ : me_M} {v4 : Int32}  {K161 : me_M → Int32 → Option (me_M × Unit)} {r : me_M × Unit} (N : me_En X B sz (B, r.1, .ok (none)) 0 0 0 0) (hNx : me_Nx X) (hB : me_St B) (hK161 : ∀ (μ : me_M) (v4 : Int32), K161 μ v4 = some r → me_Z X B 0 0 μ 161 [(0, me_r 1 0), (4, me_i v4)] [])  (hf : f_Net_lay_b161 K161 μ v4 = some r) : me_Z X B 0 0 μ 161 [(0, me_r 1 0), (4, me_i v4)] [] := by
  unfold f_Net_lay_b161 at hf
  refine me_iload C dX3_lay_161 rfl ?_
  refine me_bipush C (v := 64) dX3_lay_163 (by decide) ?_
  refine me_icmp_ge C (tgt := 182) dX3_lay_165 (by decide) (fun c1 => ?_) (fun c1 => ?_)
  · replace hf := me_ip c1 hf
    exact me_vret C N dX3_lay_182 (by cases hf; rfl) (by decide) (by decide)
  · replace hf := me_in c1 hf
    refine me_aload_n C 0 (Or.inr (Or.inl ⟨_, rfl⟩)) dX3_lay_168 rfl rfl ?_
    refine me_getr C hB 1 (k' := 3) (i' := 0) fg_Net_15 dX3_lay_169 rfl rfl ?_
    refine me_iload C dX3_lay_172 rfl ?_
    refine me_iconst C (v := 0) dX3_lay_174 (by decide) ?_
    obtain ⟨g2, hf⟩ := me_gs hf
    obtain ⟨μ3, e_μ3, hf⟩ := me_lts hf
    refine me_zast C rfl (fun _ => rfl) g2 dX3_lay_175 e_μ3 ?_
    obtain ⟨x4, e_x4, hf⟩ := me_lts hf
    refine me_iinc C (v := x4) (L' := [(4, me_i x4), (0, me_r 1 0)]) dX3_lay_176 rfl e_x4.symm (by decide) rfl ?_
    refine me_goto C (tgt := 161) dX3_lay_179 (by decide) ?_
    refine me_dropI [(0, me_r 1 0), (4, me_i x4)] [1, 0] rfl ?_
    exact hK161 μ3 x4 hf
def f_Net_lay_h161  : Nat → me_M → Int32 → Option (me_M × Unit)
  | 0, _, _ => none
  | n + 1, μ, v4 => f_Net_lay_b161 (f_Net_lay_h161 n) μ v4
set_option maxHeartbeats 4000000 in
set_option maxRecDepth 100000 in
theorem z_Net_lay_h161 {X : me_X} {B : me_B} {sz : Nat} (C : me_C X B RX3 cX3_lay 6 none)  {r : me_M × Unit} (N : me_En X B sz (B, r.1, .ok (none)) 0 0 0 0) (hNx : me_Nx X) (hB : me_St B)  : ∀ (n : Nat) (μ : me_M) (v4 : Int32), f_Net_lay_h161 n μ v4 = some r → me_Z X B 0 0 μ 161 [(0, me_r 1 0), (4, me_i v4)] [] := by
  intro n
  induction n with
  | zero => intro μ v4  h; exact absurd (show (none : Option (me_M × Unit)) = some r from h) (fun q => by cases q)
  | succ n ih => intro μ v4  h; exact z_Net_lay_b161 C N hNx hB  (K161 := f_Net_lay_h161 n) ih  h
def f_Net_lay_b12 (K12 : me_M → Int32 → Int32 → Int32 → Int32 → Option (me_M × Unit)) (μ : me_M) (v1 : Int32) (v2 : Int32) (v3 : Int32) (v4 : Int32) : Option (me_M × Unit) :=
  if v2 ≤ v4 then
  (f_Net_lay_h161 me_FU μ (0 : Int32))
  else
  (f_Net_lay_h21 K12 me_FU μ v1 v2 v3 v4 (0 : Int32))
set_option maxHeartbeats 4000000 in
set_option maxRecDepth 100000 in
theorem z_Net_lay_b12 {X : me_X} {B : me_B} {sz : Nat} (C : me_C X B RX3 cX3_lay 6 none) {μ : me_M} {v1 : Int32} {v2 : Int32} {v3 : Int32} {v4 : Int32}  {K12 : me_M → Int32 → Int32 → Int32 → Int32 → Option (me_M × Unit)} {r : me_M × Unit} (N : me_En X B sz (B, r.1, .ok (none)) 0 0 0 0) (hNx : me_Nx X) (hB : me_St B) (hK12 : ∀ (μ : me_M) (v1 : Int32) (v2 : Int32) (v3 : Int32) (v4 : Int32), K12 μ v1 v2 v3 v4 = some r → me_Z X B 0 0 μ 12 [(0, me_r 1 0), (1, me_i v1), (2, me_i v2), (3, me_i v3), (4, me_i v4)] [])  (hf : f_Net_lay_b12 K12 μ v1 v2 v3 v4 = some r) : me_Z X B 0 0 μ 12 [(0, me_r 1 0), (1, me_i v1), (2, me_i v2), (3, me_i v3), (4, me_i v4)] [] := by
  unfold f_Net_lay_b12 at hf
  refine me_iload C dX3_lay_12 rfl ?_
  refine me_iload_n C 2 dX3_lay_14 rfl rfl ?_
  refine me_icmp_ge C (tgt := 158) dX3_lay_15 (by decide) (fun c1 => ?_) (fun c1 => ?_)
  · replace hf := me_ip c1 hf
    refine me_iconst C (v := 0) dX3_lay_158 (by decide) ?_
    refine me_istore C dX3_lay_159 (by decide) (L' := [(4, me_i (0 : Int32)), (0, me_r 1 0), (1, me_i v1), (2, me_i v2), (3, me_i v3)]) rfl ?_
    refine me_dropI [(0, me_r 1 0), (4, me_i (0 : Int32))] [1, 0] rfl ?_
    exact z_Net_lay_h161 C N hNx hB me_FU μ (0 : Int32) hf
  · replace hf := me_in c1 hf
    refine me_iconst C (v := 0) dX3_lay_18 (by decide) ?_
    refine me_istore C dX3_lay_19 (by decide) (L' := [(5, me_i (0 : Int32)), (0, me_r 1 0), (1, me_i v1), (2, me_i v2), (3, me_i v3), (4, me_i v4)]) rfl ?_
    refine me_dropI [(0, me_r 1 0), (1, me_i v1), (2, me_i v2), (3, me_i v3), (4, me_i v4), (5, me_i (0 : Int32))] [1, 2, 3, 4, 5, 0] rfl ?_
    exact z_Net_lay_h21 C N hNx hB hK12 me_FU μ v1 v2 v3 v4 (0 : Int32) hf
def f_Net_lay_h12  : Nat → me_M → Int32 → Int32 → Int32 → Int32 → Option (me_M × Unit)
  | 0, _, _, _, _, _ => none
  | n + 1, μ, v1, v2, v3, v4 => f_Net_lay_b12 (f_Net_lay_h12 n) μ v1 v2 v3 v4
set_option maxHeartbeats 4000000 in
set_option maxRecDepth 100000 in
theorem z_Net_lay_h12 {X : me_X} {B : me_B} {sz : Nat} (C : me_C X B RX3 cX3_lay 6 none)  {r : me_M × Unit} (N : me_En X B sz (B, r.1, .ok (none)) 0 0 0 0) (hNx : me_Nx X) (hB : me_St B)  : ∀ (n : Nat) (μ : me_M) (v1 : Int32) (v2 : Int32) (v3 : Int32) (v4 : Int32), f_Net_lay_h12 n μ v1 v2 v3 v4 = some r → me_Z X B 0 0 μ 12 [(0, me_r 1 0), (1, me_i v1), (2, me_i v2), (3, me_i v3), (4, me_i v4)] [] := by
  intro n
  induction n with
  | zero => intro μ v1 v2 v3 v4  h; exact absurd (show (none : Option (me_M × Unit)) = some r from h) (fun q => by cases q)
  | succ n ih => intro μ v1 v2 v3 v4  h; exact z_Net_lay_b12 C N hNx hB  (K12 := f_Net_lay_h12 n) ih  h
def f_Net_lay (μ : me_M) (v1 : Int32) (v2 : Int32) : Option (me_M × Unit) :=
  me_lt (me_up μ 1 0 4 (v1 * v2)) (fun μ1 =>
  f_Net_lay_h12 me_FU μ1 v1 v2 (0 : Int32) (0 : Int32))
set_option maxHeartbeats 4000000 in
set_option maxRecDepth 100000 in
theorem z_Net_lay {X : me_X} {B : me_B} {sz : Nat} (C : me_C X B RX3 cX3_lay 6 none) {μ : me_M} {v1 : Int32} {v2 : Int32}   {r : me_M × Unit} (N : me_En X B sz (B, r.1, .ok (none)) 0 0 0 0) (hNx : me_Nx X) (hB : me_St B)   (hf : f_Net_lay μ v1 v2 = some r) : me_Z X B 0 0 μ 0 [(0, me_r 1 0), (1, me_i v1), (2, me_i v2)] [] := by
  unfold f_Net_lay at hf
  refine me_aload_n C 0 (Or.inr (Or.inl ⟨_, rfl⟩)) dX3_lay_0 rfl rfl ?_
  refine me_iload_n C 1 dX3_lay_1 rfl rfl ?_
  refine me_iload_n C 2 dX3_lay_2 rfl rfl ?_
  refine me_imul C dX3_lay_3 ?_
  obtain ⟨μ1, e_μ1, hf⟩ := me_lts hf
  refine me_puti C 4 fw_Net_25 dX3_lay_4 rfl (me_nri _) e_μ1 ?_
  refine me_iconst C (v := 0) dX3_lay_7 (by decide) ?_
  refine me_istore_n C 3 dX3_lay_8 rfl (by decide) (L' := [(3, me_i (0 : Int32)), (0, me_r 1 0), (1, me_i v1), (2, me_i v2)]) rfl ?_
  refine me_iconst C (v := 0) dX3_lay_9 (by decide) ?_
  refine me_istore C dX3_lay_10 (by decide) (L' := [(4, me_i (0 : Int32)), (3, me_i (0 : Int32)), (0, me_r 1 0), (1, me_i v1), (2, me_i v2)]) rfl ?_
  refine me_dropI [(0, me_r 1 0), (1, me_i v1), (2, me_i v2), (3, me_i (0 : Int32)), (4, me_i (0 : Int32))] [2, 3, 4, 1, 0] rfl ?_
  exact z_Net_lay_h12 C N hNx hB me_FU μ1 v1 v2 (0 : Int32) (0 : Int32) hf
theorem c_Net_lay {B : me_B} (hB : me_St B) {μ : me_M} {v1 : Int32} {v2 : Int32} {μ' : me_M} {r : Unit}  (hf : f_Net_lay μ v1 v2 = some (μ', r)) : ∀ l E z, l.stackTraces = false → me_Met l yX3_lay cX3_lay 6 none 0 0 0 0 E B μ z [me_r 1 0, me_i v1, me_i v2] (B, μ', .ok (none)) :=
  fun _ _ _ hl => me_ofZ hl (by decide +kernel) (Nat.le_of_ble_eq_true rfl) (fun _ C N hNx => z_Net_lay C N hNx hB  hf)

def f_Packet_wasDelivered_b18 (μ : me_M) : Option Int32 :=
  some (1 : Int32)
set_option maxHeartbeats 4000000 in
set_option maxRecDepth 100000 in
theorem z_Packet_wasDelivered_b18 {X : me_X} {B : me_B} {sz : Nat} (C : me_C X B RX4 cX4_wasDelivered 1 (some .boolean)) {μ : me_M}    {r : Int32} (N : me_En X B sz (B, μ, .ok (some (me_i r))) 0 0 0 0) (hNx : me_Nx X) (hB : me_St B)   (hf : f_Packet_wasDelivered_b18 μ = some r) : me_Z X B 0 0 μ 18 [] [] := by
  unfold f_Packet_wasDelivered_b18 at hf
  refine me_iconst C (v := 1) dX4_wasDelivered_18 (by decide) ?_
  refine me_goto C (tgt := 23) dX4_wasDelivered_19 (by decide) ?_
  exact me_iret C N dX4_wasDelivered_23 (by decide +kernel) (by cases hf; rfl) (by decide) (by decide)
def f_Packet_wasDelivered (μ : me_M) (v0 : Nat) : Option Int32 :=
  if (μ 8 v0 2) = (100 : Int32) then
  (f_Packet_wasDelivered_b18 μ)
  else
  (if (μ 8 v0 2) = (114 : Int32) then
  (f_Packet_wasDelivered_b18 μ)
  else
  (some (0 : Int32)))
set_option maxHeartbeats 4000000 in
set_option maxRecDepth 100000 in
theorem z_Packet_wasDelivered {X : me_X} {B : me_B} {sz : Nat} (C : me_C X B RX4 cX4_wasDelivered 1 (some .boolean)) {μ : me_M} {v0 : Nat}   {r : Int32} (N : me_En X B sz (B, μ, .ok (some (me_i r))) 0 0 0 0) (hNx : me_Nx X) (hB : me_St B)   (hf : f_Packet_wasDelivered μ v0 = some r) : me_Z X B 0 0 μ 0 [(0, me_r 8 v0)] [] := by
  unfold f_Packet_wasDelivered at hf
  refine me_aload_n C 0 (Or.inr (Or.inl ⟨_, rfl⟩)) dX4_wasDelivered_0 rfl rfl ?_
  refine me_geti C 2 fg_Packet_23 dX4_wasDelivered_1 rfl ?_
  refine me_bipush C (v := 100) dX4_wasDelivered_4 (by decide) ?_
  refine me_icmp_eq C (tgt := 18) dX4_wasDelivered_6 (by decide) (fun c1 => ?_) (fun c1 => ?_)
  · replace hf := me_ip c1 hf
    refine me_dropI [] [] rfl ?_
    exact z_Packet_wasDelivered_b18 C N hNx hB hf
  · replace hf := me_in c1 hf
    refine me_aload_n C 0 (Or.inr (Or.inl ⟨_, rfl⟩)) dX4_wasDelivered_9 rfl rfl ?_
    refine me_geti C 2 fg_Packet_23 dX4_wasDelivered_10 rfl ?_
    refine me_bipush C (v := 114) dX4_wasDelivered_13 (by decide) ?_
    refine me_icmp_ne C (tgt := 22) dX4_wasDelivered_15 (by decide) (fun c2 => ?_) (fun c2 => ?_)
    · replace hf := me_in c2 hf
      refine me_iconst C (v := 0) dX4_wasDelivered_22 (by decide) ?_
      exact me_iret C N dX4_wasDelivered_23 (by decide +kernel) (by cases hf; rfl) (by decide) (by decide)
    · replace hf := me_ip c2 hf
      refine me_dropI [] [] rfl ?_
      exact z_Packet_wasDelivered_b18 C N hNx hB hf
theorem c_Packet_wasDelivered {B : me_B} (hB : me_St B) {μ : me_M} {v0 : Nat} {r : Int32}  (hf : f_Packet_wasDelivered μ v0 = some r) : ∀ l E z, l.stackTraces = false → me_Met l yX4_wasDelivered cX4_wasDelivered 1 (some .boolean) 0 0 0 0 E B μ z [me_r 8 v0] (B, μ, .ok (some (me_i r))) :=
  fun _ _ _ hl => me_ofZ hl (by decide +kernel) (Nat.le_of_ble_eq_true rfl) (fun _ C N hNx => z_Packet_wasDelivered C N hNx hB  hf)

def f_Packet_piecesInRows (μ : me_M) (v0 : Nat) : Option Int32 :=
  if (μ 8 v0 2) = (108 : Int32) then
  (some (0 : Int32))
  else
  (some ((μ 8 v0 7) - (μ 8 v0 8)))
set_option maxHeartbeats 4000000 in
set_option maxRecDepth 100000 in
theorem z_Packet_piecesInRows {X : me_X} {B : me_B} {sz : Nat} (C : me_C X B RX4 cX4_piecesInRows 1 (some .int)) {μ : me_M} {v0 : Nat}   {r : Int32} (N : me_En X B sz (B, μ, .ok (some (me_i r))) 0 0 0 0) (hNx : me_Nx X) (hB : me_St B)   (hf : f_Packet_piecesInRows μ v0 = some r) : me_Z X B 0 0 μ 0 [(0, me_r 8 v0)] [] := by
  unfold f_Packet_piecesInRows at hf
  refine me_aload_n C 0 (Or.inr (Or.inl ⟨_, rfl⟩)) dX4_piecesInRows_0 rfl rfl ?_
  refine me_geti C 2 fg_Packet_23 dX4_piecesInRows_1 rfl ?_
  refine me_bipush C (v := 108) dX4_piecesInRows_4 (by decide) ?_
  refine me_icmp_ne C (tgt := 13) dX4_piecesInRows_6 (by decide) (fun c1 => ?_) (fun c1 => ?_)
  · replace hf := me_in c1 hf
    refine me_aload_n C 0 (Or.inr (Or.inl ⟨_, rfl⟩)) dX4_piecesInRows_13 rfl rfl ?_
    refine me_geti C 7 fg_Packet_20 dX4_piecesInRows_14 rfl ?_
    refine me_aload_n C 0 (Or.inr (Or.inl ⟨_, rfl⟩)) dX4_piecesInRows_17 rfl rfl ?_
    refine me_geti C 8 fg_Packet_26 dX4_piecesInRows_18 rfl ?_
    refine me_isub C dX4_piecesInRows_21 ?_
    exact me_iret C N dX4_piecesInRows_22 (me_nri _) (by cases hf; rfl) (by decide) (by decide)
  · replace hf := me_ip c1 hf
    refine me_iconst C (v := 0) dX4_piecesInRows_9 (by decide) ?_
    refine me_goto C (tgt := 22) dX4_piecesInRows_10 (by decide) ?_
    exact me_iret C N dX4_piecesInRows_22 (me_nri _) (by cases hf; rfl) (by decide) (by decide)
theorem c_Packet_piecesInRows {B : me_B} (hB : me_St B) {μ : me_M} {v0 : Nat} {r : Int32}  (hf : f_Packet_piecesInRows μ v0 = some r) : ∀ l E z, l.stackTraces = false → me_Met l yX4_piecesInRows cX4_piecesInRows 1 (some .int) 0 0 0 0 E B μ z [me_r 8 v0] (B, μ, .ok (some (me_i r))) :=
  fun _ _ _ hl => me_ofZ hl (by decide +kernel) (Nat.le_of_ble_eq_true rfl) (fun _ C N hNx => z_Packet_piecesInRows C N hNx hB  hf)

def f_Packet_beatsTaken (μ : me_M) (v0 : Nat) : Option Int32 :=
  some ((μ 8 v0 11) - (μ 8 v0 10))
set_option maxHeartbeats 4000000 in
set_option maxRecDepth 100000 in
theorem z_Packet_beatsTaken {X : me_X} {B : me_B} {sz : Nat} (C : me_C X B RX4 cX4_beatsTaken 1 (some .int)) {μ : me_M} {v0 : Nat}   {r : Int32} (N : me_En X B sz (B, μ, .ok (some (me_i r))) 0 0 0 0) (hNx : me_Nx X) (hB : me_St B)   (hf : f_Packet_beatsTaken μ v0 = some r) : me_Z X B 0 0 μ 0 [(0, me_r 8 v0)] [] := by
  unfold f_Packet_beatsTaken at hf
  refine me_aload_n C 0 (Or.inr (Or.inl ⟨_, rfl⟩)) dX4_beatsTaken_0 rfl rfl ?_
  refine me_geti C 11 fg_Packet_29 dX4_beatsTaken_1 rfl ?_
  refine me_aload_n C 0 (Or.inr (Or.inl ⟨_, rfl⟩)) dX4_beatsTaken_4 rfl rfl ?_
  refine me_geti C 10 fg_Packet_32 dX4_beatsTaken_5 rfl ?_
  refine me_isub C dX4_beatsTaken_8 ?_
  exact me_iret C N dX4_beatsTaken_9 (me_nri _) (by cases hf; rfl) (by decide) (by decide)
theorem c_Packet_beatsTaken {B : me_B} (hB : me_St B) {μ : me_M} {v0 : Nat} {r : Int32}  (hf : f_Packet_beatsTaken μ v0 = some r) : ∀ l E z, l.stackTraces = false → me_Met l yX4_beatsTaken cX4_beatsTaken 1 (some .int) 0 0 0 0 E B μ z [me_r 8 v0] (B, μ, .ok (some (me_i r))) :=
  fun _ _ _ hl => me_ofZ hl (by decide +kernel) (Nat.le_of_ble_eq_true rfl) (fun _ C N hNx => z_Packet_beatsTaken C N hNx hB  hf)

def f_Placing_reset_b7 (K7 : me_M → Int32 → Option (me_M × Unit)) (μ : me_M) (v1 : Int32) : Option (me_M × Unit) :=
  if (64 : Int32) ≤ v1 then
  (some (μ, ()))
  else
  (me_gd (me_inb v1 64) (
  me_lt (me_up μ 11 0 (me_ix v1) (0 : Int32)) (fun μ3 =>
  me_lt (me_inc v1 (1)) (fun x4 =>
  K7 μ3 x4))))
set_option maxHeartbeats 4000000 in
set_option maxRecDepth 100000 in
theorem z_Placing_reset_b7 {X : me_X} {B : me_B} {sz : Nat} (C : me_C X B RX5 cX5_reset 2 none) {μ : me_M} {v1 : Int32}  {K7 : me_M → Int32 → Option (me_M × Unit)} {r : me_M × Unit} (N : me_En X B sz (B, r.1, .ok (none)) 0 0 0 0) (hNx : me_Nx X) (hB : me_St B) (hK7 : ∀ (μ : me_M) (v1 : Int32), K7 μ v1 = some r → me_Z X B 0 0 μ 7 [(0, me_r 9 0), (1, me_i v1)] [])  (hf : f_Placing_reset_b7 K7 μ v1 = some r) : me_Z X B 0 0 μ 7 [(0, me_r 9 0), (1, me_i v1)] [] := by
  unfold f_Placing_reset_b7 at hf
  refine me_iload_n C 1 dX5_reset_7 rfl rfl ?_
  refine me_aload_n C 0 (Or.inr (Or.inl ⟨_, rfl⟩)) dX5_reset_8 rfl rfl ?_
  refine me_getr C hB 2 (k' := 11) (i' := 0) fg_Placing_15 dX5_reset_9 rfl rfl ?_
  refine me_alen C (v := 64) rfl (Or.inl rfl) (fun _ => rfl) dX5_reset_12 (by decide) ?_
  refine me_icmp_ge C (tgt := 29) dX5_reset_13 (by decide) (fun c1 => ?_) (fun c1 => ?_)
  · replace hf := me_ip c1 hf
    exact me_vret C N dX5_reset_29 (by cases hf; rfl) (by decide) (by decide)
  · replace hf := me_in c1 hf
    refine me_aload_n C 0 (Or.inr (Or.inl ⟨_, rfl⟩)) dX5_reset_16 rfl rfl ?_
    refine me_getr C hB 2 (k' := 11) (i' := 0) fg_Placing_15 dX5_reset_17 rfl rfl ?_
    refine me_iload_n C 1 dX5_reset_20 rfl rfl ?_
    refine me_iconst C (v := 0) dX5_reset_21 (by decide) ?_
    obtain ⟨g2, hf⟩ := me_gs hf
    obtain ⟨μ3, e_μ3, hf⟩ := me_lts hf
    refine me_iast C rfl (fun _ => rfl) g2 dX5_reset_22 e_μ3 ?_
    obtain ⟨x4, e_x4, hf⟩ := me_lts hf
    refine me_iinc C (v := x4) (L' := [(1, me_i x4), (0, me_r 9 0)]) dX5_reset_23 rfl e_x4.symm (by decide) rfl ?_
    refine me_goto C (tgt := 7) dX5_reset_26 (by decide) ?_
    refine me_dropI [(0, me_r 9 0), (1, me_i x4)] [1, 0] rfl ?_
    exact hK7 μ3 x4 hf
def f_Placing_reset_h7  : Nat → me_M → Int32 → Option (me_M × Unit)
  | 0, _, _ => none
  | n + 1, μ, v1 => f_Placing_reset_b7 (f_Placing_reset_h7 n) μ v1
set_option maxHeartbeats 4000000 in
set_option maxRecDepth 100000 in
theorem z_Placing_reset_h7 {X : me_X} {B : me_B} {sz : Nat} (C : me_C X B RX5 cX5_reset 2 none)  {r : me_M × Unit} (N : me_En X B sz (B, r.1, .ok (none)) 0 0 0 0) (hNx : me_Nx X) (hB : me_St B)  : ∀ (n : Nat) (μ : me_M) (v1 : Int32), f_Placing_reset_h7 n μ v1 = some r → me_Z X B 0 0 μ 7 [(0, me_r 9 0), (1, me_i v1)] [] := by
  intro n
  induction n with
  | zero => intro μ v1  h; exact absurd (show (none : Option (me_M × Unit)) = some r from h) (fun q => by cases q)
  | succ n ih => intro μ v1  h; exact z_Placing_reset_b7 C N hNx hB  (K7 := f_Placing_reset_h7 n) ih  h
def f_Placing_reset (μ : me_M) : Option (me_M × Unit) :=
  me_lt (me_up μ 9 0 3 (0 : Int32)) (fun μ1 =>
  f_Placing_reset_h7 me_FU μ1 (0 : Int32))
set_option maxHeartbeats 4000000 in
set_option maxRecDepth 100000 in
theorem z_Placing_reset {X : me_X} {B : me_B} {sz : Nat} (C : me_C X B RX5 cX5_reset 2 none) {μ : me_M}    {r : me_M × Unit} (N : me_En X B sz (B, r.1, .ok (none)) 0 0 0 0) (hNx : me_Nx X) (hB : me_St B)   (hf : f_Placing_reset μ = some r) : me_Z X B 0 0 μ 0 [(0, me_r 9 0)] [] := by
  unfold f_Placing_reset at hf
  refine me_aload_n C 0 (Or.inr (Or.inl ⟨_, rfl⟩)) dX5_reset_0 rfl rfl ?_
  refine me_iconst C (v := 0) dX5_reset_1 (by decide) ?_
  obtain ⟨μ1, e_μ1, hf⟩ := me_lts hf
  refine me_puti C 3 fw_Placing_22 dX5_reset_2 rfl (me_nri _) e_μ1 ?_
  refine me_iconst C (v := 0) dX5_reset_5 (by decide) ?_
  refine me_istore_n C 1 dX5_reset_6 rfl (by decide) (L' := [(1, me_i (0 : Int32)), (0, me_r 9 0)]) rfl ?_
  refine me_dropI [(0, me_r 9 0), (1, me_i (0 : Int32))] [1, 0] rfl ?_
  exact z_Placing_reset_h7 C N hNx hB me_FU μ1 (0 : Int32) hf
theorem c_Placing_reset {B : me_B} (hB : me_St B) {μ : me_M}  {μ' : me_M} {r : Unit}  (hf : f_Placing_reset μ = some (μ', r)) : ∀ l E z, l.stackTraces = false → me_Met l yX5_reset cX5_reset 2 none 0 0 0 0 E B μ z [me_r 9 0] (B, μ', .ok (none)) :=
  fun _ _ _ hl => me_ofZ hl (by decide +kernel) (Nat.le_of_ble_eq_true rfl) (fun _ C N hNx => z_Placing_reset C N hNx hB  hf)

def f_Post_reset (μ : me_M) : Option (me_M × Unit) :=
  me_lt (me_up μ 6 0 1 (0 : Int32)) (fun μ1 =>
  me_lt (me_up μ1 6 0 2 (0 : Int32)) (fun μ2 =>
  some (μ2, ())))
set_option maxHeartbeats 4000000 in
set_option maxRecDepth 100000 in
theorem z_Post_reset {X : me_X} {B : me_B} {sz : Nat} (C : me_C X B RX6 cX6_reset 1 none) {μ : me_M}    {r : me_M × Unit} (N : me_En X B sz (B, r.1, .ok (none)) 0 0 0 0) (hNx : me_Nx X) (hB : me_St B)   (hf : f_Post_reset μ = some r) : me_Z X B 0 0 μ 0 [(0, me_r 6 0)] [] := by
  unfold f_Post_reset at hf
  refine me_aload_n C 0 (Or.inr (Or.inl ⟨_, rfl⟩)) dX6_reset_0 rfl rfl ?_
  refine me_iconst C (v := 0) dX6_reset_1 (by decide) ?_
  obtain ⟨μ1, e_μ1, hf⟩ := me_lts hf
  refine me_puti C 1 fw_Post_20 dX6_reset_2 rfl (me_nri _) e_μ1 ?_
  refine me_aload_n C 0 (Or.inr (Or.inl ⟨_, rfl⟩)) dX6_reset_5 rfl rfl ?_
  refine me_iconst C (v := 0) dX6_reset_6 (by decide) ?_
  obtain ⟨μ2, e_μ2, hf⟩ := me_lts hf
  refine me_puti C 2 fw_Post_24 dX6_reset_7 rfl (me_nri _) e_μ2 ?_
  exact me_vret C N dX6_reset_10 (by cases hf; rfl) (by decide) (by decide)
theorem c_Post_reset {B : me_B} (hB : me_St B) {μ : me_M}  {μ' : me_M} {r : Unit}  (hf : f_Post_reset μ = some (μ', r)) : ∀ l E z, l.stackTraces = false → me_Met l yX6_reset cX6_reset 1 none 0 0 0 0 E B μ z [me_r 6 0] (B, μ', .ok (none)) :=
  fun _ _ _ hl => me_ofZ hl (by decide +kernel) (Nat.le_of_ble_eq_true rfl) (fun _ C N hNx => z_Post_reset C N hNx hB  hf)

def f_Post_hasRoom (μ : me_M) (v1 : Int32) : Option Int32 :=
  if (200 : Int32) < (((μ 6 0 1) + (μ 6 0 2)) + v1) then
  (some (0 : Int32))
  else
  (some (1 : Int32))
set_option maxHeartbeats 4000000 in
set_option maxRecDepth 100000 in
theorem z_Post_hasRoom {X : me_X} {B : me_B} {sz : Nat} (C : me_C X B RX6 cX6_hasRoom 2 (some .boolean)) {μ : me_M} {v1 : Int32}   {r : Int32} (N : me_En X B sz (B, μ, .ok (some (me_i r))) 0 0 0 0) (hNx : me_Nx X) (hB : me_St B)   (hf : f_Post_hasRoom μ v1 = some r) : me_Z X B 0 0 μ 0 [(0, me_r 6 0), (1, me_i v1)] [] := by
  unfold f_Post_hasRoom at hf
  refine me_aload_n C 0 (Or.inr (Or.inl ⟨_, rfl⟩)) dX6_hasRoom_0 rfl rfl ?_
  refine me_geti C 1 fg_Post_20 dX6_hasRoom_1 rfl ?_
  refine me_aload_n C 0 (Or.inr (Or.inl ⟨_, rfl⟩)) dX6_hasRoom_4 rfl rfl ?_
  refine me_geti C 2 fg_Post_24 dX6_hasRoom_5 rfl ?_
  refine me_iadd C dX6_hasRoom_8 ?_
  refine me_iload_n C 1 dX6_hasRoom_9 rfl rfl ?_
  refine me_iadd C dX6_hasRoom_10 ?_
  refine me_sipush C (v := 200) dX6_hasRoom_11 (by decide) ?_
  refine me_icmp_gt C (tgt := 21) dX6_hasRoom_14 (by decide) (fun c1 => ?_) (fun c1 => ?_)
  · replace hf := me_ip c1 hf
    refine me_iconst C (v := 0) dX6_hasRoom_21 (by decide) ?_
    exact me_iret C N dX6_hasRoom_22 (by decide +kernel) (by cases hf; rfl) (by decide) (by decide)
  · replace hf := me_in c1 hf
    refine me_iconst C (v := 1) dX6_hasRoom_17 (by decide) ?_
    refine me_goto C (tgt := 22) dX6_hasRoom_18 (by decide) ?_
    exact me_iret C N dX6_hasRoom_22 (by decide +kernel) (by cases hf; rfl) (by decide) (by decide)
theorem c_Post_hasRoom {B : me_B} (hB : me_St B) {μ : me_M} {v1 : Int32} {r : Int32}  (hf : f_Post_hasRoom μ v1 = some r) : ∀ l E z, l.stackTraces = false → me_Met l yX6_hasRoom cX6_hasRoom 2 (some .boolean) 0 0 0 0 E B μ z [me_r 6 0, me_i v1] (B, μ, .ok (some (me_i r))) :=
  fun _ _ _ hl => me_ofZ hl (by decide +kernel) (Nat.le_of_ble_eq_true rfl) (fun _ C N hNx => z_Post_hasRoom C N hNx hB  hf)

def f_Post_liesAt (μ : me_M) (v1 : Nat) (v2 : Int32) (v3 : Int32) : Option Int32 :=
  if (μ 8 v1 1) = (109 : Int32) then
  (if (μ 8 v1 2) = (100 : Int32) then
  (if (μ 8 v1 4) = v2 then
  (if (μ 8 v1 3) = v3 then
  (some (1 : Int32))
  else
  (some (0 : Int32)))
  else
  (some (0 : Int32)))
  else
  (some (0 : Int32)))
  else
  (some (0 : Int32))
set_option maxHeartbeats 4000000 in
set_option maxRecDepth 100000 in
theorem z_Post_liesAt {X : me_X} {B : me_B} {sz : Nat} (C : me_C X B RX6 cX6_liesAt 4 (some .boolean)) {μ : me_M} {v1 : Nat} {v2 : Int32} {v3 : Int32}   {r : Int32} (N : me_En X B sz (B, μ, .ok (some (me_i r))) 0 0 0 0) (hNx : me_Nx X) (hB : me_St B)   (hf : f_Post_liesAt μ v1 v2 v3 = some r) : me_Z X B 0 0 μ 0 [(0, me_r 6 0), (1, me_r 8 v1), (2, me_i v2), (3, me_i v3)] [] := by
  unfold f_Post_liesAt at hf
  refine me_aload_n C 1 (Or.inr (Or.inl ⟨_, rfl⟩)) dX6_liesAt_0 rfl rfl ?_
  refine me_geti C 1 fg_Post_27 dX6_liesAt_1 rfl ?_
  refine me_bipush C (v := 109) dX6_liesAt_4 (by decide) ?_
  refine me_icmp_ne C (tgt := 38) dX6_liesAt_6 (by decide) (fun c1 => ?_) (fun c1 => ?_)
  · replace hf := me_in c1 hf
    refine me_iconst C (v := 0) dX6_liesAt_38 (by decide) ?_
    exact me_iret C N dX6_liesAt_39 (by decide +kernel) (by cases hf; rfl) (by decide) (by decide)
  · replace hf := me_ip c1 hf
    refine me_aload_n C 1 (Or.inr (Or.inl ⟨_, rfl⟩)) dX6_liesAt_9 rfl rfl ?_
    refine me_geti C 2 fg_Post_31 dX6_liesAt_10 rfl ?_
    refine me_bipush C (v := 100) dX6_liesAt_13 (by decide) ?_
    refine me_icmp_ne C (tgt := 38) dX6_liesAt_15 (by decide) (fun c2 => ?_) (fun c2 => ?_)
    · replace hf := me_in c2 hf
      refine me_iconst C (v := 0) dX6_liesAt_38 (by decide) ?_
      exact me_iret C N dX6_liesAt_39 (by decide +kernel) (by cases hf; rfl) (by decide) (by decide)
    · replace hf := me_ip c2 hf
      refine me_aload_n C 1 (Or.inr (Or.inl ⟨_, rfl⟩)) dX6_liesAt_18 rfl rfl ?_
      refine me_geti C 4 fg_Post_37 dX6_liesAt_19 rfl ?_
      refine me_iload_n C 2 dX6_liesAt_22 rfl rfl ?_
      refine me_icmp_ne C (tgt := 38) dX6_liesAt_23 (by decide) (fun c3 => ?_) (fun c3 => ?_)
      · replace hf := me_in c3 hf
        refine me_iconst C (v := 0) dX6_liesAt_38 (by decide) ?_
        exact me_iret C N dX6_liesAt_39 (by decide +kernel) (by cases hf; rfl) (by decide) (by decide)
      · replace hf := me_ip c3 hf
        refine me_aload_n C 1 (Or.inr (Or.inl ⟨_, rfl⟩)) dX6_liesAt_26 rfl rfl ?_
        refine me_geti C 3 fg_Post_34 dX6_liesAt_27 rfl ?_
        refine me_iload_n C 3 dX6_liesAt_30 rfl rfl ?_
        refine me_icmp_ne C (tgt := 38) dX6_liesAt_31 (by decide) (fun c4 => ?_) (fun c4 => ?_)
        · replace hf := me_in c4 hf
          refine me_iconst C (v := 0) dX6_liesAt_38 (by decide) ?_
          exact me_iret C N dX6_liesAt_39 (by decide +kernel) (by cases hf; rfl) (by decide) (by decide)
        · replace hf := me_ip c4 hf
          refine me_iconst C (v := 1) dX6_liesAt_34 (by decide) ?_
          refine me_goto C (tgt := 39) dX6_liesAt_35 (by decide) ?_
          exact me_iret C N dX6_liesAt_39 (by decide +kernel) (by cases hf; rfl) (by decide) (by decide)
theorem c_Post_liesAt {B : me_B} (hB : me_St B) {μ : me_M} {v1 : Nat} {v2 : Int32} {v3 : Int32} {r : Int32}  (hf : f_Post_liesAt μ v1 v2 v3 = some r) : ∀ l E z, l.stackTraces = false → me_Met l yX6_liesAt cX6_liesAt 4 (some .boolean) 0 0 0 0 E B μ z [me_r 6 0, me_r 8 v1, me_i v2, me_i v3] (B, μ, .ok (some (me_i r))) :=
  fun _ _ _ hl => me_ofZ hl (by decide +kernel) (Nat.le_of_ble_eq_true rfl) (fun _ C N hNx => z_Post_liesAt C N hNx hB  hf)

def f_Post_countLying_b5 (μ : me_M) (K5 : Int32 → Int32 → Int32 → Int32 → Option Int32) (v1 : Int32) (v2 : Int32) (v3 : Int32) (v4 : Int32) : Option Int32 :=
  if (μ 6 0 1) ≤ v4 then
  (some v3)
  else
  (me_gd (me_inb v4 200) (
  me_bd (f_Post_liesAt μ (me_ix v4) v1 v2) (fun r3 =>
  if r3 = 0 then
  (me_lt (me_inc v4 (1)) (fun x5 =>
  K5 v1 v2 v3 x5))
  else
  (me_lt (me_inc v3 (1)) (fun x6 =>
  me_lt (me_inc v4 (1)) (fun x7 =>
  K5 v1 v2 x6 x7))))))
set_option maxHeartbeats 4000000 in
set_option maxRecDepth 100000 in
theorem z_Post_countLying_b5 {X : me_X} {B : me_B} {sz : Nat} (C : me_C X B RX6 cX6_countLying 5 (some .int)) {μ : me_M} {v1 : Int32} {v2 : Int32} {v3 : Int32} {v4 : Int32}  {K5 : Int32 → Int32 → Int32 → Int32 → Option Int32} {r : Int32} (N : me_En X B sz (B, μ, .ok (some (me_i r))) 1 23 0 0) (hNx : me_Nx X) (hB : me_St B) (hK5 : ∀ (v1 : Int32) (v2 : Int32) (v3 : Int32) (v4 : Int32), K5 v1 v2 v3 v4 = some r → me_Z X B 0 0 μ 5 [(0, me_r 6 0), (1, me_i v1), (2, me_i v2), (3, me_i v3), (4, me_i v4)] [])  (hf : f_Post_countLying_b5 μ K5 v1 v2 v3 v4 = some r) : me_Z X B 0 0 μ 5 [(0, me_r 6 0), (1, me_i v1), (2, me_i v2), (3, me_i v3), (4, me_i v4)] [] := by
  unfold f_Post_countLying_b5 at hf
  refine me_iload C dX6_countLying_5 rfl ?_
  refine me_aload_n C 0 (Or.inr (Or.inl ⟨_, rfl⟩)) dX6_countLying_7 rfl rfl ?_
  refine me_geti C 1 fg_Post_20 dX6_countLying_8 rfl ?_
  refine me_icmp_ge C (tgt := 39) dX6_countLying_11 (by decide) (fun c1 => ?_) (fun c1 => ?_)
  · replace hf := me_ip c1 hf
    refine me_iload_n C 3 dX6_countLying_39 rfl rfl ?_
    exact me_iret C N dX6_countLying_40 (me_nri _) (by cases hf; rfl) (by decide) (by decide)
  · replace hf := me_in c1 hf
    refine me_aload_n C 0 (Or.inr (Or.inl ⟨_, rfl⟩)) dX6_countLying_14 rfl rfl ?_
    refine me_aload_n C 0 (Or.inr (Or.inl ⟨_, rfl⟩)) dX6_countLying_15 rfl rfl ?_
    refine me_getr C hB 0 (k' := 7) (i' := 0) fg_Post_11 dX6_countLying_16 rfl rfl ?_
    refine me_iload C dX6_countLying_19 rfl ?_
    obtain ⟨g2, hf⟩ := me_gs hf
    refine me_aald C hB (k' := 8) (i' := (me_ix v4)) rfl (fun _ => rfl) rfl g2 dX6_countLying_21 rfl ?_
    refine me_iload_n C 1 dX6_countLying_22 rfl rfl ?_
    refine me_iload_n C 2 dX6_countLying_23 rfl rfl ?_
    obtain ⟨r3, h_r3, hf⟩ := me_bs hf
    refine me_callV C N  (As := [me_r 8 (me_ix v4), me_i v1, me_i v2]) (st := []) 0 0 (c_Post_liesAt hB h_r3) mv_Post_liesAt ml_Post_73 rfl rfl dX6_countLying_24 rfl rfl ⟨by decide, by decide⟩ ⟨by decide, by decide, by decide, by decide⟩ (Nat.le_of_ble_eq_true rfl) ?_
    refine me_if_eq C (tgt := 33) dX6_countLying_27 (by decide) (fun c4 => ?_) (fun c4 => ?_)
    · replace hf := me_ip c4 hf
      obtain ⟨x5, e_x5, hf⟩ := me_lts hf
      refine me_iinc C (v := x5) (L' := [(4, me_i x5), (0, me_r 6 0), (1, me_i v1), (2, me_i v2), (3, me_i v3)]) dX6_countLying_33 rfl e_x5.symm (by decide) rfl ?_
      refine me_goto C (tgt := 5) dX6_countLying_36 (by decide) ?_
      refine me_dropI [(0, me_r 6 0), (1, me_i v1), (2, me_i v2), (3, me_i v3), (4, me_i x5)] [1, 2, 3, 4, 0] rfl ?_
      exact hK5 v1 v2 v3 x5 hf
    · replace hf := me_in c4 hf
      obtain ⟨x6, e_x6, hf⟩ := me_lts hf
      refine me_iinc C (v := x6) (L' := [(3, me_i x6), (0, me_r 6 0), (1, me_i v1), (2, me_i v2), (4, me_i v4)]) dX6_countLying_30 rfl e_x6.symm (by decide) rfl ?_
      obtain ⟨x7, e_x7, hf⟩ := me_lts hf
      refine me_iinc C (v := x7) (L' := [(4, me_i x7), (3, me_i x6), (0, me_r 6 0), (1, me_i v1), (2, me_i v2)]) dX6_countLying_33 rfl e_x7.symm (by decide) rfl ?_
      refine me_goto C (tgt := 5) dX6_countLying_36 (by decide) ?_
      refine me_dropI [(0, me_r 6 0), (1, me_i v1), (2, me_i v2), (3, me_i x6), (4, me_i x7)] [2, 3, 4, 1, 0] rfl ?_
      exact hK5 v1 v2 x6 x7 hf
def f_Post_countLying_h5 (μ : me_M) : Nat → Int32 → Int32 → Int32 → Int32 → Option Int32
  | 0, _, _, _, _ => none
  | n + 1, v1, v2, v3, v4 => f_Post_countLying_b5 μ (f_Post_countLying_h5 μ n) v1 v2 v3 v4
set_option maxHeartbeats 4000000 in
set_option maxRecDepth 100000 in
theorem z_Post_countLying_h5 {X : me_X} {B : me_B} {sz : Nat} (C : me_C X B RX6 cX6_countLying 5 (some .int)) {μ : me_M}  {r : Int32} (N : me_En X B sz (B, μ, .ok (some (me_i r))) 1 23 0 0) (hNx : me_Nx X) (hB : me_St B)  : ∀ (n : Nat) (v1 : Int32) (v2 : Int32) (v3 : Int32) (v4 : Int32), f_Post_countLying_h5 μ n v1 v2 v3 v4 = some r → me_Z X B 0 0 μ 5 [(0, me_r 6 0), (1, me_i v1), (2, me_i v2), (3, me_i v3), (4, me_i v4)] [] := by
  intro n
  induction n with
  | zero => intro v1 v2 v3 v4  h; exact absurd (show (none : Option Int32) = some r from h) (fun q => by cases q)
  | succ n ih => intro v1 v2 v3 v4  h; exact z_Post_countLying_b5 C N hNx hB  (K5 := f_Post_countLying_h5 μ n) ih  h
def f_Post_countLying (μ : me_M) (v1 : Int32) (v2 : Int32) : Option Int32 :=
  f_Post_countLying_h5 μ me_FU v1 v2 (0 : Int32) (0 : Int32)
set_option maxHeartbeats 4000000 in
set_option maxRecDepth 100000 in
theorem z_Post_countLying {X : me_X} {B : me_B} {sz : Nat} (C : me_C X B RX6 cX6_countLying 5 (some .int)) {μ : me_M} {v1 : Int32} {v2 : Int32}   {r : Int32} (N : me_En X B sz (B, μ, .ok (some (me_i r))) 1 23 0 0) (hNx : me_Nx X) (hB : me_St B)   (hf : f_Post_countLying μ v1 v2 = some r) : me_Z X B 0 0 μ 0 [(0, me_r 6 0), (1, me_i v1), (2, me_i v2)] [] := by
  unfold f_Post_countLying at hf
  refine me_iconst C (v := 0) dX6_countLying_0 (by decide) ?_
  refine me_istore_n C 3 dX6_countLying_1 rfl (by decide) (L' := [(3, me_i (0 : Int32)), (0, me_r 6 0), (1, me_i v1), (2, me_i v2)]) rfl ?_
  refine me_iconst C (v := 0) dX6_countLying_2 (by decide) ?_
  refine me_istore C dX6_countLying_3 (by decide) (L' := [(4, me_i (0 : Int32)), (3, me_i (0 : Int32)), (0, me_r 6 0), (1, me_i v1), (2, me_i v2)]) rfl ?_
  refine me_dropI [(0, me_r 6 0), (1, me_i v1), (2, me_i v2), (3, me_i (0 : Int32)), (4, me_i (0 : Int32))] [2, 3, 4, 1, 0] rfl ?_
  exact z_Post_countLying_h5 C N hNx hB me_FU v1 v2 (0 : Int32) (0 : Int32) hf
theorem c_Post_countLying {B : me_B} (hB : me_St B) {μ : me_M} {v1 : Int32} {v2 : Int32} {r : Int32}  (hf : f_Post_countLying μ v1 v2 = some r) : ∀ l E z, l.stackTraces = false → me_Met l yX6_countLying cX6_countLying 5 (some .int) 1 23 0 0 E B μ z [me_r 6 0, me_i v1, me_i v2] (B, μ, .ok (some (me_i r))) :=
  fun _ _ _ hl => me_ofZ hl (by decide +kernel) (Nat.le_of_ble_eq_true rfl) (fun _ C N hNx => z_Post_countLying C N hNx hB  hf)

def f_Post_firstLying_b50 (μ : me_M) (K5 : Int32 → Int32 → Option Nat → Int32 → Option (Option Nat)) (v1 : Int32) (v2 : Int32) (v4 : Int32) (v5 : Nat) : Option (Option Nat) :=
  me_lt (me_inc v4 (1)) (fun x1 =>
  K5 v1 v2 (some v5) x1)
set_option maxHeartbeats 4000000 in
set_option maxRecDepth 100000 in
theorem z_Post_firstLying_b50 {X : me_X} {B : me_B} {sz : Nat} (C : me_C X B RX6 cX6_firstLying 6 (some (.object "Meshyard$Packet"))) {μ : me_M} {v1 : Int32} {v2 : Int32} {v4 : Int32} {v5 : Nat}  {K5 : Int32 → Int32 → Option Nat → Int32 → Option (Option Nat)} {r : Option Nat} (N : me_En X B sz (B, μ, .ok (some (me_q 8 r))) 1 23 0 0) (hNx : me_Nx X) (hB : me_St B) (hK5 : ∀ (v1 : Int32) (v2 : Int32) (v3 : Option Nat) (v4 : Int32), K5 v1 v2 v3 v4 = some r → me_Z X B 0 0 μ 5 [(0, me_r 6 0), (1, me_i v1), (2, me_i v2), (3, me_q 8 v3), (4, me_i v4)] [])  (hf : f_Post_firstLying_b50 μ K5 v1 v2 v4 v5 = some r) : me_Z X B 0 0 μ 50 [(0, me_r 6 0), (1, me_i v1), (2, me_i v2), (4, me_i v4), (5, me_r 8 v5)] [] := by
  unfold f_Post_firstLying_b50 at hf
  refine me_aload C (Or.inr (Or.inl ⟨_, rfl⟩)) dX6_firstLying_50 rfl ?_
  refine me_astore_n C 3 (Or.inr (Or.inl ⟨_, rfl⟩)) dX6_firstLying_52 rfl (by decide) (L' := [(3, me_r 8 v5), (0, me_r 6 0), (1, me_i v1), (2, me_i v2), (4, me_i v4), (5, me_r 8 v5)]) rfl ?_
  obtain ⟨x1, e_x1, hf⟩ := me_lts hf
  refine me_iinc C (v := x1) (L' := [(4, me_i x1), (3, me_r 8 v5), (0, me_r 6 0), (1, me_i v1), (2, me_i v2), (5, me_r 8 v5)]) dX6_firstLying_53 rfl e_x1.symm (by decide) rfl ?_
  refine me_goto C (tgt := 5) dX6_firstLying_56 (by decide) ?_
  refine me_dropI [(0, me_r 6 0), (1, me_i v1), (2, me_i v2), (3, me_q 8 (some v5)), (4, me_i x1)] [2, 3, 4, 1, 0] rfl ?_
  exact hK5 v1 v2 (some v5) x1 hf
def f_Post_firstLying_b5 (μ : me_M) (K5 : Int32 → Int32 → Option Nat → Int32 → Option (Option Nat)) (v1 : Int32) (v2 : Int32) (v3 : Option Nat) (v4 : Int32) : Option (Option Nat) :=
  if (μ 6 0 1) ≤ v4 then
  (me_oq v3
  (some none)
  (fun i2 => some (some i2)))
  else
  (me_gd (me_inb v4 200) (
  me_bd (f_Post_liesAt μ (me_ix v4) v1 v2) (fun r4 =>
  if r4 = 0 then
  (me_lt (me_inc v4 (1)) (fun x6 =>
  K5 v1 v2 v3 x6))
  else
  (me_oq v3
  (f_Post_firstLying_b50 μ K5 v1 v2 v4 (me_ix v4))
  (fun i7 => if (μ 8 i7 11) ≤ (μ 8 (me_ix v4) 11) then
  (me_lt (me_inc v4 (1)) (fun x9 =>
  K5 v1 v2 (some i7) x9))
  else
  (f_Post_firstLying_b50 μ K5 v1 v2 v4 (me_ix v4)))))))
set_option maxHeartbeats 4000000 in
set_option maxRecDepth 100000 in
theorem z_Post_firstLying_b5 {X : me_X} {B : me_B} {sz : Nat} (C : me_C X B RX6 cX6_firstLying 6 (some (.object "Meshyard$Packet"))) {μ : me_M} {v1 : Int32} {v2 : Int32} {v3 : Option Nat} {v4 : Int32}  {K5 : Int32 → Int32 → Option Nat → Int32 → Option (Option Nat)} {r : Option Nat} (N : me_En X B sz (B, μ, .ok (some (me_q 8 r))) 1 23 0 0) (hNx : me_Nx X) (hB : me_St B) (hK5 : ∀ (v1 : Int32) (v2 : Int32) (v3 : Option Nat) (v4 : Int32), K5 v1 v2 v3 v4 = some r → me_Z X B 0 0 μ 5 [(0, me_r 6 0), (1, me_i v1), (2, me_i v2), (3, me_q 8 v3), (4, me_i v4)] [])  (hf : f_Post_firstLying_b5 μ K5 v1 v2 v3 v4 = some r) : me_Z X B 0 0 μ 5 [(0, me_r 6 0), (1, me_i v1), (2, me_i v2), (3, me_q 8 v3), (4, me_i v4)] [] := by
  unfold f_Post_firstLying_b5 at hf
  refine me_iload C dX6_firstLying_5 rfl ?_
  refine me_aload_n C 0 (Or.inr (Or.inl ⟨_, rfl⟩)) dX6_firstLying_7 rfl rfl ?_
  refine me_geti C 1 fg_Post_20 dX6_firstLying_8 rfl ?_
  refine me_icmp_ge C (tgt := 59) dX6_firstLying_11 (by decide) (fun c1 => ?_) (fun c1 => ?_)
  · replace hf := me_ip c1 hf
    rcases v3 with _ | i2
    · replace hf := me_oqn hf
      refine me_aload_n C 3 (Or.inl rfl) dX6_firstLying_59 rfl rfl ?_
      exact me_aret C N (Or.inl rfl) dX6_firstLying_60 (by cases hf; rfl) (by decide) (by decide)
    · replace hf := me_oqs hf
      refine me_aload_n C 3 (Or.inr (Or.inl ⟨_, rfl⟩)) dX6_firstLying_59 rfl rfl ?_
      exact me_aret C N (Or.inr ⟨_, rfl⟩) dX6_firstLying_60 (by cases hf; rfl) (by decide) (by decide)
  · replace hf := me_in c1 hf
    refine me_aload_n C 0 (Or.inr (Or.inl ⟨_, rfl⟩)) dX6_firstLying_14 rfl rfl ?_
    refine me_getr C hB 0 (k' := 7) (i' := 0) fg_Post_11 dX6_firstLying_15 rfl rfl ?_
    refine me_iload C dX6_firstLying_18 rfl ?_
    obtain ⟨g3, hf⟩ := me_gs hf
    refine me_aald C hB (k' := 8) (i' := (me_ix v4)) rfl (fun _ => rfl) rfl g3 dX6_firstLying_20 rfl ?_
    refine me_astore C (Or.inr (Or.inl ⟨_, rfl⟩)) dX6_firstLying_21 (by decide) (L' := [(5, me_r 8 (me_ix v4)), (0, me_r 6 0), (1, me_i v1), (2, me_i v2), (3, me_q 8 v3), (4, me_i v4)]) (by cases v3 <;> rfl) ?_
    refine me_aload_n C 0 (Or.inr (Or.inl ⟨_, rfl⟩)) dX6_firstLying_23 rfl rfl ?_
    refine me_aload C (Or.inr (Or.inl ⟨_, rfl⟩)) dX6_firstLying_24 rfl ?_
    refine me_iload_n C 1 dX6_firstLying_26 rfl rfl ?_
    refine me_iload_n C 2 dX6_firstLying_27 rfl rfl ?_
    obtain ⟨r4, h_r4, hf⟩ := me_bs hf
    refine me_callV C N  (As := [me_r 8 (me_ix v4), me_i v1, me_i v2]) (st := []) 0 0 (c_Post_liesAt hB h_r4) mv_Post_liesAt ml_Post_73 rfl rfl dX6_firstLying_28 rfl rfl ⟨by decide, by decide⟩ ⟨by decide, by decide, by decide, by decide⟩ (Nat.le_of_ble_eq_true rfl) ?_
    refine me_if_eq C (tgt := 53) dX6_firstLying_31 (by decide) (fun c5 => ?_) (fun c5 => ?_)
    · replace hf := me_ip c5 hf
      obtain ⟨x6, e_x6, hf⟩ := me_lts hf
      refine me_iinc C (v := x6) (L' := [(4, me_i x6), (5, me_r 8 (me_ix v4)), (0, me_r 6 0), (1, me_i v1), (2, me_i v2), (3, me_q 8 v3)]) dX6_firstLying_53 rfl e_x6.symm (by decide) (by cases v3 <;> rfl) ?_
      refine me_goto C (tgt := 5) dX6_firstLying_56 (by decide) ?_
      refine me_dropI [(0, me_r 6 0), (1, me_i v1), (2, me_i v2), (3, me_q 8 v3), (4, me_i x6)] [2, 3, 4, 5, 0] rfl ?_
      exact hK5 v1 v2 v3 x6 hf
    · replace hf := me_in c5 hf
      rcases v3 with _ | i7
      · replace hf := me_oqn hf
        refine me_aload_n C 3 (Or.inl rfl) dX6_firstLying_34 rfl rfl ?_
        refine me_ifnull_n C (tgt := 50) dX6_firstLying_35 (by decide) ?_
        refine me_dropI [(0, me_r 6 0), (1, me_i v1), (2, me_i v2), (4, me_i v4), (5, me_r 8 (me_ix v4))] [1, 2, 3, 5, 0] rfl ?_
        exact z_Post_firstLying_b50 C N hNx hB hK5 hf
      · replace hf := me_oqs hf
        refine me_aload_n C 3 (Or.inr (Or.inl ⟨_, rfl⟩)) dX6_firstLying_34 rfl rfl ?_
        refine me_ifnull_r C dX6_firstLying_35 ?_
        refine me_aload C (Or.inr (Or.inl ⟨_, rfl⟩)) dX6_firstLying_38 rfl ?_
        refine me_geti C 11 fg_Post_58 dX6_firstLying_40 rfl ?_
        refine me_aload_n C 3 (Or.inr (Or.inl ⟨_, rfl⟩)) dX6_firstLying_43 rfl rfl ?_
        refine me_geti C 11 fg_Post_58 dX6_firstLying_44 rfl ?_
        refine me_icmp_ge C (tgt := 53) dX6_firstLying_47 (by decide) (fun c8 => ?_) (fun c8 => ?_)
        · replace hf := me_ip c8 hf
          obtain ⟨x9, e_x9, hf⟩ := me_lts hf
          refine me_iinc C (v := x9) (L' := [(4, me_i x9), (5, me_r 8 (me_ix v4)), (0, me_r 6 0), (1, me_i v1), (2, me_i v2), (3, me_r 8 i7)]) dX6_firstLying_53 rfl e_x9.symm (by decide) rfl ?_
          refine me_goto C (tgt := 5) dX6_firstLying_56 (by decide) ?_
          refine me_dropI [(0, me_r 6 0), (1, me_i v1), (2, me_i v2), (3, me_q 8 (some i7)), (4, me_i x9)] [2, 3, 4, 5, 0] rfl ?_
          exact hK5 v1 v2 (some i7) x9 hf
        · replace hf := me_in c8 hf
          refine me_dropI [(0, me_r 6 0), (1, me_i v1), (2, me_i v2), (4, me_i v4), (5, me_r 8 (me_ix v4))] [1, 2, 3, 5, 0] rfl ?_
          exact z_Post_firstLying_b50 C N hNx hB hK5 hf
def f_Post_firstLying_h5 (μ : me_M) : Nat → Int32 → Int32 → Option Nat → Int32 → Option (Option Nat)
  | 0, _, _, _, _ => none
  | n + 1, v1, v2, v3, v4 => f_Post_firstLying_b5 μ (f_Post_firstLying_h5 μ n) v1 v2 v3 v4
set_option maxHeartbeats 4000000 in
set_option maxRecDepth 100000 in
theorem z_Post_firstLying_h5 {X : me_X} {B : me_B} {sz : Nat} (C : me_C X B RX6 cX6_firstLying 6 (some (.object "Meshyard$Packet"))) {μ : me_M}  {r : Option Nat} (N : me_En X B sz (B, μ, .ok (some (me_q 8 r))) 1 23 0 0) (hNx : me_Nx X) (hB : me_St B)  : ∀ (n : Nat) (v1 : Int32) (v2 : Int32) (v3 : Option Nat) (v4 : Int32), f_Post_firstLying_h5 μ n v1 v2 v3 v4 = some r → me_Z X B 0 0 μ 5 [(0, me_r 6 0), (1, me_i v1), (2, me_i v2), (3, me_q 8 v3), (4, me_i v4)] [] := by
  intro n
  induction n with
  | zero => intro v1 v2 v3 v4  h; exact absurd (show (none : Option (Option Nat)) = some r from h) (fun q => by cases q)
  | succ n ih => intro v1 v2 v3 v4  h; exact z_Post_firstLying_b5 C N hNx hB  (K5 := f_Post_firstLying_h5 μ n) ih  h
def f_Post_firstLying (μ : me_M) (v1 : Int32) (v2 : Int32) : Option (Option Nat) :=
  f_Post_firstLying_h5 μ me_FU v1 v2 none (0 : Int32)
set_option maxHeartbeats 4000000 in
set_option maxRecDepth 100000 in
theorem z_Post_firstLying {X : me_X} {B : me_B} {sz : Nat} (C : me_C X B RX6 cX6_firstLying 6 (some (.object "Meshyard$Packet"))) {μ : me_M} {v1 : Int32} {v2 : Int32}   {r : Option Nat} (N : me_En X B sz (B, μ, .ok (some (me_q 8 r))) 1 23 0 0) (hNx : me_Nx X) (hB : me_St B)   (hf : f_Post_firstLying μ v1 v2 = some r) : me_Z X B 0 0 μ 0 [(0, me_r 6 0), (1, me_i v1), (2, me_i v2)] [] := by
  unfold f_Post_firstLying at hf
  refine me_null C dX6_firstLying_0 ?_
  refine me_astore_n C 3 (Or.inl rfl) dX6_firstLying_1 rfl (by decide) (L' := [(3, me_n), (0, me_r 6 0), (1, me_i v1), (2, me_i v2)]) rfl ?_
  refine me_iconst C (v := 0) dX6_firstLying_2 (by decide) ?_
  refine me_istore C dX6_firstLying_3 (by decide) (L' := [(4, me_i (0 : Int32)), (3, me_n), (0, me_r 6 0), (1, me_i v1), (2, me_i v2)]) rfl ?_
  refine me_dropI [(0, me_r 6 0), (1, me_i v1), (2, me_i v2), (3, me_q 8 none), (4, me_i (0 : Int32))] [2, 3, 4, 1, 0] rfl ?_
  exact z_Post_firstLying_h5 C N hNx hB me_FU v1 v2 none (0 : Int32) hf
theorem c_Post_firstLying {B : me_B} (hB : me_St B) {μ : me_M} {v1 : Int32} {v2 : Int32} {r : Option Nat}  (hf : f_Post_firstLying μ v1 v2 = some r) : ∀ l E z, l.stackTraces = false → me_Met l yX6_firstLying cX6_firstLying 6 (some (.object "Meshyard$Packet")) 1 23 0 0 E B μ z [me_r 6 0, me_i v1, me_i v2] (B, μ, .ok (some (me_q 8 r))) :=
  fun _ _ _ hl => me_ofZ hl (by decide +kernel) (Nat.le_of_ble_eq_true rfl) (fun _ C N hNx => z_Post_firstLying C N hNx hB  hf)

def f_Post_countLost_b4 (μ : me_M) (K4 : Int32 → Int32 → Option Int32) (v1 : Int32) (v2 : Int32) : Option Int32 :=
  if (μ 6 0 1) ≤ v2 then
  (some v1)
  else
  (me_gd (me_inb v2 200) (
  if (μ 8 (me_ix v2) 2) = (108 : Int32) then
  (me_lt (me_inc v1 (1)) (fun x5 =>
  me_lt (me_inc v2 (1)) (fun x6 =>
  K4 x5 x6)))
  else
  (me_lt (me_inc v2 (1)) (fun x4 =>
  K4 v1 x4))))
set_option maxHeartbeats 4000000 in
set_option maxRecDepth 100000 in
theorem z_Post_countLost_b4 {X : me_X} {B : me_B} {sz : Nat} (C : me_C X B RX6 cX6_countLost 3 (some .int)) {μ : me_M} {v1 : Int32} {v2 : Int32}  {K4 : Int32 → Int32 → Option Int32} {r : Int32} (N : me_En X B sz (B, μ, .ok (some (me_i r))) 0 0 0 0) (hNx : me_Nx X) (hB : me_St B) (hK4 : ∀ (v1 : Int32) (v2 : Int32), K4 v1 v2 = some r → me_Z X B 0 0 μ 4 [(0, me_r 6 0), (1, me_i v1), (2, me_i v2)] [])  (hf : f_Post_countLost_b4 μ K4 v1 v2 = some r) : me_Z X B 0 0 μ 4 [(0, me_r 6 0), (1, me_i v1), (2, me_i v2)] [] := by
  unfold f_Post_countLost_b4 at hf
  refine me_iload_n C 2 dX6_countLost_4 rfl rfl ?_
  refine me_aload_n C 0 (Or.inr (Or.inl ⟨_, rfl⟩)) dX6_countLost_5 rfl rfl ?_
  refine me_geti C 1 fg_Post_20 dX6_countLost_6 rfl ?_
  refine me_icmp_ge C (tgt := 35) dX6_countLost_9 (by decide) (fun c1 => ?_) (fun c1 => ?_)
  · replace hf := me_ip c1 hf
    refine me_iload_n C 1 dX6_countLost_35 rfl rfl ?_
    exact me_iret C N dX6_countLost_36 (me_nri _) (by cases hf; rfl) (by decide) (by decide)
  · replace hf := me_in c1 hf
    refine me_aload_n C 0 (Or.inr (Or.inl ⟨_, rfl⟩)) dX6_countLost_12 rfl rfl ?_
    refine me_getr C hB 0 (k' := 7) (i' := 0) fg_Post_11 dX6_countLost_13 rfl rfl ?_
    refine me_iload_n C 2 dX6_countLost_16 rfl rfl ?_
    obtain ⟨g2, hf⟩ := me_gs hf
    refine me_aald C hB (k' := 8) (i' := (me_ix v2)) rfl (fun _ => rfl) rfl g2 dX6_countLost_17 rfl ?_
    refine me_geti C 2 fg_Post_31 dX6_countLost_18 rfl ?_
    refine me_bipush C (v := 108) dX6_countLost_21 (by decide) ?_
    refine me_icmp_ne C (tgt := 29) dX6_countLost_23 (by decide) (fun c3 => ?_) (fun c3 => ?_)
    · replace hf := me_in c3 hf
      obtain ⟨x4, e_x4, hf⟩ := me_lts hf
      refine me_iinc C (v := x4) (L' := [(2, me_i x4), (0, me_r 6 0), (1, me_i v1)]) dX6_countLost_29 rfl e_x4.symm (by decide) rfl ?_
      refine me_goto C (tgt := 4) dX6_countLost_32 (by decide) ?_
      refine me_dropI [(0, me_r 6 0), (1, me_i v1), (2, me_i x4)] [1, 2, 0] rfl ?_
      exact hK4 v1 x4 hf
    · replace hf := me_ip c3 hf
      obtain ⟨x5, e_x5, hf⟩ := me_lts hf
      refine me_iinc C (v := x5) (L' := [(1, me_i x5), (0, me_r 6 0), (2, me_i v2)]) dX6_countLost_26 rfl e_x5.symm (by decide) rfl ?_
      obtain ⟨x6, e_x6, hf⟩ := me_lts hf
      refine me_iinc C (v := x6) (L' := [(2, me_i x6), (1, me_i x5), (0, me_r 6 0)]) dX6_countLost_29 rfl e_x6.symm (by decide) rfl ?_
      refine me_goto C (tgt := 4) dX6_countLost_32 (by decide) ?_
      refine me_dropI [(0, me_r 6 0), (1, me_i x5), (2, me_i x6)] [2, 1, 0] rfl ?_
      exact hK4 x5 x6 hf
def f_Post_countLost_h4 (μ : me_M) : Nat → Int32 → Int32 → Option Int32
  | 0, _, _ => none
  | n + 1, v1, v2 => f_Post_countLost_b4 μ (f_Post_countLost_h4 μ n) v1 v2
set_option maxHeartbeats 4000000 in
set_option maxRecDepth 100000 in
theorem z_Post_countLost_h4 {X : me_X} {B : me_B} {sz : Nat} (C : me_C X B RX6 cX6_countLost 3 (some .int)) {μ : me_M}  {r : Int32} (N : me_En X B sz (B, μ, .ok (some (me_i r))) 0 0 0 0) (hNx : me_Nx X) (hB : me_St B)  : ∀ (n : Nat) (v1 : Int32) (v2 : Int32), f_Post_countLost_h4 μ n v1 v2 = some r → me_Z X B 0 0 μ 4 [(0, me_r 6 0), (1, me_i v1), (2, me_i v2)] [] := by
  intro n
  induction n with
  | zero => intro v1 v2  h; exact absurd (show (none : Option Int32) = some r from h) (fun q => by cases q)
  | succ n ih => intro v1 v2  h; exact z_Post_countLost_b4 C N hNx hB  (K4 := f_Post_countLost_h4 μ n) ih  h
def f_Post_countLost (μ : me_M) : Option Int32 :=
  f_Post_countLost_h4 μ me_FU (0 : Int32) (0 : Int32)
set_option maxHeartbeats 4000000 in
set_option maxRecDepth 100000 in
theorem z_Post_countLost {X : me_X} {B : me_B} {sz : Nat} (C : me_C X B RX6 cX6_countLost 3 (some .int)) {μ : me_M}    {r : Int32} (N : me_En X B sz (B, μ, .ok (some (me_i r))) 0 0 0 0) (hNx : me_Nx X) (hB : me_St B)   (hf : f_Post_countLost μ = some r) : me_Z X B 0 0 μ 0 [(0, me_r 6 0)] [] := by
  unfold f_Post_countLost at hf
  refine me_iconst C (v := 0) dX6_countLost_0 (by decide) ?_
  refine me_istore_n C 1 dX6_countLost_1 rfl (by decide) (L' := [(1, me_i (0 : Int32)), (0, me_r 6 0)]) rfl ?_
  refine me_iconst C (v := 0) dX6_countLost_2 (by decide) ?_
  refine me_istore_n C 2 dX6_countLost_3 rfl (by decide) (L' := [(2, me_i (0 : Int32)), (1, me_i (0 : Int32)), (0, me_r 6 0)]) rfl ?_
  refine me_dropI [(0, me_r 6 0), (1, me_i (0 : Int32)), (2, me_i (0 : Int32))] [2, 1, 0] rfl ?_
  exact z_Post_countLost_h4 C N hNx hB me_FU (0 : Int32) (0 : Int32) hf
theorem c_Post_countLost {B : me_B} (hB : me_St B) {μ : me_M}  {r : Int32}  (hf : f_Post_countLost μ = some r) : ∀ l E z, l.stackTraces = false → me_Met l yX6_countLost cX6_countLost 3 (some .int) 0 0 0 0 E B μ z [me_r 6 0] (B, μ, .ok (some (me_i r))) :=
  fun _ _ _ hl => me_ofZ hl (by decide +kernel) (Nat.le_of_ble_eq_true rfl) (fun _ C N hNx => z_Post_countLost C N hNx hB  hf)

def f_Row_reset (μ : me_M) (v0 : Nat) : Option (me_M × Unit) :=
  me_lt (me_up μ 17 v0 3 (0 : Int32)) (fun μ1 =>
  me_lt (me_up μ1 17 v0 5 (-1 : Int32)) (fun μ2 =>
  me_lt (me_up μ2 17 v0 6 (-1 : Int32)) (fun μ3 =>
  me_lt (me_up μ3 17 v0 7 (0 : Int32)) (fun μ4 =>
  some (μ4, ())))))
set_option maxHeartbeats 4000000 in
set_option maxRecDepth 100000 in
theorem z_Row_reset {X : me_X} {B : me_B} {sz : Nat} (C : me_C X B RX8 cX8_reset 1 none) {μ : me_M} {v0 : Nat}   {r : me_M × Unit} (N : me_En X B sz (B, r.1, .ok (none)) 0 0 0 0) (hNx : me_Nx X) (hB : me_St B)   (hf : f_Row_reset μ v0 = some r) : me_Z X B 0 0 μ 0 [(0, me_r 17 v0)] [] := by
  unfold f_Row_reset at hf
  refine me_aload_n C 0 (Or.inr (Or.inl ⟨_, rfl⟩)) dX8_reset_0 rfl rfl ?_
  refine me_iconst C (v := 0) dX8_reset_1 (by decide) ?_
  obtain ⟨μ1, e_μ1, hf⟩ := me_lts hf
  refine me_puti C 3 fw_Row_21 dX8_reset_2 rfl (me_nri _) e_μ1 ?_
  refine me_aload_n C 0 (Or.inr (Or.inl ⟨_, rfl⟩)) dX8_reset_5 rfl rfl ?_
  refine me_iconst C (v := -1) dX8_reset_6 (by decide) ?_
  obtain ⟨μ2, e_μ2, hf⟩ := me_lts hf
  refine me_puti C 5 fw_Row_25 dX8_reset_7 rfl (me_nri _) e_μ2 ?_
  refine me_aload_n C 0 (Or.inr (Or.inl ⟨_, rfl⟩)) dX8_reset_10 rfl rfl ?_
  refine me_iconst C (v := -1) dX8_reset_11 (by decide) ?_
  obtain ⟨μ3, e_μ3, hf⟩ := me_lts hf
  refine me_puti C 6 fw_Row_28 dX8_reset_12 rfl (me_nri _) e_μ3 ?_
  refine me_aload_n C 0 (Or.inr (Or.inl ⟨_, rfl⟩)) dX8_reset_15 rfl rfl ?_
  refine me_iconst C (v := 0) dX8_reset_16 (by decide) ?_
  obtain ⟨μ4, e_μ4, hf⟩ := me_lts hf
  refine me_puti C 7 fw_Row_31 dX8_reset_17 rfl (me_nri _) e_μ4 ?_
  exact me_vret C N dX8_reset_20 (by cases hf; rfl) (by decide) (by decide)
theorem c_Row_reset {B : me_B} (hB : me_St B) {μ : me_M} {v0 : Nat} {μ' : me_M} {r : Unit}  (hf : f_Row_reset μ v0 = some (μ', r)) : ∀ l E z, l.stackTraces = false → me_Met l yX8_reset cX8_reset 1 none 0 0 0 0 E B μ z [me_r 17 v0] (B, μ', .ok (none)) :=
  fun _ _ _ hl => me_ofZ hl (by decide +kernel) (Nat.le_of_ble_eq_true rfl) (fun _ C N hNx => z_Row_reset C N hNx hB  hf)

def f_Router_reset_b2 (K2 : me_M → Nat → Int32 → Option (me_M × Unit)) (μ : me_M) (v0 : Nat) (v1 : Int32) : Option (me_M × Unit) :=
  if (10 : Int32) ≤ v1 then
  (me_lt (me_up μ 16 v0 0 (0 : Int32)) (fun μ2 =>
  me_lt (me_up μ2 16 v0 1 (0 : Int32)) (fun μ3 =>
  me_lt (me_up μ3 13 v0 3 (1 : Int32)) (fun μ4 =>
  me_lt (me_up μ4 13 v0 4 (0 : Int32)) (fun μ5 =>
  some (μ5, ()))))))
  else
  (me_gd (me_inb v1 10) (
  me_b2 (f_Row_reset μ (10 * v0 + (me_ix v1))) (fun μ8 r7 =>
  me_gd (me_inb v1 10) (
  me_lt (me_up μ8 15 v0 (me_ix v1) (0 : Int32)) (fun μ10 =>
  me_lt (me_inc v1 (1)) (fun x11 =>
  K2 μ10 v0 x11))))))
set_option maxHeartbeats 4000000 in
set_option maxRecDepth 100000 in
theorem z_Router_reset_b2 {X : me_X} {B : me_B} {sz : Nat} (C : me_C X B RX7 cX7_reset 2 none) {μ : me_M} {v0 : Nat} {v1 : Int32}  {K2 : me_M → Nat → Int32 → Option (me_M × Unit)} {r : me_M × Unit} (N : me_En X B sz (B, r.1, .ok (none)) 1 20 0 0) (hNx : me_Nx X) (hB : me_St B) (hK2 : ∀ (μ : me_M) (v0 : Nat) (v1 : Int32), K2 μ v0 v1 = some r → me_Z X B 0 0 μ 2 [(0, me_r 13 v0), (1, me_i v1)] [])  (hf : f_Router_reset_b2 K2 μ v0 v1 = some r) : me_Z X B 0 0 μ 2 [(0, me_r 13 v0), (1, me_i v1)] [] := by
  unfold f_Router_reset_b2 at hf
  refine me_iload_n C 1 dX7_reset_2 rfl rfl ?_
  refine me_aload_n C 0 (Or.inr (Or.inl ⟨_, rfl⟩)) dX7_reset_3 rfl rfl ?_
  refine me_getr C hB 0 (k' := 14) (i' := v0) fg_Router_11 dX7_reset_4 rfl rfl ?_
  refine me_alen C (v := 10) rfl (Or.inr rfl) (fun _ => rfl) dX7_reset_7 (by decide) ?_
  refine me_icmp_ge C (tgt := 33) dX7_reset_8 (by decide) (fun c1 => ?_) (fun c1 => ?_)
  · replace hf := me_ip c1 hf
    refine me_aload_n C 0 (Or.inr (Or.inl ⟨_, rfl⟩)) dX7_reset_33 rfl rfl ?_
    refine me_getr C hB 2 (k' := 16) (i' := v0) fg_Router_21 dX7_reset_34 rfl rfl ?_
    refine me_iconst C (v := 0) dX7_reset_37 (by decide) ?_
    refine me_iconst C (v := 0) dX7_reset_38 (by decide) ?_
    obtain ⟨μ2, e_μ2, hf⟩ := me_lts hf
    refine me_iast C rfl (fun _ => rfl) (by decide +kernel) dX7_reset_39 e_μ2 ?_
    refine me_aload_n C 0 (Or.inr (Or.inl ⟨_, rfl⟩)) dX7_reset_40 rfl rfl ?_
    refine me_getr C hB 2 (k' := 16) (i' := v0) fg_Router_21 dX7_reset_41 rfl rfl ?_
    refine me_iconst C (v := 1) dX7_reset_44 (by decide) ?_
    refine me_iconst C (v := 0) dX7_reset_45 (by decide) ?_
    obtain ⟨μ3, e_μ3, hf⟩ := me_lts hf
    refine me_iast C rfl (fun _ => rfl) (by decide +kernel) dX7_reset_46 e_μ3 ?_
    refine me_aload_n C 0 (Or.inr (Or.inl ⟨_, rfl⟩)) dX7_reset_47 rfl rfl ?_
    refine me_iconst C (v := 1) dX7_reset_48 (by decide) ?_
    obtain ⟨μ4, e_μ4, hf⟩ := me_lts hf
    refine me_puti C 3 fw_Router_28 dX7_reset_49 rfl (by decide +kernel) e_μ4 ?_
    refine me_aload_n C 0 (Or.inr (Or.inl ⟨_, rfl⟩)) dX7_reset_52 rfl rfl ?_
    refine me_iconst C (v := 0) dX7_reset_53 (by decide) ?_
    obtain ⟨μ5, e_μ5, hf⟩ := me_lts hf
    refine me_puti C 4 fw_Router_32 dX7_reset_54 rfl (by decide +kernel) e_μ5 ?_
    exact me_vret C N dX7_reset_57 (by cases hf; rfl) (by decide) (by decide)
  · replace hf := me_in c1 hf
    refine me_aload_n C 0 (Or.inr (Or.inl ⟨_, rfl⟩)) dX7_reset_11 rfl rfl ?_
    refine me_getr C hB 0 (k' := 14) (i' := v0) fg_Router_11 dX7_reset_12 rfl rfl ?_
    refine me_iload_n C 1 dX7_reset_15 rfl rfl ?_
    obtain ⟨g6, hf⟩ := me_gs hf
    refine me_aald C hB (k' := 17) (i' := 10 * v0 + (me_ix v1)) rfl (fun _ => rfl) rfl g6 dX7_reset_16 rfl ?_
    obtain ⟨μ8, r7, h_r7, hf⟩ := me_bs2 hf
    refine me_callV0 C N  (As := []) (st := []) 0 0 (c_Row_reset hB h_r7) mv_Row_reset ml_Router_25 rfl rfl dX7_reset_17 rfl rfl ⟨by decide, by decide⟩ ⟨by decide, by decide, by decide, by decide⟩ (Nat.le_of_ble_eq_true rfl) ?_
    refine me_aload_n C 0 (Or.inr (Or.inl ⟨_, rfl⟩)) dX7_reset_20 rfl rfl ?_
    refine me_getr C hB 1 (k' := 15) (i' := v0) fg_Router_17 dX7_reset_21 rfl rfl ?_
    refine me_iload_n C 1 dX7_reset_24 rfl rfl ?_
    refine me_iconst C (v := 0) dX7_reset_25 (by decide) ?_
    obtain ⟨g9, hf⟩ := me_gs hf
    obtain ⟨μ10, e_μ10, hf⟩ := me_lts hf
    refine me_iast C rfl (fun _ => rfl) g9 dX7_reset_26 e_μ10 ?_
    obtain ⟨x11, e_x11, hf⟩ := me_lts hf
    refine me_iinc C (v := x11) (L' := [(1, me_i x11), (0, me_r 13 v0)]) dX7_reset_27 rfl e_x11.symm (by decide) rfl ?_
    refine me_goto C (tgt := 2) dX7_reset_30 (by decide) ?_
    refine me_dropI [(0, me_r 13 v0), (1, me_i x11)] [1, 0] rfl ?_
    exact hK2 μ10 v0 x11 hf
def f_Router_reset_h2  : Nat → me_M → Nat → Int32 → Option (me_M × Unit)
  | 0, _, _, _ => none
  | n + 1, μ, v0, v1 => f_Router_reset_b2 (f_Router_reset_h2 n) μ v0 v1
set_option maxHeartbeats 4000000 in
set_option maxRecDepth 100000 in
theorem z_Router_reset_h2 {X : me_X} {B : me_B} {sz : Nat} (C : me_C X B RX7 cX7_reset 2 none)  {r : me_M × Unit} (N : me_En X B sz (B, r.1, .ok (none)) 1 20 0 0) (hNx : me_Nx X) (hB : me_St B)  : ∀ (n : Nat) (μ : me_M) (v0 : Nat) (v1 : Int32), f_Router_reset_h2 n μ v0 v1 = some r → me_Z X B 0 0 μ 2 [(0, me_r 13 v0), (1, me_i v1)] [] := by
  intro n
  induction n with
  | zero => intro μ v0 v1  h; exact absurd (show (none : Option (me_M × Unit)) = some r from h) (fun q => by cases q)
  | succ n ih => intro μ v0 v1  h; exact z_Router_reset_b2 C N hNx hB  (K2 := f_Router_reset_h2 n) ih  h
def f_Router_reset (μ : me_M) (v0 : Nat) : Option (me_M × Unit) :=
  f_Router_reset_h2 me_FU μ v0 (0 : Int32)
set_option maxHeartbeats 4000000 in
set_option maxRecDepth 100000 in
theorem z_Router_reset {X : me_X} {B : me_B} {sz : Nat} (C : me_C X B RX7 cX7_reset 2 none) {μ : me_M} {v0 : Nat}   {r : me_M × Unit} (N : me_En X B sz (B, r.1, .ok (none)) 1 20 0 0) (hNx : me_Nx X) (hB : me_St B)   (hf : f_Router_reset μ v0 = some r) : me_Z X B 0 0 μ 0 [(0, me_r 13 v0)] [] := by
  unfold f_Router_reset at hf
  refine me_iconst C (v := 0) dX7_reset_0 (by decide) ?_
  refine me_istore_n C 1 dX7_reset_1 rfl (by decide) (L' := [(1, me_i (0 : Int32)), (0, me_r 13 v0)]) rfl ?_
  refine me_dropI [(0, me_r 13 v0), (1, me_i (0 : Int32))] [1, 0] rfl ?_
  exact z_Router_reset_h2 C N hNx hB me_FU μ v0 (0 : Int32) hf
theorem c_Router_reset {B : me_B} (hB : me_St B) {μ : me_M} {v0 : Nat} {μ' : me_M} {r : Unit}  (hf : f_Router_reset μ v0 = some (μ', r)) : ∀ l E z, l.stackTraces = false → me_Met l yX7_reset cX7_reset 2 none 1 20 0 0 E B μ z [me_r 13 v0] (B, μ', .ok (none)) :=
  fun _ _ _ hl => me_ofZ hl (by decide +kernel) (Nat.le_of_ble_eq_true rfl) (fun _ C N hNx => z_Router_reset C N hNx hB  hf)

def f_Router_setPlaces_b2 (K2 : me_M → Nat → Int32 → Int32 → Option (me_M × Unit)) (μ : me_M) (v0 : Nat) (v1 : Int32) (v2 : Int32) : Option (me_M × Unit) :=
  if (10 : Int32) ≤ v2 then
  (some (μ, ()))
  else
  (me_gd (me_inb v2 10) (
  me_lt (me_up μ 17 (10 * v0 + (me_ix v2)) 4 v1) (fun μ3 =>
  me_lt (me_inc v2 (1)) (fun x4 =>
  K2 μ3 v0 v1 x4))))
set_option maxHeartbeats 4000000 in
set_option maxRecDepth 100000 in
theorem z_Router_setPlaces_b2 {X : me_X} {B : me_B} {sz : Nat} (C : me_C X B RX7 cX7_setPlaces 3 none) {μ : me_M} {v0 : Nat} {v1 : Int32} {v2 : Int32}  {K2 : me_M → Nat → Int32 → Int32 → Option (me_M × Unit)} {r : me_M × Unit} (N : me_En X B sz (B, r.1, .ok (none)) 0 0 0 0) (hNx : me_Nx X) (hB : me_St B) (hK2 : ∀ (μ : me_M) (v0 : Nat) (v1 : Int32) (v2 : Int32), K2 μ v0 v1 v2 = some r → me_Z X B 0 0 μ 2 [(0, me_r 13 v0), (1, me_i v1), (2, me_i v2)] [])  (hf : f_Router_setPlaces_b2 K2 μ v0 v1 v2 = some r) : me_Z X B 0 0 μ 2 [(0, me_r 13 v0), (1, me_i v1), (2, me_i v2)] [] := by
  unfold f_Router_setPlaces_b2 at hf
  refine me_iload_n C 2 dX7_setPlaces_2 rfl rfl ?_
  refine me_aload_n C 0 (Or.inr (Or.inl ⟨_, rfl⟩)) dX7_setPlaces_3 rfl rfl ?_
  refine me_getr C hB 0 (k' := 14) (i' := v0) fg_Router_11 dX7_setPlaces_4 rfl rfl ?_
  refine me_alen C (v := 10) rfl (Or.inr rfl) (fun _ => rfl) dX7_setPlaces_7 (by decide) ?_
  refine me_icmp_ge C (tgt := 27) dX7_setPlaces_8 (by decide) (fun c1 => ?_) (fun c1 => ?_)
  · replace hf := me_ip c1 hf
    exact me_vret C N dX7_setPlaces_27 (by cases hf; rfl) (by decide) (by decide)
  · replace hf := me_in c1 hf
    refine me_aload_n C 0 (Or.inr (Or.inl ⟨_, rfl⟩)) dX7_setPlaces_11 rfl rfl ?_
    refine me_getr C hB 0 (k' := 14) (i' := v0) fg_Router_11 dX7_setPlaces_12 rfl rfl ?_
    refine me_iload_n C 2 dX7_setPlaces_15 rfl rfl ?_
    obtain ⟨g2, hf⟩ := me_gs hf
    refine me_aald C hB (k' := 17) (i' := 10 * v0 + (me_ix v2)) rfl (fun _ => rfl) rfl g2 dX7_setPlaces_16 rfl ?_
    refine me_iload_n C 1 dX7_setPlaces_17 rfl rfl ?_
    obtain ⟨μ3, e_μ3, hf⟩ := me_lts hf
    refine me_puti C 4 fw_Router_35 dX7_setPlaces_18 rfl (me_nri _) e_μ3 ?_
    obtain ⟨x4, e_x4, hf⟩ := me_lts hf
    refine me_iinc C (v := x4) (L' := [(2, me_i x4), (0, me_r 13 v0), (1, me_i v1)]) dX7_setPlaces_21 rfl e_x4.symm (by decide) rfl ?_
    refine me_goto C (tgt := 2) dX7_setPlaces_24 (by decide) ?_
    refine me_dropI [(0, me_r 13 v0), (1, me_i v1), (2, me_i x4)] [1, 2, 0] rfl ?_
    exact hK2 μ3 v0 v1 x4 hf
def f_Router_setPlaces_h2  : Nat → me_M → Nat → Int32 → Int32 → Option (me_M × Unit)
  | 0, _, _, _, _ => none
  | n + 1, μ, v0, v1, v2 => f_Router_setPlaces_b2 (f_Router_setPlaces_h2 n) μ v0 v1 v2
set_option maxHeartbeats 4000000 in
set_option maxRecDepth 100000 in
theorem z_Router_setPlaces_h2 {X : me_X} {B : me_B} {sz : Nat} (C : me_C X B RX7 cX7_setPlaces 3 none)  {r : me_M × Unit} (N : me_En X B sz (B, r.1, .ok (none)) 0 0 0 0) (hNx : me_Nx X) (hB : me_St B)  : ∀ (n : Nat) (μ : me_M) (v0 : Nat) (v1 : Int32) (v2 : Int32), f_Router_setPlaces_h2 n μ v0 v1 v2 = some r → me_Z X B 0 0 μ 2 [(0, me_r 13 v0), (1, me_i v1), (2, me_i v2)] [] := by
  intro n
  induction n with
  | zero => intro μ v0 v1 v2  h; exact absurd (show (none : Option (me_M × Unit)) = some r from h) (fun q => by cases q)
  | succ n ih => intro μ v0 v1 v2  h; exact z_Router_setPlaces_b2 C N hNx hB  (K2 := f_Router_setPlaces_h2 n) ih  h
def f_Router_setPlaces (μ : me_M) (v0 : Nat) (v1 : Int32) : Option (me_M × Unit) :=
  f_Router_setPlaces_h2 me_FU μ v0 v1 (0 : Int32)
set_option maxHeartbeats 4000000 in
set_option maxRecDepth 100000 in
theorem z_Router_setPlaces {X : me_X} {B : me_B} {sz : Nat} (C : me_C X B RX7 cX7_setPlaces 3 none) {μ : me_M} {v0 : Nat} {v1 : Int32}   {r : me_M × Unit} (N : me_En X B sz (B, r.1, .ok (none)) 0 0 0 0) (hNx : me_Nx X) (hB : me_St B)   (hf : f_Router_setPlaces μ v0 v1 = some r) : me_Z X B 0 0 μ 0 [(0, me_r 13 v0), (1, me_i v1)] [] := by
  unfold f_Router_setPlaces at hf
  refine me_iconst C (v := 0) dX7_setPlaces_0 (by decide) ?_
  refine me_istore_n C 2 dX7_setPlaces_1 rfl (by decide) (L' := [(2, me_i (0 : Int32)), (0, me_r 13 v0), (1, me_i v1)]) rfl ?_
  refine me_dropI [(0, me_r 13 v0), (1, me_i v1), (2, me_i (0 : Int32))] [1, 2, 0] rfl ?_
  exact z_Router_setPlaces_h2 C N hNx hB me_FU μ v0 v1 (0 : Int32) hf
theorem c_Router_setPlaces {B : me_B} (hB : me_St B) {μ : me_M} {v0 : Nat} {v1 : Int32} {μ' : me_M} {r : Unit}  (hf : f_Router_setPlaces μ v0 v1 = some (μ', r)) : ∀ l E z, l.stackTraces = false → me_Met l yX7_setPlaces cX7_setPlaces 3 none 0 0 0 0 E B μ z [me_r 13 v0, me_i v1] (B, μ', .ok (none)) :=
  fun _ _ _ hl => me_ofZ hl (by decide +kernel) (Nat.le_of_ble_eq_true rfl) (fun _ C N hNx => z_Router_setPlaces C N hNx hB  hf)

def f_Router_isIdle_b2 (μ : me_M) (K2 : Nat → Int32 → Option Int32) (v0 : Nat) (v1 : Int32) : Option Int32 :=
  if (10 : Int32) ≤ v1 then
  (some (1 : Int32))
  else
  (me_gd (me_inb v1 10) (
  if 0 < (μ 17 (10 * v0 + (me_ix v1)) 3) then
  (some (0 : Int32))
  else
  (me_gd (me_inb v1 10) (
  if (μ 17 (10 * v0 + (me_ix v1)) 5) = (-1 : Int32) then
  (me_lt (me_inc v1 (1)) (fun x6 =>
  K2 v0 x6))
  else
  (some (0 : Int32))))))
set_option maxHeartbeats 4000000 in
set_option maxRecDepth 100000 in
theorem z_Router_isIdle_b2 {X : me_X} {B : me_B} {sz : Nat} (C : me_C X B RX7 cX7_isIdle 2 (some .boolean)) {μ : me_M} {v0 : Nat} {v1 : Int32}  {K2 : Nat → Int32 → Option Int32} {r : Int32} (N : me_En X B sz (B, μ, .ok (some (me_i r))) 0 0 0 0) (hNx : me_Nx X) (hB : me_St B) (hK2 : ∀ (v0 : Nat) (v1 : Int32), K2 v0 v1 = some r → me_Z X B 0 0 μ 2 [(0, me_r 13 v0), (1, me_i v1)] [])  (hf : f_Router_isIdle_b2 μ K2 v0 v1 = some r) : me_Z X B 0 0 μ 2 [(0, me_r 13 v0), (1, me_i v1)] [] := by
  unfold f_Router_isIdle_b2 at hf
  refine me_iload_n C 1 dX7_isIdle_2 rfl rfl ?_
  refine me_aload_n C 0 (Or.inr (Or.inl ⟨_, rfl⟩)) dX7_isIdle_3 rfl rfl ?_
  refine me_getr C hB 0 (k' := 14) (i' := v0) fg_Router_11 dX7_isIdle_4 rfl rfl ?_
  refine me_alen C (v := 10) rfl (Or.inr rfl) (fun _ => rfl) dX7_isIdle_7 (by decide) ?_
  refine me_icmp_ge C (tgt := 44) dX7_isIdle_8 (by decide) (fun c1 => ?_) (fun c1 => ?_)
  · replace hf := me_ip c1 hf
    refine me_iconst C (v := 1) dX7_isIdle_44 (by decide) ?_
    exact me_iret C N dX7_isIdle_45 (by decide +kernel) (by cases hf; rfl) (by decide) (by decide)
  · replace hf := me_in c1 hf
    refine me_aload_n C 0 (Or.inr (Or.inl ⟨_, rfl⟩)) dX7_isIdle_11 rfl rfl ?_
    refine me_getr C hB 0 (k' := 14) (i' := v0) fg_Router_11 dX7_isIdle_12 rfl rfl ?_
    refine me_iload_n C 1 dX7_isIdle_15 rfl rfl ?_
    obtain ⟨g2, hf⟩ := me_gs hf
    refine me_aald C hB (k' := 17) (i' := 10 * v0 + (me_ix v1)) rfl (fun _ => rfl) rfl g2 dX7_isIdle_16 rfl ?_
    refine me_geti C 3 fg_Router_39 dX7_isIdle_17 rfl ?_
    refine me_if_gt C (tgt := 36) dX7_isIdle_20 (by decide) (fun c3 => ?_) (fun c3 => ?_)
    · replace hf := me_ip c3 hf
      refine me_iconst C (v := 0) dX7_isIdle_36 (by decide) ?_
      exact me_iret C N dX7_isIdle_37 (by decide +kernel) (by cases hf; rfl) (by decide) (by decide)
    · replace hf := me_in c3 hf
      refine me_aload_n C 0 (Or.inr (Or.inl ⟨_, rfl⟩)) dX7_isIdle_23 rfl rfl ?_
      refine me_getr C hB 0 (k' := 14) (i' := v0) fg_Router_11 dX7_isIdle_24 rfl rfl ?_
      refine me_iload_n C 1 dX7_isIdle_27 rfl rfl ?_
      obtain ⟨g4, hf⟩ := me_gs hf
      refine me_aald C hB (k' := 17) (i' := 10 * v0 + (me_ix v1)) rfl (fun _ => rfl) rfl g4 dX7_isIdle_28 rfl ?_
      refine me_geti C 5 fg_Router_42 dX7_isIdle_29 rfl ?_
      refine me_iconst C (v := -1) dX7_isIdle_32 (by decide) ?_
      refine me_icmp_eq C (tgt := 38) dX7_isIdle_33 (by decide) (fun c5 => ?_) (fun c5 => ?_)
      · replace hf := me_ip c5 hf
        obtain ⟨x6, e_x6, hf⟩ := me_lts hf
        refine me_iinc C (v := x6) (L' := [(1, me_i x6), (0, me_r 13 v0)]) dX7_isIdle_38 rfl e_x6.symm (by decide) rfl ?_
        refine me_goto C (tgt := 2) dX7_isIdle_41 (by decide) ?_
        refine me_dropI [(0, me_r 13 v0), (1, me_i x6)] [1, 0] rfl ?_
        exact hK2 v0 x6 hf
      · replace hf := me_in c5 hf
        refine me_iconst C (v := 0) dX7_isIdle_36 (by decide) ?_
        exact me_iret C N dX7_isIdle_37 (by decide +kernel) (by cases hf; rfl) (by decide) (by decide)
def f_Router_isIdle_h2 (μ : me_M) : Nat → Nat → Int32 → Option Int32
  | 0, _, _ => none
  | n + 1, v0, v1 => f_Router_isIdle_b2 μ (f_Router_isIdle_h2 μ n) v0 v1
set_option maxHeartbeats 4000000 in
set_option maxRecDepth 100000 in
theorem z_Router_isIdle_h2 {X : me_X} {B : me_B} {sz : Nat} (C : me_C X B RX7 cX7_isIdle 2 (some .boolean)) {μ : me_M}  {r : Int32} (N : me_En X B sz (B, μ, .ok (some (me_i r))) 0 0 0 0) (hNx : me_Nx X) (hB : me_St B)  : ∀ (n : Nat) (v0 : Nat) (v1 : Int32), f_Router_isIdle_h2 μ n v0 v1 = some r → me_Z X B 0 0 μ 2 [(0, me_r 13 v0), (1, me_i v1)] [] := by
  intro n
  induction n with
  | zero => intro v0 v1  h; exact absurd (show (none : Option Int32) = some r from h) (fun q => by cases q)
  | succ n ih => intro v0 v1  h; exact z_Router_isIdle_b2 C N hNx hB  (K2 := f_Router_isIdle_h2 μ n) ih  h
def f_Router_isIdle (μ : me_M) (v0 : Nat) : Option Int32 :=
  f_Router_isIdle_h2 μ me_FU v0 (0 : Int32)
set_option maxHeartbeats 4000000 in
set_option maxRecDepth 100000 in
theorem z_Router_isIdle {X : me_X} {B : me_B} {sz : Nat} (C : me_C X B RX7 cX7_isIdle 2 (some .boolean)) {μ : me_M} {v0 : Nat}   {r : Int32} (N : me_En X B sz (B, μ, .ok (some (me_i r))) 0 0 0 0) (hNx : me_Nx X) (hB : me_St B)   (hf : f_Router_isIdle μ v0 = some r) : me_Z X B 0 0 μ 0 [(0, me_r 13 v0)] [] := by
  unfold f_Router_isIdle at hf
  refine me_iconst C (v := 0) dX7_isIdle_0 (by decide) ?_
  refine me_istore_n C 1 dX7_isIdle_1 rfl (by decide) (L' := [(1, me_i (0 : Int32)), (0, me_r 13 v0)]) rfl ?_
  refine me_dropI [(0, me_r 13 v0), (1, me_i (0 : Int32))] [1, 0] rfl ?_
  exact z_Router_isIdle_h2 C N hNx hB me_FU v0 (0 : Int32) hf
theorem c_Router_isIdle {B : me_B} (hB : me_St B) {μ : me_M} {v0 : Nat} {r : Int32}  (hf : f_Router_isIdle μ v0 = some r) : ∀ l E z, l.stackTraces = false → me_Met l yX7_isIdle cX7_isIdle 2 (some .boolean) 0 0 0 0 E B μ z [me_r 13 v0] (B, μ, .ok (some (me_i r))) :=
  fun _ _ _ hl => me_ofZ hl (by decide +kernel) (Nat.le_of_ble_eq_true rfl) (fun _ C N hNx => z_Router_isIdle C N hNx hB  hf)

def f_Works_receiveWord_b43 (μ : me_M) (v2 : Nat) (v4 : Nat) : Option (me_M × Unit) :=
  me_b2 (f_Core_pushAndGoOn μ v2 (μ 8 v4 5)) (fun μ2 r1 =>
  some (μ2, ()))
set_option maxHeartbeats 4000000 in
set_option maxRecDepth 100000 in
theorem z_Works_receiveWord_b43 {X : me_X} {B : me_B} {sz : Nat} (C : me_C X B RX10 cX10_receiveWord 5 none) {μ : me_M} {v2 : Nat} {v4 : Nat}   {r : me_M × Unit} (N : me_En X B sz (B, r.1, .ok (none)) 2 48 0 0) (hNx : me_Nx X) (hB : me_St B)   (hf : f_Works_receiveWord_b43 μ v2 v4 = some r) : me_Z X B 0 0 μ 43 [(2, me_r 22 v2), (4, me_r 8 v4)] [] := by
  unfold f_Works_receiveWord_b43 at hf
  refine me_aload_n C 2 (Or.inr (Or.inl ⟨_, rfl⟩)) dX10_receiveWord_43 rfl rfl ?_
  refine me_aload C (Or.inr (Or.inl ⟨_, rfl⟩)) dX10_receiveWord_44 rfl ?_
  refine me_geti C 5 fg_Works_111 dX10_receiveWord_46 rfl ?_
  obtain ⟨μ2, r1, h_r1, hf⟩ := me_bs2 hf
  refine me_callV0 C N  (As := [me_i (μ 8 v4 5)]) (st := []) 0 0 (c_Core_pushAndGoOn hB h_r1) mv_Core_pushAndGoOn ml_Works_55 rfl rfl dX10_receiveWord_49 rfl rfl ⟨by decide, by decide⟩ ⟨by decide, by decide, by decide, by decide⟩ (Nat.le_of_ble_eq_true rfl) ?_
  exact me_vret C N dX10_receiveWord_52 (by cases hf; rfl) (by decide) (by decide)
def f_Works_receiveWord (μ : me_M) (v1 : Int32) (v2 : Nat) (v3 : Int32) : Option (me_M × Unit) :=
  me_bd (f_Post_firstLying μ v1 v3) (fun r1 =>
  me_oq r1
  (me_lt (me_up μ 22 v2 7 (119 : Int32)) (fun μ2 =>
  some (μ2, ())))
  (fun r1i => me_bd (f_Core_isFull μ v2) (fun r3 =>
  if r3 = 0 then
  (me_lt (me_up μ 8 r1i 2 (114 : Int32)) (fun μ5 =>
  me_lt (me_up μ5 22 v2 7 (114 : Int32)) (fun μ6 =>
  f_Works_receiveWord_b43 μ6 v2 r1i)))
  else
  (f_Works_receiveWord_b43 μ v2 r1i))))
set_option maxHeartbeats 4000000 in
set_option maxRecDepth 100000 in
theorem z_Works_receiveWord {X : me_X} {B : me_B} {sz : Nat} (C : me_C X B RX10 cX10_receiveWord 5 none) {μ : me_M} {v1 : Int32} {v2 : Nat} {v3 : Int32}   {r : me_M × Unit} (N : me_En X B sz (B, r.1, .ok (none)) 2 48 0 0) (hNx : me_Nx X) (hB : me_St B)   (hf : f_Works_receiveWord μ v1 v2 v3 = some r) : me_Z X B 0 0 μ 0 [(0, me_r 31 0), (1, me_i v1), (2, me_r 22 v2), (3, me_i v3)] [] := by
  unfold f_Works_receiveWord at hf
  refine me_aload_n C 0 (Or.inr (Or.inl ⟨_, rfl⟩)) dX10_receiveWord_0 rfl rfl ?_
  refine me_getr C hB 1 (k' := 6) (i' := 0) fg_Works_13 dX10_receiveWord_1 rfl rfl ?_
  refine me_iload_n C 1 dX10_receiveWord_4 rfl rfl ?_
  refine me_iload_n C 3 dX10_receiveWord_5 rfl rfl ?_
  obtain ⟨r1, h_r1, hf⟩ := me_bs hf
  refine me_callV C N  (As := [me_i v1, me_i v3]) (st := []) 0 0 (c_Post_firstLying hB h_r1) mv_Post_firstLying ml_Works_101 rfl rfl dX10_receiveWord_6 rfl rfl ⟨by decide, by decide⟩ ⟨by decide, by decide, by decide, by decide⟩ (Nat.le_of_ble_eq_true rfl) ?_
  rcases r1 with _ | r1i
  · replace hf := me_oqn hf
    refine me_astore C (Or.inl rfl) dX10_receiveWord_9 (by decide) (L' := [(4, me_n), (0, me_r 31 0), (1, me_i v1), (2, me_r 22 v2), (3, me_i v3)]) rfl ?_
    refine me_aload C (Or.inl rfl) dX10_receiveWord_11 rfl ?_
    refine me_ifnonnull_n C dX10_receiveWord_13 ?_
    refine me_aload_n C 2 (Or.inr (Or.inl ⟨_, rfl⟩)) dX10_receiveWord_16 rfl rfl ?_
    refine me_bipush C (v := 119) dX10_receiveWord_17 (by decide) ?_
    obtain ⟨μ2, e_μ2, hf⟩ := me_lts hf
    refine me_puti C 7 fw_Works_75 dX10_receiveWord_19 rfl (by decide +kernel) e_μ2 ?_
    exact me_vret C N dX10_receiveWord_22 (by cases hf; rfl) (by decide) (by decide)
  · replace hf := me_oqs hf
    refine me_astore C (Or.inr (Or.inl ⟨_, rfl⟩)) dX10_receiveWord_9 (by decide) (L' := [(4, me_r 8 r1i), (0, me_r 31 0), (1, me_i v1), (2, me_r 22 v2), (3, me_i v3)]) rfl ?_
    refine me_aload C (Or.inr (Or.inl ⟨_, rfl⟩)) dX10_receiveWord_11 rfl ?_
    refine me_ifnonnull_r C (tgt := 23) dX10_receiveWord_13 (by decide) ?_
    refine me_aload_n C 2 (Or.inr (Or.inl ⟨_, rfl⟩)) dX10_receiveWord_23 rfl rfl ?_
    obtain ⟨r3, h_r3, hf⟩ := me_bs hf
    refine me_callV C N  (As := []) (st := []) 0 0 (c_Core_isFull hB h_r3) mv_Core_isFull ml_Works_105 rfl rfl dX10_receiveWord_24 rfl rfl ⟨by decide, by decide⟩ ⟨by decide, by decide, by decide, by decide⟩ (Nat.le_of_ble_eq_true rfl) ?_
    refine me_if_ne C (tgt := 43) dX10_receiveWord_27 (by decide) (fun c4 => ?_) (fun c4 => ?_)
    · replace hf := me_in c4 hf
      refine me_dropI [(2, me_r 22 v2), (4, me_r 8 r1i)] [3, 0] rfl ?_
      exact z_Works_receiveWord_b43 C N hNx hB hf
    · replace hf := me_ip c4 hf
      refine me_aload C (Or.inr (Or.inl ⟨_, rfl⟩)) dX10_receiveWord_30 rfl ?_
      refine me_bipush C (v := 114) dX10_receiveWord_32 (by decide) ?_
      obtain ⟨μ5, e_μ5, hf⟩ := me_lts hf
      refine me_puti C 2 fw_Works_108 dX10_receiveWord_34 rfl (by decide +kernel) e_μ5 ?_
      refine me_aload_n C 2 (Or.inr (Or.inl ⟨_, rfl⟩)) dX10_receiveWord_37 rfl rfl ?_
      refine me_bipush C (v := 114) dX10_receiveWord_38 (by decide) ?_
      obtain ⟨μ6, e_μ6, hf⟩ := me_lts hf
      refine me_puti C 7 fw_Works_75 dX10_receiveWord_40 rfl (by decide +kernel) e_μ6 ?_
      refine me_dropI [(2, me_r 22 v2), (4, me_r 8 r1i)] [3, 0] rfl ?_
      exact z_Works_receiveWord_b43 C N hNx hB hf
theorem c_Works_receiveWord {B : me_B} (hB : me_St B) {μ : me_M} {v1 : Int32} {v2 : Nat} {v3 : Int32} {μ' : me_M} {r : Unit}  (hf : f_Works_receiveWord μ v1 v2 v3 = some (μ', r)) : ∀ l E z, l.stackTraces = false → me_Met l yX10_receiveWord cX10_receiveWord 5 none 2 48 0 0 E B μ z [me_r 31 0, me_i v1, me_r 22 v2, me_i v3] (B, μ', .ok (none)) :=
  fun _ _ _ hl => me_ofZ hl (by decide +kernel) (Nat.le_of_ble_eq_true rfl) (fun _ C N hNx => z_Works_receiveWord C N hNx hB  hf)

def f_Works_sendWord (μ : me_M) (v1 : Int32) (v2 : Nat) (v3 : Int32) (v4 : Int32) : Option (me_M × Unit) :=
  me_b2 (f_Core_canPop μ v2 (1 : Int32)) (fun μ2 r1 =>
  if r1 = 0 then
  (some (μ2, ()))
  else
  (me_bd (f_Post_hasRoom μ2 (1 : Int32)) (fun r4 =>
  if r4 = 0 then
  (me_b2 (f_Core_stopBy μ2 v2 (112 : Int32)) (fun μ12 r11 =>
  some (μ12, ())))
  else
  (me_lt (me_up μ2 22 v2 4 ((μ2 22 v2 4) - (1 : Int32))) (fun μ6 =>
  me_gd (me_inb (μ6 22 v2 4) 6) (
  me_b2 (f_Post_make μ6 (109 : Int32) v1 v3 (μ6 24 v2 (me_ix (μ6 22 v2 4))) (1 : Int32) v4) (fun μ9 r8 =>
  me_lt (me_up μ9 22 v2 6 ((μ9 22 v2 6) + (1 : Int32))) (fun μ10 =>
  some (μ10, ())))))))))
set_option maxHeartbeats 4000000 in
set_option maxRecDepth 100000 in
theorem z_Works_sendWord {X : me_X} {B : me_B} {sz : Nat} (C : me_C X B RX10 cX10_sendWord 5 none) {μ : me_M} {v1 : Int32} {v2 : Nat} {v3 : Int32} {v4 : Int32}   {r : me_M × Unit} (N : me_En X B sz (B, r.1, .ok (none)) 2 42 0 0) (hNx : me_Nx X) (hB : me_St B)   (hf : f_Works_sendWord μ v1 v2 v3 v4 = some r) : me_Z X B 0 0 μ 0 [(0, me_r 31 0), (1, me_i v1), (2, me_r 22 v2), (3, me_i v3), (4, me_i v4)] [] := by
  unfold f_Works_sendWord at hf
  refine me_aload_n C 2 (Or.inr (Or.inl ⟨_, rfl⟩)) dX10_sendWord_0 rfl rfl ?_
  refine me_iconst C (v := 1) dX10_sendWord_1 (by decide) ?_
  obtain ⟨μ2, r1, h_r1, hf⟩ := me_bs2 hf
  refine me_callV C N  (As := [me_i (1 : Int32)]) (st := []) 0 0 (c_Core_canPop hB h_r1) mv_Core_canPop ml_Works_82 rfl rfl dX10_sendWord_2 rfl rfl ⟨by decide, by decide⟩ ⟨by decide, by decide, by decide, by decide⟩ (Nat.le_of_ble_eq_true rfl) ?_
  refine me_if_ne C (tgt := 9) dX10_sendWord_5 (by decide) (fun c3 => ?_) (fun c3 => ?_)
  · replace hf := me_in c3 hf
    refine me_aload_n C 0 (Or.inr (Or.inl ⟨_, rfl⟩)) dX10_sendWord_9 rfl rfl ?_
    refine me_getr C hB 1 (k' := 6) (i' := 0) fg_Works_13 dX10_sendWord_10 rfl rfl ?_
    refine me_iconst C (v := 1) dX10_sendWord_13 (by decide) ?_
    obtain ⟨r4, h_r4, hf⟩ := me_bs hf
    refine me_callV C N  (As := [me_i (1 : Int32)]) (st := []) 0 0 (c_Post_hasRoom hB h_r4) mv_Post_hasRoom ml_Works_86 rfl rfl dX10_sendWord_14 rfl rfl ⟨by decide, by decide⟩ ⟨by decide, by decide, by decide, by decide⟩ (Nat.le_of_ble_eq_true rfl) ?_
    refine me_if_ne C (tgt := 27) dX10_sendWord_17 (by decide) (fun c5 => ?_) (fun c5 => ?_)
    · replace hf := me_in c5 hf
      refine me_aload_n C 2 (Or.inr (Or.inl ⟨_, rfl⟩)) dX10_sendWord_27 rfl rfl ?_
      refine me_dup C rfl dX10_sendWord_28 ?_
      refine me_geti C 4 fg_Works_91 dX10_sendWord_29 rfl ?_
      refine me_iconst C (v := 1) dX10_sendWord_32 (by decide) ?_
      refine me_isub C dX10_sendWord_33 ?_
      obtain ⟨μ6, e_μ6, hf⟩ := me_lts hf
      refine me_puti C 4 fw_Works_91 dX10_sendWord_34 rfl (me_nri _) e_μ6 ?_
      refine me_aload_n C 0 (Or.inr (Or.inl ⟨_, rfl⟩)) dX10_sendWord_37 rfl rfl ?_
      refine me_getr C hB 1 (k' := 6) (i' := 0) fg_Works_13 dX10_sendWord_38 rfl rfl ?_
      refine me_bipush C (v := 109) dX10_sendWord_41 (by decide) ?_
      refine me_iload_n C 1 dX10_sendWord_43 rfl rfl ?_
      refine me_iload_n C 3 dX10_sendWord_44 rfl rfl ?_
      refine me_aload_n C 2 (Or.inr (Or.inl ⟨_, rfl⟩)) dX10_sendWord_45 rfl rfl ?_
      refine me_getr C hB 1 (k' := 24) (i' := v2) fg_Works_94 dX10_sendWord_46 rfl rfl ?_
      refine me_aload_n C 2 (Or.inr (Or.inl ⟨_, rfl⟩)) dX10_sendWord_49 rfl rfl ?_
      refine me_geti C 4 fg_Works_91 dX10_sendWord_50 rfl ?_
      obtain ⟨g7, hf⟩ := me_gs hf
      refine me_iald C rfl (fun _ => rfl) g7 dX10_sendWord_53 ?_
      refine me_iconst C (v := 1) dX10_sendWord_54 (by decide) ?_
      refine me_iload C dX10_sendWord_55 rfl ?_
      obtain ⟨μ9, r8, h_r8, hf⟩ := me_bs2 hf
      refine me_callV C N  (As := [me_i (109 : Int32), me_i v1, me_i v3, me_i (μ6 24 v2 (me_ix (μ6 22 v2 4))), me_i (1 : Int32), me_i v4]) (st := []) 0 0 (c_Post_make hB h_r8) mv_Post_make ml_Works_97 rfl rfl dX10_sendWord_57 rfl rfl ⟨by decide, by decide⟩ ⟨by decide, by decide, by decide, by decide⟩ (Nat.le_of_ble_eq_true rfl) ?_
      refine me_pop C rfl dX10_sendWord_60 ?_
      refine me_aload_n C 2 (Or.inr (Or.inl ⟨_, rfl⟩)) dX10_sendWord_61 rfl rfl ?_
      refine me_dup C rfl dX10_sendWord_62 ?_
      refine me_geti C 6 fg_Works_48 dX10_sendWord_63 rfl ?_
      refine me_iconst C (v := 1) dX10_sendWord_66 (by decide) ?_
      refine me_iadd C dX10_sendWord_67 ?_
      obtain ⟨μ10, e_μ10, hf⟩ := me_lts hf
      refine me_puti C 6 fw_Works_48 dX10_sendWord_68 rfl (me_nri _) e_μ10 ?_
      exact me_vret C N dX10_sendWord_71 (by cases hf; rfl) (by decide) (by decide)
    · replace hf := me_ip c5 hf
      refine me_aload_n C 2 (Or.inr (Or.inl ⟨_, rfl⟩)) dX10_sendWord_20 rfl rfl ?_
      refine me_bipush C (v := 112) dX10_sendWord_21 (by decide) ?_
      obtain ⟨μ12, r11, h_r11, hf⟩ := me_bs2 hf
      refine me_callV0 C N  (As := [me_i (112 : Int32)]) (st := []) 0 0 (c_Core_stopBy hB h_r11) mv_Core_stopBy ml_Works_40 rfl rfl dX10_sendWord_23 rfl rfl ⟨by decide, by decide⟩ ⟨by decide, by decide, by decide, by decide⟩ (Nat.le_of_ble_eq_true rfl) ?_
      exact me_vret C N dX10_sendWord_26 (by cases hf; rfl) (by decide) (by decide)
  · replace hf := me_ip c3 hf
    exact me_vret C N dX10_sendWord_8 (by cases hf; rfl) (by decide) (by decide)
theorem c_Works_sendWord {B : me_B} (hB : me_St B) {μ : me_M} {v1 : Int32} {v2 : Nat} {v3 : Int32} {v4 : Int32} {μ' : me_M} {r : Unit}  (hf : f_Works_sendWord μ v1 v2 v3 v4 = some (μ', r)) : ∀ l E z, l.stackTraces = false → me_Met l yX10_sendWord cX10_sendWord 5 none 2 42 0 0 E B μ z [me_r 31 0, me_i v1, me_r 22 v2, me_i v3, me_i v4] (B, μ', .ok (none)) :=
  fun _ _ _ hl => me_ofZ hl (by decide +kernel) (Nat.le_of_ble_eq_true rfl) (fun _ C N hNx => z_Works_sendWord C N hNx hB  hf)
