/-! WALKS: Mover_putPiece, Mover_putAll, Net_lay, Net_setFailed, Packet_wasDelivered, Packet_piecesInRows, Packet_beatsTaken, Placing_reset, Placing_addTask, Placing_setTraffic, Placing_countCost, Placing_exchange, Placing_swapBest -/
theorem dX2_putPiece_0 : decode cX2_putPiece 0 = .ok (.aload_n 0, 1) := by decide +kernel
theorem dX2_putPiece_1 : decode cX2_putPiece 1 = .ok (.getfield 26, 3) := by decide +kernel
theorem dX2_putPiece_4 : decode cX2_putPiece 4 = .ok (.iload_n 1, 1) := by decide +kernel
theorem dX2_putPiece_5 : decode cX2_putPiece 5 = .ok (.aaload, 1) := by decide +kernel
theorem dX2_putPiece_6 : decode cX2_putPiece 6 = .ok (.astore_n 3, 1) := by decide +kernel
theorem dX2_putPiece_7 : decode cX2_putPiece 7 = .ok (.aload_n 0, 1) := by decide +kernel
theorem dX2_putPiece_8 : decode cX2_putPiece 8 = .ok (.aload_n 3, 1) := by decide +kernel
theorem dX2_putPiece_9 : decode cX2_putPiece 9 = .ok (.iload_n 1, 1) := by decide +kernel
theorem dX2_putPiece_10 : decode cX2_putPiece 10 = .ok (.iload_n 2, 1) := by decide +kernel
theorem dX2_putPiece_11 : decode cX2_putPiece 11 = .ok (.invokevirtual 209, 3) := by decide +kernel
theorem dX2_putPiece_14 : decode cX2_putPiece 14 = .ok (.astore 4, 2) := by decide +kernel
theorem dX2_putPiece_16 : decode cX2_putPiece 16 = .ok (.aload 4, 2) := by decide +kernel
theorem dX2_putPiece_18 : decode cX2_putPiece 18 = .ok (.ifnonnull 4, 3) := by decide +kernel
theorem dX2_putPiece_21 : decode cX2_putPiece 21 = .ok (.return_, 1) := by decide +kernel
theorem dX2_putPiece_22 : decode cX2_putPiece 22 = .ok (.aload_n 3, 1) := by decide +kernel
theorem dX2_putPiece_23 : decode cX2_putPiece 23 = .ok (.getfield 56, 3) := by decide +kernel
theorem dX2_putPiece_26 : decode cX2_putPiece 26 = .ok (.ifCond .ne 9, 3) := by decide +kernel
theorem dX2_putPiece_29 : decode cX2_putPiece 29 = .ok (.aload_n 3, 1) := by decide +kernel
theorem dX2_putPiece_30 : decode cX2_putPiece 30 = .ok (.iconst 1, 1) := by decide +kernel
theorem dX2_putPiece_31 : decode cX2_putPiece 31 = .ok (.putfield 51, 3) := by decide +kernel
theorem dX2_putPiece_34 : decode cX2_putPiece 34 = .ok (.return_, 1) := by decide +kernel
theorem dX2_putPiece_35 : decode cX2_putPiece 35 = .ok (.aload_n 3, 1) := by decide +kernel
theorem dX2_putPiece_36 : decode cX2_putPiece 36 = .ok (.getfield 71, 3) := by decide +kernel
theorem dX2_putPiece_39 : decode cX2_putPiece 39 = .ok (.iload_n 2, 1) := by decide +kernel
theorem dX2_putPiece_40 : decode cX2_putPiece 40 = .ok (.iconst 5, 1) := by decide +kernel
theorem dX2_putPiece_41 : decode cX2_putPiece 41 = .ok (.imul, 1) := by decide +kernel
theorem dX2_putPiece_42 : decode cX2_putPiece 42 = .ok (.iconst 4, 1) := by decide +kernel
theorem dX2_putPiece_43 : decode cX2_putPiece 43 = .ok (.iadd, 1) := by decide +kernel
theorem dX2_putPiece_44 : decode cX2_putPiece 44 = .ok (.aaload, 1) := by decide +kernel
theorem dX2_putPiece_45 : decode cX2_putPiece 45 = .ok (.astore 5, 2) := by decide +kernel
theorem dX2_putPiece_47 : decode cX2_putPiece 47 = .ok (.aload 5, 2) := by decide +kernel
theorem dX2_putPiece_49 : decode cX2_putPiece 49 = .ok (.invokevirtual 138, 3) := by decide +kernel
theorem dX2_putPiece_52 : decode cX2_putPiece 52 = .ok (.ifCond .ne 4, 3) := by decide +kernel
theorem dX2_putPiece_55 : decode cX2_putPiece 55 = .ok (.return_, 1) := by decide +kernel
theorem dX2_putPiece_56 : decode cX2_putPiece 56 = .ok (.aload 4, 2) := by decide +kernel
theorem dX2_putPiece_58 : decode cX2_putPiece 58 = .ok (.getfield 213, 3) := by decide +kernel
theorem dX2_putPiece_61 : decode cX2_putPiece 61 = .ok (.ifCond .ne 16, 3) := by decide +kernel
theorem dX2_putPiece_64 : decode cX2_putPiece 64 = .ok (.aload 4, 2) := by decide +kernel
theorem dX2_putPiece_66 : decode cX2_putPiece 66 = .ok (.bipush 119, 2) := by decide +kernel
theorem dX2_putPiece_68 : decode cX2_putPiece 68 = .ok (.putfield 168, 3) := by decide +kernel
theorem dX2_putPiece_71 : decode cX2_putPiece 71 = .ok (.aload 4, 2) := by decide +kernel
theorem dX2_putPiece_73 : decode cX2_putPiece 73 = .ok (.iload_n 1, 1) := by decide +kernel
theorem dX2_putPiece_74 : decode cX2_putPiece 74 = .ok (.putfield 148, 3) := by decide +kernel
theorem dX2_putPiece_77 : decode cX2_putPiece 77 = .ok (.aload 5, 2) := by decide +kernel
theorem dX2_putPiece_79 : decode cX2_putPiece 79 = .ok (.aload 4, 2) := by decide +kernel
theorem dX2_putPiece_81 : decode cX2_putPiece 81 = .ok (.getfield 145, 3) := by decide +kernel
theorem dX2_putPiece_84 : decode cX2_putPiece 84 = .ok (.aload 4, 2) := by decide +kernel
theorem dX2_putPiece_86 : decode cX2_putPiece 86 = .ok (.getfield 213, 3) := by decide +kernel
theorem dX2_putPiece_89 : decode cX2_putPiece 89 = .ok (.aload_n 0, 1) := by decide +kernel
theorem dX2_putPiece_90 : decode cX2_putPiece 90 = .ok (.getfield 39, 3) := by decide +kernel
theorem dX2_putPiece_93 : decode cX2_putPiece 93 = .ok (.invokevirtual 158, 3) := by decide +kernel
theorem dX2_putPiece_96 : decode cX2_putPiece 96 = .ok (.aload 4, 2) := by decide +kernel
theorem dX2_putPiece_98 : decode cX2_putPiece 98 = .ok (.dup, 1) := by decide +kernel
theorem dX2_putPiece_99 : decode cX2_putPiece 99 = .ok (.getfield 213, 3) := by decide +kernel
theorem dX2_putPiece_102 : decode cX2_putPiece 102 = .ok (.iconst 1, 1) := by decide +kernel
theorem dX2_putPiece_103 : decode cX2_putPiece 103 = .ok (.iadd, 1) := by decide +kernel
theorem dX2_putPiece_104 : decode cX2_putPiece 104 = .ok (.putfield 213, 3) := by decide +kernel
theorem dX2_putPiece_107 : decode cX2_putPiece 107 = .ok (.aload_n 0, 1) := by decide +kernel
theorem dX2_putPiece_108 : decode cX2_putPiece 108 = .ok (.iconst 1, 1) := by decide +kernel
theorem dX2_putPiece_109 : decode cX2_putPiece 109 = .ok (.putfield 42, 3) := by decide +kernel
theorem dX2_putPiece_112 : decode cX2_putPiece 112 = .ok (.return_, 1) := by decide +kernel
theorem dX2_putAll_0 : decode cX2_putAll 0 = .ok (.iconst 0, 1) := by decide +kernel
theorem dX2_putAll_1 : decode cX2_putAll 1 = .ok (.istore_n 1, 1) := by decide +kernel
theorem dX2_putAll_2 : decode cX2_putAll 2 = .ok (.iload_n 1, 1) := by decide +kernel
theorem dX2_putAll_3 : decode cX2_putAll 3 = .ok (.aload_n 0, 1) := by decide +kernel
theorem dX2_putAll_4 : decode cX2_putAll 4 = .ok (.getfield 15, 3) := by decide +kernel
theorem dX2_putAll_7 : decode cX2_putAll 7 = .ok (.getfield 46, 3) := by decide +kernel
theorem dX2_putAll_10 : decode cX2_putAll 10 = .ok (.if_icmp .ge 21, 3) := by decide +kernel
theorem dX2_putAll_13 : decode cX2_putAll 13 = .ok (.aload_n 0, 1) := by decide +kernel
theorem dX2_putAll_14 : decode cX2_putAll 14 = .ok (.iload_n 1, 1) := by decide +kernel
theorem dX2_putAll_15 : decode cX2_putAll 15 = .ok (.iconst 1, 1) := by decide +kernel
theorem dX2_putAll_16 : decode cX2_putAll 16 = .ok (.invokevirtual 206, 3) := by decide +kernel
theorem dX2_putAll_19 : decode cX2_putAll 19 = .ok (.aload_n 0, 1) := by decide +kernel
theorem dX2_putAll_20 : decode cX2_putAll 20 = .ok (.iload_n 1, 1) := by decide +kernel
theorem dX2_putAll_21 : decode cX2_putAll 21 = .ok (.iconst 0, 1) := by decide +kernel
theorem dX2_putAll_22 : decode cX2_putAll 22 = .ok (.invokevirtual 206, 3) := by decide +kernel
theorem dX2_putAll_25 : decode cX2_putAll 25 = .ok (.iinc 1 1, 3) := by decide +kernel
theorem dX2_putAll_28 : decode cX2_putAll 28 = .ok (.goto (-26), 3) := by decide +kernel
theorem dX2_putAll_31 : decode cX2_putAll 31 = .ok (.return_, 1) := by decide +kernel
theorem dX3_lay_0 : decode cX3_lay 0 = .ok (.aload_n 0, 1) := by decide +kernel
theorem dX3_lay_1 : decode cX3_lay 1 = .ok (.iload_n 1, 1) := by decide +kernel
theorem dX3_lay_2 : decode cX3_lay 2 = .ok (.iload_n 2, 1) := by decide +kernel
theorem dX3_lay_3 : decode cX3_lay 3 = .ok (.imul, 1) := by decide +kernel
theorem dX3_lay_4 : decode cX3_lay 4 = .ok (.putfield 25, 3) := by decide +kernel
theorem dX3_lay_7 : decode cX3_lay 7 = .ok (.iconst 0, 1) := by decide +kernel
theorem dX3_lay_8 : decode cX3_lay 8 = .ok (.istore_n 3, 1) := by decide +kernel
theorem dX3_lay_9 : decode cX3_lay 9 = .ok (.iconst 0, 1) := by decide +kernel
theorem dX3_lay_10 : decode cX3_lay 10 = .ok (.istore 4, 2) := by decide +kernel
theorem dX3_lay_12 : decode cX3_lay 12 = .ok (.iload 4, 2) := by decide +kernel
theorem dX3_lay_14 : decode cX3_lay 14 = .ok (.iload_n 2, 1) := by decide +kernel
theorem dX3_lay_15 : decode cX3_lay 15 = .ok (.if_icmp .ge 143, 3) := by decide +kernel
theorem dX3_lay_18 : decode cX3_lay 18 = .ok (.iconst 0, 1) := by decide +kernel
theorem dX3_lay_19 : decode cX3_lay 19 = .ok (.istore 5, 2) := by decide +kernel
theorem dX3_lay_21 : decode cX3_lay 21 = .ok (.iload 5, 2) := by decide +kernel
theorem dX3_lay_23 : decode cX3_lay 23 = .ok (.iload_n 1, 1) := by decide +kernel
theorem dX3_lay_24 : decode cX3_lay 24 = .ok (.if_icmp .ge 128, 3) := by decide +kernel
theorem dX3_lay_27 : decode cX3_lay 27 = .ok (.iload_n 3, 1) := by decide +kernel
theorem dX3_lay_28 : decode cX3_lay 28 = .ok (.bipush 16, 2) := by decide +kernel
theorem dX3_lay_30 : decode cX3_lay 30 = .ok (.if_icmp .ge 122, 3) := by decide +kernel
theorem dX3_lay_33 : decode cX3_lay 33 = .ok (.aload_n 0, 1) := by decide +kernel
theorem dX3_lay_34 : decode cX3_lay 34 = .ok (.getfield 19, 3) := by decide +kernel
theorem dX3_lay_37 : decode cX3_lay 37 = .ok (.iload_n 3, 1) := by decide +kernel
theorem dX3_lay_38 : decode cX3_lay 38 = .ok (.iload 5, 2) := by decide +kernel
theorem dX3_lay_40 : decode cX3_lay 40 = .ok (.iastore, 1) := by decide +kernel
theorem dX3_lay_41 : decode cX3_lay 41 = .ok (.aload_n 0, 1) := by decide +kernel
theorem dX3_lay_42 : decode cX3_lay 42 = .ok (.getfield 22, 3) := by decide +kernel
theorem dX3_lay_45 : decode cX3_lay 45 = .ok (.iload_n 3, 1) := by decide +kernel
theorem dX3_lay_46 : decode cX3_lay 46 = .ok (.iload 4, 2) := by decide +kernel
theorem dX3_lay_48 : decode cX3_lay 48 = .ok (.iastore, 1) := by decide +kernel
theorem dX3_lay_49 : decode cX3_lay 49 = .ok (.aload_n 0, 1) := by decide +kernel
theorem dX3_lay_50 : decode cX3_lay 50 = .ok (.getfield 9, 3) := by decide +kernel
theorem dX3_lay_53 : decode cX3_lay 53 = .ok (.iload_n 3, 1) := by decide +kernel
theorem dX3_lay_54 : decode cX3_lay 54 = .ok (.iconst 4, 1) := by decide +kernel
theorem dX3_lay_55 : decode cX3_lay 55 = .ok (.imul, 1) := by decide +kernel
theorem dX3_lay_56 : decode cX3_lay 56 = .ok (.iconst 0, 1) := by decide +kernel
theorem dX3_lay_57 : decode cX3_lay 57 = .ok (.iadd, 1) := by decide +kernel
theorem dX3_lay_58 : decode cX3_lay 58 = .ok (.iload 5, 2) := by decide +kernel
theorem dX3_lay_60 : decode cX3_lay 60 = .ok (.iconst 1, 1) := by decide +kernel
theorem dX3_lay_61 : decode cX3_lay 61 = .ok (.iadd, 1) := by decide +kernel
theorem dX3_lay_62 : decode cX3_lay 62 = .ok (.iload_n 1, 1) := by decide +kernel
theorem dX3_lay_63 : decode cX3_lay 63 = .ok (.if_icmp .ge 9, 3) := by decide +kernel
theorem dX3_lay_66 : decode cX3_lay 66 = .ok (.iload_n 3, 1) := by decide +kernel
theorem dX3_lay_67 : decode cX3_lay 67 = .ok (.iconst 1, 1) := by decide +kernel
theorem dX3_lay_68 : decode cX3_lay 68 = .ok (.iadd, 1) := by decide +kernel
theorem dX3_lay_69 : decode cX3_lay 69 = .ok (.goto 4, 3) := by decide +kernel
theorem dX3_lay_72 : decode cX3_lay 72 = .ok (.iconst (-1), 1) := by decide +kernel
theorem dX3_lay_73 : decode cX3_lay 73 = .ok (.iastore, 1) := by decide +kernel
theorem dX3_lay_74 : decode cX3_lay 74 = .ok (.aload_n 0, 1) := by decide +kernel
theorem dX3_lay_75 : decode cX3_lay 75 = .ok (.getfield 9, 3) := by decide +kernel
theorem dX3_lay_78 : decode cX3_lay 78 = .ok (.iload_n 3, 1) := by decide +kernel
theorem dX3_lay_79 : decode cX3_lay 79 = .ok (.iconst 4, 1) := by decide +kernel
theorem dX3_lay_80 : decode cX3_lay 80 = .ok (.imul, 1) := by decide +kernel
theorem dX3_lay_81 : decode cX3_lay 81 = .ok (.iconst 1, 1) := by decide +kernel
theorem dX3_lay_82 : decode cX3_lay 82 = .ok (.iadd, 1) := by decide +kernel
theorem dX3_lay_83 : decode cX3_lay 83 = .ok (.iload 5, 2) := by decide +kernel
theorem dX3_lay_85 : decode cX3_lay 85 = .ok (.ifCond .le 9, 3) := by decide +kernel
theorem dX3_lay_88 : decode cX3_lay 88 = .ok (.iload_n 3, 1) := by decide +kernel
theorem dX3_lay_89 : decode cX3_lay 89 = .ok (.iconst 1, 1) := by decide +kernel
theorem dX3_lay_90 : decode cX3_lay 90 = .ok (.isub, 1) := by decide +kernel
theorem dX3_lay_91 : decode cX3_lay 91 = .ok (.goto 4, 3) := by decide +kernel
theorem dX3_lay_94 : decode cX3_lay 94 = .ok (.iconst (-1), 1) := by decide +kernel
theorem dX3_lay_95 : decode cX3_lay 95 = .ok (.iastore, 1) := by decide +kernel
theorem dX3_lay_96 : decode cX3_lay 96 = .ok (.aload_n 0, 1) := by decide +kernel
theorem dX3_lay_97 : decode cX3_lay 97 = .ok (.getfield 9, 3) := by decide +kernel
theorem dX3_lay_100 : decode cX3_lay 100 = .ok (.iload_n 3, 1) := by decide +kernel
theorem dX3_lay_101 : decode cX3_lay 101 = .ok (.iconst 4, 1) := by decide +kernel
theorem dX3_lay_102 : decode cX3_lay 102 = .ok (.imul, 1) := by decide +kernel
theorem dX3_lay_103 : decode cX3_lay 103 = .ok (.iconst 2, 1) := by decide +kernel
theorem dX3_lay_104 : decode cX3_lay 104 = .ok (.iadd, 1) := by decide +kernel
theorem dX3_lay_105 : decode cX3_lay 105 = .ok (.iload 4, 2) := by decide +kernel
theorem dX3_lay_107 : decode cX3_lay 107 = .ok (.iconst 1, 1) := by decide +kernel
theorem dX3_lay_108 : decode cX3_lay 108 = .ok (.iadd, 1) := by decide +kernel
theorem dX3_lay_109 : decode cX3_lay 109 = .ok (.iload_n 2, 1) := by decide +kernel
theorem dX3_lay_110 : decode cX3_lay 110 = .ok (.if_icmp .ge 9, 3) := by decide +kernel
theorem dX3_lay_113 : decode cX3_lay 113 = .ok (.iload_n 3, 1) := by decide +kernel
theorem dX3_lay_114 : decode cX3_lay 114 = .ok (.iload_n 1, 1) := by decide +kernel
theorem dX3_lay_115 : decode cX3_lay 115 = .ok (.iadd, 1) := by decide +kernel
theorem dX3_lay_116 : decode cX3_lay 116 = .ok (.goto 4, 3) := by decide +kernel
theorem dX3_lay_119 : decode cX3_lay 119 = .ok (.iconst (-1), 1) := by decide +kernel
theorem dX3_lay_120 : decode cX3_lay 120 = .ok (.iastore, 1) := by decide +kernel
theorem dX3_lay_121 : decode cX3_lay 121 = .ok (.aload_n 0, 1) := by decide +kernel
theorem dX3_lay_122 : decode cX3_lay 122 = .ok (.getfield 9, 3) := by decide +kernel
theorem dX3_lay_125 : decode cX3_lay 125 = .ok (.iload_n 3, 1) := by decide +kernel
theorem dX3_lay_126 : decode cX3_lay 126 = .ok (.iconst 4, 1) := by decide +kernel
theorem dX3_lay_127 : decode cX3_lay 127 = .ok (.imul, 1) := by decide +kernel
theorem dX3_lay_128 : decode cX3_lay 128 = .ok (.iconst 3, 1) := by decide +kernel
theorem dX3_lay_129 : decode cX3_lay 129 = .ok (.iadd, 1) := by decide +kernel
theorem dX3_lay_130 : decode cX3_lay 130 = .ok (.iload 4, 2) := by decide +kernel
theorem dX3_lay_132 : decode cX3_lay 132 = .ok (.ifCond .le 9, 3) := by decide +kernel
theorem dX3_lay_135 : decode cX3_lay 135 = .ok (.iload_n 3, 1) := by decide +kernel
theorem dX3_lay_136 : decode cX3_lay 136 = .ok (.iload_n 1, 1) := by decide +kernel
theorem dX3_lay_137 : decode cX3_lay 137 = .ok (.isub, 1) := by decide +kernel
theorem dX3_lay_138 : decode cX3_lay 138 = .ok (.goto 4, 3) := by decide +kernel
theorem dX3_lay_141 : decode cX3_lay 141 = .ok (.iconst (-1), 1) := by decide +kernel
theorem dX3_lay_142 : decode cX3_lay 142 = .ok (.iastore, 1) := by decide +kernel
theorem dX3_lay_143 : decode cX3_lay 143 = .ok (.iinc 3 1, 3) := by decide +kernel
theorem dX3_lay_146 : decode cX3_lay 146 = .ok (.iinc 5 1, 3) := by decide +kernel
theorem dX3_lay_149 : decode cX3_lay 149 = .ok (.goto (-128), 3) := by decide +kernel
theorem dX3_lay_152 : decode cX3_lay 152 = .ok (.iinc 4 1, 3) := by decide +kernel
theorem dX3_lay_155 : decode cX3_lay 155 = .ok (.goto (-143), 3) := by decide +kernel
theorem dX3_lay_158 : decode cX3_lay 158 = .ok (.iconst 0, 1) := by decide +kernel
theorem dX3_lay_159 : decode cX3_lay 159 = .ok (.istore 4, 2) := by decide +kernel
theorem dX3_lay_161 : decode cX3_lay 161 = .ok (.iload 4, 2) := by decide +kernel
theorem dX3_lay_163 : decode cX3_lay 163 = .ok (.bipush 64, 2) := by decide +kernel
theorem dX3_lay_165 : decode cX3_lay 165 = .ok (.if_icmp .ge 17, 3) := by decide +kernel
theorem dX3_lay_168 : decode cX3_lay 168 = .ok (.aload_n 0, 1) := by decide +kernel
theorem dX3_lay_169 : decode cX3_lay 169 = .ok (.getfield 15, 3) := by decide +kernel
theorem dX3_lay_172 : decode cX3_lay 172 = .ok (.iload 4, 2) := by decide +kernel
theorem dX3_lay_174 : decode cX3_lay 174 = .ok (.iconst 0, 1) := by decide +kernel
theorem dX3_lay_175 : decode cX3_lay 175 = .ok (.bastore, 1) := by decide +kernel
theorem dX3_lay_176 : decode cX3_lay 176 = .ok (.iinc 4 1, 3) := by decide +kernel
theorem dX3_lay_179 : decode cX3_lay 179 = .ok (.goto (-18), 3) := by decide +kernel
theorem dX3_lay_182 : decode cX3_lay 182 = .ok (.return_, 1) := by decide +kernel
theorem dX3_setFailed_0 : decode cX3_setFailed 0 = .ok (.aload_n 0, 1) := by decide +kernel
theorem dX3_setFailed_1 : decode cX3_setFailed 1 = .ok (.getfield 9, 3) := by decide +kernel
theorem dX3_setFailed_4 : decode cX3_setFailed 4 = .ok (.iload_n 1, 1) := by decide +kernel
theorem dX3_setFailed_5 : decode cX3_setFailed 5 = .ok (.iconst 4, 1) := by decide +kernel
theorem dX3_setFailed_6 : decode cX3_setFailed 6 = .ok (.imul, 1) := by decide +kernel
theorem dX3_setFailed_7 : decode cX3_setFailed 7 = .ok (.iload_n 2, 1) := by decide +kernel
theorem dX3_setFailed_8 : decode cX3_setFailed 8 = .ok (.iadd, 1) := by decide +kernel
theorem dX3_setFailed_9 : decode cX3_setFailed 9 = .ok (.iaload, 1) := by decide +kernel
theorem dX3_setFailed_10 : decode cX3_setFailed 10 = .ok (.istore 4, 2) := by decide +kernel
theorem dX3_setFailed_12 : decode cX3_setFailed 12 = .ok (.aload_n 0, 1) := by decide +kernel
theorem dX3_setFailed_13 : decode cX3_setFailed 13 = .ok (.getfield 15, 3) := by decide +kernel
theorem dX3_setFailed_16 : decode cX3_setFailed 16 = .ok (.iload_n 1, 1) := by decide +kernel
theorem dX3_setFailed_17 : decode cX3_setFailed 17 = .ok (.iconst 4, 1) := by decide +kernel
theorem dX3_setFailed_18 : decode cX3_setFailed 18 = .ok (.imul, 1) := by decide +kernel
theorem dX3_setFailed_19 : decode cX3_setFailed 19 = .ok (.iload_n 2, 1) := by decide +kernel
theorem dX3_setFailed_20 : decode cX3_setFailed 20 = .ok (.iadd, 1) := by decide +kernel
theorem dX3_setFailed_21 : decode cX3_setFailed 21 = .ok (.iload_n 3, 1) := by decide +kernel
theorem dX3_setFailed_22 : decode cX3_setFailed 22 = .ok (.bastore, 1) := by decide +kernel
theorem dX3_setFailed_23 : decode cX3_setFailed 23 = .ok (.aload_n 0, 1) := by decide +kernel
theorem dX3_setFailed_24 : decode cX3_setFailed 24 = .ok (.iload 4, 2) := by decide +kernel
theorem dX3_setFailed_26 : decode cX3_setFailed 26 = .ok (.invokevirtual 29, 3) := by decide +kernel
theorem dX3_setFailed_29 : decode cX3_setFailed 29 = .ok (.ifCond .eq 19, 3) := by decide +kernel
theorem dX3_setFailed_32 : decode cX3_setFailed 32 = .ok (.aload_n 0, 1) := by decide +kernel
theorem dX3_setFailed_33 : decode cX3_setFailed 33 = .ok (.getfield 15, 3) := by decide +kernel
theorem dX3_setFailed_36 : decode cX3_setFailed 36 = .ok (.iload 4, 2) := by decide +kernel
theorem dX3_setFailed_38 : decode cX3_setFailed 38 = .ok (.iconst 4, 1) := by decide +kernel
theorem dX3_setFailed_39 : decode cX3_setFailed 39 = .ok (.imul, 1) := by decide +kernel
theorem dX3_setFailed_40 : decode cX3_setFailed 40 = .ok (.aload_n 0, 1) := by decide +kernel
theorem dX3_setFailed_41 : decode cX3_setFailed 41 = .ok (.iload_n 2, 1) := by decide +kernel
theorem dX3_setFailed_42 : decode cX3_setFailed 42 = .ok (.invokevirtual 33, 3) := by decide +kernel
theorem dX3_setFailed_45 : decode cX3_setFailed 45 = .ok (.iadd, 1) := by decide +kernel
theorem dX3_setFailed_46 : decode cX3_setFailed 46 = .ok (.iload_n 3, 1) := by decide +kernel
theorem dX3_setFailed_47 : decode cX3_setFailed 47 = .ok (.bastore, 1) := by decide +kernel
theorem dX3_setFailed_48 : decode cX3_setFailed 48 = .ok (.return_, 1) := by decide +kernel
theorem dX4_wasDelivered_0 : decode cX4_wasDelivered 0 = .ok (.aload_n 0, 1) := by decide +kernel
theorem dX4_wasDelivered_1 : decode cX4_wasDelivered 1 = .ok (.getfield 23, 3) := by decide +kernel
theorem dX4_wasDelivered_4 : decode cX4_wasDelivered 4 = .ok (.bipush 100, 2) := by decide +kernel
theorem dX4_wasDelivered_6 : decode cX4_wasDelivered 6 = .ok (.if_icmp .eq 12, 3) := by decide +kernel
theorem dX4_wasDelivered_9 : decode cX4_wasDelivered 9 = .ok (.aload_n 0, 1) := by decide +kernel
theorem dX4_wasDelivered_10 : decode cX4_wasDelivered 10 = .ok (.getfield 23, 3) := by decide +kernel
theorem dX4_wasDelivered_13 : decode cX4_wasDelivered 13 = .ok (.bipush 114, 2) := by decide +kernel
theorem dX4_wasDelivered_15 : decode cX4_wasDelivered 15 = .ok (.if_icmp .ne 7, 3) := by decide +kernel
theorem dX4_wasDelivered_18 : decode cX4_wasDelivered 18 = .ok (.iconst 1, 1) := by decide +kernel
theorem dX4_wasDelivered_19 : decode cX4_wasDelivered 19 = .ok (.goto 4, 3) := by decide +kernel
theorem dX4_wasDelivered_22 : decode cX4_wasDelivered 22 = .ok (.iconst 0, 1) := by decide +kernel
theorem dX4_wasDelivered_23 : decode cX4_wasDelivered 23 = .ok (.ireturn, 1) := by decide +kernel
theorem dX4_piecesInRows_0 : decode cX4_piecesInRows 0 = .ok (.aload_n 0, 1) := by decide +kernel
theorem dX4_piecesInRows_1 : decode cX4_piecesInRows 1 = .ok (.getfield 23, 3) := by decide +kernel
theorem dX4_piecesInRows_4 : decode cX4_piecesInRows 4 = .ok (.bipush 108, 2) := by decide +kernel
theorem dX4_piecesInRows_6 : decode cX4_piecesInRows 6 = .ok (.if_icmp .ne 7, 3) := by decide +kernel
theorem dX4_piecesInRows_9 : decode cX4_piecesInRows 9 = .ok (.iconst 0, 1) := by decide +kernel
theorem dX4_piecesInRows_10 : decode cX4_piecesInRows 10 = .ok (.goto 12, 3) := by decide +kernel
theorem dX4_piecesInRows_13 : decode cX4_piecesInRows 13 = .ok (.aload_n 0, 1) := by decide +kernel
theorem dX4_piecesInRows_14 : decode cX4_piecesInRows 14 = .ok (.getfield 20, 3) := by decide +kernel
theorem dX4_piecesInRows_17 : decode cX4_piecesInRows 17 = .ok (.aload_n 0, 1) := by decide +kernel
theorem dX4_piecesInRows_18 : decode cX4_piecesInRows 18 = .ok (.getfield 26, 3) := by decide +kernel
theorem dX4_piecesInRows_21 : decode cX4_piecesInRows 21 = .ok (.isub, 1) := by decide +kernel
theorem dX4_piecesInRows_22 : decode cX4_piecesInRows 22 = .ok (.ireturn, 1) := by decide +kernel
theorem dX4_beatsTaken_0 : decode cX4_beatsTaken 0 = .ok (.aload_n 0, 1) := by decide +kernel
theorem dX4_beatsTaken_1 : decode cX4_beatsTaken 1 = .ok (.getfield 29, 3) := by decide +kernel
theorem dX4_beatsTaken_4 : decode cX4_beatsTaken 4 = .ok (.aload_n 0, 1) := by decide +kernel
theorem dX4_beatsTaken_5 : decode cX4_beatsTaken 5 = .ok (.getfield 32, 3) := by decide +kernel
theorem dX4_beatsTaken_8 : decode cX4_beatsTaken 8 = .ok (.isub, 1) := by decide +kernel
theorem dX4_beatsTaken_9 : decode cX4_beatsTaken 9 = .ok (.ireturn, 1) := by decide +kernel
theorem dX5_reset_0 : decode cX5_reset 0 = .ok (.aload_n 0, 1) := by decide +kernel
theorem dX5_reset_1 : decode cX5_reset 1 = .ok (.iconst 0, 1) := by decide +kernel
theorem dX5_reset_2 : decode cX5_reset 2 = .ok (.putfield 22, 3) := by decide +kernel
theorem dX5_reset_5 : decode cX5_reset 5 = .ok (.iconst 0, 1) := by decide +kernel
theorem dX5_reset_6 : decode cX5_reset 6 = .ok (.istore_n 1, 1) := by decide +kernel
theorem dX5_reset_7 : decode cX5_reset 7 = .ok (.iload_n 1, 1) := by decide +kernel
theorem dX5_reset_8 : decode cX5_reset 8 = .ok (.aload_n 0, 1) := by decide +kernel
theorem dX5_reset_9 : decode cX5_reset 9 = .ok (.getfield 15, 3) := by decide +kernel
theorem dX5_reset_12 : decode cX5_reset 12 = .ok (.arraylength, 1) := by decide +kernel
theorem dX5_reset_13 : decode cX5_reset 13 = .ok (.if_icmp .ge 16, 3) := by decide +kernel
theorem dX5_reset_16 : decode cX5_reset 16 = .ok (.aload_n 0, 1) := by decide +kernel
theorem dX5_reset_17 : decode cX5_reset 17 = .ok (.getfield 15, 3) := by decide +kernel
theorem dX5_reset_20 : decode cX5_reset 20 = .ok (.iload_n 1, 1) := by decide +kernel
theorem dX5_reset_21 : decode cX5_reset 21 = .ok (.iconst 0, 1) := by decide +kernel
theorem dX5_reset_22 : decode cX5_reset 22 = .ok (.iastore, 1) := by decide +kernel
theorem dX5_reset_23 : decode cX5_reset 23 = .ok (.iinc 1 1, 3) := by decide +kernel
theorem dX5_reset_26 : decode cX5_reset 26 = .ok (.goto (-19), 3) := by decide +kernel
theorem dX5_reset_29 : decode cX5_reset 29 = .ok (.return_, 1) := by decide +kernel
theorem dX5_addTask_0 : decode cX5_addTask 0 = .ok (.aload_n 0, 1) := by decide +kernel
theorem dX5_addTask_1 : decode cX5_addTask 1 = .ok (.getfield 22, 3) := by decide +kernel
theorem dX5_addTask_4 : decode cX5_addTask 4 = .ok (.bipush 8, 2) := by decide +kernel
theorem dX5_addTask_6 : decode cX5_addTask 6 = .ok (.if_icmp .lt 5, 3) := by decide +kernel
theorem dX5_addTask_9 : decode cX5_addTask 9 = .ok (.iconst (-1), 1) := by decide +kernel
theorem dX5_addTask_10 : decode cX5_addTask 10 = .ok (.ireturn, 1) := by decide +kernel
theorem dX5_addTask_11 : decode cX5_addTask 11 = .ok (.aload_n 0, 1) := by decide +kernel
theorem dX5_addTask_12 : decode cX5_addTask 12 = .ok (.getfield 9, 3) := by decide +kernel
theorem dX5_addTask_15 : decode cX5_addTask 15 = .ok (.aload_n 0, 1) := by decide +kernel
theorem dX5_addTask_16 : decode cX5_addTask 16 = .ok (.getfield 22, 3) := by decide +kernel
theorem dX5_addTask_19 : decode cX5_addTask 19 = .ok (.iload_n 1, 1) := by decide +kernel
theorem dX5_addTask_20 : decode cX5_addTask 20 = .ok (.iastore, 1) := by decide +kernel
theorem dX5_addTask_21 : decode cX5_addTask 21 = .ok (.aload_n 0, 1) := by decide +kernel
theorem dX5_addTask_22 : decode cX5_addTask 22 = .ok (.dup, 1) := by decide +kernel
theorem dX5_addTask_23 : decode cX5_addTask 23 = .ok (.getfield 22, 3) := by decide +kernel
theorem dX5_addTask_26 : decode cX5_addTask 26 = .ok (.iconst 1, 1) := by decide +kernel
theorem dX5_addTask_27 : decode cX5_addTask 27 = .ok (.iadd, 1) := by decide +kernel
theorem dX5_addTask_28 : decode cX5_addTask 28 = .ok (.putfield 22, 3) := by decide +kernel
theorem dX5_addTask_31 : decode cX5_addTask 31 = .ok (.aload_n 0, 1) := by decide +kernel
theorem dX5_addTask_32 : decode cX5_addTask 32 = .ok (.getfield 22, 3) := by decide +kernel
theorem dX5_addTask_35 : decode cX5_addTask 35 = .ok (.iconst 1, 1) := by decide +kernel
theorem dX5_addTask_36 : decode cX5_addTask 36 = .ok (.isub, 1) := by decide +kernel
theorem dX5_addTask_37 : decode cX5_addTask 37 = .ok (.ireturn, 1) := by decide +kernel
theorem dX5_setTraffic_0 : decode cX5_setTraffic 0 = .ok (.aload_n 0, 1) := by decide +kernel
theorem dX5_setTraffic_1 : decode cX5_setTraffic 1 = .ok (.getfield 15, 3) := by decide +kernel
theorem dX5_setTraffic_4 : decode cX5_setTraffic 4 = .ok (.iload_n 1, 1) := by decide +kernel
theorem dX5_setTraffic_5 : decode cX5_setTraffic 5 = .ok (.bipush 8, 2) := by decide +kernel
theorem dX5_setTraffic_7 : decode cX5_setTraffic 7 = .ok (.imul, 1) := by decide +kernel
theorem dX5_setTraffic_8 : decode cX5_setTraffic 8 = .ok (.iload_n 2, 1) := by decide +kernel
theorem dX5_setTraffic_9 : decode cX5_setTraffic 9 = .ok (.iadd, 1) := by decide +kernel
theorem dX5_setTraffic_10 : decode cX5_setTraffic 10 = .ok (.iaload, 1) := by decide +kernel
theorem dX5_setTraffic_11 : decode cX5_setTraffic 11 = .ok (.istore 4, 2) := by decide +kernel
theorem dX5_setTraffic_13 : decode cX5_setTraffic 13 = .ok (.aload_n 0, 1) := by decide +kernel
theorem dX5_setTraffic_14 : decode cX5_setTraffic 14 = .ok (.getfield 15, 3) := by decide +kernel
theorem dX5_setTraffic_17 : decode cX5_setTraffic 17 = .ok (.iload_n 1, 1) := by decide +kernel
theorem dX5_setTraffic_18 : decode cX5_setTraffic 18 = .ok (.bipush 8, 2) := by decide +kernel
theorem dX5_setTraffic_20 : decode cX5_setTraffic 20 = .ok (.imul, 1) := by decide +kernel
theorem dX5_setTraffic_21 : decode cX5_setTraffic 21 = .ok (.iload_n 2, 1) := by decide +kernel
theorem dX5_setTraffic_22 : decode cX5_setTraffic 22 = .ok (.iadd, 1) := by decide +kernel
theorem dX5_setTraffic_23 : decode cX5_setTraffic 23 = .ok (.iload_n 3, 1) := by decide +kernel
theorem dX5_setTraffic_24 : decode cX5_setTraffic 24 = .ok (.iastore, 1) := by decide +kernel
theorem dX5_setTraffic_25 : decode cX5_setTraffic 25 = .ok (.aload_n 0, 1) := by decide +kernel
theorem dX5_setTraffic_26 : decode cX5_setTraffic 26 = .ok (.getfield 15, 3) := by decide +kernel
theorem dX5_setTraffic_29 : decode cX5_setTraffic 29 = .ok (.iload_n 2, 1) := by decide +kernel
theorem dX5_setTraffic_30 : decode cX5_setTraffic 30 = .ok (.bipush 8, 2) := by decide +kernel
theorem dX5_setTraffic_32 : decode cX5_setTraffic 32 = .ok (.imul, 1) := by decide +kernel
theorem dX5_setTraffic_33 : decode cX5_setTraffic 33 = .ok (.iload_n 1, 1) := by decide +kernel
theorem dX5_setTraffic_34 : decode cX5_setTraffic 34 = .ok (.iadd, 1) := by decide +kernel
theorem dX5_setTraffic_35 : decode cX5_setTraffic 35 = .ok (.iload_n 3, 1) := by decide +kernel
theorem dX5_setTraffic_36 : decode cX5_setTraffic 36 = .ok (.iastore, 1) := by decide +kernel
theorem dX5_setTraffic_37 : decode cX5_setTraffic 37 = .ok (.iload 4, 2) := by decide +kernel
theorem dX5_setTraffic_39 : decode cX5_setTraffic 39 = .ok (.ireturn, 1) := by decide +kernel
theorem dX5_countCost_0 : decode cX5_countCost 0 = .ok (.iconst 0, 1) := by decide +kernel
theorem dX5_countCost_1 : decode cX5_countCost 1 = .ok (.istore_n 1, 1) := by decide +kernel
theorem dX5_countCost_2 : decode cX5_countCost 2 = .ok (.iconst 0, 1) := by decide +kernel
theorem dX5_countCost_3 : decode cX5_countCost 3 = .ok (.istore_n 2, 1) := by decide +kernel
theorem dX5_countCost_4 : decode cX5_countCost 4 = .ok (.iload_n 2, 1) := by decide +kernel
theorem dX5_countCost_5 : decode cX5_countCost 5 = .ok (.aload_n 0, 1) := by decide +kernel
theorem dX5_countCost_6 : decode cX5_countCost 6 = .ok (.getfield 22, 3) := by decide +kernel
theorem dX5_countCost_9 : decode cX5_countCost 9 = .ok (.if_icmp .ge 61, 3) := by decide +kernel
theorem dX5_countCost_12 : decode cX5_countCost 12 = .ok (.iload_n 2, 1) := by decide +kernel
theorem dX5_countCost_13 : decode cX5_countCost 13 = .ok (.iconst 1, 1) := by decide +kernel
theorem dX5_countCost_14 : decode cX5_countCost 14 = .ok (.iadd, 1) := by decide +kernel
theorem dX5_countCost_15 : decode cX5_countCost 15 = .ok (.istore_n 3, 1) := by decide +kernel
theorem dX5_countCost_16 : decode cX5_countCost 16 = .ok (.iload_n 3, 1) := by decide +kernel
theorem dX5_countCost_17 : decode cX5_countCost 17 = .ok (.aload_n 0, 1) := by decide +kernel
theorem dX5_countCost_18 : decode cX5_countCost 18 = .ok (.getfield 22, 3) := by decide +kernel
theorem dX5_countCost_21 : decode cX5_countCost 21 = .ok (.if_icmp .ge 43, 3) := by decide +kernel
theorem dX5_countCost_24 : decode cX5_countCost 24 = .ok (.iload_n 1, 1) := by decide +kernel
theorem dX5_countCost_25 : decode cX5_countCost 25 = .ok (.aload_n 0, 1) := by decide +kernel
theorem dX5_countCost_26 : decode cX5_countCost 26 = .ok (.getfield 15, 3) := by decide +kernel
theorem dX5_countCost_29 : decode cX5_countCost 29 = .ok (.iload_n 2, 1) := by decide +kernel
theorem dX5_countCost_30 : decode cX5_countCost 30 = .ok (.bipush 8, 2) := by decide +kernel
theorem dX5_countCost_32 : decode cX5_countCost 32 = .ok (.imul, 1) := by decide +kernel
theorem dX5_countCost_33 : decode cX5_countCost 33 = .ok (.iload_n 3, 1) := by decide +kernel
theorem dX5_countCost_34 : decode cX5_countCost 34 = .ok (.iadd, 1) := by decide +kernel
theorem dX5_countCost_35 : decode cX5_countCost 35 = .ok (.iaload, 1) := by decide +kernel
theorem dX5_countCost_36 : decode cX5_countCost 36 = .ok (.aload_n 0, 1) := by decide +kernel
theorem dX5_countCost_37 : decode cX5_countCost 37 = .ok (.getfield 18, 3) := by decide +kernel
theorem dX5_countCost_40 : decode cX5_countCost 40 = .ok (.aload_n 0, 1) := by decide +kernel
theorem dX5_countCost_41 : decode cX5_countCost 41 = .ok (.getfield 9, 3) := by decide +kernel
theorem dX5_countCost_44 : decode cX5_countCost 44 = .ok (.iload_n 2, 1) := by decide +kernel
theorem dX5_countCost_45 : decode cX5_countCost 45 = .ok (.iaload, 1) := by decide +kernel
theorem dX5_countCost_46 : decode cX5_countCost 46 = .ok (.aload_n 0, 1) := by decide +kernel
theorem dX5_countCost_47 : decode cX5_countCost 47 = .ok (.getfield 9, 3) := by decide +kernel
theorem dX5_countCost_50 : decode cX5_countCost 50 = .ok (.iload_n 3, 1) := by decide +kernel
theorem dX5_countCost_51 : decode cX5_countCost 51 = .ok (.iaload, 1) := by decide +kernel
theorem dX5_countCost_52 : decode cX5_countCost 52 = .ok (.invokevirtual 26, 3) := by decide +kernel
theorem dX5_countCost_55 : decode cX5_countCost 55 = .ok (.imul, 1) := by decide +kernel
theorem dX5_countCost_56 : decode cX5_countCost 56 = .ok (.iadd, 1) := by decide +kernel
theorem dX5_countCost_57 : decode cX5_countCost 57 = .ok (.istore_n 1, 1) := by decide +kernel
theorem dX5_countCost_58 : decode cX5_countCost 58 = .ok (.iinc 3 1, 3) := by decide +kernel
theorem dX5_countCost_61 : decode cX5_countCost 61 = .ok (.goto (-45), 3) := by decide +kernel
theorem dX5_countCost_64 : decode cX5_countCost 64 = .ok (.iinc 2 1, 3) := by decide +kernel
theorem dX5_countCost_67 : decode cX5_countCost 67 = .ok (.goto (-63), 3) := by decide +kernel
theorem dX5_countCost_70 : decode cX5_countCost 70 = .ok (.iload_n 1, 1) := by decide +kernel
theorem dX5_countCost_71 : decode cX5_countCost 71 = .ok (.ireturn, 1) := by decide +kernel
theorem dX5_exchange_0 : decode cX5_exchange 0 = .ok (.aload_n 0, 1) := by decide +kernel
theorem dX5_exchange_1 : decode cX5_exchange 1 = .ok (.getfield 9, 3) := by decide +kernel
theorem dX5_exchange_4 : decode cX5_exchange 4 = .ok (.iload_n 1, 1) := by decide +kernel
theorem dX5_exchange_5 : decode cX5_exchange 5 = .ok (.iaload, 1) := by decide +kernel
theorem dX5_exchange_6 : decode cX5_exchange 6 = .ok (.istore_n 3, 1) := by decide +kernel
theorem dX5_exchange_7 : decode cX5_exchange 7 = .ok (.aload_n 0, 1) := by decide +kernel
theorem dX5_exchange_8 : decode cX5_exchange 8 = .ok (.getfield 9, 3) := by decide +kernel
theorem dX5_exchange_11 : decode cX5_exchange 11 = .ok (.iload_n 1, 1) := by decide +kernel
theorem dX5_exchange_12 : decode cX5_exchange 12 = .ok (.aload_n 0, 1) := by decide +kernel
theorem dX5_exchange_13 : decode cX5_exchange 13 = .ok (.getfield 9, 3) := by decide +kernel
theorem dX5_exchange_16 : decode cX5_exchange 16 = .ok (.iload_n 2, 1) := by decide +kernel
theorem dX5_exchange_17 : decode cX5_exchange 17 = .ok (.iaload, 1) := by decide +kernel
theorem dX5_exchange_18 : decode cX5_exchange 18 = .ok (.iastore, 1) := by decide +kernel
theorem dX5_exchange_19 : decode cX5_exchange 19 = .ok (.aload_n 0, 1) := by decide +kernel
theorem dX5_exchange_20 : decode cX5_exchange 20 = .ok (.getfield 9, 3) := by decide +kernel
theorem dX5_exchange_23 : decode cX5_exchange 23 = .ok (.iload_n 2, 1) := by decide +kernel
theorem dX5_exchange_24 : decode cX5_exchange 24 = .ok (.iload_n 3, 1) := by decide +kernel
theorem dX5_exchange_25 : decode cX5_exchange 25 = .ok (.iastore, 1) := by decide +kernel
theorem dX5_exchange_26 : decode cX5_exchange 26 = .ok (.return_, 1) := by decide +kernel
theorem dX5_swapBest_0 : decode cX5_swapBest 0 = .ok (.aload_n 0, 1) := by decide +kernel
theorem dX5_swapBest_1 : decode cX5_swapBest 1 = .ok (.invokevirtual 32, 3) := by decide +kernel
theorem dX5_swapBest_4 : decode cX5_swapBest 4 = .ok (.istore_n 1, 1) := by decide +kernel
theorem dX5_swapBest_5 : decode cX5_swapBest 5 = .ok (.iconst 0, 1) := by decide +kernel
theorem dX5_swapBest_6 : decode cX5_swapBest 6 = .ok (.istore_n 2, 1) := by decide +kernel
theorem dX5_swapBest_7 : decode cX5_swapBest 7 = .ok (.iconst 0, 1) := by decide +kernel
theorem dX5_swapBest_8 : decode cX5_swapBest 8 = .ok (.istore_n 3, 1) := by decide +kernel
theorem dX5_swapBest_9 : decode cX5_swapBest 9 = .ok (.iconst 0, 1) := by decide +kernel
theorem dX5_swapBest_10 : decode cX5_swapBest 10 = .ok (.istore 4, 2) := by decide +kernel
theorem dX5_swapBest_12 : decode cX5_swapBest 12 = .ok (.iconst 0, 1) := by decide +kernel
theorem dX5_swapBest_13 : decode cX5_swapBest 13 = .ok (.istore 5, 2) := by decide +kernel
theorem dX5_swapBest_15 : decode cX5_swapBest 15 = .ok (.iload 5, 2) := by decide +kernel
theorem dX5_swapBest_17 : decode cX5_swapBest 17 = .ok (.aload_n 0, 1) := by decide +kernel
theorem dX5_swapBest_18 : decode cX5_swapBest 18 = .ok (.getfield 22, 3) := by decide +kernel
theorem dX5_swapBest_21 : decode cX5_swapBest 21 = .ok (.if_icmp .ge 70, 3) := by decide +kernel
theorem dX5_swapBest_24 : decode cX5_swapBest 24 = .ok (.iload 5, 2) := by decide +kernel
theorem dX5_swapBest_26 : decode cX5_swapBest 26 = .ok (.iconst 1, 1) := by decide +kernel
theorem dX5_swapBest_27 : decode cX5_swapBest 27 = .ok (.iadd, 1) := by decide +kernel
theorem dX5_swapBest_28 : decode cX5_swapBest 28 = .ok (.istore 6, 2) := by decide +kernel
theorem dX5_swapBest_30 : decode cX5_swapBest 30 = .ok (.iload 6, 2) := by decide +kernel
theorem dX5_swapBest_32 : decode cX5_swapBest 32 = .ok (.aload_n 0, 1) := by decide +kernel
theorem dX5_swapBest_33 : decode cX5_swapBest 33 = .ok (.getfield 22, 3) := by decide +kernel
theorem dX5_swapBest_36 : decode cX5_swapBest 36 = .ok (.if_icmp .ge 49, 3) := by decide +kernel
theorem dX5_swapBest_39 : decode cX5_swapBest 39 = .ok (.aload_n 0, 1) := by decide +kernel
theorem dX5_swapBest_40 : decode cX5_swapBest 40 = .ok (.iload 5, 2) := by decide +kernel
theorem dX5_swapBest_42 : decode cX5_swapBest 42 = .ok (.iload 6, 2) := by decide +kernel
theorem dX5_swapBest_44 : decode cX5_swapBest 44 = .ok (.invokevirtual 36, 3) := by decide +kernel
theorem dX5_swapBest_47 : decode cX5_swapBest 47 = .ok (.iload_n 1, 1) := by decide +kernel
theorem dX5_swapBest_48 : decode cX5_swapBest 48 = .ok (.aload_n 0, 1) := by decide +kernel
theorem dX5_swapBest_49 : decode cX5_swapBest 49 = .ok (.invokevirtual 32, 3) := by decide +kernel
theorem dX5_swapBest_52 : decode cX5_swapBest 52 = .ok (.isub, 1) := by decide +kernel
theorem dX5_swapBest_53 : decode cX5_swapBest 53 = .ok (.istore 7, 2) := by decide +kernel
theorem dX5_swapBest_55 : decode cX5_swapBest 55 = .ok (.aload_n 0, 1) := by decide +kernel
theorem dX5_swapBest_56 : decode cX5_swapBest 56 = .ok (.iload 5, 2) := by decide +kernel
theorem dX5_swapBest_58 : decode cX5_swapBest 58 = .ok (.iload 6, 2) := by decide +kernel
theorem dX5_swapBest_60 : decode cX5_swapBest 60 = .ok (.invokevirtual 36, 3) := by decide +kernel
theorem dX5_swapBest_63 : decode cX5_swapBest 63 = .ok (.iload 7, 2) := by decide +kernel
theorem dX5_swapBest_65 : decode cX5_swapBest 65 = .ok (.iload_n 2, 1) := by decide +kernel
theorem dX5_swapBest_66 : decode cX5_swapBest 66 = .ok (.if_icmp .le 13, 3) := by decide +kernel
theorem dX5_swapBest_69 : decode cX5_swapBest 69 = .ok (.iload 7, 2) := by decide +kernel
theorem dX5_swapBest_71 : decode cX5_swapBest 71 = .ok (.istore_n 2, 1) := by decide +kernel
theorem dX5_swapBest_72 : decode cX5_swapBest 72 = .ok (.iload 5, 2) := by decide +kernel
theorem dX5_swapBest_74 : decode cX5_swapBest 74 = .ok (.istore_n 3, 1) := by decide +kernel
theorem dX5_swapBest_75 : decode cX5_swapBest 75 = .ok (.iload 6, 2) := by decide +kernel
theorem dX5_swapBest_77 : decode cX5_swapBest 77 = .ok (.istore 4, 2) := by decide +kernel
theorem dX5_swapBest_79 : decode cX5_swapBest 79 = .ok (.iinc 6 1, 3) := by decide +kernel
theorem dX5_swapBest_82 : decode cX5_swapBest 82 = .ok (.goto (-52), 3) := by decide +kernel
theorem dX5_swapBest_85 : decode cX5_swapBest 85 = .ok (.iinc 5 1, 3) := by decide +kernel
theorem dX5_swapBest_88 : decode cX5_swapBest 88 = .ok (.goto (-73), 3) := by decide +kernel
theorem dX5_swapBest_91 : decode cX5_swapBest 91 = .ok (.aload_n 0, 1) := by decide +kernel
theorem dX5_swapBest_92 : decode cX5_swapBest 92 = .ok (.iload_n 3, 1) := by decide +kernel
theorem dX5_swapBest_93 : decode cX5_swapBest 93 = .ok (.iload 4, 2) := by decide +kernel
theorem dX5_swapBest_95 : decode cX5_swapBest 95 = .ok (.invokevirtual 36, 3) := by decide +kernel
theorem dX5_swapBest_98 : decode cX5_swapBest 98 = .ok (.iload_n 2, 1) := by decide +kernel
theorem dX5_swapBest_99 : decode cX5_swapBest 99 = .ok (.ireturn, 1) := by decide +kernel
def f_Mover_putPiece_b77 (μ : me_M) (v4 : Nat) (v5 : Nat) : Option (me_M × Unit) :=
  me_b2 (f_Row_addPiece μ v5 (μ 8 v4 0) (μ 8 v4 7) (μ 30 0 6)) (fun μ2 r1 =>
  me_lt (me_up μ2 8 v4 7 ((μ2 8 v4 7) + (1 : Int32))) (fun μ3 =>
  me_lt (me_up μ3 30 0 7 (1 : Int32)) (fun μ4 =>
  some (μ4, ()))))
set_option maxHeartbeats 4000000 in
set_option maxRecDepth 100000 in
theorem z_Mover_putPiece_b77 {X : me_X} {B : me_B} {sz : Nat} (C : me_C X B RX2 cX2_putPiece 6 none) {μ : me_M} {v4 : Nat} {v5 : Nat}   {r : me_M × Unit} (N : me_En X B sz (B, r.1, .ok (none)) 2 46 0 0) (hNx : me_Nx X) (hB : me_St B)   (hf : f_Mover_putPiece_b77 μ v4 v5 = some r) : me_Z X B 0 0 μ 77 [(0, me_r 30 0), (4, me_r 8 v4), (5, me_r 17 v5)] [] := by
  unfold f_Mover_putPiece_b77 at hf
  refine me_aload C (Or.inr (Or.inl ⟨_, rfl⟩)) dX2_putPiece_77 rfl ?_
  refine me_aload C (Or.inr (Or.inl ⟨_, rfl⟩)) dX2_putPiece_79 rfl ?_
  refine me_geti C 0 fg_Mover_145 dX2_putPiece_81 rfl ?_
  refine me_aload C (Or.inr (Or.inl ⟨_, rfl⟩)) dX2_putPiece_84 rfl ?_
  refine me_geti C 7 fg_Mover_213 dX2_putPiece_86 rfl ?_
  refine me_aload_n C 0 (Or.inr (Or.inl ⟨_, rfl⟩)) dX2_putPiece_89 rfl rfl ?_
  refine me_geti C 6 fg_Mover_39 dX2_putPiece_90 rfl ?_
  obtain ⟨μ2, r1, h_r1, hf⟩ := me_bs2 hf
  refine me_callV0 C N  (As := [me_i (μ 8 v4 0), me_i (μ 8 v4 7), me_i (μ 30 0 6)]) (st := []) 0 0 (c_Row_addPiece hB h_r1) mv_Row_addPiece ml_Mover_158 rfl rfl dX2_putPiece_93 rfl rfl ⟨by decide, by decide⟩ ⟨by decide, by decide, by decide, by decide⟩ (Nat.le_of_ble_eq_true rfl) ?_
  refine me_aload C (Or.inr (Or.inl ⟨_, rfl⟩)) dX2_putPiece_96 rfl ?_
  refine me_dup C rfl dX2_putPiece_98 ?_
  refine me_geti C 7 fg_Mover_213 dX2_putPiece_99 rfl ?_
  refine me_iconst C (v := 1) dX2_putPiece_102 (by decide) ?_
  refine me_iadd C dX2_putPiece_103 ?_
  obtain ⟨μ3, e_μ3, hf⟩ := me_lts hf
  refine me_puti C 7 fw_Mover_213 dX2_putPiece_104 rfl (me_nri _) e_μ3 ?_
  refine me_aload_n C 0 (Or.inr (Or.inl ⟨_, rfl⟩)) dX2_putPiece_107 rfl rfl ?_
  refine me_iconst C (v := 1) dX2_putPiece_108 (by decide) ?_
  obtain ⟨μ4, e_μ4, hf⟩ := me_lts hf
  refine me_puti C 7 fw_Mover_42 dX2_putPiece_109 rfl (by decide +kernel) e_μ4 ?_
  exact me_vret C N dX2_putPiece_112 (by cases hf; rfl) (by decide) (by decide)
def f_Mover_putPiece (μ : me_M) (v1 : Int32) (v2 : Int32) : Option (me_M × Unit) :=
  me_gd (me_inb v1 16) (
  me_b2 (f_Mover_firstToPut μ (me_ix v1) v1 v2) (fun μ3 r2 =>
  me_oq r2
  (some (μ3, ()))
  (fun r2i => if (μ3 13 (me_ix v1) 3) = 0 then
  (me_lt (me_up μ3 13 (me_ix v1) 4 (1 : Int32)) (fun μ11 =>
  some (μ11, ())))
  else
  (me_gd (me_inb ((v2 * (5 : Int32)) + (4 : Int32)) 10) (
  me_bd (f_Row_hasPlace μ3 (10 * (me_ix v1) + (me_ix ((v2 * (5 : Int32)) + (4 : Int32))))) (fun r6 =>
  if r6 = 0 then
  (some (μ3, ()))
  else
  (if (μ3 8 r2i 7) = 0 then
  (me_lt (me_up μ3 8 r2i 2 (119 : Int32)) (fun μ9 =>
  me_lt (me_up μ9 8 r2i 9 v1) (fun μ10 =>
  f_Mover_putPiece_b77 μ10 r2i (10 * (me_ix v1) + (me_ix ((v2 * (5 : Int32)) + (4 : Int32)))))))
  else
  (f_Mover_putPiece_b77 μ3 r2i (10 * (me_ix v1) + (me_ix ((v2 * (5 : Int32)) + (4 : Int32))))))))))))
set_option maxHeartbeats 4000000 in
set_option maxRecDepth 100000 in
theorem z_Mover_putPiece {X : me_X} {B : me_B} {sz : Nat} (C : me_C X B RX2 cX2_putPiece 6 none) {μ : me_M} {v1 : Int32} {v2 : Int32}   {r : me_M × Unit} (N : me_En X B sz (B, r.1, .ok (none)) 2 46 0 0) (hNx : me_Nx X) (hB : me_St B)   (hf : f_Mover_putPiece μ v1 v2 = some r) : me_Z X B 0 0 μ 0 [(0, me_r 30 0), (1, me_i v1), (2, me_i v2)] [] := by
  unfold f_Mover_putPiece at hf
  refine me_aload_n C 0 (Or.inr (Or.inl ⟨_, rfl⟩)) dX2_putPiece_0 rfl rfl ?_
  refine me_getr C hB 2 (k' := 12) (i' := 0) fg_Mover_26 dX2_putPiece_1 rfl rfl ?_
  refine me_iload_n C 1 dX2_putPiece_4 rfl rfl ?_
  obtain ⟨g1, hf⟩ := me_gs hf
  refine me_aald C hB (k' := 13) (i' := (me_ix v1)) rfl (fun _ => rfl) rfl g1 dX2_putPiece_5 rfl ?_
  refine me_astore_n C 3 (Or.inr (Or.inl ⟨_, rfl⟩)) dX2_putPiece_6 rfl (by decide) (L' := [(3, me_r 13 (me_ix v1)), (0, me_r 30 0), (1, me_i v1), (2, me_i v2)]) rfl ?_
  refine me_aload_n C 0 (Or.inr (Or.inl ⟨_, rfl⟩)) dX2_putPiece_7 rfl rfl ?_
  refine me_aload_n C 3 (Or.inr (Or.inl ⟨_, rfl⟩)) dX2_putPiece_8 rfl rfl ?_
  refine me_iload_n C 1 dX2_putPiece_9 rfl rfl ?_
  refine me_iload_n C 2 dX2_putPiece_10 rfl rfl ?_
  obtain ⟨μ3, r2, h_r2, hf⟩ := me_bs2 hf
  refine me_callV C N  (As := [me_r 13 (me_ix v1), me_i v1, me_i v2]) (st := []) 0 0 (c_Mover_firstToPut hB h_r2) mv_Mover_firstToPut ml_Mover_209 rfl rfl dX2_putPiece_11 rfl rfl ⟨by decide, by decide⟩ ⟨by decide, by decide, by decide, by decide⟩ (Nat.le_of_ble_eq_true rfl) ?_
  rcases r2 with _ | r2i
  · replace hf := me_oqn hf
    refine me_astore C (Or.inl rfl) dX2_putPiece_14 (by decide) (L' := [(4, me_n), (3, me_r 13 (me_ix v1)), (0, me_r 30 0), (1, me_i v1), (2, me_i v2)]) rfl ?_
    refine me_aload C (Or.inl rfl) dX2_putPiece_16 rfl ?_
    refine me_ifnonnull_n C dX2_putPiece_18 ?_
    exact me_vret C N dX2_putPiece_21 (by cases hf; rfl) (by decide) (by decide)
  · replace hf := me_oqs hf
    refine me_astore C (Or.inr (Or.inl ⟨_, rfl⟩)) dX2_putPiece_14 (by decide) (L' := [(4, me_r 8 r2i), (3, me_r 13 (me_ix v1)), (0, me_r 30 0), (1, me_i v1), (2, me_i v2)]) rfl ?_
    refine me_aload C (Or.inr (Or.inl ⟨_, rfl⟩)) dX2_putPiece_16 rfl ?_
    refine me_ifnonnull_r C (tgt := 22) dX2_putPiece_18 (by decide) ?_
    refine me_aload_n C 3 (Or.inr (Or.inl ⟨_, rfl⟩)) dX2_putPiece_22 rfl rfl ?_
    refine me_geti C 3 fg_Mover_56 dX2_putPiece_23 rfl ?_
    refine me_if_ne C (tgt := 35) dX2_putPiece_26 (by decide) (fun c4 => ?_) (fun c4 => ?_)
    · replace hf := me_in c4 hf
      refine me_aload_n C 3 (Or.inr (Or.inl ⟨_, rfl⟩)) dX2_putPiece_35 rfl rfl ?_
      refine me_getr C hB 0 (k' := 14) (i' := (me_ix v1)) fg_Mover_71 dX2_putPiece_36 rfl rfl ?_
      refine me_iload_n C 2 dX2_putPiece_39 rfl rfl ?_
      refine me_iconst C (v := 5) dX2_putPiece_40 (by decide) ?_
      refine me_imul C dX2_putPiece_41 ?_
      refine me_iconst C (v := 4) dX2_putPiece_42 (by decide) ?_
      refine me_iadd C dX2_putPiece_43 ?_
      obtain ⟨g5, hf⟩ := me_gs hf
      refine me_aald C hB (k' := 17) (i' := 10 * (me_ix v1) + (me_ix ((v2 * (5 : Int32)) + (4 : Int32)))) rfl (fun _ => rfl) rfl g5 dX2_putPiece_44 rfl ?_
      refine me_astore C (Or.inr (Or.inl ⟨_, rfl⟩)) dX2_putPiece_45 (by decide) (L' := [(5, me_r 17 (10 * (me_ix v1) + (me_ix ((v2 * (5 : Int32)) + (4 : Int32))))), (4, me_r 8 r2i), (3, me_r 13 (me_ix v1)), (0, me_r 30 0), (1, me_i v1), (2, me_i v2)]) rfl ?_
      refine me_aload C (Or.inr (Or.inl ⟨_, rfl⟩)) dX2_putPiece_47 rfl ?_
      obtain ⟨r6, h_r6, hf⟩ := me_bs hf
      refine me_callV C N  (As := []) (st := []) 0 0 (c_Row_hasPlace hB h_r6) mv_Row_hasPlace ml_Mover_138 rfl rfl dX2_putPiece_49 rfl rfl ⟨by decide, by decide⟩ ⟨by decide, by decide, by decide, by decide⟩ (Nat.le_of_ble_eq_true rfl) ?_
      refine me_if_ne C (tgt := 56) dX2_putPiece_52 (by decide) (fun c7 => ?_) (fun c7 => ?_)
      · replace hf := me_in c7 hf
        refine me_aload C (Or.inr (Or.inl ⟨_, rfl⟩)) dX2_putPiece_56 rfl ?_
        refine me_geti C 7 fg_Mover_213 dX2_putPiece_58 rfl ?_
        refine me_if_ne C (tgt := 77) dX2_putPiece_61 (by decide) (fun c8 => ?_) (fun c8 => ?_)
        · replace hf := me_in c8 hf
          refine me_dropI [(0, me_r 30 0), (4, me_r 8 r2i), (5, me_r 17 (10 * (me_ix v1) + (me_ix ((v2 * (5 : Int32)) + (4 : Int32)))))] [3, 1, 0] rfl ?_
          exact z_Mover_putPiece_b77 C N hNx hB hf
        · replace hf := me_ip c8 hf
          refine me_aload C (Or.inr (Or.inl ⟨_, rfl⟩)) dX2_putPiece_64 rfl ?_
          refine me_bipush C (v := 119) dX2_putPiece_66 (by decide) ?_
          obtain ⟨μ9, e_μ9, hf⟩ := me_lts hf
          refine me_puti C 2 fw_Mover_168 dX2_putPiece_68 rfl (by decide +kernel) e_μ9 ?_
          refine me_aload C (Or.inr (Or.inl ⟨_, rfl⟩)) dX2_putPiece_71 rfl ?_
          refine me_iload_n C 1 dX2_putPiece_73 rfl rfl ?_
          obtain ⟨μ10, e_μ10, hf⟩ := me_lts hf
          refine me_puti C 9 fw_Mover_148 dX2_putPiece_74 rfl (me_nri _) e_μ10 ?_
          refine me_dropI [(0, me_r 30 0), (4, me_r 8 r2i), (5, me_r 17 (10 * (me_ix v1) + (me_ix ((v2 * (5 : Int32)) + (4 : Int32)))))] [3, 1, 0] rfl ?_
          exact z_Mover_putPiece_b77 C N hNx hB hf
      · replace hf := me_ip c7 hf
        exact me_vret C N dX2_putPiece_55 (by cases hf; rfl) (by decide) (by decide)
    · replace hf := me_ip c4 hf
      refine me_aload_n C 3 (Or.inr (Or.inl ⟨_, rfl⟩)) dX2_putPiece_29 rfl rfl ?_
      refine me_iconst C (v := 1) dX2_putPiece_30 (by decide) ?_
      obtain ⟨μ11, e_μ11, hf⟩ := me_lts hf
      refine me_puti C 4 fw_Mover_51 dX2_putPiece_31 rfl (by decide +kernel) e_μ11 ?_
      exact me_vret C N dX2_putPiece_34 (by cases hf; rfl) (by decide) (by decide)
theorem c_Mover_putPiece {B : me_B} (hB : me_St B) {μ : me_M} {v1 : Int32} {v2 : Int32} {μ' : me_M} {r : Unit}  (hf : f_Mover_putPiece μ v1 v2 = some (μ', r)) : ∀ l E z, l.stackTraces = false → me_Met l yX2_putPiece cX2_putPiece 6 none 2 46 0 0 E B μ z [me_r 30 0, me_i v1, me_i v2] (B, μ', .ok (none)) :=
  fun _ _ _ hl => me_ofZ hl (by decide +kernel) (Nat.le_of_ble_eq_true rfl) (fun _ C N hNx => z_Mover_putPiece C N hNx hB  hf)

def f_Mover_putAll_b2 (K2 : me_M → Int32 → Option (me_M × Unit)) (μ : me_M) (v1 : Int32) : Option (me_M × Unit) :=
  if (μ 1 0 4) ≤ v1 then
  (some (μ, ()))
  else
  (me_b2 (f_Mover_putPiece μ v1 (1 : Int32)) (fun μ3 r2 =>
  me_b2 (f_Mover_putPiece μ3 v1 (0 : Int32)) (fun μ5 r4 =>
  me_lt (me_inc v1 (1)) (fun x6 =>
  K2 μ5 x6))))
set_option maxHeartbeats 4000000 in
set_option maxRecDepth 100000 in
theorem z_Mover_putAll_b2 {X : me_X} {B : me_B} {sz : Nat} (C : me_C X B RX2 cX2_putAll 2 none) {μ : me_M} {v1 : Int32}  {K2 : me_M → Int32 → Option (me_M × Unit)} {r : me_M × Unit} (N : me_En X B sz (B, r.1, .ok (none)) 3 71 0 0) (hNx : me_Nx X) (hB : me_St B) (hK2 : ∀ (μ : me_M) (v1 : Int32), K2 μ v1 = some r → me_Z X B 0 0 μ 2 [(0, me_r 30 0), (1, me_i v1)] [])  (hf : f_Mover_putAll_b2 K2 μ v1 = some r) : me_Z X B 0 0 μ 2 [(0, me_r 30 0), (1, me_i v1)] [] := by
  unfold f_Mover_putAll_b2 at hf
  refine me_iload_n C 1 dX2_putAll_2 rfl rfl ?_
  refine me_aload_n C 0 (Or.inr (Or.inl ⟨_, rfl⟩)) dX2_putAll_3 rfl rfl ?_
  refine me_getr C hB 0 (k' := 1) (i' := 0) fg_Mover_15 dX2_putAll_4 rfl rfl ?_
  refine me_geti C 4 fg_Mover_46 dX2_putAll_7 rfl ?_
  refine me_icmp_ge C (tgt := 31) dX2_putAll_10 (by decide) (fun c1 => ?_) (fun c1 => ?_)
  · replace hf := me_ip c1 hf
    exact me_vret C N dX2_putAll_31 (by cases hf; rfl) (by decide) (by decide)
  · replace hf := me_in c1 hf
    refine me_aload_n C 0 (Or.inr (Or.inl ⟨_, rfl⟩)) dX2_putAll_13 rfl rfl ?_
    refine me_iload_n C 1 dX2_putAll_14 rfl rfl ?_
    refine me_iconst C (v := 1) dX2_putAll_15 (by decide) ?_
    obtain ⟨μ3, r2, h_r2, hf⟩ := me_bs2 hf
    refine me_callV0 C N  (As := [me_i v1, me_i (1 : Int32)]) (st := []) 0 0 (c_Mover_putPiece hB h_r2) mv_Mover_putPiece ml_Mover_206 rfl rfl dX2_putAll_16 rfl rfl ⟨by decide, by decide⟩ ⟨by decide, by decide, by decide, by decide⟩ (Nat.le_of_ble_eq_true rfl) ?_
    refine me_aload_n C 0 (Or.inr (Or.inl ⟨_, rfl⟩)) dX2_putAll_19 rfl rfl ?_
    refine me_iload_n C 1 dX2_putAll_20 rfl rfl ?_
    refine me_iconst C (v := 0) dX2_putAll_21 (by decide) ?_
    obtain ⟨μ5, r4, h_r4, hf⟩ := me_bs2 hf
    refine me_callV0 C N  (As := [me_i v1, me_i (0 : Int32)]) (st := []) 0 0 (c_Mover_putPiece hB h_r4) mv_Mover_putPiece ml_Mover_206 rfl rfl dX2_putAll_22 rfl rfl ⟨by decide, by decide⟩ ⟨by decide, by decide, by decide, by decide⟩ (Nat.le_of_ble_eq_true rfl) ?_
    obtain ⟨x6, e_x6, hf⟩ := me_lts hf
    refine me_iinc C (v := x6) (L' := [(1, me_i x6), (0, me_r 30 0)]) dX2_putAll_25 rfl e_x6.symm (by decide) rfl ?_
    refine me_goto C (tgt := 2) dX2_putAll_28 (by decide) ?_
    refine me_dropI [(0, me_r 30 0), (1, me_i x6)] [1, 0] rfl ?_
    exact hK2 μ5 x6 hf
def f_Mover_putAll_h2  : Nat → me_M → Int32 → Option (me_M × Unit)
  | 0, _, _ => none
  | n + 1, μ, v1 => f_Mover_putAll_b2 (f_Mover_putAll_h2 n) μ v1
set_option maxHeartbeats 4000000 in
set_option maxRecDepth 100000 in
theorem z_Mover_putAll_h2 {X : me_X} {B : me_B} {sz : Nat} (C : me_C X B RX2 cX2_putAll 2 none)  {r : me_M × Unit} (N : me_En X B sz (B, r.1, .ok (none)) 3 71 0 0) (hNx : me_Nx X) (hB : me_St B)  : ∀ (n : Nat) (μ : me_M) (v1 : Int32), f_Mover_putAll_h2 n μ v1 = some r → me_Z X B 0 0 μ 2 [(0, me_r 30 0), (1, me_i v1)] [] := by
  intro n
  induction n with
  | zero => intro μ v1  h; exact absurd (show (none : Option (me_M × Unit)) = some r from h) (fun q => by cases q)
  | succ n ih => intro μ v1  h; exact z_Mover_putAll_b2 C N hNx hB  (K2 := f_Mover_putAll_h2 n) ih  h
def f_Mover_putAll (μ : me_M) : Option (me_M × Unit) :=
  f_Mover_putAll_h2 me_FU μ (0 : Int32)
set_option maxHeartbeats 4000000 in
set_option maxRecDepth 100000 in
theorem z_Mover_putAll {X : me_X} {B : me_B} {sz : Nat} (C : me_C X B RX2 cX2_putAll 2 none) {μ : me_M}    {r : me_M × Unit} (N : me_En X B sz (B, r.1, .ok (none)) 3 71 0 0) (hNx : me_Nx X) (hB : me_St B)   (hf : f_Mover_putAll μ = some r) : me_Z X B 0 0 μ 0 [(0, me_r 30 0)] [] := by
  unfold f_Mover_putAll at hf
  refine me_iconst C (v := 0) dX2_putAll_0 (by decide) ?_
  refine me_istore_n C 1 dX2_putAll_1 rfl (by decide) (L' := [(1, me_i (0 : Int32)), (0, me_r 30 0)]) rfl ?_
  refine me_dropI [(0, me_r 30 0), (1, me_i (0 : Int32))] [1, 0] rfl ?_
  exact z_Mover_putAll_h2 C N hNx hB me_FU μ (0 : Int32) hf
theorem c_Mover_putAll {B : me_B} (hB : me_St B) {μ : me_M}  {μ' : me_M} {r : Unit}  (hf : f_Mover_putAll μ = some (μ', r)) : ∀ l E z, l.stackTraces = false → me_Met l yX2_putAll cX2_putAll 2 none 3 71 0 0 E B μ z [me_r 30 0] (B, μ', .ok (none)) :=
  fun _ _ _ hl => me_ofZ hl (by decide +kernel) (Nat.le_of_ble_eq_true rfl) (fun _ C N hNx => z_Mover_putAll C N hNx hB  hf)

def f_Net_lay_b120 (K12 : me_M → Int32 → Int32 → Int32 → Int32 → Option (me_M × Unit)) (K21 : me_M → Int32 → Int32 → Int32 → Int32 → Int32 → Option (me_M × Unit)) (μ : me_M) (v1 : Int32) (v2 : Int32) (v3 : Int32) (v4 : Int32) (v5 : Int32) (s0 : Int32) (s1 : Int32) : Option (me_M × Unit) :=
  me_gd (me_inb s1 64) (
  me_lt (me_up μ 2 0 (me_ix s1) s0) (fun μ2 =>
  if v4 ≤ 0 then
  (me_gd (me_inb ((v3 * (4 : Int32)) + (3 : Int32)) 64) (
  me_lt (me_up μ2 2 0 (me_ix ((v3 * (4 : Int32)) + (3 : Int32))) (-1 : Int32)) (fun μ5 =>
  me_lt (me_inc v3 (1)) (fun x6 =>
  me_lt (me_inc v5 (1)) (fun x7 =>
  K21 μ5 v1 v2 x6 v4 x7)))))
  else
  (me_gd (me_inb ((v3 * (4 : Int32)) + (3 : Int32)) 64) (
  me_lt (me_up μ2 2 0 (me_ix ((v3 * (4 : Int32)) + (3 : Int32))) (v3 - v1)) (fun μ9 =>
  me_lt (me_inc v3 (1)) (fun x10 =>
  me_lt (me_inc v5 (1)) (fun x11 =>
  K21 μ9 v1 v2 x10 v4 x11)))))))
set_option maxHeartbeats 4000000 in
set_option maxRecDepth 100000 in
theorem z_Net_lay_b120 {X : me_X} {B : me_B} {sz : Nat} (C : me_C X B RX3 cX3_lay 6 none) {μ : me_M} {v1 : Int32} {v2 : Int32} {v3 : Int32} {v4 : Int32} {v5 : Int32} {s0 : Int32} {s1 : Int32}  {K12 : me_M → Int32 → Int32 → Int32 → Int32 → Option (me_M × Unit)} {K21 : me_M → Int32 → Int32 → Int32 → Int32 → Int32 → Option (me_M × Unit)} {r : me_M × Unit} (N : me_En X B sz (B, r.1, .ok (none)) 0 0 0 0) (hNx : me_Nx X) (hB : me_St B) (hK12 : ∀ (μ : me_M) (v1 : Int32) (v2 : Int32) (v3 : Int32) (v4 : Int32), K12 μ v1 v2 v3 v4 = some r → me_Z X B 0 0 μ 12 [(0, me_r 1 0), (1, me_i v1), (2, me_i v2), (3, me_i v3), (4, me_i v4)] []) (hK21 : ∀ (μ : me_M) (v1 : Int32) (v2 : Int32) (v3 : Int32) (v4 : Int32) (v5 : Int32), K21 μ v1 v2 v3 v4 v5 = some r → me_Z X B 0 0 μ 21 [(0, me_r 1 0), (1, me_i v1), (2, me_i v2), (3, me_i v3), (4, me_i v4), (5, me_i v5)] [])  (hf : f_Net_lay_b120 K12 K21 μ v1 v2 v3 v4 v5 s0 s1 = some r) : me_Z X B 0 0 μ 120 [(0, me_r 1 0), (1, me_i v1), (2, me_i v2), (3, me_i v3), (4, me_i v4), (5, me_i v5)] [me_i s0, me_i s1, me_r 2 0] := by
  unfold f_Net_lay_b120 at hf
  obtain ⟨g1, hf⟩ := me_gs hf
  obtain ⟨μ2, e_μ2, hf⟩ := me_lts hf
  refine me_iast C rfl (fun _ => rfl) g1 dX3_lay_120 e_μ2 ?_
  refine me_aload_n C 0 (Or.inr (Or.inl ⟨_, rfl⟩)) dX3_lay_121 rfl rfl ?_
  refine me_getr C hB 0 (k' := 2) (i' := 0) fg_Net_9 dX3_lay_122 rfl rfl ?_
  refine me_iload_n C 3 dX3_lay_125 rfl rfl ?_
  refine me_iconst C (v := 4) dX3_lay_126 (by decide) ?_
  refine me_imul C dX3_lay_127 ?_
  refine me_iconst C (v := 3) dX3_lay_128 (by decide) ?_
  refine me_iadd C dX3_lay_129 ?_
  refine me_iload C dX3_lay_130 rfl ?_
  refine me_if_le C (tgt := 141) dX3_lay_132 (by decide) (fun c3 => ?_) (fun c3 => ?_)
  · replace hf := me_ip c3 hf
    refine me_iconst C (v := -1) dX3_lay_141 (by decide) ?_
    obtain ⟨g4, hf⟩ := me_gs hf
    obtain ⟨μ5, e_μ5, hf⟩ := me_lts hf
    refine me_iast C rfl (fun _ => rfl) g4 dX3_lay_142 e_μ5 ?_
    obtain ⟨x6, e_x6, hf⟩ := me_lts hf
    refine me_iinc C (v := x6) (L' := [(3, me_i x6), (0, me_r 1 0), (1, me_i v1), (2, me_i v2), (4, me_i v4), (5, me_i v5)]) dX3_lay_143 rfl e_x6.symm (by decide) rfl ?_
    obtain ⟨x7, e_x7, hf⟩ := me_lts hf
    refine me_iinc C (v := x7) (L' := [(5, me_i x7), (3, me_i x6), (0, me_r 1 0), (1, me_i v1), (2, me_i v2), (4, me_i v4)]) dX3_lay_146 rfl e_x7.symm (by decide) rfl ?_
    refine me_goto C (tgt := 21) dX3_lay_149 (by decide) ?_
    refine me_dropI [(0, me_r 1 0), (1, me_i v1), (2, me_i v2), (3, me_i x6), (4, me_i v4), (5, me_i x7)] [2, 3, 4, 1, 5, 0] rfl ?_
    exact hK21 μ5 v1 v2 x6 v4 x7 hf
  · replace hf := me_in c3 hf
    refine me_iload_n C 3 dX3_lay_135 rfl rfl ?_
    refine me_iload_n C 1 dX3_lay_136 rfl rfl ?_
    refine me_isub C dX3_lay_137 ?_
    refine me_goto C (tgt := 142) dX3_lay_138 (by decide) ?_
    obtain ⟨g8, hf⟩ := me_gs hf
    obtain ⟨μ9, e_μ9, hf⟩ := me_lts hf
    refine me_iast C rfl (fun _ => rfl) g8 dX3_lay_142 e_μ9 ?_
    obtain ⟨x10, e_x10, hf⟩ := me_lts hf
    refine me_iinc C (v := x10) (L' := [(3, me_i x10), (0, me_r 1 0), (1, me_i v1), (2, me_i v2), (4, me_i v4), (5, me_i v5)]) dX3_lay_143 rfl e_x10.symm (by decide) rfl ?_
    obtain ⟨x11, e_x11, hf⟩ := me_lts hf
    refine me_iinc C (v := x11) (L' := [(5, me_i x11), (3, me_i x10), (0, me_r 1 0), (1, me_i v1), (2, me_i v2), (4, me_i v4)]) dX3_lay_146 rfl e_x11.symm (by decide) rfl ?_
    refine me_goto C (tgt := 21) dX3_lay_149 (by decide) ?_
    refine me_dropI [(0, me_r 1 0), (1, me_i v1), (2, me_i v2), (3, me_i x10), (4, me_i v4), (5, me_i x11)] [2, 3, 4, 1, 5, 0] rfl ?_
    exact hK21 μ9 v1 v2 x10 v4 x11 hf
def f_Net_lay_b95 (K12 : me_M → Int32 → Int32 → Int32 → Int32 → Option (me_M × Unit)) (K21 : me_M → Int32 → Int32 → Int32 → Int32 → Int32 → Option (me_M × Unit)) (μ : me_M) (v1 : Int32) (v2 : Int32) (v3 : Int32) (v4 : Int32) (v5 : Int32) (s0 : Int32) (s1 : Int32) : Option (me_M × Unit) :=
  me_gd (me_inb s1 64) (
  me_lt (me_up μ 2 0 (me_ix s1) s0) (fun μ2 =>
  if v2 ≤ (v4 + (1 : Int32)) then
  (f_Net_lay_b120 K12 K21 μ2 v1 v2 v3 v4 v5 (-1 : Int32) ((v3 * (4 : Int32)) + (2 : Int32)))
  else
  (f_Net_lay_b120 K12 K21 μ2 v1 v2 v3 v4 v5 (v3 + v1) ((v3 * (4 : Int32)) + (2 : Int32)))))
set_option maxHeartbeats 4000000 in
set_option maxRecDepth 100000 in
theorem z_Net_lay_b95 {X : me_X} {B : me_B} {sz : Nat} (C : me_C X B RX3 cX3_lay 6 none) {μ : me_M} {v1 : Int32} {v2 : Int32} {v3 : Int32} {v4 : Int32} {v5 : Int32} {s0 : Int32} {s1 : Int32}  {K12 : me_M → Int32 → Int32 → Int32 → Int32 → Option (me_M × Unit)} {K21 : me_M → Int32 → Int32 → Int32 → Int32 → Int32 → Option (me_M × Unit)} {r : me_M × Unit} (N : me_En X B sz (B, r.1, .ok (none)) 0 0 0 0) (hNx : me_Nx X) (hB : me_St B) (hK12 : ∀ (μ : me_M) (v1 : Int32) (v2 : Int32) (v3 : Int32) (v4 : Int32), K12 μ v1 v2 v3 v4 = some r → me_Z X B 0 0 μ 12 [(0, me_r 1 0), (1, me_i v1), (2, me_i v2), (3, me_i v3), (4, me_i v4)] []) (hK21 : ∀ (μ : me_M) (v1 : Int32) (v2 : Int32) (v3 : Int32) (v4 : Int32) (v5 : Int32), K21 μ v1 v2 v3 v4 v5 = some r → me_Z X B 0 0 μ 21 [(0, me_r 1 0), (1, me_i v1), (2, me_i v2), (3, me_i v3), (4, me_i v4), (5, me_i v5)] [])  (hf : f_Net_lay_b95 K12 K21 μ v1 v2 v3 v4 v5 s0 s1 = some r) : me_Z X B 0 0 μ 95 [(0, me_r 1 0), (1, me_i v1), (2, me_i v2), (3, me_i v3), (4, me_i v4), (5, me_i v5)] [me_i s0, me_i s1, me_r 2 0] := by
  unfold f_Net_lay_b95 at hf
  obtain ⟨g1, hf⟩ := me_gs hf
  obtain ⟨μ2, e_μ2, hf⟩ := me_lts hf
  refine me_iast C rfl (fun _ => rfl) g1 dX3_lay_95 e_μ2 ?_
  refine me_aload_n C 0 (Or.inr (Or.inl ⟨_, rfl⟩)) dX3_lay_96 rfl rfl ?_
  refine me_getr C hB 0 (k' := 2) (i' := 0) fg_Net_9 dX3_lay_97 rfl rfl ?_
  refine me_iload_n C 3 dX3_lay_100 rfl rfl ?_
  refine me_iconst C (v := 4) dX3_lay_101 (by decide) ?_
  refine me_imul C dX3_lay_102 ?_
  refine me_iconst C (v := 2) dX3_lay_103 (by decide) ?_
  refine me_iadd C dX3_lay_104 ?_
  refine me_iload C dX3_lay_105 rfl ?_
  refine me_iconst C (v := 1) dX3_lay_107 (by decide) ?_
  refine me_iadd C dX3_lay_108 ?_
  refine me_iload_n C 2 dX3_lay_109 rfl rfl ?_
  refine me_icmp_ge C (tgt := 119) dX3_lay_110 (by decide) (fun c3 => ?_) (fun c3 => ?_)
  · replace hf := me_ip c3 hf
    refine me_iconst C (v := -1) dX3_lay_119 (by decide) ?_
    refine me_dropI [(0, me_r 1 0), (1, me_i v1), (2, me_i v2), (3, me_i v3), (4, me_i v4), (5, me_i v5)] [0, 1, 2, 3, 4, 5] rfl ?_
    exact z_Net_lay_b120 C N hNx hB hK12 hK21 hf
  · replace hf := me_in c3 hf
    refine me_iload_n C 3 dX3_lay_113 rfl rfl ?_
    refine me_iload_n C 1 dX3_lay_114 rfl rfl ?_
    refine me_iadd C dX3_lay_115 ?_
    refine me_goto C (tgt := 120) dX3_lay_116 (by decide) ?_
    refine me_dropI [(0, me_r 1 0), (1, me_i v1), (2, me_i v2), (3, me_i v3), (4, me_i v4), (5, me_i v5)] [0, 1, 2, 3, 4, 5] rfl ?_
    exact z_Net_lay_b120 C N hNx hB hK12 hK21 hf
def f_Net_lay_b73 (K12 : me_M → Int32 → Int32 → Int32 → Int32 → Option (me_M × Unit)) (K21 : me_M → Int32 → Int32 → Int32 → Int32 → Int32 → Option (me_M × Unit)) (μ : me_M) (v1 : Int32) (v2 : Int32) (v3 : Int32) (v4 : Int32) (v5 : Int32) (s0 : Int32) (s1 : Int32) : Option (me_M × Unit) :=
  me_gd (me_inb s1 64) (
  me_lt (me_up μ 2 0 (me_ix s1) s0) (fun μ2 =>
  if v5 ≤ 0 then
  (f_Net_lay_b95 K12 K21 μ2 v1 v2 v3 v4 v5 (-1 : Int32) ((v3 * (4 : Int32)) + (1 : Int32)))
  else
  (f_Net_lay_b95 K12 K21 μ2 v1 v2 v3 v4 v5 (v3 - (1 : Int32)) ((v3 * (4 : Int32)) + (1 : Int32)))))
set_option maxHeartbeats 4000000 in
set_option maxRecDepth 100000 in
theorem z_Net_lay_b73 {X : me_X} {B : me_B} {sz : Nat} (C : me_C X B RX3 cX3_lay 6 none) {μ : me_M} {v1 : Int32} {v2 : Int32} {v3 : Int32} {v4 : Int32} {v5 : Int32} {s0 : Int32} {s1 : Int32}  {K12 : me_M → Int32 → Int32 → Int32 → Int32 → Option (me_M × Unit)} {K21 : me_M → Int32 → Int32 → Int32 → Int32 → Int32 → Option (me_M × Unit)} {r : me_M × Unit} (N : me_En X B sz (B, r.1, .ok (none)) 0 0 0 0) (hNx : me_Nx X) (hB : me_St B) (hK12 : ∀ (μ : me_M) (v1 : Int32) (v2 : Int32) (v3 : Int32) (v4 : Int32), K12 μ v1 v2 v3 v4 = some r → me_Z X B 0 0 μ 12 [(0, me_r 1 0), (1, me_i v1), (2, me_i v2), (3, me_i v3), (4, me_i v4)] []) (hK21 : ∀ (μ : me_M) (v1 : Int32) (v2 : Int32) (v3 : Int32) (v4 : Int32) (v5 : Int32), K21 μ v1 v2 v3 v4 v5 = some r → me_Z X B 0 0 μ 21 [(0, me_r 1 0), (1, me_i v1), (2, me_i v2), (3, me_i v3), (4, me_i v4), (5, me_i v5)] [])  (hf : f_Net_lay_b73 K12 K21 μ v1 v2 v3 v4 v5 s0 s1 = some r) : me_Z X B 0 0 μ 73 [(0, me_r 1 0), (1, me_i v1), (2, me_i v2), (3, me_i v3), (4, me_i v4), (5, me_i v5)] [me_i s0, me_i s1, me_r 2 0] := by
  unfold f_Net_lay_b73 at hf
  obtain ⟨g1, hf⟩ := me_gs hf
  obtain ⟨μ2, e_μ2, hf⟩ := me_lts hf
  refine me_iast C rfl (fun _ => rfl) g1 dX3_lay_73 e_μ2 ?_
  refine me_aload_n C 0 (Or.inr (Or.inl ⟨_, rfl⟩)) dX3_lay_74 rfl rfl ?_
  refine me_getr C hB 0 (k' := 2) (i' := 0) fg_Net_9 dX3_lay_75 rfl rfl ?_
  refine me_iload_n C 3 dX3_lay_78 rfl rfl ?_
  refine me_iconst C (v := 4) dX3_lay_79 (by decide) ?_
  refine me_imul C dX3_lay_80 ?_
  refine me_iconst C (v := 1) dX3_lay_81 (by decide) ?_
  refine me_iadd C dX3_lay_82 ?_
  refine me_iload C dX3_lay_83 rfl ?_
  refine me_if_le C (tgt := 94) dX3_lay_85 (by decide) (fun c3 => ?_) (fun c3 => ?_)
  · replace hf := me_ip c3 hf
    refine me_iconst C (v := -1) dX3_lay_94 (by decide) ?_
    refine me_dropI [(0, me_r 1 0), (1, me_i v1), (2, me_i v2), (3, me_i v3), (4, me_i v4), (5, me_i v5)] [0, 1, 2, 3, 4, 5] rfl ?_
    exact z_Net_lay_b95 C N hNx hB hK12 hK21 hf
  · replace hf := me_in c3 hf
    refine me_iload_n C 3 dX3_lay_88 rfl rfl ?_
    refine me_iconst C (v := 1) dX3_lay_89 (by decide) ?_
    refine me_isub C dX3_lay_90 ?_
    refine me_goto C (tgt := 95) dX3_lay_91 (by decide) ?_
    refine me_dropI [(0, me_r 1 0), (1, me_i v1), (2, me_i v2), (3, me_i v3), (4, me_i v4), (5, me_i v5)] [0, 1, 2, 3, 4, 5] rfl ?_
    exact z_Net_lay_b95 C N hNx hB hK12 hK21 hf
def f_Net_lay_b21 (K12 : me_M → Int32 → Int32 → Int32 → Int32 → Option (me_M × Unit)) (K21 : me_M → Int32 → Int32 → Int32 → Int32 → Int32 → Option (me_M × Unit)) (μ : me_M) (v1 : Int32) (v2 : Int32) (v3 : Int32) (v4 : Int32) (v5 : Int32) : Option (me_M × Unit) :=
  if v1 ≤ v5 then
  (me_lt (me_inc v4 (1)) (fun x2 =>
  K12 μ v1 v2 v3 x2))
  else
  (if (16 : Int32) ≤ v3 then
  (me_lt (me_inc v4 (1)) (fun x4 =>
  K12 μ v1 v2 v3 x4))
  else
  (me_gd (me_inb v3 16) (
  me_lt (me_up μ 4 0 (me_ix v3) v5) (fun μ6 =>
  me_gd (me_inb v3 16) (
  me_lt (me_up μ6 5 0 (me_ix v3) v4) (fun μ8 =>
  if v1 ≤ (v5 + (1 : Int32)) then
  (f_Net_lay_b73 K12 K21 μ8 v1 v2 v3 v4 v5 (-1 : Int32) ((v3 * (4 : Int32)) + (0 : Int32)))
  else
  (f_Net_lay_b73 K12 K21 μ8 v1 v2 v3 v4 v5 (v3 + (1 : Int32)) ((v3 * (4 : Int32)) + (0 : Int32)))))))))
set_option maxHeartbeats 4000000 in
set_option maxRecDepth 100000 in
theorem z_Net_lay_b21 {X : me_X} {B : me_B} {sz : Nat} (C : me_C X B RX3 cX3_lay 6 none) {μ : me_M} {v1 : Int32} {v2 : Int32} {v3 : Int32} {v4 : Int32} {v5 : Int32}  {K12 : me_M → Int32 → Int32 → Int32 → Int32 → Option (me_M × Unit)} {K21 : me_M → Int32 → Int32 → Int32 → Int32 → Int32 → Option (me_M × Unit)} {r : me_M × Unit} (N : me_En X B sz (B, r.1, .ok (none)) 0 0 0 0) (hNx : me_Nx X) (hB : me_St B) (hK12 : ∀ (μ : me_M) (v1 : Int32) (v2 : Int32) (v3 : Int32) (v4 : Int32), K12 μ v1 v2 v3 v4 = some r → me_Z X B 0 0 μ 12 [(0, me_r 1 0), (1, me_i v1), (2, me_i v2), (3, me_i v3), (4, me_i v4)] []) (hK21 : ∀ (μ : me_M) (v1 : Int32) (v2 : Int32) (v3 : Int32) (v4 : Int32) (v5 : Int32), K21 μ v1 v2 v3 v4 v5 = some r → me_Z X B 0 0 μ 21 [(0, me_r 1 0), (1, me_i v1), (2, me_i v2), (3, me_i v3), (4, me_i v4), (5, me_i v5)] [])  (hf : f_Net_lay_b21 K12 K21 μ v1 v2 v3 v4 v5 = some r) : me_Z X B 0 0 μ 21 [(0, me_r 1 0), (1, me_i v1), (2, me_i v2), (3, me_i v3), (4, me_i v4), (5, me_i v5)] [] := by
  unfold f_Net_lay_b21 at hf
  refine me_iload C dX3_lay_21 rfl ?_
  refine me_iload_n C 1 dX3_lay_23 rfl rfl ?_
  refine me_icmp_ge C (tgt := 152) dX3_lay_24 (by decide) (fun c1 => ?_) (fun c1 => ?_)
  · replace hf := me_ip c1 hf
    obtain ⟨x2, e_x2, hf⟩ := me_lts hf
    refine me_iinc C (v := x2) (L' := [(4, me_i x2), (0, me_r 1 0), (1, me_i v1), (2, me_i v2), (3, me_i v3), (5, me_i v5)]) dX3_lay_152 rfl e_x2.symm (by decide) rfl ?_
    refine me_goto C (tgt := 12) dX3_lay_155 (by decide) ?_
    refine me_dropI [(0, me_r 1 0), (1, me_i v1), (2, me_i v2), (3, me_i v3), (4, me_i x2)] [1, 2, 3, 4, 0] rfl ?_
    exact hK12 μ v1 v2 v3 x2 hf
  · replace hf := me_in c1 hf
    refine me_iload_n C 3 dX3_lay_27 rfl rfl ?_
    refine me_bipush C (v := 16) dX3_lay_28 (by decide) ?_
    refine me_icmp_ge C (tgt := 152) dX3_lay_30 (by decide) (fun c3 => ?_) (fun c3 => ?_)
    · replace hf := me_ip c3 hf
      obtain ⟨x4, e_x4, hf⟩ := me_lts hf
      refine me_iinc C (v := x4) (L' := [(4, me_i x4), (0, me_r 1 0), (1, me_i v1), (2, me_i v2), (3, me_i v3), (5, me_i v5)]) dX3_lay_152 rfl e_x4.symm (by decide) rfl ?_
      refine me_goto C (tgt := 12) dX3_lay_155 (by decide) ?_
      refine me_dropI [(0, me_r 1 0), (1, me_i v1), (2, me_i v2), (3, me_i v3), (4, me_i x4)] [1, 2, 3, 4, 0] rfl ?_
      exact hK12 μ v1 v2 v3 x4 hf
    · replace hf := me_in c3 hf
      refine me_aload_n C 0 (Or.inr (Or.inl ⟨_, rfl⟩)) dX3_lay_33 rfl rfl ?_
      refine me_getr C hB 2 (k' := 4) (i' := 0) fg_Net_19 dX3_lay_34 rfl rfl ?_
      refine me_iload_n C 3 dX3_lay_37 rfl rfl ?_
      refine me_iload C dX3_lay_38 rfl ?_
      obtain ⟨g5, hf⟩ := me_gs hf
      obtain ⟨μ6, e_μ6, hf⟩ := me_lts hf
      refine me_iast C rfl (fun _ => rfl) g5 dX3_lay_40 e_μ6 ?_
      refine me_aload_n C 0 (Or.inr (Or.inl ⟨_, rfl⟩)) dX3_lay_41 rfl rfl ?_
      refine me_getr C hB 3 (k' := 5) (i' := 0) fg_Net_22 dX3_lay_42 rfl rfl ?_
      refine me_iload_n C 3 dX3_lay_45 rfl rfl ?_
      refine me_iload C dX3_lay_46 rfl ?_
      obtain ⟨g7, hf⟩ := me_gs hf
      obtain ⟨μ8, e_μ8, hf⟩ := me_lts hf
      refine me_iast C rfl (fun _ => rfl) g7 dX3_lay_48 e_μ8 ?_
      refine me_aload_n C 0 (Or.inr (Or.inl ⟨_, rfl⟩)) dX3_lay_49 rfl rfl ?_
      refine me_getr C hB 0 (k' := 2) (i' := 0) fg_Net_9 dX3_lay_50 rfl rfl ?_
      refine me_iload_n C 3 dX3_lay_53 rfl rfl ?_
      refine me_iconst C (v := 4) dX3_lay_54 (by decide) ?_
      refine me_imul C dX3_lay_55 ?_
      refine me_iconst C (v := 0) dX3_lay_56 (by decide) ?_
      refine me_iadd C dX3_lay_57 ?_
      refine me_iload C dX3_lay_58 rfl ?_
      refine me_iconst C (v := 1) dX3_lay_60 (by decide) ?_
      refine me_iadd C dX3_lay_61 ?_
      refine me_iload_n C 1 dX3_lay_62 rfl rfl ?_
      refine me_icmp_ge C (tgt := 72) dX3_lay_63 (by decide) (fun c9 => ?_) (fun c9 => ?_)
      · replace hf := me_ip c9 hf
        refine me_iconst C (v := -1) dX3_lay_72 (by decide) ?_
        refine me_dropI [(0, me_r 1 0), (1, me_i v1), (2, me_i v2), (3, me_i v3), (4, me_i v4), (5, me_i v5)] [0, 1, 2, 3, 4, 5] rfl ?_
        exact z_Net_lay_b73 C N hNx hB hK12 hK21 hf
      · replace hf := me_in c9 hf
        refine me_iload_n C 3 dX3_lay_66 rfl rfl ?_
        refine me_iconst C (v := 1) dX3_lay_67 (by decide) ?_
        refine me_iadd C dX3_lay_68 ?_
        refine me_goto C (tgt := 73) dX3_lay_69 (by decide) ?_
        refine me_dropI [(0, me_r 1 0), (1, me_i v1), (2, me_i v2), (3, me_i v3), (4, me_i v4), (5, me_i v5)] [0, 1, 2, 3, 4, 5] rfl ?_
        exact z_Net_lay_b73 C N hNx hB hK12 hK21 hf
def f_Net_lay_h21 (K12 : me_M → Int32 → Int32 → Int32 → Int32 → Option (me_M × Unit)) : Nat → me_M → Int32 → Int32 → Int32 → Int32 → Int32 → Option (me_M × Unit)
  | 0, _, _, _, _, _, _ => none
  | n + 1, μ, v1, v2, v3, v4, v5 => f_Net_lay_b21 K12 (f_Net_lay_h21 K12 n) μ v1 v2 v3 v4 v5
set_option maxHeartbeats 4000000 in
set_option maxRecDepth 100000 in
theorem z_Net_lay_h21 {X : me_X} {B : me_B} {sz : Nat} (C : me_C X B RX3 cX3_lay 6 none) {K12 : me_M → Int32 → Int32 → Int32 → Int32 → Option (me_M × Unit)} {r : me_M × Unit} (N : me_En X B sz (B, r.1, .ok (none)) 0 0 0 0) (hNx : me_Nx X) (hB : me_St B) (hK12 : ∀ (μ : me_M) (v1 : Int32) (v2 : Int32) (v3 : Int32) (v4 : Int32), K12 μ v1 v2 v3 v4 = some r → me_Z X B 0 0 μ 12 [(0, me_r 1 0), (1, me_i v1), (2, me_i v2), (3, me_i v3), (4, me_i v4)] []) : ∀ (n : Nat) (μ : me_M) (v1 : Int32) (v2 : Int32) (v3 : Int32) (v4 : Int32) (v5 : Int32), f_Net_lay_h21 K12 n μ v1 v2 v3 v4 v5 = some r → me_Z X B 0 0 μ 21 [(0, me_r 1 0), (1, me_i v1), (2, me_i v2), (3, me_i v3), (4, me_i v4), (5, me_i v5)] [] := by
  intro n
  induction n with
  | zero => intro μ v1 v2 v3 v4 v5  h; exact absurd (show (none : Option (me_M × Unit)) = some r from h) (fun q => by cases q)
  | succ n ih => intro μ v1 v2 v3 v4 v5  h; exact z_Net_lay_b21 C N hNx hB hK12 (K21 := f_Net_lay_h21 K12 n) ih  h
def f_Net_lay_b161 (K161 : me_M → Int32 → Option (me_M × Unit)) (μ : me_M) (v4 : Int32) : Option (me_M × Unit) :=
  if (64 : Int32) ≤ v4 then
  (some (μ, ()))
  else
  (me_gd (me_inb v4 64) (
  me_lt (me_up μ 3 0 (me_ix v4) (vp_nar .boolean (0 : Int32))) (fun μ3 =>
  me_lt (me_inc v4 (1)) (fun x4 =>
  K161 μ3 x4))))
set_option maxHeartbeats 4000000 in
set_option maxRecDepth 100000 in
theorem z_Net_lay_b161 {X : me_X} {B : me_B} {sz : Nat} (C : me_C X B RX3 cX3_lay 6 none) {μ : me_M} {v4 : Int32}  {K161 : me_M → Int32 → Option (me_M × Unit)} {r : me_M × Unit} (N : me_En X B sz (B, r.1, .ok (none)) 0 0 0 0) (hNx : me_Nx X) (hB : me_St B) (hK161 : ∀ (μ : me_M) (v4 : Int32), K161 μ v4 = some r → me_Z X B 0 0 μ 161 [(0, me_r 1 0), (4, me_i v4)] [])  (hf : f_Net_lay_b161 K161 μ v4 = some r) : me_Z X B 0 0 μ 161 [(0, me_r 1 0), (4, me_i v4)] [] := by
  unfold f_Net_lay_b161 at hf
  refine me_iload C dX3_lay_161 rfl ?_
  refine me_bipush C (v := 64) dX3_lay_163 (by decide) ?_
  refine me_icmp_ge C (tgt := 182) dX3_lay_165 (by decide) (fun c1 => ?_) (fun c1 => ?_)
  · replace hf := me_ip c1 hf
    exact me_vret C N dX3_lay_182 (by cases hf; rfl) (by decide) (by decide)
  · replace hf := me_in c1 hf
    refine me_aload_n C 0 (Or.inr (Or.inl ⟨_, rfl⟩)) dX3_lay_168 rfl rfl ?_
    refine me_getr C hB 1 (k' := 3) (i' := 0) fg_Net_15 dX3_lay_169 rfl rfl ?_
    refine me_iload C dX3_lay_172 rfl ?_
    refine me_iconst C (v := 0) dX3_lay_174 (by decide) ?_
    obtain ⟨g2, hf⟩ := me_gs hf
    obtain ⟨μ3, e_μ3, hf⟩ := me_lts hf
    refine me_zast C rfl (fun _ => rfl) g2 dX3_lay_175 e_μ3 ?_
    obtain ⟨x4, e_x4, hf⟩ := me_lts hf
    refine me_iinc C (v := x4) (L' := [(4, me_i x4), (0, me_r 1 0)]) dX3_lay_176 rfl e_x4.symm (by decide) rfl ?_
    refine me_goto C (tgt := 161) dX3_lay_179 (by decide) ?_
    refine me_dropI [(0, me_r 1 0), (4, me_i x4)] [1, 0] rfl ?_
    exact hK161 μ3 x4 hf
def f_Net_lay_h161  : Nat → me_M → Int32 → Option (me_M × Unit)
  | 0, _, _ => none
  | n + 1, μ, v4 => f_Net_lay_b161 (f_Net_lay_h161 n) μ v4
set_option maxHeartbeats 4000000 in
set_option maxRecDepth 100000 in
theorem z_Net_lay_h161 {X : me_X} {B : me_B} {sz : Nat} (C : me_C X B RX3 cX3_lay 6 none)  {r : me_M × Unit} (N : me_En X B sz (B, r.1, .ok (none)) 0 0 0 0) (hNx : me_Nx X) (hB : me_St B)  : ∀ (n : Nat) (μ : me_M) (v4 : Int32), f_Net_lay_h161 n μ v4 = some r → me_Z X B 0 0 μ 161 [(0, me_r 1 0), (4, me_i v4)] [] := by
  intro n
  induction n with
  | zero => intro μ v4  h; exact absurd (show (none : Option (me_M × Unit)) = some r from h) (fun q => by cases q)
  | succ n ih => intro μ v4  h; exact z_Net_lay_b161 C N hNx hB  (K161 := f_Net_lay_h161 n) ih  h
def f_Net_lay_b12 (K12 : me_M → Int32 → Int32 → Int32 → Int32 → Option (me_M × Unit)) (μ : me_M) (v1 : Int32) (v2 : Int32) (v3 : Int32) (v4 : Int32) : Option (me_M × Unit) :=
  if v2 ≤ v4 then
  (f_Net_lay_h161 me_FU μ (0 : Int32))
  else
  (f_Net_lay_h21 K12 me_FU μ v1 v2 v3 v4 (0 : Int32))
set_option maxHeartbeats 4000000 in
set_option maxRecDepth 100000 in
theorem z_Net_lay_b12 {X : me_X} {B : me_B} {sz : Nat} (C : me_C X B RX3 cX3_lay 6 none) {μ : me_M} {v1 : Int32} {v2 : Int32} {v3 : Int32} {v4 : Int32}  {K12 : me_M → Int32 → Int32 → Int32 → Int32 → Option (me_M × Unit)} {r : me_M × Unit} (N : me_En X B sz (B, r.1, .ok (none)) 0 0 0 0) (hNx : me_Nx X) (hB : me_St B) (hK12 : ∀ (μ : me_M) (v1 : Int32) (v2 : Int32) (v3 : Int32) (v4 : Int32), K12 μ v1 v2 v3 v4 = some r → me_Z X B 0 0 μ 12 [(0, me_r 1 0), (1, me_i v1), (2, me_i v2), (3, me_i v3), (4, me_i v4)] [])  (hf : f_Net_lay_b12 K12 μ v1 v2 v3 v4 = some r) : me_Z X B 0 0 μ 12 [(0, me_r 1 0), (1, me_i v1), (2, me_i v2), (3, me_i v3), (4, me_i v4)] [] := by
  unfold f_Net_lay_b12 at hf
  refine me_iload C dX3_lay_12 rfl ?_
  refine me_iload_n C 2 dX3_lay_14 rfl rfl ?_
  refine me_icmp_ge C (tgt := 158) dX3_lay_15 (by decide) (fun c1 => ?_) (fun c1 => ?_)
  · replace hf := me_ip c1 hf
    refine me_iconst C (v := 0) dX3_lay_158 (by decide) ?_
    refine me_istore C dX3_lay_159 (by decide) (L' := [(4, me_i (0 : Int32)), (0, me_r 1 0), (1, me_i v1), (2, me_i v2), (3, me_i v3)]) rfl ?_
    refine me_dropI [(0, me_r 1 0), (4, me_i (0 : Int32))] [1, 0] rfl ?_
    exact z_Net_lay_h161 C N hNx hB me_FU μ (0 : Int32) hf
  · replace hf := me_in c1 hf
    refine me_iconst C (v := 0) dX3_lay_18 (by decide) ?_
    refine me_istore C dX3_lay_19 (by decide) (L' := [(5, me_i (0 : Int32)), (0, me_r 1 0), (1, me_i v1), (2, me_i v2), (3, me_i v3), (4, me_i v4)]) rfl ?_
    refine me_dropI [(0, me_r 1 0), (1, me_i v1), (2, me_i v2), (3, me_i v3), (4, me_i v4), (5, me_i (0 : Int32))] [1, 2, 3, 4, 5, 0] rfl ?_
    exact z_Net_lay_h21 C N hNx hB hK12 me_FU μ v1 v2 v3 v4 (0 : Int32) hf
def f_Net_lay_h12  : Nat → me_M → Int32 → Int32 → Int32 → Int32 → Option (me_M × Unit)
  | 0, _, _, _, _, _ => none
  | n + 1, μ, v1, v2, v3, v4 => f_Net_lay_b12 (f_Net_lay_h12 n) μ v1 v2 v3 v4
set_option maxHeartbeats 4000000 in
set_option maxRecDepth 100000 in
theorem z_Net_lay_h12 {X : me_X} {B : me_B} {sz : Nat} (C : me_C X B RX3 cX3_lay 6 none)  {r : me_M × Unit} (N : me_En X B sz (B, r.1, .ok (none)) 0 0 0 0) (hNx : me_Nx X) (hB : me_St B)  : ∀ (n : Nat) (μ : me_M) (v1 : Int32) (v2 : Int32) (v3 : Int32) (v4 : Int32), f_Net_lay_h12 n μ v1 v2 v3 v4 = some r → me_Z X B 0 0 μ 12 [(0, me_r 1 0), (1, me_i v1), (2, me_i v2), (3, me_i v3), (4, me_i v4)] [] := by
  intro n
  induction n with
  | zero => intro μ v1 v2 v3 v4  h; exact absurd (show (none : Option (me_M × Unit)) = some r from h) (fun q => by cases q)
  | succ n ih => intro μ v1 v2 v3 v4  h; exact z_Net_lay_b12 C N hNx hB  (K12 := f_Net_lay_h12 n) ih  h
def f_Net_lay (μ : me_M) (v1 : Int32) (v2 : Int32) : Option (me_M × Unit) :=
  me_lt (me_up μ 1 0 4 (v1 * v2)) (fun μ1 =>
  f_Net_lay_h12 me_FU μ1 v1 v2 (0 : Int32) (0 : Int32))
set_option maxHeartbeats 4000000 in
set_option maxRecDepth 100000 in
theorem z_Net_lay {X : me_X} {B : me_B} {sz : Nat} (C : me_C X B RX3 cX3_lay 6 none) {μ : me_M} {v1 : Int32} {v2 : Int32}   {r : me_M × Unit} (N : me_En X B sz (B, r.1, .ok (none)) 0 0 0 0) (hNx : me_Nx X) (hB : me_St B)   (hf : f_Net_lay μ v1 v2 = some r) : me_Z X B 0 0 μ 0 [(0, me_r 1 0), (1, me_i v1), (2, me_i v2)] [] := by
  unfold f_Net_lay at hf
  refine me_aload_n C 0 (Or.inr (Or.inl ⟨_, rfl⟩)) dX3_lay_0 rfl rfl ?_
  refine me_iload_n C 1 dX3_lay_1 rfl rfl ?_
  refine me_iload_n C 2 dX3_lay_2 rfl rfl ?_
  refine me_imul C dX3_lay_3 ?_
  obtain ⟨μ1, e_μ1, hf⟩ := me_lts hf
  refine me_puti C 4 fw_Net_25 dX3_lay_4 rfl (me_nri _) e_μ1 ?_
  refine me_iconst C (v := 0) dX3_lay_7 (by decide) ?_
  refine me_istore_n C 3 dX3_lay_8 rfl (by decide) (L' := [(3, me_i (0 : Int32)), (0, me_r 1 0), (1, me_i v1), (2, me_i v2)]) rfl ?_
  refine me_iconst C (v := 0) dX3_lay_9 (by decide) ?_
  refine me_istore C dX3_lay_10 (by decide) (L' := [(4, me_i (0 : Int32)), (3, me_i (0 : Int32)), (0, me_r 1 0), (1, me_i v1), (2, me_i v2)]) rfl ?_
  refine me_dropI [(0, me_r 1 0), (1, me_i v1), (2, me_i v2), (3, me_i (0 : Int32)), (4, me_i (0 : Int32))] [2, 3, 4, 1, 0] rfl ?_
  exact z_Net_lay_h12 C N hNx hB me_FU μ1 v1 v2 (0 : Int32) (0 : Int32) hf
theorem c_Net_lay {B : me_B} (hB : me_St B) {μ : me_M} {v1 : Int32} {v2 : Int32} {μ' : me_M} {r : Unit}  (hf : f_Net_lay μ v1 v2 = some (μ', r)) : ∀ l E z, l.stackTraces = false → me_Met l yX3_lay cX3_lay 6 none 0 0 0 0 E B μ z [me_r 1 0, me_i v1, me_i v2] (B, μ', .ok (none)) :=
  fun _ _ _ hl => me_ofZ hl (by decide +kernel) (Nat.le_of_ble_eq_true rfl) (fun _ C N hNx => z_Net_lay C N hNx hB  hf)

def f_Net_setFailed (μ : me_M) (v1 : Int32) (v2 : Int32) (v3 : Int32) : Option (me_M × Unit) :=
  me_gd (me_inb ((v1 * (4 : Int32)) + v2) 64) (
  me_lt ((μ 2 0 (me_ix ((v1 * (4 : Int32)) + v2)))) (fun x2 =>
  me_gd (me_inb ((v1 * (4 : Int32)) + v2) 64) (
  me_lt (me_up μ 3 0 (me_ix ((v1 * (4 : Int32)) + v2)) (vp_nar .boolean v3)) (fun μ4 =>
  me_bd (f_Net_hasNode μ4 x2) (fun r5 =>
  if r5 = 0 then
  (some (μ4, ()))
  else
  (me_bd (f_Net_opposite μ4 v2) (fun r7 =>
  me_gd (me_inb ((x2 * (4 : Int32)) + r7) 64) (
  me_lt (me_up μ4 3 0 (me_ix ((x2 * (4 : Int32)) + r7)) (vp_nar .boolean v3)) (fun μ9 =>
  some (μ9, ()))))))))))
set_option maxHeartbeats 4000000 in
set_option maxRecDepth 100000 in
theorem z_Net_setFailed {X : me_X} {B : me_B} {sz : Nat} (C : me_C X B RX3 cX3_setFailed 5 none) {μ : me_M} {v1 : Int32} {v2 : Int32} {v3 : Int32}   {r : me_M × Unit} (N : me_En X B sz (B, r.1, .ok (none)) 1 21 0 0) (hNx : me_Nx X) (hB : me_St B)   (hf : f_Net_setFailed μ v1 v2 v3 = some r) : me_Z X B 0 0 μ 0 [(0, me_r 1 0), (1, me_i v1), (2, me_i v2), (3, me_i v3)] [] := by
  unfold f_Net_setFailed at hf
  refine me_aload_n C 0 (Or.inr (Or.inl ⟨_, rfl⟩)) dX3_setFailed_0 rfl rfl ?_
  refine me_getr C hB 0 (k' := 2) (i' := 0) fg_Net_9 dX3_setFailed_1 rfl rfl ?_
  refine me_iload_n C 1 dX3_setFailed_4 rfl rfl ?_
  refine me_iconst C (v := 4) dX3_setFailed_5 (by decide) ?_
  refine me_imul C dX3_setFailed_6 ?_
  refine me_iload_n C 2 dX3_setFailed_7 rfl rfl ?_
  refine me_iadd C dX3_setFailed_8 ?_
  obtain ⟨g1, hf⟩ := me_gs hf
  refine me_iald C rfl (fun _ => rfl) g1 dX3_setFailed_9 ?_
  obtain ⟨x2, e_x2, hf⟩ := me_lts hf
  refine me_nm e_x2 ?_
  refine me_istore C dX3_setFailed_10 (by decide) (L' := [(4, me_i x2), (0, me_r 1 0), (1, me_i v1), (2, me_i v2), (3, me_i v3)]) rfl ?_
  refine me_aload_n C 0 (Or.inr (Or.inl ⟨_, rfl⟩)) dX3_setFailed_12 rfl rfl ?_
  refine me_getr C hB 1 (k' := 3) (i' := 0) fg_Net_15 dX3_setFailed_13 rfl rfl ?_
  refine me_iload_n C 1 dX3_setFailed_16 rfl rfl ?_
  refine me_iconst C (v := 4) dX3_setFailed_17 (by decide) ?_
  refine me_imul C dX3_setFailed_18 ?_
  refine me_iload_n C 2 dX3_setFailed_19 rfl rfl ?_
  refine me_iadd C dX3_setFailed_20 ?_
  refine me_iload_n C 3 dX3_setFailed_21 rfl rfl ?_
  obtain ⟨g3, hf⟩ := me_gs hf
  obtain ⟨μ4, e_μ4, hf⟩ := me_lts hf
  refine me_zast C rfl (fun _ => rfl) g3 dX3_setFailed_22 e_μ4 ?_
  refine me_aload_n C 0 (Or.inr (Or.inl ⟨_, rfl⟩)) dX3_setFailed_23 rfl rfl ?_
  refine me_iload C dX3_setFailed_24 rfl ?_
  obtain ⟨r5, h_r5, hf⟩ := me_bs hf
  refine me_callV C N  (As := [me_i x2]) (st := []) 0 0 (c_Net_hasNode hB h_r5) mv_Net_hasNode ml_Net_29 rfl rfl dX3_setFailed_26 rfl rfl ⟨by decide, by decide⟩ ⟨by decide, by decide, by decide, by decide⟩ (Nat.le_of_ble_eq_true rfl) ?_
  refine me_if_eq C (tgt := 48) dX3_setFailed_29 (by decide) (fun c6 => ?_) (fun c6 => ?_)
  · replace hf := me_ip c6 hf
    exact me_vret C N dX3_setFailed_48 (by cases hf; rfl) (by decide) (by decide)
  · replace hf := me_in c6 hf
    refine me_aload_n C 0 (Or.inr (Or.inl ⟨_, rfl⟩)) dX3_setFailed_32 rfl rfl ?_
    refine me_getr C hB 1 (k' := 3) (i' := 0) fg_Net_15 dX3_setFailed_33 rfl rfl ?_
    refine me_iload C dX3_setFailed_36 rfl ?_
    refine me_iconst C (v := 4) dX3_setFailed_38 (by decide) ?_
    refine me_imul C dX3_setFailed_39 ?_
    refine me_aload_n C 0 (Or.inr (Or.inl ⟨_, rfl⟩)) dX3_setFailed_40 rfl rfl ?_
    refine me_iload_n C 2 dX3_setFailed_41 rfl rfl ?_
    obtain ⟨r7, h_r7, hf⟩ := me_bs hf
    refine me_callV C N  (As := [me_i v2]) (st := [me_i (x2 * (4 : Int32)), me_r 3 0]) 0 0 (c_Net_opposite hB h_r7) mv_Net_opposite ml_Net_33 rfl rfl dX3_setFailed_42 rfl rfl ⟨by decide, by decide⟩ ⟨by decide, by decide, by decide, by decide⟩ (Nat.le_of_ble_eq_true rfl) ?_
    refine me_iadd C dX3_setFailed_45 ?_
    refine me_iload_n C 3 dX3_setFailed_46 rfl rfl ?_
    obtain ⟨g8, hf⟩ := me_gs hf
    obtain ⟨μ9, e_μ9, hf⟩ := me_lts hf
    refine me_zast C rfl (fun _ => rfl) g8 dX3_setFailed_47 e_μ9 ?_
    exact me_vret C N dX3_setFailed_48 (by cases hf; rfl) (by decide) (by decide)
theorem c_Net_setFailed {B : me_B} (hB : me_St B) {μ : me_M} {v1 : Int32} {v2 : Int32} {v3 : Int32} {μ' : me_M} {r : Unit}  (hf : f_Net_setFailed μ v1 v2 v3 = some (μ', r)) : ∀ l E z, l.stackTraces = false → me_Met l yX3_setFailed cX3_setFailed 5 none 1 21 0 0 E B μ z [me_r 1 0, me_i v1, me_i v2, me_i v3] (B, μ', .ok (none)) :=
  fun _ _ _ hl => me_ofZ hl (by decide +kernel) (Nat.le_of_ble_eq_true rfl) (fun _ C N hNx => z_Net_setFailed C N hNx hB  hf)

def f_Packet_wasDelivered_b18 (μ : me_M) : Option Int32 :=
  some (1 : Int32)
set_option maxHeartbeats 4000000 in
set_option maxRecDepth 100000 in
theorem z_Packet_wasDelivered_b18 {X : me_X} {B : me_B} {sz : Nat} (C : me_C X B RX4 cX4_wasDelivered 1 (some .boolean)) {μ : me_M}    {r : Int32} (N : me_En X B sz (B, μ, .ok (some (me_i r))) 0 0 0 0) (hNx : me_Nx X) (hB : me_St B)   (hf : f_Packet_wasDelivered_b18 μ = some r) : me_Z X B 0 0 μ 18 [] [] := by
  unfold f_Packet_wasDelivered_b18 at hf
  refine me_iconst C (v := 1) dX4_wasDelivered_18 (by decide) ?_
  refine me_goto C (tgt := 23) dX4_wasDelivered_19 (by decide) ?_
  exact me_iret C N dX4_wasDelivered_23 (by decide +kernel) (by cases hf; rfl) (by decide) (by decide)
def f_Packet_wasDelivered (μ : me_M) (v0 : Nat) : Option Int32 :=
  if (μ 8 v0 2) = (100 : Int32) then
  (f_Packet_wasDelivered_b18 μ)
  else
  (if (μ 8 v0 2) = (114 : Int32) then
  (f_Packet_wasDelivered_b18 μ)
  else
  (some (0 : Int32)))
set_option maxHeartbeats 4000000 in
set_option maxRecDepth 100000 in
theorem z_Packet_wasDelivered {X : me_X} {B : me_B} {sz : Nat} (C : me_C X B RX4 cX4_wasDelivered 1 (some .boolean)) {μ : me_M} {v0 : Nat}   {r : Int32} (N : me_En X B sz (B, μ, .ok (some (me_i r))) 0 0 0 0) (hNx : me_Nx X) (hB : me_St B)   (hf : f_Packet_wasDelivered μ v0 = some r) : me_Z X B 0 0 μ 0 [(0, me_r 8 v0)] [] := by
  unfold f_Packet_wasDelivered at hf
  refine me_aload_n C 0 (Or.inr (Or.inl ⟨_, rfl⟩)) dX4_wasDelivered_0 rfl rfl ?_
  refine me_geti C 2 fg_Packet_23 dX4_wasDelivered_1 rfl ?_
  refine me_bipush C (v := 100) dX4_wasDelivered_4 (by decide) ?_
  refine me_icmp_eq C (tgt := 18) dX4_wasDelivered_6 (by decide) (fun c1 => ?_) (fun c1 => ?_)
  · replace hf := me_ip c1 hf
    refine me_dropI [] [] rfl ?_
    exact z_Packet_wasDelivered_b18 C N hNx hB hf
  · replace hf := me_in c1 hf
    refine me_aload_n C 0 (Or.inr (Or.inl ⟨_, rfl⟩)) dX4_wasDelivered_9 rfl rfl ?_
    refine me_geti C 2 fg_Packet_23 dX4_wasDelivered_10 rfl ?_
    refine me_bipush C (v := 114) dX4_wasDelivered_13 (by decide) ?_
    refine me_icmp_ne C (tgt := 22) dX4_wasDelivered_15 (by decide) (fun c2 => ?_) (fun c2 => ?_)
    · replace hf := me_in c2 hf
      refine me_iconst C (v := 0) dX4_wasDelivered_22 (by decide) ?_
      exact me_iret C N dX4_wasDelivered_23 (by decide +kernel) (by cases hf; rfl) (by decide) (by decide)
    · replace hf := me_ip c2 hf
      refine me_dropI [] [] rfl ?_
      exact z_Packet_wasDelivered_b18 C N hNx hB hf
theorem c_Packet_wasDelivered {B : me_B} (hB : me_St B) {μ : me_M} {v0 : Nat} {r : Int32}  (hf : f_Packet_wasDelivered μ v0 = some r) : ∀ l E z, l.stackTraces = false → me_Met l yX4_wasDelivered cX4_wasDelivered 1 (some .boolean) 0 0 0 0 E B μ z [me_r 8 v0] (B, μ, .ok (some (me_i r))) :=
  fun _ _ _ hl => me_ofZ hl (by decide +kernel) (Nat.le_of_ble_eq_true rfl) (fun _ C N hNx => z_Packet_wasDelivered C N hNx hB  hf)

def f_Packet_piecesInRows (μ : me_M) (v0 : Nat) : Option Int32 :=
  if (μ 8 v0 2) = (108 : Int32) then
  (some (0 : Int32))
  else
  (some ((μ 8 v0 7) - (μ 8 v0 8)))
set_option maxHeartbeats 4000000 in
set_option maxRecDepth 100000 in
theorem z_Packet_piecesInRows {X : me_X} {B : me_B} {sz : Nat} (C : me_C X B RX4 cX4_piecesInRows 1 (some .int)) {μ : me_M} {v0 : Nat}   {r : Int32} (N : me_En X B sz (B, μ, .ok (some (me_i r))) 0 0 0 0) (hNx : me_Nx X) (hB : me_St B)   (hf : f_Packet_piecesInRows μ v0 = some r) : me_Z X B 0 0 μ 0 [(0, me_r 8 v0)] [] := by
  unfold f_Packet_piecesInRows at hf
  refine me_aload_n C 0 (Or.inr (Or.inl ⟨_, rfl⟩)) dX4_piecesInRows_0 rfl rfl ?_
  refine me_geti C 2 fg_Packet_23 dX4_piecesInRows_1 rfl ?_
  refine me_bipush C (v := 108) dX4_piecesInRows_4 (by decide) ?_
  refine me_icmp_ne C (tgt := 13) dX4_piecesInRows_6 (by decide) (fun c1 => ?_) (fun c1 => ?_)
  · replace hf := me_in c1 hf
    refine me_aload_n C 0 (Or.inr (Or.inl ⟨_, rfl⟩)) dX4_piecesInRows_13 rfl rfl ?_
    refine me_geti C 7 fg_Packet_20 dX4_piecesInRows_14 rfl ?_
    refine me_aload_n C 0 (Or.inr (Or.inl ⟨_, rfl⟩)) dX4_piecesInRows_17 rfl rfl ?_
    refine me_geti C 8 fg_Packet_26 dX4_piecesInRows_18 rfl ?_
    refine me_isub C dX4_piecesInRows_21 ?_
    exact me_iret C N dX4_piecesInRows_22 (me_nri _) (by cases hf; rfl) (by decide) (by decide)
  · replace hf := me_ip c1 hf
    refine me_iconst C (v := 0) dX4_piecesInRows_9 (by decide) ?_
    refine me_goto C (tgt := 22) dX4_piecesInRows_10 (by decide) ?_
    exact me_iret C N dX4_piecesInRows_22 (me_nri _) (by cases hf; rfl) (by decide) (by decide)
theorem c_Packet_piecesInRows {B : me_B} (hB : me_St B) {μ : me_M} {v0 : Nat} {r : Int32}  (hf : f_Packet_piecesInRows μ v0 = some r) : ∀ l E z, l.stackTraces = false → me_Met l yX4_piecesInRows cX4_piecesInRows 1 (some .int) 0 0 0 0 E B μ z [me_r 8 v0] (B, μ, .ok (some (me_i r))) :=
  fun _ _ _ hl => me_ofZ hl (by decide +kernel) (Nat.le_of_ble_eq_true rfl) (fun _ C N hNx => z_Packet_piecesInRows C N hNx hB  hf)

def f_Packet_beatsTaken (μ : me_M) (v0 : Nat) : Option Int32 :=
  some ((μ 8 v0 11) - (μ 8 v0 10))
set_option maxHeartbeats 4000000 in
set_option maxRecDepth 100000 in
theorem z_Packet_beatsTaken {X : me_X} {B : me_B} {sz : Nat} (C : me_C X B RX4 cX4_beatsTaken 1 (some .int)) {μ : me_M} {v0 : Nat}   {r : Int32} (N : me_En X B sz (B, μ, .ok (some (me_i r))) 0 0 0 0) (hNx : me_Nx X) (hB : me_St B)   (hf : f_Packet_beatsTaken μ v0 = some r) : me_Z X B 0 0 μ 0 [(0, me_r 8 v0)] [] := by
  unfold f_Packet_beatsTaken at hf
  refine me_aload_n C 0 (Or.inr (Or.inl ⟨_, rfl⟩)) dX4_beatsTaken_0 rfl rfl ?_
  refine me_geti C 11 fg_Packet_29 dX4_beatsTaken_1 rfl ?_
  refine me_aload_n C 0 (Or.inr (Or.inl ⟨_, rfl⟩)) dX4_beatsTaken_4 rfl rfl ?_
  refine me_geti C 10 fg_Packet_32 dX4_beatsTaken_5 rfl ?_
  refine me_isub C dX4_beatsTaken_8 ?_
  exact me_iret C N dX4_beatsTaken_9 (me_nri _) (by cases hf; rfl) (by decide) (by decide)
theorem c_Packet_beatsTaken {B : me_B} (hB : me_St B) {μ : me_M} {v0 : Nat} {r : Int32}  (hf : f_Packet_beatsTaken μ v0 = some r) : ∀ l E z, l.stackTraces = false → me_Met l yX4_beatsTaken cX4_beatsTaken 1 (some .int) 0 0 0 0 E B μ z [me_r 8 v0] (B, μ, .ok (some (me_i r))) :=
  fun _ _ _ hl => me_ofZ hl (by decide +kernel) (Nat.le_of_ble_eq_true rfl) (fun _ C N hNx => z_Packet_beatsTaken C N hNx hB  hf)

def f_Placing_reset_b7 (K7 : me_M → Int32 → Option (me_M × Unit)) (μ : me_M) (v1 : Int32) : Option (me_M × Unit) :=
  if (64 : Int32) ≤ v1 then
  (some (μ, ()))
  else
  (me_gd (me_inb v1 64) (
  me_lt (me_up μ 11 0 (me_ix v1) (0 : Int32)) (fun μ3 =>
  me_lt (me_inc v1 (1)) (fun x4 =>
  K7 μ3 x4))))
set_option maxHeartbeats 4000000 in
set_option maxRecDepth 100000 in
theorem z_Placing_reset_b7 {X : me_X} {B : me_B} {sz : Nat} (C : me_C X B RX5 cX5_reset 2 none) {μ : me_M} {v1 : Int32}  {K7 : me_M → Int32 → Option (me_M × Unit)} {r : me_M × Unit} (N : me_En X B sz (B, r.1, .ok (none)) 0 0 0 0) (hNx : me_Nx X) (hB : me_St B) (hK7 : ∀ (μ : me_M) (v1 : Int32), K7 μ v1 = some r → me_Z X B 0 0 μ 7 [(0, me_r 9 0), (1, me_i v1)] [])  (hf : f_Placing_reset_b7 K7 μ v1 = some r) : me_Z X B 0 0 μ 7 [(0, me_r 9 0), (1, me_i v1)] [] := by
  unfold f_Placing_reset_b7 at hf
  refine me_iload_n C 1 dX5_reset_7 rfl rfl ?_
  refine me_aload_n C 0 (Or.inr (Or.inl ⟨_, rfl⟩)) dX5_reset_8 rfl rfl ?_
  refine me_getr C hB 2 (k' := 11) (i' := 0) fg_Placing_15 dX5_reset_9 rfl rfl ?_
  refine me_alen C (v := 64) rfl (Or.inl rfl) (fun _ => rfl) dX5_reset_12 (by decide) ?_
  refine me_icmp_ge C (tgt := 29) dX5_reset_13 (by decide) (fun c1 => ?_) (fun c1 => ?_)
  · replace hf := me_ip c1 hf
    exact me_vret C N dX5_reset_29 (by cases hf; rfl) (by decide) (by decide)
  · replace hf := me_in c1 hf
    refine me_aload_n C 0 (Or.inr (Or.inl ⟨_, rfl⟩)) dX5_reset_16 rfl rfl ?_
    refine me_getr C hB 2 (k' := 11) (i' := 0) fg_Placing_15 dX5_reset_17 rfl rfl ?_
    refine me_iload_n C 1 dX5_reset_20 rfl rfl ?_
    refine me_iconst C (v := 0) dX5_reset_21 (by decide) ?_
    obtain ⟨g2, hf⟩ := me_gs hf
    obtain ⟨μ3, e_μ3, hf⟩ := me_lts hf
    refine me_iast C rfl (fun _ => rfl) g2 dX5_reset_22 e_μ3 ?_
    obtain ⟨x4, e_x4, hf⟩ := me_lts hf
    refine me_iinc C (v := x4) (L' := [(1, me_i x4), (0, me_r 9 0)]) dX5_reset_23 rfl e_x4.symm (by decide) rfl ?_
    refine me_goto C (tgt := 7) dX5_reset_26 (by decide) ?_
    refine me_dropI [(0, me_r 9 0), (1, me_i x4)] [1, 0] rfl ?_
    exact hK7 μ3 x4 hf
def f_Placing_reset_h7  : Nat → me_M → Int32 → Option (me_M × Unit)
  | 0, _, _ => none
  | n + 1, μ, v1 => f_Placing_reset_b7 (f_Placing_reset_h7 n) μ v1
set_option maxHeartbeats 4000000 in
set_option maxRecDepth 100000 in
theorem z_Placing_reset_h7 {X : me_X} {B : me_B} {sz : Nat} (C : me_C X B RX5 cX5_reset 2 none)  {r : me_M × Unit} (N : me_En X B sz (B, r.1, .ok (none)) 0 0 0 0) (hNx : me_Nx X) (hB : me_St B)  : ∀ (n : Nat) (μ : me_M) (v1 : Int32), f_Placing_reset_h7 n μ v1 = some r → me_Z X B 0 0 μ 7 [(0, me_r 9 0), (1, me_i v1)] [] := by
  intro n
  induction n with
  | zero => intro μ v1  h; exact absurd (show (none : Option (me_M × Unit)) = some r from h) (fun q => by cases q)
  | succ n ih => intro μ v1  h; exact z_Placing_reset_b7 C N hNx hB  (K7 := f_Placing_reset_h7 n) ih  h
def f_Placing_reset (μ : me_M) : Option (me_M × Unit) :=
  me_lt (me_up μ 9 0 3 (0 : Int32)) (fun μ1 =>
  f_Placing_reset_h7 me_FU μ1 (0 : Int32))
set_option maxHeartbeats 4000000 in
set_option maxRecDepth 100000 in
theorem z_Placing_reset {X : me_X} {B : me_B} {sz : Nat} (C : me_C X B RX5 cX5_reset 2 none) {μ : me_M}    {r : me_M × Unit} (N : me_En X B sz (B, r.1, .ok (none)) 0 0 0 0) (hNx : me_Nx X) (hB : me_St B)   (hf : f_Placing_reset μ = some r) : me_Z X B 0 0 μ 0 [(0, me_r 9 0)] [] := by
  unfold f_Placing_reset at hf
  refine me_aload_n C 0 (Or.inr (Or.inl ⟨_, rfl⟩)) dX5_reset_0 rfl rfl ?_
  refine me_iconst C (v := 0) dX5_reset_1 (by decide) ?_
  obtain ⟨μ1, e_μ1, hf⟩ := me_lts hf
  refine me_puti C 3 fw_Placing_22 dX5_reset_2 rfl (me_nri _) e_μ1 ?_
  refine me_iconst C (v := 0) dX5_reset_5 (by decide) ?_
  refine me_istore_n C 1 dX5_reset_6 rfl (by decide) (L' := [(1, me_i (0 : Int32)), (0, me_r 9 0)]) rfl ?_
  refine me_dropI [(0, me_r 9 0), (1, me_i (0 : Int32))] [1, 0] rfl ?_
  exact z_Placing_reset_h7 C N hNx hB me_FU μ1 (0 : Int32) hf
theorem c_Placing_reset {B : me_B} (hB : me_St B) {μ : me_M}  {μ' : me_M} {r : Unit}  (hf : f_Placing_reset μ = some (μ', r)) : ∀ l E z, l.stackTraces = false → me_Met l yX5_reset cX5_reset 2 none 0 0 0 0 E B μ z [me_r 9 0] (B, μ', .ok (none)) :=
  fun _ _ _ hl => me_ofZ hl (by decide +kernel) (Nat.le_of_ble_eq_true rfl) (fun _ C N hNx => z_Placing_reset C N hNx hB  hf)

def f_Placing_addTask (μ : me_M) (v1 : Int32) : Option (me_M × Int32) :=
  if (μ 9 0 3) < (8 : Int32) then
  (me_gd (me_inb (μ 9 0 3) 8) (
  me_lt (me_up μ 10 0 (me_ix (μ 9 0 3)) v1) (fun μ3 =>
  me_lt (me_up μ3 9 0 3 ((μ3 9 0 3) + (1 : Int32))) (fun μ4 =>
  some (μ4, ((μ4 9 0 3) - (1 : Int32)))))))
  else
  (some (μ, (-1 : Int32)))
set_option maxHeartbeats 4000000 in
set_option maxRecDepth 100000 in
theorem z_Placing_addTask {X : me_X} {B : me_B} {sz : Nat} (C : me_C X B RX5 cX5_addTask 2 (some .int)) {μ : me_M} {v1 : Int32}   {r : me_M × Int32} (N : me_En X B sz (B, r.1, .ok (some (me_i r.2))) 0 0 0 0) (hNx : me_Nx X) (hB : me_St B)   (hf : f_Placing_addTask μ v1 = some r) : me_Z X B 0 0 μ 0 [(0, me_r 9 0), (1, me_i v1)] [] := by
  unfold f_Placing_addTask at hf
  refine me_aload_n C 0 (Or.inr (Or.inl ⟨_, rfl⟩)) dX5_addTask_0 rfl rfl ?_
  refine me_geti C 3 fg_Placing_22 dX5_addTask_1 rfl ?_
  refine me_bipush C (v := 8) dX5_addTask_4 (by decide) ?_
  refine me_icmp_lt C (tgt := 11) dX5_addTask_6 (by decide) (fun c1 => ?_) (fun c1 => ?_)
  · replace hf := me_ip c1 hf
    refine me_aload_n C 0 (Or.inr (Or.inl ⟨_, rfl⟩)) dX5_addTask_11 rfl rfl ?_
    refine me_getr C hB 1 (k' := 10) (i' := 0) fg_Placing_9 dX5_addTask_12 rfl rfl ?_
    refine me_aload_n C 0 (Or.inr (Or.inl ⟨_, rfl⟩)) dX5_addTask_15 rfl rfl ?_
    refine me_geti C 3 fg_Placing_22 dX5_addTask_16 rfl ?_
    refine me_iload_n C 1 dX5_addTask_19 rfl rfl ?_
    obtain ⟨g2, hf⟩ := me_gs hf
    obtain ⟨μ3, e_μ3, hf⟩ := me_lts hf
    refine me_iast C rfl (fun _ => rfl) g2 dX5_addTask_20 e_μ3 ?_
    refine me_aload_n C 0 (Or.inr (Or.inl ⟨_, rfl⟩)) dX5_addTask_21 rfl rfl ?_
    refine me_dup C rfl dX5_addTask_22 ?_
    refine me_geti C 3 fg_Placing_22 dX5_addTask_23 rfl ?_
    refine me_iconst C (v := 1) dX5_addTask_26 (by decide) ?_
    refine me_iadd C dX5_addTask_27 ?_
    obtain ⟨μ4, e_μ4, hf⟩ := me_lts hf
    refine me_puti C 3 fw_Placing_22 dX5_addTask_28 rfl (me_nri _) e_μ4 ?_
    refine me_aload_n C 0 (Or.inr (Or.inl ⟨_, rfl⟩)) dX5_addTask_31 rfl rfl ?_
    refine me_geti C 3 fg_Placing_22 dX5_addTask_32 rfl ?_
    refine me_iconst C (v := 1) dX5_addTask_35 (by decide) ?_
    refine me_isub C dX5_addTask_36 ?_
    exact me_iret C N dX5_addTask_37 (me_nri _) (by cases hf; rfl) (by decide) (by decide)
  · replace hf := me_in c1 hf
    refine me_iconst C (v := -1) dX5_addTask_9 (by decide) ?_
    exact me_iret C N dX5_addTask_10 (me_nri _) (by cases hf; rfl) (by decide) (by decide)
theorem c_Placing_addTask {B : me_B} (hB : me_St B) {μ : me_M} {v1 : Int32} {μ' : me_M} {r : Int32}  (hf : f_Placing_addTask μ v1 = some (μ', r)) : ∀ l E z, l.stackTraces = false → me_Met l yX5_addTask cX5_addTask 2 (some .int) 0 0 0 0 E B μ z [me_r 9 0, me_i v1] (B, μ', .ok (some (me_i r))) :=
  fun _ _ _ hl => me_ofZ hl (by decide +kernel) (Nat.le_of_ble_eq_true rfl) (fun _ C N hNx => z_Placing_addTask C N hNx hB  hf)

def f_Placing_setTraffic (μ : me_M) (v1 : Int32) (v2 : Int32) (v3 : Int32) : Option (me_M × Int32) :=
  me_gd (me_inb ((v1 * (8 : Int32)) + v2) 64) (
  me_lt ((μ 11 0 (me_ix ((v1 * (8 : Int32)) + v2)))) (fun x2 =>
  me_gd (me_inb ((v1 * (8 : Int32)) + v2) 64) (
  me_lt (me_up μ 11 0 (me_ix ((v1 * (8 : Int32)) + v2)) v3) (fun μ4 =>
  me_gd (me_inb ((v2 * (8 : Int32)) + v1) 64) (
  me_lt (me_up μ4 11 0 (me_ix ((v2 * (8 : Int32)) + v1)) v3) (fun μ6 =>
  some (μ6, x2)))))))
set_option maxHeartbeats 4000000 in
set_option maxRecDepth 100000 in
theorem z_Placing_setTraffic {X : me_X} {B : me_B} {sz : Nat} (C : me_C X B RX5 cX5_setTraffic 5 (some .int)) {μ : me_M} {v1 : Int32} {v2 : Int32} {v3 : Int32}   {r : me_M × Int32} (N : me_En X B sz (B, r.1, .ok (some (me_i r.2))) 0 0 0 0) (hNx : me_Nx X) (hB : me_St B)   (hf : f_Placing_setTraffic μ v1 v2 v3 = some r) : me_Z X B 0 0 μ 0 [(0, me_r 9 0), (1, me_i v1), (2, me_i v2), (3, me_i v3)] [] := by
  unfold f_Placing_setTraffic at hf
  refine me_aload_n C 0 (Or.inr (Or.inl ⟨_, rfl⟩)) dX5_setTraffic_0 rfl rfl ?_
  refine me_getr C hB 2 (k' := 11) (i' := 0) fg_Placing_15 dX5_setTraffic_1 rfl rfl ?_
  refine me_iload_n C 1 dX5_setTraffic_4 rfl rfl ?_
  refine me_bipush C (v := 8) dX5_setTraffic_5 (by decide) ?_
  refine me_imul C dX5_setTraffic_7 ?_
  refine me_iload_n C 2 dX5_setTraffic_8 rfl rfl ?_
  refine me_iadd C dX5_setTraffic_9 ?_
  obtain ⟨g1, hf⟩ := me_gs hf
  refine me_iald C rfl (fun _ => rfl) g1 dX5_setTraffic_10 ?_
  obtain ⟨x2, e_x2, hf⟩ := me_lts hf
  refine me_nm e_x2 ?_
  refine me_istore C dX5_setTraffic_11 (by decide) (L' := [(4, me_i x2), (0, me_r 9 0), (1, me_i v1), (2, me_i v2), (3, me_i v3)]) rfl ?_
  refine me_aload_n C 0 (Or.inr (Or.inl ⟨_, rfl⟩)) dX5_setTraffic_13 rfl rfl ?_
  refine me_getr C hB 2 (k' := 11) (i' := 0) fg_Placing_15 dX5_setTraffic_14 rfl rfl ?_
  refine me_iload_n C 1 dX5_setTraffic_17 rfl rfl ?_
  refine me_bipush C (v := 8) dX5_setTraffic_18 (by decide) ?_
  refine me_imul C dX5_setTraffic_20 ?_
  refine me_iload_n C 2 dX5_setTraffic_21 rfl rfl ?_
  refine me_iadd C dX5_setTraffic_22 ?_
  refine me_iload_n C 3 dX5_setTraffic_23 rfl rfl ?_
  obtain ⟨g3, hf⟩ := me_gs hf
  obtain ⟨μ4, e_μ4, hf⟩ := me_lts hf
  refine me_iast C rfl (fun _ => rfl) g3 dX5_setTraffic_24 e_μ4 ?_
  refine me_aload_n C 0 (Or.inr (Or.inl ⟨_, rfl⟩)) dX5_setTraffic_25 rfl rfl ?_
  refine me_getr C hB 2 (k' := 11) (i' := 0) fg_Placing_15 dX5_setTraffic_26 rfl rfl ?_
  refine me_iload_n C 2 dX5_setTraffic_29 rfl rfl ?_
  refine me_bipush C (v := 8) dX5_setTraffic_30 (by decide) ?_
  refine me_imul C dX5_setTraffic_32 ?_
  refine me_iload_n C 1 dX5_setTraffic_33 rfl rfl ?_
  refine me_iadd C dX5_setTraffic_34 ?_
  refine me_iload_n C 3 dX5_setTraffic_35 rfl rfl ?_
  obtain ⟨g5, hf⟩ := me_gs hf
  obtain ⟨μ6, e_μ6, hf⟩ := me_lts hf
  refine me_iast C rfl (fun _ => rfl) g5 dX5_setTraffic_36 e_μ6 ?_
  refine me_iload C dX5_setTraffic_37 rfl ?_
  exact me_iret C N dX5_setTraffic_39 (me_nri _) (by cases hf; rfl) (by decide) (by decide)
theorem c_Placing_setTraffic {B : me_B} (hB : me_St B) {μ : me_M} {v1 : Int32} {v2 : Int32} {v3 : Int32} {μ' : me_M} {r : Int32}  (hf : f_Placing_setTraffic μ v1 v2 v3 = some (μ', r)) : ∀ l E z, l.stackTraces = false → me_Met l yX5_setTraffic cX5_setTraffic 5 (some .int) 0 0 0 0 E B μ z [me_r 9 0, me_i v1, me_i v2, me_i v3] (B, μ', .ok (some (me_i r))) :=
  fun _ _ _ hl => me_ofZ hl (by decide +kernel) (Nat.le_of_ble_eq_true rfl) (fun _ C N hNx => z_Placing_setTraffic C N hNx hB  hf)

def f_Placing_countCost_b16 (μ : me_M) (K4 : Int32 → Int32 → Option Int32) (K16 : Int32 → Int32 → Int32 → Option Int32) (v1 : Int32) (v2 : Int32) (v3 : Int32) : Option Int32 :=
  if (μ 9 0 3) ≤ v3 then
  (me_lt (me_inc v2 (1)) (fun x2 =>
  K4 v1 x2))
  else
  (me_gd (me_inb ((v2 * (8 : Int32)) + v3) 64) (
  me_gd (me_inb v2 8) (
  me_gd (me_inb v3 8) (
  me_bd (f_Net_stepsBetween μ (μ 10 0 (me_ix v2)) (μ 10 0 (me_ix v3))) (fun r6 =>
  me_lt ((v1 + ((μ 11 0 (me_ix ((v2 * (8 : Int32)) + v3))) * r6))) (fun x7 =>
  me_lt (me_inc v3 (1)) (fun x8 =>
  K16 x7 v2 x8)))))))
set_option maxHeartbeats 4000000 in
set_option maxRecDepth 100000 in
theorem z_Placing_countCost_b16 {X : me_X} {B : me_B} {sz : Nat} (C : me_C X B RX5 cX5_countCost 4 (some .int)) {μ : me_M} {v1 : Int32} {v2 : Int32} {v3 : Int32}  {K4 : Int32 → Int32 → Option Int32} {K16 : Int32 → Int32 → Int32 → Option Int32} {r : Int32} (N : me_En X B sz (B, μ, .ok (some (me_i r))) 2 46 0 0) (hNx : me_Nx X) (hB : me_St B) (hK4 : ∀ (v1 : Int32) (v2 : Int32), K4 v1 v2 = some r → me_Z X B 0 0 μ 4 [(0, me_r 9 0), (1, me_i v1), (2, me_i v2)] []) (hK16 : ∀ (v1 : Int32) (v2 : Int32) (v3 : Int32), K16 v1 v2 v3 = some r → me_Z X B 0 0 μ 16 [(0, me_r 9 0), (1, me_i v1), (2, me_i v2), (3, me_i v3)] [])  (hf : f_Placing_countCost_b16 μ K4 K16 v1 v2 v3 = some r) : me_Z X B 0 0 μ 16 [(0, me_r 9 0), (1, me_i v1), (2, me_i v2), (3, me_i v3)] [] := by
  unfold f_Placing_countCost_b16 at hf
  refine me_iload_n C 3 dX5_countCost_16 rfl rfl ?_
  refine me_aload_n C 0 (Or.inr (Or.inl ⟨_, rfl⟩)) dX5_countCost_17 rfl rfl ?_
  refine me_geti C 3 fg_Placing_22 dX5_countCost_18 rfl ?_
  refine me_icmp_ge C (tgt := 64) dX5_countCost_21 (by decide) (fun c1 => ?_) (fun c1 => ?_)
  · replace hf := me_ip c1 hf
    obtain ⟨x2, e_x2, hf⟩ := me_lts hf
    refine me_iinc C (v := x2) (L' := [(2, me_i x2), (0, me_r 9 0), (1, me_i v1), (3, me_i v3)]) dX5_countCost_64 rfl e_x2.symm (by decide) rfl ?_
    refine me_goto C (tgt := 4) dX5_countCost_67 (by decide) ?_
    refine me_dropI [(0, me_r 9 0), (1, me_i v1), (2, me_i x2)] [1, 2, 0] rfl ?_
    exact hK4 v1 x2 hf
  · replace hf := me_in c1 hf
    refine me_iload_n C 1 dX5_countCost_24 rfl rfl ?_
    refine me_aload_n C 0 (Or.inr (Or.inl ⟨_, rfl⟩)) dX5_countCost_25 rfl rfl ?_
    refine me_getr C hB 2 (k' := 11) (i' := 0) fg_Placing_15 dX5_countCost_26 rfl rfl ?_
    refine me_iload_n C 2 dX5_countCost_29 rfl rfl ?_
    refine me_bipush C (v := 8) dX5_countCost_30 (by decide) ?_
    refine me_imul C dX5_countCost_32 ?_
    refine me_iload_n C 3 dX5_countCost_33 rfl rfl ?_
    refine me_iadd C dX5_countCost_34 ?_
    obtain ⟨g3, hf⟩ := me_gs hf
    refine me_iald C rfl (fun _ => rfl) g3 dX5_countCost_35 ?_
    refine me_aload_n C 0 (Or.inr (Or.inl ⟨_, rfl⟩)) dX5_countCost_36 rfl rfl ?_
    refine me_getr C hB 0 (k' := 1) (i' := 0) fg_Placing_18 dX5_countCost_37 rfl rfl ?_
    refine me_aload_n C 0 (Or.inr (Or.inl ⟨_, rfl⟩)) dX5_countCost_40 rfl rfl ?_
    refine me_getr C hB 1 (k' := 10) (i' := 0) fg_Placing_9 dX5_countCost_41 rfl rfl ?_
    refine me_iload_n C 2 dX5_countCost_44 rfl rfl ?_
    obtain ⟨g4, hf⟩ := me_gs hf
    refine me_iald C rfl (fun _ => rfl) g4 dX5_countCost_45 ?_
    refine me_aload_n C 0 (Or.inr (Or.inl ⟨_, rfl⟩)) dX5_countCost_46 rfl rfl ?_
    refine me_getr C hB 1 (k' := 10) (i' := 0) fg_Placing_9 dX5_countCost_47 rfl rfl ?_
    refine me_iload_n C 3 dX5_countCost_50 rfl rfl ?_
    obtain ⟨g5, hf⟩ := me_gs hf
    refine me_iald C rfl (fun _ => rfl) g5 dX5_countCost_51 ?_
    obtain ⟨r6, h_r6, hf⟩ := me_bs hf
    refine me_callV C N  (As := [me_i (μ 10 0 (me_ix v2)), me_i (μ 10 0 (me_ix v3))]) (st := [me_i (μ 11 0 (me_ix ((v2 * (8 : Int32)) + v3))), me_i v1]) 0 0 (c_Net_stepsBetween hB h_r6) mv_Net_stepsBetween ml_Placing_26 rfl rfl dX5_countCost_52 rfl rfl ⟨by decide, by decide⟩ ⟨by decide, by decide, by decide, by decide⟩ (Nat.le_of_ble_eq_true rfl) ?_
    refine me_imul C dX5_countCost_55 ?_
    refine me_iadd C dX5_countCost_56 ?_
    obtain ⟨x7, e_x7, hf⟩ := me_lts hf
    refine me_nm e_x7 ?_
    refine me_istore_n C 1 dX5_countCost_57 rfl (by decide) (L' := [(1, me_i x7), (0, me_r 9 0), (2, me_i v2), (3, me_i v3)]) rfl ?_
    obtain ⟨x8, e_x8, hf⟩ := me_lts hf
    refine me_iinc C (v := x8) (L' := [(3, me_i x8), (1, me_i x7), (0, me_r 9 0), (2, me_i v2)]) dX5_countCost_58 rfl e_x8.symm (by decide) rfl ?_
    refine me_goto C (tgt := 16) dX5_countCost_61 (by decide) ?_
    refine me_dropI [(0, me_r 9 0), (1, me_i x7), (2, me_i v2), (3, me_i x8)] [2, 1, 3, 0] rfl ?_
    exact hK16 x7 v2 x8 hf
def f_Placing_countCost_h16 (μ : me_M) (K4 : Int32 → Int32 → Option Int32) : Nat → Int32 → Int32 → Int32 → Option Int32
  | 0, _, _, _ => none
  | n + 1, v1, v2, v3 => f_Placing_countCost_b16 μ K4 (f_Placing_countCost_h16 μ K4 n) v1 v2 v3
set_option maxHeartbeats 4000000 in
set_option maxRecDepth 100000 in
theorem z_Placing_countCost_h16 {X : me_X} {B : me_B} {sz : Nat} (C : me_C X B RX5 cX5_countCost 4 (some .int)) {μ : me_M} {K4 : Int32 → Int32 → Option Int32} {r : Int32} (N : me_En X B sz (B, μ, .ok (some (me_i r))) 2 46 0 0) (hNx : me_Nx X) (hB : me_St B) (hK4 : ∀ (v1 : Int32) (v2 : Int32), K4 v1 v2 = some r → me_Z X B 0 0 μ 4 [(0, me_r 9 0), (1, me_i v1), (2, me_i v2)] []) : ∀ (n : Nat) (v1 : Int32) (v2 : Int32) (v3 : Int32), f_Placing_countCost_h16 μ K4 n v1 v2 v3 = some r → me_Z X B 0 0 μ 16 [(0, me_r 9 0), (1, me_i v1), (2, me_i v2), (3, me_i v3)] [] := by
  intro n
  induction n with
  | zero => intro v1 v2 v3  h; exact absurd (show (none : Option Int32) = some r from h) (fun q => by cases q)
  | succ n ih => intro v1 v2 v3  h; exact z_Placing_countCost_b16 C N hNx hB hK4 (K16 := f_Placing_countCost_h16 μ K4 n) ih  h
def f_Placing_countCost_b4 (μ : me_M) (K4 : Int32 → Int32 → Option Int32) (v1 : Int32) (v2 : Int32) : Option Int32 :=
  if (μ 9 0 3) ≤ v2 then
  (some v1)
  else
  (me_lt ((v2 + (1 : Int32))) (fun x2 =>
  f_Placing_countCost_h16 μ K4 me_FU v1 v2 x2))
set_option maxHeartbeats 4000000 in
set_option maxRecDepth 100000 in
theorem z_Placing_countCost_b4 {X : me_X} {B : me_B} {sz : Nat} (C : me_C X B RX5 cX5_countCost 4 (some .int)) {μ : me_M} {v1 : Int32} {v2 : Int32}  {K4 : Int32 → Int32 → Option Int32} {r : Int32} (N : me_En X B sz (B, μ, .ok (some (me_i r))) 2 46 0 0) (hNx : me_Nx X) (hB : me_St B) (hK4 : ∀ (v1 : Int32) (v2 : Int32), K4 v1 v2 = some r → me_Z X B 0 0 μ 4 [(0, me_r 9 0), (1, me_i v1), (2, me_i v2)] [])  (hf : f_Placing_countCost_b4 μ K4 v1 v2 = some r) : me_Z X B 0 0 μ 4 [(0, me_r 9 0), (1, me_i v1), (2, me_i v2)] [] := by
  unfold f_Placing_countCost_b4 at hf
  refine me_iload_n C 2 dX5_countCost_4 rfl rfl ?_
  refine me_aload_n C 0 (Or.inr (Or.inl ⟨_, rfl⟩)) dX5_countCost_5 rfl rfl ?_
  refine me_geti C 3 fg_Placing_22 dX5_countCost_6 rfl ?_
  refine me_icmp_ge C (tgt := 70) dX5_countCost_9 (by decide) (fun c1 => ?_) (fun c1 => ?_)
  · replace hf := me_ip c1 hf
    refine me_iload_n C 1 dX5_countCost_70 rfl rfl ?_
    exact me_iret C N dX5_countCost_71 (me_nri _) (by cases hf; rfl) (by decide) (by decide)
  · replace hf := me_in c1 hf
    refine me_iload_n C 2 dX5_countCost_12 rfl rfl ?_
    refine me_iconst C (v := 1) dX5_countCost_13 (by decide) ?_
    refine me_iadd C dX5_countCost_14 ?_
    obtain ⟨x2, e_x2, hf⟩ := me_lts hf
    refine me_nm e_x2 ?_
    refine me_istore_n C 3 dX5_countCost_15 rfl (by decide) (L' := [(3, me_i x2), (0, me_r 9 0), (1, me_i v1), (2, me_i v2)]) rfl ?_
    refine me_dropI [(0, me_r 9 0), (1, me_i v1), (2, me_i v2), (3, me_i x2)] [1, 2, 3, 0] rfl ?_
    exact z_Placing_countCost_h16 C N hNx hB hK4 me_FU v1 v2 x2 hf
def f_Placing_countCost_h4 (μ : me_M) : Nat → Int32 → Int32 → Option Int32
  | 0, _, _ => none
  | n + 1, v1, v2 => f_Placing_countCost_b4 μ (f_Placing_countCost_h4 μ n) v1 v2
set_option maxHeartbeats 4000000 in
set_option maxRecDepth 100000 in
theorem z_Placing_countCost_h4 {X : me_X} {B : me_B} {sz : Nat} (C : me_C X B RX5 cX5_countCost 4 (some .int)) {μ : me_M}  {r : Int32} (N : me_En X B sz (B, μ, .ok (some (me_i r))) 2 46 0 0) (hNx : me_Nx X) (hB : me_St B)  : ∀ (n : Nat) (v1 : Int32) (v2 : Int32), f_Placing_countCost_h4 μ n v1 v2 = some r → me_Z X B 0 0 μ 4 [(0, me_r 9 0), (1, me_i v1), (2, me_i v2)] [] := by
  intro n
  induction n with
  | zero => intro v1 v2  h; exact absurd (show (none : Option Int32) = some r from h) (fun q => by cases q)
  | succ n ih => intro v1 v2  h; exact z_Placing_countCost_b4 C N hNx hB  (K4 := f_Placing_countCost_h4 μ n) ih  h
def f_Placing_countCost (μ : me_M) : Option Int32 :=
  f_Placing_countCost_h4 μ me_FU (0 : Int32) (0 : Int32)
set_option maxHeartbeats 4000000 in
set_option maxRecDepth 100000 in
theorem z_Placing_countCost {X : me_X} {B : me_B} {sz : Nat} (C : me_C X B RX5 cX5_countCost 4 (some .int)) {μ : me_M}    {r : Int32} (N : me_En X B sz (B, μ, .ok (some (me_i r))) 2 46 0 0) (hNx : me_Nx X) (hB : me_St B)   (hf : f_Placing_countCost μ = some r) : me_Z X B 0 0 μ 0 [(0, me_r 9 0)] [] := by
  unfold f_Placing_countCost at hf
  refine me_iconst C (v := 0) dX5_countCost_0 (by decide) ?_
  refine me_istore_n C 1 dX5_countCost_1 rfl (by decide) (L' := [(1, me_i (0 : Int32)), (0, me_r 9 0)]) rfl ?_
  refine me_iconst C (v := 0) dX5_countCost_2 (by decide) ?_
  refine me_istore_n C 2 dX5_countCost_3 rfl (by decide) (L' := [(2, me_i (0 : Int32)), (1, me_i (0 : Int32)), (0, me_r 9 0)]) rfl ?_
  refine me_dropI [(0, me_r 9 0), (1, me_i (0 : Int32)), (2, me_i (0 : Int32))] [2, 1, 0] rfl ?_
  exact z_Placing_countCost_h4 C N hNx hB me_FU (0 : Int32) (0 : Int32) hf
theorem c_Placing_countCost {B : me_B} (hB : me_St B) {μ : me_M}  {r : Int32}  (hf : f_Placing_countCost μ = some r) : ∀ l E z, l.stackTraces = false → me_Met l yX5_countCost cX5_countCost 4 (some .int) 2 46 0 0 E B μ z [me_r 9 0] (B, μ, .ok (some (me_i r))) :=
  fun _ _ _ hl => me_ofZ hl (by decide +kernel) (Nat.le_of_ble_eq_true rfl) (fun _ C N hNx => z_Placing_countCost C N hNx hB  hf)

def f_Placing_exchange (μ : me_M) (v1 : Int32) (v2 : Int32) : Option (me_M × Unit) :=
  me_gd (me_inb v1 8) (
  me_lt ((μ 10 0 (me_ix v1))) (fun x2 =>
  me_gd (me_inb v2 8) (
  me_gd (me_inb v1 8) (
  me_lt (me_up μ 10 0 (me_ix v1) (μ 10 0 (me_ix v2))) (fun μ5 =>
  me_gd (me_inb v2 8) (
  me_lt (me_up μ5 10 0 (me_ix v2) x2) (fun μ7 =>
  some (μ7, ()))))))))
set_option maxHeartbeats 4000000 in
set_option maxRecDepth 100000 in
theorem z_Placing_exchange {X : me_X} {B : me_B} {sz : Nat} (C : me_C X B RX5 cX5_exchange 4 none) {μ : me_M} {v1 : Int32} {v2 : Int32}   {r : me_M × Unit} (N : me_En X B sz (B, r.1, .ok (none)) 0 0 0 0) (hNx : me_Nx X) (hB : me_St B)   (hf : f_Placing_exchange μ v1 v2 = some r) : me_Z X B 0 0 μ 0 [(0, me_r 9 0), (1, me_i v1), (2, me_i v2)] [] := by
  unfold f_Placing_exchange at hf
  refine me_aload_n C 0 (Or.inr (Or.inl ⟨_, rfl⟩)) dX5_exchange_0 rfl rfl ?_
  refine me_getr C hB 1 (k' := 10) (i' := 0) fg_Placing_9 dX5_exchange_1 rfl rfl ?_
  refine me_iload_n C 1 dX5_exchange_4 rfl rfl ?_
  obtain ⟨g1, hf⟩ := me_gs hf
  refine me_iald C rfl (fun _ => rfl) g1 dX5_exchange_5 ?_
  obtain ⟨x2, e_x2, hf⟩ := me_lts hf
  refine me_nm e_x2 ?_
  refine me_istore_n C 3 dX5_exchange_6 rfl (by decide) (L' := [(3, me_i x2), (0, me_r 9 0), (1, me_i v1), (2, me_i v2)]) rfl ?_
  refine me_aload_n C 0 (Or.inr (Or.inl ⟨_, rfl⟩)) dX5_exchange_7 rfl rfl ?_
  refine me_getr C hB 1 (k' := 10) (i' := 0) fg_Placing_9 dX5_exchange_8 rfl rfl ?_
  refine me_iload_n C 1 dX5_exchange_11 rfl rfl ?_
  refine me_aload_n C 0 (Or.inr (Or.inl ⟨_, rfl⟩)) dX5_exchange_12 rfl rfl ?_
  refine me_getr C hB 1 (k' := 10) (i' := 0) fg_Placing_9 dX5_exchange_13 rfl rfl ?_
  refine me_iload_n C 2 dX5_exchange_16 rfl rfl ?_
  obtain ⟨g3, hf⟩ := me_gs hf
  refine me_iald C rfl (fun _ => rfl) g3 dX5_exchange_17 ?_
  obtain ⟨g4, hf⟩ := me_gs hf
  obtain ⟨μ5, e_μ5, hf⟩ := me_lts hf
  refine me_iast C rfl (fun _ => rfl) g4 dX5_exchange_18 e_μ5 ?_
  refine me_aload_n C 0 (Or.inr (Or.inl ⟨_, rfl⟩)) dX5_exchange_19 rfl rfl ?_
  refine me_getr C hB 1 (k' := 10) (i' := 0) fg_Placing_9 dX5_exchange_20 rfl rfl ?_
  refine me_iload_n C 2 dX5_exchange_23 rfl rfl ?_
  refine me_iload_n C 3 dX5_exchange_24 rfl rfl ?_
  obtain ⟨g6, hf⟩ := me_gs hf
  obtain ⟨μ7, e_μ7, hf⟩ := me_lts hf
  refine me_iast C rfl (fun _ => rfl) g6 dX5_exchange_25 e_μ7 ?_
  exact me_vret C N dX5_exchange_26 (by cases hf; rfl) (by decide) (by decide)
theorem c_Placing_exchange {B : me_B} (hB : me_St B) {μ : me_M} {v1 : Int32} {v2 : Int32} {μ' : me_M} {r : Unit}  (hf : f_Placing_exchange μ v1 v2 = some (μ', r)) : ∀ l E z, l.stackTraces = false → me_Met l yX5_exchange cX5_exchange 4 none 0 0 0 0 E B μ z [me_r 9 0, me_i v1, me_i v2] (B, μ', .ok (none)) :=
  fun _ _ _ hl => me_ofZ hl (by decide +kernel) (Nat.le_of_ble_eq_true rfl) (fun _ C N hNx => z_Placing_exchange C N hNx hB  hf)

def f_Placing_swapBest_b30 (K15 : me_M → Int32 → Int32 → Int32 → Int32 → Int32 → Option (me_M × Int32)) (K30 : me_M → Int32 → Int32 → Int32 → Int32 → Int32 → Int32 → Option (me_M × Int32)) (μ : me_M) (v1 : Int32) (v2 : Int32) (v3 : Int32) (v4 : Int32) (v5 : Int32) (v6 : Int32) : Option (me_M × Int32) :=
  if (μ 9 0 3) ≤ v6 then
  (me_lt (me_inc v5 (1)) (fun x2 =>
  K15 μ v1 v2 v3 v4 x2))
  else
  (me_b2 (f_Placing_exchange μ v5 v6) (fun μ4 r3 =>
  me_bd (f_Placing_countCost μ4) (fun r5 =>
  me_lt ((v1 - r5)) (fun x6 =>
  me_b2 (f_Placing_exchange μ4 v5 v6) (fun μ8 r7 =>
  if x6 ≤ v2 then
  (me_lt (me_inc v6 (1)) (fun x10 =>
  K30 μ8 v1 v2 v3 v4 v5 x10))
  else
  (me_lt (me_inc v6 (1)) (fun x11 =>
  K30 μ8 v1 x6 v5 v6 v5 x11)))))))
set_option maxHeartbeats 4000000 in
set_option maxRecDepth 100000 in
theorem z_Placing_swapBest_b30 {X : me_X} {B : me_B} {sz : Nat} (C : me_C X B RX5 cX5_swapBest 8 (some .int)) {μ : me_M} {v1 : Int32} {v2 : Int32} {v3 : Int32} {v4 : Int32} {v5 : Int32} {v6 : Int32}  {K15 : me_M → Int32 → Int32 → Int32 → Int32 → Int32 → Option (me_M × Int32)} {K30 : me_M → Int32 → Int32 → Int32 → Int32 → Int32 → Int32 → Option (me_M × Int32)} {r : me_M × Int32} (N : me_En X B sz (B, r.1, .ok (some (me_i r.2))) 3 69 0 0) (hNx : me_Nx X) (hB : me_St B) (hK15 : ∀ (μ : me_M) (v1 : Int32) (v2 : Int32) (v3 : Int32) (v4 : Int32) (v5 : Int32), K15 μ v1 v2 v3 v4 v5 = some r → me_Z X B 0 0 μ 15 [(0, me_r 9 0), (1, me_i v1), (2, me_i v2), (3, me_i v3), (4, me_i v4), (5, me_i v5)] []) (hK30 : ∀ (μ : me_M) (v1 : Int32) (v2 : Int32) (v3 : Int32) (v4 : Int32) (v5 : Int32) (v6 : Int32), K30 μ v1 v2 v3 v4 v5 v6 = some r → me_Z X B 0 0 μ 30 [(0, me_r 9 0), (1, me_i v1), (2, me_i v2), (3, me_i v3), (4, me_i v4), (5, me_i v5), (6, me_i v6)] [])  (hf : f_Placing_swapBest_b30 K15 K30 μ v1 v2 v3 v4 v5 v6 = some r) : me_Z X B 0 0 μ 30 [(0, me_r 9 0), (1, me_i v1), (2, me_i v2), (3, me_i v3), (4, me_i v4), (5, me_i v5), (6, me_i v6)] [] := by
  unfold f_Placing_swapBest_b30 at hf
  refine me_iload C dX5_swapBest_30 rfl ?_
  refine me_aload_n C 0 (Or.inr (Or.inl ⟨_, rfl⟩)) dX5_swapBest_32 rfl rfl ?_
  refine me_geti C 3 fg_Placing_22 dX5_swapBest_33 rfl ?_
  refine me_icmp_ge C (tgt := 85) dX5_swapBest_36 (by decide) (fun c1 => ?_) (fun c1 => ?_)
  · replace hf := me_ip c1 hf
    obtain ⟨x2, e_x2, hf⟩ := me_lts hf
    refine me_iinc C (v := x2) (L' := [(5, me_i x2), (0, me_r 9 0), (1, me_i v1), (2, me_i v2), (3, me_i v3), (4, me_i v4), (6, me_i v6)]) dX5_swapBest_85 rfl e_x2.symm (by decide) rfl ?_
    refine me_goto C (tgt := 15) dX5_swapBest_88 (by decide) ?_
    refine me_dropI [(0, me_r 9 0), (1, me_i v1), (2, me_i v2), (3, me_i v3), (4, me_i v4), (5, me_i x2)] [1, 2, 3, 4, 5, 0] rfl ?_
    exact hK15 μ v1 v2 v3 v4 x2 hf
  · replace hf := me_in c1 hf
    refine me_aload_n C 0 (Or.inr (Or.inl ⟨_, rfl⟩)) dX5_swapBest_39 rfl rfl ?_
    refine me_iload C dX5_swapBest_40 rfl ?_
    refine me_iload C dX5_swapBest_42 rfl ?_
    obtain ⟨μ4, r3, h_r3, hf⟩ := me_bs2 hf
    refine me_callV0 C N  (As := [me_i v5, me_i v6]) (st := []) 0 0 (c_Placing_exchange hB h_r3) mv_Placing_exchange ml_Placing_36 rfl rfl dX5_swapBest_44 rfl rfl ⟨by decide, by decide⟩ ⟨by decide, by decide, by decide, by decide⟩ (Nat.le_of_ble_eq_true rfl) ?_
    refine me_iload_n C 1 dX5_swapBest_47 rfl rfl ?_
    refine me_aload_n C 0 (Or.inr (Or.inl ⟨_, rfl⟩)) dX5_swapBest_48 rfl rfl ?_
    obtain ⟨r5, h_r5, hf⟩ := me_bs hf
    refine me_callV C N  (As := []) (st := [me_i v1]) 0 0 (c_Placing_countCost hB h_r5) mv_Placing_countCost ml_Placing_32 rfl rfl dX5_swapBest_49 rfl rfl ⟨by decide, by decide⟩ ⟨by decide, by decide, by decide, by decide⟩ (Nat.le_of_ble_eq_true rfl) ?_
    refine me_isub C dX5_swapBest_52 ?_
    obtain ⟨x6, e_x6, hf⟩ := me_lts hf
    refine me_nm e_x6 ?_
    refine me_istore C dX5_swapBest_53 (by decide) (L' := [(7, me_i x6), (0, me_r 9 0), (1, me_i v1), (2, me_i v2), (3, me_i v3), (4, me_i v4), (5, me_i v5), (6, me_i v6)]) rfl ?_
    refine me_aload_n C 0 (Or.inr (Or.inl ⟨_, rfl⟩)) dX5_swapBest_55 rfl rfl ?_
    refine me_iload C dX5_swapBest_56 rfl ?_
    refine me_iload C dX5_swapBest_58 rfl ?_
    obtain ⟨μ8, r7, h_r7, hf⟩ := me_bs2 hf
    refine me_callV0 C N  (As := [me_i v5, me_i v6]) (st := []) 0 0 (c_Placing_exchange hB h_r7) mv_Placing_exchange ml_Placing_36 rfl rfl dX5_swapBest_60 rfl rfl ⟨by decide, by decide⟩ ⟨by decide, by decide, by decide, by decide⟩ (Nat.le_of_ble_eq_true rfl) ?_
    refine me_iload C dX5_swapBest_63 rfl ?_
    refine me_iload_n C 2 dX5_swapBest_65 rfl rfl ?_
    refine me_icmp_le C (tgt := 79) dX5_swapBest_66 (by decide) (fun c9 => ?_) (fun c9 => ?_)
    · replace hf := me_ip c9 hf
      obtain ⟨x10, e_x10, hf⟩ := me_lts hf
      refine me_iinc C (v := x10) (L' := [(6, me_i x10), (7, me_i x6), (0, me_r 9 0), (1, me_i v1), (2, me_i v2), (3, me_i v3), (4, me_i v4), (5, me_i v5)]) dX5_swapBest_79 rfl e_x10.symm (by decide) rfl ?_
      refine me_goto C (tgt := 30) dX5_swapBest_82 (by decide) ?_
      refine me_dropI [(0, me_r 9 0), (1, me_i v1), (2, me_i v2), (3, me_i v3), (4, me_i v4), (5, me_i v5), (6, me_i x10)] [2, 3, 4, 5, 6, 7, 0] rfl ?_
      exact hK30 μ8 v1 v2 v3 v4 v5 x10 hf
    · replace hf := me_in c9 hf
      refine me_iload C dX5_swapBest_69 rfl ?_
      refine me_istore_n C 2 dX5_swapBest_71 rfl (by decide) (L' := [(2, me_i x6), (7, me_i x6), (0, me_r 9 0), (1, me_i v1), (3, me_i v3), (4, me_i v4), (5, me_i v5), (6, me_i v6)]) rfl ?_
      refine me_iload C dX5_swapBest_72 rfl ?_
      refine me_istore_n C 3 dX5_swapBest_74 rfl (by decide) (L' := [(3, me_i v5), (2, me_i x6), (7, me_i x6), (0, me_r 9 0), (1, me_i v1), (4, me_i v4), (5, me_i v5), (6, me_i v6)]) rfl ?_
      refine me_iload C dX5_swapBest_75 rfl ?_
      refine me_istore C dX5_swapBest_77 (by decide) (L' := [(4, me_i v6), (3, me_i v5), (2, me_i x6), (7, me_i x6), (0, me_r 9 0), (1, me_i v1), (5, me_i v5), (6, me_i v6)]) rfl ?_
      obtain ⟨x11, e_x11, hf⟩ := me_lts hf
      refine me_iinc C (v := x11) (L' := [(6, me_i x11), (4, me_i v6), (3, me_i v5), (2, me_i x6), (7, me_i x6), (0, me_r 9 0), (1, me_i v1), (5, me_i v5)]) dX5_swapBest_79 rfl e_x11.symm (by decide) rfl ?_
      refine me_goto C (tgt := 30) dX5_swapBest_82 (by decide) ?_
      refine me_dropI [(0, me_r 9 0), (1, me_i v1), (2, me_i x6), (3, me_i v5), (4, me_i v6), (5, me_i v5), (6, me_i x11)] [5, 6, 3, 2, 1, 7, 0] rfl ?_
      exact hK30 μ8 v1 x6 v5 v6 v5 x11 hf
def f_Placing_swapBest_h30 (K15 : me_M → Int32 → Int32 → Int32 → Int32 → Int32 → Option (me_M × Int32)) : Nat → me_M → Int32 → Int32 → Int32 → Int32 → Int32 → Int32 → Option (me_M × Int32)
  | 0, _, _, _, _, _, _, _ => none
  | n + 1, μ, v1, v2, v3, v4, v5, v6 => f_Placing_swapBest_b30 K15 (f_Placing_swapBest_h30 K15 n) μ v1 v2 v3 v4 v5 v6
set_option maxHeartbeats 4000000 in
set_option maxRecDepth 100000 in
theorem z_Placing_swapBest_h30 {X : me_X} {B : me_B} {sz : Nat} (C : me_C X B RX5 cX5_swapBest 8 (some .int)) {K15 : me_M → Int32 → Int32 → Int32 → Int32 → Int32 → Option (me_M × Int32)} {r : me_M × Int32} (N : me_En X B sz (B, r.1, .ok (some (me_i r.2))) 3 69 0 0) (hNx : me_Nx X) (hB : me_St B) (hK15 : ∀ (μ : me_M) (v1 : Int32) (v2 : Int32) (v3 : Int32) (v4 : Int32) (v5 : Int32), K15 μ v1 v2 v3 v4 v5 = some r → me_Z X B 0 0 μ 15 [(0, me_r 9 0), (1, me_i v1), (2, me_i v2), (3, me_i v3), (4, me_i v4), (5, me_i v5)] []) : ∀ (n : Nat) (μ : me_M) (v1 : Int32) (v2 : Int32) (v3 : Int32) (v4 : Int32) (v5 : Int32) (v6 : Int32), f_Placing_swapBest_h30 K15 n μ v1 v2 v3 v4 v5 v6 = some r → me_Z X B 0 0 μ 30 [(0, me_r 9 0), (1, me_i v1), (2, me_i v2), (3, me_i v3), (4, me_i v4), (5, me_i v5), (6, me_i v6)] [] := by
  intro n
  induction n with
  | zero => intro μ v1 v2 v3 v4 v5 v6  h; exact absurd (show (none : Option (me_M × Int32)) = some r from h) (fun q => by cases q)
  | succ n ih => intro μ v1 v2 v3 v4 v5 v6  h; exact z_Placing_swapBest_b30 C N hNx hB hK15 (K30 := f_Placing_swapBest_h30 K15 n) ih  h
def f_Placing_swapBest_b15 (K15 : me_M → Int32 → Int32 → Int32 → Int32 → Int32 → Option (me_M × Int32)) (μ : me_M) (v1 : Int32) (v2 : Int32) (v3 : Int32) (v4 : Int32) (v5 : Int32) : Option (me_M × Int32) :=
  if (μ 9 0 3) ≤ v5 then
  (me_b2 (f_Placing_exchange μ v3 v4) (fun μ3 r2 =>
  some (μ3, v2)))
  else
  (me_lt ((v5 + (1 : Int32))) (fun x4 =>
  f_Placing_swapBest_h30 K15 me_FU μ v1 v2 v3 v4 v5 x4))
set_option maxHeartbeats 4000000 in
set_option maxRecDepth 100000 in
theorem z_Placing_swapBest_b15 {X : me_X} {B : me_B} {sz : Nat} (C : me_C X B RX5 cX5_swapBest 8 (some .int)) {μ : me_M} {v1 : Int32} {v2 : Int32} {v3 : Int32} {v4 : Int32} {v5 : Int32}  {K15 : me_M → Int32 → Int32 → Int32 → Int32 → Int32 → Option (me_M × Int32)} {r : me_M × Int32} (N : me_En X B sz (B, r.1, .ok (some (me_i r.2))) 3 69 0 0) (hNx : me_Nx X) (hB : me_St B) (hK15 : ∀ (μ : me_M) (v1 : Int32) (v2 : Int32) (v3 : Int32) (v4 : Int32) (v5 : Int32), K15 μ v1 v2 v3 v4 v5 = some r → me_Z X B 0 0 μ 15 [(0, me_r 9 0), (1, me_i v1), (2, me_i v2), (3, me_i v3), (4, me_i v4), (5, me_i v5)] [])  (hf : f_Placing_swapBest_b15 K15 μ v1 v2 v3 v4 v5 = some r) : me_Z X B 0 0 μ 15 [(0, me_r 9 0), (1, me_i v1), (2, me_i v2), (3, me_i v3), (4, me_i v4), (5, me_i v5)] [] := by
  unfold f_Placing_swapBest_b15 at hf
  refine me_iload C dX5_swapBest_15 rfl ?_
  refine me_aload_n C 0 (Or.inr (Or.inl ⟨_, rfl⟩)) dX5_swapBest_17 rfl rfl ?_
  refine me_geti C 3 fg_Placing_22 dX5_swapBest_18 rfl ?_
  refine me_icmp_ge C (tgt := 91) dX5_swapBest_21 (by decide) (fun c1 => ?_) (fun c1 => ?_)
  · replace hf := me_ip c1 hf
    refine me_aload_n C 0 (Or.inr (Or.inl ⟨_, rfl⟩)) dX5_swapBest_91 rfl rfl ?_
    refine me_iload_n C 3 dX5_swapBest_92 rfl rfl ?_
    refine me_iload C dX5_swapBest_93 rfl ?_
    obtain ⟨μ3, r2, h_r2, hf⟩ := me_bs2 hf
    refine me_callV0 C N  (As := [me_i v3, me_i v4]) (st := []) 0 0 (c_Placing_exchange hB h_r2) mv_Placing_exchange ml_Placing_36 rfl rfl dX5_swapBest_95 rfl rfl ⟨by decide, by decide⟩ ⟨by decide, by decide, by decide, by decide⟩ (Nat.le_of_ble_eq_true rfl) ?_
    refine me_iload_n C 2 dX5_swapBest_98 rfl rfl ?_
    exact me_iret C N dX5_swapBest_99 (me_nri _) (by cases hf; rfl) (by decide) (by decide)
  · replace hf := me_in c1 hf
    refine me_iload C dX5_swapBest_24 rfl ?_
    refine me_iconst C (v := 1) dX5_swapBest_26 (by decide) ?_
    refine me_iadd C dX5_swapBest_27 ?_
    obtain ⟨x4, e_x4, hf⟩ := me_lts hf
    refine me_nm e_x4 ?_
    refine me_istore C dX5_swapBest_28 (by decide) (L' := [(6, me_i x4), (0, me_r 9 0), (1, me_i v1), (2, me_i v2), (3, me_i v3), (4, me_i v4), (5, me_i v5)]) rfl ?_
    refine me_dropI [(0, me_r 9 0), (1, me_i v1), (2, me_i v2), (3, me_i v3), (4, me_i v4), (5, me_i v5), (6, me_i x4)] [1, 2, 3, 4, 5, 6, 0] rfl ?_
    exact z_Placing_swapBest_h30 C N hNx hB hK15 me_FU μ v1 v2 v3 v4 v5 x4 hf
def f_Placing_swapBest_h15  : Nat → me_M → Int32 → Int32 → Int32 → Int32 → Int32 → Option (me_M × Int32)
  | 0, _, _, _, _, _, _ => none
  | n + 1, μ, v1, v2, v3, v4, v5 => f_Placing_swapBest_b15 (f_Placing_swapBest_h15 n) μ v1 v2 v3 v4 v5
set_option maxHeartbeats 4000000 in
set_option maxRecDepth 100000 in
theorem z_Placing_swapBest_h15 {X : me_X} {B : me_B} {sz : Nat} (C : me_C X B RX5 cX5_swapBest 8 (some .int))  {r : me_M × Int32} (N : me_En X B sz (B, r.1, .ok (some (me_i r.2))) 3 69 0 0) (hNx : me_Nx X) (hB : me_St B)  : ∀ (n : Nat) (μ : me_M) (v1 : Int32) (v2 : Int32) (v3 : Int32) (v4 : Int32) (v5 : Int32), f_Placing_swapBest_h15 n μ v1 v2 v3 v4 v5 = some r → me_Z X B 0 0 μ 15 [(0, me_r 9 0), (1, me_i v1), (2, me_i v2), (3, me_i v3), (4, me_i v4), (5, me_i v5)] [] := by
  intro n
  induction n with
  | zero => intro μ v1 v2 v3 v4 v5  h; exact absurd (show (none : Option (me_M × Int32)) = some r from h) (fun q => by cases q)
  | succ n ih => intro μ v1 v2 v3 v4 v5  h; exact z_Placing_swapBest_b15 C N hNx hB  (K15 := f_Placing_swapBest_h15 n) ih  h
def f_Placing_swapBest (μ : me_M) : Option (me_M × Int32) :=
  me_bd (f_Placing_countCost μ) (fun r1 =>
  f_Placing_swapBest_h15 me_FU μ r1 (0 : Int32) (0 : Int32) (0 : Int32) (0 : Int32))
set_option maxHeartbeats 4000000 in
set_option maxRecDepth 100000 in
theorem z_Placing_swapBest {X : me_X} {B : me_B} {sz : Nat} (C : me_C X B RX5 cX5_swapBest 8 (some .int)) {μ : me_M}    {r : me_M × Int32} (N : me_En X B sz (B, r.1, .ok (some (me_i r.2))) 3 69 0 0) (hNx : me_Nx X) (hB : me_St B)   (hf : f_Placing_swapBest μ = some r) : me_Z X B 0 0 μ 0 [(0, me_r 9 0)] [] := by
  unfold f_Placing_swapBest at hf
  refine me_aload_n C 0 (Or.inr (Or.inl ⟨_, rfl⟩)) dX5_swapBest_0 rfl rfl ?_
  obtain ⟨r1, h_r1, hf⟩ := me_bs hf
  refine me_callV C N  (As := []) (st := []) 0 0 (c_Placing_countCost hB h_r1) mv_Placing_countCost ml_Placing_32 rfl rfl dX5_swapBest_1 rfl rfl ⟨by decide, by decide⟩ ⟨by decide, by decide, by decide, by decide⟩ (Nat.le_of_ble_eq_true rfl) ?_
  refine me_istore_n C 1 dX5_swapBest_4 rfl (by decide) (L' := [(1, me_i r1), (0, me_r 9 0)]) rfl ?_
  refine me_iconst C (v := 0) dX5_swapBest_5 (by decide) ?_
  refine me_istore_n C 2 dX5_swapBest_6 rfl (by decide) (L' := [(2, me_i (0 : Int32)), (1, me_i r1), (0, me_r 9 0)]) rfl ?_
  refine me_iconst C (v := 0) dX5_swapBest_7 (by decide) ?_
  refine me_istore_n C 3 dX5_swapBest_8 rfl (by decide) (L' := [(3, me_i (0 : Int32)), (2, me_i (0 : Int32)), (1, me_i r1), (0, me_r 9 0)]) rfl ?_
  refine me_iconst C (v := 0) dX5_swapBest_9 (by decide) ?_
  refine me_istore C dX5_swapBest_10 (by decide) (L' := [(4, me_i (0 : Int32)), (3, me_i (0 : Int32)), (2, me_i (0 : Int32)), (1, me_i r1), (0, me_r 9 0)]) rfl ?_
  refine me_iconst C (v := 0) dX5_swapBest_12 (by decide) ?_
  refine me_istore C dX5_swapBest_13 (by decide) (L' := [(5, me_i (0 : Int32)), (4, me_i (0 : Int32)), (3, me_i (0 : Int32)), (2, me_i (0 : Int32)), (1, me_i r1), (0, me_r 9 0)]) rfl ?_
  refine me_dropI [(0, me_r 9 0), (1, me_i r1), (2, me_i (0 : Int32)), (3, me_i (0 : Int32)), (4, me_i (0 : Int32)), (5, me_i (0 : Int32))] [5, 4, 3, 2, 1, 0] rfl ?_
  exact z_Placing_swapBest_h15 C N hNx hB me_FU μ r1 (0 : Int32) (0 : Int32) (0 : Int32) (0 : Int32) hf
theorem c_Placing_swapBest {B : me_B} (hB : me_St B) {μ : me_M}  {μ' : me_M} {r : Int32}  (hf : f_Placing_swapBest μ = some (μ', r)) : ∀ l E z, l.stackTraces = false → me_Met l yX5_swapBest cX5_swapBest 8 (some .int) 3 69 0 0 E B μ z [me_r 9 0] (B, μ', .ok (some (me_i r))) :=
  fun _ _ _ hl => me_ofZ hl (by decide +kernel) (Nat.le_of_ble_eq_true rfl) (fun _ C N hNx => z_Placing_swapBest C N hNx hB  hf)
