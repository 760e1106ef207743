/-! WALKS: M_begins, M_net, M_beside, M_room, M_made, M_send -/
theorem dX12_begins_0 : decode cX12_begins 0 = .ok (.iconst 0, 1) := by decide +kernel
theorem dX12_begins_1 : decode cX12_begins 1 = .ok (.istore_n 1, 1) := by decide +kernel
theorem dX12_begins_2 : decode cX12_begins 2 = .ok (.iload_n 1, 1) := by decide +kernel
theorem dX12_begins_3 : decode cX12_begins 3 = .ok (.bipush 16, 2) := by decide +kernel
theorem dX12_begins_5 : decode cX12_begins 5 = .ok (.if_icmp .ge 167, 3) := by decide +kernel
theorem dX12_begins_8 : decode cX12_begins 8 = .ok (.iconst 0, 1) := by decide +kernel
theorem dX12_begins_9 : decode cX12_begins 9 = .ok (.istore_n 2, 1) := by decide +kernel
theorem dX12_begins_10 : decode cX12_begins 10 = .ok (.iload_n 2, 1) := by decide +kernel
theorem dX12_begins_11 : decode cX12_begins 11 = .ok (.iconst 2, 1) := by decide +kernel
theorem dX12_begins_12 : decode cX12_begins 12 = .ok (.if_icmp .ge 66, 3) := by decide +kernel
theorem dX12_begins_15 : decode cX12_begins 15 = .ok (.iconst 0, 1) := by decide +kernel
theorem dX12_begins_16 : decode cX12_begins 16 = .ok (.istore_n 3, 1) := by decide +kernel
theorem dX12_begins_17 : decode cX12_begins 17 = .ok (.iload_n 3, 1) := by decide +kernel
theorem dX12_begins_18 : decode cX12_begins 18 = .ok (.iconst 5, 1) := by decide +kernel
theorem dX12_begins_19 : decode cX12_begins 19 = .ok (.if_icmp .ge 53, 3) := by decide +kernel
theorem dX12_begins_22 : decode cX12_begins 22 = .ok (.aload_n 0, 1) := by decide +kernel
theorem dX12_begins_23 : decode cX12_begins 23 = .ok (.getfield 75, 3) := by decide +kernel
theorem dX12_begins_26 : decode cX12_begins 26 = .ok (.iload_n 1, 1) := by decide +kernel
theorem dX12_begins_27 : decode cX12_begins 27 = .ok (.aaload, 1) := by decide +kernel
theorem dX12_begins_28 : decode cX12_begins 28 = .ok (.iload_n 2, 1) := by decide +kernel
theorem dX12_begins_29 : decode cX12_begins 29 = .ok (.aaload, 1) := by decide +kernel
theorem dX12_begins_30 : decode cX12_begins 30 = .ok (.iload_n 3, 1) := by decide +kernel
theorem dX12_begins_31 : decode cX12_begins 31 = .ok (.iconst 0, 1) := by decide +kernel
theorem dX12_begins_32 : decode cX12_begins 32 = .ok (.iastore, 1) := by decide +kernel
theorem dX12_begins_33 : decode cX12_begins 33 = .ok (.aload_n 0, 1) := by decide +kernel
theorem dX12_begins_34 : decode cX12_begins 34 = .ok (.getfield 78, 3) := by decide +kernel
theorem dX12_begins_37 : decode cX12_begins 37 = .ok (.iload_n 1, 1) := by decide +kernel
theorem dX12_begins_38 : decode cX12_begins 38 = .ok (.aaload, 1) := by decide +kernel
theorem dX12_begins_39 : decode cX12_begins 39 = .ok (.iload_n 2, 1) := by decide +kernel
theorem dX12_begins_40 : decode cX12_begins 40 = .ok (.aaload, 1) := by decide +kernel
theorem dX12_begins_41 : decode cX12_begins 41 = .ok (.iload_n 3, 1) := by decide +kernel
theorem dX12_begins_42 : decode cX12_begins 42 = .ok (.iconst (-1), 1) := by decide +kernel
theorem dX12_begins_43 : decode cX12_begins 43 = .ok (.iastore, 1) := by decide +kernel
theorem dX12_begins_44 : decode cX12_begins 44 = .ok (.aload_n 0, 1) := by decide +kernel
theorem dX12_begins_45 : decode cX12_begins 45 = .ok (.getfield 84, 3) := by decide +kernel
theorem dX12_begins_48 : decode cX12_begins 48 = .ok (.iload_n 1, 1) := by decide +kernel
theorem dX12_begins_49 : decode cX12_begins 49 = .ok (.aaload, 1) := by decide +kernel
theorem dX12_begins_50 : decode cX12_begins 50 = .ok (.iload_n 2, 1) := by decide +kernel
theorem dX12_begins_51 : decode cX12_begins 51 = .ok (.aaload, 1) := by decide +kernel
theorem dX12_begins_52 : decode cX12_begins 52 = .ok (.iload_n 3, 1) := by decide +kernel
theorem dX12_begins_53 : decode cX12_begins 53 = .ok (.iconst 0, 1) := by decide +kernel
theorem dX12_begins_54 : decode cX12_begins 54 = .ok (.iastore, 1) := by decide +kernel
theorem dX12_begins_55 : decode cX12_begins 55 = .ok (.aload_n 0, 1) := by decide +kernel
theorem dX12_begins_56 : decode cX12_begins 56 = .ok (.getfield 87, 3) := by decide +kernel
theorem dX12_begins_59 : decode cX12_begins 59 = .ok (.iload_n 1, 1) := by decide +kernel
theorem dX12_begins_60 : decode cX12_begins 60 = .ok (.aaload, 1) := by decide +kernel
theorem dX12_begins_61 : decode cX12_begins 61 = .ok (.iload_n 2, 1) := by decide +kernel
theorem dX12_begins_62 : decode cX12_begins 62 = .ok (.aaload, 1) := by decide +kernel
theorem dX12_begins_63 : decode cX12_begins 63 = .ok (.iload_n 3, 1) := by decide +kernel
theorem dX12_begins_64 : decode cX12_begins 64 = .ok (.iconst 4, 1) := by decide +kernel
theorem dX12_begins_65 : decode cX12_begins 65 = .ok (.iastore, 1) := by decide +kernel
theorem dX12_begins_66 : decode cX12_begins 66 = .ok (.iinc 3 1, 3) := by decide +kernel
theorem dX12_begins_69 : decode cX12_begins 69 = .ok (.goto (-52), 3) := by decide +kernel
theorem dX12_begins_72 : decode cX12_begins 72 = .ok (.iinc 2 1, 3) := by decide +kernel
theorem dX12_begins_75 : decode cX12_begins 75 = .ok (.goto (-65), 3) := by decide +kernel
theorem dX12_begins_78 : decode cX12_begins 78 = .ok (.iconst 0, 1) := by decide +kernel
theorem dX12_begins_79 : decode cX12_begins 79 = .ok (.istore_n 2, 1) := by decide +kernel
theorem dX12_begins_80 : decode cX12_begins 80 = .ok (.iload_n 2, 1) := by decide +kernel
theorem dX12_begins_81 : decode cX12_begins 81 = .ok (.iconst 5, 1) := by decide +kernel
theorem dX12_begins_82 : decode cX12_begins 82 = .ok (.if_icmp .ge 18, 3) := by decide +kernel
theorem dX12_begins_85 : decode cX12_begins 85 = .ok (.aload_n 0, 1) := by decide +kernel
theorem dX12_begins_86 : decode cX12_begins 86 = .ok (.getfield 92, 3) := by decide +kernel
theorem dX12_begins_89 : decode cX12_begins 89 = .ok (.iload_n 1, 1) := by decide +kernel
theorem dX12_begins_90 : decode cX12_begins 90 = .ok (.aaload, 1) := by decide +kernel
theorem dX12_begins_91 : decode cX12_begins 91 = .ok (.iload_n 2, 1) := by decide +kernel
theorem dX12_begins_92 : decode cX12_begins 92 = .ok (.iconst 0, 1) := by decide +kernel
theorem dX12_begins_93 : decode cX12_begins 93 = .ok (.bastore, 1) := by decide +kernel
theorem dX12_begins_94 : decode cX12_begins 94 = .ok (.iinc 2 1, 3) := by decide +kernel
theorem dX12_begins_97 : decode cX12_begins 97 = .ok (.goto (-17), 3) := by decide +kernel
theorem dX12_begins_100 : decode cX12_begins 100 = .ok (.iconst 0, 1) := by decide +kernel
theorem dX12_begins_101 : decode cX12_begins 101 = .ok (.istore_n 2, 1) := by decide +kernel
theorem dX12_begins_102 : decode cX12_begins 102 = .ok (.iload_n 2, 1) := by decide +kernel
theorem dX12_begins_103 : decode cX12_begins 103 = .ok (.bipush 8, 2) := by decide +kernel
theorem dX12_begins_105 : decode cX12_begins 105 = .ok (.if_icmp .ge 18, 3) := by decide +kernel
theorem dX12_begins_108 : decode cX12_begins 108 = .ok (.aload_n 0, 1) := by decide +kernel
theorem dX12_begins_109 : decode cX12_begins 109 = .ok (.getfield 103, 3) := by decide +kernel
theorem dX12_begins_112 : decode cX12_begins 112 = .ok (.iload_n 1, 1) := by decide +kernel
theorem dX12_begins_113 : decode cX12_begins 113 = .ok (.aaload, 1) := by decide +kernel
theorem dX12_begins_114 : decode cX12_begins 114 = .ok (.iload_n 2, 1) := by decide +kernel
theorem dX12_begins_115 : decode cX12_begins 115 = .ok (.iconst 0, 1) := by decide +kernel
theorem dX12_begins_116 : decode cX12_begins 116 = .ok (.iastore, 1) := by decide +kernel
theorem dX12_begins_117 : decode cX12_begins 117 = .ok (.iinc 2 1, 3) := by decide +kernel
theorem dX12_begins_120 : decode cX12_begins 120 = .ok (.goto (-18), 3) := by decide +kernel
theorem dX12_begins_123 : decode cX12_begins 123 = .ok (.aload_n 0, 1) := by decide +kernel
theorem dX12_begins_124 : decode cX12_begins 124 = .ok (.getfield 95, 3) := by decide +kernel
theorem dX12_begins_127 : decode cX12_begins 127 = .ok (.iload_n 1, 1) := by decide +kernel
theorem dX12_begins_128 : decode cX12_begins 128 = .ok (.iconst 0, 1) := by decide +kernel
theorem dX12_begins_129 : decode cX12_begins 129 = .ok (.bastore, 1) := by decide +kernel
theorem dX12_begins_130 : decode cX12_begins 130 = .ok (.aload_n 0, 1) := by decide +kernel
theorem dX12_begins_131 : decode cX12_begins 131 = .ok (.getfield 98, 3) := by decide +kernel
theorem dX12_begins_134 : decode cX12_begins 134 = .ok (.iload_n 1, 1) := by decide +kernel
theorem dX12_begins_135 : decode cX12_begins 135 = .ok (.iconst 0, 1) := by decide +kernel
theorem dX12_begins_136 : decode cX12_begins 136 = .ok (.bastore, 1) := by decide +kernel
theorem dX12_begins_137 : decode cX12_begins 137 = .ok (.aload_n 0, 1) := by decide +kernel
theorem dX12_begins_138 : decode cX12_begins 138 = .ok (.getfield 109, 3) := by decide +kernel
theorem dX12_begins_141 : decode cX12_begins 141 = .ok (.iload_n 1, 1) := by decide +kernel
theorem dX12_begins_142 : decode cX12_begins 142 = .ok (.iconst 0, 1) := by decide +kernel
theorem dX12_begins_143 : decode cX12_begins 143 = .ok (.iastore, 1) := by decide +kernel
theorem dX12_begins_144 : decode cX12_begins 144 = .ok (.aload_n 0, 1) := by decide +kernel
theorem dX12_begins_145 : decode cX12_begins 145 = .ok (.getfield 120, 3) := by decide +kernel
theorem dX12_begins_148 : decode cX12_begins 148 = .ok (.iload_n 1, 1) := by decide +kernel
theorem dX12_begins_149 : decode cX12_begins 149 = .ok (.iconst 0, 1) := by decide +kernel
theorem dX12_begins_150 : decode cX12_begins 150 = .ok (.iastore, 1) := by decide +kernel
theorem dX12_begins_151 : decode cX12_begins 151 = .ok (.aload_n 0, 1) := by decide +kernel
theorem dX12_begins_152 : decode cX12_begins 152 = .ok (.getfield 123, 3) := by decide +kernel
theorem dX12_begins_155 : decode cX12_begins 155 = .ok (.iload_n 1, 1) := by decide +kernel
theorem dX12_begins_156 : decode cX12_begins 156 = .ok (.bipush 45, 2) := by decide +kernel
theorem dX12_begins_158 : decode cX12_begins 158 = .ok (.castore, 1) := by decide +kernel
theorem dX12_begins_159 : decode cX12_begins 159 = .ok (.aload_n 0, 1) := by decide +kernel
theorem dX12_begins_160 : decode cX12_begins 160 = .ok (.getfield 129, 3) := by decide +kernel
theorem dX12_begins_163 : decode cX12_begins 163 = .ok (.iload_n 1, 1) := by decide +kernel
theorem dX12_begins_164 : decode cX12_begins 164 = .ok (.iconst (-1), 1) := by decide +kernel
theorem dX12_begins_165 : decode cX12_begins 165 = .ok (.iastore, 1) := by decide +kernel
theorem dX12_begins_166 : decode cX12_begins 166 = .ok (.iinc 1 1, 3) := by decide +kernel
theorem dX12_begins_169 : decode cX12_begins 169 = .ok (.goto (-167), 3) := by decide +kernel
theorem dX12_begins_172 : decode cX12_begins 172 = .ok (.aload_n 0, 1) := by decide +kernel
theorem dX12_begins_173 : decode cX12_begins 173 = .ok (.getfield 135, 3) := by decide +kernel
theorem dX12_begins_176 : decode cX12_begins 176 = .ok (.astore_n 1, 1) := by decide +kernel
theorem dX12_begins_177 : decode cX12_begins 177 = .ok (.aload_n 1, 1) := by decide +kernel
theorem dX12_begins_178 : decode cX12_begins 178 = .ok (.arraylength, 1) := by decide +kernel
theorem dX12_begins_179 : decode cX12_begins 179 = .ok (.istore_n 2, 1) := by decide +kernel
theorem dX12_begins_180 : decode cX12_begins 180 = .ok (.iconst 0, 1) := by decide +kernel
theorem dX12_begins_181 : decode cX12_begins 181 = .ok (.istore_n 3, 1) := by decide +kernel
theorem dX12_begins_182 : decode cX12_begins 182 = .ok (.iload_n 3, 1) := by decide +kernel
theorem dX12_begins_183 : decode cX12_begins 183 = .ok (.iload_n 2, 1) := by decide +kernel
theorem dX12_begins_184 : decode cX12_begins 184 = .ok (.if_icmp .ge 36, 3) := by decide +kernel
theorem dX12_begins_187 : decode cX12_begins 187 = .ok (.aload_n 1, 1) := by decide +kernel
theorem dX12_begins_188 : decode cX12_begins 188 = .ok (.iload_n 3, 1) := by decide +kernel
theorem dX12_begins_189 : decode cX12_begins 189 = .ok (.aaload, 1) := by decide +kernel
theorem dX12_begins_190 : decode cX12_begins 190 = .ok (.astore 4, 2) := by decide +kernel
theorem dX12_begins_192 : decode cX12_begins 192 = .ok (.iconst 0, 1) := by decide +kernel
theorem dX12_begins_193 : decode cX12_begins 193 = .ok (.istore 5, 2) := by decide +kernel
theorem dX12_begins_195 : decode cX12_begins 195 = .ok (.iload 5, 2) := by decide +kernel
theorem dX12_begins_197 : decode cX12_begins 197 = .ok (.bipush 8, 2) := by decide +kernel
theorem dX12_begins_199 : decode cX12_begins 199 = .ok (.if_icmp .ge 15, 3) := by decide +kernel
theorem dX12_begins_202 : decode cX12_begins 202 = .ok (.aload 4, 2) := by decide +kernel
theorem dX12_begins_204 : decode cX12_begins 204 = .ok (.iload 5, 2) := by decide +kernel
theorem dX12_begins_206 : decode cX12_begins 206 = .ok (.iconst 0, 1) := by decide +kernel
theorem dX12_begins_207 : decode cX12_begins 207 = .ok (.iastore, 1) := by decide +kernel
theorem dX12_begins_208 : decode cX12_begins 208 = .ok (.iinc 5 1, 3) := by decide +kernel
theorem dX12_begins_211 : decode cX12_begins 211 = .ok (.goto (-16), 3) := by decide +kernel
theorem dX12_begins_214 : decode cX12_begins 214 = .ok (.iinc 3 1, 3) := by decide +kernel
theorem dX12_begins_217 : decode cX12_begins 217 = .ok (.goto (-35), 3) := by decide +kernel
theorem dX12_begins_220 : decode cX12_begins 220 = .ok (.aload_n 0, 1) := by decide +kernel
theorem dX12_begins_221 : decode cX12_begins 221 = .ok (.iconst 0, 1) := by decide +kernel
theorem dX12_begins_222 : decode cX12_begins 222 = .ok (.putfield 152, 3) := by decide +kernel
theorem dX12_begins_225 : decode cX12_begins 225 = .ok (.aload_n 0, 1) := by decide +kernel
theorem dX12_begins_226 : decode cX12_begins 226 = .ok (.iconst 0, 1) := by decide +kernel
theorem dX12_begins_227 : decode cX12_begins 227 = .ok (.putfield 159, 3) := by decide +kernel
theorem dX12_begins_230 : decode cX12_begins 230 = .ok (.aload_n 0, 1) := by decide +kernel
theorem dX12_begins_231 : decode cX12_begins 231 = .ok (.iconst 0, 1) := by decide +kernel
theorem dX12_begins_232 : decode cX12_begins 232 = .ok (.putfield 162, 3) := by decide +kernel
theorem dX12_begins_235 : decode cX12_begins 235 = .ok (.aload_n 0, 1) := by decide +kernel
theorem dX12_begins_236 : decode cX12_begins 236 = .ok (.iconst 2, 1) := by decide +kernel
theorem dX12_begins_237 : decode cX12_begins 237 = .ok (.putfield 16, 3) := by decide +kernel
theorem dX12_begins_240 : decode cX12_begins 240 = .ok (.aload_n 0, 1) := by decide +kernel
theorem dX12_begins_241 : decode cX12_begins 241 = .ok (.bipush 120, 2) := by decide +kernel
theorem dX12_begins_243 : decode cX12_begins 243 = .ok (.putfield 19, 3) := by decide +kernel
theorem dX12_begins_246 : decode cX12_begins 246 = .ok (.return_, 1) := by decide +kernel
theorem dX12_net_0 : decode cX12_net 0 = .ok (.aload_n 0, 1) := by decide +kernel
theorem dX12_net_1 : decode cX12_net 1 = .ok (.iload_n 1, 1) := by decide +kernel
theorem dX12_net_2 : decode cX12_net 2 = .ok (.iconst 1, 1) := by decide +kernel
theorem dX12_net_3 : decode cX12_net 3 = .ok (.iconst 4, 1) := by decide +kernel
theorem dX12_net_4 : decode cX12_net 4 = .ok (.invokestatic 148, 3) := by decide +kernel
theorem dX12_net_7 : decode cX12_net 7 = .ok (.ifCond .eq 12, 3) := by decide +kernel
theorem dX12_net_10 : decode cX12_net 10 = .ok (.iload_n 2, 1) := by decide +kernel
theorem dX12_net_11 : decode cX12_net 11 = .ok (.iconst 1, 1) := by decide +kernel
theorem dX12_net_12 : decode cX12_net 12 = .ok (.iconst 4, 1) := by decide +kernel
theorem dX12_net_13 : decode cX12_net 13 = .ok (.invokestatic 148, 3) := by decide +kernel
theorem dX12_net_16 : decode cX12_net 16 = .ok (.ifCond .ne 7, 3) := by decide +kernel
theorem dX12_net_19 : decode cX12_net 19 = .ok (.iconst 1, 1) := by decide +kernel
theorem dX12_net_20 : decode cX12_net 20 = .ok (.goto 4, 3) := by decide +kernel
theorem dX12_net_23 : decode cX12_net 23 = .ok (.iconst 0, 1) := by decide +kernel
theorem dX12_net_24 : decode cX12_net 24 = .ok (.iconst 1, 1) := by decide +kernel
theorem dX12_net_25 : decode cX12_net 25 = .ok (.invokevirtual 155, 3) := by decide +kernel
theorem dX12_net_28 : decode cX12_net 28 = .ok (.ifCond .eq 5, 3) := by decide +kernel
theorem dX12_net_31 : decode cX12_net 31 = .ok (.iconst 0, 1) := by decide +kernel
theorem dX12_net_32 : decode cX12_net 32 = .ok (.ireturn, 1) := by decide +kernel
theorem dX12_net_33 : decode cX12_net 33 = .ok (.aload_n 0, 1) := by decide +kernel
theorem dX12_net_34 : decode cX12_net 34 = .ok (.iload_n 1, 1) := by decide +kernel
theorem dX12_net_35 : decode cX12_net 35 = .ok (.putfield 7, 3) := by decide +kernel
theorem dX12_net_38 : decode cX12_net 38 = .ok (.aload_n 0, 1) := by decide +kernel
theorem dX12_net_39 : decode cX12_net 39 = .ok (.iload_n 2, 1) := by decide +kernel
theorem dX12_net_40 : decode cX12_net 40 = .ok (.putfield 13, 3) := by decide +kernel
theorem dX12_net_43 : decode cX12_net 43 = .ok (.aload_n 0, 1) := by decide +kernel
theorem dX12_net_44 : decode cX12_net 44 = .ok (.invokevirtual 138, 3) := by decide +kernel
theorem dX12_net_47 : decode cX12_net 47 = .ok (.aload_n 0, 1) := by decide +kernel
theorem dX12_net_48 : decode cX12_net 48 = .ok (.invokevirtual 144, 3) := by decide +kernel
theorem dX12_net_51 : decode cX12_net 51 = .ok (.ireturn, 1) := by decide +kernel
theorem dX12_beside_0 : decode cX12_beside 0 = .ok (.iload_n 1, 1) := by decide +kernel
theorem dX12_beside_1 : decode cX12_beside 1 = .ok (.aload_n 0, 1) := by decide +kernel
theorem dX12_beside_2 : decode cX12_beside 2 = .ok (.getfield 7, 3) := by decide +kernel
theorem dX12_beside_5 : decode cX12_beside 5 = .ok (.irem, 1) := by decide +kernel
theorem dX12_beside_6 : decode cX12_beside 6 = .ok (.istore_n 3, 1) := by decide +kernel
theorem dX12_beside_7 : decode cX12_beside 7 = .ok (.iload_n 1, 1) := by decide +kernel
theorem dX12_beside_8 : decode cX12_beside 8 = .ok (.aload_n 0, 1) := by decide +kernel
theorem dX12_beside_9 : decode cX12_beside 9 = .ok (.getfield 7, 3) := by decide +kernel
theorem dX12_beside_12 : decode cX12_beside 12 = .ok (.idiv, 1) := by decide +kernel
theorem dX12_beside_13 : decode cX12_beside 13 = .ok (.istore 4, 2) := by decide +kernel
theorem dX12_beside_15 : decode cX12_beside 15 = .ok (.iload_n 2, 1) := by decide +kernel
theorem dX12_beside_16 : decode cX12_beside 16 = .ok (.tableswitch 100 0 3 #[32, 50, 62, 84], 32) := by decide +kernel
theorem dX12_beside_48 : decode cX12_beside 48 = .ok (.iload_n 3, 1) := by decide +kernel
theorem dX12_beside_49 : decode cX12_beside 49 = .ok (.iconst 1, 1) := by decide +kernel
theorem dX12_beside_50 : decode cX12_beside 50 = .ok (.iadd, 1) := by decide +kernel
theorem dX12_beside_51 : decode cX12_beside 51 = .ok (.aload_n 0, 1) := by decide +kernel
theorem dX12_beside_52 : decode cX12_beside 52 = .ok (.getfield 7, 3) := by decide +kernel
theorem dX12_beside_55 : decode cX12_beside 55 = .ok (.if_icmp .ge 9, 3) := by decide +kernel
theorem dX12_beside_58 : decode cX12_beside 58 = .ok (.iload_n 1, 1) := by decide +kernel
theorem dX12_beside_59 : decode cX12_beside 59 = .ok (.iconst 1, 1) := by decide +kernel
theorem dX12_beside_60 : decode cX12_beside 60 = .ok (.iadd, 1) := by decide +kernel
theorem dX12_beside_61 : decode cX12_beside 61 = .ok (.goto 4, 3) := by decide +kernel
theorem dX12_beside_64 : decode cX12_beside 64 = .ok (.iconst (-1), 1) := by decide +kernel
theorem dX12_beside_65 : decode cX12_beside 65 = .ok (.ireturn, 1) := by decide +kernel
theorem dX12_beside_66 : decode cX12_beside 66 = .ok (.iload_n 3, 1) := by decide +kernel
theorem dX12_beside_67 : decode cX12_beside 67 = .ok (.ifCond .le 9, 3) := by decide +kernel
theorem dX12_beside_70 : decode cX12_beside 70 = .ok (.iload_n 1, 1) := by decide +kernel
theorem dX12_beside_71 : decode cX12_beside 71 = .ok (.iconst 1, 1) := by decide +kernel
theorem dX12_beside_72 : decode cX12_beside 72 = .ok (.isub, 1) := by decide +kernel
theorem dX12_beside_73 : decode cX12_beside 73 = .ok (.goto 4, 3) := by decide +kernel
theorem dX12_beside_76 : decode cX12_beside 76 = .ok (.iconst (-1), 1) := by decide +kernel
theorem dX12_beside_77 : decode cX12_beside 77 = .ok (.ireturn, 1) := by decide +kernel
theorem dX12_beside_78 : decode cX12_beside 78 = .ok (.iload 4, 2) := by decide +kernel
theorem dX12_beside_80 : decode cX12_beside 80 = .ok (.iconst 1, 1) := by decide +kernel
theorem dX12_beside_81 : decode cX12_beside 81 = .ok (.iadd, 1) := by decide +kernel
theorem dX12_beside_82 : decode cX12_beside 82 = .ok (.aload_n 0, 1) := by decide +kernel
theorem dX12_beside_83 : decode cX12_beside 83 = .ok (.getfield 13, 3) := by decide +kernel
theorem dX12_beside_86 : decode cX12_beside 86 = .ok (.if_icmp .ge 12, 3) := by decide +kernel
theorem dX12_beside_89 : decode cX12_beside 89 = .ok (.iload_n 1, 1) := by decide +kernel
theorem dX12_beside_90 : decode cX12_beside 90 = .ok (.aload_n 0, 1) := by decide +kernel
theorem dX12_beside_91 : decode cX12_beside 91 = .ok (.getfield 7, 3) := by decide +kernel
theorem dX12_beside_94 : decode cX12_beside 94 = .ok (.iadd, 1) := by decide +kernel
theorem dX12_beside_95 : decode cX12_beside 95 = .ok (.goto 4, 3) := by decide +kernel
theorem dX12_beside_98 : decode cX12_beside 98 = .ok (.iconst (-1), 1) := by decide +kernel
theorem dX12_beside_99 : decode cX12_beside 99 = .ok (.ireturn, 1) := by decide +kernel
theorem dX12_beside_100 : decode cX12_beside 100 = .ok (.iload 4, 2) := by decide +kernel
theorem dX12_beside_102 : decode cX12_beside 102 = .ok (.ifCond .le 12, 3) := by decide +kernel
theorem dX12_beside_105 : decode cX12_beside 105 = .ok (.iload_n 1, 1) := by decide +kernel
theorem dX12_beside_106 : decode cX12_beside 106 = .ok (.aload_n 0, 1) := by decide +kernel
theorem dX12_beside_107 : decode cX12_beside 107 = .ok (.getfield 7, 3) := by decide +kernel
theorem dX12_beside_110 : decode cX12_beside 110 = .ok (.isub, 1) := by decide +kernel
theorem dX12_beside_111 : decode cX12_beside 111 = .ok (.goto 4, 3) := by decide +kernel
theorem dX12_beside_114 : decode cX12_beside 114 = .ok (.iconst (-1), 1) := by decide +kernel
theorem dX12_beside_115 : decode cX12_beside 115 = .ok (.ireturn, 1) := by decide +kernel
theorem dX12_beside_116 : decode cX12_beside 116 = .ok (.iconst (-1), 1) := by decide +kernel
theorem dX12_beside_117 : decode cX12_beside 117 = .ok (.ireturn, 1) := by decide +kernel
theorem dX12_room_0 : decode cX12_room 0 = .ok (.aload_n 0, 1) := by decide +kernel
theorem dX12_room_1 : decode cX12_room 1 = .ok (.getfield 152, 3) := by decide +kernel
theorem dX12_room_4 : decode cX12_room 4 = .ok (.istore_n 1, 1) := by decide +kernel
theorem dX12_room_5 : decode cX12_room 5 = .ok (.iconst 0, 1) := by decide +kernel
theorem dX12_room_6 : decode cX12_room 6 = .ok (.istore_n 2, 1) := by decide +kernel
theorem dX12_room_7 : decode cX12_room 7 = .ok (.iload_n 2, 1) := by decide +kernel
theorem dX12_room_8 : decode cX12_room 8 = .ok (.aload_n 0, 1) := by decide +kernel
theorem dX12_room_9 : decode cX12_room 9 = .ok (.getfield 152, 3) := by decide +kernel
theorem dX12_room_12 : decode cX12_room 12 = .ok (.if_icmp .ge 50, 3) := by decide +kernel
theorem dX12_room_15 : decode cX12_room 15 = .ok (.iload_n 1, 1) := by decide +kernel
theorem dX12_room_16 : decode cX12_room 16 = .ok (.aload_n 0, 1) := by decide +kernel
theorem dX12_room_17 : decode cX12_room 17 = .ok (.getfield 23, 3) := by decide +kernel
theorem dX12_room_20 : decode cX12_room 20 = .ok (.iload_n 2, 1) := by decide +kernel
theorem dX12_room_21 : decode cX12_room 21 = .ok (.caload, 1) := by decide +kernel
theorem dX12_room_22 : decode cX12_room 22 = .ok (.bipush 113, 2) := by decide +kernel
theorem dX12_room_24 : decode cX12_room 24 = .ok (.if_icmp .ne 29, 3) := by decide +kernel
theorem dX12_room_27 : decode cX12_room 27 = .ok (.aload_n 0, 1) := by decide +kernel
theorem dX12_room_28 : decode cX12_room 28 = .ok (.getfield 27, 3) := by decide +kernel
theorem dX12_room_31 : decode cX12_room 31 = .ok (.iload_n 2, 1) := by decide +kernel
theorem dX12_room_32 : decode cX12_room 32 = .ok (.caload, 1) := by decide +kernel
theorem dX12_room_33 : decode cX12_room 33 = .ok (.bipush 115, 2) := by decide +kernel
theorem dX12_room_35 : decode cX12_room 35 = .ok (.if_icmp .eq 14, 3) := by decide +kernel
theorem dX12_room_38 : decode cX12_room 38 = .ok (.aload_n 0, 1) := by decide +kernel
theorem dX12_room_39 : decode cX12_room 39 = .ok (.getfield 27, 3) := by decide +kernel
theorem dX12_room_42 : decode cX12_room 42 = .ok (.iload_n 2, 1) := by decide +kernel
theorem dX12_room_43 : decode cX12_room 43 = .ok (.caload, 1) := by decide +kernel
theorem dX12_room_44 : decode cX12_room 44 = .ok (.bipush 119, 2) := by decide +kernel
theorem dX12_room_46 : decode cX12_room 46 = .ok (.if_icmp .ne 7, 3) := by decide +kernel
theorem dX12_room_49 : decode cX12_room 49 = .ok (.iconst 1, 1) := by decide +kernel
theorem dX12_room_50 : decode cX12_room 50 = .ok (.goto 4, 3) := by decide +kernel
theorem dX12_room_53 : decode cX12_room 53 = .ok (.iconst 0, 1) := by decide +kernel
theorem dX12_room_54 : decode cX12_room 54 = .ok (.iadd, 1) := by decide +kernel
theorem dX12_room_55 : decode cX12_room 55 = .ok (.istore_n 1, 1) := by decide +kernel
theorem dX12_room_56 : decode cX12_room 56 = .ok (.iinc 2 1, 3) := by decide +kernel
theorem dX12_room_59 : decode cX12_room 59 = .ok (.goto (-52), 3) := by decide +kernel
theorem dX12_room_62 : decode cX12_room 62 = .ok (.sipush 200, 3) := by decide +kernel
theorem dX12_room_65 : decode cX12_room 65 = .ok (.iload_n 1, 1) := by decide +kernel
theorem dX12_room_66 : decode cX12_room 66 = .ok (.isub, 1) := by decide +kernel
theorem dX12_room_67 : decode cX12_room 67 = .ok (.ireturn, 1) := by decide +kernel
theorem dX12_made_0 : decode cX12_made 0 = .ok (.aload_n 0, 1) := by decide +kernel
theorem dX12_made_1 : decode cX12_made 1 = .ok (.getfield 23, 3) := by decide +kernel
theorem dX12_made_4 : decode cX12_made 4 = .ok (.aload_n 0, 1) := by decide +kernel
theorem dX12_made_5 : decode cX12_made 5 = .ok (.getfield 152, 3) := by decide +kernel
theorem dX12_made_8 : decode cX12_made 8 = .ok (.iload_n 1, 1) := by decide +kernel
theorem dX12_made_9 : decode cX12_made 9 = .ok (.castore, 1) := by decide +kernel
theorem dX12_made_10 : decode cX12_made 10 = .ok (.aload_n 0, 1) := by decide +kernel
theorem dX12_made_11 : decode cX12_made 11 = .ok (.getfield 27, 3) := by decide +kernel
theorem dX12_made_14 : decode cX12_made 14 = .ok (.aload_n 0, 1) := by decide +kernel
theorem dX12_made_15 : decode cX12_made 15 = .ok (.getfield 152, 3) := by decide +kernel
theorem dX12_made_18 : decode cX12_made 18 = .ok (.bipush 115, 2) := by decide +kernel
theorem dX12_made_20 : decode cX12_made 20 = .ok (.castore, 1) := by decide +kernel
theorem dX12_made_21 : decode cX12_made 21 = .ok (.aload_n 0, 1) := by decide +kernel
theorem dX12_made_22 : decode cX12_made 22 = .ok (.getfield 30, 3) := by decide +kernel
theorem dX12_made_25 : decode cX12_made 25 = .ok (.aload_n 0, 1) := by decide +kernel
theorem dX12_made_26 : decode cX12_made 26 = .ok (.getfield 152, 3) := by decide +kernel
theorem dX12_made_29 : decode cX12_made 29 = .ok (.iload_n 2, 1) := by decide +kernel
theorem dX12_made_30 : decode cX12_made 30 = .ok (.iastore, 1) := by decide +kernel
theorem dX12_made_31 : decode cX12_made 31 = .ok (.aload_n 0, 1) := by decide +kernel
theorem dX12_made_32 : decode cX12_made 32 = .ok (.getfield 34, 3) := by decide +kernel
theorem dX12_made_35 : decode cX12_made 35 = .ok (.aload_n 0, 1) := by decide +kernel
theorem dX12_made_36 : decode cX12_made 36 = .ok (.getfield 152, 3) := by decide +kernel
theorem dX12_made_39 : decode cX12_made 39 = .ok (.iload_n 3, 1) := by decide +kernel
theorem dX12_made_40 : decode cX12_made 40 = .ok (.iastore, 1) := by decide +kernel
theorem dX12_made_41 : decode cX12_made 41 = .ok (.aload_n 0, 1) := by decide +kernel
theorem dX12_made_42 : decode cX12_made 42 = .ok (.getfield 37, 3) := by decide +kernel
theorem dX12_made_45 : decode cX12_made 45 = .ok (.aload_n 0, 1) := by decide +kernel
theorem dX12_made_46 : decode cX12_made 46 = .ok (.getfield 152, 3) := by decide +kernel
theorem dX12_made_49 : decode cX12_made 49 = .ok (.iload 4, 2) := by decide +kernel
theorem dX12_made_51 : decode cX12_made 51 = .ok (.iastore, 1) := by decide +kernel
theorem dX12_made_52 : decode cX12_made 52 = .ok (.aload_n 0, 1) := by decide +kernel
theorem dX12_made_53 : decode cX12_made 53 = .ok (.getfield 40, 3) := by decide +kernel
theorem dX12_made_56 : decode cX12_made 56 = .ok (.aload_n 0, 1) := by decide +kernel
theorem dX12_made_57 : decode cX12_made 57 = .ok (.getfield 152, 3) := by decide +kernel
theorem dX12_made_60 : decode cX12_made 60 = .ok (.iload 5, 2) := by decide +kernel
theorem dX12_made_62 : decode cX12_made 62 = .ok (.iastore, 1) := by decide +kernel
theorem dX12_made_63 : decode cX12_made 63 = .ok (.aload_n 0, 1) := by decide +kernel
theorem dX12_made_64 : decode cX12_made 64 = .ok (.getfield 43, 3) := by decide +kernel
theorem dX12_made_67 : decode cX12_made 67 = .ok (.aload_n 0, 1) := by decide +kernel
theorem dX12_made_68 : decode cX12_made 68 = .ok (.getfield 152, 3) := by decide +kernel
theorem dX12_made_71 : decode cX12_made 71 = .ok (.iconst 0, 1) := by decide +kernel
theorem dX12_made_72 : decode cX12_made 72 = .ok (.iastore, 1) := by decide +kernel
theorem dX12_made_73 : decode cX12_made 73 = .ok (.aload_n 0, 1) := by decide +kernel
theorem dX12_made_74 : decode cX12_made 74 = .ok (.getfield 46, 3) := by decide +kernel
theorem dX12_made_77 : decode cX12_made 77 = .ok (.aload_n 0, 1) := by decide +kernel
theorem dX12_made_78 : decode cX12_made 78 = .ok (.getfield 152, 3) := by decide +kernel
theorem dX12_made_81 : decode cX12_made 81 = .ok (.aload_n 0, 1) := by decide +kernel
theorem dX12_made_82 : decode cX12_made 82 = .ok (.getfield 162, 3) := by decide +kernel
theorem dX12_made_85 : decode cX12_made 85 = .ok (.iastore, 1) := by decide +kernel
theorem dX12_made_86 : decode cX12_made 86 = .ok (.aload_n 0, 1) := by decide +kernel
theorem dX12_made_87 : decode cX12_made 87 = .ok (.getfield 62, 3) := by decide +kernel
theorem dX12_made_90 : decode cX12_made 90 = .ok (.aload_n 0, 1) := by decide +kernel
theorem dX12_made_91 : decode cX12_made 91 = .ok (.getfield 152, 3) := by decide +kernel
theorem dX12_made_94 : decode cX12_made 94 = .ok (.iconst (-1), 1) := by decide +kernel
theorem dX12_made_95 : decode cX12_made 95 = .ok (.iastore, 1) := by decide +kernel
theorem dX12_made_96 : decode cX12_made 96 = .ok (.aload_n 0, 1) := by decide +kernel
theorem dX12_made_97 : decode cX12_made 97 = .ok (.dup, 1) := by decide +kernel
theorem dX12_made_98 : decode cX12_made 98 = .ok (.getfield 152, 3) := by decide +kernel
theorem dX12_made_101 : decode cX12_made 101 = .ok (.iconst 1, 1) := by decide +kernel
theorem dX12_made_102 : decode cX12_made 102 = .ok (.iadd, 1) := by decide +kernel
theorem dX12_made_103 : decode cX12_made 103 = .ok (.putfield 152, 3) := by decide +kernel
theorem dX12_made_106 : decode cX12_made 106 = .ok (.aload_n 0, 1) := by decide +kernel
theorem dX12_made_107 : decode cX12_made 107 = .ok (.getfield 152, 3) := by decide +kernel
theorem dX12_made_110 : decode cX12_made 110 = .ok (.iconst 1, 1) := by decide +kernel
theorem dX12_made_111 : decode cX12_made 111 = .ok (.isub, 1) := by decide +kernel
theorem dX12_made_112 : decode cX12_made 112 = .ok (.ireturn, 1) := by decide +kernel
theorem dX12_send_0 : decode cX12_send 0 = .ok (.aload_n 0, 1) := by decide +kernel
theorem dX12_send_1 : decode cX12_send 1 = .ok (.aload_n 0, 1) := by decide +kernel
theorem dX12_send_2 : decode cX12_send 2 = .ok (.iload_n 1, 1) := by decide +kernel
theorem dX12_send_3 : decode cX12_send 3 = .ok (.invokevirtual 165, 3) := by decide +kernel
theorem dX12_send_6 : decode cX12_send 6 = .ok (.ifCond .ne 11, 3) := by decide +kernel
theorem dX12_send_9 : decode cX12_send 9 = .ok (.aload_n 0, 1) := by decide +kernel
theorem dX12_send_10 : decode cX12_send 10 = .ok (.iload_n 2, 1) := by decide +kernel
theorem dX12_send_11 : decode cX12_send 11 = .ok (.invokevirtual 165, 3) := by decide +kernel
theorem dX12_send_14 : decode cX12_send 14 = .ok (.ifCond .eq 7, 3) := by decide +kernel
theorem dX12_send_17 : decode cX12_send 17 = .ok (.iconst 1, 1) := by decide +kernel
theorem dX12_send_18 : decode cX12_send 18 = .ok (.goto 4, 3) := by decide +kernel
theorem dX12_send_21 : decode cX12_send 21 = .ok (.iconst 0, 1) := by decide +kernel
theorem dX12_send_22 : decode cX12_send 22 = .ok (.iconst 1, 1) := by decide +kernel
theorem dX12_send_23 : decode cX12_send 23 = .ok (.invokevirtual 155, 3) := by decide +kernel
theorem dX12_send_26 : decode cX12_send 26 = .ok (.ifCond .ne 47, 3) := by decide +kernel
theorem dX12_send_29 : decode cX12_send 29 = .ok (.aload_n 0, 1) := by decide +kernel
theorem dX12_send_30 : decode cX12_send 30 = .ok (.iload 4, 2) := by decide +kernel
theorem dX12_send_32 : decode cX12_send 32 = .ok (.iconst 1, 1) := by decide +kernel
theorem dX12_send_33 : decode cX12_send 33 = .ok (.iconst 4, 1) := by decide +kernel
theorem dX12_send_34 : decode cX12_send 34 = .ok (.invokestatic 148, 3) := by decide +kernel
theorem dX12_send_37 : decode cX12_send 37 = .ok (.ifCond .ne 7, 3) := by decide +kernel
theorem dX12_send_40 : decode cX12_send 40 = .ok (.iconst 1, 1) := by decide +kernel
theorem dX12_send_41 : decode cX12_send 41 = .ok (.goto 4, 3) := by decide +kernel
theorem dX12_send_44 : decode cX12_send 44 = .ok (.iconst 0, 1) := by decide +kernel
theorem dX12_send_45 : decode cX12_send 45 = .ok (.iconst 2, 1) := by decide +kernel
theorem dX12_send_46 : decode cX12_send 46 = .ok (.invokevirtual 155, 3) := by decide +kernel
theorem dX12_send_49 : decode cX12_send 49 = .ok (.ifCond .ne 24, 3) := by decide +kernel
theorem dX12_send_52 : decode cX12_send 52 = .ok (.aload_n 0, 1) := by decide +kernel
theorem dX12_send_53 : decode cX12_send 53 = .ok (.aload_n 0, 1) := by decide +kernel
theorem dX12_send_54 : decode cX12_send 54 = .ok (.invokevirtual 169, 3) := by decide +kernel
theorem dX12_send_57 : decode cX12_send 57 = .ok (.iconst 1, 1) := by decide +kernel
theorem dX12_send_58 : decode cX12_send 58 = .ok (.if_icmp .ge 7, 3) := by decide +kernel
theorem dX12_send_61 : decode cX12_send 61 = .ok (.iconst 1, 1) := by decide +kernel
theorem dX12_send_62 : decode cX12_send 62 = .ok (.goto 4, 3) := by decide +kernel
theorem dX12_send_65 : decode cX12_send 65 = .ok (.iconst 0, 1) := by decide +kernel
theorem dX12_send_66 : decode cX12_send 66 = .ok (.iconst 3, 1) := by decide +kernel
theorem dX12_send_67 : decode cX12_send 67 = .ok (.invokevirtual 155, 3) := by decide +kernel
theorem dX12_send_70 : decode cX12_send 70 = .ok (.ifCond .eq 5, 3) := by decide +kernel
theorem dX12_send_73 : decode cX12_send 73 = .ok (.iconst 0, 1) := by decide +kernel
theorem dX12_send_74 : decode cX12_send 74 = .ok (.ireturn, 1) := by decide +kernel
theorem dX12_send_75 : decode cX12_send 75 = .ok (.aload_n 0, 1) := by decide +kernel
theorem dX12_send_76 : decode cX12_send 76 = .ok (.bipush 109, 2) := by decide +kernel
theorem dX12_send_78 : decode cX12_send 78 = .ok (.iload_n 1, 1) := by decide +kernel
theorem dX12_send_79 : decode cX12_send 79 = .ok (.iload_n 2, 1) := by decide +kernel
theorem dX12_send_80 : decode cX12_send 80 = .ok (.iload_n 3, 1) := by decide +kernel
theorem dX12_send_81 : decode cX12_send 81 = .ok (.iload 4, 2) := by decide +kernel
theorem dX12_send_83 : decode cX12_send 83 = .ok (.invokevirtual 172, 3) := by decide +kernel
theorem dX12_send_86 : decode cX12_send 86 = .ok (.ireturn, 1) := by decide +kernel
def f_M_begins_b17 (K2 : me_M → Int32 → Option (me_M × Unit)) (K10 : me_M → Int32 → Int32 → Option (me_M × Unit)) (K17 : me_M → Int32 → Int32 → Int32 → Option (me_M × Unit)) (μ : me_M) (v1 : Int32) (v2 : Int32) (v3 : Int32) : Option (me_M × Unit) :=
  if (5 : Int32) ≤ v3 then
  (me_lt (me_inc v2 (1)) (fun x2 =>
  K10 μ v1 x2))
  else
  (me_gd (me_inb v1 16) (
  me_gd (me_inb v2 2) (
  me_gd (me_inb v3 5) (
  me_lt (me_up μ 60 (2 * (me_ix v1) + (me_ix v2)) (me_ix v3) (0 : Int32)) (fun μ6 =>
  me_gd (me_inb v1 16) (
  me_gd (me_inb v2 2) (
  me_gd (me_inb v3 5) (
  me_lt (me_up μ6 63 (2 * (me_ix v1) + (me_ix v2)) (me_ix v3) (-1 : Int32)) (fun μ10 =>
  me_gd (me_inb v1 16) (
  me_gd (me_inb v2 2) (
  me_gd (me_inb v3 5) (
  me_lt (me_up μ10 69 (2 * (me_ix v1) + (me_ix v2)) (me_ix v3) (0 : Int32)) (fun μ14 =>
  me_gd (me_inb v1 16) (
  me_gd (me_inb v2 2) (
  me_gd (me_inb v3 5) (
  me_lt (me_up μ14 72 (2 * (me_ix v1) + (me_ix v2)) (me_ix v3) (4 : Int32)) (fun μ18 =>
  me_lt (me_inc v3 (1)) (fun x19 =>
  K17 μ18 v1 v2 x19))))))))))))))))))
set_option maxHeartbeats 4000000 in
set_option maxRecDepth 100000 in
theorem z_M_begins_b17 {X : me_X} {B : me_B} {sz : Nat} (C : me_C X B RX12 cX12_begins 6 none) {μ : me_M} {v1 : Int32} {v2 : Int32} {v3 : Int32}  {K2 : me_M → Int32 → Option (me_M × Unit)} {K10 : me_M → Int32 → Int32 → Option (me_M × Unit)} {K17 : me_M → Int32 → Int32 → Int32 → Option (me_M × Unit)} {r : me_M × Unit} (N : me_En X B sz (B, r.1, .ok (none)) 0 0 0 0) (hNx : me_Nx X) (hB : me_St B) (hK2 : ∀ (μ : me_M) (v1 : Int32), K2 μ v1 = some r → me_Z X B 0 0 μ 2 [(0, me_r 36 0), (1, me_i v1)] []) (hK10 : ∀ (μ : me_M) (v1 : Int32) (v2 : Int32), K10 μ v1 v2 = some r → me_Z X B 0 0 μ 10 [(0, me_r 36 0), (1, me_i v1), (2, me_i v2)] []) (hK17 : ∀ (μ : me_M) (v1 : Int32) (v2 : Int32) (v3 : Int32), K17 μ v1 v2 v3 = some r → me_Z X B 0 0 μ 17 [(0, me_r 36 0), (1, me_i v1), (2, me_i v2), (3, me_i v3)] [])  (hf : f_M_begins_b17 K2 K10 K17 μ v1 v2 v3 = some r) : me_Z X B 0 0 μ 17 [(0, me_r 36 0), (1, me_i v1), (2, me_i v2), (3, me_i v3)] [] := by
  unfold f_M_begins_b17 at hf
  refine me_iload_n C 3 dX12_begins_17 rfl rfl ?_
  refine me_iconst C (v := 5) dX12_begins_18 (by decide) ?_
  refine me_icmp_ge C (tgt := 72) dX12_begins_19 (by decide) (fun c1 => ?_) (fun c1 => ?_)
  · replace hf := me_ip c1 hf
    obtain ⟨x2, e_x2, hf⟩ := me_lts hf
    refine me_iinc C (v := x2) (L' := [(2, me_i x2), (0, me_r 36 0), (1, me_i v1), (3, me_i v3)]) dX12_begins_72 rfl e_x2.symm (by decide) rfl ?_
    refine me_goto C (tgt := 10) dX12_begins_75 (by decide) ?_
    refine me_dropI [(0, me_r 36 0), (1, me_i v1), (2, me_i x2)] [1, 2, 0] rfl ?_
    exact hK10 μ v1 x2 hf
  · replace hf := me_in c1 hf
    refine me_aload_n C 0 (Or.inr (Or.inl ⟨_, rfl⟩)) dX12_begins_22 rfl rfl ?_
    refine me_getr C hB 22 (k' := 58) (i' := 0) fg_M_75 dX12_begins_23 rfl rfl ?_
    refine me_iload_n C 1 dX12_begins_26 rfl rfl ?_
    obtain ⟨g3, hf⟩ := me_gs hf
    refine me_aald C hB (k' := 59) (i' := (me_ix v1)) rfl (fun _ => rfl) rfl g3 dX12_begins_27 rfl ?_
    refine me_iload_n C 2 dX12_begins_28 rfl rfl ?_
    obtain ⟨g4, hf⟩ := me_gs hf
    refine me_aald C hB (k' := 60) (i' := 2 * (me_ix v1) + (me_ix v2)) rfl (fun _ => rfl) rfl g4 dX12_begins_29 rfl ?_
    refine me_iload_n C 3 dX12_begins_30 rfl rfl ?_
    refine me_iconst C (v := 0) dX12_begins_31 (by decide) ?_
    obtain ⟨g5, hf⟩ := me_gs hf
    obtain ⟨μ6, e_μ6, hf⟩ := me_lts hf
    refine me_iast C rfl (fun _ => rfl) g5 dX12_begins_32 e_μ6 ?_
    refine me_aload_n C 0 (Or.inr (Or.inl ⟨_, rfl⟩)) dX12_begins_33 rfl rfl ?_
    refine me_getr C hB 23 (k' := 61) (i' := 0) fg_M_78 dX12_begins_34 rfl rfl ?_
    refine me_iload_n C 1 dX12_begins_37 rfl rfl ?_
    obtain ⟨g7, hf⟩ := me_gs hf
    refine me_aald C hB (k' := 62) (i' := (me_ix v1)) rfl (fun _ => rfl) rfl g7 dX12_begins_38 rfl ?_
    refine me_iload_n C 2 dX12_begins_39 rfl rfl ?_
    obtain ⟨g8, hf⟩ := me_gs hf
    refine me_aald C hB (k' := 63) (i' := 2 * (me_ix v1) + (me_ix v2)) rfl (fun _ => rfl) rfl g8 dX12_begins_40 rfl ?_
    refine me_iload_n C 3 dX12_begins_41 rfl rfl ?_
    refine me_iconst C (v := -1) dX12_begins_42 (by decide) ?_
    obtain ⟨g9, hf⟩ := me_gs hf
    obtain ⟨μ10, e_μ10, hf⟩ := me_lts hf
    refine me_iast C rfl (fun _ => rfl) g9 dX12_begins_43 e_μ10 ?_
    refine me_aload_n C 0 (Or.inr (Or.inl ⟨_, rfl⟩)) dX12_begins_44 rfl rfl ?_
    refine me_getr C hB 25 (k' := 67) (i' := 0) fg_M_84 dX12_begins_45 rfl rfl ?_
    refine me_iload_n C 1 dX12_begins_48 rfl rfl ?_
    obtain ⟨g11, hf⟩ := me_gs hf
    refine me_aald C hB (k' := 68) (i' := (me_ix v1)) rfl (fun _ => rfl) rfl g11 dX12_begins_49 rfl ?_
    refine me_iload_n C 2 dX12_begins_50 rfl rfl ?_
    obtain ⟨g12, hf⟩ := me_gs hf
    refine me_aald C hB (k' := 69) (i' := 2 * (me_ix v1) + (me_ix v2)) rfl (fun _ => rfl) rfl g12 dX12_begins_51 rfl ?_
    refine me_iload_n C 3 dX12_begins_52 rfl rfl ?_
    refine me_iconst C (v := 0) dX12_begins_53 (by decide) ?_
    obtain ⟨g13, hf⟩ := me_gs hf
    obtain ⟨μ14, e_μ14, hf⟩ := me_lts hf
    refine me_iast C rfl (fun _ => rfl) g13 dX12_begins_54 e_μ14 ?_
    refine me_aload_n C 0 (Or.inr (Or.inl ⟨_, rfl⟩)) dX12_begins_55 rfl rfl ?_
    refine me_getr C hB 26 (k' := 70) (i' := 0) fg_M_87 dX12_begins_56 rfl rfl ?_
    refine me_iload_n C 1 dX12_begins_59 rfl rfl ?_
    obtain ⟨g15, hf⟩ := me_gs hf
    refine me_aald C hB (k' := 71) (i' := (me_ix v1)) rfl (fun _ => rfl) rfl g15 dX12_begins_60 rfl ?_
    refine me_iload_n C 2 dX12_begins_61 rfl rfl ?_
    obtain ⟨g16, hf⟩ := me_gs hf
    refine me_aald C hB (k' := 72) (i' := 2 * (me_ix v1) + (me_ix v2)) rfl (fun _ => rfl) rfl g16 dX12_begins_62 rfl ?_
    refine me_iload_n C 3 dX12_begins_63 rfl rfl ?_
    refine me_iconst C (v := 4) dX12_begins_64 (by decide) ?_
    obtain ⟨g17, hf⟩ := me_gs hf
    obtain ⟨μ18, e_μ18, hf⟩ := me_lts hf
    refine me_iast C rfl (fun _ => rfl) g17 dX12_begins_65 e_μ18 ?_
    obtain ⟨x19, e_x19, hf⟩ := me_lts hf
    refine me_iinc C (v := x19) (L' := [(3, me_i x19), (0, me_r 36 0), (1, me_i v1), (2, me_i v2)]) dX12_begins_66 rfl e_x19.symm (by decide) rfl ?_
    refine me_goto C (tgt := 17) dX12_begins_69 (by decide) ?_
    refine me_dropI [(0, me_r 36 0), (1, me_i v1), (2, me_i v2), (3, me_i x19)] [1, 2, 3, 0] rfl ?_
    exact hK17 μ18 v1 v2 x19 hf
def f_M_begins_h17 (K2 : me_M → Int32 → Option (me_M × Unit)) (K10 : me_M → Int32 → Int32 → Option (me_M × Unit)) : Nat → me_M → Int32 → Int32 → Int32 → Option (me_M × Unit)
  | 0, _, _, _, _ => none
  | n + 1, μ, v1, v2, v3 => f_M_begins_b17 K2 K10 (f_M_begins_h17 K2 K10 n) μ v1 v2 v3
set_option maxHeartbeats 4000000 in
set_option maxRecDepth 100000 in
theorem z_M_begins_h17 {X : me_X} {B : me_B} {sz : Nat} (C : me_C X B RX12 cX12_begins 6 none) {K2 : me_M → Int32 → Option (me_M × Unit)} {K10 : me_M → Int32 → Int32 → Option (me_M × Unit)} {r : me_M × Unit} (N : me_En X B sz (B, r.1, .ok (none)) 0 0 0 0) (hNx : me_Nx X) (hB : me_St B) (hK2 : ∀ (μ : me_M) (v1 : Int32), K2 μ v1 = some r → me_Z X B 0 0 μ 2 [(0, me_r 36 0), (1, me_i v1)] []) (hK10 : ∀ (μ : me_M) (v1 : Int32) (v2 : Int32), K10 μ v1 v2 = some r → me_Z X B 0 0 μ 10 [(0, me_r 36 0), (1, me_i v1), (2, me_i v2)] []) : ∀ (n : Nat) (μ : me_M) (v1 : Int32) (v2 : Int32) (v3 : Int32), f_M_begins_h17 K2 K10 n μ v1 v2 v3 = some r → me_Z X B 0 0 μ 17 [(0, me_r 36 0), (1, me_i v1), (2, me_i v2), (3, me_i v3)] [] := by
  intro n
  induction n with
  | zero => intro μ v1 v2 v3  h; exact absurd (show (none : Option (me_M × Unit)) = some r from h) (fun q => by cases q)
  | succ n ih => intro μ v1 v2 v3  h; exact z_M_begins_b17 C N hNx hB hK2 hK10 (K17 := f_M_begins_h17 K2 K10 n) ih  h
def f_M_begins_b102 (K2 : me_M → Int32 → Option (me_M × Unit)) (K102 : me_M → Int32 → Int32 → Option (me_M × Unit)) (μ : me_M) (v1 : Int32) (v2 : Int32) : Option (me_M × Unit) :=
  if (8 : Int32) ≤ v2 then
  (me_gd (me_inb v1 16) (
  me_lt (me_up μ 85 0 (me_ix v1) (vp_nar .boolean (0 : Int32))) (fun μ3 =>
  me_gd (me_inb v1 16) (
  me_lt (me_up μ3 86 0 (me_ix v1) (vp_nar .boolean (0 : Int32))) (fun μ5 =>
  me_gd (me_inb v1 16) (
  me_lt (me_up μ5 87 0 (me_ix v1) (0 : Int32)) (fun μ7 =>
  me_gd (me_inb v1 16) (
  me_lt (me_up μ7 88 0 (me_ix v1) (0 : Int32)) (fun μ9 =>
  me_gd (me_inb v1 16) (
  me_lt (me_up μ9 89 0 (me_ix v1) (vp_nar .char (45 : Int32))) (fun μ11 =>
  me_gd (me_inb v1 16) (
  me_lt (me_up μ11 91 0 (me_ix v1) (-1 : Int32)) (fun μ13 =>
  me_lt (me_inc v1 (1)) (fun x14 =>
  K2 μ13 x14))))))))))))))
  else
  (me_gd (me_inb v1 16) (
  me_gd (me_inb v2 8) (
  me_lt (me_up μ 76 (me_ix v1) (me_ix v2) (0 : Int32)) (fun μ17 =>
  me_lt (me_inc v2 (1)) (fun x18 =>
  K102 μ17 v1 x18)))))
set_option maxHeartbeats 4000000 in
set_option maxRecDepth 100000 in
theorem z_M_begins_b102 {X : me_X} {B : me_B} {sz : Nat} (C : me_C X B RX12 cX12_begins 6 none) {μ : me_M} {v1 : Int32} {v2 : Int32}  {K2 : me_M → Int32 → Option (me_M × Unit)} {K102 : me_M → Int32 → Int32 → Option (me_M × Unit)} {r : me_M × Unit} (N : me_En X B sz (B, r.1, .ok (none)) 0 0 0 0) (hNx : me_Nx X) (hB : me_St B) (hK2 : ∀ (μ : me_M) (v1 : Int32), K2 μ v1 = some r → me_Z X B 0 0 μ 2 [(0, me_r 36 0), (1, me_i v1)] []) (hK102 : ∀ (μ : me_M) (v1 : Int32) (v2 : Int32), K102 μ v1 v2 = some r → me_Z X B 0 0 μ 102 [(0, me_r 36 0), (1, me_i v1), (2, me_i v2)] [])  (hf : f_M_begins_b102 K2 K102 μ v1 v2 = some r) : me_Z X B 0 0 μ 102 [(0, me_r 36 0), (1, me_i v1), (2, me_i v2)] [] := by
  unfold f_M_begins_b102 at hf
  refine me_iload_n C 2 dX12_begins_102 rfl rfl ?_
  refine me_bipush C (v := 8) dX12_begins_103 (by decide) ?_
  refine me_icmp_ge C (tgt := 123) dX12_begins_105 (by decide) (fun c1 => ?_) (fun c1 => ?_)
  · replace hf := me_ip c1 hf
    refine me_aload_n C 0 (Or.inr (Or.inl ⟨_, rfl⟩)) dX12_begins_123 rfl rfl ?_
    refine me_getr C hB 28 (k' := 85) (i' := 0) fg_M_95 dX12_begins_124 rfl rfl ?_
    refine me_iload_n C 1 dX12_begins_127 rfl rfl ?_
    refine me_iconst C (v := 0) dX12_begins_128 (by decide) ?_
    obtain ⟨g2, hf⟩ := me_gs hf
    obtain ⟨μ3, e_μ3, hf⟩ := me_lts hf
    refine me_zast C rfl (fun _ => rfl) g2 dX12_begins_129 e_μ3 ?_
    refine me_aload_n C 0 (Or.inr (Or.inl ⟨_, rfl⟩)) dX12_begins_130 rfl rfl ?_
    refine me_getr C hB 29 (k' := 86) (i' := 0) fg_M_98 dX12_begins_131 rfl rfl ?_
    refine me_iload_n C 1 dX12_begins_134 rfl rfl ?_
    refine me_iconst C (v := 0) dX12_begins_135 (by decide) ?_
    obtain ⟨g4, hf⟩ := me_gs hf
    obtain ⟨μ5, e_μ5, hf⟩ := me_lts hf
    refine me_zast C rfl (fun _ => rfl) g4 dX12_begins_136 e_μ5 ?_
    refine me_aload_n C 0 (Or.inr (Or.inl ⟨_, rfl⟩)) dX12_begins_137 rfl rfl ?_
    refine me_getr C hB 32 (k' := 87) (i' := 0) fg_M_109 dX12_begins_138 rfl rfl ?_
    refine me_iload_n C 1 dX12_begins_141 rfl rfl ?_
    refine me_iconst C (v := 0) dX12_begins_142 (by decide) ?_
    obtain ⟨g6, hf⟩ := me_gs hf
    obtain ⟨μ7, e_μ7, hf⟩ := me_lts hf
    refine me_iast C rfl (fun _ => rfl) g6 dX12_begins_143 e_μ7 ?_
    refine me_aload_n C 0 (Or.inr (Or.inl ⟨_, rfl⟩)) dX12_begins_144 rfl rfl ?_
    refine me_getr C hB 35 (k' := 88) (i' := 0) fg_M_120 dX12_begins_145 rfl rfl ?_
    refine me_iload_n C 1 dX12_begins_148 rfl rfl ?_
    refine me_iconst C (v := 0) dX12_begins_149 (by decide) ?_
    obtain ⟨g8, hf⟩ := me_gs hf
    obtain ⟨μ9, e_μ9, hf⟩ := me_lts hf
    refine me_iast C rfl (fun _ => rfl) g8 dX12_begins_150 e_μ9 ?_
    refine me_aload_n C 0 (Or.inr (Or.inl ⟨_, rfl⟩)) dX12_begins_151 rfl rfl ?_
    refine me_getr C hB 36 (k' := 89) (i' := 0) fg_M_123 dX12_begins_152 rfl rfl ?_
    refine me_iload_n C 1 dX12_begins_155 rfl rfl ?_
    refine me_bipush C (v := 45) dX12_begins_156 (by decide) ?_
    obtain ⟨g10, hf⟩ := me_gs hf
    obtain ⟨μ11, e_μ11, hf⟩ := me_lts hf
    refine me_cast C rfl (fun _ => rfl) g10 dX12_begins_158 e_μ11 ?_
    refine me_aload_n C 0 (Or.inr (Or.inl ⟨_, rfl⟩)) dX12_begins_159 rfl rfl ?_
    refine me_getr C hB 38 (k' := 91) (i' := 0) fg_M_129 dX12_begins_160 rfl rfl ?_
    refine me_iload_n C 1 dX12_begins_163 rfl rfl ?_
    refine me_iconst C (v := -1) dX12_begins_164 (by decide) ?_
    obtain ⟨g12, hf⟩ := me_gs hf
    obtain ⟨μ13, e_μ13, hf⟩ := me_lts hf
    refine me_iast C rfl (fun _ => rfl) g12 dX12_begins_165 e_μ13 ?_
    obtain ⟨x14, e_x14, hf⟩ := me_lts hf
    refine me_iinc C (v := x14) (L' := [(1, me_i x14), (0, me_r 36 0), (2, me_i v2)]) dX12_begins_166 rfl e_x14.symm (by decide) rfl ?_
    refine me_goto C (tgt := 2) dX12_begins_169 (by decide) ?_
    refine me_dropI [(0, me_r 36 0), (1, me_i x14)] [1, 0] rfl ?_
    exact hK2 μ13 x14 hf
  · replace hf := me_in c1 hf
    refine me_aload_n C 0 (Or.inr (Or.inl ⟨_, rfl⟩)) dX12_begins_108 rfl rfl ?_
    refine me_getr C hB 30 (k' := 75) (i' := 0) fg_M_103 dX12_begins_109 rfl rfl ?_
    refine me_iload_n C 1 dX12_begins_112 rfl rfl ?_
    obtain ⟨g15, hf⟩ := me_gs hf
    refine me_aald C hB (k' := 76) (i' := (me_ix v1)) rfl (fun _ => rfl) rfl g15 dX12_begins_113 rfl ?_
    refine me_iload_n C 2 dX12_begins_114 rfl rfl ?_
    refine me_iconst C (v := 0) dX12_begins_115 (by decide) ?_
    obtain ⟨g16, hf⟩ := me_gs hf
    obtain ⟨μ17, e_μ17, hf⟩ := me_lts hf
    refine me_iast C rfl (fun _ => rfl) g16 dX12_begins_116 e_μ17 ?_
    obtain ⟨x18, e_x18, hf⟩ := me_lts hf
    refine me_iinc C (v := x18) (L' := [(2, me_i x18), (0, me_r 36 0), (1, me_i v1)]) dX12_begins_117 rfl e_x18.symm (by decide) rfl ?_
    refine me_goto C (tgt := 102) dX12_begins_120 (by decide) ?_
    refine me_dropI [(0, me_r 36 0), (1, me_i v1), (2, me_i x18)] [1, 2, 0] rfl ?_
    exact hK102 μ17 v1 x18 hf
def f_M_begins_h102 (K2 : me_M → Int32 → Option (me_M × Unit)) : Nat → me_M → Int32 → Int32 → Option (me_M × Unit)
  | 0, _, _, _ => none
  | n + 1, μ, v1, v2 => f_M_begins_b102 K2 (f_M_begins_h102 K2 n) μ v1 v2
set_option maxHeartbeats 4000000 in
set_option maxRecDepth 100000 in
theorem z_M_begins_h102 {X : me_X} {B : me_B} {sz : Nat} (C : me_C X B RX12 cX12_begins 6 none) {K2 : me_M → Int32 → Option (me_M × Unit)} {r : me_M × Unit} (N : me_En X B sz (B, r.1, .ok (none)) 0 0 0 0) (hNx : me_Nx X) (hB : me_St B) (hK2 : ∀ (μ : me_M) (v1 : Int32), K2 μ v1 = some r → me_Z X B 0 0 μ 2 [(0, me_r 36 0), (1, me_i v1)] []) : ∀ (n : Nat) (μ : me_M) (v1 : Int32) (v2 : Int32), f_M_begins_h102 K2 n μ v1 v2 = some r → me_Z X B 0 0 μ 102 [(0, me_r 36 0), (1, me_i v1), (2, me_i v2)] [] := by
  intro n
  induction n with
  | zero => intro μ v1 v2  h; exact absurd (show (none : Option (me_M × Unit)) = some r from h) (fun q => by cases q)
  | succ n ih => intro μ v1 v2  h; exact z_M_begins_b102 C N hNx hB hK2 (K102 := f_M_begins_h102 K2 n) ih  h
def f_M_begins_b80 (K2 : me_M → Int32 → Option (me_M × Unit)) (K80 : me_M → Int32 → Int32 → Option (me_M × Unit)) (μ : me_M) (v1 : Int32) (v2 : Int32) : Option (me_M × Unit) :=
  if (5 : Int32) ≤ v2 then
  (f_M_begins_h102 K2 me_FU μ v1 (0 : Int32))
  else
  (me_gd (me_inb v1 16) (
  me_gd (me_inb v2 5) (
  me_lt (me_up μ 74 (me_ix v1) (me_ix v2) (vp_nar .boolean (0 : Int32))) (fun μ4 =>
  me_lt (me_inc v2 (1)) (fun x5 =>
  K80 μ4 v1 x5)))))
set_option maxHeartbeats 4000000 in
set_option maxRecDepth 100000 in
theorem z_M_begins_b80 {X : me_X} {B : me_B} {sz : Nat} (C : me_C X B RX12 cX12_begins 6 none) {μ : me_M} {v1 : Int32} {v2 : Int32}  {K2 : me_M → Int32 → Option (me_M × Unit)} {K80 : me_M → Int32 → Int32 → Option (me_M × Unit)} {r : me_M × Unit} (N : me_En X B sz (B, r.1, .ok (none)) 0 0 0 0) (hNx : me_Nx X) (hB : me_St B) (hK2 : ∀ (μ : me_M) (v1 : Int32), K2 μ v1 = some r → me_Z X B 0 0 μ 2 [(0, me_r 36 0), (1, me_i v1)] []) (hK80 : ∀ (μ : me_M) (v1 : Int32) (v2 : Int32), K80 μ v1 v2 = some r → me_Z X B 0 0 μ 80 [(0, me_r 36 0), (1, me_i v1), (2, me_i v2)] [])  (hf : f_M_begins_b80 K2 K80 μ v1 v2 = some r) : me_Z X B 0 0 μ 80 [(0, me_r 36 0), (1, me_i v1), (2, me_i v2)] [] := by
  unfold f_M_begins_b80 at hf
  refine me_iload_n C 2 dX12_begins_80 rfl rfl ?_
  refine me_iconst C (v := 5) dX12_begins_81 (by decide) ?_
  refine me_icmp_ge C (tgt := 100) dX12_begins_82 (by decide) (fun c1 => ?_) (fun c1 => ?_)
  · replace hf := me_ip c1 hf
    refine me_iconst C (v := 0) dX12_begins_100 (by decide) ?_
    refine me_istore_n C 2 dX12_begins_101 rfl (by decide) (L' := [(2, me_i (0 : Int32)), (0, me_r 36 0), (1, me_i v1)]) rfl ?_
    refine me_dropI [(0, me_r 36 0), (1, me_i v1), (2, me_i (0 : Int32))] [1, 2, 0] rfl ?_
    exact z_M_begins_h102 C N hNx hB hK2 me_FU μ v1 (0 : Int32) hf
  · replace hf := me_in c1 hf
    refine me_aload_n C 0 (Or.inr (Or.inl ⟨_, rfl⟩)) dX12_begins_85 rfl rfl ?_
    refine me_getr C hB 27 (k' := 73) (i' := 0) fg_M_92 dX12_begins_86 rfl rfl ?_
    refine me_iload_n C 1 dX12_begins_89 rfl rfl ?_
    obtain ⟨g2, hf⟩ := me_gs hf
    refine me_aald C hB (k' := 74) (i' := (me_ix v1)) rfl (fun _ => rfl) rfl g2 dX12_begins_90 rfl ?_
    refine me_iload_n C 2 dX12_begins_91 rfl rfl ?_
    refine me_iconst C (v := 0) dX12_begins_92 (by decide) ?_
    obtain ⟨g3, hf⟩ := me_gs hf
    obtain ⟨μ4, e_μ4, hf⟩ := me_lts hf
    refine me_zast C rfl (fun _ => rfl) g3 dX12_begins_93 e_μ4 ?_
    obtain ⟨x5, e_x5, hf⟩ := me_lts hf
    refine me_iinc C (v := x5) (L' := [(2, me_i x5), (0, me_r 36 0), (1, me_i v1)]) dX12_begins_94 rfl e_x5.symm (by decide) rfl ?_
    refine me_goto C (tgt := 80) dX12_begins_97 (by decide) ?_
    refine me_dropI [(0, me_r 36 0), (1, me_i v1), (2, me_i x5)] [1, 2, 0] rfl ?_
    exact hK80 μ4 v1 x5 hf
def f_M_begins_h80 (K2 : me_M → Int32 → Option (me_M × Unit)) : Nat → me_M → Int32 → Int32 → Option (me_M × Unit)
  | 0, _, _, _ => none
  | n + 1, μ, v1, v2 => f_M_begins_b80 K2 (f_M_begins_h80 K2 n) μ v1 v2
set_option maxHeartbeats 4000000 in
set_option maxRecDepth 100000 in
theorem z_M_begins_h80 {X : me_X} {B : me_B} {sz : Nat} (C : me_C X B RX12 cX12_begins 6 none) {K2 : me_M → Int32 → Option (me_M × Unit)} {r : me_M × Unit} (N : me_En X B sz (B, r.1, .ok (none)) 0 0 0 0) (hNx : me_Nx X) (hB : me_St B) (hK2 : ∀ (μ : me_M) (v1 : Int32), K2 μ v1 = some r → me_Z X B 0 0 μ 2 [(0, me_r 36 0), (1, me_i v1)] []) : ∀ (n : Nat) (μ : me_M) (v1 : Int32) (v2 : Int32), f_M_begins_h80 K2 n μ v1 v2 = some r → me_Z X B 0 0 μ 80 [(0, me_r 36 0), (1, me_i v1), (2, me_i v2)] [] := by
  intro n
  induction n with
  | zero => intro μ v1 v2  h; exact absurd (show (none : Option (me_M × Unit)) = some r from h) (fun q => by cases q)
  | succ n ih => intro μ v1 v2  h; exact z_M_begins_b80 C N hNx hB hK2 (K80 := f_M_begins_h80 K2 n) ih  h
def f_M_begins_b10 (K2 : me_M → Int32 → Option (me_M × Unit)) (K10 : me_M → Int32 → Int32 → Option (me_M × Unit)) (μ : me_M) (v1 : Int32) (v2 : Int32) : Option (me_M × Unit) :=
  if (2 : Int32) ≤ v2 then
  (f_M_begins_h80 K2 me_FU μ v1 (0 : Int32))
  else
  (f_M_begins_h17 K2 K10 me_FU μ v1 v2 (0 : Int32))
set_option maxHeartbeats 4000000 in
set_option maxRecDepth 100000 in
theorem z_M_begins_b10 {X : me_X} {B : me_B} {sz : Nat} (C : me_C X B RX12 cX12_begins 6 none) {μ : me_M} {v1 : Int32} {v2 : Int32}  {K2 : me_M → Int32 → Option (me_M × Unit)} {K10 : me_M → Int32 → Int32 → Option (me_M × Unit)} {r : me_M × Unit} (N : me_En X B sz (B, r.1, .ok (none)) 0 0 0 0) (hNx : me_Nx X) (hB : me_St B) (hK2 : ∀ (μ : me_M) (v1 : Int32), K2 μ v1 = some r → me_Z X B 0 0 μ 2 [(0, me_r 36 0), (1, me_i v1)] []) (hK10 : ∀ (μ : me_M) (v1 : Int32) (v2 : Int32), K10 μ v1 v2 = some r → me_Z X B 0 0 μ 10 [(0, me_r 36 0), (1, me_i v1), (2, me_i v2)] [])  (hf : f_M_begins_b10 K2 K10 μ v1 v2 = some r) : me_Z X B 0 0 μ 10 [(0, me_r 36 0), (1, me_i v1), (2, me_i v2)] [] := by
  unfold f_M_begins_b10 at hf
  refine me_iload_n C 2 dX12_begins_10 rfl rfl ?_
  refine me_iconst C (v := 2) dX12_begins_11 (by decide) ?_
  refine me_icmp_ge C (tgt := 78) dX12_begins_12 (by decide) (fun c1 => ?_) (fun c1 => ?_)
  · replace hf := me_ip c1 hf
    refine me_iconst C (v := 0) dX12_begins_78 (by decide) ?_
    refine me_istore_n C 2 dX12_begins_79 rfl (by decide) (L' := [(2, me_i (0 : Int32)), (0, me_r 36 0), (1, me_i v1)]) rfl ?_
    refine me_dropI [(0, me_r 36 0), (1, me_i v1), (2, me_i (0 : Int32))] [1, 2, 0] rfl ?_
    exact z_M_begins_h80 C N hNx hB hK2 me_FU μ v1 (0 : Int32) hf
  · replace hf := me_in c1 hf
    refine me_iconst C (v := 0) dX12_begins_15 (by decide) ?_
    refine me_istore_n C 3 dX12_begins_16 rfl (by decide) (L' := [(3, me_i (0 : Int32)), (0, me_r 36 0), (1, me_i v1), (2, me_i v2)]) rfl ?_
    refine me_dropI [(0, me_r 36 0), (1, me_i v1), (2, me_i v2), (3, me_i (0 : Int32))] [1, 2, 3, 0] rfl ?_
    exact z_M_begins_h17 C N hNx hB hK2 hK10 me_FU μ v1 v2 (0 : Int32) hf
def f_M_begins_h10 (K2 : me_M → Int32 → Option (me_M × Unit)) : Nat → me_M → Int32 → Int32 → Option (me_M × Unit)
  | 0, _, _, _ => none
  | n + 1, μ, v1, v2 => f_M_begins_b10 K2 (f_M_begins_h10 K2 n) μ v1 v2
set_option maxHeartbeats 4000000 in
set_option maxRecDepth 100000 in
theorem z_M_begins_h10 {X : me_X} {B : me_B} {sz : Nat} (C : me_C X B RX12 cX12_begins 6 none) {K2 : me_M → Int32 → Option (me_M × Unit)} {r : me_M × Unit} (N : me_En X B sz (B, r.1, .ok (none)) 0 0 0 0) (hNx : me_Nx X) (hB : me_St B) (hK2 : ∀ (μ : me_M) (v1 : Int32), K2 μ v1 = some r → me_Z X B 0 0 μ 2 [(0, me_r 36 0), (1, me_i v1)] []) : ∀ (n : Nat) (μ : me_M) (v1 : Int32) (v2 : Int32), f_M_begins_h10 K2 n μ v1 v2 = some r → me_Z X B 0 0 μ 10 [(0, me_r 36 0), (1, me_i v1), (2, me_i v2)] [] := by
  intro n
  induction n with
  | zero => intro μ v1 v2  h; exact absurd (show (none : Option (me_M × Unit)) = some r from h) (fun q => by cases q)
  | succ n ih => intro μ v1 v2  h; exact z_M_begins_b10 C N hNx hB hK2 (K10 := f_M_begins_h10 K2 n) ih  h
def f_M_begins_b195 (K182 : me_M → Int32 → Int32 → Option (me_M × Unit)) (K195 : me_M → Int32 → Int32 → Nat → Int32 → Option (me_M × Unit)) (μ : me_M) (v2 : Int32) (v3 : Int32) (v4 : Nat) (v5 : Int32) : Option (me_M × Unit) :=
  if (8 : Int32) ≤ v5 then
  (me_lt (me_inc v3 (1)) (fun x2 =>
  K182 μ v2 x2))
  else
  (me_gd (me_inb v5 8) (
  me_lt (me_up μ 84 v4 (me_ix v5) (0 : Int32)) (fun μ4 =>
  me_lt (me_inc v5 (1)) (fun x5 =>
  K195 μ4 v2 v3 v4 x5))))
set_option maxHeartbeats 4000000 in
set_option maxRecDepth 100000 in
theorem z_M_begins_b195 {X : me_X} {B : me_B} {sz : Nat} (C : me_C X B RX12 cX12_begins 6 none) {μ : me_M} {v2 : Int32} {v3 : Int32} {v4 : Nat} {v5 : Int32}  {K182 : me_M → Int32 → Int32 → Option (me_M × Unit)} {K195 : me_M → Int32 → Int32 → Nat → Int32 → Option (me_M × Unit)} {r : me_M × Unit} (N : me_En X B sz (B, r.1, .ok (none)) 0 0 0 0) (hNx : me_Nx X) (hB : me_St B) (hK182 : ∀ (μ : me_M) (v2 : Int32) (v3 : Int32), K182 μ v2 v3 = some r → me_Z X B 0 0 μ 182 [(0, me_r 36 0), (1, me_r 83 0), (2, me_i v2), (3, me_i v3)] []) (hK195 : ∀ (μ : me_M) (v2 : Int32) (v3 : Int32) (v4 : Nat) (v5 : Int32), K195 μ v2 v3 v4 v5 = some r → me_Z X B 0 0 μ 195 [(0, me_r 36 0), (1, me_r 83 0), (2, me_i v2), (3, me_i v3), (4, me_r 84 v4), (5, me_i v5)] [])  (hf : f_M_begins_b195 K182 K195 μ v2 v3 v4 v5 = some r) : me_Z X B 0 0 μ 195 [(0, me_r 36 0), (1, me_r 83 0), (2, me_i v2), (3, me_i v3), (4, me_r 84 v4), (5, me_i v5)] [] := by
  unfold f_M_begins_b195 at hf
  refine me_iload C dX12_begins_195 rfl ?_
  refine me_bipush C (v := 8) dX12_begins_197 (by decide) ?_
  refine me_icmp_ge C (tgt := 214) dX12_begins_199 (by decide) (fun c1 => ?_) (fun c1 => ?_)
  · replace hf := me_ip c1 hf
    obtain ⟨x2, e_x2, hf⟩ := me_lts hf
    refine me_iinc C (v := x2) (L' := [(3, me_i x2), (0, me_r 36 0), (1, me_r 83 0), (2, me_i v2), (4, me_r 84 v4), (5, me_i v5)]) dX12_begins_214 rfl e_x2.symm (by decide) rfl ?_
    refine me_goto C (tgt := 182) dX12_begins_217 (by decide) ?_
    refine me_dropI [(0, me_r 36 0), (1, me_r 83 0), (2, me_i v2), (3, me_i x2)] [1, 2, 3, 0] rfl ?_
    exact hK182 μ v2 x2 hf
  · replace hf := me_in c1 hf
    refine me_aload C (Or.inr (Or.inl ⟨_, rfl⟩)) dX12_begins_202 rfl ?_
    refine me_iload C dX12_begins_204 rfl ?_
    refine me_iconst C (v := 0) dX12_begins_206 (by decide) ?_
    obtain ⟨g3, hf⟩ := me_gs hf
    obtain ⟨μ4, e_μ4, hf⟩ := me_lts hf
    refine me_iast C rfl (fun _ => rfl) g3 dX12_begins_207 e_μ4 ?_
    obtain ⟨x5, e_x5, hf⟩ := me_lts hf
    refine me_iinc C (v := x5) (L' := [(5, me_i x5), (0, me_r 36 0), (1, me_r 83 0), (2, me_i v2), (3, me_i v3), (4, me_r 84 v4)]) dX12_begins_208 rfl e_x5.symm (by decide) rfl ?_
    refine me_goto C (tgt := 195) dX12_begins_211 (by decide) ?_
    refine me_dropI [(0, me_r 36 0), (1, me_r 83 0), (2, me_i v2), (3, me_i v3), (4, me_r 84 v4), (5, me_i x5)] [1, 2, 3, 4, 5, 0] rfl ?_
    exact hK195 μ4 v2 v3 v4 x5 hf
def f_M_begins_h195 (K182 : me_M → Int32 → Int32 → Option (me_M × Unit)) : Nat → me_M → Int32 → Int32 → Nat → Int32 → Option (me_M × Unit)
  | 0, _, _, _, _, _ => none
  | n + 1, μ, v2, v3, v4, v5 => f_M_begins_b195 K182 (f_M_begins_h195 K182 n) μ v2 v3 v4 v5
set_option maxHeartbeats 4000000 in
set_option maxRecDepth 100000 in
theorem z_M_begins_h195 {X : me_X} {B : me_B} {sz : Nat} (C : me_C X B RX12 cX12_begins 6 none) {K182 : me_M → Int32 → Int32 → Option (me_M × Unit)} {r : me_M × Unit} (N : me_En X B sz (B, r.1, .ok (none)) 0 0 0 0) (hNx : me_Nx X) (hB : me_St B) (hK182 : ∀ (μ : me_M) (v2 : Int32) (v3 : Int32), K182 μ v2 v3 = some r → me_Z X B 0 0 μ 182 [(0, me_r 36 0), (1, me_r 83 0), (2, me_i v2), (3, me_i v3)] []) : ∀ (n : Nat) (μ : me_M) (v2 : Int32) (v3 : Int32) (v4 : Nat) (v5 : Int32), f_M_begins_h195 K182 n μ v2 v3 v4 v5 = some r → me_Z X B 0 0 μ 195 [(0, me_r 36 0), (1, me_r 83 0), (2, me_i v2), (3, me_i v3), (4, me_r 84 v4), (5, me_i v5)] [] := by
  intro n
  induction n with
  | zero => intro μ v2 v3 v4 v5  h; exact absurd (show (none : Option (me_M × Unit)) = some r from h) (fun q => by cases q)
  | succ n ih => intro μ v2 v3 v4 v5  h; exact z_M_begins_b195 C N hNx hB hK182 (K195 := f_M_begins_h195 K182 n) ih  h
def f_M_begins_b182 (K182 : me_M → Int32 → Int32 → Option (me_M × Unit)) (μ : me_M) (v2 : Int32) (v3 : Int32) : Option (me_M × Unit) :=
  if v2 ≤ v3 then
  (me_lt (me_up μ 36 0 19 (0 : Int32)) (fun μ2 =>
  me_lt (me_up μ2 36 0 41 (0 : Int32)) (fun μ3 =>
  me_lt (me_up μ3 36 0 4 (0 : Int32)) (fun μ4 =>
  me_lt (me_up μ4 36 0 2 (2 : Int32)) (fun μ5 =>
  me_lt (me_up μ5 36 0 3 (120 : Int32)) (fun μ6 =>
  some (μ6, ())))))))
  else
  (me_gd (me_inb v3 8) (
  f_M_begins_h195 K182 me_FU μ v2 v3 (me_ix v3) (0 : Int32)))
set_option maxHeartbeats 4000000 in
set_option maxRecDepth 100000 in
theorem z_M_begins_b182 {X : me_X} {B : me_B} {sz : Nat} (C : me_C X B RX12 cX12_begins 6 none) {μ : me_M} {v2 : Int32} {v3 : Int32}  {K182 : me_M → Int32 → Int32 → Option (me_M × Unit)} {r : me_M × Unit} (N : me_En X B sz (B, r.1, .ok (none)) 0 0 0 0) (hNx : me_Nx X) (hB : me_St B) (hK182 : ∀ (μ : me_M) (v2 : Int32) (v3 : Int32), K182 μ v2 v3 = some r → me_Z X B 0 0 μ 182 [(0, me_r 36 0), (1, me_r 83 0), (2, me_i v2), (3, me_i v3)] [])  (hf : f_M_begins_b182 K182 μ v2 v3 = some r) : me_Z X B 0 0 μ 182 [(0, me_r 36 0), (1, me_r 83 0), (2, me_i v2), (3, me_i v3)] [] := by
  unfold f_M_begins_b182 at hf
  refine me_iload_n C 3 dX12_begins_182 rfl rfl ?_
  refine me_iload_n C 2 dX12_begins_183 rfl rfl ?_
  refine me_icmp_ge C (tgt := 220) dX12_begins_184 (by decide) (fun c1 => ?_) (fun c1 => ?_)
  · replace hf := me_ip c1 hf
    refine me_aload_n C 0 (Or.inr (Or.inl ⟨_, rfl⟩)) dX12_begins_220 rfl rfl ?_
    refine me_iconst C (v := 0) dX12_begins_221 (by decide) ?_
    obtain ⟨μ2, e_μ2, hf⟩ := me_lts hf
    refine me_puti C 19 fw_M_152 dX12_begins_222 rfl (me_nri _) e_μ2 ?_
    refine me_aload_n C 0 (Or.inr (Or.inl ⟨_, rfl⟩)) dX12_begins_225 rfl rfl ?_
    refine me_iconst C (v := 0) dX12_begins_226 (by decide) ?_
    obtain ⟨μ3, e_μ3, hf⟩ := me_lts hf
    refine me_puti C 41 fw_M_159 dX12_begins_227 rfl (me_nri _) e_μ3 ?_
    refine me_aload_n C 0 (Or.inr (Or.inl ⟨_, rfl⟩)) dX12_begins_230 rfl rfl ?_
    refine me_iconst C (v := 0) dX12_begins_231 (by decide) ?_
    obtain ⟨μ4, e_μ4, hf⟩ := me_lts hf
    refine me_puti C 4 fw_M_162 dX12_begins_232 rfl (me_nri _) e_μ4 ?_
    refine me_aload_n C 0 (Or.inr (Or.inl ⟨_, rfl⟩)) dX12_begins_235 rfl rfl ?_
    refine me_iconst C (v := 2) dX12_begins_236 (by decide) ?_
    obtain ⟨μ5, e_μ5, hf⟩ := me_lts hf
    refine me_puti C 2 fw_M_16 dX12_begins_237 rfl (me_nri _) e_μ5 ?_
    refine me_aload_n C 0 (Or.inr (Or.inl ⟨_, rfl⟩)) dX12_begins_240 rfl rfl ?_
    refine me_bipush C (v := 120) dX12_begins_241 (by decide) ?_
    obtain ⟨μ6, e_μ6, hf⟩ := me_lts hf
    refine me_puti C 3 fw_M_19 dX12_begins_243 rfl (by decide +kernel) e_μ6 ?_
    exact me_vret C N dX12_begins_246 (by cases hf; rfl) (by decide) (by decide)
  · replace hf := me_in c1 hf
    refine me_aload_n C 1 (Or.inr (Or.inl ⟨_, rfl⟩)) dX12_begins_187 rfl rfl ?_
    refine me_iload_n C 3 dX12_begins_188 rfl rfl ?_
    obtain ⟨g7, hf⟩ := me_gs hf
    refine me_aald C hB (k' := 84) (i' := (me_ix v3)) rfl (fun _ => rfl) rfl g7 dX12_begins_189 rfl ?_
    refine me_astore C (Or.inr (Or.inl ⟨_, rfl⟩)) dX12_begins_190 (by decide) (L' := [(4, me_r 84 (me_ix v3)), (0, me_r 36 0), (1, me_r 83 0), (2, me_i v2), (3, me_i v3)]) rfl ?_
    refine me_iconst C (v := 0) dX12_begins_192 (by decide) ?_
    refine me_istore C dX12_begins_193 (by decide) (L' := [(5, me_i (0 : Int32)), (4, me_r 84 (me_ix v3)), (0, me_r 36 0), (1, me_r 83 0), (2, me_i v2), (3, me_i v3)]) rfl ?_
    refine me_dropI [(0, me_r 36 0), (1, me_r 83 0), (2, me_i v2), (3, me_i v3), (4, me_r 84 (me_ix v3)), (5, me_i (0 : Int32))] [2, 3, 4, 5, 1, 0] rfl ?_
    exact z_M_begins_h195 C N hNx hB hK182 me_FU μ v2 v3 (me_ix v3) (0 : Int32) hf
def f_M_begins_h182  : Nat → me_M → Int32 → Int32 → Option (me_M × Unit)
  | 0, _, _, _ => none
  | n + 1, μ, v2, v3 => f_M_begins_b182 (f_M_begins_h182 n) μ v2 v3
set_option maxHeartbeats 4000000 in
set_option maxRecDepth 100000 in
theorem z_M_begins_h182 {X : me_X} {B : me_B} {sz : Nat} (C : me_C X B RX12 cX12_begins 6 none)  {r : me_M × Unit} (N : me_En X B sz (B, r.1, .ok (none)) 0 0 0 0) (hNx : me_Nx X) (hB : me_St B)  : ∀ (n : Nat) (μ : me_M) (v2 : Int32) (v3 : Int32), f_M_begins_h182 n μ v2 v3 = some r → me_Z X B 0 0 μ 182 [(0, me_r 36 0), (1, me_r 83 0), (2, me_i v2), (3, me_i v3)] [] := by
  intro n
  induction n with
  | zero => intro μ v2 v3  h; exact absurd (show (none : Option (me_M × Unit)) = some r from h) (fun q => by cases q)
  | succ n ih => intro μ v2 v3  h; exact z_M_begins_b182 C N hNx hB  (K182 := f_M_begins_h182 n) ih  h
def f_M_begins_b2 (K2 : me_M → Int32 → Option (me_M × Unit)) (μ : me_M) (v1 : Int32) : Option (me_M × Unit) :=
  if (16 : Int32) ≤ v1 then
  (f_M_begins_h182 me_FU μ (8 : Int32) (0 : Int32))
  else
  (f_M_begins_h10 K2 me_FU μ v1 (0 : Int32))
set_option maxHeartbeats 4000000 in
set_option maxRecDepth 100000 in
theorem z_M_begins_b2 {X : me_X} {B : me_B} {sz : Nat} (C : me_C X B RX12 cX12_begins 6 none) {μ : me_M} {v1 : Int32}  {K2 : me_M → Int32 → Option (me_M × Unit)} {r : me_M × Unit} (N : me_En X B sz (B, r.1, .ok (none)) 0 0 0 0) (hNx : me_Nx X) (hB : me_St B) (hK2 : ∀ (μ : me_M) (v1 : Int32), K2 μ v1 = some r → me_Z X B 0 0 μ 2 [(0, me_r 36 0), (1, me_i v1)] [])  (hf : f_M_begins_b2 K2 μ v1 = some r) : me_Z X B 0 0 μ 2 [(0, me_r 36 0), (1, me_i v1)] [] := by
  unfold f_M_begins_b2 at hf
  refine me_iload_n C 1 dX12_begins_2 rfl rfl ?_
  refine me_bipush C (v := 16) dX12_begins_3 (by decide) ?_
  refine me_icmp_ge C (tgt := 172) dX12_begins_5 (by decide) (fun c1 => ?_) (fun c1 => ?_)
  · replace hf := me_ip c1 hf
    refine me_aload_n C 0 (Or.inr (Or.inl ⟨_, rfl⟩)) dX12_begins_172 rfl rfl ?_
    refine me_getr C hB 40 (k' := 83) (i' := 0) fg_M_135 dX12_begins_173 rfl rfl ?_
    refine me_astore_n C 1 (Or.inr (Or.inl ⟨_, rfl⟩)) dX12_begins_176 rfl (by decide) (L' := [(1, me_r 83 0), (0, me_r 36 0)]) rfl ?_
    refine me_aload_n C 1 (Or.inr (Or.inl ⟨_, rfl⟩)) dX12_begins_177 rfl rfl ?_
    refine me_alen C (v := 8) rfl (Or.inr rfl) (fun _ => rfl) dX12_begins_178 (by decide) ?_
    refine me_istore_n C 2 dX12_begins_179 rfl (by decide) (L' := [(2, me_i (8 : Int32)), (1, me_r 83 0), (0, me_r 36 0)]) rfl ?_
    refine me_iconst C (v := 0) dX12_begins_180 (by decide) ?_
    refine me_istore_n C 3 dX12_begins_181 rfl (by decide) (L' := [(3, me_i (0 : Int32)), (2, me_i (8 : Int32)), (1, me_r 83 0), (0, me_r 36 0)]) rfl ?_
    refine me_dropI [(0, me_r 36 0), (1, me_r 83 0), (2, me_i (8 : Int32)), (3, me_i (0 : Int32))] [3, 2, 1, 0] rfl ?_
    exact z_M_begins_h182 C N hNx hB me_FU μ (8 : Int32) (0 : Int32) hf
  · replace hf := me_in c1 hf
    refine me_iconst C (v := 0) dX12_begins_8 (by decide) ?_
    refine me_istore_n C 2 dX12_begins_9 rfl (by decide) (L' := [(2, me_i (0 : Int32)), (0, me_r 36 0), (1, me_i v1)]) rfl ?_
    refine me_dropI [(0, me_r 36 0), (1, me_i v1), (2, me_i (0 : Int32))] [1, 2, 0] rfl ?_
    exact z_M_begins_h10 C N hNx hB hK2 me_FU μ v1 (0 : Int32) hf
def f_M_begins_h2  : Nat → me_M → Int32 → Option (me_M × Unit)
  | 0, _, _ => none
  | n + 1, μ, v1 => f_M_begins_b2 (f_M_begins_h2 n) μ v1
set_option maxHeartbeats 4000000 in
set_option maxRecDepth 100000 in
theorem z_M_begins_h2 {X : me_X} {B : me_B} {sz : Nat} (C : me_C X B RX12 cX12_begins 6 none)  {r : me_M × Unit} (N : me_En X B sz (B, r.1, .ok (none)) 0 0 0 0) (hNx : me_Nx X) (hB : me_St B)  : ∀ (n : Nat) (μ : me_M) (v1 : Int32), f_M_begins_h2 n μ v1 = some r → me_Z X B 0 0 μ 2 [(0, me_r 36 0), (1, me_i v1)] [] := by
  intro n
  induction n with
  | zero => intro μ v1  h; exact absurd (show (none : Option (me_M × Unit)) = some r from h) (fun q => by cases q)
  | succ n ih => intro μ v1  h; exact z_M_begins_b2 C N hNx hB  (K2 := f_M_begins_h2 n) ih  h
def f_M_begins (μ : me_M) : Option (me_M × Unit) :=
  f_M_begins_h2 me_FU μ (0 : Int32)
set_option maxHeartbeats 4000000 in
set_option maxRecDepth 100000 in
theorem z_M_begins {X : me_X} {B : me_B} {sz : Nat} (C : me_C X B RX12 cX12_begins 6 none) {μ : me_M}    {r : me_M × Unit} (N : me_En X B sz (B, r.1, .ok (none)) 0 0 0 0) (hNx : me_Nx X) (hB : me_St B)   (hf : f_M_begins μ = some r) : me_Z X B 0 0 μ 0 [(0, me_r 36 0)] [] := by
  unfold f_M_begins at hf
  refine me_iconst C (v := 0) dX12_begins_0 (by decide) ?_
  refine me_istore_n C 1 dX12_begins_1 rfl (by decide) (L' := [(1, me_i (0 : Int32)), (0, me_r 36 0)]) rfl ?_
  refine me_dropI [(0, me_r 36 0), (1, me_i (0 : Int32))] [1, 0] rfl ?_
  exact z_M_begins_h2 C N hNx hB me_FU μ (0 : Int32) hf
theorem c_M_begins {B : me_B} (hB : me_St B) {μ : me_M}  {μ' : me_M} {r : Unit}  (hf : f_M_begins μ = some (μ', r)) : ∀ l E z, l.stackTraces = false → me_Met l yX12_begins cX12_begins 6 none 0 0 0 0 E B μ z [me_r 36 0] (B, μ', .ok (none)) :=
  fun _ _ _ hl => me_ofZ hl (by decide +kernel) (Nat.le_of_ble_eq_true rfl) (fun _ C N hNx => z_M_begins C N hNx hB  hf)

def f_M_net_b24 (μ : me_M) (v1 : Int32) (v2 : Int32) (s0 : Int32) : Option (me_M × Int32) :=
  me_b2 (f_M_isThrown μ s0 (1 : Int32)) (fun μ2 r1 =>
  if r1 = 0 then
  (me_lt (me_up μ2 36 0 0 v1) (fun μ4 =>
  me_lt (me_up μ4 36 0 1 v2) (fun μ5 =>
  me_b2 (f_M_begins μ5) (fun μ7 r6 =>
  me_bd (f_M_nodes μ7) (fun r8 =>
  some (μ7, r8))))))
  else
  (some (μ2, (0 : Int32))))
set_option maxHeartbeats 4000000 in
set_option maxRecDepth 100000 in
theorem z_M_net_b24 {X : me_X} {B : me_B} {sz : Nat} (C : me_C X B RX12 cX12_net 3 (some .int)) {μ : me_M} {v1 : Int32} {v2 : Int32} {s0 : Int32}   {r : me_M × Int32} (N : me_En X B sz (B, r.1, .ok (some (me_i r.2))) 1 25 0 0) (hNx : me_Nx X) (hB : me_St B)   (hf : f_M_net_b24 μ v1 v2 s0 = some r) : me_Z X B 0 0 μ 24 [(0, me_r 36 0), (1, me_i v1), (2, me_i v2)] [me_i s0, me_r 36 0] := by
  unfold f_M_net_b24 at hf
  refine me_iconst C (v := 1) dX12_net_24 (by decide) ?_
  obtain ⟨μ2, r1, h_r1, hf⟩ := me_bs2 hf
  refine me_callV C N  (As := [me_i s0, me_i (1 : Int32)]) (st := []) 0 0 (c_M_isThrown hB h_r1) mv_M_isThrown ml_M_155 rfl rfl dX12_net_25 rfl rfl ⟨by decide, by decide⟩ ⟨by decide, by decide, by decide, by decide⟩ (Nat.le_of_ble_eq_true rfl) ?_
  refine me_if_eq C (tgt := 33) dX12_net_28 (by decide) (fun c3 => ?_) (fun c3 => ?_)
  · replace hf := me_ip c3 hf
    refine me_aload_n C 0 (Or.inr (Or.inl ⟨_, rfl⟩)) dX12_net_33 rfl rfl ?_
    refine me_iload_n C 1 dX12_net_34 rfl rfl ?_
    obtain ⟨μ4, e_μ4, hf⟩ := me_lts hf
    refine me_puti C 0 fw_M_7 dX12_net_35 rfl (me_nri _) e_μ4 ?_
    refine me_aload_n C 0 (Or.inr (Or.inl ⟨_, rfl⟩)) dX12_net_38 rfl rfl ?_
    refine me_iload_n C 2 dX12_net_39 rfl rfl ?_
    obtain ⟨μ5, e_μ5, hf⟩ := me_lts hf
    refine me_puti C 1 fw_M_13 dX12_net_40 rfl (me_nri _) e_μ5 ?_
    refine me_aload_n C 0 (Or.inr (Or.inl ⟨_, rfl⟩)) dX12_net_43 rfl rfl ?_
    obtain ⟨μ7, r6, h_r6, hf⟩ := me_bs2 hf
    refine me_callV0 C N  (As := []) (st := []) 0 0 (c_M_begins hB h_r6) mv_M_begins ml_M_138 rfl rfl dX12_net_44 rfl rfl ⟨by decide, by decide⟩ ⟨by decide, by decide, by decide, by decide⟩ (Nat.le_of_ble_eq_true rfl) ?_
    refine me_aload_n C 0 (Or.inr (Or.inl ⟨_, rfl⟩)) dX12_net_47 rfl rfl ?_
    obtain ⟨r8, h_r8, hf⟩ := me_bs hf
    refine me_callV C N  (As := []) (st := []) 0 0 (c_M_nodes hB h_r8) mv_M_nodes ml_M_144 rfl rfl dX12_net_48 rfl rfl ⟨by decide, by decide⟩ ⟨by decide, by decide, by decide, by decide⟩ (Nat.le_of_ble_eq_true rfl) ?_
    exact me_iret C N dX12_net_51 (me_nri _) (by cases hf; rfl) (by decide) (by decide)
  · replace hf := me_in c3 hf
    refine me_iconst C (v := 0) dX12_net_31 (by decide) ?_
    exact me_iret C N dX12_net_32 (me_nri _) (by cases hf; rfl) (by decide) (by decide)
def f_M_net_b19 (μ : me_M) (v1 : Int32) (v2 : Int32) : Option (me_M × Int32) :=
  f_M_net_b24 μ v1 v2 (1 : Int32)
set_option maxHeartbeats 4000000 in
set_option maxRecDepth 100000 in
theorem z_M_net_b19 {X : me_X} {B : me_B} {sz : Nat} (C : me_C X B RX12 cX12_net 3 (some .int)) {μ : me_M} {v1 : Int32} {v2 : Int32}   {r : me_M × Int32} (N : me_En X B sz (B, r.1, .ok (some (me_i r.2))) 1 25 0 0) (hNx : me_Nx X) (hB : me_St B)   (hf : f_M_net_b19 μ v1 v2 = some r) : me_Z X B 0 0 μ 19 [(0, me_r 36 0), (1, me_i v1), (2, me_i v2)] [me_r 36 0] := by
  unfold f_M_net_b19 at hf
  refine me_iconst C (v := 1) dX12_net_19 (by decide) ?_
  refine me_goto C (tgt := 24) dX12_net_20 (by decide) ?_
  refine me_dropI [(0, me_r 36 0), (1, me_i v1), (2, me_i v2)] [0, 1, 2] rfl ?_
  exact z_M_net_b24 C N hNx hB hf
def f_M_net (μ : me_M) (v1 : Int32) (v2 : Int32) : Option (me_M × Int32) :=
  me_bd (f_M_isIn μ v1 (1 : Int32) (4 : Int32)) (fun r1 =>
  if r1 = 0 then
  (f_M_net_b19 μ v1 v2)
  else
  (me_bd (f_M_isIn μ v2 (1 : Int32) (4 : Int32)) (fun r3 =>
  if r3 = 0 then
  (f_M_net_b19 μ v1 v2)
  else
  (f_M_net_b24 μ v1 v2 (0 : Int32)))))
set_option maxHeartbeats 4000000 in
set_option maxRecDepth 100000 in
theorem z_M_net {X : me_X} {B : me_B} {sz : Nat} (C : me_C X B RX12 cX12_net 3 (some .int)) {μ : me_M} {v1 : Int32} {v2 : Int32}   {r : me_M × Int32} (N : me_En X B sz (B, r.1, .ok (some (me_i r.2))) 1 25 0 0) (hNx : me_Nx X) (hB : me_St B)   (hf : f_M_net μ v1 v2 = some r) : me_Z X B 0 0 μ 0 [(0, me_r 36 0), (1, me_i v1), (2, me_i v2)] [] := by
  unfold f_M_net at hf
  refine me_aload_n C 0 (Or.inr (Or.inl ⟨_, rfl⟩)) dX12_net_0 rfl rfl ?_
  refine me_iload_n C 1 dX12_net_1 rfl rfl ?_
  refine me_iconst C (v := 1) dX12_net_2 (by decide) ?_
  refine me_iconst C (v := 4) dX12_net_3 (by decide) ?_
  obtain ⟨r1, h_r1, hf⟩ := me_bs hf
  refine me_callS C N  (As := [me_i v1, me_i (1 : Int32), me_i (4 : Int32)]) (st := [me_r 36 0]) 0 0 (c_M_isIn hB h_r1) ms_M_isIn ml_M_148 dX12_net_4 rfl rfl ⟨by decide, by decide⟩ ⟨by decide, by decide, by decide, by decide⟩ (Nat.le_of_ble_eq_true rfl) ?_
  refine me_if_eq C (tgt := 19) dX12_net_7 (by decide) (fun c2 => ?_) (fun c2 => ?_)
  · replace hf := me_ip c2 hf
    refine me_dropI [(0, me_r 36 0), (1, me_i v1), (2, me_i v2)] [0, 1, 2] rfl ?_
    exact z_M_net_b19 C N hNx hB hf
  · replace hf := me_in c2 hf
    refine me_iload_n C 2 dX12_net_10 rfl rfl ?_
    refine me_iconst C (v := 1) dX12_net_11 (by decide) ?_
    refine me_iconst C (v := 4) dX12_net_12 (by decide) ?_
    obtain ⟨r3, h_r3, hf⟩ := me_bs hf
    refine me_callS C N  (As := [me_i v2, me_i (1 : Int32), me_i (4 : Int32)]) (st := [me_r 36 0]) 0 0 (c_M_isIn hB h_r3) ms_M_isIn ml_M_148 dX12_net_13 rfl rfl ⟨by decide, by decide⟩ ⟨by decide, by decide, by decide, by decide⟩ (Nat.le_of_ble_eq_true rfl) ?_
    refine me_if_ne C (tgt := 23) dX12_net_16 (by decide) (fun c4 => ?_) (fun c4 => ?_)
    · replace hf := me_in c4 hf
      refine me_iconst C (v := 0) dX12_net_23 (by decide) ?_
      refine me_dropI [(0, me_r 36 0), (1, me_i v1), (2, me_i v2)] [0, 1, 2] rfl ?_
      exact z_M_net_b24 C N hNx hB hf
    · replace hf := me_ip c4 hf
      refine me_dropI [(0, me_r 36 0), (1, me_i v1), (2, me_i v2)] [0, 1, 2] rfl ?_
      exact z_M_net_b19 C N hNx hB hf
theorem c_M_net {B : me_B} (hB : me_St B) {μ : me_M} {v1 : Int32} {v2 : Int32} {μ' : me_M} {r : Int32}  (hf : f_M_net μ v1 v2 = some (μ', r)) : ∀ l E z, l.stackTraces = false → me_Met l yX12_net cX12_net 3 (some .int) 1 25 0 0 E B μ z [me_r 36 0, me_i v1, me_i v2] (B, μ', .ok (some (me_i r))) :=
  fun _ _ _ hl => me_ofZ hl (by decide +kernel) (Nat.le_of_ble_eq_true rfl) (fun _ C N hNx => z_M_net C N hNx hB  hf)

def f_M_beside (μ : me_M) (v1 : Int32) (v2 : Int32) : Option Int32 :=
  me_gd (me_nz (μ 36 0 0)) (
  me_lt ((me_rem v1 (μ 36 0 0))) (fun x2 =>
  me_gd (me_nz (μ 36 0 0)) (
  me_lt ((v1 / (μ 36 0 0))) (fun x4 =>
  if v2 = (0 : Int32) then
  (if (μ 36 0 0) ≤ (x2 + (1 : Int32)) then
  (some (-1 : Int32))
  else
  (some (v1 + (1 : Int32))))
  else if v2 = (1 : Int32) then
  (if x2 ≤ 0 then
  (some (-1 : Int32))
  else
  (some (v1 - (1 : Int32))))
  else if v2 = (2 : Int32) then
  (if (μ 36 0 1) ≤ (x4 + (1 : Int32)) then
  (some (-1 : Int32))
  else
  (some (v1 + (μ 36 0 0))))
  else if v2 = (3 : Int32) then
  (if x4 ≤ 0 then
  (some (-1 : Int32))
  else
  (some (v1 - (μ 36 0 0))))
  else (some (-1 : Int32))))))
set_option maxHeartbeats 4000000 in
set_option maxRecDepth 100000 in
theorem z_M_beside {X : me_X} {B : me_B} {sz : Nat} (C : me_C X B RX12 cX12_beside 5 (some .int)) {μ : me_M} {v1 : Int32} {v2 : Int32}   {r : Int32} (N : me_En X B sz (B, μ, .ok (some (me_i r))) 0 0 0 0) (hNx : me_Nx X) (hB : me_St B)   (hf : f_M_beside μ v1 v2 = some r) : me_Z X B 0 0 μ 0 [(0, me_r 36 0), (1, me_i v1), (2, me_i v2)] [] := by
  unfold f_M_beside at hf
  refine me_iload_n C 1 dX12_beside_0 rfl rfl ?_
  refine me_aload_n C 0 (Or.inr (Or.inl ⟨_, rfl⟩)) dX12_beside_1 rfl rfl ?_
  refine me_geti C 0 fg_M_7 dX12_beside_2 rfl ?_
  obtain ⟨g1, hf⟩ := me_gs hf
  refine me_irem C dX12_beside_5 (me_nzs g1) ?_
  obtain ⟨x2, e_x2, hf⟩ := me_lts hf
  refine me_nm e_x2 ?_
  refine me_istore_n C 3 dX12_beside_6 rfl (by decide) (L' := [(3, me_i x2), (0, me_r 36 0), (1, me_i v1), (2, me_i v2)]) rfl ?_
  refine me_iload_n C 1 dX12_beside_7 rfl rfl ?_
  refine me_aload_n C 0 (Or.inr (Or.inl ⟨_, rfl⟩)) dX12_beside_8 rfl rfl ?_
  refine me_geti C 0 fg_M_7 dX12_beside_9 rfl ?_
  obtain ⟨g3, hf⟩ := me_gs hf
  refine me_idiv C dX12_beside_12 (me_nzs g3) ?_
  obtain ⟨x4, e_x4, hf⟩ := me_lts hf
  refine me_nm e_x4 ?_
  refine me_istore C dX12_beside_13 (by decide) (L' := [(4, me_i x4), (3, me_i x2), (0, me_r 36 0), (1, me_i v1), (2, me_i v2)]) rfl ?_
  refine me_iload_n C 2 dX12_beside_15 rfl rfl ?_
  by_cases c5 : v2 = (0 : Int32)
  · refine me_tab C (32) (tgt := 48) dX12_beside_16 (by rw [c5]; decide +kernel) (by decide) ?_
    replace hf := me_ip c5 hf
    refine me_iload_n C 3 dX12_beside_48 rfl rfl ?_
    refine me_iconst C (v := 1) dX12_beside_49 (by decide) ?_
    refine me_iadd C dX12_beside_50 ?_
    refine me_aload_n C 0 (Or.inr (Or.inl ⟨_, rfl⟩)) dX12_beside_51 rfl rfl ?_
    refine me_geti C 0 fg_M_7 dX12_beside_52 rfl ?_
    refine me_icmp_ge C (tgt := 64) dX12_beside_55 (by decide) (fun c6 => ?_) (fun c6 => ?_)
    · replace hf := me_ip c6 hf
      refine me_iconst C (v := -1) dX12_beside_64 (by decide) ?_
      exact me_iret C N dX12_beside_65 (me_nri _) (by cases hf; rfl) (by decide) (by decide)
    · replace hf := me_in c6 hf
      refine me_iload_n C 1 dX12_beside_58 rfl rfl ?_
      refine me_iconst C (v := 1) dX12_beside_59 (by decide) ?_
      refine me_iadd C dX12_beside_60 ?_
      refine me_goto C (tgt := 65) dX12_beside_61 (by decide) ?_
      exact me_iret C N dX12_beside_65 (me_nri _) (by cases hf; rfl) (by decide) (by decide)
  replace hf := me_in c5 hf
  by_cases c7 : v2 = (1 : Int32)
  · refine me_tab C (50) (tgt := 66) dX12_beside_16 (by rw [c7]; decide +kernel) (by decide) ?_
    replace hf := me_ip c7 hf
    refine me_iload_n C 3 dX12_beside_66 rfl rfl ?_
    refine me_if_le C (tgt := 76) dX12_beside_67 (by decide) (fun c8 => ?_) (fun c8 => ?_)
    · replace hf := me_ip c8 hf
      refine me_iconst C (v := -1) dX12_beside_76 (by decide) ?_
      exact me_iret C N dX12_beside_77 (me_nri _) (by cases hf; rfl) (by decide) (by decide)
    · replace hf := me_in c8 hf
      refine me_iload_n C 1 dX12_beside_70 rfl rfl ?_
      refine me_iconst C (v := 1) dX12_beside_71 (by decide) ?_
      refine me_isub C dX12_beside_72 ?_
      refine me_goto C (tgt := 77) dX12_beside_73 (by decide) ?_
      exact me_iret C N dX12_beside_77 (me_nri _) (by cases hf; rfl) (by decide) (by decide)
  replace hf := me_in c7 hf
  by_cases c9 : v2 = (2 : Int32)
  · refine me_tab C (62) (tgt := 78) dX12_beside_16 (by rw [c9]; decide +kernel) (by decide) ?_
    replace hf := me_ip c9 hf
    refine me_iload C dX12_beside_78 rfl ?_
    refine me_iconst C (v := 1) dX12_beside_80 (by decide) ?_
    refine me_iadd C dX12_beside_81 ?_
    refine me_aload_n C 0 (Or.inr (Or.inl ⟨_, rfl⟩)) dX12_beside_82 rfl rfl ?_
    refine me_geti C 1 fg_M_13 dX12_beside_83 rfl ?_
    refine me_icmp_ge C (tgt := 98) dX12_beside_86 (by decide) (fun c10 => ?_) (fun c10 => ?_)
    · replace hf := me_ip c10 hf
      refine me_iconst C (v := -1) dX12_beside_98 (by decide) ?_
      exact me_iret C N dX12_beside_99 (me_nri _) (by cases hf; rfl) (by decide) (by decide)
    · replace hf := me_in c10 hf
      refine me_iload_n C 1 dX12_beside_89 rfl rfl ?_
      refine me_aload_n C 0 (Or.inr (Or.inl ⟨_, rfl⟩)) dX12_beside_90 rfl rfl ?_
      refine me_geti C 0 fg_M_7 dX12_beside_91 rfl ?_
      refine me_iadd C dX12_beside_94 ?_
      refine me_goto C (tgt := 99) dX12_beside_95 (by decide) ?_
      exact me_iret C N dX12_beside_99 (me_nri _) (by cases hf; rfl) (by decide) (by decide)
  replace hf := me_in c9 hf
  by_cases c11 : v2 = (3 : Int32)
  · refine me_tab C (84) (tgt := 100) dX12_beside_16 (by rw [c11]; decide +kernel) (by decide) ?_
    replace hf := me_ip c11 hf
    refine me_iload C dX12_beside_100 rfl ?_
    refine me_if_le C (tgt := 114) dX12_beside_102 (by decide) (fun c12 => ?_) (fun c12 => ?_)
    · replace hf := me_ip c12 hf
      refine me_iconst C (v := -1) dX12_beside_114 (by decide) ?_
      exact me_iret C N dX12_beside_115 (me_nri _) (by cases hf; rfl) (by decide) (by decide)
    · replace hf := me_in c12 hf
      refine me_iload_n C 1 dX12_beside_105 rfl rfl ?_
      refine me_aload_n C 0 (Or.inr (Or.inl ⟨_, rfl⟩)) dX12_beside_106 rfl rfl ?_
      refine me_geti C 0 fg_M_7 dX12_beside_107 rfl ?_
      refine me_isub C dX12_beside_110 ?_
      refine me_goto C (tgt := 115) dX12_beside_111 (by decide) ?_
      exact me_iret C N dX12_beside_115 (me_nri _) (by cases hf; rfl) (by decide) (by decide)
  replace hf := me_in c11 hf
  refine me_tabD C [0, 1, 2, 3] (tgt := 116) dX12_beside_16 (by decide +kernel) ⟨c5, c7, c9, c11, trivial⟩ (by decide) ?_
  refine me_iconst C (v := -1) dX12_beside_116 (by decide) ?_
  exact me_iret C N dX12_beside_117 (me_nri _) (by cases hf; rfl) (by decide) (by decide)
theorem c_M_beside {B : me_B} (hB : me_St B) {μ : me_M} {v1 : Int32} {v2 : Int32} {r : Int32}  (hf : f_M_beside μ v1 v2 = some r) : ∀ l E z, l.stackTraces = false → me_Met l yX12_beside cX12_beside 5 (some .int) 0 0 0 0 E B μ z [me_r 36 0, me_i v1, me_i v2] (B, μ, .ok (some (me_i r))) :=
  fun _ _ _ hl => me_ofZ hl (by decide +kernel) (Nat.le_of_ble_eq_true rfl) (fun _ C N hNx => z_M_beside C N hNx hB  hf)

def f_M_room_b49 (μ : me_M) (K7 : Int32 → Int32 → Option Int32) (v2 : Int32) (s0 : Int32) : Option Int32 :=
  me_lt ((s0 + (1 : Int32))) (fun x1 =>
  me_lt (me_inc v2 (1)) (fun x2 =>
  K7 x1 x2))
set_option maxHeartbeats 4000000 in
set_option maxRecDepth 100000 in
theorem z_M_room_b49 {X : me_X} {B : me_B} {sz : Nat} (C : me_C X B RX12 cX12_room 3 (some .int)) {μ : me_M} {v2 : Int32} {s0 : Int32}  {K7 : Int32 → Int32 → Option Int32} {r : Int32} (N : me_En X B sz (B, μ, .ok (some (me_i r))) 0 0 0 0) (hNx : me_Nx X) (hB : me_St B) (hK7 : ∀ (v1 : Int32) (v2 : Int32), K7 v1 v2 = some r → me_Z X B 0 0 μ 7 [(0, me_r 36 0), (1, me_i v1), (2, me_i v2)] [])  (hf : f_M_room_b49 μ K7 v2 s0 = some r) : me_Z X B 0 0 μ 49 [(0, me_r 36 0), (2, me_i v2)] [me_i s0] := by
  unfold f_M_room_b49 at hf
  refine me_iconst C (v := 1) dX12_room_49 (by decide) ?_
  refine me_goto C (tgt := 54) dX12_room_50 (by decide) ?_
  refine me_iadd C dX12_room_54 ?_
  obtain ⟨x1, e_x1, hf⟩ := me_lts hf
  refine me_nm e_x1 ?_
  refine me_istore_n C 1 dX12_room_55 rfl (by decide) (L' := [(1, me_i x1), (0, me_r 36 0), (2, me_i v2)]) rfl ?_
  obtain ⟨x2, e_x2, hf⟩ := me_lts hf
  refine me_iinc C (v := x2) (L' := [(2, me_i x2), (1, me_i x1), (0, me_r 36 0)]) dX12_room_56 rfl e_x2.symm (by decide) rfl ?_
  refine me_goto C (tgt := 7) dX12_room_59 (by decide) ?_
  refine me_dropI [(0, me_r 36 0), (1, me_i x1), (2, me_i x2)] [2, 1, 0] rfl ?_
  exact hK7 x1 x2 hf
def f_M_room_b53 (μ : me_M) (K7 : Int32 → Int32 → Option Int32) (v2 : Int32) (s0 : Int32) : Option Int32 :=
  me_lt ((s0 + (0 : Int32))) (fun x1 =>
  me_lt (me_inc v2 (1)) (fun x2 =>
  K7 x1 x2))
set_option maxHeartbeats 4000000 in
set_option maxRecDepth 100000 in
theorem z_M_room_b53 {X : me_X} {B : me_B} {sz : Nat} (C : me_C X B RX12 cX12_room 3 (some .int)) {μ : me_M} {v2 : Int32} {s0 : Int32}  {K7 : Int32 → Int32 → Option Int32} {r : Int32} (N : me_En X B sz (B, μ, .ok (some (me_i r))) 0 0 0 0) (hNx : me_Nx X) (hB : me_St B) (hK7 : ∀ (v1 : Int32) (v2 : Int32), K7 v1 v2 = some r → me_Z X B 0 0 μ 7 [(0, me_r 36 0), (1, me_i v1), (2, me_i v2)] [])  (hf : f_M_room_b53 μ K7 v2 s0 = some r) : me_Z X B 0 0 μ 53 [(0, me_r 36 0), (2, me_i v2)] [me_i s0] := by
  unfold f_M_room_b53 at hf
  refine me_iconst C (v := 0) dX12_room_53 (by decide) ?_
  refine me_iadd C dX12_room_54 ?_
  obtain ⟨x1, e_x1, hf⟩ := me_lts hf
  refine me_nm e_x1 ?_
  refine me_istore_n C 1 dX12_room_55 rfl (by decide) (L' := [(1, me_i x1), (0, me_r 36 0), (2, me_i v2)]) rfl ?_
  obtain ⟨x2, e_x2, hf⟩ := me_lts hf
  refine me_iinc C (v := x2) (L' := [(2, me_i x2), (1, me_i x1), (0, me_r 36 0)]) dX12_room_56 rfl e_x2.symm (by decide) rfl ?_
  refine me_goto C (tgt := 7) dX12_room_59 (by decide) ?_
  refine me_dropI [(0, me_r 36 0), (1, me_i x1), (2, me_i x2)] [2, 1, 0] rfl ?_
  exact hK7 x1 x2 hf
def f_M_room_b7 (μ : me_M) (K7 : Int32 → Int32 → Option Int32) (v1 : Int32) (v2 : Int32) : Option Int32 :=
  if (μ 36 0 19) ≤ v2 then
  (some ((200 : Int32) - v1))
  else
  (me_gd (me_inb v2 200) (
  if (μ 37 0 (me_ix v2)) = (113 : Int32) then
  (me_gd (me_inb v2 200) (
  if (μ 38 0 (me_ix v2)) = (115 : Int32) then
  (f_M_room_b49 μ K7 v2 v1)
  else
  (me_gd (me_inb v2 200) (
  if (μ 38 0 (me_ix v2)) = (119 : Int32) then
  (f_M_room_b49 μ K7 v2 v1)
  else
  (f_M_room_b53 μ K7 v2 v1)))))
  else
  (f_M_room_b53 μ K7 v2 v1)))
set_option maxHeartbeats 4000000 in
set_option maxRecDepth 100000 in
theorem z_M_room_b7 {X : me_X} {B : me_B} {sz : Nat} (C : me_C X B RX12 cX12_room 3 (some .int)) {μ : me_M} {v1 : Int32} {v2 : Int32}  {K7 : Int32 → Int32 → Option Int32} {r : Int32} (N : me_En X B sz (B, μ, .ok (some (me_i r))) 0 0 0 0) (hNx : me_Nx X) (hB : me_St B) (hK7 : ∀ (v1 : Int32) (v2 : Int32), K7 v1 v2 = some r → me_Z X B 0 0 μ 7 [(0, me_r 36 0), (1, me_i v1), (2, me_i v2)] [])  (hf : f_M_room_b7 μ K7 v1 v2 = some r) : me_Z X B 0 0 μ 7 [(0, me_r 36 0), (1, me_i v1), (2, me_i v2)] [] := by
  unfold f_M_room_b7 at hf
  refine me_iload_n C 2 dX12_room_7 rfl rfl ?_
  refine me_aload_n C 0 (Or.inr (Or.inl ⟨_, rfl⟩)) dX12_room_8 rfl rfl ?_
  refine me_geti C 19 fg_M_152 dX12_room_9 rfl ?_
  refine me_icmp_ge C (tgt := 62) dX12_room_12 (by decide) (fun c1 => ?_) (fun c1 => ?_)
  · replace hf := me_ip c1 hf
    refine me_sipush C (v := 200) dX12_room_62 (by decide) ?_
    refine me_iload_n C 1 dX12_room_65 rfl rfl ?_
    refine me_isub C dX12_room_66 ?_
    exact me_iret C N dX12_room_67 (me_nri _) (by cases hf; rfl) (by decide) (by decide)
  · replace hf := me_in c1 hf
    refine me_iload_n C 1 dX12_room_15 rfl rfl ?_
    refine me_aload_n C 0 (Or.inr (Or.inl ⟨_, rfl⟩)) dX12_room_16 rfl rfl ?_
    refine me_getr C hB 6 (k' := 37) (i' := 0) fg_M_23 dX12_room_17 rfl rfl ?_
    refine me_iload_n C 2 dX12_room_20 rfl rfl ?_
    obtain ⟨g2, hf⟩ := me_gs hf
    refine me_cald C rfl (fun _ => rfl) g2 dX12_room_21 ?_
    refine me_bipush C (v := 113) dX12_room_22 (by decide) ?_
    refine me_icmp_ne C (tgt := 53) dX12_room_24 (by decide) (fun c3 => ?_) (fun c3 => ?_)
    · replace hf := me_in c3 hf
      refine me_dropI [(0, me_r 36 0), (2, me_i v2)] [0, 2] rfl ?_
      exact z_M_room_b53 C N hNx hB hK7 hf
    · replace hf := me_ip c3 hf
      refine me_aload_n C 0 (Or.inr (Or.inl ⟨_, rfl⟩)) dX12_room_27 rfl rfl ?_
      refine me_getr C hB 7 (k' := 38) (i' := 0) fg_M_27 dX12_room_28 rfl rfl ?_
      refine me_iload_n C 2 dX12_room_31 rfl rfl ?_
      obtain ⟨g4, hf⟩ := me_gs hf
      refine me_cald C rfl (fun _ => rfl) g4 dX12_room_32 ?_
      refine me_bipush C (v := 115) dX12_room_33 (by decide) ?_
      refine me_icmp_eq C (tgt := 49) dX12_room_35 (by decide) (fun c5 => ?_) (fun c5 => ?_)
      · replace hf := me_ip c5 hf
        refine me_dropI [(0, me_r 36 0), (2, me_i v2)] [0, 2] rfl ?_
        exact z_M_room_b49 C N hNx hB hK7 hf
      · replace hf := me_in c5 hf
        refine me_aload_n C 0 (Or.inr (Or.inl ⟨_, rfl⟩)) dX12_room_38 rfl rfl ?_
        refine me_getr C hB 7 (k' := 38) (i' := 0) fg_M_27 dX12_room_39 rfl rfl ?_
        refine me_iload_n C 2 dX12_room_42 rfl rfl ?_
        obtain ⟨g6, hf⟩ := me_gs hf
        refine me_cald C rfl (fun _ => rfl) g6 dX12_room_43 ?_
        refine me_bipush C (v := 119) dX12_room_44 (by decide) ?_
        refine me_icmp_ne C (tgt := 53) dX12_room_46 (by decide) (fun c7 => ?_) (fun c7 => ?_)
        · replace hf := me_in c7 hf
          refine me_dropI [(0, me_r 36 0), (2, me_i v2)] [0, 2] rfl ?_
          exact z_M_room_b53 C N hNx hB hK7 hf
        · replace hf := me_ip c7 hf
          refine me_dropI [(0, me_r 36 0), (2, me_i v2)] [0, 2] rfl ?_
          exact z_M_room_b49 C N hNx hB hK7 hf
def f_M_room_h7 (μ : me_M) : Nat → Int32 → Int32 → Option Int32
  | 0, _, _ => none
  | n + 1, v1, v2 => f_M_room_b7 μ (f_M_room_h7 μ n) v1 v2
set_option maxHeartbeats 4000000 in
set_option maxRecDepth 100000 in
theorem z_M_room_h7 {X : me_X} {B : me_B} {sz : Nat} (C : me_C X B RX12 cX12_room 3 (some .int)) {μ : me_M}  {r : Int32} (N : me_En X B sz (B, μ, .ok (some (me_i r))) 0 0 0 0) (hNx : me_Nx X) (hB : me_St B)  : ∀ (n : Nat) (v1 : Int32) (v2 : Int32), f_M_room_h7 μ n v1 v2 = some r → me_Z X B 0 0 μ 7 [(0, me_r 36 0), (1, me_i v1), (2, me_i v2)] [] := by
  intro n
  induction n with
  | zero => intro v1 v2  h; exact absurd (show (none : Option Int32) = some r from h) (fun q => by cases q)
  | succ n ih => intro v1 v2  h; exact z_M_room_b7 C N hNx hB  (K7 := f_M_room_h7 μ n) ih  h
def f_M_room (μ : me_M) : Option Int32 :=
  me_lt ((μ 36 0 19)) (fun x1 =>
  f_M_room_h7 μ me_FU x1 (0 : Int32))
set_option maxHeartbeats 4000000 in
set_option maxRecDepth 100000 in
theorem z_M_room {X : me_X} {B : me_B} {sz : Nat} (C : me_C X B RX12 cX12_room 3 (some .int)) {μ : me_M}    {r : Int32} (N : me_En X B sz (B, μ, .ok (some (me_i r))) 0 0 0 0) (hNx : me_Nx X) (hB : me_St B)   (hf : f_M_room μ = some r) : me_Z X B 0 0 μ 0 [(0, me_r 36 0)] [] := by
  unfold f_M_room at hf
  refine me_aload_n C 0 (Or.inr (Or.inl ⟨_, rfl⟩)) dX12_room_0 rfl rfl ?_
  refine me_geti C 19 fg_M_152 dX12_room_1 rfl ?_
  obtain ⟨x1, e_x1, hf⟩ := me_lts hf
  refine me_nm e_x1 ?_
  refine me_istore_n C 1 dX12_room_4 rfl (by decide) (L' := [(1, me_i x1), (0, me_r 36 0)]) rfl ?_
  refine me_iconst C (v := 0) dX12_room_5 (by decide) ?_
  refine me_istore_n C 2 dX12_room_6 rfl (by decide) (L' := [(2, me_i (0 : Int32)), (1, me_i x1), (0, me_r 36 0)]) rfl ?_
  refine me_dropI [(0, me_r 36 0), (1, me_i x1), (2, me_i (0 : Int32))] [2, 1, 0] rfl ?_
  exact z_M_room_h7 C N hNx hB me_FU x1 (0 : Int32) hf
theorem c_M_room {B : me_B} (hB : me_St B) {μ : me_M}  {r : Int32}  (hf : f_M_room μ = some r) : ∀ l E z, l.stackTraces = false → me_Met l yX12_room cX12_room 3 (some .int) 0 0 0 0 E B μ z [me_r 36 0] (B, μ, .ok (some (me_i r))) :=
  fun _ _ _ hl => me_ofZ hl (by decide +kernel) (Nat.le_of_ble_eq_true rfl) (fun _ C N hNx => z_M_room C N hNx hB  hf)

def f_M_made (μ : me_M) (v1 : Int32) (v2 : Int32) (v3 : Int32) (v4 : Int32) (v5 : Int32) : Option (me_M × Int32) :=
  me_gd (me_inb (μ 36 0 19) 200) (
  me_lt (me_up μ 37 0 (me_ix (μ 36 0 19)) (vp_nar .char v1)) (fun μ2 =>
  me_gd (me_inb (μ2 36 0 19) 200) (
  me_lt (me_up μ2 38 0 (me_ix (μ2 36 0 19)) (vp_nar .char (115 : Int32))) (fun μ4 =>
  me_gd (me_inb (μ4 36 0 19) 200) (
  me_lt (me_up μ4 39 0 (me_ix (μ4 36 0 19)) v2) (fun μ6 =>
  me_gd (me_inb (μ6 36 0 19) 200) (
  me_lt (me_up μ6 40 0 (me_ix (μ6 36 0 19)) v3) (fun μ8 =>
  me_gd (me_inb (μ8 36 0 19) 200) (
  me_lt (me_up μ8 41 0 (me_ix (μ8 36 0 19)) v4) (fun μ10 =>
  me_gd (me_inb (μ10 36 0 19) 200) (
  me_lt (me_up μ10 42 0 (me_ix (μ10 36 0 19)) v5) (fun μ12 =>
  me_gd (me_inb (μ12 36 0 19) 200) (
  me_lt (me_up μ12 43 0 (me_ix (μ12 36 0 19)) (0 : Int32)) (fun μ14 =>
  me_gd (me_inb (μ14 36 0 19) 200) (
  me_lt (me_up μ14 44 0 (me_ix (μ14 36 0 19)) (μ14 36 0 4)) (fun μ16 =>
  me_gd (me_inb (μ16 36 0 19) 200) (
  me_lt (me_up μ16 49 0 (me_ix (μ16 36 0 19)) (-1 : Int32)) (fun μ18 =>
  me_lt (me_up μ18 36 0 19 ((μ18 36 0 19) + (1 : Int32))) (fun μ19 =>
  some (μ19, ((μ19 36 0 19) - (1 : Int32))))))))))))))))))))))
set_option maxHeartbeats 4000000 in
set_option maxRecDepth 100000 in
theorem z_M_made {X : me_X} {B : me_B} {sz : Nat} (C : me_C X B RX12 cX12_made 6 (some .int)) {μ : me_M} {v1 : Int32} {v2 : Int32} {v3 : Int32} {v4 : Int32} {v5 : Int32}   {r : me_M × Int32} (N : me_En X B sz (B, r.1, .ok (some (me_i r.2))) 0 0 0 0) (hNx : me_Nx X) (hB : me_St B)   (hf : f_M_made μ v1 v2 v3 v4 v5 = some r) : me_Z X B 0 0 μ 0 [(0, me_r 36 0), (1, me_i v1), (2, me_i v2), (3, me_i v3), (4, me_i v4), (5, me_i v5)] [] := by
  unfold f_M_made at hf
  refine me_aload_n C 0 (Or.inr (Or.inl ⟨_, rfl⟩)) dX12_made_0 rfl rfl ?_
  refine me_getr C hB 6 (k' := 37) (i' := 0) fg_M_23 dX12_made_1 rfl rfl ?_
  refine me_aload_n C 0 (Or.inr (Or.inl ⟨_, rfl⟩)) dX12_made_4 rfl rfl ?_
  refine me_geti C 19 fg_M_152 dX12_made_5 rfl ?_
  refine me_iload_n C 1 dX12_made_8 rfl rfl ?_
  obtain ⟨g1, hf⟩ := me_gs hf
  obtain ⟨μ2, e_μ2, hf⟩ := me_lts hf
  refine me_cast C rfl (fun _ => rfl) g1 dX12_made_9 e_μ2 ?_
  refine me_aload_n C 0 (Or.inr (Or.inl ⟨_, rfl⟩)) dX12_made_10 rfl rfl ?_
  refine me_getr C hB 7 (k' := 38) (i' := 0) fg_M_27 dX12_made_11 rfl rfl ?_
  refine me_aload_n C 0 (Or.inr (Or.inl ⟨_, rfl⟩)) dX12_made_14 rfl rfl ?_
  refine me_geti C 19 fg_M_152 dX12_made_15 rfl ?_
  refine me_bipush C (v := 115) dX12_made_18 (by decide) ?_
  obtain ⟨g3, hf⟩ := me_gs hf
  obtain ⟨μ4, e_μ4, hf⟩ := me_lts hf
  refine me_cast C rfl (fun _ => rfl) g3 dX12_made_20 e_μ4 ?_
  refine me_aload_n C 0 (Or.inr (Or.inl ⟨_, rfl⟩)) dX12_made_21 rfl rfl ?_
  refine me_getr C hB 8 (k' := 39) (i' := 0) fg_M_30 dX12_made_22 rfl rfl ?_
  refine me_aload_n C 0 (Or.inr (Or.inl ⟨_, rfl⟩)) dX12_made_25 rfl rfl ?_
  refine me_geti C 19 fg_M_152 dX12_made_26 rfl ?_
  refine me_iload_n C 2 dX12_made_29 rfl rfl ?_
  obtain ⟨g5, hf⟩ := me_gs hf
  obtain ⟨μ6, e_μ6, hf⟩ := me_lts hf
  refine me_iast C rfl (fun _ => rfl) g5 dX12_made_30 e_μ6 ?_
  refine me_aload_n C 0 (Or.inr (Or.inl ⟨_, rfl⟩)) dX12_made_31 rfl rfl ?_
  refine me_getr C hB 9 (k' := 40) (i' := 0) fg_M_34 dX12_made_32 rfl rfl ?_
  refine me_aload_n C 0 (Or.inr (Or.inl ⟨_, rfl⟩)) dX12_made_35 rfl rfl ?_
  refine me_geti C 19 fg_M_152 dX12_made_36 rfl ?_
  refine me_iload_n C 3 dX12_made_39 rfl rfl ?_
  obtain ⟨g7, hf⟩ := me_gs hf
  obtain ⟨μ8, e_μ8, hf⟩ := me_lts hf
  refine me_iast C rfl (fun _ => rfl) g7 dX12_made_40 e_μ8 ?_
  refine me_aload_n C 0 (Or.inr (Or.inl ⟨_, rfl⟩)) dX12_made_41 rfl rfl ?_
  refine me_getr C hB 10 (k' := 41) (i' := 0) fg_M_37 dX12_made_42 rfl rfl ?_
  refine me_aload_n C 0 (Or.inr (Or.inl ⟨_, rfl⟩)) dX12_made_45 rfl rfl ?_
  refine me_geti C 19 fg_M_152 dX12_made_46 rfl ?_
  refine me_iload C dX12_made_49 rfl ?_
  obtain ⟨g9, hf⟩ := me_gs hf
  obtain ⟨μ10, e_μ10, hf⟩ := me_lts hf
  refine me_iast C rfl (fun _ => rfl) g9 dX12_made_51 e_μ10 ?_
  refine me_aload_n C 0 (Or.inr (Or.inl ⟨_, rfl⟩)) dX12_made_52 rfl rfl ?_
  refine me_getr C hB 11 (k' := 42) (i' := 0) fg_M_40 dX12_made_53 rfl rfl ?_
  refine me_aload_n C 0 (Or.inr (Or.inl ⟨_, rfl⟩)) dX12_made_56 rfl rfl ?_
  refine me_geti C 19 fg_M_152 dX12_made_57 rfl ?_
  refine me_iload C dX12_made_60 rfl ?_
  obtain ⟨g11, hf⟩ := me_gs hf
  obtain ⟨μ12, e_μ12, hf⟩ := me_lts hf
  refine me_iast C rfl (fun _ => rfl) g11 dX12_made_62 e_μ12 ?_
  refine me_aload_n C 0 (Or.inr (Or.inl ⟨_, rfl⟩)) dX12_made_63 rfl rfl ?_
  refine me_getr C hB 12 (k' := 43) (i' := 0) fg_M_43 dX12_made_64 rfl rfl ?_
  refine me_aload_n C 0 (Or.inr (Or.inl ⟨_, rfl⟩)) dX12_made_67 rfl rfl ?_
  refine me_geti C 19 fg_M_152 dX12_made_68 rfl ?_
  refine me_iconst C (v := 0) dX12_made_71 (by decide) ?_
  obtain ⟨g13, hf⟩ := me_gs hf
  obtain ⟨μ14, e_μ14, hf⟩ := me_lts hf
  refine me_iast C rfl (fun _ => rfl) g13 dX12_made_72 e_μ14 ?_
  refine me_aload_n C 0 (Or.inr (Or.inl ⟨_, rfl⟩)) dX12_made_73 rfl rfl ?_
  refine me_getr C hB 13 (k' := 44) (i' := 0) fg_M_46 dX12_made_74 rfl rfl ?_
  refine me_aload_n C 0 (Or.inr (Or.inl ⟨_, rfl⟩)) dX12_made_77 rfl rfl ?_
  refine me_geti C 19 fg_M_152 dX12_made_78 rfl ?_
  refine me_aload_n C 0 (Or.inr (Or.inl ⟨_, rfl⟩)) dX12_made_81 rfl rfl ?_
  refine me_geti C 4 fg_M_162 dX12_made_82 rfl ?_
  obtain ⟨g15, hf⟩ := me_gs hf
  obtain ⟨μ16, e_μ16, hf⟩ := me_lts hf
  refine me_iast C rfl (fun _ => rfl) g15 dX12_made_85 e_μ16 ?_
  refine me_aload_n C 0 (Or.inr (Or.inl ⟨_, rfl⟩)) dX12_made_86 rfl rfl ?_
  refine me_getr C hB 18 (k' := 49) (i' := 0) fg_M_62 dX12_made_87 rfl rfl ?_
  refine me_aload_n C 0 (Or.inr (Or.inl ⟨_, rfl⟩)) dX12_made_90 rfl rfl ?_
  refine me_geti C 19 fg_M_152 dX12_made_91 rfl ?_
  refine me_iconst C (v := -1) dX12_made_94 (by decide) ?_
  obtain ⟨g17, hf⟩ := me_gs hf
  obtain ⟨μ18, e_μ18, hf⟩ := me_lts hf
  refine me_iast C rfl (fun _ => rfl) g17 dX12_made_95 e_μ18 ?_
  refine me_aload_n C 0 (Or.inr (Or.inl ⟨_, rfl⟩)) dX12_made_96 rfl rfl ?_
  refine me_dup C rfl dX12_made_97 ?_
  refine me_geti C 19 fg_M_152 dX12_made_98 rfl ?_
  refine me_iconst C (v := 1) dX12_made_101 (by decide) ?_
  refine me_iadd C dX12_made_102 ?_
  obtain ⟨μ19, e_μ19, hf⟩ := me_lts hf
  refine me_puti C 19 fw_M_152 dX12_made_103 rfl (me_nri _) e_μ19 ?_
  refine me_aload_n C 0 (Or.inr (Or.inl ⟨_, rfl⟩)) dX12_made_106 rfl rfl ?_
  refine me_geti C 19 fg_M_152 dX12_made_107 rfl ?_
  refine me_iconst C (v := 1) dX12_made_110 (by decide) ?_
  refine me_isub C dX12_made_111 ?_
  exact me_iret C N dX12_made_112 (me_nri _) (by cases hf; rfl) (by decide) (by decide)
theorem c_M_made {B : me_B} (hB : me_St B) {μ : me_M} {v1 : Int32} {v2 : Int32} {v3 : Int32} {v4 : Int32} {v5 : Int32} {μ' : me_M} {r : Int32}  (hf : f_M_made μ v1 v2 v3 v4 v5 = some (μ', r)) : ∀ l E z, l.stackTraces = false → me_Met l yX12_made cX12_made 6 (some .int) 0 0 0 0 E B μ z [me_r 36 0, me_i v1, me_i v2, me_i v3, me_i v4, me_i v5] (B, μ', .ok (some (me_i r))) :=
  fun _ _ _ hl => me_ofZ hl (by decide +kernel) (Nat.le_of_ble_eq_true rfl) (fun _ C N hNx => z_M_made C N hNx hB  hf)

def f_M_send_b66 (μ : me_M) (v1 : Int32) (v2 : Int32) (v3 : Int32) (v4 : Int32) (s0 : Int32) : Option (me_M × Int32) :=
  me_b2 (f_M_isThrown μ s0 (3 : Int32)) (fun μ2 r1 =>
  if r1 = 0 then
  (me_b2 (f_M_made μ2 (109 : Int32) v1 v2 v3 v4) (fun μ5 r4 =>
  some (μ5, r4)))
  else
  (some (μ2, (0 : Int32))))
set_option maxHeartbeats 4000000 in
set_option maxRecDepth 100000 in
theorem z_M_send_b66 {X : me_X} {B : me_B} {sz : Nat} (C : me_C X B RX12 cX12_send 5 (some .int)) {μ : me_M} {v1 : Int32} {v2 : Int32} {v3 : Int32} {v4 : Int32} {s0 : Int32}   {r : me_M × Int32} (N : me_En X B sz (B, r.1, .ok (some (me_i r.2))) 2 43 0 0) (hNx : me_Nx X) (hB : me_St B)   (hf : f_M_send_b66 μ v1 v2 v3 v4 s0 = some r) : me_Z X B 0 0 μ 66 [(0, me_r 36 0), (1, me_i v1), (2, me_i v2), (3, me_i v3), (4, me_i v4)] [me_i s0, me_r 36 0] := by
  unfold f_M_send_b66 at hf
  refine me_iconst C (v := 3) dX12_send_66 (by decide) ?_
  obtain ⟨μ2, r1, h_r1, hf⟩ := me_bs2 hf
  refine me_callV C N  (As := [me_i s0, me_i (3 : Int32)]) (st := []) 0 0 (c_M_isThrown hB h_r1) mv_M_isThrown ml_M_155 rfl rfl dX12_send_67 rfl rfl ⟨by decide, by decide⟩ ⟨by decide, by decide, by decide, by decide⟩ (Nat.le_of_ble_eq_true rfl) ?_
  refine me_if_eq C (tgt := 75) dX12_send_70 (by decide) (fun c3 => ?_) (fun c3 => ?_)
  · replace hf := me_ip c3 hf
    refine me_aload_n C 0 (Or.inr (Or.inl ⟨_, rfl⟩)) dX12_send_75 rfl rfl ?_
    refine me_bipush C (v := 109) dX12_send_76 (by decide) ?_
    refine me_iload_n C 1 dX12_send_78 rfl rfl ?_
    refine me_iload_n C 2 dX12_send_79 rfl rfl ?_
    refine me_iload_n C 3 dX12_send_80 rfl rfl ?_
    refine me_iload C dX12_send_81 rfl ?_
    obtain ⟨μ5, r4, h_r4, hf⟩ := me_bs2 hf
    refine me_callV C N  (As := [me_i (109 : Int32), me_i v1, me_i v2, me_i v3, me_i v4]) (st := []) 0 0 (c_M_made hB h_r4) mv_M_made ml_M_172 rfl rfl dX12_send_83 rfl rfl ⟨by decide, by decide⟩ ⟨by decide, by decide, by decide, by decide⟩ (Nat.le_of_ble_eq_true rfl) ?_
    exact me_iret C N dX12_send_86 (me_nri _) (by cases hf; rfl) (by decide) (by decide)
  · replace hf := me_in c3 hf
    refine me_iconst C (v := 0) dX12_send_73 (by decide) ?_
    exact me_iret C N dX12_send_74 (me_nri _) (by cases hf; rfl) (by decide) (by decide)
def f_M_send_b45 (μ : me_M) (v1 : Int32) (v2 : Int32) (v3 : Int32) (v4 : Int32) (s0 : Int32) : Option (me_M × Int32) :=
  me_b2 (f_M_isThrown μ s0 (2 : Int32)) (fun μ2 r1 =>
  if r1 = 0 then
  (me_bd (f_M_room μ2) (fun r4 =>
  if (1 : Int32) ≤ r4 then
  (f_M_send_b66 μ2 v1 v2 v3 v4 (0 : Int32))
  else
  (f_M_send_b66 μ2 v1 v2 v3 v4 (1 : Int32))))
  else
  (some (μ2, (0 : Int32))))
set_option maxHeartbeats 4000000 in
set_option maxRecDepth 100000 in
theorem z_M_send_b45 {X : me_X} {B : me_B} {sz : Nat} (C : me_C X B RX12 cX12_send 5 (some .int)) {μ : me_M} {v1 : Int32} {v2 : Int32} {v3 : Int32} {v4 : Int32} {s0 : Int32}   {r : me_M × Int32} (N : me_En X B sz (B, r.1, .ok (some (me_i r.2))) 2 43 0 0) (hNx : me_Nx X) (hB : me_St B)   (hf : f_M_send_b45 μ v1 v2 v3 v4 s0 = some r) : me_Z X B 0 0 μ 45 [(0, me_r 36 0), (1, me_i v1), (2, me_i v2), (3, me_i v3), (4, me_i v4)] [me_i s0, me_r 36 0] := by
  unfold f_M_send_b45 at hf
  refine me_iconst C (v := 2) dX12_send_45 (by decide) ?_
  obtain ⟨μ2, r1, h_r1, hf⟩ := me_bs2 hf
  refine me_callV C N  (As := [me_i s0, me_i (2 : Int32)]) (st := []) 0 0 (c_M_isThrown hB h_r1) mv_M_isThrown ml_M_155 rfl rfl dX12_send_46 rfl rfl ⟨by decide, by decide⟩ ⟨by decide, by decide, by decide, by decide⟩ (Nat.le_of_ble_eq_true rfl) ?_
  refine me_if_ne C (tgt := 73) dX12_send_49 (by decide) (fun c3 => ?_) (fun c3 => ?_)
  · replace hf := me_in c3 hf
    refine me_iconst C (v := 0) dX12_send_73 (by decide) ?_
    exact me_iret C N dX12_send_74 (me_nri _) (by cases hf; rfl) (by decide) (by decide)
  · replace hf := me_ip c3 hf
    refine me_aload_n C 0 (Or.inr (Or.inl ⟨_, rfl⟩)) dX12_send_52 rfl rfl ?_
    refine me_aload_n C 0 (Or.inr (Or.inl ⟨_, rfl⟩)) dX12_send_53 rfl rfl ?_
    obtain ⟨r4, h_r4, hf⟩ := me_bs hf
    refine me_callV C N  (As := []) (st := [me_r 36 0]) 0 0 (c_M_room hB h_r4) mv_M_room ml_M_169 rfl rfl dX12_send_54 rfl rfl ⟨by decide, by decide⟩ ⟨by decide, by decide, by decide, by decide⟩ (Nat.le_of_ble_eq_true rfl) ?_
    refine me_iconst C (v := 1) dX12_send_57 (by decide) ?_
    refine me_icmp_ge C (tgt := 65) dX12_send_58 (by decide) (fun c5 => ?_) (fun c5 => ?_)
    · replace hf := me_ip c5 hf
      refine me_iconst C (v := 0) dX12_send_65 (by decide) ?_
      refine me_dropI [(0, me_r 36 0), (1, me_i v1), (2, me_i v2), (3, me_i v3), (4, me_i v4)] [0, 1, 2, 3, 4] rfl ?_
      exact z_M_send_b66 C N hNx hB hf
    · replace hf := me_in c5 hf
      refine me_iconst C (v := 1) dX12_send_61 (by decide) ?_
      refine me_goto C (tgt := 66) dX12_send_62 (by decide) ?_
      refine me_dropI [(0, me_r 36 0), (1, me_i v1), (2, me_i v2), (3, me_i v3), (4, me_i v4)] [0, 1, 2, 3, 4] rfl ?_
      exact z_M_send_b66 C N hNx hB hf
def f_M_send_b22 (μ : me_M) (v1 : Int32) (v2 : Int32) (v3 : Int32) (v4 : Int32) (s0 : Int32) : Option (me_M × Int32) :=
  me_b2 (f_M_isThrown μ s0 (1 : Int32)) (fun μ2 r1 =>
  if r1 = 0 then
  (me_bd (f_M_isIn μ2 v4 (1 : Int32) (4 : Int32)) (fun r4 =>
  if r4 = 0 then
  (f_M_send_b45 μ2 v1 v2 v3 v4 (1 : Int32))
  else
  (f_M_send_b45 μ2 v1 v2 v3 v4 (0 : Int32))))
  else
  (some (μ2, (0 : Int32))))
set_option maxHeartbeats 4000000 in
set_option maxRecDepth 100000 in
theorem z_M_send_b22 {X : me_X} {B : me_B} {sz : Nat} (C : me_C X B RX12 cX12_send 5 (some .int)) {μ : me_M} {v1 : Int32} {v2 : Int32} {v3 : Int32} {v4 : Int32} {s0 : Int32}   {r : me_M × Int32} (N : me_En X B sz (B, r.1, .ok (some (me_i r.2))) 2 43 0 0) (hNx : me_Nx X) (hB : me_St B)   (hf : f_M_send_b22 μ v1 v2 v3 v4 s0 = some r) : me_Z X B 0 0 μ 22 [(0, me_r 36 0), (1, me_i v1), (2, me_i v2), (3, me_i v3), (4, me_i v4)] [me_i s0, me_r 36 0] := by
  unfold f_M_send_b22 at hf
  refine me_iconst C (v := 1) dX12_send_22 (by decide) ?_
  obtain ⟨μ2, r1, h_r1, hf⟩ := me_bs2 hf
  refine me_callV C N  (As := [me_i s0, me_i (1 : Int32)]) (st := []) 0 0 (c_M_isThrown hB h_r1) mv_M_isThrown ml_M_155 rfl rfl dX12_send_23 rfl rfl ⟨by decide, by decide⟩ ⟨by decide, by decide, by decide, by decide⟩ (Nat.le_of_ble_eq_true rfl) ?_
  refine me_if_ne C (tgt := 73) dX12_send_26 (by decide) (fun c3 => ?_) (fun c3 => ?_)
  · replace hf := me_in c3 hf
    refine me_iconst C (v := 0) dX12_send_73 (by decide) ?_
    exact me_iret C N dX12_send_74 (me_nri _) (by cases hf; rfl) (by decide) (by decide)
  · replace hf := me_ip c3 hf
    refine me_aload_n C 0 (Or.inr (Or.inl ⟨_, rfl⟩)) dX12_send_29 rfl rfl ?_
    refine me_iload C dX12_send_30 rfl ?_
    refine me_iconst C (v := 1) dX12_send_32 (by decide) ?_
    refine me_iconst C (v := 4) dX12_send_33 (by decide) ?_
    obtain ⟨r4, h_r4, hf⟩ := me_bs hf
    refine me_callS C N  (As := [me_i v4, me_i (1 : Int32), me_i (4 : Int32)]) (st := [me_r 36 0]) 0 0 (c_M_isIn hB h_r4) ms_M_isIn ml_M_148 dX12_send_34 rfl rfl ⟨by decide, by decide⟩ ⟨by decide, by decide, by decide, by decide⟩ (Nat.le_of_ble_eq_true rfl) ?_
    refine me_if_ne C (tgt := 44) dX12_send_37 (by decide) (fun c5 => ?_) (fun c5 => ?_)
    · replace hf := me_in c5 hf
      refine me_iconst C (v := 0) dX12_send_44 (by decide) ?_
      refine me_dropI [(0, me_r 36 0), (1, me_i v1), (2, me_i v2), (3, me_i v3), (4, me_i v4)] [0, 1, 2, 3, 4] rfl ?_
      exact z_M_send_b45 C N hNx hB hf
    · replace hf := me_ip c5 hf
      refine me_iconst C (v := 1) dX12_send_40 (by decide) ?_
      refine me_goto C (tgt := 45) dX12_send_41 (by decide) ?_
      refine me_dropI [(0, me_r 36 0), (1, me_i v1), (2, me_i v2), (3, me_i v3), (4, me_i v4)] [0, 1, 2, 3, 4] rfl ?_
      exact z_M_send_b45 C N hNx hB hf
def f_M_send_b17 (μ : me_M) (v1 : Int32) (v2 : Int32) (v3 : Int32) (v4 : Int32) : Option (me_M × Int32) :=
  f_M_send_b22 μ v1 v2 v3 v4 (1 : Int32)
set_option maxHeartbeats 4000000 in
set_option maxRecDepth 100000 in
theorem z_M_send_b17 {X : me_X} {B : me_B} {sz : Nat} (C : me_C X B RX12 cX12_send 5 (some .int)) {μ : me_M} {v1 : Int32} {v2 : Int32} {v3 : Int32} {v4 : Int32}   {r : me_M × Int32} (N : me_En X B sz (B, r.1, .ok (some (me_i r.2))) 2 43 0 0) (hNx : me_Nx X) (hB : me_St B)   (hf : f_M_send_b17 μ v1 v2 v3 v4 = some r) : me_Z X B 0 0 μ 17 [(0, me_r 36 0), (1, me_i v1), (2, me_i v2), (3, me_i v3), (4, me_i v4)] [me_r 36 0] := by
  unfold f_M_send_b17 at hf
  refine me_iconst C (v := 1) dX12_send_17 (by decide) ?_
  refine me_goto C (tgt := 22) dX12_send_18 (by decide) ?_
  refine me_dropI [(0, me_r 36 0), (1, me_i v1), (2, me_i v2), (3, me_i v3), (4, me_i v4)] [0, 1, 2, 3, 4] rfl ?_
  exact z_M_send_b22 C N hNx hB hf
def f_M_send (μ : me_M) (v1 : Int32) (v2 : Int32) (v3 : Int32) (v4 : Int32) : Option (me_M × Int32) :=
  me_bd (f_M_isNoNode μ v1) (fun r1 =>
  if r1 = 0 then
  (me_bd (f_M_isNoNode μ v2) (fun r3 =>
  if r3 = 0 then
  (f_M_send_b22 μ v1 v2 v3 v4 (0 : Int32))
  else
  (f_M_send_b17 μ v1 v2 v3 v4)))
  else
  (f_M_send_b17 μ v1 v2 v3 v4))
set_option maxHeartbeats 4000000 in
set_option maxRecDepth 100000 in
theorem z_M_send {X : me_X} {B : me_B} {sz : Nat} (C : me_C X B RX12 cX12_send 5 (some .int)) {μ : me_M} {v1 : Int32} {v2 : Int32} {v3 : Int32} {v4 : Int32}   {r : me_M × Int32} (N : me_En X B sz (B, r.1, .ok (some (me_i r.2))) 2 43 0 0) (hNx : me_Nx X) (hB : me_St B)   (hf : f_M_send μ v1 v2 v3 v4 = some r) : me_Z X B 0 0 μ 0 [(0, me_r 36 0), (1, me_i v1), (2, me_i v2), (3, me_i v3), (4, me_i v4)] [] := by
  unfold f_M_send at hf
  refine me_aload_n C 0 (Or.inr (Or.inl ⟨_, rfl⟩)) dX12_send_0 rfl rfl ?_
  refine me_aload_n C 0 (Or.inr (Or.inl ⟨_, rfl⟩)) dX12_send_1 rfl rfl ?_
  refine me_iload_n C 1 dX12_send_2 rfl rfl ?_
  obtain ⟨r1, h_r1, hf⟩ := me_bs hf
  refine me_callV C N  (As := [me_i v1]) (st := [me_r 36 0]) 0 0 (c_M_isNoNode hB h_r1) mv_M_isNoNode ml_M_165 rfl rfl dX12_send_3 rfl rfl ⟨by decide, by decide⟩ ⟨by decide, by decide, by decide, by decide⟩ (Nat.le_of_ble_eq_true rfl) ?_
  refine me_if_ne C (tgt := 17) dX12_send_6 (by decide) (fun c2 => ?_) (fun c2 => ?_)
  · replace hf := me_in c2 hf
    refine me_dropI [(0, me_r 36 0), (1, me_i v1), (2, me_i v2), (3, me_i v3), (4, me_i v4)] [0, 1, 2, 3, 4] rfl ?_
    exact z_M_send_b17 C N hNx hB hf
  · replace hf := me_ip c2 hf
    refine me_aload_n C 0 (Or.inr (Or.inl ⟨_, rfl⟩)) dX12_send_9 rfl rfl ?_
    refine me_iload_n C 2 dX12_send_10 rfl rfl ?_
    obtain ⟨r3, h_r3, hf⟩ := me_bs hf
    refine me_callV C N  (As := [me_i v2]) (st := [me_r 36 0]) 0 0 (c_M_isNoNode hB h_r3) mv_M_isNoNode ml_M_165 rfl rfl dX12_send_11 rfl rfl ⟨by decide, by decide⟩ ⟨by decide, by decide, by decide, by decide⟩ (Nat.le_of_ble_eq_true rfl) ?_
    refine me_if_eq C (tgt := 21) dX12_send_14 (by decide) (fun c4 => ?_) (fun c4 => ?_)
    · replace hf := me_ip c4 hf
      refine me_iconst C (v := 0) dX12_send_21 (by decide) ?_
      refine me_dropI [(0, me_r 36 0), (1, me_i v1), (2, me_i v2), (3, me_i v3), (4, me_i v4)] [0, 1, 2, 3, 4] rfl ?_
      exact z_M_send_b22 C N hNx hB hf
    · replace hf := me_in c4 hf
      refine me_dropI [(0, me_r 36 0), (1, me_i v1), (2, me_i v2), (3, me_i v3), (4, me_i v4)] [0, 1, 2, 3, 4] rfl ?_
      exact z_M_send_b17 C N hNx hB hf
theorem c_M_send {B : me_B} (hB : me_St B) {μ : me_M} {v1 : Int32} {v2 : Int32} {v3 : Int32} {v4 : Int32} {μ' : me_M} {r : Int32}  (hf : f_M_send μ v1 v2 v3 v4 = some (μ', r)) : ∀ l E z, l.stackTraces = false → me_Met l yX12_send cX12_send 5 (some .int) 2 43 0 0 E B μ z [me_r 36 0, me_i v1, me_i v2, me_i v3, me_i v4] (B, μ', .ok (some (me_i r))) :=
  fun _ _ _ hl => me_ofZ hl (by decide +kernel) (Nat.le_of_ble_eq_true rfl) (fun _ C N hNx => z_M_send C N hNx hB  hf)
