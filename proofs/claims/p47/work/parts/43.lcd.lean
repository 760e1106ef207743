/-! THE LAW, blocks [1074, 187, 179, 93, 45, 8] (printed by gen/lawmain.py) -/
theorem dL_law_8 : decode cL_law 8 = .ok (.iconst 2, 1) := by decide +kernel
theorem dL_law_9 : decode cL_law 9 = .ok (.aload_n 0, 1) := by decide +kernel
theorem dL_law_10 : decode cL_law 10 = .ok (.iconst 0, 1) := by decide +kernel
theorem dL_law_11 : decode cL_law 11 = .ok (.iconst 3, 1) := by decide +kernel
theorem dL_law_12 : decode cL_law 12 = .ok (.invokestatic 95, 3) := by decide +kernel
theorem dL_law_15 : decode cL_law 15 = .ok (.iadd, 1) := by decide +kernel
theorem dL_law_16 : decode cL_law 16 = .ok (.istore_n 2, 1) := by decide +kernel
theorem dL_law_17 : decode cL_law 17 = .ok (.iconst 1, 1) := by decide +kernel
theorem dL_law_18 : decode cL_law 18 = .ok (.aload_n 0, 1) := by decide +kernel
theorem dL_law_19 : decode cL_law 19 = .ok (.iconst 1, 1) := by decide +kernel
theorem dL_law_20 : decode cL_law 20 = .ok (.iconst 4, 1) := by decide +kernel
theorem dL_law_21 : decode cL_law 21 = .ok (.invokestatic 95, 3) := by decide +kernel
theorem dL_law_24 : decode cL_law 24 = .ok (.iadd, 1) := by decide +kernel
theorem dL_law_25 : decode cL_law 25 = .ok (.istore_n 3, 1) := by decide +kernel
theorem dL_law_26 : decode cL_law 26 = .ok (.iload_n 2, 1) := by decide +kernel
theorem dL_law_27 : decode cL_law 27 = .ok (.iload_n 3, 1) := by decide +kernel
theorem dL_law_28 : decode cL_law 28 = .ok (.imul, 1) := by decide +kernel
theorem dL_law_29 : decode cL_law 29 = .ok (.istore 4, 2) := by decide +kernel
theorem dL_law_31 : decode cL_law 31 = .ok (.aload_n 0, 1) := by decide +kernel
theorem dL_law_32 : decode cL_law 32 = .ok (.iconst 2, 1) := by decide +kernel
theorem dL_law_33 : decode cL_law 33 = .ok (.iconst 2, 1) := by decide +kernel
theorem dL_law_34 : decode cL_law 34 = .ok (.invokestatic 95, 3) := by decide +kernel
theorem dL_law_37 : decode cL_law 37 = .ok (.ifCond .ne 7, 3) := by decide +kernel
theorem dL_law_40 : decode cL_law 40 = .ok (.iconst 1, 1) := by decide +kernel
theorem dL_law_41 : decode cL_law 41 = .ok (.goto 4, 3) := by decide +kernel
theorem dL_law_44 : decode cL_law 44 = .ok (.iconst 0, 1) := by decide +kernel
theorem dL_law_45 : decode cL_law 45 = .ok (.istore 5, 2) := by decide +kernel
theorem dL_law_47 : decode cL_law 47 = .ok (.aload_n 1, 1) := by decide +kernel
theorem dL_law_48 : decode cL_law 48 = .ok (.iconst 5, 1) := by decide +kernel
theorem dL_law_49 : decode cL_law 49 = .ok (.iconst 1, 1) := by decide +kernel
theorem dL_law_50 : decode cL_law 50 = .ok (.invokestatic 99, 3) := by decide +kernel
theorem dL_law_53 : decode cL_law 53 = .ok (.ldc 17, 2) := by decide +kernel
theorem dL_law_55 : decode cL_law 55 = .ok (.if_icmp .ne 123, 3) := by decide +kernel
theorem dL_law_58 : decode cL_law 58 = .ok (.aload_n 1, 1) := by decide +kernel
theorem dL_law_59 : decode cL_law 59 = .ok (.iload_n 2, 1) := by decide +kernel
theorem dL_law_60 : decode cL_law 60 = .ok (.iload_n 3, 1) := by decide +kernel
theorem dL_law_61 : decode cL_law 61 = .ok (.invokestatic 99, 3) := by decide +kernel
theorem dL_law_64 : decode cL_law 64 = .ok (.iload 4, 2) := by decide +kernel
theorem dL_law_66 : decode cL_law 66 = .ok (.if_icmp .ne 112, 3) := by decide +kernel
theorem dL_law_69 : decode cL_law 69 = .ok (.aload_n 1, 1) := by decide +kernel
theorem dL_law_70 : decode cL_law 70 = .ok (.bipush 122, 2) := by decide +kernel
theorem dL_law_72 : decode cL_law 72 = .ok (.invokestatic 102, 3) := by decide +kernel
theorem dL_law_75 : decode cL_law 75 = .ok (.ldc 17, 2) := by decide +kernel
theorem dL_law_77 : decode cL_law 77 = .ok (.if_icmp .ne 101, 3) := by decide +kernel
theorem dL_law_80 : decode cL_law 80 = .ok (.aload_n 1, 1) := by decide +kernel
theorem dL_law_81 : decode cL_law 81 = .ok (.iload 5, 2) := by decide +kernel
theorem dL_law_83 : decode cL_law 83 = .ok (.ifCond .eq 8, 3) := by decide +kernel
theorem dL_law_86 : decode cL_law 86 = .ok (.bipush 120, 2) := by decide +kernel
theorem dL_law_88 : decode cL_law 88 = .ok (.goto 5, 3) := by decide +kernel
theorem dL_law_91 : decode cL_law 91 = .ok (.bipush 121, 2) := by decide +kernel
theorem dL_law_93 : decode cL_law 93 = .ok (.invokestatic 102, 3) := by decide +kernel
theorem dL_law_96 : decode cL_law 96 = .ok (.bipush 120, 2) := by decide +kernel
theorem dL_law_98 : decode cL_law 98 = .ok (.if_icmp .ne 80, 3) := by decide +kernel
theorem dL_law_101 : decode cL_law 101 = .ok (.aload_n 1, 1) := by decide +kernel
theorem dL_law_102 : decode cL_law 102 = .ok (.iconst 5, 1) := by decide +kernel
theorem dL_law_103 : decode cL_law 103 = .ok (.invokestatic 105, 3) := by decide +kernel
theorem dL_law_106 : decode cL_law 106 = .ok (.ldc 17, 2) := by decide +kernel
theorem dL_law_108 : decode cL_law 108 = .ok (.if_icmp .ne 70, 3) := by decide +kernel
theorem dL_law_111 : decode cL_law 111 = .ok (.aload_n 1, 1) := by decide +kernel
theorem dL_law_112 : decode cL_law 112 = .ok (.iconst 2, 1) := by decide +kernel
theorem dL_law_113 : decode cL_law 113 = .ok (.aload_n 0, 1) := by decide +kernel
theorem dL_law_114 : decode cL_law 114 = .ok (.iconst 3, 1) := by decide +kernel
theorem dL_law_115 : decode cL_law 115 = .ok (.iconst 3, 1) := by decide +kernel
theorem dL_law_116 : decode cL_law 116 = .ok (.invokestatic 95, 3) := by decide +kernel
theorem dL_law_119 : decode cL_law 119 = .ok (.iadd, 1) := by decide +kernel
theorem dL_law_120 : decode cL_law 120 = .ok (.invokestatic 105, 3) := by decide +kernel
theorem dL_law_123 : decode cL_law 123 = .ok (.iconst 2, 1) := by decide +kernel
theorem dL_law_124 : decode cL_law 124 = .ok (.if_icmp .ne 54, 3) := by decide +kernel
theorem dL_law_127 : decode cL_law 127 = .ok (.aload_n 1, 1) := by decide +kernel
theorem dL_law_128 : decode cL_law 128 = .ok (.iconst 0, 1) := by decide +kernel
theorem dL_law_129 : decode cL_law 129 = .ok (.iload 4, 2) := by decide +kernel
theorem dL_law_131 : decode cL_law 131 = .ok (.iconst 1, 1) := by decide +kernel
theorem dL_law_132 : decode cL_law 132 = .ok (.iconst 1, 1) := by decide +kernel
theorem dL_law_133 : decode cL_law 133 = .ok (.invokestatic 108, 3) := by decide +kernel
theorem dL_law_136 : decode cL_law 136 = .ok (.ldc 17, 2) := by decide +kernel
theorem dL_law_138 : decode cL_law 138 = .ok (.if_icmp .ne 40, 3) := by decide +kernel
theorem dL_law_141 : decode cL_law 141 = .ok (.aload_n 1, 1) := by decide +kernel
theorem dL_law_142 : decode cL_law 142 = .ok (.iconst 0, 1) := by decide +kernel
theorem dL_law_143 : decode cL_law 143 = .ok (.iconst 0, 1) := by decide +kernel
theorem dL_law_144 : decode cL_law 144 = .ok (.iconst 1, 1) := by decide +kernel
theorem dL_law_145 : decode cL_law 145 = .ok (.iconst 5, 1) := by decide +kernel
theorem dL_law_146 : decode cL_law 146 = .ok (.invokestatic 108, 3) := by decide +kernel
theorem dL_law_149 : decode cL_law 149 = .ok (.ldc 20, 2) := by decide +kernel
theorem dL_law_151 : decode cL_law 151 = .ok (.if_icmp .ne 27, 3) := by decide +kernel
theorem dL_law_154 : decode cL_law 154 = .ok (.aload_n 1, 1) := by decide +kernel
theorem dL_law_155 : decode cL_law 155 = .ok (.iconst 0, 1) := by decide +kernel
theorem dL_law_156 : decode cL_law 156 = .ok (.invokestatic 111, 3) := by decide +kernel
theorem dL_law_159 : decode cL_law 159 = .ok (.ldc 17, 2) := by decide +kernel
theorem dL_law_161 : decode cL_law 161 = .ok (.if_icmp .ne 17, 3) := by decide +kernel
theorem dL_law_164 : decode cL_law 164 = .ok (.aload_n 1, 1) := by decide +kernel
theorem dL_law_165 : decode cL_law 165 = .ok (.iconst 0, 1) := by decide +kernel
theorem dL_law_166 : decode cL_law 166 = .ok (.invokestatic 113, 3) := by decide +kernel
theorem dL_law_169 : decode cL_law 169 = .ok (.ldc 17, 2) := by decide +kernel
theorem dL_law_171 : decode cL_law 171 = .ok (.if_icmp .ne 7, 3) := by decide +kernel
theorem dL_law_174 : decode cL_law 174 = .ok (.iconst 1, 1) := by decide +kernel
theorem dL_law_175 : decode cL_law 175 = .ok (.goto 4, 3) := by decide +kernel
theorem dL_law_178 : decode cL_law 178 = .ok (.iconst 0, 1) := by decide +kernel
theorem dL_law_179 : decode cL_law 179 = .ok (.istore 6, 2) := by decide +kernel
theorem dL_law_181 : decode cL_law 181 = .ok (.iconst 0, 1) := by decide +kernel
theorem dL_law_182 : decode cL_law 182 = .ok (.istore 7, 2) := by decide +kernel
theorem dL_law_184 : decode cL_law 184 = .ok (.iconst 0, 1) := by decide +kernel
theorem dL_law_185 : decode cL_law 185 = .ok (.istore 8, 2) := by decide +kernel
theorem dL_law_187 : decode cL_law 187 = .ok (.iload 8, 2) := by decide +kernel
theorem dL_law_189 : decode cL_law 189 = .ok (.iconst 4, 1) := by decide +kernel
theorem dL_law_190 : decode cL_law 190 = .ok (.if_icmp .ge 817, 3) := by decide +kernel
theorem dL_law_193 : decode cL_law 193 = .ok (.aload_n 0, 1) := by decide +kernel
theorem dL_law_194 : decode cL_law 194 = .ok (.bipush 10, 2) := by decide +kernel
theorem dL_law_196 : decode cL_law 196 = .ok (.iload 8, 2) := by decide +kernel
theorem dL_law_198 : decode cL_law 198 = .ok (.iadd, 1) := by decide +kernel
theorem dL_law_199 : decode cL_law 199 = .ok (.iload 4, 2) := by decide +kernel
theorem dL_law_201 : decode cL_law 201 = .ok (.invokestatic 95, 3) := by decide +kernel
theorem dL_law_204 : decode cL_law 204 = .ok (.istore 9, 2) := by decide +kernel
theorem dL_law_206 : decode cL_law 206 = .ok (.aload_n 0, 1) := by decide +kernel
theorem dL_law_207 : decode cL_law 207 = .ok (.bipush 20, 2) := by decide +kernel
theorem dL_law_209 : decode cL_law 209 = .ok (.iload 8, 2) := by decide +kernel
theorem dL_law_211 : decode cL_law 211 = .ok (.iadd, 1) := by decide +kernel
theorem dL_law_212 : decode cL_law 212 = .ok (.iload 4, 2) := by decide +kernel
theorem dL_law_214 : decode cL_law 214 = .ok (.invokestatic 95, 3) := by decide +kernel
theorem dL_law_217 : decode cL_law 217 = .ok (.istore 10, 2) := by decide +kernel
theorem dL_law_219 : decode cL_law 219 = .ok (.aload_n 0, 1) := by decide +kernel
theorem dL_law_220 : decode cL_law 220 = .ok (.bipush 30, 2) := by decide +kernel
theorem dL_law_222 : decode cL_law 222 = .ok (.iload 8, 2) := by decide +kernel
theorem dL_law_224 : decode cL_law 224 = .ok (.iadd, 1) := by decide +kernel
theorem dL_law_225 : decode cL_law 225 = .ok (.sipush 9999, 3) := by decide +kernel
theorem dL_law_228 : decode cL_law 228 = .ok (.invokestatic 95, 3) := by decide +kernel
theorem dL_law_231 : decode cL_law 231 = .ok (.istore 11, 2) := by decide +kernel
theorem dL_law_233 : decode cL_law 233 = .ok (.iconst 1, 1) := by decide +kernel
theorem dL_law_234 : decode cL_law 234 = .ok (.aload_n 0, 1) := by decide +kernel
theorem dL_law_235 : decode cL_law 235 = .ok (.bipush 40, 2) := by decide +kernel
theorem dL_law_237 : decode cL_law 237 = .ok (.iload 8, 2) := by decide +kernel
theorem dL_law_239 : decode cL_law 239 = .ok (.iadd, 1) := by decide +kernel
theorem dL_law_240 : decode cL_law 240 = .ok (.iconst 4, 1) := by decide +kernel
theorem dL_law_241 : decode cL_law 241 = .ok (.invokestatic 95, 3) := by decide +kernel
theorem dL_law_244 : decode cL_law 244 = .ok (.iadd, 1) := by decide +kernel
theorem dL_law_245 : decode cL_law 245 = .ok (.istore 12, 2) := by decide +kernel
theorem dL_law_247 : decode cL_law 247 = .ok (.iconst 0, 1) := by decide +kernel
theorem dL_law_248 : decode cL_law 248 = .ok (.istore 13, 2) := by decide +kernel
theorem dL_law_250 : decode cL_law 250 = .ok (.iload 4, 2) := by decide +kernel
theorem dL_law_252 : decode cL_law 252 = .ok (.newarray .boolean, 2) := by decide +kernel
theorem dL_law_254 : decode cL_law 254 = .ok (.astore 14, 2) := by decide +kernel
theorem dL_law_256 : decode cL_law 256 = .ok (.iconst 0, 1) := by decide +kernel
theorem dL_law_257 : decode cL_law 257 = .ok (.istore 15, 2) := by decide +kernel
theorem dL_law_1007 : decode cL_law 1007 = .ok (.aload_n 0, 1) := by decide +kernel
theorem dL_law_1008 : decode cL_law 1008 = .ok (.bipush 90, 2) := by decide +kernel
theorem dL_law_1010 : decode cL_law 1010 = .ok (.iload 4, 2) := by decide +kernel
theorem dL_law_1012 : decode cL_law 1012 = .ok (.invokestatic 95, 3) := by decide +kernel
theorem dL_law_1015 : decode cL_law 1015 = .ok (.istore 8, 2) := by decide +kernel
theorem dL_law_1017 : decode cL_law 1017 = .ok (.aload_n 0, 1) := by decide +kernel
theorem dL_law_1018 : decode cL_law 1018 = .ok (.bipush 91, 2) := by decide +kernel
theorem dL_law_1020 : decode cL_law 1020 = .ok (.iload 4, 2) := by decide +kernel
theorem dL_law_1022 : decode cL_law 1022 = .ok (.invokestatic 95, 3) := by decide +kernel
theorem dL_law_1025 : decode cL_law 1025 = .ok (.istore 9, 2) := by decide +kernel
theorem dL_law_1027 : decode cL_law 1027 = .ok (.aload_n 0, 1) := by decide +kernel
theorem dL_law_1028 : decode cL_law 1028 = .ok (.bipush 92, 2) := by decide +kernel
theorem dL_law_1030 : decode cL_law 1030 = .ok (.bipush 8, 2) := by decide +kernel
theorem dL_law_1032 : decode cL_law 1032 = .ok (.invokestatic 95, 3) := by decide +kernel
theorem dL_law_1035 : decode cL_law 1035 = .ok (.istore 10, 2) := by decide +kernel
theorem dL_law_1037 : decode cL_law 1037 = .ok (.aload_n 0, 1) := by decide +kernel
theorem dL_law_1038 : decode cL_law 1038 = .ok (.bipush 93, 2) := by decide +kernel
theorem dL_law_1040 : decode cL_law 1040 = .ok (.sipush 500, 3) := by decide +kernel
theorem dL_law_1043 : decode cL_law 1043 = .ok (.invokestatic 95, 3) := by decide +kernel
theorem dL_law_1046 : decode cL_law 1046 = .ok (.istore 11, 2) := by decide +kernel
theorem dL_law_1048 : decode cL_law 1048 = .ok (.aload_n 0, 1) := by decide +kernel
theorem dL_law_1049 : decode cL_law 1049 = .ok (.bipush 94, 2) := by decide +kernel
theorem dL_law_1051 : decode cL_law 1051 = .ok (.sipush 500, 3) := by decide +kernel
theorem dL_law_1054 : decode cL_law 1054 = .ok (.invokestatic 95, 3) := by decide +kernel
theorem dL_law_1057 : decode cL_law 1057 = .ok (.istore 12, 2) := by decide +kernel
theorem dL_law_1059 : decode cL_law 1059 = .ok (.aload_n 0, 1) := by decide +kernel
theorem dL_law_1060 : decode cL_law 1060 = .ok (.bipush 95, 2) := by decide +kernel
theorem dL_law_1062 : decode cL_law 1062 = .ok (.iconst 2, 1) := by decide +kernel
theorem dL_law_1063 : decode cL_law 1063 = .ok (.invokestatic 95, 3) := by decide +kernel
theorem dL_law_1066 : decode cL_law 1066 = .ok (.ifCond .ne 7, 3) := by decide +kernel
theorem dL_law_1069 : decode cL_law 1069 = .ok (.iconst 1, 1) := by decide +kernel
theorem dL_law_1070 : decode cL_law 1070 = .ok (.goto 4, 3) := by decide +kernel
theorem dL_law_1073 : decode cL_law 1073 = .ok (.iconst 0, 1) := by decide +kernel
theorem dL_law_1074 : decode cL_law 1074 = .ok (.istore 13, 2) := by decide +kernel
theorem dL_law_1076 : decode cL_law 1076 = .ok (.aload_n 1, 1) := by decide +kernel
theorem dL_law_1077 : decode cL_law 1077 = .ok (.invokevirtual 123, 3) := by decide +kernel
theorem dL_law_1080 : decode cL_law 1080 = .ok (.istore 14, 2) := by decide +kernel
theorem dL_law_1082 : decode cL_law 1082 = .ok (.iload 6, 2) := by decide +kernel
theorem dL_law_1084 : decode cL_law 1084 = .ok (.aload_n 1, 1) := by decide +kernel
theorem dL_law_1085 : decode cL_law 1085 = .ok (.iload 9, 2) := by decide +kernel
theorem dL_law_1087 : decode cL_law 1087 = .ok (.iload 10, 2) := by decide +kernel
theorem dL_law_1089 : decode cL_law 1089 = .ok (.iload 11, 2) := by decide +kernel
theorem dL_law_1091 : decode cL_law 1091 = .ok (.invokestatic 155, 3) := by decide +kernel
theorem dL_law_1094 : decode cL_law 1094 = .ok (.ifCond .ne 73, 3) := by decide +kernel
theorem dL_law_1097 : decode cL_law 1097 = .ok (.aload_n 1, 1) := by decide +kernel
theorem dL_law_1098 : decode cL_law 1098 = .ok (.iload 8, 2) := by decide +kernel
theorem dL_law_1100 : decode cL_law 1100 = .ok (.iload 9, 2) := by decide +kernel
theorem dL_law_1102 : decode cL_law 1102 = .ok (.bipush 8, 2) := by decide +kernel
theorem dL_law_1104 : decode cL_law 1104 = .ok (.iconst 1, 1) := by decide +kernel
theorem dL_law_1105 : decode cL_law 1105 = .ok (.iconst 0, 1) := by decide +kernel
theorem dL_law_1106 : decode cL_law 1106 = .ok (.invokestatic 158, 3) := by decide +kernel
theorem dL_law_1109 : decode cL_law 1109 = .ok (.ldc 20, 2) := by decide +kernel
theorem dL_law_1111 : decode cL_law 1111 = .ok (.if_icmp .ne 56, 3) := by decide +kernel
theorem dL_law_1114 : decode cL_law 1114 = .ok (.aload_n 1, 1) := by decide +kernel
theorem dL_law_1115 : decode cL_law 1115 = .ok (.iload 8, 2) := by decide +kernel
theorem dL_law_1117 : decode cL_law 1117 = .ok (.iload 9, 2) := by decide +kernel
theorem dL_law_1119 : decode cL_law 1119 = .ok (.iload 10, 2) := by decide +kernel
theorem dL_law_1121 : decode cL_law 1121 = .ok (.iload 13, 2) := by decide +kernel
theorem dL_law_1123 : decode cL_law 1123 = .ok (.iload 12, 2) := by decide +kernel
theorem dL_law_1125 : decode cL_law 1125 = .ok (.invokestatic 158, 3) := by decide +kernel
theorem dL_law_1128 : decode cL_law 1128 = .ok (.iload 14, 2) := by decide +kernel
theorem dL_law_1130 : decode cL_law 1130 = .ok (.if_icmp .ne 37, 3) := by decide +kernel
theorem dL_law_1133 : decode cL_law 1133 = .ok (.aload_n 1, 1) := by decide +kernel
theorem dL_law_1134 : decode cL_law 1134 = .ok (.iload 14, 2) := by decide +kernel
theorem dL_law_1136 : decode cL_law 1136 = .ok (.invokestatic 161, 3) := by decide +kernel
theorem dL_law_1139 : decode cL_law 1139 = .ok (.ldc 23, 2) := by decide +kernel
theorem dL_law_1141 : decode cL_law 1141 = .ok (.if_icmp .ne 26, 3) := by decide +kernel
theorem dL_law_1144 : decode cL_law 1144 = .ok (.aload_n 1, 1) := by decide +kernel
theorem dL_law_1145 : decode cL_law 1145 = .ok (.iconst 0, 1) := by decide +kernel
theorem dL_law_1146 : decode cL_law 1146 = .ok (.invokestatic 161, 3) := by decide +kernel
theorem dL_law_1149 : decode cL_law 1149 = .ok (.ldc 20, 2) := by decide +kernel
theorem dL_law_1151 : decode cL_law 1151 = .ok (.if_icmp .ne 16, 3) := by decide +kernel
theorem dL_law_1154 : decode cL_law 1154 = .ok (.aload_n 1, 1) := by decide +kernel
theorem dL_law_1155 : decode cL_law 1155 = .ok (.bipush 100, 2) := by decide +kernel
theorem dL_law_1157 : decode cL_law 1157 = .ok (.invokestatic 113, 3) := by decide +kernel
theorem dL_law_1160 : decode cL_law 1160 = .ok (.ifCond .ne 7, 3) := by decide +kernel
theorem dL_law_1163 : decode cL_law 1163 = .ok (.iconst 1, 1) := by decide +kernel
theorem dL_law_1164 : decode cL_law 1164 = .ok (.goto 4, 3) := by decide +kernel
theorem dL_law_1167 : decode cL_law 1167 = .ok (.iconst 0, 1) := by decide +kernel
def f_L_law_b1074 (sL : Nat) (xs : Nat → Int32)  (μ : me_M) (v6 : Int32) (v8 : Int32) (v9 : Int32) (v10 : Int32) (v11 : Int32) (v12 : Int32) (s0 : Int32) : Option (me_M × Int32) :=
  me_bd (f_Y_packets μ) (fun r1 =>
  me_b2 (f_L_set μ v9 v10 v11) (fun μ3 r2 =>
  if r2 = 0 then
  (me_b2 (f_L_ask μ3 v8 v9 (8 : Int32) (1 : Int32) (0 : Int32)) (fun μ6 r5 =>
  if r5 = (-900002 : Int32) then
  (me_b2 (f_L_ask μ6 v8 v9 v10 s0 v12) (fun μ9 r8 =>
  if r8 = r1 then
  (me_b2 (f_L_answer μ9 r1) (fun μ12 r11 =>
  if r11 = (-900003 : Int32) then
  (me_b2 (f_L_answer μ12 (0 : Int32)) (fun μ15 r14 =>
  if r14 = (-900002 : Int32) then
  (me_b2 (f_L_beats μ15 (100 : Int32)) (fun μ18 r17 =>
  if r17 = 0 then
  (f_L_law_b1168 sL xs μ18 v8 v9 v10 v11 v12 s0 r1 (1 : Int32) v6)
  else
  (f_L_law_b1168 sL xs μ18 v8 v9 v10 v11 v12 s0 r1 (0 : Int32) v6)))
  else
  (f_L_law_b1168 sL xs μ15 v8 v9 v10 v11 v12 s0 r1 (0 : Int32) v6)))
  else
  (f_L_law_b1168 sL xs μ12 v8 v9 v10 v11 v12 s0 r1 (0 : Int32) v6)))
  else
  (f_L_law_b1168 sL xs μ9 v8 v9 v10 v11 v12 s0 r1 (0 : Int32) v6)))
  else
  (f_L_law_b1168 sL xs μ6 v8 v9 v10 v11 v12 s0 r1 (0 : Int32) v6)))
  else
  (f_L_law_b1168 sL xs μ3 v8 v9 v10 v11 v12 s0 r1 (0 : Int32) v6)))
set_option maxHeartbeats 4000000 in
set_option maxRecDepth 100000 in
theorem z_L_law_b1074 {X : me_X} {B : me_B} {ret0 : Option FieldType} {NR SR : Nat}  {nc ns : Nat} {μ : me_M} {v6 : Int32} {v8 : Int32} {v9 : Int32} {v10 : Int32} {v11 : Int32} {v12 : Int32} {s0 : Int32} {r : me_M × Int32} (C : me_C X B RL cL_law 23 ret0) (hroom : me_Rm X 12 462 618549 7246051) (hB : me_St B) (hz : ∀ k, 36 ≤ k → B.2.1 k = 0) (hR : ∀ (nc ns : Nat), nc ≤ NR → ns ≤ SR → me_Z X B nc ns r.1 1316 [] [me_i r.2]) (hNR : NR ≤ 618549 ∧ SR ≤ 7246051)  (hbR : (nc + 26 ≤ NR ∧ ns + 156 ≤ SR)) (hf : f_L_law_b1074 B.2.2.2.1 B.2.2.2.2 μ v6 v8 v9 v10 v11 v12 s0 = some r) : me_Z X B nc ns μ 1074 [(1, me_r 0 0), (6, me_i v6), (8, me_i v8), (9, me_i v9), (10, me_i v10), (11, me_i v11), (12, me_i v12)] [me_i s0] := by
  unfold f_L_law_b1074 at hf
  refine me_istore C dL_law_1074 (by decide) (L' := [(13, me_i s0), (1, me_r 0 0), (6, me_i v6), (8, me_i v8), (9, me_i v9), (10, me_i v10), (11, me_i v11), (12, me_i v12)]) rfl ?_
  refine me_aload_n C 1 (Or.inr (Or.inl ⟨_, rfl⟩)) dL_law_1076 rfl rfl ?_
  obtain ⟨r1, h_r1, hf⟩ := me_bs hf
  refine me_callVR C hroom (As := []) (st := []) nc ns (c_Y_packets hB h_r1) mv_Y_packets ml_L_123 rfl rfl dL_law_1077 rfl rfl ⟨by decide, by decide⟩ ⟨by omega, by omega, by omega, by omega⟩ (Nat.le_of_ble_eq_true rfl) ?_
  refine me_istore C dL_law_1080 (by decide) (L' := [(14, me_i r1), (13, me_i s0), (1, me_r 0 0), (6, me_i v6), (8, me_i v8), (9, me_i v9), (10, me_i v10), (11, me_i v11), (12, me_i v12)]) rfl ?_
  refine me_iload C dL_law_1082 rfl ?_
  refine me_aload_n C 1 (Or.inr (Or.inl ⟨_, rfl⟩)) dL_law_1084 rfl rfl ?_
  refine me_iload C dL_law_1085 rfl ?_
  refine me_iload C dL_law_1087 rfl ?_
  refine me_iload C dL_law_1089 rfl ?_
  obtain ⟨μ3, r2, h_r2, hf⟩ := me_bs2 hf
  refine me_callSH C hroom (n := 4) (As := [me_r 0 0, me_i v9, me_i v10, me_i v11]) (st := [me_i v6]) (nc + 2) (ns + 12) (c_L_set hB h_r2) mh_L_set iL ⟨by decide +kernel, by decide +kernel⟩ (by decide +kernel) si_L_set ml_L_155 dL_law_1091 rfl rfl ⟨by decide, by decide⟩ ⟨by omega, by omega, by omega, by omega⟩ (Nat.le_of_ble_eq_true rfl) ?_
  refine me_if_ne C (tgt := 1167) dL_law_1094 (by decide) (fun c4 => ?_) (fun c4 => ?_)
  · replace hf := me_in c4 hf
    refine me_iconst C (v := 0) dL_law_1167 (by decide) ?_
    refine me_dropI [(1, me_r 0 0), (8, me_i v8), (9, me_i v9), (10, me_i v10), (11, me_i v11), (12, me_i v12), (13, me_i s0), (14, me_i r1)] [2, 4, 5, 6, 7, 8, 1, 0] rfl ?_
    exact z_L_law_b1168 C hroom hB hz hR hNR (nc := (nc + 2)) (ns := (ns + 12)) ⟨by omega, by omega⟩ hf
  · replace hf := me_ip c4 hf
    refine me_aload_n C 1 (Or.inr (Or.inl ⟨_, rfl⟩)) dL_law_1097 rfl rfl ?_
    refine me_iload C dL_law_1098 rfl ?_
    refine me_iload C dL_law_1100 rfl ?_
    refine me_bipush C (v := 8) dL_law_1102 (by decide) ?_
    refine me_iconst C (v := 1) dL_law_1104 (by decide) ?_
    refine me_iconst C (v := 0) dL_law_1105 (by decide) ?_
    obtain ⟨μ6, r5, h_r5, hf⟩ := me_bs2 hf
    refine me_callSH C hroom (n := 6) (As := [me_r 0 0, me_i v8, me_i v9, me_i (8 : Int32), me_i (1 : Int32), me_i (0 : Int32)]) (st := [me_i v6]) (nc + 6) (ns + 36) (c_L_ask hB h_r5) mh_L_ask iL ⟨by decide +kernel, by decide +kernel⟩ (by decide +kernel) si_L_ask ml_L_158 dL_law_1106 rfl rfl ⟨by decide, by decide⟩ ⟨by omega, by omega, by omega, by omega⟩ (Nat.le_of_ble_eq_true rfl) ?_
    refine me_ldc C (v := (-900002)) dL_law_1109 ci_L_20 ?_
    refine me_icmp_ne C (tgt := 1167) dL_law_1111 (by decide) (fun c7 => ?_) (fun c7 => ?_)
    · replace hf := me_in c7 hf
      refine me_iconst C (v := 0) dL_law_1167 (by decide) ?_
      refine me_dropI [(1, me_r 0 0), (8, me_i v8), (9, me_i v9), (10, me_i v10), (11, me_i v11), (12, me_i v12), (13, me_i s0), (14, me_i r1)] [2, 4, 5, 6, 7, 8, 1, 0] rfl ?_
      exact z_L_law_b1168 C hroom hB hz hR hNR (nc := (nc + 6)) (ns := (ns + 36)) ⟨by omega, by omega⟩ hf
    · replace hf := me_ip c7 hf
      refine me_aload_n C 1 (Or.inr (Or.inl ⟨_, rfl⟩)) dL_law_1114 rfl rfl ?_
      refine me_iload C dL_law_1115 rfl ?_
      refine me_iload C dL_law_1117 rfl ?_
      refine me_iload C dL_law_1119 rfl ?_
      refine me_iload C dL_law_1121 rfl ?_
      refine me_iload C dL_law_1123 rfl ?_
      obtain ⟨μ9, r8, h_r8, hf⟩ := me_bs2 hf
      refine me_callSH C hroom (n := 6) (As := [me_r 0 0, me_i v8, me_i v9, me_i v10, me_i s0, me_i v12]) (st := [me_i v6]) (nc + 10) (ns + 60) (c_L_ask hB h_r8) mh_L_ask iL ⟨by decide +kernel, by decide +kernel⟩ (by decide +kernel) si_L_ask ml_L_158 dL_law_1125 rfl rfl ⟨by decide, by decide⟩ ⟨by omega, by omega, by omega, by omega⟩ (Nat.le_of_ble_eq_true rfl) ?_
      refine me_iload C dL_law_1128 rfl ?_
      refine me_icmp_ne C (tgt := 1167) dL_law_1130 (by decide) (fun c10 => ?_) (fun c10 => ?_)
      · replace hf := me_in c10 hf
        refine me_iconst C (v := 0) dL_law_1167 (by decide) ?_
        refine me_dropI [(1, me_r 0 0), (8, me_i v8), (9, me_i v9), (10, me_i v10), (11, me_i v11), (12, me_i v12), (13, me_i s0), (14, me_i r1)] [2, 4, 5, 6, 7, 8, 1, 0] rfl ?_
        exact z_L_law_b1168 C hroom hB hz hR hNR (nc := (nc + 10)) (ns := (ns + 60)) ⟨by omega, by omega⟩ hf
      · replace hf := me_ip c10 hf
        refine me_aload_n C 1 (Or.inr (Or.inl ⟨_, rfl⟩)) dL_law_1133 rfl rfl ?_
        refine me_iload C dL_law_1134 rfl ?_
        obtain ⟨μ12, r11, h_r11, hf⟩ := me_bs2 hf
        refine me_callSH C hroom (n := 2) (As := [me_r 0 0, me_i r1]) (st := [me_i v6]) (nc + 12) (ns + 72) (c_L_answer hB h_r11) mh_L_answer iL ⟨by decide +kernel, by decide +kernel⟩ (by decide +kernel) si_L_answer ml_L_161 dL_law_1136 rfl rfl ⟨by decide, by decide⟩ ⟨by omega, by omega, by omega, by omega⟩ (Nat.le_of_ble_eq_true rfl) ?_
        refine me_ldc C (v := (-900003)) dL_law_1139 ci_L_23 ?_
        refine me_icmp_ne C (tgt := 1167) dL_law_1141 (by decide) (fun c13 => ?_) (fun c13 => ?_)
        · replace hf := me_in c13 hf
          refine me_iconst C (v := 0) dL_law_1167 (by decide) ?_
          refine me_dropI [(1, me_r 0 0), (8, me_i v8), (9, me_i v9), (10, me_i v10), (11, me_i v11), (12, me_i v12), (13, me_i s0), (14, me_i r1)] [2, 4, 5, 6, 7, 8, 1, 0] rfl ?_
          exact z_L_law_b1168 C hroom hB hz hR hNR (nc := (nc + 12)) (ns := (ns + 72)) ⟨by omega, by omega⟩ hf
        · replace hf := me_ip c13 hf
          refine me_aload_n C 1 (Or.inr (Or.inl ⟨_, rfl⟩)) dL_law_1144 rfl rfl ?_
          refine me_iconst C (v := 0) dL_law_1145 (by decide) ?_
          obtain ⟨μ15, r14, h_r14, hf⟩ := me_bs2 hf
          refine me_callSH C hroom (n := 2) (As := [me_r 0 0, me_i (0 : Int32)]) (st := [me_i v6]) (nc + 14) (ns + 84) (c_L_answer hB h_r14) mh_L_answer iL ⟨by decide +kernel, by decide +kernel⟩ (by decide +kernel) si_L_answer ml_L_161 dL_law_1146 rfl rfl ⟨by decide, by decide⟩ ⟨by omega, by omega, by omega, by omega⟩ (Nat.le_of_ble_eq_true rfl) ?_
          refine me_ldc C (v := (-900002)) dL_law_1149 ci_L_20 ?_
          refine me_icmp_ne C (tgt := 1167) dL_law_1151 (by decide) (fun c16 => ?_) (fun c16 => ?_)
          · replace hf := me_in c16 hf
            refine me_iconst C (v := 0) dL_law_1167 (by decide) ?_
            refine me_dropI [(1, me_r 0 0), (8, me_i v8), (9, me_i v9), (10, me_i v10), (11, me_i v11), (12, me_i v12), (13, me_i s0), (14, me_i r1)] [2, 4, 5, 6, 7, 8, 1, 0] rfl ?_
            exact z_L_law_b1168 C hroom hB hz hR hNR (nc := (nc + 14)) (ns := (ns + 84)) ⟨by omega, by omega⟩ hf
          · replace hf := me_ip c16 hf
            refine me_aload_n C 1 (Or.inr (Or.inl ⟨_, rfl⟩)) dL_law_1154 rfl rfl ?_
            refine me_bipush C (v := 100) dL_law_1155 (by decide) ?_
            obtain ⟨μ18, r17, h_r17, hf⟩ := me_bs2 hf
            refine me_callSH C hroom (n := 2) (As := [me_r 0 0, me_i (100 : Int32)]) (st := [me_i v6]) (nc + 15) (ns + 90) (c_L_beats hB h_r17) mh_L_beats iL ⟨by decide +kernel, by decide +kernel⟩ (by decide +kernel) si_L_beats ml_L_113 dL_law_1157 rfl rfl ⟨by decide, by decide⟩ ⟨by omega, by omega, by omega, by omega⟩ (Nat.le_of_ble_eq_true rfl) ?_
            refine me_if_ne C (tgt := 1167) dL_law_1160 (by decide) (fun c19 => ?_) (fun c19 => ?_)
            · replace hf := me_in c19 hf
              refine me_iconst C (v := 0) dL_law_1167 (by decide) ?_
              refine me_dropI [(1, me_r 0 0), (8, me_i v8), (9, me_i v9), (10, me_i v10), (11, me_i v11), (12, me_i v12), (13, me_i s0), (14, me_i r1)] [2, 4, 5, 6, 7, 8, 1, 0] rfl ?_
              exact z_L_law_b1168 C hroom hB hz hR hNR (nc := (nc + 15)) (ns := (ns + 90)) ⟨by omega, by omega⟩ hf
            · replace hf := me_ip c19 hf
              refine me_iconst C (v := 1) dL_law_1163 (by decide) ?_
              refine me_goto C (tgt := 1168) dL_law_1164 (by decide) ?_
              refine me_dropI [(1, me_r 0 0), (8, me_i v8), (9, me_i v9), (10, me_i v10), (11, me_i v11), (12, me_i v12), (13, me_i s0), (14, me_i r1)] [2, 4, 5, 6, 7, 8, 1, 0] rfl ?_
              exact z_L_law_b1168 C hroom hB hz hR hNR (nc := (nc + 15)) (ns := (ns + 90)) ⟨by omega, by omega⟩ hf
def f_L_law_b187 (sL : Nat) (xs : Nat → Int32) (K187 : me_M → Int32 → Int32 → Int32 → Int32 → Int32 → Int32 → Option (me_M × Int32)) (μ : me_M) (v2 : Int32) (v4 : Int32) (v5 : Int32) (v6 : Int32) (v7 : Int32) (v8 : Int32) : Option (me_M × Int32) :=
  if (4 : Int32) ≤ v8 then
  (me_bd (f_L_in sL xs μ (90 : Int32) v4) (fun r2 =>
  me_bd (f_L_in sL xs μ (91 : Int32) v4) (fun r3 =>
  me_bd (f_L_in sL xs μ (92 : Int32) (8 : Int32)) (fun r4 =>
  me_bd (f_L_in sL xs μ (93 : Int32) (500 : Int32)) (fun r5 =>
  me_bd (f_L_in sL xs μ (94 : Int32) (500 : Int32)) (fun r6 =>
  me_bd (f_L_in sL xs μ (95 : Int32) (2 : Int32)) (fun r7 =>
  if r7 = 0 then
  (f_L_law_b1074 sL xs μ v6 r2 r3 r4 r5 r6 (1 : Int32))
  else
  (f_L_law_b1074 sL xs μ v6 r2 r3 r4 r5 r6 (0 : Int32)))))))))
  else
  (me_bd (f_L_in sL xs μ ((10 : Int32) + v8) v4) (fun r9 =>
  me_bd (f_L_in sL xs μ ((20 : Int32) + v8) v4) (fun r10 =>
  me_bd (f_L_in sL xs μ ((30 : Int32) + v8) (9999 : Int32)) (fun r11 =>
  me_bd (f_L_in sL xs μ ((40 : Int32) + v8) (4 : Int32)) (fun r12 =>
  me_lt (((1 : Int32) + r12)) (fun x13 =>
  me_gd (me_inb v4 17) (
  me_lt (me_zc μ (36 + me_ix v4) 0) (fun μ15 =>
  f_L_law_h259 sL xs K187 me_F259 μ15 v2 v4 v5 v6 v7 v8 r9 r10 r11 x13 (0 : Int32) (0 : Int32)))))))))
set_option maxHeartbeats 4000000 in
set_option maxRecDepth 100000 in
theorem z_L_law_b187 {X : me_X} {B : me_B} {ret0 : Option FieldType} {NR SR : Nat} {NB187 SB187 : Nat} {K187 : me_M → Int32 → Int32 → Int32 → Int32 → Int32 → Int32 → Option (me_M × Int32)} {nc ns : Nat} {μ : me_M} {v2 : Int32} {v4 : Int32} {v5 : Int32} {v6 : Int32} {v7 : Int32} {v8 : Int32} {r : me_M × Int32} (C : me_C X B RL cL_law 23 ret0) (hroom : me_Rm X 12 462 618549 7246051) (hB : me_St B) (hz : ∀ k, 36 ≤ k → B.2.1 k = 0) (hR : ∀ (nc ns : Nat), nc ≤ NR → ns ≤ SR → me_Z X B nc ns r.1 1316 [] [me_i r.2]) (hNR : NR ≤ 618549 ∧ SR ≤ 7246051) (hK187 : ∀ (nc ns : Nat) (μ : me_M) (v2 : Int32) (v4 : Int32) (v5 : Int32) (v6 : Int32) (v7 : Int32) (v8 : Int32), nc ≤ NB187 → ns ≤ SB187 → K187 μ v2 v4 v5 v6 v7 v8 = some r → me_Z X B nc ns μ 187 [(0, .inl (.ref (B.1 202 0))), (1, me_r 0 0), (2, me_i v2), (4, me_i v4), (5, me_i v5), (6, me_i v6), (7, me_i v7), (8, me_i v8)] []) (hN187 : NB187 ≤ 618549 ∧ SB187 ≤ 7246051) (hb187 : (nc + 806 ≤ NB187 ∧ ns + 4847 ≤ SB187)) (hbR : (nc + 26 ≤ NR ∧ ns + 156 ≤ SR)) (hf : f_L_law_b187 B.2.2.2.1 B.2.2.2.2 K187 μ v2 v4 v5 v6 v7 v8 = some r) : me_Z X B nc ns μ 187 [(0, .inl (.ref (B.1 202 0))), (1, me_r 0 0), (2, me_i v2), (4, me_i v4), (5, me_i v5), (6, me_i v6), (7, me_i v7), (8, me_i v8)] [] := by
  unfold f_L_law_b187 at hf
  refine me_iload C dL_law_187 rfl ?_
  refine me_iconst C (v := 4) dL_law_189 (by decide) ?_
  refine me_icmp_ge C (tgt := 1007) dL_law_190 (by decide) (fun c1 => ?_) (fun c1 => ?_)
  · replace hf := me_ip c1 hf
    refine me_aload_n C 0 (Or.inr (Or.inr ⟨_, rfl⟩)) dL_law_1007 rfl rfl ?_
    refine me_bipush C (v := 90) dL_law_1008 (by decide) ?_
    refine me_iload C dL_law_1010 rfl ?_
    obtain ⟨r2, h_r2, hf⟩ := me_bs hf
    refine me_callSR C hroom (As := [.inl (.ref (B.1 202 0)), me_i (90 : Int32), me_i v4]) (st := []) nc ns (c_L_inB rfl hB h_r2) ms_L_in ml_L_95 dL_law_1012 rfl rfl ⟨by decide, by decide⟩ ⟨by omega, by omega, by omega, by omega⟩ (Nat.le_of_ble_eq_true rfl) ?_
    refine me_istore C dL_law_1015 (by decide) (L' := [(8, me_i r2), (0, .inl (.ref (B.1 202 0))), (1, me_r 0 0), (2, me_i v2), (4, me_i v4), (5, me_i v5), (6, me_i v6), (7, me_i v7)]) rfl ?_
    refine me_aload_n C 0 (Or.inr (Or.inr ⟨_, rfl⟩)) dL_law_1017 rfl rfl ?_
    refine me_bipush C (v := 91) dL_law_1018 (by decide) ?_
    refine me_iload C dL_law_1020 rfl ?_
    obtain ⟨r3, h_r3, hf⟩ := me_bs hf
    refine me_callSR C hroom (As := [.inl (.ref (B.1 202 0)), me_i (91 : Int32), me_i v4]) (st := []) nc ns (c_L_inB rfl hB h_r3) ms_L_in ml_L_95 dL_law_1022 rfl rfl ⟨by decide, by decide⟩ ⟨by omega, by omega, by omega, by omega⟩ (Nat.le_of_ble_eq_true rfl) ?_
    refine me_istore C dL_law_1025 (by decide) (L' := [(9, me_i r3), (8, me_i r2), (0, .inl (.ref (B.1 202 0))), (1, me_r 0 0), (2, me_i v2), (4, me_i v4), (5, me_i v5), (6, me_i v6), (7, me_i v7)]) rfl ?_
    refine me_aload_n C 0 (Or.inr (Or.inr ⟨_, rfl⟩)) dL_law_1027 rfl rfl ?_
    refine me_bipush C (v := 92) dL_law_1028 (by decide) ?_
    refine me_bipush C (v := 8) dL_law_1030 (by decide) ?_
    obtain ⟨r4, h_r4, hf⟩ := me_bs hf
    refine me_callSR C hroom (As := [.inl (.ref (B.1 202 0)), me_i (92 : Int32), me_i (8 : Int32)]) (st := []) nc ns (c_L_inB rfl hB h_r4) ms_L_in ml_L_95 dL_law_1032 rfl rfl ⟨by decide, by decide⟩ ⟨by omega, by omega, by omega, by omega⟩ (Nat.le_of_ble_eq_true rfl) ?_
    refine me_istore C dL_law_1035 (by decide) (L' := [(10, me_i r4), (9, me_i r3), (8, me_i r2), (0, .inl (.ref (B.1 202 0))), (1, me_r 0 0), (2, me_i v2), (4, me_i v4), (5, me_i v5), (6, me_i v6), (7, me_i v7)]) rfl ?_
    refine me_aload_n C 0 (Or.inr (Or.inr ⟨_, rfl⟩)) dL_law_1037 rfl rfl ?_
    refine me_bipush C (v := 93) dL_law_1038 (by decide) ?_
    refine me_sipush C (v := 500) dL_law_1040 (by decide) ?_
    obtain ⟨r5, h_r5, hf⟩ := me_bs hf
    refine me_callSR C hroom (As := [.inl (.ref (B.1 202 0)), me_i (93 : Int32), me_i (500 : Int32)]) (st := []) nc ns (c_L_inB rfl hB h_r5) ms_L_in ml_L_95 dL_law_1043 rfl rfl ⟨by decide, by decide⟩ ⟨by omega, by omega, by omega, by omega⟩ (Nat.le_of_ble_eq_true rfl) ?_
    refine me_istore C dL_law_1046 (by decide) (L' := [(11, me_i r5), (10, me_i r4), (9, me_i r3), (8, me_i r2), (0, .inl (.ref (B.1 202 0))), (1, me_r 0 0), (2, me_i v2), (4, me_i v4), (5, me_i v5), (6, me_i v6), (7, me_i v7)]) rfl ?_
    refine me_aload_n C 0 (Or.inr (Or.inr ⟨_, rfl⟩)) dL_law_1048 rfl rfl ?_
    refine me_bipush C (v := 94) dL_law_1049 (by decide) ?_
    refine me_sipush C (v := 500) dL_law_1051 (by decide) ?_
    obtain ⟨r6, h_r6, hf⟩ := me_bs hf
    refine me_callSR C hroom (As := [.inl (.ref (B.1 202 0)), me_i (94 : Int32), me_i (500 : Int32)]) (st := []) nc ns (c_L_inB rfl hB h_r6) ms_L_in ml_L_95 dL_law_1054 rfl rfl ⟨by decide, by decide⟩ ⟨by omega, by omega, by omega, by omega⟩ (Nat.le_of_ble_eq_true rfl) ?_
    refine me_istore C dL_law_1057 (by decide) (L' := [(12, me_i r6), (11, me_i r5), (10, me_i r4), (9, me_i r3), (8, me_i r2), (0, .inl (.ref (B.1 202 0))), (1, me_r 0 0), (2, me_i v2), (4, me_i v4), (5, me_i v5), (6, me_i v6), (7, me_i v7)]) rfl ?_
    refine me_aload_n C 0 (Or.inr (Or.inr ⟨_, rfl⟩)) dL_law_1059 rfl rfl ?_
    refine me_bipush C (v := 95) dL_law_1060 (by decide) ?_
    refine me_iconst C (v := 2) dL_law_1062 (by decide) ?_
    obtain ⟨r7, h_r7, hf⟩ := me_bs hf
    refine me_callSR C hroom (As := [.inl (.ref (B.1 202 0)), me_i (95 : Int32), me_i (2 : Int32)]) (st := []) nc ns (c_L_inB rfl hB h_r7) ms_L_in ml_L_95 dL_law_1063 rfl rfl ⟨by decide, by decide⟩ ⟨by omega, by omega, by omega, by omega⟩ (Nat.le_of_ble_eq_true rfl) ?_
    refine me_if_ne C (tgt := 1073) dL_law_1066 (by decide) (fun c8 => ?_) (fun c8 => ?_)
    · replace hf := me_in c8 hf
      refine me_iconst C (v := 0) dL_law_1073 (by decide) ?_
      refine me_dropI [(1, me_r 0 0), (6, me_i v6), (8, me_i r2), (9, me_i r3), (10, me_i r4), (11, me_i r5), (12, me_i r6)] [6, 10, 4, 3, 2, 1, 0] rfl ?_
      exact z_L_law_b1074 C hroom hB hz hR hNR (nc := nc) (ns := ns) ⟨by omega, by omega⟩ hf
    · replace hf := me_ip c8 hf
      refine me_iconst C (v := 1) dL_law_1069 (by decide) ?_
      refine me_goto C (tgt := 1074) dL_law_1070 (by decide) ?_
      refine me_dropI [(1, me_r 0 0), (6, me_i v6), (8, me_i r2), (9, me_i r3), (10, me_i r4), (11, me_i r5), (12, me_i r6)] [6, 10, 4, 3, 2, 1, 0] rfl ?_
      exact z_L_law_b1074 C hroom hB hz hR hNR (nc := nc) (ns := ns) ⟨by omega, by omega⟩ hf
  · replace hf := me_in c1 hf
    refine me_aload_n C 0 (Or.inr (Or.inr ⟨_, rfl⟩)) dL_law_193 rfl rfl ?_
    refine me_bipush C (v := 10) dL_law_194 (by decide) ?_
    refine me_iload C dL_law_196 rfl ?_
    refine me_iadd C dL_law_198 ?_
    refine me_iload C dL_law_199 rfl ?_
    obtain ⟨r9, h_r9, hf⟩ := me_bs hf
    refine me_callSR C hroom (As := [.inl (.ref (B.1 202 0)), me_i ((10 : Int32) + v8), me_i v4]) (st := []) nc ns (c_L_inB rfl hB h_r9) ms_L_in ml_L_95 dL_law_201 rfl rfl ⟨by decide, by decide⟩ ⟨by omega, by omega, by omega, by omega⟩ (Nat.le_of_ble_eq_true rfl) ?_
    refine me_istore C dL_law_204 (by decide) (L' := [(9, me_i r9), (0, .inl (.ref (B.1 202 0))), (1, me_r 0 0), (2, me_i v2), (4, me_i v4), (5, me_i v5), (6, me_i v6), (7, me_i v7), (8, me_i v8)]) rfl ?_
    refine me_aload_n C 0 (Or.inr (Or.inr ⟨_, rfl⟩)) dL_law_206 rfl rfl ?_
    refine me_bipush C (v := 20) dL_law_207 (by decide) ?_
    refine me_iload C dL_law_209 rfl ?_
    refine me_iadd C dL_law_211 ?_
    refine me_iload C dL_law_212 rfl ?_
    obtain ⟨r10, h_r10, hf⟩ := me_bs hf
    refine me_callSR C hroom (As := [.inl (.ref (B.1 202 0)), me_i ((20 : Int32) + v8), me_i v4]) (st := []) nc ns (c_L_inB rfl hB h_r10) ms_L_in ml_L_95 dL_law_214 rfl rfl ⟨by decide, by decide⟩ ⟨by omega, by omega, by omega, by omega⟩ (Nat.le_of_ble_eq_true rfl) ?_
    refine me_istore C dL_law_217 (by decide) (L' := [(10, me_i r10), (9, me_i r9), (0, .inl (.ref (B.1 202 0))), (1, me_r 0 0), (2, me_i v2), (4, me_i v4), (5, me_i v5), (6, me_i v6), (7, me_i v7), (8, me_i v8)]) rfl ?_
    refine me_aload_n C 0 (Or.inr (Or.inr ⟨_, rfl⟩)) dL_law_219 rfl rfl ?_
    refine me_bipush C (v := 30) dL_law_220 (by decide) ?_
    refine me_iload C dL_law_222 rfl ?_
    refine me_iadd C dL_law_224 ?_
    refine me_sipush C (v := 9999) dL_law_225 (by decide) ?_
    obtain ⟨r11, h_r11, hf⟩ := me_bs hf
    refine me_callSR C hroom (As := [.inl (.ref (B.1 202 0)), me_i ((30 : Int32) + v8), me_i (9999 : Int32)]) (st := []) nc ns (c_L_inB rfl hB h_r11) ms_L_in ml_L_95 dL_law_228 rfl rfl ⟨by decide, by decide⟩ ⟨by omega, by omega, by omega, by omega⟩ (Nat.le_of_ble_eq_true rfl) ?_
    refine me_istore C dL_law_231 (by decide) (L' := [(11, me_i r11), (10, me_i r10), (9, me_i r9), (0, .inl (.ref (B.1 202 0))), (1, me_r 0 0), (2, me_i v2), (4, me_i v4), (5, me_i v5), (6, me_i v6), (7, me_i v7), (8, me_i v8)]) rfl ?_
    refine me_iconst C (v := 1) dL_law_233 (by decide) ?_
    refine me_aload_n C 0 (Or.inr (Or.inr ⟨_, rfl⟩)) dL_law_234 rfl rfl ?_
    refine me_bipush C (v := 40) dL_law_235 (by decide) ?_
    refine me_iload C dL_law_237 rfl ?_
    refine me_iadd C dL_law_239 ?_
    refine me_iconst C (v := 4) dL_law_240 (by decide) ?_
    obtain ⟨r12, h_r12, hf⟩ := me_bs hf
    refine me_callSR C hroom (As := [.inl (.ref (B.1 202 0)), me_i ((40 : Int32) + v8), me_i (4 : Int32)]) (st := [me_i (1 : Int32)]) nc ns (c_L_inB rfl hB h_r12) ms_L_in ml_L_95 dL_law_241 rfl rfl ⟨by decide, by decide⟩ ⟨by omega, by omega, by omega, by omega⟩ (Nat.le_of_ble_eq_true rfl) ?_
    refine me_iadd C dL_law_244 ?_
    obtain ⟨x13, e_x13, hf⟩ := me_lts hf
    refine me_nm e_x13 ?_
    refine me_istore C dL_law_245 (by decide) (L' := [(12, me_i x13), (11, me_i r11), (10, me_i r10), (9, me_i r9), (0, .inl (.ref (B.1 202 0))), (1, me_r 0 0), (2, me_i v2), (4, me_i v4), (5, me_i v5), (6, me_i v6), (7, me_i v7), (8, me_i v8)]) rfl ?_
    refine me_iconst C (v := 0) dL_law_247 (by decide) ?_
    refine me_istore C dL_law_248 (by decide) (L' := [(13, me_i (0 : Int32)), (12, me_i x13), (11, me_i r11), (10, me_i r10), (9, me_i r9), (0, .inl (.ref (B.1 202 0))), (1, me_r 0 0), (2, me_i v2), (4, me_i v4), (5, me_i v5), (6, me_i v6), (7, me_i v7), (8, me_i v8)]) rfl ?_
    refine me_iload C dL_law_250 rfl ?_
    obtain ⟨g14, hf⟩ := me_gs hf
    obtain ⟨μ15, e_μ15, hf⟩ := me_lts hf
    have hv4 := me_inb_lt g14
    refine me_newT C hroom g14 rfl (me_kL hv4) (by show 36 + me_ix v4 < 53; omega) (hz _ (by omega)) dL_law_252 ⟨by omega, by omega⟩ e_μ15 (fun q hJ0 C => ?_)
    have hB := hB.tb (q := q) (me_rL hv4)
    have hk1 : 36 + me_ix v4 < 53 := by omega
    refine me_astore C (Or.inr (Or.inl ⟨_, rfl⟩)) dL_law_254 (by decide) (L' := [(14, me_r (36 + me_ix v4) 0), (13, me_i (0 : Int32)), (12, me_i x13), (11, me_i r11), (10, me_i r10), (9, me_i r9), (0, .inl (.ref (B.1 202 0))), (1, me_r 0 0), (2, me_i v2), (4, me_i v4), (5, me_i v5), (6, me_i v6), (7, me_i v7), (8, me_i v8)]) rfl ?_
    refine me_iconst C (v := 0) dL_law_256 (by decide) ?_
    refine me_istore C dL_law_257 (by decide) (L' := [(15, me_i (0 : Int32)), (14, me_r (36 + me_ix v4) 0), (13, me_i (0 : Int32)), (12, me_i x13), (11, me_i r11), (10, me_i r10), (9, me_i r9), (0, .inl (.ref (B.1 202 0))), (1, me_r 0 0), (2, me_i v2), (4, me_i v4), (5, me_i v5), (6, me_i v6), (7, me_i v7), (8, me_i v8)]) rfl ?_
    refine me_dropI [(0, .inl (.ref (B.1 202 0))), (1, me_r 0 0), (2, me_i v2), (4, me_i v4), (5, me_i v5), (6, me_i v6), (7, me_i v7), (8, me_i v8), (9, me_i r9), (10, me_i r10), (11, me_i r11), (12, me_i x13), (13, me_i (0 : Int32)), (14, me_r (36 + me_ix v4) 0), (15, me_i (0 : Int32))] [7, 8, 9, 10, 11, 12, 13, 14, 6, 5, 4, 3, 2, 1, 0] rfl ?_
    exact z_L_law_h259 C hroom hB hz hJ0 hk1 hR hNR hK187 hN187 me_F259 (nc + 1) (ns + 17) μ15 v2 v4 v5 v6 v7 v8 r9 r10 r11 x13 (0 : Int32) (0 : Int32) rfl ⟨by unfold me_F259; omega, by unfold me_F259; omega⟩ hf
def me_F187 : Nat := 8
def f_L_law_h187 (sL : Nat) (xs : Nat → Int32)  : Nat → me_M → Int32 → Int32 → Int32 → Int32 → Int32 → Int32 → Option (me_M × Int32)
  | 0, _, _, _, _, _, _, _ => none
  | n + 1, μ, v2, v4, v5, v6, v7, v8 => f_L_law_b187 sL xs (f_L_law_h187 sL xs n) μ v2 v4 v5 v6 v7 v8
set_option maxHeartbeats 4000000 in
set_option maxRecDepth 100000 in
theorem z_L_law_h187 {X : me_X} {B : me_B} {ret0 : Option FieldType} {NR SR : Nat}  {r : me_M × Int32} (C : me_C X B RL cL_law 23 ret0) (hroom : me_Rm X 12 462 618549 7246051) (hB : me_St B) (hz : ∀ k, 36 ≤ k → B.2.1 k = 0) (hR : ∀ (nc ns : Nat), nc ≤ NR → ns ≤ SR → me_Z X B nc ns r.1 1316 [] [me_i r.2]) (hNR : NR ≤ 618549 ∧ SR ≤ 7246051)  : ∀ (n nc ns : Nat) (μ : me_M) (v2 : Int32) (v4 : Int32) (v5 : Int32) (v6 : Int32) (v7 : Int32) (v8 : Int32), (nc + n * 806 + 26 ≤ NR ∧ ns + n * 4847 + 156 ≤ SR) → f_L_law_h187 B.2.2.2.1 B.2.2.2.2 n μ v2 v4 v5 v6 v7 v8 = some r → me_Z X B nc ns μ 187 [(0, .inl (.ref (B.1 202 0))), (1, me_r 0 0), (2, me_i v2), (4, me_i v4), (5, me_i v5), (6, me_i v6), (7, me_i v7), (8, me_i v8)] [] := by
  intro n
  induction n with
  | zero => intro nc ns μ v2 v4 v5 v6 v7 v8 hbR h; exact absurd (show (none : Option (me_M × Int32)) = some r from h) (fun q => by cases q)
  | succ n ih =>
    intro nc ns μ v2 v4 v5 v6 v7 v8 hbR h
    exact z_L_law_b187 (NB187 := nc + 806) (SB187 := ns + 4847) C hroom hB hz hR hNR  (fun nc' ns' μ v2 v4 v5 v6 v7 v8 h1 h2 h3 => ih nc' ns' μ v2 v4 v5 v6 v7 v8 ⟨by omega, by omega⟩ h3) ⟨by omega, by omega⟩ ⟨Nat.le_refl _, Nat.le_refl _⟩ ⟨by omega, by omega⟩ h
def f_L_law_b179 (sL : Nat) (xs : Nat → Int32)  (μ : me_M) (v2 : Int32) (v4 : Int32) (v5 : Int32) (s0 : Int32) : Option (me_M × Int32) :=
  f_L_law_h187 sL xs me_F187 μ v2 v4 v5 s0 (0 : Int32) (0 : Int32)
set_option maxHeartbeats 4000000 in
set_option maxRecDepth 100000 in
theorem z_L_law_b179 {X : me_X} {B : me_B} {ret0 : Option FieldType} {NR SR : Nat}  {nc ns : Nat} {μ : me_M} {v2 : Int32} {v4 : Int32} {v5 : Int32} {s0 : Int32} {r : me_M × Int32} (C : me_C X B RL cL_law 23 ret0) (hroom : me_Rm X 12 462 618549 7246051) (hB : me_St B) (hz : ∀ k, 36 ≤ k → B.2.1 k = 0) (hR : ∀ (nc ns : Nat), nc ≤ NR → ns ≤ SR → me_Z X B nc ns r.1 1316 [] [me_i r.2]) (hNR : NR ≤ 618549 ∧ SR ≤ 7246051)  (hbR : (nc + 6474 ≤ NR ∧ ns + 38932 ≤ SR)) (hf : f_L_law_b179 B.2.2.2.1 B.2.2.2.2 μ v2 v4 v5 s0 = some r) : me_Z X B nc ns μ 179 [(0, .inl (.ref (B.1 202 0))), (1, me_r 0 0), (2, me_i v2), (4, me_i v4), (5, me_i v5)] [me_i s0] := by
  unfold f_L_law_b179 at hf
  refine me_istore C dL_law_179 (by decide) (L' := [(6, me_i s0), (0, .inl (.ref (B.1 202 0))), (1, me_r 0 0), (2, me_i v2), (4, me_i v4), (5, me_i v5)]) rfl ?_
  refine me_iconst C (v := 0) dL_law_181 (by decide) ?_
  refine me_istore C dL_law_182 (by decide) (L' := [(7, me_i (0 : Int32)), (6, me_i s0), (0, .inl (.ref (B.1 202 0))), (1, me_r 0 0), (2, me_i v2), (4, me_i v4), (5, me_i v5)]) rfl ?_
  refine me_iconst C (v := 0) dL_law_184 (by decide) ?_
  refine me_istore C dL_law_185 (by decide) (L' := [(8, me_i (0 : Int32)), (7, me_i (0 : Int32)), (6, me_i s0), (0, .inl (.ref (B.1 202 0))), (1, me_r 0 0), (2, me_i v2), (4, me_i v4), (5, me_i v5)]) rfl ?_
  refine me_dropI [(0, .inl (.ref (B.1 202 0))), (1, me_r 0 0), (2, me_i v2), (4, me_i v4), (5, me_i v5), (6, me_i s0), (7, me_i (0 : Int32)), (8, me_i (0 : Int32))] [3, 4, 5, 6, 7, 2, 1, 0] rfl ?_
  exact z_L_law_h187 C hroom hB hz hR hNR me_F187 nc ns μ v2 v4 v5 s0 (0 : Int32) (0 : Int32) ⟨by unfold me_F187; omega, by unfold me_F187; omega⟩ hf
def f_L_law_b93 (sL : Nat) (xs : Nat → Int32)  (μ : me_M) (v2 : Int32) (v4 : Int32) (v5 : Int32) (s0 : Int32) : Option (me_M × Int32) :=
  me_b2 (f_L_way μ s0) (fun μ2 r1 =>
  if r1 = (120 : Int32) then
  (me_b2 (f_L_places μ2 (5 : Int32)) (fun μ5 r4 =>
  if r4 = (-900001 : Int32) then
  (me_bd (f_L_in sL xs μ5 (3 : Int32) (3 : Int32)) (fun r7 =>
  me_b2 (f_L_places μ5 ((2 : Int32) + r7)) (fun μ9 r8 =>
  if r8 = (2 : Int32) then
  (me_b2 (f_L_send μ9 (0 : Int32) v4 (1 : Int32) (1 : Int32)) (fun μ12 r11 =>
  if r11 = (-900001 : Int32) then
  (me_b2 (f_L_send μ12 (0 : Int32) (0 : Int32) (1 : Int32) (5 : Int32)) (fun μ15 r14 =>
  if r14 = (-900002 : Int32) then
  (me_b2 (f_L_state μ15 (0 : Int32)) (fun μ18 r17 =>
  if r17 = (-900001 : Int32) then
  (me_b2 (f_L_beats μ18 (0 : Int32)) (fun μ21 r20 =>
  if r20 = (-900001 : Int32) then
  (f_L_law_b179 sL xs μ21 v2 v4 v5 (1 : Int32))
  else
  (f_L_law_b179 sL xs μ21 v2 v4 v5 (0 : Int32))))
  else
  (f_L_law_b179 sL xs μ18 v2 v4 v5 (0 : Int32))))
  else
  (f_L_law_b179 sL xs μ15 v2 v4 v5 (0 : Int32))))
  else
  (f_L_law_b179 sL xs μ12 v2 v4 v5 (0 : Int32))))
  else
  (f_L_law_b179 sL xs μ9 v2 v4 v5 (0 : Int32)))))
  else
  (f_L_law_b179 sL xs μ5 v2 v4 v5 (0 : Int32))))
  else
  (f_L_law_b179 sL xs μ2 v2 v4 v5 (0 : Int32)))
set_option maxHeartbeats 4000000 in
set_option maxRecDepth 100000 in
theorem z_L_law_b93 {X : me_X} {B : me_B} {ret0 : Option FieldType} {NR SR : Nat}  {nc ns : Nat} {μ : me_M} {v2 : Int32} {v4 : Int32} {v5 : Int32} {s0 : Int32} {r : me_M × Int32} (C : me_C X B RL cL_law 23 ret0) (hroom : me_Rm X 12 462 618549 7246051) (hB : me_St B) (hz : ∀ k, 36 ≤ k → B.2.1 k = 0) (hR : ∀ (nc ns : Nat), nc ≤ NR → ns ≤ SR → me_Z X B nc ns r.1 1316 [] [me_i r.2]) (hNR : NR ≤ 618549 ∧ SR ≤ 7246051)  (hbR : (nc + 6487 ≤ NR ∧ ns + 39010 ≤ SR)) (hf : f_L_law_b93 B.2.2.2.1 B.2.2.2.2 μ v2 v4 v5 s0 = some r) : me_Z X B nc ns μ 93 [(0, .inl (.ref (B.1 202 0))), (1, me_r 0 0), (2, me_i v2), (4, me_i v4), (5, me_i v5)] [me_i s0, me_r 0 0] := by
  unfold f_L_law_b93 at hf
  obtain ⟨μ2, r1, h_r1, hf⟩ := me_bs2 hf
  refine me_callSH C hroom (n := 2) (As := [me_r 0 0, me_i s0]) (st := []) (nc + 1) (ns + 6) (c_L_way hB h_r1) mh_L_way iL ⟨by decide +kernel, by decide +kernel⟩ (by decide +kernel) si_L_way ml_L_102 dL_law_93 rfl rfl ⟨by decide, by decide⟩ ⟨by omega, by omega, by omega, by omega⟩ (Nat.le_of_ble_eq_true rfl) ?_
  refine me_bipush C (v := 120) dL_law_96 (by decide) ?_
  refine me_icmp_ne C (tgt := 178) dL_law_98 (by decide) (fun c3 => ?_) (fun c3 => ?_)
  · replace hf := me_in c3 hf
    refine me_iconst C (v := 0) dL_law_178 (by decide) ?_
    refine me_dropI [(0, .inl (.ref (B.1 202 0))), (1, me_r 0 0), (2, me_i v2), (4, me_i v4), (5, me_i v5)] [0, 1, 2, 3, 4] rfl ?_
    exact z_L_law_b179 C hroom hB hz hR hNR (nc := (nc + 1)) (ns := (ns + 6)) ⟨by omega, by omega⟩ hf
  · replace hf := me_ip c3 hf
    refine me_aload_n C 1 (Or.inr (Or.inl ⟨_, rfl⟩)) dL_law_101 rfl rfl ?_
    refine me_iconst C (v := 5) dL_law_102 (by decide) ?_
    obtain ⟨μ5, r4, h_r4, hf⟩ := me_bs2 hf
    refine me_callSH C hroom (n := 2) (As := [me_r 0 0, me_i (5 : Int32)]) (st := []) (nc + 2) (ns + 12) (c_L_places hB h_r4) mh_L_places iL ⟨by decide +kernel, by decide +kernel⟩ (by decide +kernel) si_L_places ml_L_105 dL_law_103 rfl rfl ⟨by decide, by decide⟩ ⟨by omega, by omega, by omega, by omega⟩ (Nat.le_of_ble_eq_true rfl) ?_
    refine me_ldc C (v := (-900001)) dL_law_106 ci_L_17 ?_
    refine me_icmp_ne C (tgt := 178) dL_law_108 (by decide) (fun c6 => ?_) (fun c6 => ?_)
    · replace hf := me_in c6 hf
      refine me_iconst C (v := 0) dL_law_178 (by decide) ?_
      refine me_dropI [(0, .inl (.ref (B.1 202 0))), (1, me_r 0 0), (2, me_i v2), (4, me_i v4), (5, me_i v5)] [0, 1, 2, 3, 4] rfl ?_
      exact z_L_law_b179 C hroom hB hz hR hNR (nc := (nc + 2)) (ns := (ns + 12)) ⟨by omega, by omega⟩ hf
    · replace hf := me_ip c6 hf
      refine me_aload_n C 1 (Or.inr (Or.inl ⟨_, rfl⟩)) dL_law_111 rfl rfl ?_
      refine me_iconst C (v := 2) dL_law_112 (by decide) ?_
      refine me_aload_n C 0 (Or.inr (Or.inr ⟨_, rfl⟩)) dL_law_113 rfl rfl ?_
      refine me_iconst C (v := 3) dL_law_114 (by decide) ?_
      refine me_iconst C (v := 3) dL_law_115 (by decide) ?_
      obtain ⟨r7, h_r7, hf⟩ := me_bs hf
      refine me_callSR C hroom (As := [.inl (.ref (B.1 202 0)), me_i (3 : Int32), me_i (3 : Int32)]) (st := [me_i (2 : Int32), me_r 0 0]) (nc + 2) (ns + 12) (c_L_inB rfl hB h_r7) ms_L_in ml_L_95 dL_law_116 rfl rfl ⟨by decide, by decide⟩ ⟨by omega, by omega, by omega, by omega⟩ (Nat.le_of_ble_eq_true rfl) ?_
      refine me_iadd C dL_law_119 ?_
      obtain ⟨μ9, r8, h_r8, hf⟩ := me_bs2 hf
      refine me_callSH C hroom (n := 2) (As := [me_r 0 0, me_i ((2 : Int32) + r7)]) (st := []) (nc + 3) (ns + 18) (c_L_places hB h_r8) mh_L_places iL ⟨by decide +kernel, by decide +kernel⟩ (by decide +kernel) si_L_places ml_L_105 dL_law_120 rfl rfl ⟨by decide, by decide⟩ ⟨by omega, by omega, by omega, by omega⟩ (Nat.le_of_ble_eq_true rfl) ?_
      refine me_iconst C (v := 2) dL_law_123 (by decide) ?_
      refine me_icmp_ne C (tgt := 178) dL_law_124 (by decide) (fun c10 => ?_) (fun c10 => ?_)
      · replace hf := me_in c10 hf
        refine me_iconst C (v := 0) dL_law_178 (by decide) ?_
        refine me_dropI [(0, .inl (.ref (B.1 202 0))), (1, me_r 0 0), (2, me_i v2), (4, me_i v4), (5, me_i v5)] [0, 1, 2, 3, 4] rfl ?_
        exact z_L_law_b179 C hroom hB hz hR hNR (nc := (nc + 3)) (ns := (ns + 18)) ⟨by omega, by omega⟩ hf
      · replace hf := me_ip c10 hf
        refine me_aload_n C 1 (Or.inr (Or.inl ⟨_, rfl⟩)) dL_law_127 rfl rfl ?_
        refine me_iconst C (v := 0) dL_law_128 (by decide) ?_
        refine me_iload C dL_law_129 rfl ?_
        refine me_iconst C (v := 1) dL_law_131 (by decide) ?_
        refine me_iconst C (v := 1) dL_law_132 (by decide) ?_
        obtain ⟨μ12, r11, h_r11, hf⟩ := me_bs2 hf
        refine me_callSH C hroom (n := 5) (As := [me_r 0 0, me_i (0 : Int32), me_i v4, me_i (1 : Int32), me_i (1 : Int32)]) (st := []) (nc + 7) (ns + 42) (c_L_send hB h_r11) mh_L_send iL ⟨by decide +kernel, by decide +kernel⟩ (by decide +kernel) si_L_send ml_L_108 dL_law_133 rfl rfl ⟨by decide, by decide⟩ ⟨by omega, by omega, by omega, by omega⟩ (Nat.le_of_ble_eq_true rfl) ?_
        refine me_ldc C (v := (-900001)) dL_law_136 ci_L_17 ?_
        refine me_icmp_ne C (tgt := 178) dL_law_138 (by decide) (fun c13 => ?_) (fun c13 => ?_)
        · replace hf := me_in c13 hf
          refine me_iconst C (v := 0) dL_law_178 (by decide) ?_
          refine me_dropI [(0, .inl (.ref (B.1 202 0))), (1, me_r 0 0), (2, me_i v2), (4, me_i v4), (5, me_i v5)] [0, 1, 2, 3, 4] rfl ?_
          exact z_L_law_b179 C hroom hB hz hR hNR (nc := (nc + 7)) (ns := (ns + 42)) ⟨by omega, by omega⟩ hf
        · replace hf := me_ip c13 hf
          refine me_aload_n C 1 (Or.inr (Or.inl ⟨_, rfl⟩)) dL_law_141 rfl rfl ?_
          refine me_iconst C (v := 0) dL_law_142 (by decide) ?_
          refine me_iconst C (v := 0) dL_law_143 (by decide) ?_
          refine me_iconst C (v := 1) dL_law_144 (by decide) ?_
          refine me_iconst C (v := 5) dL_law_145 (by decide) ?_
          obtain ⟨μ15, r14, h_r14, hf⟩ := me_bs2 hf
          refine me_callSH C hroom (n := 5) (As := [me_r 0 0, me_i (0 : Int32), me_i (0 : Int32), me_i (1 : Int32), me_i (5 : Int32)]) (st := []) (nc + 11) (ns + 66) (c_L_send hB h_r14) mh_L_send iL ⟨by decide +kernel, by decide +kernel⟩ (by decide +kernel) si_L_send ml_L_108 dL_law_146 rfl rfl ⟨by decide, by decide⟩ ⟨by omega, by omega, by omega, by omega⟩ (Nat.le_of_ble_eq_true rfl) ?_
          refine me_ldc C (v := (-900002)) dL_law_149 ci_L_20 ?_
          refine me_icmp_ne C (tgt := 178) dL_law_151 (by decide) (fun c16 => ?_) (fun c16 => ?_)
          · replace hf := me_in c16 hf
            refine me_iconst C (v := 0) dL_law_178 (by decide) ?_
            refine me_dropI [(0, .inl (.ref (B.1 202 0))), (1, me_r 0 0), (2, me_i v2), (4, me_i v4), (5, me_i v5)] [0, 1, 2, 3, 4] rfl ?_
            exact z_L_law_b179 C hroom hB hz hR hNR (nc := (nc + 11)) (ns := (ns + 66)) ⟨by omega, by omega⟩ hf
          · replace hf := me_ip c16 hf
            refine me_aload_n C 1 (Or.inr (Or.inl ⟨_, rfl⟩)) dL_law_154 rfl rfl ?_
            refine me_iconst C (v := 0) dL_law_155 (by decide) ?_
            obtain ⟨μ18, r17, h_r17, hf⟩ := me_bs2 hf
            refine me_callSH C hroom (n := 2) (As := [me_r 0 0, me_i (0 : Int32)]) (st := []) (nc + 12) (ns + 72) (c_L_state hB h_r17) mh_L_state iL ⟨by decide +kernel, by decide +kernel⟩ (by decide +kernel) si_L_state ml_L_111 dL_law_156 rfl rfl ⟨by decide, by decide⟩ ⟨by omega, by omega, by omega, by omega⟩ (Nat.le_of_ble_eq_true rfl) ?_
            refine me_ldc C (v := (-900001)) dL_law_159 ci_L_17 ?_
            refine me_icmp_ne C (tgt := 178) dL_law_161 (by decide) (fun c19 => ?_) (fun c19 => ?_)
            · replace hf := me_in c19 hf
              refine me_iconst C (v := 0) dL_law_178 (by decide) ?_
              refine me_dropI [(0, .inl (.ref (B.1 202 0))), (1, me_r 0 0), (2, me_i v2), (4, me_i v4), (5, me_i v5)] [0, 1, 2, 3, 4] rfl ?_
              exact z_L_law_b179 C hroom hB hz hR hNR (nc := (nc + 12)) (ns := (ns + 72)) ⟨by omega, by omega⟩ hf
            · replace hf := me_ip c19 hf
              refine me_aload_n C 1 (Or.inr (Or.inl ⟨_, rfl⟩)) dL_law_164 rfl rfl ?_
              refine me_iconst C (v := 0) dL_law_165 (by decide) ?_
              obtain ⟨μ21, r20, h_r20, hf⟩ := me_bs2 hf
              refine me_callSH C hroom (n := 2) (As := [me_r 0 0, me_i (0 : Int32)]) (st := []) (nc + 13) (ns + 78) (c_L_beats hB h_r20) mh_L_beats iL ⟨by decide +kernel, by decide +kernel⟩ (by decide +kernel) si_L_beats ml_L_113 dL_law_166 rfl rfl ⟨by decide, by decide⟩ ⟨by omega, by omega, by omega, by omega⟩ (Nat.le_of_ble_eq_true rfl) ?_
              refine me_ldc C (v := (-900001)) dL_law_169 ci_L_17 ?_
              refine me_icmp_ne C (tgt := 178) dL_law_171 (by decide) (fun c22 => ?_) (fun c22 => ?_)
              · replace hf := me_in c22 hf
                refine me_iconst C (v := 0) dL_law_178 (by decide) ?_
                refine me_dropI [(0, .inl (.ref (B.1 202 0))), (1, me_r 0 0), (2, me_i v2), (4, me_i v4), (5, me_i v5)] [0, 1, 2, 3, 4] rfl ?_
                exact z_L_law_b179 C hroom hB hz hR hNR (nc := (nc + 13)) (ns := (ns + 78)) ⟨by omega, by omega⟩ hf
              · replace hf := me_ip c22 hf
                refine me_iconst C (v := 1) dL_law_174 (by decide) ?_
                refine me_goto C (tgt := 179) dL_law_175 (by decide) ?_
                refine me_dropI [(0, .inl (.ref (B.1 202 0))), (1, me_r 0 0), (2, me_i v2), (4, me_i v4), (5, me_i v5)] [0, 1, 2, 3, 4] rfl ?_
                exact z_L_law_b179 C hroom hB hz hR hNR (nc := (nc + 13)) (ns := (ns + 78)) ⟨by omega, by omega⟩ hf
def f_L_law_b45 (sL : Nat) (xs : Nat → Int32)  (μ : me_M) (v2 : Int32) (v3 : Int32) (v4 : Int32) (s0 : Int32) : Option (me_M × Int32) :=
  me_b2 (f_L_net μ (5 : Int32) (1 : Int32)) (fun μ2 r1 =>
  if r1 = (-900001 : Int32) then
  (me_b2 (f_L_net μ2 v2 v3) (fun μ5 r4 =>
  if r4 = v4 then
  (me_b2 (f_L_way μ5 (122 : Int32)) (fun μ8 r7 =>
  if r7 = (-900001 : Int32) then
  (if s0 = 0 then
  (f_L_law_b93 sL xs μ8 v2 v4 s0 (121 : Int32))
  else
  (f_L_law_b93 sL xs μ8 v2 v4 s0 (120 : Int32)))
  else
  (f_L_law_b179 sL xs μ8 v2 v4 s0 (0 : Int32))))
  else
  (f_L_law_b179 sL xs μ5 v2 v4 s0 (0 : Int32))))
  else
  (f_L_law_b179 sL xs μ2 v2 v4 s0 (0 : Int32)))
set_option maxHeartbeats 4000000 in
set_option maxRecDepth 100000 in
theorem z_L_law_b45 {X : me_X} {B : me_B} {ret0 : Option FieldType} {NR SR : Nat}  {nc ns : Nat} {μ : me_M} {v2 : Int32} {v3 : Int32} {v4 : Int32} {s0 : Int32} {r : me_M × Int32} (C : me_C X B RL cL_law 23 ret0) (hroom : me_Rm X 12 462 618549 7246051) (hB : me_St B) (hz : ∀ k, 36 ≤ k → B.2.1 k = 0) (hR : ∀ (nc ns : Nat), nc ≤ NR → ns ≤ SR → me_Z X B nc ns r.1 1316 [] [me_i r.2]) (hNR : NR ≤ 618549 ∧ SR ≤ 7246051)  (hbR : (nc + 6492 ≤ NR ∧ ns + 39040 ≤ SR)) (hf : f_L_law_b45 B.2.2.2.1 B.2.2.2.2 μ v2 v3 v4 s0 = some r) : me_Z X B nc ns μ 45 [(0, .inl (.ref (B.1 202 0))), (1, me_r 0 0), (2, me_i v2), (3, me_i v3), (4, me_i v4)] [me_i s0] := by
  unfold f_L_law_b45 at hf
  refine me_istore C dL_law_45 (by decide) (L' := [(5, me_i s0), (0, .inl (.ref (B.1 202 0))), (1, me_r 0 0), (2, me_i v2), (3, me_i v3), (4, me_i v4)]) rfl ?_
  refine me_aload_n C 1 (Or.inr (Or.inl ⟨_, rfl⟩)) dL_law_47 rfl rfl ?_
  refine me_iconst C (v := 5) dL_law_48 (by decide) ?_
  refine me_iconst C (v := 1) dL_law_49 (by decide) ?_
  obtain ⟨μ2, r1, h_r1, hf⟩ := me_bs2 hf
  refine me_callSH C hroom (n := 3) (As := [me_r 0 0, me_i (5 : Int32), me_i (1 : Int32)]) (st := []) (nc + 2) (ns + 12) (c_L_net hB h_r1) mh_L_net iL ⟨by decide +kernel, by decide +kernel⟩ (by decide +kernel) si_L_net ml_L_99 dL_law_50 rfl rfl ⟨by decide, by decide⟩ ⟨by omega, by omega, by omega, by omega⟩ (Nat.le_of_ble_eq_true rfl) ?_
  refine me_ldc C (v := (-900001)) dL_law_53 ci_L_17 ?_
  refine me_icmp_ne C (tgt := 178) dL_law_55 (by decide) (fun c3 => ?_) (fun c3 => ?_)
  · replace hf := me_in c3 hf
    refine me_iconst C (v := 0) dL_law_178 (by decide) ?_
    refine me_dropI [(0, .inl (.ref (B.1 202 0))), (1, me_r 0 0), (2, me_i v2), (4, me_i v4), (5, me_i s0)] [1, 2, 3, 5, 0] rfl ?_
    exact z_L_law_b179 C hroom hB hz hR hNR (nc := (nc + 2)) (ns := (ns + 12)) ⟨by omega, by omega⟩ hf
  · replace hf := me_ip c3 hf
    refine me_aload_n C 1 (Or.inr (Or.inl ⟨_, rfl⟩)) dL_law_58 rfl rfl ?_
    refine me_iload_n C 2 dL_law_59 rfl rfl ?_
    refine me_iload_n C 3 dL_law_60 rfl rfl ?_
    obtain ⟨μ5, r4, h_r4, hf⟩ := me_bs2 hf
    refine me_callSH C hroom (n := 3) (As := [me_r 0 0, me_i v2, me_i v3]) (st := []) (nc + 4) (ns + 24) (c_L_net hB h_r4) mh_L_net iL ⟨by decide +kernel, by decide +kernel⟩ (by decide +kernel) si_L_net ml_L_99 dL_law_61 rfl rfl ⟨by decide, by decide⟩ ⟨by omega, by omega, by omega, by omega⟩ (Nat.le_of_ble_eq_true rfl) ?_
    refine me_iload C dL_law_64 rfl ?_
    refine me_icmp_ne C (tgt := 178) dL_law_66 (by decide) (fun c6 => ?_) (fun c6 => ?_)
    · replace hf := me_in c6 hf
      refine me_iconst C (v := 0) dL_law_178 (by decide) ?_
      refine me_dropI [(0, .inl (.ref (B.1 202 0))), (1, me_r 0 0), (2, me_i v2), (4, me_i v4), (5, me_i s0)] [1, 2, 3, 5, 0] rfl ?_
      exact z_L_law_b179 C hroom hB hz hR hNR (nc := (nc + 4)) (ns := (ns + 24)) ⟨by omega, by omega⟩ hf
    · replace hf := me_ip c6 hf
      refine me_aload_n C 1 (Or.inr (Or.inl ⟨_, rfl⟩)) dL_law_69 rfl rfl ?_
      refine me_bipush C (v := 122) dL_law_70 (by decide) ?_
      obtain ⟨μ8, r7, h_r7, hf⟩ := me_bs2 hf
      refine me_callSH C hroom (n := 2) (As := [me_r 0 0, me_i (122 : Int32)]) (st := []) (nc + 5) (ns + 30) (c_L_way hB h_r7) mh_L_way iL ⟨by decide +kernel, by decide +kernel⟩ (by decide +kernel) si_L_way ml_L_102 dL_law_72 rfl rfl ⟨by decide, by decide⟩ ⟨by omega, by omega, by omega, by omega⟩ (Nat.le_of_ble_eq_true rfl) ?_
      refine me_ldc C (v := (-900001)) dL_law_75 ci_L_17 ?_
      refine me_icmp_ne C (tgt := 178) dL_law_77 (by decide) (fun c9 => ?_) (fun c9 => ?_)
      · replace hf := me_in c9 hf
        refine me_iconst C (v := 0) dL_law_178 (by decide) ?_
        refine me_dropI [(0, .inl (.ref (B.1 202 0))), (1, me_r 0 0), (2, me_i v2), (4, me_i v4), (5, me_i s0)] [1, 2, 3, 5, 0] rfl ?_
        exact z_L_law_b179 C hroom hB hz hR hNR (nc := (nc + 5)) (ns := (ns + 30)) ⟨by omega, by omega⟩ hf
      · replace hf := me_ip c9 hf
        refine me_aload_n C 1 (Or.inr (Or.inl ⟨_, rfl⟩)) dL_law_80 rfl rfl ?_
        refine me_iload C dL_law_81 rfl ?_
        refine me_if_eq C (tgt := 91) dL_law_83 (by decide) (fun c10 => ?_) (fun c10 => ?_)
        · replace hf := me_ip c10 hf
          refine me_bipush C (v := 121) dL_law_91 (by decide) ?_
          refine me_dropI [(0, .inl (.ref (B.1 202 0))), (1, me_r 0 0), (2, me_i v2), (4, me_i v4), (5, me_i s0)] [1, 2, 3, 5, 0] rfl ?_
          exact z_L_law_b93 C hroom hB hz hR hNR (nc := (nc + 5)) (ns := (ns + 30)) ⟨by omega, by omega⟩ hf
        · replace hf := me_in c10 hf
          refine me_bipush C (v := 120) dL_law_86 (by decide) ?_
          refine me_goto C (tgt := 93) dL_law_88 (by decide) ?_
          refine me_dropI [(0, .inl (.ref (B.1 202 0))), (1, me_r 0 0), (2, me_i v2), (4, me_i v4), (5, me_i s0)] [1, 2, 3, 5, 0] rfl ?_
          exact z_L_law_b93 C hroom hB hz hR hNR (nc := (nc + 5)) (ns := (ns + 30)) ⟨by omega, by omega⟩ hf
def f_L_law (sL : Nat) (xs : Nat → Int32)  (μ : me_M)  : Option (me_M × Int32) :=
  me_bd (f_L_in sL xs μ (0 : Int32) (3 : Int32)) (fun r1 =>
  me_lt (((2 : Int32) + r1)) (fun x2 =>
  me_bd (f_L_in sL xs μ (1 : Int32) (4 : Int32)) (fun r3 =>
  me_lt (((1 : Int32) + r3)) (fun x4 =>
  me_lt ((x2 * x4)) (fun x5 =>
  me_bd (f_L_in sL xs μ (2 : Int32) (2 : Int32)) (fun r6 =>
  if r6 = 0 then
  (f_L_law_b45 sL xs μ x2 x4 x5 (1 : Int32))
  else
  (f_L_law_b45 sL xs μ x2 x4 x5 (0 : Int32))))))))
set_option maxHeartbeats 4000000 in
set_option maxRecDepth 100000 in
theorem z_L_law {X : me_X} {B : me_B} {ret0 : Option FieldType} {NR SR : Nat}  {nc ns : Nat} {μ : me_M}  {r : me_M × Int32} (C : me_C X B RL cL_law 23 ret0) (hroom : me_Rm X 12 462 618549 7246051) (hB : me_St B) (hz : ∀ k, 36 ≤ k → B.2.1 k = 0) (hR : ∀ (nc ns : Nat), nc ≤ NR → ns ≤ SR → me_Z X B nc ns r.1 1316 [] [me_i r.2]) (hNR : NR ≤ 618549 ∧ SR ≤ 7246051)  (hbR : (nc + 6492 ≤ NR ∧ ns + 39040 ≤ SR)) (hf : f_L_law B.2.2.2.1 B.2.2.2.2 μ = some r) : me_Z X B nc ns μ 8 [(0, .inl (.ref (B.1 202 0))), (1, me_r 0 0)] [] := by
  unfold f_L_law at hf
  refine me_iconst C (v := 2) dL_law_8 (by decide) ?_
  refine me_aload_n C 0 (Or.inr (Or.inr ⟨_, rfl⟩)) dL_law_9 rfl rfl ?_
  refine me_iconst C (v := 0) dL_law_10 (by decide) ?_
  refine me_iconst C (v := 3) dL_law_11 (by decide) ?_
  obtain ⟨r1, h_r1, hf⟩ := me_bs hf
  refine me_callSR C hroom (As := [.inl (.ref (B.1 202 0)), me_i (0 : Int32), me_i (3 : Int32)]) (st := [me_i (2 : Int32)]) nc ns (c_L_inB rfl hB h_r1) ms_L_in ml_L_95 dL_law_12 rfl rfl ⟨by decide, by decide⟩ ⟨by omega, by omega, by omega, by omega⟩ (Nat.le_of_ble_eq_true rfl) ?_
  refine me_iadd C dL_law_15 ?_
  obtain ⟨x2, e_x2, hf⟩ := me_lts hf
  refine me_nm e_x2 ?_
  refine me_istore_n C 2 dL_law_16 rfl (by decide) (L' := [(2, me_i x2), (0, .inl (.ref (B.1 202 0))), (1, me_r 0 0)]) rfl ?_
  refine me_iconst C (v := 1) dL_law_17 (by decide) ?_
  refine me_aload_n C 0 (Or.inr (Or.inr ⟨_, rfl⟩)) dL_law_18 rfl rfl ?_
  refine me_iconst C (v := 1) dL_law_19 (by decide) ?_
  refine me_iconst C (v := 4) dL_law_20 (by decide) ?_
  obtain ⟨r3, h_r3, hf⟩ := me_bs hf
  refine me_callSR C hroom (As := [.inl (.ref (B.1 202 0)), me_i (1 : Int32), me_i (4 : Int32)]) (st := [me_i (1 : Int32)]) nc ns (c_L_inB rfl hB h_r3) ms_L_in ml_L_95 dL_law_21 rfl rfl ⟨by decide, by decide⟩ ⟨by omega, by omega, by omega, by omega⟩ (Nat.le_of_ble_eq_true rfl) ?_
  refine me_iadd C dL_law_24 ?_
  obtain ⟨x4, e_x4, hf⟩ := me_lts hf
  refine me_nm e_x4 ?_
  refine me_istore_n C 3 dL_law_25 rfl (by decide) (L' := [(3, me_i x4), (2, me_i x2), (0, .inl (.ref (B.1 202 0))), (1, me_r 0 0)]) rfl ?_
  refine me_iload_n C 2 dL_law_26 rfl rfl ?_
  refine me_iload_n C 3 dL_law_27 rfl rfl ?_
  refine me_imul C dL_law_28 ?_
  obtain ⟨x5, e_x5, hf⟩ := me_lts hf
  refine me_nm e_x5 ?_
  refine me_istore C dL_law_29 (by decide) (L' := [(4, me_i x5), (3, me_i x4), (2, me_i x2), (0, .inl (.ref (B.1 202 0))), (1, me_r 0 0)]) rfl ?_
  refine me_aload_n C 0 (Or.inr (Or.inr ⟨_, rfl⟩)) dL_law_31 rfl rfl ?_
  refine me_iconst C (v := 2) dL_law_32 (by decide) ?_
  refine me_iconst C (v := 2) dL_law_33 (by decide) ?_
  obtain ⟨r6, h_r6, hf⟩ := me_bs hf
  refine me_callSR C hroom (As := [.inl (.ref (B.1 202 0)), me_i (2 : Int32), me_i (2 : Int32)]) (st := []) nc ns (c_L_inB rfl hB h_r6) ms_L_in ml_L_95 dL_law_34 rfl rfl ⟨by decide, by decide⟩ ⟨by omega, by omega, by omega, by omega⟩ (Nat.le_of_ble_eq_true rfl) ?_
  refine me_if_ne C (tgt := 44) dL_law_37 (by decide) (fun c7 => ?_) (fun c7 => ?_)
  · replace hf := me_in c7 hf
    refine me_iconst C (v := 0) dL_law_44 (by decide) ?_
    refine me_dropI [(0, .inl (.ref (B.1 202 0))), (1, me_r 0 0), (2, me_i x2), (3, me_i x4), (4, me_i x5)] [3, 4, 2, 1, 0] rfl ?_
    exact z_L_law_b45 C hroom hB hz hR hNR (nc := nc) (ns := ns) ⟨by omega, by omega⟩ hf
  · replace hf := me_ip c7 hf
    refine me_iconst C (v := 1) dL_law_40 (by decide) ?_
    refine me_goto C (tgt := 45) dL_law_41 (by decide) ?_
    refine me_dropI [(0, .inl (.ref (B.1 202 0))), (1, me_r 0 0), (2, me_i x2), (3, me_i x4), (4, me_i x5)] [3, 4, 2, 1, 0] rfl ?_
    exact z_L_law_b45 C hroom hB hz hR hNR (nc := nc) (ns := ns) ⟨by omega, by omega⟩ hf
