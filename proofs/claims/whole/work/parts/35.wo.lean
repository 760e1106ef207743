/-! WALKS: M_puts, M_fails, M_has, M_pop, M_push, M_takes, M_sends, M_does -/
theorem dX12_puts_0 : decode cX12_puts 0 = .ok (.iconst (-1), 1) := by decide +kernel
theorem dX12_puts_1 : decode cX12_puts 1 = .ok (.istore_n 3, 1) := by decide +kernel
theorem dX12_puts_2 : decode cX12_puts 2 = .ok (.aload_n 0, 1) := by decide +kernel
theorem dX12_puts_3 : decode cX12_puts 3 = .ok (.getfield 152, 3) := by decide +kernel
theorem dX12_puts_6 : decode cX12_puts 6 = .ok (.iconst 1, 1) := by decide +kernel
theorem dX12_puts_7 : decode cX12_puts 7 = .ok (.isub, 1) := by decide +kernel
theorem dX12_puts_8 : decode cX12_puts 8 = .ok (.istore 4, 2) := by decide +kernel
theorem dX12_puts_10 : decode cX12_puts 10 = .ok (.iload 4, 2) := by decide +kernel
theorem dX12_puts_12 : decode cX12_puts 12 = .ok (.ifCond .lt 89, 3) := by decide +kernel
theorem dX12_puts_15 : decode cX12_puts 15 = .ok (.aload_n 0, 1) := by decide +kernel
theorem dX12_puts_16 : decode cX12_puts 16 = .ok (.getfield 30, 3) := by decide +kernel
theorem dX12_puts_19 : decode cX12_puts 19 = .ok (.iload 4, 2) := by decide +kernel
theorem dX12_puts_21 : decode cX12_puts 21 = .ok (.iaload, 1) := by decide +kernel
theorem dX12_puts_22 : decode cX12_puts 22 = .ok (.iload_n 1, 1) := by decide +kernel
theorem dX12_puts_23 : decode cX12_puts 23 = .ok (.if_icmp .ne 57, 3) := by decide +kernel
theorem dX12_puts_26 : decode cX12_puts 26 = .ok (.aload_n 0, 1) := by decide +kernel
theorem dX12_puts_27 : decode cX12_puts 27 = .ok (.getfield 23, 3) := by decide +kernel
theorem dX12_puts_30 : decode cX12_puts 30 = .ok (.iload 4, 2) := by decide +kernel
theorem dX12_puts_32 : decode cX12_puts 32 = .ok (.caload, 1) := by decide +kernel
theorem dX12_puts_33 : decode cX12_puts 33 = .ok (.bipush 97, 2) := by decide +kernel
theorem dX12_puts_35 : decode cX12_puts 35 = .ok (.if_icmp .ne 7, 3) := by decide +kernel
theorem dX12_puts_38 : decode cX12_puts 38 = .ok (.iconst 1, 1) := by decide +kernel
theorem dX12_puts_39 : decode cX12_puts 39 = .ok (.goto 4, 3) := by decide +kernel
theorem dX12_puts_42 : decode cX12_puts 42 = .ok (.iconst 0, 1) := by decide +kernel
theorem dX12_puts_43 : decode cX12_puts 43 = .ok (.iload_n 2, 1) := by decide +kernel
theorem dX12_puts_44 : decode cX12_puts 44 = .ok (.if_icmp .ne 36, 3) := by decide +kernel
theorem dX12_puts_47 : decode cX12_puts 47 = .ok (.aload_n 0, 1) := by decide +kernel
theorem dX12_puts_48 : decode cX12_puts 48 = .ok (.getfield 27, 3) := by decide +kernel
theorem dX12_puts_51 : decode cX12_puts 51 = .ok (.iload 4, 2) := by decide +kernel
theorem dX12_puts_53 : decode cX12_puts 53 = .ok (.caload, 1) := by decide +kernel
theorem dX12_puts_54 : decode cX12_puts 54 = .ok (.bipush 108, 2) := by decide +kernel
theorem dX12_puts_56 : decode cX12_puts 56 = .ok (.if_icmp .eq 24, 3) := by decide +kernel
theorem dX12_puts_59 : decode cX12_puts 59 = .ok (.aload_n 0, 1) := by decide +kernel
theorem dX12_puts_60 : decode cX12_puts 60 = .ok (.getfield 43, 3) := by decide +kernel
theorem dX12_puts_63 : decode cX12_puts 63 = .ok (.iload 4, 2) := by decide +kernel
theorem dX12_puts_65 : decode cX12_puts 65 = .ok (.iaload, 1) := by decide +kernel
theorem dX12_puts_66 : decode cX12_puts 66 = .ok (.aload_n 0, 1) := by decide +kernel
theorem dX12_puts_67 : decode cX12_puts 67 = .ok (.getfield 40, 3) := by decide +kernel
theorem dX12_puts_70 : decode cX12_puts 70 = .ok (.iload 4, 2) := by decide +kernel
theorem dX12_puts_72 : decode cX12_puts 72 = .ok (.iaload, 1) := by decide +kernel
theorem dX12_puts_73 : decode cX12_puts 73 = .ok (.if_icmp .gt 7, 3) := by decide +kernel
theorem dX12_puts_76 : decode cX12_puts 76 = .ok (.iconst 1, 1) := by decide +kernel
theorem dX12_puts_77 : decode cX12_puts 77 = .ok (.goto 4, 3) := by decide +kernel
theorem dX12_puts_80 : decode cX12_puts 80 = .ok (.iconst 0, 1) := by decide +kernel
theorem dX12_puts_81 : decode cX12_puts 81 = .ok (.istore 5, 2) := by decide +kernel
theorem dX12_puts_83 : decode cX12_puts 83 = .ok (.iload 5, 2) := by decide +kernel
theorem dX12_puts_85 : decode cX12_puts 85 = .ok (.ifCond .eq 8, 3) := by decide +kernel
theorem dX12_puts_88 : decode cX12_puts 88 = .ok (.iload 4, 2) := by decide +kernel
theorem dX12_puts_90 : decode cX12_puts 90 = .ok (.goto 4, 3) := by decide +kernel
theorem dX12_puts_93 : decode cX12_puts 93 = .ok (.iload_n 3, 1) := by decide +kernel
theorem dX12_puts_94 : decode cX12_puts 94 = .ok (.istore_n 3, 1) := by decide +kernel
theorem dX12_puts_95 : decode cX12_puts 95 = .ok (.iinc 4 (-1), 3) := by decide +kernel
theorem dX12_puts_98 : decode cX12_puts 98 = .ok (.goto (-88), 3) := by decide +kernel
theorem dX12_puts_101 : decode cX12_puts 101 = .ok (.iload_n 3, 1) := by decide +kernel
theorem dX12_puts_102 : decode cX12_puts 102 = .ok (.iconst (-1), 1) := by decide +kernel
theorem dX12_puts_103 : decode cX12_puts 103 = .ok (.if_icmp .ne 4, 3) := by decide +kernel
theorem dX12_puts_106 : decode cX12_puts 106 = .ok (.return_, 1) := by decide +kernel
theorem dX12_puts_107 : decode cX12_puts 107 = .ok (.aload_n 0, 1) := by decide +kernel
theorem dX12_puts_108 : decode cX12_puts 108 = .ok (.getfield 95, 3) := by decide +kernel
theorem dX12_puts_111 : decode cX12_puts 111 = .ok (.iload_n 1, 1) := by decide +kernel
theorem dX12_puts_112 : decode cX12_puts 112 = .ok (.baload, 1) := by decide +kernel
theorem dX12_puts_113 : decode cX12_puts 113 = .ok (.ifCond .eq 13, 3) := by decide +kernel
theorem dX12_puts_116 : decode cX12_puts 116 = .ok (.aload_n 0, 1) := by decide +kernel
theorem dX12_puts_117 : decode cX12_puts 117 = .ok (.getfield 98, 3) := by decide +kernel
theorem dX12_puts_120 : decode cX12_puts 120 = .ok (.iload_n 1, 1) := by decide +kernel
theorem dX12_puts_121 : decode cX12_puts 121 = .ok (.iconst 1, 1) := by decide +kernel
theorem dX12_puts_122 : decode cX12_puts 122 = .ok (.bastore, 1) := by decide +kernel
theorem dX12_puts_123 : decode cX12_puts 123 = .ok (.goto 56, 3) := by decide +kernel
theorem dX12_puts_126 : decode cX12_puts 126 = .ok (.aload_n 0, 1) := by decide +kernel
theorem dX12_puts_127 : decode cX12_puts 127 = .ok (.getfield 75, 3) := by decide +kernel
theorem dX12_puts_130 : decode cX12_puts 130 = .ok (.iload_n 1, 1) := by decide +kernel
theorem dX12_puts_131 : decode cX12_puts 131 = .ok (.aaload, 1) := by decide +kernel
theorem dX12_puts_132 : decode cX12_puts 132 = .ok (.iload_n 2, 1) := by decide +kernel
theorem dX12_puts_133 : decode cX12_puts 133 = .ok (.aaload, 1) := by decide +kernel
theorem dX12_puts_134 : decode cX12_puts 134 = .ok (.iconst 4, 1) := by decide +kernel
theorem dX12_puts_135 : decode cX12_puts 135 = .ok (.iaload, 1) := by decide +kernel
theorem dX12_puts_136 : decode cX12_puts 136 = .ok (.aload_n 0, 1) := by decide +kernel
theorem dX12_puts_137 : decode cX12_puts 137 = .ok (.getfield 16, 3) := by decide +kernel
theorem dX12_puts_140 : decode cX12_puts 140 = .ok (.if_icmp .ge 39, 3) := by decide +kernel
theorem dX12_puts_143 : decode cX12_puts 143 = .ok (.aload_n 0, 1) := by decide +kernel
theorem dX12_puts_144 : decode cX12_puts 144 = .ok (.iload_n 1, 1) := by decide +kernel
theorem dX12_puts_145 : decode cX12_puts 145 = .ok (.iload_n 2, 1) := by decide +kernel
theorem dX12_puts_146 : decode cX12_puts 146 = .ok (.iconst 4, 1) := by decide +kernel
theorem dX12_puts_147 : decode cX12_puts 147 = .ok (.bipush 8, 2) := by decide +kernel
theorem dX12_puts_149 : decode cX12_puts 149 = .ok (.iload_n 3, 1) := by decide +kernel
theorem dX12_puts_150 : decode cX12_puts 150 = .ok (.imul, 1) := by decide +kernel
theorem dX12_puts_151 : decode cX12_puts 151 = .ok (.aload_n 0, 1) := by decide +kernel
theorem dX12_puts_152 : decode cX12_puts 152 = .ok (.getfield 43, 3) := by decide +kernel
theorem dX12_puts_155 : decode cX12_puts 155 = .ok (.iload_n 3, 1) := by decide +kernel
theorem dX12_puts_156 : decode cX12_puts 156 = .ok (.iaload, 1) := by decide +kernel
theorem dX12_puts_157 : decode cX12_puts 157 = .ok (.iadd, 1) := by decide +kernel
theorem dX12_puts_158 : decode cX12_puts 158 = .ok (.invokevirtual 233, 3) := by decide +kernel
theorem dX12_puts_161 : decode cX12_puts 161 = .ok (.aload_n 0, 1) := by decide +kernel
theorem dX12_puts_162 : decode cX12_puts 162 = .ok (.getfield 43, 3) := by decide +kernel
theorem dX12_puts_165 : decode cX12_puts 165 = .ok (.iload_n 3, 1) := by decide +kernel
theorem dX12_puts_166 : decode cX12_puts 166 = .ok (.dup2, 1) := by decide +kernel
theorem dX12_puts_167 : decode cX12_puts 167 = .ok (.iaload, 1) := by decide +kernel
theorem dX12_puts_168 : decode cX12_puts 168 = .ok (.iconst 1, 1) := by decide +kernel
theorem dX12_puts_169 : decode cX12_puts 169 = .ok (.iadd, 1) := by decide +kernel
theorem dX12_puts_170 : decode cX12_puts 170 = .ok (.iastore, 1) := by decide +kernel
theorem dX12_puts_171 : decode cX12_puts 171 = .ok (.aload_n 0, 1) := by decide +kernel
theorem dX12_puts_172 : decode cX12_puts 172 = .ok (.getfield 27, 3) := by decide +kernel
theorem dX12_puts_175 : decode cX12_puts 175 = .ok (.iload_n 3, 1) := by decide +kernel
theorem dX12_puts_176 : decode cX12_puts 176 = .ok (.bipush 119, 2) := by decide +kernel
theorem dX12_puts_178 : decode cX12_puts 178 = .ok (.castore, 1) := by decide +kernel
theorem dX12_puts_179 : decode cX12_puts 179 = .ok (.return_, 1) := by decide +kernel
theorem dX12_fails_0 : decode cX12_fails 0 = .ok (.aload_n 0, 1) := by decide +kernel
theorem dX12_fails_1 : decode cX12_fails 1 = .ok (.getfield 123, 3) := by decide +kernel
theorem dX12_fails_4 : decode cX12_fails 4 = .ok (.iload_n 1, 1) := by decide +kernel
theorem dX12_fails_5 : decode cX12_fails 5 = .ok (.bipush 120, 2) := by decide +kernel
theorem dX12_fails_7 : decode cX12_fails 7 = .ok (.castore, 1) := by decide +kernel
theorem dX12_fails_8 : decode cX12_fails 8 = .ok (.aload_n 0, 1) := by decide +kernel
theorem dX12_fails_9 : decode cX12_fails 9 = .ok (.getfield 126, 3) := by decide +kernel
theorem dX12_fails_12 : decode cX12_fails 12 = .ok (.iload_n 1, 1) := by decide +kernel
theorem dX12_fails_13 : decode cX12_fails 13 = .ok (.iload_n 2, 1) := by decide +kernel
theorem dX12_fails_14 : decode cX12_fails 14 = .ok (.castore, 1) := by decide +kernel
theorem dX12_fails_15 : decode cX12_fails 15 = .ok (.return_, 1) := by decide +kernel
theorem dX12_has_0 : decode cX12_has 0 = .ok (.aload_n 0, 1) := by decide +kernel
theorem dX12_has_1 : decode cX12_has 1 = .ok (.getfield 109, 3) := by decide +kernel
theorem dX12_has_4 : decode cX12_has 4 = .ok (.iload_n 1, 1) := by decide +kernel
theorem dX12_has_5 : decode cX12_has 5 = .ok (.iaload, 1) := by decide +kernel
theorem dX12_has_6 : decode cX12_has 6 = .ok (.iload_n 2, 1) := by decide +kernel
theorem dX12_has_7 : decode cX12_has 7 = .ok (.if_icmp .ge 10, 3) := by decide +kernel
theorem dX12_has_10 : decode cX12_has 10 = .ok (.aload_n 0, 1) := by decide +kernel
theorem dX12_has_11 : decode cX12_has 11 = .ok (.iload_n 1, 1) := by decide +kernel
theorem dX12_has_12 : decode cX12_has 12 = .ok (.bipush 117, 2) := by decide +kernel
theorem dX12_has_14 : decode cX12_has 14 = .ok (.invokevirtual 256, 3) := by decide +kernel
theorem dX12_has_17 : decode cX12_has 17 = .ok (.aload_n 0, 1) := by decide +kernel
theorem dX12_has_18 : decode cX12_has 18 = .ok (.getfield 109, 3) := by decide +kernel
theorem dX12_has_21 : decode cX12_has 21 = .ok (.iload_n 1, 1) := by decide +kernel
theorem dX12_has_22 : decode cX12_has 22 = .ok (.iaload, 1) := by decide +kernel
theorem dX12_has_23 : decode cX12_has 23 = .ok (.iload_n 2, 1) := by decide +kernel
theorem dX12_has_24 : decode cX12_has 24 = .ok (.if_icmp .lt 7, 3) := by decide +kernel
theorem dX12_has_27 : decode cX12_has 27 = .ok (.iconst 1, 1) := by decide +kernel
theorem dX12_has_28 : decode cX12_has 28 = .ok (.goto 4, 3) := by decide +kernel
theorem dX12_has_31 : decode cX12_has 31 = .ok (.iconst 0, 1) := by decide +kernel
theorem dX12_has_32 : decode cX12_has 32 = .ok (.ireturn, 1) := by decide +kernel
theorem dX12_pop_0 : decode cX12_pop 0 = .ok (.aload_n 0, 1) := by decide +kernel
theorem dX12_pop_1 : decode cX12_pop 1 = .ok (.getfield 109, 3) := by decide +kernel
theorem dX12_pop_4 : decode cX12_pop 4 = .ok (.iload_n 1, 1) := by decide +kernel
theorem dX12_pop_5 : decode cX12_pop 5 = .ok (.dup2, 1) := by decide +kernel
theorem dX12_pop_6 : decode cX12_pop 6 = .ok (.iaload, 1) := by decide +kernel
theorem dX12_pop_7 : decode cX12_pop 7 = .ok (.iconst 1, 1) := by decide +kernel
theorem dX12_pop_8 : decode cX12_pop 8 = .ok (.isub, 1) := by decide +kernel
theorem dX12_pop_9 : decode cX12_pop 9 = .ok (.iastore, 1) := by decide +kernel
theorem dX12_pop_10 : decode cX12_pop 10 = .ok (.aload_n 0, 1) := by decide +kernel
theorem dX12_pop_11 : decode cX12_pop 11 = .ok (.getfield 106, 3) := by decide +kernel
theorem dX12_pop_14 : decode cX12_pop 14 = .ok (.iload_n 1, 1) := by decide +kernel
theorem dX12_pop_15 : decode cX12_pop 15 = .ok (.aaload, 1) := by decide +kernel
theorem dX12_pop_16 : decode cX12_pop 16 = .ok (.aload_n 0, 1) := by decide +kernel
theorem dX12_pop_17 : decode cX12_pop 17 = .ok (.getfield 109, 3) := by decide +kernel
theorem dX12_pop_20 : decode cX12_pop 20 = .ok (.iload_n 1, 1) := by decide +kernel
theorem dX12_pop_21 : decode cX12_pop 21 = .ok (.iaload, 1) := by decide +kernel
theorem dX12_pop_22 : decode cX12_pop 22 = .ok (.iaload, 1) := by decide +kernel
theorem dX12_pop_23 : decode cX12_pop 23 = .ok (.ireturn, 1) := by decide +kernel
theorem dX12_push_0 : decode cX12_push 0 = .ok (.aload_n 0, 1) := by decide +kernel
theorem dX12_push_1 : decode cX12_push 1 = .ok (.getfield 109, 3) := by decide +kernel
theorem dX12_push_4 : decode cX12_push 4 = .ok (.iload_n 1, 1) := by decide +kernel
theorem dX12_push_5 : decode cX12_push 5 = .ok (.iaload, 1) := by decide +kernel
theorem dX12_push_6 : decode cX12_push 6 = .ok (.bipush 6, 2) := by decide +kernel
theorem dX12_push_8 : decode cX12_push 8 = .ok (.if_icmp .ne 11, 3) := by decide +kernel
theorem dX12_push_11 : decode cX12_push 11 = .ok (.aload_n 0, 1) := by decide +kernel
theorem dX12_push_12 : decode cX12_push 12 = .ok (.iload_n 1, 1) := by decide +kernel
theorem dX12_push_13 : decode cX12_push 13 = .ok (.bipush 111, 2) := by decide +kernel
theorem dX12_push_15 : decode cX12_push 15 = .ok (.invokevirtual 256, 3) := by decide +kernel
theorem dX12_push_18 : decode cX12_push 18 = .ok (.return_, 1) := by decide +kernel
theorem dX12_push_19 : decode cX12_push 19 = .ok (.aload_n 0, 1) := by decide +kernel
theorem dX12_push_20 : decode cX12_push 20 = .ok (.getfield 106, 3) := by decide +kernel
theorem dX12_push_23 : decode cX12_push 23 = .ok (.iload_n 1, 1) := by decide +kernel
theorem dX12_push_24 : decode cX12_push 24 = .ok (.aaload, 1) := by decide +kernel
theorem dX12_push_25 : decode cX12_push 25 = .ok (.aload_n 0, 1) := by decide +kernel
theorem dX12_push_26 : decode cX12_push 26 = .ok (.getfield 109, 3) := by decide +kernel
theorem dX12_push_29 : decode cX12_push 29 = .ok (.iload_n 1, 1) := by decide +kernel
theorem dX12_push_30 : decode cX12_push 30 = .ok (.iaload, 1) := by decide +kernel
theorem dX12_push_31 : decode cX12_push 31 = .ok (.iload_n 2, 1) := by decide +kernel
theorem dX12_push_32 : decode cX12_push 32 = .ok (.iastore, 1) := by decide +kernel
theorem dX12_push_33 : decode cX12_push 33 = .ok (.aload_n 0, 1) := by decide +kernel
theorem dX12_push_34 : decode cX12_push 34 = .ok (.getfield 109, 3) := by decide +kernel
theorem dX12_push_37 : decode cX12_push 37 = .ok (.iload_n 1, 1) := by decide +kernel
theorem dX12_push_38 : decode cX12_push 38 = .ok (.dup2, 1) := by decide +kernel
theorem dX12_push_39 : decode cX12_push 39 = .ok (.iaload, 1) := by decide +kernel
theorem dX12_push_40 : decode cX12_push 40 = .ok (.iconst 1, 1) := by decide +kernel
theorem dX12_push_41 : decode cX12_push 41 = .ok (.iadd, 1) := by decide +kernel
theorem dX12_push_42 : decode cX12_push 42 = .ok (.iastore, 1) := by decide +kernel
theorem dX12_push_43 : decode cX12_push 43 = .ok (.aload_n 0, 1) := by decide +kernel
theorem dX12_push_44 : decode cX12_push 44 = .ok (.getfield 129, 3) := by decide +kernel
theorem dX12_push_47 : decode cX12_push 47 = .ok (.iload_n 1, 1) := by decide +kernel
theorem dX12_push_48 : decode cX12_push 48 = .ok (.dup2, 1) := by decide +kernel
theorem dX12_push_49 : decode cX12_push 49 = .ok (.iaload, 1) := by decide +kernel
theorem dX12_push_50 : decode cX12_push 50 = .ok (.iconst 1, 1) := by decide +kernel
theorem dX12_push_51 : decode cX12_push 51 = .ok (.iadd, 1) := by decide +kernel
theorem dX12_push_52 : decode cX12_push 52 = .ok (.iastore, 1) := by decide +kernel
theorem dX12_push_53 : decode cX12_push 53 = .ok (.return_, 1) := by decide +kernel
theorem dX12_takes_0 : decode cX12_takes 0 = .ok (.aload_n 0, 1) := by decide +kernel
theorem dX12_takes_1 : decode cX12_takes 1 = .ok (.iload_n 1, 1) := by decide +kernel
theorem dX12_takes_2 : decode cX12_takes 2 = .ok (.iload_n 2, 1) := by decide +kernel
theorem dX12_takes_3 : decode cX12_takes 3 = .ok (.invokevirtual 195, 3) := by decide +kernel
theorem dX12_takes_6 : decode cX12_takes 6 = .ok (.istore_n 3, 1) := by decide +kernel
theorem dX12_takes_7 : decode cX12_takes 7 = .ok (.iload_n 3, 1) := by decide +kernel
theorem dX12_takes_8 : decode cX12_takes 8 = .ok (.iconst (-1), 1) := by decide +kernel
theorem dX12_takes_9 : decode cX12_takes 9 = .ok (.if_icmp .ne 12, 3) := by decide +kernel
theorem dX12_takes_12 : decode cX12_takes 12 = .ok (.aload_n 0, 1) := by decide +kernel
theorem dX12_takes_13 : decode cX12_takes 13 = .ok (.getfield 123, 3) := by decide +kernel
theorem dX12_takes_16 : decode cX12_takes 16 = .ok (.iload_n 1, 1) := by decide +kernel
theorem dX12_takes_17 : decode cX12_takes 17 = .ok (.bipush 119, 2) := by decide +kernel
theorem dX12_takes_19 : decode cX12_takes 19 = .ok (.castore, 1) := by decide +kernel
theorem dX12_takes_20 : decode cX12_takes 20 = .ok (.return_, 1) := by decide +kernel
theorem dX12_takes_21 : decode cX12_takes 21 = .ok (.aload_n 0, 1) := by decide +kernel
theorem dX12_takes_22 : decode cX12_takes 22 = .ok (.getfield 109, 3) := by decide +kernel
theorem dX12_takes_25 : decode cX12_takes 25 = .ok (.iload_n 1, 1) := by decide +kernel
theorem dX12_takes_26 : decode cX12_takes 26 = .ok (.iaload, 1) := by decide +kernel
theorem dX12_takes_27 : decode cX12_takes 27 = .ok (.bipush 6, 2) := by decide +kernel
theorem dX12_takes_29 : decode cX12_takes 29 = .ok (.if_icmp .ge 7, 3) := by decide +kernel
theorem dX12_takes_32 : decode cX12_takes 32 = .ok (.iconst 1, 1) := by decide +kernel
theorem dX12_takes_33 : decode cX12_takes 33 = .ok (.goto 4, 3) := by decide +kernel
theorem dX12_takes_36 : decode cX12_takes 36 = .ok (.iconst 0, 1) := by decide +kernel
theorem dX12_takes_37 : decode cX12_takes 37 = .ok (.istore 4, 2) := by decide +kernel
theorem dX12_takes_39 : decode cX12_takes 39 = .ok (.aload_n 0, 1) := by decide +kernel
theorem dX12_takes_40 : decode cX12_takes 40 = .ok (.iload_n 1, 1) := by decide +kernel
theorem dX12_takes_41 : decode cX12_takes 41 = .ok (.aload_n 0, 1) := by decide +kernel
theorem dX12_takes_42 : decode cX12_takes 42 = .ok (.getfield 37, 3) := by decide +kernel
theorem dX12_takes_45 : decode cX12_takes 45 = .ok (.iload_n 3, 1) := by decide +kernel
theorem dX12_takes_46 : decode cX12_takes 46 = .ok (.iaload, 1) := by decide +kernel
theorem dX12_takes_47 : decode cX12_takes 47 = .ok (.invokevirtual 260, 3) := by decide +kernel
theorem dX12_takes_50 : decode cX12_takes 50 = .ok (.aload_n 0, 1) := by decide +kernel
theorem dX12_takes_51 : decode cX12_takes 51 = .ok (.getfield 27, 3) := by decide +kernel
theorem dX12_takes_54 : decode cX12_takes 54 = .ok (.iload_n 3, 1) := by decide +kernel
theorem dX12_takes_55 : decode cX12_takes 55 = .ok (.iload 4, 2) := by decide +kernel
theorem dX12_takes_57 : decode cX12_takes 57 = .ok (.ifCond .eq 8, 3) := by decide +kernel
theorem dX12_takes_60 : decode cX12_takes 60 = .ok (.bipush 114, 2) := by decide +kernel
theorem dX12_takes_62 : decode cX12_takes 62 = .ok (.goto 9, 3) := by decide +kernel
theorem dX12_takes_65 : decode cX12_takes 65 = .ok (.aload_n 0, 1) := by decide +kernel
theorem dX12_takes_66 : decode cX12_takes 66 = .ok (.getfield 27, 3) := by decide +kernel
theorem dX12_takes_69 : decode cX12_takes 69 = .ok (.iload_n 3, 1) := by decide +kernel
theorem dX12_takes_70 : decode cX12_takes 70 = .ok (.caload, 1) := by decide +kernel
theorem dX12_takes_71 : decode cX12_takes 71 = .ok (.castore, 1) := by decide +kernel
theorem dX12_takes_72 : decode cX12_takes 72 = .ok (.return_, 1) := by decide +kernel
theorem dX12_sends_0 : decode cX12_sends 0 = .ok (.aload_n 0, 1) := by decide +kernel
theorem dX12_sends_1 : decode cX12_sends 1 = .ok (.iload_n 1, 1) := by decide +kernel
theorem dX12_sends_2 : decode cX12_sends 2 = .ok (.iconst 1, 1) := by decide +kernel
theorem dX12_sends_3 : decode cX12_sends 3 = .ok (.invokevirtual 263, 3) := by decide +kernel
theorem dX12_sends_6 : decode cX12_sends 6 = .ok (.ifCond .ne 4, 3) := by decide +kernel
theorem dX12_sends_9 : decode cX12_sends 9 = .ok (.return_, 1) := by decide +kernel
theorem dX12_sends_10 : decode cX12_sends 10 = .ok (.aload_n 0, 1) := by decide +kernel
theorem dX12_sends_11 : decode cX12_sends 11 = .ok (.invokevirtual 169, 3) := by decide +kernel
theorem dX12_sends_14 : decode cX12_sends 14 = .ok (.iconst 1, 1) := by decide +kernel
theorem dX12_sends_15 : decode cX12_sends 15 = .ok (.if_icmp .ge 11, 3) := by decide +kernel
theorem dX12_sends_18 : decode cX12_sends 18 = .ok (.aload_n 0, 1) := by decide +kernel
theorem dX12_sends_19 : decode cX12_sends 19 = .ok (.iload_n 1, 1) := by decide +kernel
theorem dX12_sends_20 : decode cX12_sends 20 = .ok (.bipush 112, 2) := by decide +kernel
theorem dX12_sends_22 : decode cX12_sends 22 = .ok (.invokevirtual 256, 3) := by decide +kernel
theorem dX12_sends_25 : decode cX12_sends 25 = .ok (.return_, 1) := by decide +kernel
theorem dX12_sends_26 : decode cX12_sends 26 = .ok (.aload_n 0, 1) := by decide +kernel
theorem dX12_sends_27 : decode cX12_sends 27 = .ok (.bipush 109, 2) := by decide +kernel
theorem dX12_sends_29 : decode cX12_sends 29 = .ok (.iload_n 1, 1) := by decide +kernel
theorem dX12_sends_30 : decode cX12_sends 30 = .ok (.iload_n 2, 1) := by decide +kernel
theorem dX12_sends_31 : decode cX12_sends 31 = .ok (.aload_n 0, 1) := by decide +kernel
theorem dX12_sends_32 : decode cX12_sends 32 = .ok (.iload_n 1, 1) := by decide +kernel
theorem dX12_sends_33 : decode cX12_sends 33 = .ok (.invokevirtual 267, 3) := by decide +kernel
theorem dX12_sends_36 : decode cX12_sends 36 = .ok (.iconst 1, 1) := by decide +kernel
theorem dX12_sends_37 : decode cX12_sends 37 = .ok (.invokevirtual 172, 3) := by decide +kernel
theorem dX12_sends_40 : decode cX12_sends 40 = .ok (.istore_n 3, 1) := by decide +kernel
theorem dX12_sends_41 : decode cX12_sends 41 = .ok (.aload_n 0, 1) := by decide +kernel
theorem dX12_sends_42 : decode cX12_sends 42 = .ok (.getfield 129, 3) := by decide +kernel
theorem dX12_sends_45 : decode cX12_sends 45 = .ok (.iload_n 1, 1) := by decide +kernel
theorem dX12_sends_46 : decode cX12_sends 46 = .ok (.dup2, 1) := by decide +kernel
theorem dX12_sends_47 : decode cX12_sends 47 = .ok (.iaload, 1) := by decide +kernel
theorem dX12_sends_48 : decode cX12_sends 48 = .ok (.iconst 1, 1) := by decide +kernel
theorem dX12_sends_49 : decode cX12_sends 49 = .ok (.iadd, 1) := by decide +kernel
theorem dX12_sends_50 : decode cX12_sends 50 = .ok (.iastore, 1) := by decide +kernel
theorem dX12_sends_51 : decode cX12_sends 51 = .ok (.return_, 1) := by decide +kernel
theorem dX12_does_0 : decode cX12_does 0 = .ok (.aload_n 0, 1) := by decide +kernel
theorem dX12_does_1 : decode cX12_does 1 = .ok (.getfield 129, 3) := by decide +kernel
theorem dX12_does_4 : decode cX12_does 4 = .ok (.iload_n 1, 1) := by decide +kernel
theorem dX12_does_5 : decode cX12_does 5 = .ok (.iaload, 1) := by decide +kernel
theorem dX12_does_6 : decode cX12_does 6 = .ok (.istore_n 2, 1) := by decide +kernel
theorem dX12_does_7 : decode cX12_does 7 = .ok (.iload_n 2, 1) := by decide +kernel
theorem dX12_does_8 : decode cX12_does 8 = .ok (.aload_n 0, 1) := by decide +kernel
theorem dX12_does_9 : decode cX12_does 9 = .ok (.getfield 120, 3) := by decide +kernel
theorem dX12_does_12 : decode cX12_does 12 = .ok (.iload_n 1, 1) := by decide +kernel
theorem dX12_does_13 : decode cX12_does 13 = .ok (.iaload, 1) := by decide +kernel
theorem dX12_does_14 : decode cX12_does 14 = .ok (.if_icmp .lt 11, 3) := by decide +kernel
theorem dX12_does_17 : decode cX12_does 17 = .ok (.aload_n 0, 1) := by decide +kernel
theorem dX12_does_18 : decode cX12_does 18 = .ok (.iload_n 1, 1) := by decide +kernel
theorem dX12_does_19 : decode cX12_does 19 = .ok (.bipush 106, 2) := by decide +kernel
theorem dX12_does_21 : decode cX12_does 21 = .ok (.invokevirtual 256, 3) := by decide +kernel
theorem dX12_does_24 : decode cX12_does 24 = .ok (.return_, 1) := by decide +kernel
theorem dX12_does_25 : decode cX12_does 25 = .ok (.aload_n 0, 1) := by decide +kernel
theorem dX12_does_26 : decode cX12_does 26 = .ok (.getfield 114, 3) := by decide +kernel
theorem dX12_does_29 : decode cX12_does 29 = .ok (.iload_n 1, 1) := by decide +kernel
theorem dX12_does_30 : decode cX12_does 30 = .ok (.aaload, 1) := by decide +kernel
theorem dX12_does_31 : decode cX12_does 31 = .ok (.iload_n 2, 1) := by decide +kernel
theorem dX12_does_32 : decode cX12_does 32 = .ok (.caload, 1) := by decide +kernel
theorem dX12_does_33 : decode cX12_does 33 = .ok (.istore_n 3, 1) := by decide +kernel
theorem dX12_does_34 : decode cX12_does 34 = .ok (.aload_n 0, 1) := by decide +kernel
theorem dX12_does_35 : decode cX12_does 35 = .ok (.getfield 117, 3) := by decide +kernel
theorem dX12_does_38 : decode cX12_does 38 = .ok (.iload_n 1, 1) := by decide +kernel
theorem dX12_does_39 : decode cX12_does 39 = .ok (.aaload, 1) := by decide +kernel
theorem dX12_does_40 : decode cX12_does 40 = .ok (.iload_n 2, 1) := by decide +kernel
theorem dX12_does_41 : decode cX12_does 41 = .ok (.iaload, 1) := by decide +kernel
theorem dX12_does_42 : decode cX12_does 42 = .ok (.istore 4, 2) := by decide +kernel
theorem dX12_does_44 : decode cX12_does 44 = .ok (.aload_n 0, 1) := by decide +kernel
theorem dX12_does_45 : decode cX12_does 45 = .ok (.getfield 123, 3) := by decide +kernel
theorem dX12_does_48 : decode cX12_does 48 = .ok (.iload_n 1, 1) := by decide +kernel
theorem dX12_does_49 : decode cX12_does 49 = .ok (.bipush 114, 2) := by decide +kernel
theorem dX12_does_51 : decode cX12_does 51 = .ok (.castore, 1) := by decide +kernel
theorem dX12_does_52 : decode cX12_does 52 = .ok (.iload_n 3, 1) := by decide +kernel
theorem dX12_does_53 : decode cX12_does 53 = .ok (.tableswitch 226 98 115 #[204, 226, 150, 226, 226, 226, 215, 226, 170, 226, 97, 226, 226, 226, 87, 226, 160, 114], 87) := by decide +kernel
theorem dX12_does_140 : decode cX12_does 140 = .ok (.aload_n 0, 1) := by decide +kernel
theorem dX12_does_141 : decode cX12_does 141 = .ok (.iload_n 1, 1) := by decide +kernel
theorem dX12_does_142 : decode cX12_does 142 = .ok (.iload 4, 2) := by decide +kernel
theorem dX12_does_144 : decode cX12_does 144 = .ok (.invokevirtual 260, 3) := by decide +kernel
theorem dX12_does_147 : decode cX12_does 147 = .ok (.goto 193, 3) := by decide +kernel
theorem dX12_does_150 : decode cX12_does 150 = .ok (.aload_n 0, 1) := by decide +kernel
theorem dX12_does_151 : decode cX12_does 151 = .ok (.iload_n 1, 1) := by decide +kernel
theorem dX12_does_152 : decode cX12_does 152 = .ok (.aload_n 0, 1) := by decide +kernel
theorem dX12_does_153 : decode cX12_does 153 = .ok (.getfield 103, 3) := by decide +kernel
theorem dX12_does_156 : decode cX12_does 156 = .ok (.iload_n 1, 1) := by decide +kernel
theorem dX12_does_157 : decode cX12_does 157 = .ok (.aaload, 1) := by decide +kernel
theorem dX12_does_158 : decode cX12_does 158 = .ok (.iload 4, 2) := by decide +kernel
theorem dX12_does_160 : decode cX12_does 160 = .ok (.iaload, 1) := by decide +kernel
theorem dX12_does_161 : decode cX12_does 161 = .ok (.invokevirtual 260, 3) := by decide +kernel
theorem dX12_does_164 : decode cX12_does 164 = .ok (.goto 176, 3) := by decide +kernel
theorem dX12_does_167 : decode cX12_does 167 = .ok (.aload_n 0, 1) := by decide +kernel
theorem dX12_does_168 : decode cX12_does 168 = .ok (.iload_n 1, 1) := by decide +kernel
theorem dX12_does_169 : decode cX12_does 169 = .ok (.iconst 1, 1) := by decide +kernel
theorem dX12_does_170 : decode cX12_does 170 = .ok (.invokevirtual 263, 3) := by decide +kernel
theorem dX12_does_173 : decode cX12_does 173 = .ok (.ifCond .eq 167, 3) := by decide +kernel
theorem dX12_does_176 : decode cX12_does 176 = .ok (.aload_n 0, 1) := by decide +kernel
theorem dX12_does_177 : decode cX12_does 177 = .ok (.getfield 103, 3) := by decide +kernel
theorem dX12_does_180 : decode cX12_does 180 = .ok (.iload_n 1, 1) := by decide +kernel
theorem dX12_does_181 : decode cX12_does 181 = .ok (.aaload, 1) := by decide +kernel
theorem dX12_does_182 : decode cX12_does 182 = .ok (.iload 4, 2) := by decide +kernel
theorem dX12_does_184 : decode cX12_does 184 = .ok (.aload_n 0, 1) := by decide +kernel
theorem dX12_does_185 : decode cX12_does 185 = .ok (.iload_n 1, 1) := by decide +kernel
theorem dX12_does_186 : decode cX12_does 186 = .ok (.invokevirtual 267, 3) := by decide +kernel
theorem dX12_does_189 : decode cX12_does 189 = .ok (.iastore, 1) := by decide +kernel
theorem dX12_does_190 : decode cX12_does 190 = .ok (.aload_n 0, 1) := by decide +kernel
theorem dX12_does_191 : decode cX12_does 191 = .ok (.getfield 129, 3) := by decide +kernel
theorem dX12_does_194 : decode cX12_does 194 = .ok (.iload_n 1, 1) := by decide +kernel
theorem dX12_does_195 : decode cX12_does 195 = .ok (.dup2, 1) := by decide +kernel
theorem dX12_does_196 : decode cX12_does 196 = .ok (.iaload, 1) := by decide +kernel
theorem dX12_does_197 : decode cX12_does 197 = .ok (.iconst 1, 1) := by decide +kernel
theorem dX12_does_198 : decode cX12_does 198 = .ok (.iadd, 1) := by decide +kernel
theorem dX12_does_199 : decode cX12_does 199 = .ok (.iastore, 1) := by decide +kernel
theorem dX12_does_200 : decode cX12_does 200 = .ok (.goto 140, 3) := by decide +kernel
theorem dX12_does_203 : decode cX12_does 203 = .ok (.aload_n 0, 1) := by decide +kernel
theorem dX12_does_204 : decode cX12_does 204 = .ok (.iload_n 1, 1) := by decide +kernel
theorem dX12_does_205 : decode cX12_does 205 = .ok (.iload 4, 2) := by decide +kernel
theorem dX12_does_207 : decode cX12_does 207 = .ok (.invokevirtual 270, 3) := by decide +kernel
theorem dX12_does_210 : decode cX12_does 210 = .ok (.goto 130, 3) := by decide +kernel
theorem dX12_does_213 : decode cX12_does 213 = .ok (.aload_n 0, 1) := by decide +kernel
theorem dX12_does_214 : decode cX12_does 214 = .ok (.iload_n 1, 1) := by decide +kernel
theorem dX12_does_215 : decode cX12_does 215 = .ok (.iload 4, 2) := by decide +kernel
theorem dX12_does_217 : decode cX12_does 217 = .ok (.invokevirtual 273, 3) := by decide +kernel
theorem dX12_does_220 : decode cX12_does 220 = .ok (.goto 120, 3) := by decide +kernel
theorem dX12_does_223 : decode cX12_does 223 = .ok (.aload_n 0, 1) := by decide +kernel
theorem dX12_does_224 : decode cX12_does 224 = .ok (.iload_n 1, 1) := by decide +kernel
theorem dX12_does_225 : decode cX12_does 225 = .ok (.iconst 1, 1) := by decide +kernel
theorem dX12_does_226 : decode cX12_does 226 = .ok (.invokevirtual 263, 3) := by decide +kernel
theorem dX12_does_229 : decode cX12_does 229 = .ok (.ifCond .eq 111, 3) := by decide +kernel
theorem dX12_does_232 : decode cX12_does 232 = .ok (.aload_n 0, 1) := by decide +kernel
theorem dX12_does_233 : decode cX12_does 233 = .ok (.getfield 129, 3) := by decide +kernel
theorem dX12_does_236 : decode cX12_does 236 = .ok (.iload_n 1, 1) := by decide +kernel
theorem dX12_does_237 : decode cX12_does 237 = .ok (.aload_n 0, 1) := by decide +kernel
theorem dX12_does_238 : decode cX12_does 238 = .ok (.iload_n 1, 1) := by decide +kernel
theorem dX12_does_239 : decode cX12_does 239 = .ok (.invokevirtual 267, 3) := by decide +kernel
theorem dX12_does_242 : decode cX12_does 242 = .ok (.ifCond .eq 8, 3) := by decide +kernel
theorem dX12_does_245 : decode cX12_does 245 = .ok (.iload 4, 2) := by decide +kernel
theorem dX12_does_247 : decode cX12_does 247 = .ok (.goto 6, 3) := by decide +kernel
theorem dX12_does_250 : decode cX12_does 250 = .ok (.iload_n 2, 1) := by decide +kernel
theorem dX12_does_251 : decode cX12_does 251 = .ok (.iconst 1, 1) := by decide +kernel
theorem dX12_does_252 : decode cX12_does 252 = .ok (.iadd, 1) := by decide +kernel
theorem dX12_does_253 : decode cX12_does 253 = .ok (.iastore, 1) := by decide +kernel
theorem dX12_does_254 : decode cX12_does 254 = .ok (.goto 86, 3) := by decide +kernel
theorem dX12_does_257 : decode cX12_does 257 = .ok (.aload_n 0, 1) := by decide +kernel
theorem dX12_does_258 : decode cX12_does 258 = .ok (.getfield 123, 3) := by decide +kernel
theorem dX12_does_261 : decode cX12_does 261 = .ok (.iload_n 1, 1) := by decide +kernel
theorem dX12_does_262 : decode cX12_does 262 = .ok (.bipush 98, 2) := by decide +kernel
theorem dX12_does_264 : decode cX12_does 264 = .ok (.castore, 1) := by decide +kernel
theorem dX12_does_265 : decode cX12_does 265 = .ok (.goto 75, 3) := by decide +kernel
theorem dX12_does_268 : decode cX12_does 268 = .ok (.aload_n 0, 1) := by decide +kernel
theorem dX12_does_269 : decode cX12_does 269 = .ok (.getfield 123, 3) := by decide +kernel
theorem dX12_does_272 : decode cX12_does 272 = .ok (.iload_n 1, 1) := by decide +kernel
theorem dX12_does_273 : decode cX12_does 273 = .ok (.bipush 104, 2) := by decide +kernel
theorem dX12_does_275 : decode cX12_does 275 = .ok (.castore, 1) := by decide +kernel
theorem dX12_does_276 : decode cX12_does 276 = .ok (.goto 64, 3) := by decide +kernel
theorem dX12_does_279 : decode cX12_does 279 = .ok (.aload_n 0, 1) := by decide +kernel
theorem dX12_does_280 : decode cX12_does 280 = .ok (.iload_n 1, 1) := by decide +kernel
theorem dX12_does_281 : decode cX12_does 281 = .ok (.iconst 2, 1) := by decide +kernel
theorem dX12_does_282 : decode cX12_does 282 = .ok (.invokevirtual 263, 3) := by decide +kernel
theorem dX12_does_285 : decode cX12_does 285 = .ok (.ifCond .eq 55, 3) := by decide +kernel
theorem dX12_does_288 : decode cX12_does 288 = .ok (.aload_n 0, 1) := by decide +kernel
theorem dX12_does_289 : decode cX12_does 289 = .ok (.iload_n 1, 1) := by decide +kernel
theorem dX12_does_290 : decode cX12_does 290 = .ok (.invokevirtual 267, 3) := by decide +kernel
theorem dX12_does_293 : decode cX12_does 293 = .ok (.istore 5, 2) := by decide +kernel
theorem dX12_does_295 : decode cX12_does 295 = .ok (.aload_n 0, 1) := by decide +kernel
theorem dX12_does_296 : decode cX12_does 296 = .ok (.iload_n 1, 1) := by decide +kernel
theorem dX12_does_297 : decode cX12_does 297 = .ok (.invokevirtual 267, 3) := by decide +kernel
theorem dX12_does_300 : decode cX12_does 300 = .ok (.istore 6, 2) := by decide +kernel
theorem dX12_does_302 : decode cX12_does 302 = .ok (.aload_n 0, 1) := by decide +kernel
theorem dX12_does_303 : decode cX12_does 303 = .ok (.iload_n 1, 1) := by decide +kernel
theorem dX12_does_304 : decode cX12_does 304 = .ok (.iload_n 3, 1) := by decide +kernel
theorem dX12_does_305 : decode cX12_does 305 = .ok (.bipush 43, 2) := by decide +kernel
theorem dX12_does_307 : decode cX12_does 307 = .ok (.if_icmp .ne 11, 3) := by decide +kernel
theorem dX12_does_310 : decode cX12_does 310 = .ok (.iload 6, 2) := by decide +kernel
theorem dX12_does_312 : decode cX12_does 312 = .ok (.iload 5, 2) := by decide +kernel
theorem dX12_does_314 : decode cX12_does 314 = .ok (.iadd, 1) := by decide +kernel
theorem dX12_does_315 : decode cX12_does 315 = .ok (.goto 22, 3) := by decide +kernel
theorem dX12_does_318 : decode cX12_does 318 = .ok (.iload_n 3, 1) := by decide +kernel
theorem dX12_does_319 : decode cX12_does 319 = .ok (.bipush 45, 2) := by decide +kernel
theorem dX12_does_321 : decode cX12_does 321 = .ok (.if_icmp .ne 11, 3) := by decide +kernel
theorem dX12_does_324 : decode cX12_does 324 = .ok (.iload 6, 2) := by decide +kernel
theorem dX12_does_326 : decode cX12_does 326 = .ok (.iload 5, 2) := by decide +kernel
theorem dX12_does_328 : decode cX12_does 328 = .ok (.isub, 1) := by decide +kernel
theorem dX12_does_329 : decode cX12_does 329 = .ok (.goto 8, 3) := by decide +kernel
theorem dX12_does_332 : decode cX12_does 332 = .ok (.iload 6, 2) := by decide +kernel
theorem dX12_does_334 : decode cX12_does 334 = .ok (.iload 5, 2) := by decide +kernel
theorem dX12_does_336 : decode cX12_does 336 = .ok (.imul, 1) := by decide +kernel
theorem dX12_does_337 : decode cX12_does 337 = .ok (.invokevirtual 260, 3) := by decide +kernel
theorem dX12_does_340 : decode cX12_does 340 = .ok (.return_, 1) := by decide +kernel
def f_M_puts_b81 (K10 : me_M → Int32 → Int32 → Int32 → Int32 → Option (me_M × Unit)) (μ : me_M) (v1 : Int32) (v2 : Int32) (v3 : Int32) (v4 : Int32) (s0 : Int32) : Option (me_M × Unit) :=
  if s0 = 0 then
  (me_lt (me_inc v4 (-1)) (fun x2 =>
  K10 μ v1 v2 v3 x2))
  else
  (me_lt (me_inc v4 (-1)) (fun x3 =>
  K10 μ v1 v2 v4 x3))
set_option maxHeartbeats 4000000 in
set_option maxRecDepth 100000 in
theorem z_M_puts_b81 {X : me_X} {B : me_B} {sz : Nat} (C : me_C X B RX12 cX12_puts 6 none) {μ : me_M} {v1 : Int32} {v2 : Int32} {v3 : Int32} {v4 : Int32} {s0 : Int32}  {K10 : me_M → Int32 → Int32 → Int32 → Int32 → Option (me_M × Unit)} {r : me_M × Unit} (N : me_En X B sz (B, r.1, .ok (none)) 1 25 0 0) (hNx : me_Nx X) (hB : me_St B) (hK10 : ∀ (μ : me_M) (v1 : Int32) (v2 : Int32) (v3 : Int32) (v4 : Int32), K10 μ v1 v2 v3 v4 = some r → me_Z X B 0 0 μ 10 [(0, me_r 36 0), (1, me_i v1), (2, me_i v2), (3, me_i v3), (4, me_i v4)] [])  (hf : f_M_puts_b81 K10 μ v1 v2 v3 v4 s0 = some r) : me_Z X B 0 0 μ 81 [(0, me_r 36 0), (1, me_i v1), (2, me_i v2), (3, me_i v3), (4, me_i v4)] [me_i s0] := by
  unfold f_M_puts_b81 at hf
  refine me_istore C dX12_puts_81 (by decide) (L' := [(5, me_i s0), (0, me_r 36 0), (1, me_i v1), (2, me_i v2), (3, me_i v3), (4, me_i v4)]) rfl ?_
  refine me_iload C dX12_puts_83 rfl ?_
  refine me_if_eq C (tgt := 93) dX12_puts_85 (by decide) (fun c1 => ?_) (fun c1 => ?_)
  · replace hf := me_ip c1 hf
    refine me_iload_n C 3 dX12_puts_93 rfl rfl ?_
    refine me_istore_n C 3 dX12_puts_94 rfl (by decide) (L' := [(3, me_i v3), (5, me_i s0), (0, me_r 36 0), (1, me_i v1), (2, me_i v2), (4, me_i v4)]) rfl ?_
    obtain ⟨x2, e_x2, hf⟩ := me_lts hf
    refine me_iinc C (v := x2) (L' := [(4, me_i x2), (3, me_i v3), (5, me_i s0), (0, me_r 36 0), (1, me_i v1), (2, me_i v2)]) dX12_puts_95 rfl e_x2.symm (by decide) rfl ?_
    refine me_goto C (tgt := 10) dX12_puts_98 (by decide) ?_
    refine me_dropI [(0, me_r 36 0), (1, me_i v1), (2, me_i v2), (3, me_i v3), (4, me_i x2)] [3, 4, 5, 1, 0] rfl ?_
    exact hK10 μ v1 v2 v3 x2 hf
  · replace hf := me_in c1 hf
    refine me_iload C dX12_puts_88 rfl ?_
    refine me_goto C (tgt := 94) dX12_puts_90 (by decide) ?_
    refine me_istore_n C 3 dX12_puts_94 rfl (by decide) (L' := [(3, me_i v4), (5, me_i s0), (0, me_r 36 0), (1, me_i v1), (2, me_i v2), (4, me_i v4)]) rfl ?_
    obtain ⟨x3, e_x3, hf⟩ := me_lts hf
    refine me_iinc C (v := x3) (L' := [(4, me_i x3), (3, me_i v4), (5, me_i s0), (0, me_r 36 0), (1, me_i v1), (2, me_i v2)]) dX12_puts_95 rfl e_x3.symm (by decide) rfl ?_
    refine me_goto C (tgt := 10) dX12_puts_98 (by decide) ?_
    refine me_dropI [(0, me_r 36 0), (1, me_i v1), (2, me_i v2), (3, me_i v4), (4, me_i x3)] [3, 4, 5, 1, 0] rfl ?_
    exact hK10 μ v1 v2 v4 x3 hf
def f_M_puts_b80 (K10 : me_M → Int32 → Int32 → Int32 → Int32 → Option (me_M × Unit)) (μ : me_M) (v1 : Int32) (v2 : Int32) (v3 : Int32) (v4 : Int32) : Option (me_M × Unit) :=
  f_M_puts_b81 K10 μ v1 v2 v3 v4 (0 : Int32)
set_option maxHeartbeats 4000000 in
set_option maxRecDepth 100000 in
theorem z_M_puts_b80 {X : me_X} {B : me_B} {sz : Nat} (C : me_C X B RX12 cX12_puts 6 none) {μ : me_M} {v1 : Int32} {v2 : Int32} {v3 : Int32} {v4 : Int32}  {K10 : me_M → Int32 → Int32 → Int32 → Int32 → Option (me_M × Unit)} {r : me_M × Unit} (N : me_En X B sz (B, r.1, .ok (none)) 1 25 0 0) (hNx : me_Nx X) (hB : me_St B) (hK10 : ∀ (μ : me_M) (v1 : Int32) (v2 : Int32) (v3 : Int32) (v4 : Int32), K10 μ v1 v2 v3 v4 = some r → me_Z X B 0 0 μ 10 [(0, me_r 36 0), (1, me_i v1), (2, me_i v2), (3, me_i v3), (4, me_i v4)] [])  (hf : f_M_puts_b80 K10 μ v1 v2 v3 v4 = some r) : me_Z X B 0 0 μ 80 [(0, me_r 36 0), (1, me_i v1), (2, me_i v2), (3, me_i v3), (4, me_i v4)] [] := by
  unfold f_M_puts_b80 at hf
  refine me_iconst C (v := 0) dX12_puts_80 (by decide) ?_
  refine me_dropI [(0, me_r 36 0), (1, me_i v1), (2, me_i v2), (3, me_i v3), (4, me_i v4)] [0, 1, 2, 3, 4] rfl ?_
  exact z_M_puts_b81 C N hNx hB hK10 hf
def f_M_puts_b43 (K10 : me_M → Int32 → Int32 → Int32 → Int32 → Option (me_M × Unit)) (μ : me_M) (v1 : Int32) (v2 : Int32) (v3 : Int32) (v4 : Int32) (s0 : Int32) : Option (me_M × Unit) :=
  if s0 = v2 then
  (me_gd (me_inb v4 200) (
  if (μ 38 0 (me_ix v4)) = (108 : Int32) then
  (f_M_puts_b80 K10 μ v1 v2 v3 v4)
  else
  (me_gd (me_inb v4 200) (
  me_gd (me_inb v4 200) (
  if (μ 42 0 (me_ix v4)) < (μ 43 0 (me_ix v4)) then
  (f_M_puts_b80 K10 μ v1 v2 v3 v4)
  else
  (f_M_puts_b81 K10 μ v1 v2 v3 v4 (1 : Int32)))))))
  else
  (f_M_puts_b80 K10 μ v1 v2 v3 v4)
set_option maxHeartbeats 4000000 in
set_option maxRecDepth 100000 in
theorem z_M_puts_b43 {X : me_X} {B : me_B} {sz : Nat} (C : me_C X B RX12 cX12_puts 6 none) {μ : me_M} {v1 : Int32} {v2 : Int32} {v3 : Int32} {v4 : Int32} {s0 : Int32}  {K10 : me_M → Int32 → Int32 → Int32 → Int32 → Option (me_M × Unit)} {r : me_M × Unit} (N : me_En X B sz (B, r.1, .ok (none)) 1 25 0 0) (hNx : me_Nx X) (hB : me_St B) (hK10 : ∀ (μ : me_M) (v1 : Int32) (v2 : Int32) (v3 : Int32) (v4 : Int32), K10 μ v1 v2 v3 v4 = some r → me_Z X B 0 0 μ 10 [(0, me_r 36 0), (1, me_i v1), (2, me_i v2), (3, me_i v3), (4, me_i v4)] [])  (hf : f_M_puts_b43 K10 μ v1 v2 v3 v4 s0 = some r) : me_Z X B 0 0 μ 43 [(0, me_r 36 0), (1, me_i v1), (2, me_i v2), (3, me_i v3), (4, me_i v4)] [me_i s0] := by
  unfold f_M_puts_b43 at hf
  refine me_iload_n C 2 dX12_puts_43 rfl rfl ?_
  refine me_icmp_ne C (tgt := 80) dX12_puts_44 (by decide) (fun c1 => ?_) (fun c1 => ?_)
  · replace hf := me_in c1 hf
    refine me_dropI [(0, me_r 36 0), (1, me_i v1), (2, me_i v2), (3, me_i v3), (4, me_i v4)] [0, 1, 2, 3, 4] rfl ?_
    exact z_M_puts_b80 C N hNx hB hK10 hf
  · replace hf := me_ip c1 hf
    refine me_aload_n C 0 (Or.inr (Or.inl ⟨_, rfl⟩)) dX12_puts_47 rfl rfl ?_
    refine me_getr C hB 7 (k' := 38) (i' := 0) fg_M_27 dX12_puts_48 rfl rfl ?_
    refine me_iload C dX12_puts_51 rfl ?_
    obtain ⟨g2, hf⟩ := me_gs hf
    refine me_cald C rfl (fun _ => rfl) g2 dX12_puts_53 ?_
    refine me_bipush C (v := 108) dX12_puts_54 (by decide) ?_
    refine me_icmp_eq C (tgt := 80) dX12_puts_56 (by decide) (fun c3 => ?_) (fun c3 => ?_)
    · replace hf := me_ip c3 hf
      refine me_dropI [(0, me_r 36 0), (1, me_i v1), (2, me_i v2), (3, me_i v3), (4, me_i v4)] [0, 1, 2, 3, 4] rfl ?_
      exact z_M_puts_b80 C N hNx hB hK10 hf
    · replace hf := me_in c3 hf
      refine me_aload_n C 0 (Or.inr (Or.inl ⟨_, rfl⟩)) dX12_puts_59 rfl rfl ?_
      refine me_getr C hB 12 (k' := 43) (i' := 0) fg_M_43 dX12_puts_60 rfl rfl ?_
      refine me_iload C dX12_puts_63 rfl ?_
      obtain ⟨g4, hf⟩ := me_gs hf
      refine me_iald C rfl (fun _ => rfl) g4 dX12_puts_65 ?_
      refine me_aload_n C 0 (Or.inr (Or.inl ⟨_, rfl⟩)) dX12_puts_66 rfl rfl ?_
      refine me_getr C hB 11 (k' := 42) (i' := 0) fg_M_40 dX12_puts_67 rfl rfl ?_
      refine me_iload C dX12_puts_70 rfl ?_
      obtain ⟨g5, hf⟩ := me_gs hf
      refine me_iald C rfl (fun _ => rfl) g5 dX12_puts_72 ?_
      refine me_icmp_gt C (tgt := 80) dX12_puts_73 (by decide) (fun c6 => ?_) (fun c6 => ?_)
      · replace hf := me_ip c6 hf
        refine me_dropI [(0, me_r 36 0), (1, me_i v1), (2, me_i v2), (3, me_i v3), (4, me_i v4)] [0, 1, 2, 3, 4] rfl ?_
        exact z_M_puts_b80 C N hNx hB hK10 hf
      · replace hf := me_in c6 hf
        refine me_iconst C (v := 1) dX12_puts_76 (by decide) ?_
        refine me_goto C (tgt := 81) dX12_puts_77 (by decide) ?_
        refine me_dropI [(0, me_r 36 0), (1, me_i v1), (2, me_i v2), (3, me_i v3), (4, me_i v4)] [0, 1, 2, 3, 4] rfl ?_
        exact z_M_puts_b81 C N hNx hB hK10 hf
def f_M_puts_b10 (K10 : me_M → Int32 → Int32 → Int32 → Int32 → Option (me_M × Unit)) (μ : me_M) (v1 : Int32) (v2 : Int32) (v3 : Int32) (v4 : Int32) : Option (me_M × Unit) :=
  if v4 < 0 then
  (if v3 = (-1 : Int32) then
  (some (μ, ()))
  else
  (me_gd (me_inb v1 16) (
  if (μ 85 0 (me_ix v1)) = 0 then
  (me_gd (me_inb v1 16) (
  me_gd (me_inb v2 2) (
  if (μ 36 0 2) ≤ (μ 60 (2 * (me_ix v1) + (me_ix v2)) 4) then
  (some (μ, ()))
  else
  (me_gd (me_inb v3 200) (
  me_b2 (f_M_adds μ v1 v2 (4 : Int32) (((8 : Int32) * v3) + (μ 43 0 (me_ix v3)))) (fun μ10 r9 =>
  me_gd (me_inb v3 200) (
  me_gd (me_inb v3 200) (
  me_lt (me_up μ10 43 0 (me_ix v3) ((μ10 43 0 (me_ix v3)) + (1 : Int32))) (fun μ13 =>
  me_gd (me_inb v3 200) (
  me_lt (me_up μ13 38 0 (me_ix v3) (vp_nar .char (119 : Int32))) (fun μ15 =>
  some (μ15, ()))))))))))))
  else
  (me_gd (me_inb v1 16) (
  me_lt (me_up μ 86 0 (me_ix v1) (vp_nar .boolean (1 : Int32))) (fun μ17 =>
  some (μ17, ())))))))
  else
  (me_gd (me_inb v4 200) (
  if (μ 39 0 (me_ix v4)) = v1 then
  (me_gd (me_inb v4 200) (
  if (μ 37 0 (me_ix v4)) = (97 : Int32) then
  (f_M_puts_b43 K10 μ v1 v2 v3 v4 (1 : Int32))
  else
  (f_M_puts_b43 K10 μ v1 v2 v3 v4 (0 : Int32))))
  else
  (f_M_puts_b80 K10 μ v1 v2 v3 v4)))
set_option maxHeartbeats 4000000 in
set_option maxRecDepth 100000 in
theorem z_M_puts_b10 {X : me_X} {B : me_B} {sz : Nat} (C : me_C X B RX12 cX12_puts 6 none) {μ : me_M} {v1 : Int32} {v2 : Int32} {v3 : Int32} {v4 : Int32}  {K10 : me_M → Int32 → Int32 → Int32 → Int32 → Option (me_M × Unit)} {r : me_M × Unit} (N : me_En X B sz (B, r.1, .ok (none)) 1 25 0 0) (hNx : me_Nx X) (hB : me_St B) (hK10 : ∀ (μ : me_M) (v1 : Int32) (v2 : Int32) (v3 : Int32) (v4 : Int32), K10 μ v1 v2 v3 v4 = some r → me_Z X B 0 0 μ 10 [(0, me_r 36 0), (1, me_i v1), (2, me_i v2), (3, me_i v3), (4, me_i v4)] [])  (hf : f_M_puts_b10 K10 μ v1 v2 v3 v4 = some r) : me_Z X B 0 0 μ 10 [(0, me_r 36 0), (1, me_i v1), (2, me_i v2), (3, me_i v3), (4, me_i v4)] [] := by
  unfold f_M_puts_b10 at hf
  refine me_iload C dX12_puts_10 rfl ?_
  refine me_if_lt C (tgt := 101) dX12_puts_12 (by decide) (fun c1 => ?_) (fun c1 => ?_)
  · replace hf := me_ip c1 hf
    refine me_iload_n C 3 dX12_puts_101 rfl rfl ?_
    refine me_iconst C (v := -1) dX12_puts_102 (by decide) ?_
    refine me_icmp_ne C (tgt := 107) dX12_puts_103 (by decide) (fun c2 => ?_) (fun c2 => ?_)
    · replace hf := me_in c2 hf
      refine me_aload_n C 0 (Or.inr (Or.inl ⟨_, rfl⟩)) dX12_puts_107 rfl rfl ?_
      refine me_getr C hB 28 (k' := 85) (i' := 0) fg_M_95 dX12_puts_108 rfl rfl ?_
      refine me_iload_n C 1 dX12_puts_111 rfl rfl ?_
      obtain ⟨g3, hf⟩ := me_gs hf
      refine me_zald C rfl (fun _ => rfl) g3 dX12_puts_112 ?_
      refine me_if_eq C (tgt := 126) dX12_puts_113 (by decide) (fun c4 => ?_) (fun c4 => ?_)
      · replace hf := me_ip c4 hf
        refine me_aload_n C 0 (Or.inr (Or.inl ⟨_, rfl⟩)) dX12_puts_126 rfl rfl ?_
        refine me_getr C hB 22 (k' := 58) (i' := 0) fg_M_75 dX12_puts_127 rfl rfl ?_
        refine me_iload_n C 1 dX12_puts_130 rfl rfl ?_
        obtain ⟨g5, hf⟩ := me_gs hf
        refine me_aald C hB (k' := 59) (i' := (me_ix v1)) rfl (fun _ => rfl) rfl g5 dX12_puts_131 rfl ?_
        refine me_iload_n C 2 dX12_puts_132 rfl rfl ?_
        obtain ⟨g6, hf⟩ := me_gs hf
        refine me_aald C hB (k' := 60) (i' := 2 * (me_ix v1) + (me_ix v2)) rfl (fun _ => rfl) rfl g6 dX12_puts_133 rfl ?_
        refine me_iconst C (v := 4) dX12_puts_134 (by decide) ?_
        refine me_iald C rfl (fun _ => rfl) (by decide +kernel) dX12_puts_135 ?_
        refine me_aload_n C 0 (Or.inr (Or.inl ⟨_, rfl⟩)) dX12_puts_136 rfl rfl ?_
        refine me_geti C 2 fg_M_16 dX12_puts_137 rfl ?_
        refine me_icmp_ge C (tgt := 179) dX12_puts_140 (by decide) (fun c7 => ?_) (fun c7 => ?_)
        · replace hf := me_ip c7 hf
          exact me_vret C N dX12_puts_179 (by cases hf; rfl) (by decide) (by decide)
        · replace hf := me_in c7 hf
          refine me_aload_n C 0 (Or.inr (Or.inl ⟨_, rfl⟩)) dX12_puts_143 rfl rfl ?_
          refine me_iload_n C 1 dX12_puts_144 rfl rfl ?_
          refine me_iload_n C 2 dX12_puts_145 rfl rfl ?_
          refine me_iconst C (v := 4) dX12_puts_146 (by decide) ?_
          refine me_bipush C (v := 8) dX12_puts_147 (by decide) ?_
          refine me_iload_n C 3 dX12_puts_149 rfl rfl ?_
          refine me_imul C dX12_puts_150 ?_
          refine me_aload_n C 0 (Or.inr (Or.inl ⟨_, rfl⟩)) dX12_puts_151 rfl rfl ?_
          refine me_getr C hB 12 (k' := 43) (i' := 0) fg_M_43 dX12_puts_152 rfl rfl ?_
          refine me_iload_n C 3 dX12_puts_155 rfl rfl ?_
          obtain ⟨g8, hf⟩ := me_gs hf
          refine me_iald C rfl (fun _ => rfl) g8 dX12_puts_156 ?_
          refine me_iadd C dX12_puts_157 ?_
          obtain ⟨μ10, r9, h_r9, hf⟩ := me_bs2 hf
          refine me_callV0 C N  (As := [me_i v1, me_i v2, me_i (4 : Int32), me_i (((8 : Int32) * v3) + (μ 43 0 (me_ix v3)))]) (st := []) 0 0 (c_M_adds hB h_r9) mv_M_adds ml_M_233 rfl rfl dX12_puts_158 rfl rfl ⟨by decide, by decide⟩ ⟨by decide, by decide, by decide, by decide⟩ (Nat.le_of_ble_eq_true rfl) ?_
          refine me_aload_n C 0 (Or.inr (Or.inl ⟨_, rfl⟩)) dX12_puts_161 rfl rfl ?_
          refine me_getr C hB 12 (k' := 43) (i' := 0) fg_M_43 dX12_puts_162 rfl rfl ?_
          refine me_iload_n C 3 dX12_puts_165 rfl rfl ?_
          refine me_dup2 C rfl rfl dX12_puts_166 ?_
          obtain ⟨g11, hf⟩ := me_gs hf
          refine me_iald C rfl (fun _ => rfl) g11 dX12_puts_167 ?_
          refine me_iconst C (v := 1) dX12_puts_168 (by decide) ?_
          refine me_iadd C dX12_puts_169 ?_
          obtain ⟨g12, hf⟩ := me_gs hf
          obtain ⟨μ13, e_μ13, hf⟩ := me_lts hf
          refine me_iast C rfl (fun _ => rfl) g12 dX12_puts_170 e_μ13 ?_
          refine me_aload_n C 0 (Or.inr (Or.inl ⟨_, rfl⟩)) dX12_puts_171 rfl rfl ?_
          refine me_getr C hB 7 (k' := 38) (i' := 0) fg_M_27 dX12_puts_172 rfl rfl ?_
          refine me_iload_n C 3 dX12_puts_175 rfl rfl ?_
          refine me_bipush C (v := 119) dX12_puts_176 (by decide) ?_
          obtain ⟨g14, hf⟩ := me_gs hf
          obtain ⟨μ15, e_μ15, hf⟩ := me_lts hf
          refine me_cast C rfl (fun _ => rfl) g14 dX12_puts_178 e_μ15 ?_
          exact me_vret C N dX12_puts_179 (by cases hf; rfl) (by decide) (by decide)
      · replace hf := me_in c4 hf
        refine me_aload_n C 0 (Or.inr (Or.inl ⟨_, rfl⟩)) dX12_puts_116 rfl rfl ?_
        refine me_getr C hB 29 (k' := 86) (i' := 0) fg_M_98 dX12_puts_117 rfl rfl ?_
        refine me_iload_n C 1 dX12_puts_120 rfl rfl ?_
        refine me_iconst C (v := 1) dX12_puts_121 (by decide) ?_
        obtain ⟨g16, hf⟩ := me_gs hf
        obtain ⟨μ17, e_μ17, hf⟩ := me_lts hf
        refine me_zast C rfl (fun _ => rfl) g16 dX12_puts_122 e_μ17 ?_
        refine me_goto C (tgt := 179) dX12_puts_123 (by decide) ?_
        exact me_vret C N dX12_puts_179 (by cases hf; rfl) (by decide) (by decide)
    · replace hf := me_ip c2 hf
      exact me_vret C N dX12_puts_106 (by cases hf; rfl) (by decide) (by decide)
  · replace hf := me_in c1 hf
    refine me_aload_n C 0 (Or.inr (Or.inl ⟨_, rfl⟩)) dX12_puts_15 rfl rfl ?_
    refine me_getr C hB 8 (k' := 39) (i' := 0) fg_M_30 dX12_puts_16 rfl rfl ?_
    refine me_iload C dX12_puts_19 rfl ?_
    obtain ⟨g18, hf⟩ := me_gs hf
    refine me_iald C rfl (fun _ => rfl) g18 dX12_puts_21 ?_
    refine me_iload_n C 1 dX12_puts_22 rfl rfl ?_
    refine me_icmp_ne C (tgt := 80) dX12_puts_23 (by decide) (fun c19 => ?_) (fun c19 => ?_)
    · replace hf := me_in c19 hf
      refine me_dropI [(0, me_r 36 0), (1, me_i v1), (2, me_i v2), (3, me_i v3), (4, me_i v4)] [0, 1, 2, 3, 4] rfl ?_
      exact z_M_puts_b80 C N hNx hB hK10 hf
    · replace hf := me_ip c19 hf
      refine me_aload_n C 0 (Or.inr (Or.inl ⟨_, rfl⟩)) dX12_puts_26 rfl rfl ?_
      refine me_getr C hB 6 (k' := 37) (i' := 0) fg_M_23 dX12_puts_27 rfl rfl ?_
      refine me_iload C dX12_puts_30 rfl ?_
      obtain ⟨g20, hf⟩ := me_gs hf
      refine me_cald C rfl (fun _ => rfl) g20 dX12_puts_32 ?_
      refine me_bipush C (v := 97) dX12_puts_33 (by decide) ?_
      refine me_icmp_ne C (tgt := 42) dX12_puts_35 (by decide) (fun c21 => ?_) (fun c21 => ?_)
      · replace hf := me_in c21 hf
        refine me_iconst C (v := 0) dX12_puts_42 (by decide) ?_
        refine me_dropI [(0, me_r 36 0), (1, me_i v1), (2, me_i v2), (3, me_i v3), (4, me_i v4)] [0, 1, 2, 3, 4] rfl ?_
        exact z_M_puts_b43 C N hNx hB hK10 hf
      · replace hf := me_ip c21 hf
        refine me_iconst C (v := 1) dX12_puts_38 (by decide) ?_
        refine me_goto C (tgt := 43) dX12_puts_39 (by decide) ?_
        refine me_dropI [(0, me_r 36 0), (1, me_i v1), (2, me_i v2), (3, me_i v3), (4, me_i v4)] [0, 1, 2, 3, 4] rfl ?_
        exact z_M_puts_b43 C N hNx hB hK10 hf
def f_M_puts_h10  : Nat → me_M → Int32 → Int32 → Int32 → Int32 → Option (me_M × Unit)
  | 0, _, _, _, _, _ => none
  | n + 1, μ, v1, v2, v3, v4 => f_M_puts_b10 (f_M_puts_h10 n) μ v1 v2 v3 v4
set_option maxHeartbeats 4000000 in
set_option maxRecDepth 100000 in
theorem z_M_puts_h10 {X : me_X} {B : me_B} {sz : Nat} (C : me_C X B RX12 cX12_puts 6 none)  {r : me_M × Unit} (N : me_En X B sz (B, r.1, .ok (none)) 1 25 0 0) (hNx : me_Nx X) (hB : me_St B)  : ∀ (n : Nat) (μ : me_M) (v1 : Int32) (v2 : Int32) (v3 : Int32) (v4 : Int32), f_M_puts_h10 n μ v1 v2 v3 v4 = some r → me_Z X B 0 0 μ 10 [(0, me_r 36 0), (1, me_i v1), (2, me_i v2), (3, me_i v3), (4, me_i v4)] [] := by
  intro n
  induction n with
  | zero => intro μ v1 v2 v3 v4  h; exact absurd (show (none : Option (me_M × Unit)) = some r from h) (fun q => by cases q)
  | succ n ih => intro μ v1 v2 v3 v4  h; exact z_M_puts_b10 C N hNx hB  (K10 := f_M_puts_h10 n) ih  h
def f_M_puts (μ : me_M) (v1 : Int32) (v2 : Int32) : Option (me_M × Unit) :=
  me_lt (((μ 36 0 19) - (1 : Int32))) (fun x1 =>
  f_M_puts_h10 me_FU μ v1 v2 (-1 : Int32) x1)
set_option maxHeartbeats 4000000 in
set_option maxRecDepth 100000 in
theorem z_M_puts {X : me_X} {B : me_B} {sz : Nat} (C : me_C X B RX12 cX12_puts 6 none) {μ : me_M} {v1 : Int32} {v2 : Int32}   {r : me_M × Unit} (N : me_En X B sz (B, r.1, .ok (none)) 1 25 0 0) (hNx : me_Nx X) (hB : me_St B)   (hf : f_M_puts μ v1 v2 = some r) : me_Z X B 0 0 μ 0 [(0, me_r 36 0), (1, me_i v1), (2, me_i v2)] [] := by
  unfold f_M_puts at hf
  refine me_iconst C (v := -1) dX12_puts_0 (by decide) ?_
  refine me_istore_n C 3 dX12_puts_1 rfl (by decide) (L' := [(3, me_i (-1 : Int32)), (0, me_r 36 0), (1, me_i v1), (2, me_i v2)]) rfl ?_
  refine me_aload_n C 0 (Or.inr (Or.inl ⟨_, rfl⟩)) dX12_puts_2 rfl rfl ?_
  refine me_geti C 19 fg_M_152 dX12_puts_3 rfl ?_
  refine me_iconst C (v := 1) dX12_puts_6 (by decide) ?_
  refine me_isub C dX12_puts_7 ?_
  obtain ⟨x1, e_x1, hf⟩ := me_lts hf
  refine me_nm e_x1 ?_
  refine me_istore C dX12_puts_8 (by decide) (L' := [(4, me_i x1), (3, me_i (-1 : Int32)), (0, me_r 36 0), (1, me_i v1), (2, me_i v2)]) rfl ?_
  refine me_dropI [(0, me_r 36 0), (1, me_i v1), (2, me_i v2), (3, me_i (-1 : Int32)), (4, me_i x1)] [2, 3, 4, 1, 0] rfl ?_
  exact z_M_puts_h10 C N hNx hB me_FU μ v1 v2 (-1 : Int32) x1 hf
theorem c_M_puts {B : me_B} (hB : me_St B) {μ : me_M} {v1 : Int32} {v2 : Int32} {μ' : me_M} {r : Unit}  (hf : f_M_puts μ v1 v2 = some (μ', r)) : ∀ l E z, l.stackTraces = false → me_Met l yX12_puts cX12_puts 6 none 1 25 0 0 E B μ z [me_r 36 0, me_i v1, me_i v2] (B, μ', .ok (none)) :=
  fun _ _ _ hl => me_ofZ hl (by decide +kernel) (Nat.le_of_ble_eq_true rfl) (fun _ C N hNx => z_M_puts C N hNx hB  hf)

def f_M_fails (μ : me_M) (v1 : Int32) (v2 : Int32) : Option (me_M × Unit) :=
  me_gd (me_inb v1 16) (
  me_lt (me_up μ 89 0 (me_ix v1) (vp_nar .char (120 : Int32))) (fun μ2 =>
  me_gd (me_inb v1 16) (
  me_lt (me_up μ2 90 0 (me_ix v1) (vp_nar .char v2)) (fun μ4 =>
  some (μ4, ())))))
set_option maxHeartbeats 4000000 in
set_option maxRecDepth 100000 in
theorem z_M_fails {X : me_X} {B : me_B} {sz : Nat} (C : me_C X B RX12 cX12_fails 3 none) {μ : me_M} {v1 : Int32} {v2 : Int32}   {r : me_M × Unit} (N : me_En X B sz (B, r.1, .ok (none)) 0 0 0 0) (hNx : me_Nx X) (hB : me_St B)   (hf : f_M_fails μ v1 v2 = some r) : me_Z X B 0 0 μ 0 [(0, me_r 36 0), (1, me_i v1), (2, me_i v2)] [] := by
  unfold f_M_fails at hf
  refine me_aload_n C 0 (Or.inr (Or.inl ⟨_, rfl⟩)) dX12_fails_0 rfl rfl ?_
  refine me_getr C hB 36 (k' := 89) (i' := 0) fg_M_123 dX12_fails_1 rfl rfl ?_
  refine me_iload_n C 1 dX12_fails_4 rfl rfl ?_
  refine me_bipush C (v := 120) dX12_fails_5 (by decide) ?_
  obtain ⟨g1, hf⟩ := me_gs hf
  obtain ⟨μ2, e_μ2, hf⟩ := me_lts hf
  refine me_cast C rfl (fun _ => rfl) g1 dX12_fails_7 e_μ2 ?_
  refine me_aload_n C 0 (Or.inr (Or.inl ⟨_, rfl⟩)) dX12_fails_8 rfl rfl ?_
  refine me_getr C hB 37 (k' := 90) (i' := 0) fg_M_126 dX12_fails_9 rfl rfl ?_
  refine me_iload_n C 1 dX12_fails_12 rfl rfl ?_
  refine me_iload_n C 2 dX12_fails_13 rfl rfl ?_
  obtain ⟨g3, hf⟩ := me_gs hf
  obtain ⟨μ4, e_μ4, hf⟩ := me_lts hf
  refine me_cast C rfl (fun _ => rfl) g3 dX12_fails_14 e_μ4 ?_
  exact me_vret C N dX12_fails_15 (by cases hf; rfl) (by decide) (by decide)
theorem c_M_fails {B : me_B} (hB : me_St B) {μ : me_M} {v1 : Int32} {v2 : Int32} {μ' : me_M} {r : Unit}  (hf : f_M_fails μ v1 v2 = some (μ', r)) : ∀ l E z, l.stackTraces = false → me_Met l yX12_fails cX12_fails 3 none 0 0 0 0 E B μ z [me_r 36 0, me_i v1, me_i v2] (B, μ', .ok (none)) :=
  fun _ _ _ hl => me_ofZ hl (by decide +kernel) (Nat.le_of_ble_eq_true rfl) (fun _ C N hNx => z_M_fails C N hNx hB  hf)

def f_M_has_b17 (μ : me_M) (v1 : Int32) (v2 : Int32) : Option (me_M × Int32) :=
  me_gd (me_inb v1 16) (
  if (μ 87 0 (me_ix v1)) < v2 then
  (some (μ, (0 : Int32)))
  else
  (some (μ, (1 : Int32))))
set_option maxHeartbeats 4000000 in
set_option maxRecDepth 100000 in
theorem z_M_has_b17 {X : me_X} {B : me_B} {sz : Nat} (C : me_C X B RX12 cX12_has 3 (some .boolean)) {μ : me_M} {v1 : Int32} {v2 : Int32}   {r : me_M × Int32} (N : me_En X B sz (B, r.1, .ok (some (me_i r.2))) 1 22 0 0) (hNx : me_Nx X) (hB : me_St B)   (hf : f_M_has_b17 μ v1 v2 = some r) : me_Z X B 0 0 μ 17 [(0, me_r 36 0), (1, me_i v1), (2, me_i v2)] [] := by
  unfold f_M_has_b17 at hf
  refine me_aload_n C 0 (Or.inr (Or.inl ⟨_, rfl⟩)) dX12_has_17 rfl rfl ?_
  refine me_getr C hB 32 (k' := 87) (i' := 0) fg_M_109 dX12_has_18 rfl rfl ?_
  refine me_iload_n C 1 dX12_has_21 rfl rfl ?_
  obtain ⟨g1, hf⟩ := me_gs hf
  refine me_iald C rfl (fun _ => rfl) g1 dX12_has_22 ?_
  refine me_iload_n C 2 dX12_has_23 rfl rfl ?_
  refine me_icmp_lt C (tgt := 31) dX12_has_24 (by decide) (fun c2 => ?_) (fun c2 => ?_)
  · replace hf := me_ip c2 hf
    refine me_iconst C (v := 0) dX12_has_31 (by decide) ?_
    exact me_iret C N dX12_has_32 (by decide +kernel) (by cases hf; rfl) (by decide) (by decide)
  · replace hf := me_in c2 hf
    refine me_iconst C (v := 1) dX12_has_27 (by decide) ?_
    refine me_goto C (tgt := 32) dX12_has_28 (by decide) ?_
    exact me_iret C N dX12_has_32 (by decide +kernel) (by cases hf; rfl) (by decide) (by decide)
def f_M_has (μ : me_M) (v1 : Int32) (v2 : Int32) : Option (me_M × Int32) :=
  me_gd (me_inb v1 16) (
  if v2 ≤ (μ 87 0 (me_ix v1)) then
  (f_M_has_b17 μ v1 v2)
  else
  (me_b2 (f_M_fails μ v1 (117 : Int32)) (fun μ4 r3 =>
  f_M_has_b17 μ4 v1 v2)))
set_option maxHeartbeats 4000000 in
set_option maxRecDepth 100000 in
theorem z_M_has {X : me_X} {B : me_B} {sz : Nat} (C : me_C X B RX12 cX12_has 3 (some .boolean)) {μ : me_M} {v1 : Int32} {v2 : Int32}   {r : me_M × Int32} (N : me_En X B sz (B, r.1, .ok (some (me_i r.2))) 1 22 0 0) (hNx : me_Nx X) (hB : me_St B)   (hf : f_M_has μ v1 v2 = some r) : me_Z X B 0 0 μ 0 [(0, me_r 36 0), (1, me_i v1), (2, me_i v2)] [] := by
  unfold f_M_has at hf
  refine me_aload_n C 0 (Or.inr (Or.inl ⟨_, rfl⟩)) dX12_has_0 rfl rfl ?_
  refine me_getr C hB 32 (k' := 87) (i' := 0) fg_M_109 dX12_has_1 rfl rfl ?_
  refine me_iload_n C 1 dX12_has_4 rfl rfl ?_
  obtain ⟨g1, hf⟩ := me_gs hf
  refine me_iald C rfl (fun _ => rfl) g1 dX12_has_5 ?_
  refine me_iload_n C 2 dX12_has_6 rfl rfl ?_
  refine me_icmp_ge C (tgt := 17) dX12_has_7 (by decide) (fun c2 => ?_) (fun c2 => ?_)
  · replace hf := me_ip c2 hf
    refine me_dropI [(0, me_r 36 0), (1, me_i v1), (2, me_i v2)] [0, 1, 2] rfl ?_
    exact z_M_has_b17 C N hNx hB hf
  · replace hf := me_in c2 hf
    refine me_aload_n C 0 (Or.inr (Or.inl ⟨_, rfl⟩)) dX12_has_10 rfl rfl ?_
    refine me_iload_n C 1 dX12_has_11 rfl rfl ?_
    refine me_bipush C (v := 117) dX12_has_12 (by decide) ?_
    obtain ⟨μ4, r3, h_r3, hf⟩ := me_bs2 hf
    refine me_callV0 C N  (As := [me_i v1, me_i (117 : Int32)]) (st := []) 0 0 (c_M_fails hB h_r3) mv_M_fails ml_M_256 rfl rfl dX12_has_14 rfl rfl ⟨by decide, by decide⟩ ⟨by decide, by decide, by decide, by decide⟩ (Nat.le_of_ble_eq_true rfl) ?_
    refine me_dropI [(0, me_r 36 0), (1, me_i v1), (2, me_i v2)] [0, 1, 2] rfl ?_
    exact z_M_has_b17 C N hNx hB hf
theorem c_M_has {B : me_B} (hB : me_St B) {μ : me_M} {v1 : Int32} {v2 : Int32} {μ' : me_M} {r : Int32}  (hf : f_M_has μ v1 v2 = some (μ', r)) : ∀ l E z, l.stackTraces = false → me_Met l yX12_has cX12_has 3 (some .boolean) 1 22 0 0 E B μ z [me_r 36 0, me_i v1, me_i v2] (B, μ', .ok (some (me_i r))) :=
  fun _ _ _ hl => me_ofZ hl (by decide +kernel) (Nat.le_of_ble_eq_true rfl) (fun _ C N hNx => z_M_has C N hNx hB  hf)

def f_M_pop (μ : me_M) (v1 : Int32) : Option (me_M × Int32) :=
  me_gd (me_inb v1 16) (
  me_gd (me_inb v1 16) (
  me_lt (me_up μ 87 0 (me_ix v1) ((μ 87 0 (me_ix v1)) - (1 : Int32))) (fun μ3 =>
  me_gd (me_inb v1 16) (
  me_gd (me_inb v1 16) (
  me_gd (me_inb (μ3 87 0 (me_ix v1)) 6) (
  some (μ3, (μ3 78 (me_ix v1) (me_ix (μ3 87 0 (me_ix v1)))))))))))
set_option maxHeartbeats 4000000 in
set_option maxRecDepth 100000 in
theorem z_M_pop {X : me_X} {B : me_B} {sz : Nat} (C : me_C X B RX12 cX12_pop 2 (some .int)) {μ : me_M} {v1 : Int32}   {r : me_M × Int32} (N : me_En X B sz (B, r.1, .ok (some (me_i r.2))) 0 0 0 0) (hNx : me_Nx X) (hB : me_St B)   (hf : f_M_pop μ v1 = some r) : me_Z X B 0 0 μ 0 [(0, me_r 36 0), (1, me_i v1)] [] := by
  unfold f_M_pop at hf
  refine me_aload_n C 0 (Or.inr (Or.inl ⟨_, rfl⟩)) dX12_pop_0 rfl rfl ?_
  refine me_getr C hB 32 (k' := 87) (i' := 0) fg_M_109 dX12_pop_1 rfl rfl ?_
  refine me_iload_n C 1 dX12_pop_4 rfl rfl ?_
  refine me_dup2 C rfl rfl dX12_pop_5 ?_
  obtain ⟨g1, hf⟩ := me_gs hf
  refine me_iald C rfl (fun _ => rfl) g1 dX12_pop_6 ?_
  refine me_iconst C (v := 1) dX12_pop_7 (by decide) ?_
  refine me_isub C dX12_pop_8 ?_
  obtain ⟨g2, hf⟩ := me_gs hf
  obtain ⟨μ3, e_μ3, hf⟩ := me_lts hf
  refine me_iast C rfl (fun _ => rfl) g2 dX12_pop_9 e_μ3 ?_
  refine me_aload_n C 0 (Or.inr (Or.inl ⟨_, rfl⟩)) dX12_pop_10 rfl rfl ?_
  refine me_getr C hB 31 (k' := 77) (i' := 0) fg_M_106 dX12_pop_11 rfl rfl ?_
  refine me_iload_n C 1 dX12_pop_14 rfl rfl ?_
  obtain ⟨g4, hf⟩ := me_gs hf
  refine me_aald C hB (k' := 78) (i' := (me_ix v1)) rfl (fun _ => rfl) rfl g4 dX12_pop_15 rfl ?_
  refine me_aload_n C 0 (Or.inr (Or.inl ⟨_, rfl⟩)) dX12_pop_16 rfl rfl ?_
  refine me_getr C hB 32 (k' := 87) (i' := 0) fg_M_109 dX12_pop_17 rfl rfl ?_
  refine me_iload_n C 1 dX12_pop_20 rfl rfl ?_
  obtain ⟨g5, hf⟩ := me_gs hf
  refine me_iald C rfl (fun _ => rfl) g5 dX12_pop_21 ?_
  obtain ⟨g6, hf⟩ := me_gs hf
  refine me_iald C rfl (fun _ => rfl) g6 dX12_pop_22 ?_
  exact me_iret C N dX12_pop_23 (me_nri _) (by cases hf; rfl) (by decide) (by decide)
theorem c_M_pop {B : me_B} (hB : me_St B) {μ : me_M} {v1 : Int32} {μ' : me_M} {r : Int32}  (hf : f_M_pop μ v1 = some (μ', r)) : ∀ l E z, l.stackTraces = false → me_Met l yX12_pop cX12_pop 2 (some .int) 0 0 0 0 E B μ z [me_r 36 0, me_i v1] (B, μ', .ok (some (me_i r))) :=
  fun _ _ _ hl => me_ofZ hl (by decide +kernel) (Nat.le_of_ble_eq_true rfl) (fun _ C N hNx => z_M_pop C N hNx hB  hf)

def f_M_push (μ : me_M) (v1 : Int32) (v2 : Int32) : Option (me_M × Unit) :=
  me_gd (me_inb v1 16) (
  if (μ 87 0 (me_ix v1)) = (6 : Int32) then
  (me_b2 (f_M_fails μ v1 (111 : Int32)) (fun μ14 r13 =>
  some (μ14, ())))
  else
  (me_gd (me_inb v1 16) (
  me_gd (me_inb v1 16) (
  me_gd (me_inb (μ 87 0 (me_ix v1)) 6) (
  me_lt (me_up μ 78 (me_ix v1) (me_ix (μ 87 0 (me_ix v1))) v2) (fun μ6 =>
  me_gd (me_inb v1 16) (
  me_gd (me_inb v1 16) (
  me_lt (me_up μ6 87 0 (me_ix v1) ((μ6 87 0 (me_ix v1)) + (1 : Int32))) (fun μ9 =>
  me_gd (me_inb v1 16) (
  me_gd (me_inb v1 16) (
  me_lt (me_up μ9 91 0 (me_ix v1) ((μ9 91 0 (me_ix v1)) + (1 : Int32))) (fun μ12 =>
  some (μ12, ())))))))))))))
set_option maxHeartbeats 4000000 in
set_option maxRecDepth 100000 in
theorem z_M_push {X : me_X} {B : me_B} {sz : Nat} (C : me_C X B RX12 cX12_push 3 none) {μ : me_M} {v1 : Int32} {v2 : Int32}   {r : me_M × Unit} (N : me_En X B sz (B, r.1, .ok (none)) 1 22 0 0) (hNx : me_Nx X) (hB : me_St B)   (hf : f_M_push μ v1 v2 = some r) : me_Z X B 0 0 μ 0 [(0, me_r 36 0), (1, me_i v1), (2, me_i v2)] [] := by
  unfold f_M_push at hf
  refine me_aload_n C 0 (Or.inr (Or.inl ⟨_, rfl⟩)) dX12_push_0 rfl rfl ?_
  refine me_getr C hB 32 (k' := 87) (i' := 0) fg_M_109 dX12_push_1 rfl rfl ?_
  refine me_iload_n C 1 dX12_push_4 rfl rfl ?_
  obtain ⟨g1, hf⟩ := me_gs hf
  refine me_iald C rfl (fun _ => rfl) g1 dX12_push_5 ?_
  refine me_bipush C (v := 6) dX12_push_6 (by decide) ?_
  refine me_icmp_ne C (tgt := 19) dX12_push_8 (by decide) (fun c2 => ?_) (fun c2 => ?_)
  · replace hf := me_in c2 hf
    refine me_aload_n C 0 (Or.inr (Or.inl ⟨_, rfl⟩)) dX12_push_19 rfl rfl ?_
    refine me_getr C hB 31 (k' := 77) (i' := 0) fg_M_106 dX12_push_20 rfl rfl ?_
    refine me_iload_n C 1 dX12_push_23 rfl rfl ?_
    obtain ⟨g3, hf⟩ := me_gs hf
    refine me_aald C hB (k' := 78) (i' := (me_ix v1)) rfl (fun _ => rfl) rfl g3 dX12_push_24 rfl ?_
    refine me_aload_n C 0 (Or.inr (Or.inl ⟨_, rfl⟩)) dX12_push_25 rfl rfl ?_
    refine me_getr C hB 32 (k' := 87) (i' := 0) fg_M_109 dX12_push_26 rfl rfl ?_
    refine me_iload_n C 1 dX12_push_29 rfl rfl ?_
    obtain ⟨g4, hf⟩ := me_gs hf
    refine me_iald C rfl (fun _ => rfl) g4 dX12_push_30 ?_
    refine me_iload_n C 2 dX12_push_31 rfl rfl ?_
    obtain ⟨g5, hf⟩ := me_gs hf
    obtain ⟨μ6, e_μ6, hf⟩ := me_lts hf
    refine me_iast C rfl (fun _ => rfl) g5 dX12_push_32 e_μ6 ?_
    refine me_aload_n C 0 (Or.inr (Or.inl ⟨_, rfl⟩)) dX12_push_33 rfl rfl ?_
    refine me_getr C hB 32 (k' := 87) (i' := 0) fg_M_109 dX12_push_34 rfl rfl ?_
    refine me_iload_n C 1 dX12_push_37 rfl rfl ?_
    refine me_dup2 C rfl rfl dX12_push_38 ?_
    obtain ⟨g7, hf⟩ := me_gs hf
    refine me_iald C rfl (fun _ => rfl) g7 dX12_push_39 ?_
    refine me_iconst C (v := 1) dX12_push_40 (by decide) ?_
    refine me_iadd C dX12_push_41 ?_
    obtain ⟨g8, hf⟩ := me_gs hf
    obtain ⟨μ9, e_μ9, hf⟩ := me_lts hf
    refine me_iast C rfl (fun _ => rfl) g8 dX12_push_42 e_μ9 ?_
    refine me_aload_n C 0 (Or.inr (Or.inl ⟨_, rfl⟩)) dX12_push_43 rfl rfl ?_
    refine me_getr C hB 38 (k' := 91) (i' := 0) fg_M_129 dX12_push_44 rfl rfl ?_
    refine me_iload_n C 1 dX12_push_47 rfl rfl ?_
    refine me_dup2 C rfl rfl dX12_push_48 ?_
    obtain ⟨g10, hf⟩ := me_gs hf
    refine me_iald C rfl (fun _ => rfl) g10 dX12_push_49 ?_
    refine me_iconst C (v := 1) dX12_push_50 (by decide) ?_
    refine me_iadd C dX12_push_51 ?_
    obtain ⟨g11, hf⟩ := me_gs hf
    obtain ⟨μ12, e_μ12, hf⟩ := me_lts hf
    refine me_iast C rfl (fun _ => rfl) g11 dX12_push_52 e_μ12 ?_
    exact me_vret C N dX12_push_53 (by cases hf; rfl) (by decide) (by decide)
  · replace hf := me_ip c2 hf
    refine me_aload_n C 0 (Or.inr (Or.inl ⟨_, rfl⟩)) dX12_push_11 rfl rfl ?_
    refine me_iload_n C 1 dX12_push_12 rfl rfl ?_
    refine me_bipush C (v := 111) dX12_push_13 (by decide) ?_
    obtain ⟨μ14, r13, h_r13, hf⟩ := me_bs2 hf
    refine me_callV0 C N  (As := [me_i v1, me_i (111 : Int32)]) (st := []) 0 0 (c_M_fails hB h_r13) mv_M_fails ml_M_256 rfl rfl dX12_push_15 rfl rfl ⟨by decide, by decide⟩ ⟨by decide, by decide, by decide, by decide⟩ (Nat.le_of_ble_eq_true rfl) ?_
    exact me_vret C N dX12_push_18 (by cases hf; rfl) (by decide) (by decide)
theorem c_M_push {B : me_B} (hB : me_St B) {μ : me_M} {v1 : Int32} {v2 : Int32} {μ' : me_M} {r : Unit}  (hf : f_M_push μ v1 v2 = some (μ', r)) : ∀ l E z, l.stackTraces = false → me_Met l yX12_push cX12_push 3 none 1 22 0 0 E B μ z [me_r 36 0, me_i v1, me_i v2] (B, μ', .ok (none)) :=
  fun _ _ _ hl => me_ofZ hl (by decide +kernel) (Nat.le_of_ble_eq_true rfl) (fun _ C N hNx => z_M_push C N hNx hB  hf)

def f_M_takes_b37 (μ : me_M) (v1 : Int32) (v3 : Int32) (s0 : Int32) : Option (me_M × Unit) :=
  me_gd (me_inb v3 200) (
  me_b2 (f_M_push μ v1 (μ 41 0 (me_ix v3))) (fun μ3 r2 =>
  if s0 = 0 then
  (me_gd (me_inb v3 200) (
  me_gd (me_inb v3 200) (
  me_lt (me_up μ3 38 0 (me_ix v3) (vp_nar .char (μ3 38 0 (me_ix v3)))) (fun μ7 =>
  some (μ7, ())))))
  else
  (me_gd (me_inb v3 200) (
  me_lt (me_up μ3 38 0 (me_ix v3) (vp_nar .char (114 : Int32))) (fun μ9 =>
  some (μ9, ()))))))
set_option maxHeartbeats 4000000 in
set_option maxRecDepth 100000 in
theorem z_M_takes_b37 {X : me_X} {B : me_B} {sz : Nat} (C : me_C X B RX12 cX12_takes 5 none) {μ : me_M} {v1 : Int32} {v3 : Int32} {s0 : Int32}   {r : me_M × Unit} (N : me_En X B sz (B, r.1, .ok (none)) 2 47 0 0) (hNx : me_Nx X) (hB : me_St B)   (hf : f_M_takes_b37 μ v1 v3 s0 = some r) : me_Z X B 0 0 μ 37 [(0, me_r 36 0), (1, me_i v1), (3, me_i v3)] [me_i s0] := by
  unfold f_M_takes_b37 at hf
  refine me_istore C dX12_takes_37 (by decide) (L' := [(4, me_i s0), (0, me_r 36 0), (1, me_i v1), (3, me_i v3)]) rfl ?_
  refine me_aload_n C 0 (Or.inr (Or.inl ⟨_, rfl⟩)) dX12_takes_39 rfl rfl ?_
  refine me_iload_n C 1 dX12_takes_40 rfl rfl ?_
  refine me_aload_n C 0 (Or.inr (Or.inl ⟨_, rfl⟩)) dX12_takes_41 rfl rfl ?_
  refine me_getr C hB 10 (k' := 41) (i' := 0) fg_M_37 dX12_takes_42 rfl rfl ?_
  refine me_iload_n C 3 dX12_takes_45 rfl rfl ?_
  obtain ⟨g1, hf⟩ := me_gs hf
  refine me_iald C rfl (fun _ => rfl) g1 dX12_takes_46 ?_
  obtain ⟨μ3, r2, h_r2, hf⟩ := me_bs2 hf
  refine me_callV0 C N  (As := [me_i v1, me_i (μ 41 0 (me_ix v3))]) (st := []) 0 0 (c_M_push hB h_r2) mv_M_push ml_M_260 rfl rfl dX12_takes_47 rfl rfl ⟨by decide, by decide⟩ ⟨by decide, by decide, by decide, by decide⟩ (Nat.le_of_ble_eq_true rfl) ?_
  refine me_aload_n C 0 (Or.inr (Or.inl ⟨_, rfl⟩)) dX12_takes_50 rfl rfl ?_
  refine me_getr C hB 7 (k' := 38) (i' := 0) fg_M_27 dX12_takes_51 rfl rfl ?_
  refine me_iload_n C 3 dX12_takes_54 rfl rfl ?_
  refine me_iload C dX12_takes_55 rfl ?_
  refine me_if_eq C (tgt := 65) dX12_takes_57 (by decide) (fun c4 => ?_) (fun c4 => ?_)
  · replace hf := me_ip c4 hf
    refine me_aload_n C 0 (Or.inr (Or.inl ⟨_, rfl⟩)) dX12_takes_65 rfl rfl ?_
    refine me_getr C hB 7 (k' := 38) (i' := 0) fg_M_27 dX12_takes_66 rfl rfl ?_
    refine me_iload_n C 3 dX12_takes_69 rfl rfl ?_
    obtain ⟨g5, hf⟩ := me_gs hf
    refine me_cald C rfl (fun _ => rfl) g5 dX12_takes_70 ?_
    obtain ⟨g6, hf⟩ := me_gs hf
    obtain ⟨μ7, e_μ7, hf⟩ := me_lts hf
    refine me_cast C rfl (fun _ => rfl) g6 dX12_takes_71 e_μ7 ?_
    exact me_vret C N dX12_takes_72 (by cases hf; rfl) (by decide) (by decide)
  · replace hf := me_in c4 hf
    refine me_bipush C (v := 114) dX12_takes_60 (by decide) ?_
    refine me_goto C (tgt := 71) dX12_takes_62 (by decide) ?_
    obtain ⟨g8, hf⟩ := me_gs hf
    obtain ⟨μ9, e_μ9, hf⟩ := me_lts hf
    refine me_cast C rfl (fun _ => rfl) g8 dX12_takes_71 e_μ9 ?_
    exact me_vret C N dX12_takes_72 (by cases hf; rfl) (by decide) (by decide)
def f_M_takes (μ : me_M) (v1 : Int32) (v2 : Int32) : Option (me_M × Unit) :=
  me_bd (f_M_firstLying μ v1 v2) (fun r1 =>
  if r1 = (-1 : Int32) then
  (me_gd (me_inb v1 16) (
  me_lt (me_up μ 89 0 (me_ix v1) (vp_nar .char (119 : Int32))) (fun μ6 =>
  some (μ6, ()))))
  else
  (me_gd (me_inb v1 16) (
  if (6 : Int32) ≤ (μ 87 0 (me_ix v1)) then
  (f_M_takes_b37 μ v1 r1 (0 : Int32))
  else
  (f_M_takes_b37 μ v1 r1 (1 : Int32)))))
set_option maxHeartbeats 4000000 in
set_option maxRecDepth 100000 in
theorem z_M_takes {X : me_X} {B : me_B} {sz : Nat} (C : me_C X B RX12 cX12_takes 5 none) {μ : me_M} {v1 : Int32} {v2 : Int32}   {r : me_M × Unit} (N : me_En X B sz (B, r.1, .ok (none)) 2 47 0 0) (hNx : me_Nx X) (hB : me_St B)   (hf : f_M_takes μ v1 v2 = some r) : me_Z X B 0 0 μ 0 [(0, me_r 36 0), (1, me_i v1), (2, me_i v2)] [] := by
  unfold f_M_takes at hf
  refine me_aload_n C 0 (Or.inr (Or.inl ⟨_, rfl⟩)) dX12_takes_0 rfl rfl ?_
  refine me_iload_n C 1 dX12_takes_1 rfl rfl ?_
  refine me_iload_n C 2 dX12_takes_2 rfl rfl ?_
  obtain ⟨r1, h_r1, hf⟩ := me_bs hf
  refine me_callV C N  (As := [me_i v1, me_i v2]) (st := []) 0 0 (c_M_firstLying hB h_r1) mv_M_firstLying ml_M_195 rfl rfl dX12_takes_3 rfl rfl ⟨by decide, by decide⟩ ⟨by decide, by decide, by decide, by decide⟩ (Nat.le_of_ble_eq_true rfl) ?_
  refine me_istore_n C 3 dX12_takes_6 rfl (by decide) (L' := [(3, me_i r1), (0, me_r 36 0), (1, me_i v1), (2, me_i v2)]) rfl ?_
  refine me_iload_n C 3 dX12_takes_7 rfl rfl ?_
  refine me_iconst C (v := -1) dX12_takes_8 (by decide) ?_
  refine me_icmp_ne C (tgt := 21) dX12_takes_9 (by decide) (fun c2 => ?_) (fun c2 => ?_)
  · replace hf := me_in c2 hf
    refine me_aload_n C 0 (Or.inr (Or.inl ⟨_, rfl⟩)) dX12_takes_21 rfl rfl ?_
    refine me_getr C hB 32 (k' := 87) (i' := 0) fg_M_109 dX12_takes_22 rfl rfl ?_
    refine me_iload_n C 1 dX12_takes_25 rfl rfl ?_
    obtain ⟨g3, hf⟩ := me_gs hf
    refine me_iald C rfl (fun _ => rfl) g3 dX12_takes_26 ?_
    refine me_bipush C (v := 6) dX12_takes_27 (by decide) ?_
    refine me_icmp_ge C (tgt := 36) dX12_takes_29 (by decide) (fun c4 => ?_) (fun c4 => ?_)
    · replace hf := me_ip c4 hf
      refine me_iconst C (v := 0) dX12_takes_36 (by decide) ?_
      refine me_dropI [(0, me_r 36 0), (1, me_i v1), (3, me_i r1)] [1, 2, 0] rfl ?_
      exact z_M_takes_b37 C N hNx hB hf
    · replace hf := me_in c4 hf
      refine me_iconst C (v := 1) dX12_takes_32 (by decide) ?_
      refine me_goto C (tgt := 37) dX12_takes_33 (by decide) ?_
      refine me_dropI [(0, me_r 36 0), (1, me_i v1), (3, me_i r1)] [1, 2, 0] rfl ?_
      exact z_M_takes_b37 C N hNx hB hf
  · replace hf := me_ip c2 hf
    refine me_aload_n C 0 (Or.inr (Or.inl ⟨_, rfl⟩)) dX12_takes_12 rfl rfl ?_
    refine me_getr C hB 36 (k' := 89) (i' := 0) fg_M_123 dX12_takes_13 rfl rfl ?_
    refine me_iload_n C 1 dX12_takes_16 rfl rfl ?_
    refine me_bipush C (v := 119) dX12_takes_17 (by decide) ?_
    obtain ⟨g5, hf⟩ := me_gs hf
    obtain ⟨μ6, e_μ6, hf⟩ := me_lts hf
    refine me_cast C rfl (fun _ => rfl) g5 dX12_takes_19 e_μ6 ?_
    exact me_vret C N dX12_takes_20 (by cases hf; rfl) (by decide) (by decide)
theorem c_M_takes {B : me_B} (hB : me_St B) {μ : me_M} {v1 : Int32} {v2 : Int32} {μ' : me_M} {r : Unit}  (hf : f_M_takes μ v1 v2 = some (μ', r)) : ∀ l E z, l.stackTraces = false → me_Met l yX12_takes cX12_takes 5 none 2 47 0 0 E B μ z [me_r 36 0, me_i v1, me_i v2] (B, μ', .ok (none)) :=
  fun _ _ _ hl => me_ofZ hl (by decide +kernel) (Nat.le_of_ble_eq_true rfl) (fun _ C N hNx => z_M_takes C N hNx hB  hf)

def f_M_sends (μ : me_M) (v1 : Int32) (v2 : Int32) : Option (me_M × Unit) :=
  me_b2 (f_M_has μ v1 (1 : Int32)) (fun μ2 r1 =>
  if r1 = 0 then
  (some (μ2, ()))
  else
  (me_bd (f_M_room μ2) (fun r4 =>
  if (1 : Int32) ≤ r4 then
  (me_b2 (f_M_pop μ2 v1) (fun μ7 r6 =>
  me_b2 (f_M_made μ7 (109 : Int32) v1 v2 r6 (1 : Int32)) (fun μ9 r8 =>
  me_gd (me_inb v1 16) (
  me_gd (me_inb v1 16) (
  me_lt (me_up μ9 91 0 (me_ix v1) ((μ9 91 0 (me_ix v1)) + (1 : Int32))) (fun μ12 =>
  some (μ12, ())))))))
  else
  (me_b2 (f_M_fails μ2 v1 (112 : Int32)) (fun μ14 r13 =>
  some (μ14, ()))))))
set_option maxHeartbeats 4000000 in
set_option maxRecDepth 100000 in
theorem z_M_sends {X : me_X} {B : me_B} {sz : Nat} (C : me_C X B RX12 cX12_sends 4 none) {μ : me_M} {v1 : Int32} {v2 : Int32}   {r : me_M × Unit} (N : me_En X B sz (B, r.1, .ok (none)) 2 44 0 0) (hNx : me_Nx X) (hB : me_St B)   (hf : f_M_sends μ v1 v2 = some r) : me_Z X B 0 0 μ 0 [(0, me_r 36 0), (1, me_i v1), (2, me_i v2)] [] := by
  unfold f_M_sends at hf
  refine me_aload_n C 0 (Or.inr (Or.inl ⟨_, rfl⟩)) dX12_sends_0 rfl rfl ?_
  refine me_iload_n C 1 dX12_sends_1 rfl rfl ?_
  refine me_iconst C (v := 1) dX12_sends_2 (by decide) ?_
  obtain ⟨μ2, r1, h_r1, hf⟩ := me_bs2 hf
  refine me_callV C N  (As := [me_i v1, me_i (1 : Int32)]) (st := []) 0 0 (c_M_has hB h_r1) mv_M_has ml_M_263 rfl rfl dX12_sends_3 rfl rfl ⟨by decide, by decide⟩ ⟨by decide, by decide, by decide, by decide⟩ (Nat.le_of_ble_eq_true rfl) ?_
  refine me_if_ne C (tgt := 10) dX12_sends_6 (by decide) (fun c3 => ?_) (fun c3 => ?_)
  · replace hf := me_in c3 hf
    refine me_aload_n C 0 (Or.inr (Or.inl ⟨_, rfl⟩)) dX12_sends_10 rfl rfl ?_
    obtain ⟨r4, h_r4, hf⟩ := me_bs hf
    refine me_callV C N  (As := []) (st := []) 0 0 (c_M_room hB h_r4) mv_M_room ml_M_169 rfl rfl dX12_sends_11 rfl rfl ⟨by decide, by decide⟩ ⟨by decide, by decide, by decide, by decide⟩ (Nat.le_of_ble_eq_true rfl) ?_
    refine me_iconst C (v := 1) dX12_sends_14 (by decide) ?_
    refine me_icmp_ge C (tgt := 26) dX12_sends_15 (by decide) (fun c5 => ?_) (fun c5 => ?_)
    · replace hf := me_ip c5 hf
      refine me_aload_n C 0 (Or.inr (Or.inl ⟨_, rfl⟩)) dX12_sends_26 rfl rfl ?_
      refine me_bipush C (v := 109) dX12_sends_27 (by decide) ?_
      refine me_iload_n C 1 dX12_sends_29 rfl rfl ?_
      refine me_iload_n C 2 dX12_sends_30 rfl rfl ?_
      refine me_aload_n C 0 (Or.inr (Or.inl ⟨_, rfl⟩)) dX12_sends_31 rfl rfl ?_
      refine me_iload_n C 1 dX12_sends_32 rfl rfl ?_
      obtain ⟨μ7, r6, h_r6, hf⟩ := me_bs2 hf
      refine me_callV C N  (As := [me_i v1]) (st := [me_i v2, me_i v1, me_i (109 : Int32), me_r 36 0]) 0 0 (c_M_pop hB h_r6) mv_M_pop ml_M_267 rfl rfl dX12_sends_33 rfl rfl ⟨by decide, by decide⟩ ⟨by decide, by decide, by decide, by decide⟩ (Nat.le_of_ble_eq_true rfl) ?_
      refine me_iconst C (v := 1) dX12_sends_36 (by decide) ?_
      obtain ⟨μ9, r8, h_r8, hf⟩ := me_bs2 hf
      refine me_callV C N  (As := [me_i (109 : Int32), me_i v1, me_i v2, me_i r6, me_i (1 : Int32)]) (st := []) 0 0 (c_M_made hB h_r8) mv_M_made ml_M_172 rfl rfl dX12_sends_37 rfl rfl ⟨by decide, by decide⟩ ⟨by decide, by decide, by decide, by decide⟩ (Nat.le_of_ble_eq_true rfl) ?_
      refine me_istore_n C 3 dX12_sends_40 rfl (by decide) (L' := [(3, me_i r8), (0, me_r 36 0), (1, me_i v1), (2, me_i v2)]) rfl ?_
      refine me_aload_n C 0 (Or.inr (Or.inl ⟨_, rfl⟩)) dX12_sends_41 rfl rfl ?_
      refine me_getr C hB 38 (k' := 91) (i' := 0) fg_M_129 dX12_sends_42 rfl rfl ?_
      refine me_iload_n C 1 dX12_sends_45 rfl rfl ?_
      refine me_dup2 C rfl rfl dX12_sends_46 ?_
      obtain ⟨g10, hf⟩ := me_gs hf
      refine me_iald C rfl (fun _ => rfl) g10 dX12_sends_47 ?_
      refine me_iconst C (v := 1) dX12_sends_48 (by decide) ?_
      refine me_iadd C dX12_sends_49 ?_
      obtain ⟨g11, hf⟩ := me_gs hf
      obtain ⟨μ12, e_μ12, hf⟩ := me_lts hf
      refine me_iast C rfl (fun _ => rfl) g11 dX12_sends_50 e_μ12 ?_
      exact me_vret C N dX12_sends_51 (by cases hf; rfl) (by decide) (by decide)
    · replace hf := me_in c5 hf
      refine me_aload_n C 0 (Or.inr (Or.inl ⟨_, rfl⟩)) dX12_sends_18 rfl rfl ?_
      refine me_iload_n C 1 dX12_sends_19 rfl rfl ?_
      refine me_bipush C (v := 112) dX12_sends_20 (by decide) ?_
      obtain ⟨μ14, r13, h_r13, hf⟩ := me_bs2 hf
      refine me_callV0 C N  (As := [me_i v1, me_i (112 : Int32)]) (st := []) 0 0 (c_M_fails hB h_r13) mv_M_fails ml_M_256 rfl rfl dX12_sends_22 rfl rfl ⟨by decide, by decide⟩ ⟨by decide, by decide, by decide, by decide⟩ (Nat.le_of_ble_eq_true rfl) ?_
      exact me_vret C N dX12_sends_25 (by cases hf; rfl) (by decide) (by decide)
  · replace hf := me_ip c3 hf
    exact me_vret C N dX12_sends_9 (by cases hf; rfl) (by decide) (by decide)
theorem c_M_sends {B : me_B} (hB : me_St B) {μ : me_M} {v1 : Int32} {v2 : Int32} {μ' : me_M} {r : Unit}  (hf : f_M_sends μ v1 v2 = some (μ', r)) : ∀ l E z, l.stackTraces = false → me_Met l yX12_sends cX12_sends 4 none 2 44 0 0 E B μ z [me_r 36 0, me_i v1, me_i v2] (B, μ', .ok (none)) :=
  fun _ _ _ hl => me_ofZ hl (by decide +kernel) (Nat.le_of_ble_eq_true rfl) (fun _ C N hNx => z_M_sends C N hNx hB  hf)

def f_M_does_b253 (μ : me_M) (s0 : Int32) (s1 : Int32) : Option (me_M × Unit) :=
  me_gd (me_inb s1 16) (
  me_lt (me_up μ 91 0 (me_ix s1) s0) (fun μ2 =>
  some (μ2, ())))
set_option maxHeartbeats 4000000 in
set_option maxRecDepth 100000 in
theorem z_M_does_b253 {X : me_X} {B : me_B} {sz : Nat} (C : me_C X B RX12 cX12_does 7 none) {μ : me_M} {s0 : Int32} {s1 : Int32}   {r : me_M × Unit} (N : me_En X B sz (B, r.1, .ok (none)) 3 71 0 0) (hNx : me_Nx X) (hB : me_St B)   (hf : f_M_does_b253 μ s0 s1 = some r) : me_Z X B 0 0 μ 253 [] [me_i s0, me_i s1, me_r 91 0] := by
  unfold f_M_does_b253 at hf
  obtain ⟨g1, hf⟩ := me_gs hf
  obtain ⟨μ2, e_μ2, hf⟩ := me_lts hf
  refine me_iast C rfl (fun _ => rfl) g1 dX12_does_253 e_μ2 ?_
  refine me_goto C (tgt := 340) dX12_does_254 (by decide) ?_
  exact me_vret C N dX12_does_340 (by cases hf; rfl) (by decide) (by decide)
def f_M_does_b337 (μ : me_M) (s0 : Int32) (s1 : Int32) : Option (me_M × Unit) :=
  me_b2 (f_M_push μ s1 s0) (fun μ2 r1 =>
  some (μ2, ()))
set_option maxHeartbeats 4000000 in
set_option maxRecDepth 100000 in
theorem z_M_does_b337 {X : me_X} {B : me_B} {sz : Nat} (C : me_C X B RX12 cX12_does 7 none) {μ : me_M} {s0 : Int32} {s1 : Int32}   {r : me_M × Unit} (N : me_En X B sz (B, r.1, .ok (none)) 3 71 0 0) (hNx : me_Nx X) (hB : me_St B)   (hf : f_M_does_b337 μ s0 s1 = some r) : me_Z X B 0 0 μ 337 [] [me_i s0, me_i s1, me_r 36 0] := by
  unfold f_M_does_b337 at hf
  obtain ⟨μ2, r1, h_r1, hf⟩ := me_bs2 hf
  refine me_callV0 C N  (As := [me_i s1, me_i s0]) (st := []) 0 0 (c_M_push hB h_r1) mv_M_push ml_M_260 rfl rfl dX12_does_337 rfl rfl ⟨by decide, by decide⟩ ⟨by decide, by decide, by decide, by decide⟩ (Nat.le_of_ble_eq_true rfl) ?_
  exact me_vret C N dX12_does_340 (by cases hf; rfl) (by decide) (by decide)
def f_M_does (μ : me_M) (v1 : Int32) : Option (me_M × Unit) :=
  me_gd (me_inb v1 16) (
  me_lt ((μ 91 0 (me_ix v1))) (fun x2 =>
  me_gd (me_inb v1 16) (
  if x2 < (μ 88 0 (me_ix v1)) then
  (me_gd (me_inb v1 16) (
  me_gd (me_inb x2 12) (
  me_lt ((μ 80 (me_ix v1) (me_ix x2))) (fun x7 =>
  me_gd (me_inb v1 16) (
  me_gd (me_inb x2 12) (
  me_lt ((μ 82 (me_ix v1) (me_ix x2))) (fun x10 =>
  me_gd (me_inb v1 16) (
  me_lt (me_up μ 89 0 (me_ix v1) (vp_nar .char (114 : Int32))) (fun μ12 =>
  if x7 = (98 : Int32) then
  (me_gd (me_inb v1 16) (
  me_lt (me_up μ12 89 0 (me_ix v1) (vp_nar .char (98 : Int32))) (fun μ15 =>
  some (μ15, ()))))
  else if x7 = (100 : Int32) then
  (me_b2 (f_M_sends μ12 v1 x10) (fun μ18 r17 =>
  some (μ18, ())))
  else if x7 = (104 : Int32) then
  (me_gd (me_inb v1 16) (
  me_lt (me_up μ12 89 0 (me_ix v1) (vp_nar .char (104 : Int32))) (fun μ21 =>
  some (μ21, ()))))
  else if x7 = (106 : Int32) then
  (me_b2 (f_M_has μ12 v1 (1 : Int32)) (fun μ24 r23 =>
  if r23 = 0 then
  (some (μ24, ()))
  else
  (me_b2 (f_M_pop μ24 v1) (fun μ27 r26 =>
  if r26 = 0 then
  (f_M_does_b253 μ27 (x2 + (1 : Int32)) v1)
  else
  (f_M_does_b253 μ27 x10 v1)))))
  else if x7 = (108 : Int32) then
  (me_gd (me_inb v1 16) (
  me_gd (me_inb x10 8) (
  me_b2 (f_M_push μ12 v1 (μ12 76 (me_ix v1) (me_ix x10))) (fun μ33 r32 =>
  some (μ33, ())))))
  else if x7 = (112 : Int32) then
  (me_b2 (f_M_push μ12 v1 x10) (fun μ36 r35 =>
  some (μ36, ())))
  else if x7 = (114 : Int32) then
  (me_b2 (f_M_takes μ12 v1 x10) (fun μ39 r38 =>
  some (μ39, ())))
  else if x7 = (115 : Int32) then
  (me_b2 (f_M_has μ12 v1 (1 : Int32)) (fun μ42 r41 =>
  if r41 = 0 then
  (some (μ42, ()))
  else
  (me_gd (me_inb v1 16) (
  me_b2 (f_M_pop μ42 v1) (fun μ46 r45 =>
  me_gd (me_inb x10 8) (
  me_lt (me_up μ46 76 (me_ix v1) (me_ix x10) r45) (fun μ48 =>
  me_gd (me_inb v1 16) (
  me_gd (me_inb v1 16) (
  me_lt (me_up μ48 91 0 (me_ix v1) ((μ48 91 0 (me_ix v1)) + (1 : Int32))) (fun μ51 =>
  some (μ51, ())))))))))))
  else (me_b2 (f_M_has μ12 v1 (2 : Int32)) (fun μ53 r52 =>
  if r52 = 0 then
  (some (μ53, ()))
  else
  (me_b2 (f_M_pop μ53 v1) (fun μ56 r55 =>
  me_b2 (f_M_pop μ56 v1) (fun μ58 r57 =>
  if x7 = (43 : Int32) then
  (f_M_does_b337 μ58 (r57 + r55) v1)
  else
  (if x7 = (45 : Int32) then
  (f_M_does_b337 μ58 (r57 - r55) v1)
  else
  (f_M_does_b337 μ58 (r57 * r55) v1))))))))))))))))
  else
  (me_b2 (f_M_fails μ v1 (106 : Int32)) (fun μ62 r61 =>
  some (μ62, ()))))))
set_option maxHeartbeats 4000000 in
set_option maxRecDepth 100000 in
theorem z_M_does {X : me_X} {B : me_B} {sz : Nat} (C : me_C X B RX12 cX12_does 7 none) {μ : me_M} {v1 : Int32}   {r : me_M × Unit} (N : me_En X B sz (B, r.1, .ok (none)) 3 71 0 0) (hNx : me_Nx X) (hB : me_St B)   (hf : f_M_does μ v1 = some r) : me_Z X B 0 0 μ 0 [(0, me_r 36 0), (1, me_i v1)] [] := by
  unfold f_M_does at hf
  refine me_aload_n C 0 (Or.inr (Or.inl ⟨_, rfl⟩)) dX12_does_0 rfl rfl ?_
  refine me_getr C hB 38 (k' := 91) (i' := 0) fg_M_129 dX12_does_1 rfl rfl ?_
  refine me_iload_n C 1 dX12_does_4 rfl rfl ?_
  obtain ⟨g1, hf⟩ := me_gs hf
  refine me_iald C rfl (fun _ => rfl) g1 dX12_does_5 ?_
  obtain ⟨x2, e_x2, hf⟩ := me_lts hf
  refine me_nm e_x2 ?_
  refine me_istore_n C 2 dX12_does_6 rfl (by decide) (L' := [(2, me_i x2), (0, me_r 36 0), (1, me_i v1)]) rfl ?_
  refine me_iload_n C 2 dX12_does_7 rfl rfl ?_
  refine me_aload_n C 0 (Or.inr (Or.inl ⟨_, rfl⟩)) dX12_does_8 rfl rfl ?_
  refine me_getr C hB 35 (k' := 88) (i' := 0) fg_M_120 dX12_does_9 rfl rfl ?_
  refine me_iload_n C 1 dX12_does_12 rfl rfl ?_
  obtain ⟨g3, hf⟩ := me_gs hf
  refine me_iald C rfl (fun _ => rfl) g3 dX12_does_13 ?_
  refine me_icmp_lt C (tgt := 25) dX12_does_14 (by decide) (fun c4 => ?_) (fun c4 => ?_)
  · replace hf := me_ip c4 hf
    refine me_aload_n C 0 (Or.inr (Or.inl ⟨_, rfl⟩)) dX12_does_25 rfl rfl ?_
    refine me_getr C hB 33 (k' := 79) (i' := 0) fg_M_114 dX12_does_26 rfl rfl ?_
    refine me_iload_n C 1 dX12_does_29 rfl rfl ?_
    obtain ⟨g5, hf⟩ := me_gs hf
    refine me_aald C hB (k' := 80) (i' := (me_ix v1)) rfl (fun _ => rfl) rfl g5 dX12_does_30 rfl ?_
    refine me_iload_n C 2 dX12_does_31 rfl rfl ?_
    obtain ⟨g6, hf⟩ := me_gs hf
    refine me_cald C rfl (fun _ => rfl) g6 dX12_does_32 ?_
    obtain ⟨x7, e_x7, hf⟩ := me_lts hf
    refine me_nm e_x7 ?_
    refine me_istore_n C 3 dX12_does_33 rfl (by decide) (L' := [(3, me_i x7), (2, me_i x2), (0, me_r 36 0), (1, me_i v1)]) rfl ?_
    refine me_aload_n C 0 (Or.inr (Or.inl ⟨_, rfl⟩)) dX12_does_34 rfl rfl ?_
    refine me_getr C hB 34 (k' := 81) (i' := 0) fg_M_117 dX12_does_35 rfl rfl ?_
    refine me_iload_n C 1 dX12_does_38 rfl rfl ?_
    obtain ⟨g8, hf⟩ := me_gs hf
    refine me_aald C hB (k' := 82) (i' := (me_ix v1)) rfl (fun _ => rfl) rfl g8 dX12_does_39 rfl ?_
    refine me_iload_n C 2 dX12_does_40 rfl rfl ?_
    obtain ⟨g9, hf⟩ := me_gs hf
    refine me_iald C rfl (fun _ => rfl) g9 dX12_does_41 ?_
    obtain ⟨x10, e_x10, hf⟩ := me_lts hf
    refine me_nm e_x10 ?_
    refine me_istore C dX12_does_42 (by decide) (L' := [(4, me_i x10), (3, me_i x7), (2, me_i x2), (0, me_r 36 0), (1, me_i v1)]) rfl ?_
    refine me_aload_n C 0 (Or.inr (Or.inl ⟨_, rfl⟩)) dX12_does_44 rfl rfl ?_
    refine me_getr C hB 36 (k' := 89) (i' := 0) fg_M_123 dX12_does_45 rfl rfl ?_
    refine me_iload_n C 1 dX12_does_48 rfl rfl ?_
    refine me_bipush C (v := 114) dX12_does_49 (by decide) ?_
    obtain ⟨g11, hf⟩ := me_gs hf
    obtain ⟨μ12, e_μ12, hf⟩ := me_lts hf
    refine me_cast C rfl (fun _ => rfl) g11 dX12_does_51 e_μ12 ?_
    refine me_iload_n C 3 dX12_does_52 rfl rfl ?_
    by_cases c13 : x7 = (98 : Int32)
    · refine me_tab C (204) (tgt := 257) dX12_does_53 (by rw [c13]; decide +kernel) (by decide) ?_
      replace hf := me_ip c13 hf
      refine me_aload_n C 0 (Or.inr (Or.inl ⟨_, rfl⟩)) dX12_does_257 rfl rfl ?_
      refine me_getr C hB 36 (k' := 89) (i' := 0) fg_M_123 dX12_does_258 rfl rfl ?_
      refine me_iload_n C 1 dX12_does_261 rfl rfl ?_
      refine me_bipush C (v := 98) dX12_does_262 (by decide) ?_
      obtain ⟨g14, hf⟩ := me_gs hf
      obtain ⟨μ15, e_μ15, hf⟩ := me_lts hf
      refine me_cast C rfl (fun _ => rfl) g14 dX12_does_264 e_μ15 ?_
      refine me_goto C (tgt := 340) dX12_does_265 (by decide) ?_
      exact me_vret C N dX12_does_340 (by cases hf; rfl) (by decide) (by decide)
    replace hf := me_in c13 hf
    by_cases c16 : x7 = (100 : Int32)
    · refine me_tab C (150) (tgt := 203) dX12_does_53 (by rw [c16]; decide +kernel) (by decide) ?_
      replace hf := me_ip c16 hf
      refine me_aload_n C 0 (Or.inr (Or.inl ⟨_, rfl⟩)) dX12_does_203 rfl rfl ?_
      refine me_iload_n C 1 dX12_does_204 rfl rfl ?_
      refine me_iload C dX12_does_205 rfl ?_
      obtain ⟨μ18, r17, h_r17, hf⟩ := me_bs2 hf
      refine me_callV0 C N  (As := [me_i v1, me_i x10]) (st := []) 0 0 (c_M_sends hB h_r17) mv_M_sends ml_M_270 rfl rfl dX12_does_207 rfl rfl ⟨by decide, by decide⟩ ⟨by decide, by decide, by decide, by decide⟩ (Nat.le_of_ble_eq_true rfl) ?_
      refine me_goto C (tgt := 340) dX12_does_210 (by decide) ?_
      exact me_vret C N dX12_does_340 (by cases hf; rfl) (by decide) (by decide)
    replace hf := me_in c16 hf
    by_cases c19 : x7 = (104 : Int32)
    · refine me_tab C (215) (tgt := 268) dX12_does_53 (by rw [c19]; decide +kernel) (by decide) ?_
      replace hf := me_ip c19 hf
      refine me_aload_n C 0 (Or.inr (Or.inl ⟨_, rfl⟩)) dX12_does_268 rfl rfl ?_
      refine me_getr C hB 36 (k' := 89) (i' := 0) fg_M_123 dX12_does_269 rfl rfl ?_
      refine me_iload_n C 1 dX12_does_272 rfl rfl ?_
      refine me_bipush C (v := 104) dX12_does_273 (by decide) ?_
      obtain ⟨g20, hf⟩ := me_gs hf
      obtain ⟨μ21, e_μ21, hf⟩ := me_lts hf
      refine me_cast C rfl (fun _ => rfl) g20 dX12_does_275 e_μ21 ?_
      refine me_goto C (tgt := 340) dX12_does_276 (by decide) ?_
      exact me_vret C N dX12_does_340 (by cases hf; rfl) (by decide) (by decide)
    replace hf := me_in c19 hf
    by_cases c22 : x7 = (106 : Int32)
    · refine me_tab C (170) (tgt := 223) dX12_does_53 (by rw [c22]; decide +kernel) (by decide) ?_
      replace hf := me_ip c22 hf
      refine me_aload_n C 0 (Or.inr (Or.inl ⟨_, rfl⟩)) dX12_does_223 rfl rfl ?_
      refine me_iload_n C 1 dX12_does_224 rfl rfl ?_
      refine me_iconst C (v := 1) dX12_does_225 (by decide) ?_
      obtain ⟨μ24, r23, h_r23, hf⟩ := me_bs2 hf
      refine me_callV C N  (As := [me_i v1, me_i (1 : Int32)]) (st := []) 0 0 (c_M_has hB h_r23) mv_M_has ml_M_263 rfl rfl dX12_does_226 rfl rfl ⟨by decide, by decide⟩ ⟨by decide, by decide, by decide, by decide⟩ (Nat.le_of_ble_eq_true rfl) ?_
      refine me_if_eq C (tgt := 340) dX12_does_229 (by decide) (fun c25 => ?_) (fun c25 => ?_)
      · replace hf := me_ip c25 hf
        exact me_vret C N dX12_does_340 (by cases hf; rfl) (by decide) (by decide)
      · replace hf := me_in c25 hf
        refine me_aload_n C 0 (Or.inr (Or.inl ⟨_, rfl⟩)) dX12_does_232 rfl rfl ?_
        refine me_getr C hB 38 (k' := 91) (i' := 0) fg_M_129 dX12_does_233 rfl rfl ?_
        refine me_iload_n C 1 dX12_does_236 rfl rfl ?_
        refine me_aload_n C 0 (Or.inr (Or.inl ⟨_, rfl⟩)) dX12_does_237 rfl rfl ?_
        refine me_iload_n C 1 dX12_does_238 rfl rfl ?_
        obtain ⟨μ27, r26, h_r26, hf⟩ := me_bs2 hf
        refine me_callV C N  (As := [me_i v1]) (st := [me_i v1, me_r 91 0]) 0 0 (c_M_pop hB h_r26) mv_M_pop ml_M_267 rfl rfl dX12_does_239 rfl rfl ⟨by decide, by decide⟩ ⟨by decide, by decide, by decide, by decide⟩ (Nat.le_of_ble_eq_true rfl) ?_
        refine me_if_eq C (tgt := 250) dX12_does_242 (by decide) (fun c28 => ?_) (fun c28 => ?_)
        · replace hf := me_ip c28 hf
          refine me_iload_n C 2 dX12_does_250 rfl rfl ?_
          refine me_iconst C (v := 1) dX12_does_251 (by decide) ?_
          refine me_iadd C dX12_does_252 ?_
          refine me_dropI [] [] rfl ?_
          exact z_M_does_b253 C N hNx hB hf
        · replace hf := me_in c28 hf
          refine me_iload C dX12_does_245 rfl ?_
          refine me_goto C (tgt := 253) dX12_does_247 (by decide) ?_
          refine me_dropI [] [] rfl ?_
          exact z_M_does_b253 C N hNx hB hf
    replace hf := me_in c22 hf
    by_cases c29 : x7 = (108 : Int32)
    · refine me_tab C (97) (tgt := 150) dX12_does_53 (by rw [c29]; decide +kernel) (by decide) ?_
      replace hf := me_ip c29 hf
      refine me_aload_n C 0 (Or.inr (Or.inl ⟨_, rfl⟩)) dX12_does_150 rfl rfl ?_
      refine me_iload_n C 1 dX12_does_151 rfl rfl ?_
      refine me_aload_n C 0 (Or.inr (Or.inl ⟨_, rfl⟩)) dX12_does_152 rfl rfl ?_
      refine me_getr C hB 30 (k' := 75) (i' := 0) fg_M_103 dX12_does_153 rfl rfl ?_
      refine me_iload_n C 1 dX12_does_156 rfl rfl ?_
      obtain ⟨g30, hf⟩ := me_gs hf
      refine me_aald C hB (k' := 76) (i' := (me_ix v1)) rfl (fun _ => rfl) rfl g30 dX12_does_157 rfl ?_
      refine me_iload C dX12_does_158 rfl ?_
      obtain ⟨g31, hf⟩ := me_gs hf
      refine me_iald C rfl (fun _ => rfl) g31 dX12_does_160 ?_
      obtain ⟨μ33, r32, h_r32, hf⟩ := me_bs2 hf
      refine me_callV0 C N  (As := [me_i v1, me_i (μ12 76 (me_ix v1) (me_ix x10))]) (st := []) 0 0 (c_M_push hB h_r32) mv_M_push ml_M_260 rfl rfl dX12_does_161 rfl rfl ⟨by decide, by decide⟩ ⟨by decide, by decide, by decide, by decide⟩ (Nat.le_of_ble_eq_true rfl) ?_
      refine me_goto C (tgt := 340) dX12_does_164 (by decide) ?_
      exact me_vret C N dX12_does_340 (by cases hf; rfl) (by decide) (by decide)
    replace hf := me_in c29 hf
    by_cases c34 : x7 = (112 : Int32)
    · refine me_tab C (87) (tgt := 140) dX12_does_53 (by rw [c34]; decide +kernel) (by decide) ?_
      replace hf := me_ip c34 hf
      refine me_aload_n C 0 (Or.inr (Or.inl ⟨_, rfl⟩)) dX12_does_140 rfl rfl ?_
      refine me_iload_n C 1 dX12_does_141 rfl rfl ?_
      refine me_iload C dX12_does_142 rfl ?_
      obtain ⟨μ36, r35, h_r35, hf⟩ := me_bs2 hf
      refine me_callV0 C N  (As := [me_i v1, me_i x10]) (st := []) 0 0 (c_M_push hB h_r35) mv_M_push ml_M_260 rfl rfl dX12_does_144 rfl rfl ⟨by decide, by decide⟩ ⟨by decide, by decide, by decide, by decide⟩ (Nat.le_of_ble_eq_true rfl) ?_
      refine me_goto C (tgt := 340) dX12_does_147 (by decide) ?_
      exact me_vret C N dX12_does_340 (by cases hf; rfl) (by decide) (by decide)
    replace hf := me_in c34 hf
    by_cases c37 : x7 = (114 : Int32)
    · refine me_tab C (160) (tgt := 213) dX12_does_53 (by rw [c37]; decide +kernel) (by decide) ?_
      replace hf := me_ip c37 hf
      refine me_aload_n C 0 (Or.inr (Or.inl ⟨_, rfl⟩)) dX12_does_213 rfl rfl ?_
      refine me_iload_n C 1 dX12_does_214 rfl rfl ?_
      refine me_iload C dX12_does_215 rfl ?_
      obtain ⟨μ39, r38, h_r38, hf⟩ := me_bs2 hf
      refine me_callV0 C N  (As := [me_i v1, me_i x10]) (st := []) 0 0 (c_M_takes hB h_r38) mv_M_takes ml_M_273 rfl rfl dX12_does_217 rfl rfl ⟨by decide, by decide⟩ ⟨by decide, by decide, by decide, by decide⟩ (Nat.le_of_ble_eq_true rfl) ?_
      refine me_goto C (tgt := 340) dX12_does_220 (by decide) ?_
      exact me_vret C N dX12_does_340 (by cases hf; rfl) (by decide) (by decide)
    replace hf := me_in c37 hf
    by_cases c40 : x7 = (115 : Int32)
    · refine me_tab C (114) (tgt := 167) dX12_does_53 (by rw [c40]; decide +kernel) (by decide) ?_
      replace hf := me_ip c40 hf
      refine me_aload_n C 0 (Or.inr (Or.inl ⟨_, rfl⟩)) dX12_does_167 rfl rfl ?_
      refine me_iload_n C 1 dX12_does_168 rfl rfl ?_
      refine me_iconst C (v := 1) dX12_does_169 (by decide) ?_
      obtain ⟨μ42, r41, h_r41, hf⟩ := me_bs2 hf
      refine me_callV C N  (As := [me_i v1, me_i (1 : Int32)]) (st := []) 0 0 (c_M_has hB h_r41) mv_M_has ml_M_263 rfl rfl dX12_does_170 rfl rfl ⟨by decide, by decide⟩ ⟨by decide, by decide, by decide, by decide⟩ (Nat.le_of_ble_eq_true rfl) ?_
      refine me_if_eq C (tgt := 340) dX12_does_173 (by decide) (fun c43 => ?_) (fun c43 => ?_)
      · replace hf := me_ip c43 hf
        exact me_vret C N dX12_does_340 (by cases hf; rfl) (by decide) (by decide)
      · replace hf := me_in c43 hf
        refine me_aload_n C 0 (Or.inr (Or.inl ⟨_, rfl⟩)) dX12_does_176 rfl rfl ?_
        refine me_getr C hB 30 (k' := 75) (i' := 0) fg_M_103 dX12_does_177 rfl rfl ?_
        refine me_iload_n C 1 dX12_does_180 rfl rfl ?_
        obtain ⟨g44, hf⟩ := me_gs hf
        refine me_aald C hB (k' := 76) (i' := (me_ix v1)) rfl (fun _ => rfl) rfl g44 dX12_does_181 rfl ?_
        refine me_iload C dX12_does_182 rfl ?_
        refine me_aload_n C 0 (Or.inr (Or.inl ⟨_, rfl⟩)) dX12_does_184 rfl rfl ?_
        refine me_iload_n C 1 dX12_does_185 rfl rfl ?_
        obtain ⟨μ46, r45, h_r45, hf⟩ := me_bs2 hf
        refine me_callV C N  (As := [me_i v1]) (st := [me_i x10, me_r 76 (me_ix v1)]) 0 0 (c_M_pop hB h_r45) mv_M_pop ml_M_267 rfl rfl dX12_does_186 rfl rfl ⟨by decide, by decide⟩ ⟨by decide, by decide, by decide, by decide⟩ (Nat.le_of_ble_eq_true rfl) ?_
        obtain ⟨g47, hf⟩ := me_gs hf
        obtain ⟨μ48, e_μ48, hf⟩ := me_lts hf
        refine me_iast C rfl (fun _ => rfl) g47 dX12_does_189 e_μ48 ?_
        refine me_aload_n C 0 (Or.inr (Or.inl ⟨_, rfl⟩)) dX12_does_190 rfl rfl ?_
        refine me_getr C hB 38 (k' := 91) (i' := 0) fg_M_129 dX12_does_191 rfl rfl ?_
        refine me_iload_n C 1 dX12_does_194 rfl rfl ?_
        refine me_dup2 C rfl rfl dX12_does_195 ?_
        obtain ⟨g49, hf⟩ := me_gs hf
        refine me_iald C rfl (fun _ => rfl) g49 dX12_does_196 ?_
        refine me_iconst C (v := 1) dX12_does_197 (by decide) ?_
        refine me_iadd C dX12_does_198 ?_
        obtain ⟨g50, hf⟩ := me_gs hf
        obtain ⟨μ51, e_μ51, hf⟩ := me_lts hf
        refine me_iast C rfl (fun _ => rfl) g50 dX12_does_199 e_μ51 ?_
        refine me_goto C (tgt := 340) dX12_does_200 (by decide) ?_
        exact me_vret C N dX12_does_340 (by cases hf; rfl) (by decide) (by decide)
    replace hf := me_in c40 hf
    refine me_tabD C [98, 100, 104, 106, 108, 112, 114, 115] (tgt := 279) dX12_does_53 (by decide +kernel) ⟨c13, c16, c19, c22, c29, c34, c37, c40, trivial⟩ (by decide) ?_
    refine me_aload_n C 0 (Or.inr (Or.inl ⟨_, rfl⟩)) dX12_does_279 rfl rfl ?_
    refine me_iload_n C 1 dX12_does_280 rfl rfl ?_
    refine me_iconst C (v := 2) dX12_does_281 (by decide) ?_
    obtain ⟨μ53, r52, h_r52, hf⟩ := me_bs2 hf
    refine me_callV C N  (As := [me_i v1, me_i (2 : Int32)]) (st := []) 0 0 (c_M_has hB h_r52) mv_M_has ml_M_263 rfl rfl dX12_does_282 rfl rfl ⟨by decide, by decide⟩ ⟨by decide, by decide, by decide, by decide⟩ (Nat.le_of_ble_eq_true rfl) ?_
    refine me_if_eq C (tgt := 340) dX12_does_285 (by decide) (fun c54 => ?_) (fun c54 => ?_)
    · replace hf := me_ip c54 hf
      exact me_vret C N dX12_does_340 (by cases hf; rfl) (by decide) (by decide)
    · replace hf := me_in c54 hf
      refine me_aload_n C 0 (Or.inr (Or.inl ⟨_, rfl⟩)) dX12_does_288 rfl rfl ?_
      refine me_iload_n C 1 dX12_does_289 rfl rfl ?_
      obtain ⟨μ56, r55, h_r55, hf⟩ := me_bs2 hf
      refine me_callV C N  (As := [me_i v1]) (st := []) 0 0 (c_M_pop hB h_r55) mv_M_pop ml_M_267 rfl rfl dX12_does_290 rfl rfl ⟨by decide, by decide⟩ ⟨by decide, by decide, by decide, by decide⟩ (Nat.le_of_ble_eq_true rfl) ?_
      refine me_istore C dX12_does_293 (by decide) (L' := [(5, me_i r55), (4, me_i x10), (3, me_i x7), (2, me_i x2), (0, me_r 36 0), (1, me_i v1)]) rfl ?_
      refine me_aload_n C 0 (Or.inr (Or.inl ⟨_, rfl⟩)) dX12_does_295 rfl rfl ?_
      refine me_iload_n C 1 dX12_does_296 rfl rfl ?_
      obtain ⟨μ58, r57, h_r57, hf⟩ := me_bs2 hf
      refine me_callV C N  (As := [me_i v1]) (st := []) 0 0 (c_M_pop hB h_r57) mv_M_pop ml_M_267 rfl rfl dX12_does_297 rfl rfl ⟨by decide, by decide⟩ ⟨by decide, by decide, by decide, by decide⟩ (Nat.le_of_ble_eq_true rfl) ?_
      refine me_istore C dX12_does_300 (by decide) (L' := [(6, me_i r57), (5, me_i r55), (4, me_i x10), (3, me_i x7), (2, me_i x2), (0, me_r 36 0), (1, me_i v1)]) rfl ?_
      refine me_aload_n C 0 (Or.inr (Or.inl ⟨_, rfl⟩)) dX12_does_302 rfl rfl ?_
      refine me_iload_n C 1 dX12_does_303 rfl rfl ?_
      refine me_iload_n C 3 dX12_does_304 rfl rfl ?_
      refine me_bipush C (v := 43) dX12_does_305 (by decide) ?_
      refine me_icmp_ne C (tgt := 318) dX12_does_307 (by decide) (fun c59 => ?_) (fun c59 => ?_)
      · replace hf := me_in c59 hf
        refine me_iload_n C 3 dX12_does_318 rfl rfl ?_
        refine me_bipush C (v := 45) dX12_does_319 (by decide) ?_
        refine me_icmp_ne C (tgt := 332) dX12_does_321 (by decide) (fun c60 => ?_) (fun c60 => ?_)
        · replace hf := me_in c60 hf
          refine me_iload C dX12_does_332 rfl ?_
          refine me_iload C dX12_does_334 rfl ?_
          refine me_imul C dX12_does_336 ?_
          refine me_dropI [] [] rfl ?_
          exact z_M_does_b337 C N hNx hB hf
        · replace hf := me_ip c60 hf
          refine me_iload C dX12_does_324 rfl ?_
          refine me_iload C dX12_does_326 rfl ?_
          refine me_isub C dX12_does_328 ?_
          refine me_goto C (tgt := 337) dX12_does_329 (by decide) ?_
          refine me_dropI [] [] rfl ?_
          exact z_M_does_b337 C N hNx hB hf
      · replace hf := me_ip c59 hf
        refine me_iload C dX12_does_310 rfl ?_
        refine me_iload C dX12_does_312 rfl ?_
        refine me_iadd C dX12_does_314 ?_
        refine me_goto C (tgt := 337) dX12_does_315 (by decide) ?_
        refine me_dropI [] [] rfl ?_
        exact z_M_does_b337 C N hNx hB hf
  · replace hf := me_in c4 hf
    refine me_aload_n C 0 (Or.inr (Or.inl ⟨_, rfl⟩)) dX12_does_17 rfl rfl ?_
    refine me_iload_n C 1 dX12_does_18 rfl rfl ?_
    refine me_bipush C (v := 106) dX12_does_19 (by decide) ?_
    obtain ⟨μ62, r61, h_r61, hf⟩ := me_bs2 hf
    refine me_callV0 C N  (As := [me_i v1, me_i (106 : Int32)]) (st := []) 0 0 (c_M_fails hB h_r61) mv_M_fails ml_M_256 rfl rfl dX12_does_21 rfl rfl ⟨by decide, by decide⟩ ⟨by decide, by decide, by decide, by decide⟩ (Nat.le_of_ble_eq_true rfl) ?_
    exact me_vret C N dX12_does_24 (by cases hf; rfl) (by decide) (by decide)
theorem c_M_does {B : me_B} (hB : me_St B) {μ : me_M} {v1 : Int32} {μ' : me_M} {r : Unit}  (hf : f_M_does μ v1 = some (μ', r)) : ∀ l E z, l.stackTraces = false → me_Met l yX12_does cX12_does 7 none 3 71 0 0 E B μ z [me_r 36 0, me_i v1] (B, μ', .ok (none)) :=
  fun _ _ _ hl => me_ofZ hl (by decide +kernel) (Nat.le_of_ble_eq_true rfl) (fun _ C N hNx => z_M_does C N hNx hB  hf)
