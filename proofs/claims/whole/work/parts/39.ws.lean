/-! WALKS: M_nodeOf, M_checksum, M_lostShare, M_meanTime, M_isSound -/
theorem dX12_nodeOf_0 : decode cX12_nodeOf 0 = .ok (.aload_n 0, 1) := by decide +kernel
theorem dX12_nodeOf_1 : decode cX12_nodeOf 1 = .ok (.aload_n 0, 1) := by decide +kernel
theorem dX12_nodeOf_2 : decode cX12_nodeOf 2 = .ok (.iload_n 1, 1) := by decide +kernel
theorem dX12_nodeOf_3 : decode cX12_nodeOf 3 = .ok (.invokevirtual 308, 3) := by decide +kernel
theorem dX12_nodeOf_6 : decode cX12_nodeOf 6 = .ok (.iconst 1, 1) := by decide +kernel
theorem dX12_nodeOf_7 : decode cX12_nodeOf 7 = .ok (.invokevirtual 155, 3) := by decide +kernel
theorem dX12_nodeOf_10 : decode cX12_nodeOf 10 = .ok (.ifCond .eq 7, 3) := by decide +kernel
theorem dX12_nodeOf_13 : decode cX12_nodeOf 13 = .ok (.iconst 0, 1) := by decide +kernel
theorem dX12_nodeOf_14 : decode cX12_nodeOf 14 = .ok (.goto 9, 3) := by decide +kernel
theorem dX12_nodeOf_17 : decode cX12_nodeOf 17 = .ok (.aload_n 0, 1) := by decide +kernel
theorem dX12_nodeOf_18 : decode cX12_nodeOf 18 = .ok (.getfield 132, 3) := by decide +kernel
theorem dX12_nodeOf_21 : decode cX12_nodeOf 21 = .ok (.iload_n 1, 1) := by decide +kernel
theorem dX12_nodeOf_22 : decode cX12_nodeOf 22 = .ok (.iaload, 1) := by decide +kernel
theorem dX12_nodeOf_23 : decode cX12_nodeOf 23 = .ok (.ireturn, 1) := by decide +kernel
theorem dX12_checksum_0 : decode cX12_checksum 0 = .ok (.aload_n 0, 1) := by decide +kernel
theorem dX12_checksum_1 : decode cX12_checksum 1 = .ok (.iconst 0, 1) := by decide +kernel
theorem dX12_checksum_2 : decode cX12_checksum 2 = .ok (.putfield 141, 3) := by decide +kernel
theorem dX12_checksum_5 : decode cX12_checksum 5 = .ok (.ldc2_w 328, 3) := by decide +kernel
theorem dX12_checksum_8 : decode cX12_checksum 8 = .ok (.lstore_n 1, 1) := by decide +kernel
theorem dX12_checksum_9 : decode cX12_checksum 9 = .ok (.iconst 0, 1) := by decide +kernel
theorem dX12_checksum_10 : decode cX12_checksum 10 = .ok (.istore_n 3, 1) := by decide +kernel
theorem dX12_checksum_11 : decode cX12_checksum 11 = .ok (.iload_n 3, 1) := by decide +kernel
theorem dX12_checksum_12 : decode cX12_checksum 12 = .ok (.aload_n 0, 1) := by decide +kernel
theorem dX12_checksum_13 : decode cX12_checksum 13 = .ok (.invokevirtual 144, 3) := by decide +kernel
theorem dX12_checksum_16 : decode cX12_checksum 16 = .ok (.if_icmp .ge 129, 3) := by decide +kernel
theorem dX12_checksum_19 : decode cX12_checksum 19 = .ok (.aload_n 0, 1) := by decide +kernel
theorem dX12_checksum_20 : decode cX12_checksum 20 = .ok (.getfield 103, 3) := by decide +kernel
theorem dX12_checksum_23 : decode cX12_checksum 23 = .ok (.iload_n 3, 1) := by decide +kernel
theorem dX12_checksum_24 : decode cX12_checksum 24 = .ok (.aaload, 1) := by decide +kernel
theorem dX12_checksum_25 : decode cX12_checksum 25 = .ok (.astore 4, 2) := by decide +kernel
theorem dX12_checksum_27 : decode cX12_checksum 27 = .ok (.aload 4, 2) := by decide +kernel
theorem dX12_checksum_29 : decode cX12_checksum 29 = .ok (.arraylength, 1) := by decide +kernel
theorem dX12_checksum_30 : decode cX12_checksum 30 = .ok (.istore 5, 2) := by decide +kernel
theorem dX12_checksum_32 : decode cX12_checksum 32 = .ok (.iconst 0, 1) := by decide +kernel
theorem dX12_checksum_33 : decode cX12_checksum 33 = .ok (.istore 6, 2) := by decide +kernel
theorem dX12_checksum_35 : decode cX12_checksum 35 = .ok (.iload 6, 2) := by decide +kernel
theorem dX12_checksum_37 : decode cX12_checksum 37 = .ok (.iload 5, 2) := by decide +kernel
theorem dX12_checksum_39 : decode cX12_checksum 39 = .ok (.if_icmp .ge 26, 3) := by decide +kernel
theorem dX12_checksum_42 : decode cX12_checksum 42 = .ok (.aload 4, 2) := by decide +kernel
theorem dX12_checksum_44 : decode cX12_checksum 44 = .ok (.iload 6, 2) := by decide +kernel
theorem dX12_checksum_46 : decode cX12_checksum 46 = .ok (.iaload, 1) := by decide +kernel
theorem dX12_checksum_47 : decode cX12_checksum 47 = .ok (.istore 7, 2) := by decide +kernel
theorem dX12_checksum_49 : decode cX12_checksum 49 = .ok (.ldc2_w 330, 3) := by decide +kernel
theorem dX12_checksum_52 : decode cX12_checksum 52 = .ok (.lload_n 1, 1) := by decide +kernel
theorem dX12_checksum_53 : decode cX12_checksum 53 = .ok (.lmul, 1) := by decide +kernel
theorem dX12_checksum_54 : decode cX12_checksum 54 = .ok (.iload 7, 2) := by decide +kernel
theorem dX12_checksum_56 : decode cX12_checksum 56 = .ok (.i2l, 1) := by decide +kernel
theorem dX12_checksum_57 : decode cX12_checksum 57 = .ok (.ladd, 1) := by decide +kernel
theorem dX12_checksum_58 : decode cX12_checksum 58 = .ok (.lstore_n 1, 1) := by decide +kernel
theorem dX12_checksum_59 : decode cX12_checksum 59 = .ok (.iinc 6 1, 3) := by decide +kernel
theorem dX12_checksum_62 : decode cX12_checksum 62 = .ok (.goto (-27), 3) := by decide +kernel
theorem dX12_checksum_65 : decode cX12_checksum 65 = .ok (.iconst 0, 1) := by decide +kernel
theorem dX12_checksum_66 : decode cX12_checksum 66 = .ok (.istore 4, 2) := by decide +kernel
theorem dX12_checksum_68 : decode cX12_checksum 68 = .ok (.iconst 0, 1) := by decide +kernel
theorem dX12_checksum_69 : decode cX12_checksum 69 = .ok (.istore 5, 2) := by decide +kernel
theorem dX12_checksum_71 : decode cX12_checksum 71 = .ok (.iload 5, 2) := by decide +kernel
theorem dX12_checksum_73 : decode cX12_checksum 73 = .ok (.iconst 2, 1) := by decide +kernel
theorem dX12_checksum_74 : decode cX12_checksum 74 = .ok (.if_icmp .ge 55, 3) := by decide +kernel
theorem dX12_checksum_77 : decode cX12_checksum 77 = .ok (.aload_n 0, 1) := by decide +kernel
theorem dX12_checksum_78 : decode cX12_checksum 78 = .ok (.getfield 75, 3) := by decide +kernel
theorem dX12_checksum_81 : decode cX12_checksum 81 = .ok (.iload_n 3, 1) := by decide +kernel
theorem dX12_checksum_82 : decode cX12_checksum 82 = .ok (.aaload, 1) := by decide +kernel
theorem dX12_checksum_83 : decode cX12_checksum 83 = .ok (.iload 5, 2) := by decide +kernel
theorem dX12_checksum_85 : decode cX12_checksum 85 = .ok (.aaload, 1) := by decide +kernel
theorem dX12_checksum_86 : decode cX12_checksum 86 = .ok (.astore 6, 2) := by decide +kernel
theorem dX12_checksum_88 : decode cX12_checksum 88 = .ok (.aload 6, 2) := by decide +kernel
theorem dX12_checksum_90 : decode cX12_checksum 90 = .ok (.arraylength, 1) := by decide +kernel
theorem dX12_checksum_91 : decode cX12_checksum 91 = .ok (.istore 7, 2) := by decide +kernel
theorem dX12_checksum_93 : decode cX12_checksum 93 = .ok (.iconst 0, 1) := by decide +kernel
theorem dX12_checksum_94 : decode cX12_checksum 94 = .ok (.istore 8, 2) := by decide +kernel
theorem dX12_checksum_96 : decode cX12_checksum 96 = .ok (.iload 8, 2) := by decide +kernel
theorem dX12_checksum_98 : decode cX12_checksum 98 = .ok (.iload 7, 2) := by decide +kernel
theorem dX12_checksum_100 : decode cX12_checksum 100 = .ok (.if_icmp .ge 23, 3) := by decide +kernel
theorem dX12_checksum_103 : decode cX12_checksum 103 = .ok (.aload 6, 2) := by decide +kernel
theorem dX12_checksum_105 : decode cX12_checksum 105 = .ok (.iload 8, 2) := by decide +kernel
theorem dX12_checksum_107 : decode cX12_checksum 107 = .ok (.iaload, 1) := by decide +kernel
theorem dX12_checksum_108 : decode cX12_checksum 108 = .ok (.istore 9, 2) := by decide +kernel
theorem dX12_checksum_110 : decode cX12_checksum 110 = .ok (.iload 4, 2) := by decide +kernel
theorem dX12_checksum_112 : decode cX12_checksum 112 = .ok (.iload 9, 2) := by decide +kernel
theorem dX12_checksum_114 : decode cX12_checksum 114 = .ok (.iadd, 1) := by decide +kernel
theorem dX12_checksum_115 : decode cX12_checksum 115 = .ok (.istore 4, 2) := by decide +kernel
theorem dX12_checksum_117 : decode cX12_checksum 117 = .ok (.iinc 8 1, 3) := by decide +kernel
theorem dX12_checksum_120 : decode cX12_checksum 120 = .ok (.goto (-24), 3) := by decide +kernel
theorem dX12_checksum_123 : decode cX12_checksum 123 = .ok (.iinc 5 1, 3) := by decide +kernel
theorem dX12_checksum_126 : decode cX12_checksum 126 = .ok (.goto (-55), 3) := by decide +kernel
theorem dX12_checksum_129 : decode cX12_checksum 129 = .ok (.ldc2_w 330, 3) := by decide +kernel
theorem dX12_checksum_132 : decode cX12_checksum 132 = .ok (.lload_n 1, 1) := by decide +kernel
theorem dX12_checksum_133 : decode cX12_checksum 133 = .ok (.lmul, 1) := by decide +kernel
theorem dX12_checksum_134 : decode cX12_checksum 134 = .ok (.iload 4, 2) := by decide +kernel
theorem dX12_checksum_136 : decode cX12_checksum 136 = .ok (.i2l, 1) := by decide +kernel
theorem dX12_checksum_137 : decode cX12_checksum 137 = .ok (.ladd, 1) := by decide +kernel
theorem dX12_checksum_138 : decode cX12_checksum 138 = .ok (.lstore_n 1, 1) := by decide +kernel
theorem dX12_checksum_139 : decode cX12_checksum 139 = .ok (.iinc 3 1, 3) := by decide +kernel
theorem dX12_checksum_142 : decode cX12_checksum 142 = .ok (.goto (-131), 3) := by decide +kernel
theorem dX12_checksum_145 : decode cX12_checksum 145 = .ok (.iconst 0, 1) := by decide +kernel
theorem dX12_checksum_146 : decode cX12_checksum 146 = .ok (.istore_n 3, 1) := by decide +kernel
theorem dX12_checksum_147 : decode cX12_checksum 147 = .ok (.iload_n 3, 1) := by decide +kernel
theorem dX12_checksum_148 : decode cX12_checksum 148 = .ok (.aload_n 0, 1) := by decide +kernel
theorem dX12_checksum_149 : decode cX12_checksum 149 = .ok (.getfield 152, 3) := by decide +kernel
theorem dX12_checksum_152 : decode cX12_checksum 152 = .ok (.if_icmp .ge 23, 3) := by decide +kernel
theorem dX12_checksum_155 : decode cX12_checksum 155 = .ok (.ldc2_w 330, 3) := by decide +kernel
theorem dX12_checksum_158 : decode cX12_checksum 158 = .ok (.lload_n 1, 1) := by decide +kernel
theorem dX12_checksum_159 : decode cX12_checksum 159 = .ok (.lmul, 1) := by decide +kernel
theorem dX12_checksum_160 : decode cX12_checksum 160 = .ok (.aload_n 0, 1) := by decide +kernel
theorem dX12_checksum_161 : decode cX12_checksum 161 = .ok (.getfield 27, 3) := by decide +kernel
theorem dX12_checksum_164 : decode cX12_checksum 164 = .ok (.iload_n 3, 1) := by decide +kernel
theorem dX12_checksum_165 : decode cX12_checksum 165 = .ok (.caload, 1) := by decide +kernel
theorem dX12_checksum_166 : decode cX12_checksum 166 = .ok (.i2l, 1) := by decide +kernel
theorem dX12_checksum_167 : decode cX12_checksum 167 = .ok (.ladd, 1) := by decide +kernel
theorem dX12_checksum_168 : decode cX12_checksum 168 = .ok (.lstore_n 1, 1) := by decide +kernel
theorem dX12_checksum_169 : decode cX12_checksum 169 = .ok (.iinc 3 1, 3) := by decide +kernel
theorem dX12_checksum_172 : decode cX12_checksum 172 = .ok (.goto (-25), 3) := by decide +kernel
theorem dX12_checksum_175 : decode cX12_checksum 175 = .ok (.lload_n 1, 1) := by decide +kernel
theorem dX12_checksum_176 : decode cX12_checksum 176 = .ok (.lreturn, 1) := by decide +kernel
theorem dX12_lostShare_0 : decode cX12_lostShare 0 = .ok (.iconst 0, 1) := by decide +kernel
theorem dX12_lostShare_1 : decode cX12_lostShare 1 = .ok (.istore_n 1, 1) := by decide +kernel
theorem dX12_lostShare_2 : decode cX12_lostShare 2 = .ok (.iconst 0, 1) := by decide +kernel
theorem dX12_lostShare_3 : decode cX12_lostShare 3 = .ok (.istore_n 2, 1) := by decide +kernel
theorem dX12_lostShare_4 : decode cX12_lostShare 4 = .ok (.iload_n 2, 1) := by decide +kernel
theorem dX12_lostShare_5 : decode cX12_lostShare 5 = .ok (.aload_n 0, 1) := by decide +kernel
theorem dX12_lostShare_6 : decode cX12_lostShare 6 = .ok (.getfield 152, 3) := by decide +kernel
theorem dX12_lostShare_9 : decode cX12_lostShare 9 = .ok (.if_icmp .ge 28, 3) := by decide +kernel
theorem dX12_lostShare_12 : decode cX12_lostShare 12 = .ok (.iload_n 1, 1) := by decide +kernel
theorem dX12_lostShare_13 : decode cX12_lostShare 13 = .ok (.aload_n 0, 1) := by decide +kernel
theorem dX12_lostShare_14 : decode cX12_lostShare 14 = .ok (.getfield 27, 3) := by decide +kernel
theorem dX12_lostShare_17 : decode cX12_lostShare 17 = .ok (.iload_n 2, 1) := by decide +kernel
theorem dX12_lostShare_18 : decode cX12_lostShare 18 = .ok (.caload, 1) := by decide +kernel
theorem dX12_lostShare_19 : decode cX12_lostShare 19 = .ok (.bipush 108, 2) := by decide +kernel
theorem dX12_lostShare_21 : decode cX12_lostShare 21 = .ok (.if_icmp .ne 7, 3) := by decide +kernel
theorem dX12_lostShare_24 : decode cX12_lostShare 24 = .ok (.iconst 1, 1) := by decide +kernel
theorem dX12_lostShare_25 : decode cX12_lostShare 25 = .ok (.goto 4, 3) := by decide +kernel
theorem dX12_lostShare_28 : decode cX12_lostShare 28 = .ok (.iconst 0, 1) := by decide +kernel
theorem dX12_lostShare_29 : decode cX12_lostShare 29 = .ok (.iadd, 1) := by decide +kernel
theorem dX12_lostShare_30 : decode cX12_lostShare 30 = .ok (.istore_n 1, 1) := by decide +kernel
theorem dX12_lostShare_31 : decode cX12_lostShare 31 = .ok (.iinc 2 1, 3) := by decide +kernel
theorem dX12_lostShare_34 : decode cX12_lostShare 34 = .ok (.goto (-30), 3) := by decide +kernel
theorem dX12_lostShare_37 : decode cX12_lostShare 37 = .ok (.aload_n 0, 1) := by decide +kernel
theorem dX12_lostShare_38 : decode cX12_lostShare 38 = .ok (.aload_n 0, 1) := by decide +kernel
theorem dX12_lostShare_39 : decode cX12_lostShare 39 = .ok (.getfield 152, 3) := by decide +kernel
theorem dX12_lostShare_42 : decode cX12_lostShare 42 = .ok (.ifCond .ne 7, 3) := by decide +kernel
theorem dX12_lostShare_45 : decode cX12_lostShare 45 = .ok (.iconst 1, 1) := by decide +kernel
theorem dX12_lostShare_46 : decode cX12_lostShare 46 = .ok (.goto 4, 3) := by decide +kernel
theorem dX12_lostShare_49 : decode cX12_lostShare 49 = .ok (.iconst 0, 1) := by decide +kernel
theorem dX12_lostShare_50 : decode cX12_lostShare 50 = .ok (.iconst 1, 1) := by decide +kernel
theorem dX12_lostShare_51 : decode cX12_lostShare 51 = .ok (.invokevirtual 155, 3) := by decide +kernel
theorem dX12_lostShare_54 : decode cX12_lostShare 54 = .ok (.ifCond .eq 7, 3) := by decide +kernel
theorem dX12_lostShare_57 : decode cX12_lostShare 57 = .ok (.fconst 0, 1) := by decide +kernel
theorem dX12_lostShare_58 : decode cX12_lostShare 58 = .ok (.goto 11, 3) := by decide +kernel
theorem dX12_lostShare_61 : decode cX12_lostShare 61 = .ok (.iload_n 1, 1) := by decide +kernel
theorem dX12_lostShare_62 : decode cX12_lostShare 62 = .ok (.i2f, 1) := by decide +kernel
theorem dX12_lostShare_63 : decode cX12_lostShare 63 = .ok (.aload_n 0, 1) := by decide +kernel
theorem dX12_lostShare_64 : decode cX12_lostShare 64 = .ok (.getfield 152, 3) := by decide +kernel
theorem dX12_lostShare_67 : decode cX12_lostShare 67 = .ok (.i2f, 1) := by decide +kernel
theorem dX12_lostShare_68 : decode cX12_lostShare 68 = .ok (.fdiv, 1) := by decide +kernel
theorem dX12_lostShare_69 : decode cX12_lostShare 69 = .ok (.freturn, 1) := by decide +kernel
theorem dX12_meanTime_0 : decode cX12_meanTime 0 = .ok (.iconst 0, 1) := by decide +kernel
theorem dX12_meanTime_1 : decode cX12_meanTime 1 = .ok (.istore_n 1, 1) := by decide +kernel
theorem dX12_meanTime_2 : decode cX12_meanTime 2 = .ok (.iconst 0, 1) := by decide +kernel
theorem dX12_meanTime_3 : decode cX12_meanTime 3 = .ok (.istore_n 2, 1) := by decide +kernel
theorem dX12_meanTime_4 : decode cX12_meanTime 4 = .ok (.iconst 0, 1) := by decide +kernel
theorem dX12_meanTime_5 : decode cX12_meanTime 5 = .ok (.istore_n 3, 1) := by decide +kernel
theorem dX12_meanTime_6 : decode cX12_meanTime 6 = .ok (.iload_n 3, 1) := by decide +kernel
theorem dX12_meanTime_7 : decode cX12_meanTime 7 = .ok (.aload_n 0, 1) := by decide +kernel
theorem dX12_meanTime_8 : decode cX12_meanTime 8 = .ok (.getfield 152, 3) := by decide +kernel
theorem dX12_meanTime_11 : decode cX12_meanTime 11 = .ok (.if_icmp .ge 53, 3) := by decide +kernel
theorem dX12_meanTime_14 : decode cX12_meanTime 14 = .ok (.iload_n 1, 1) := by decide +kernel
theorem dX12_meanTime_15 : decode cX12_meanTime 15 = .ok (.aload_n 0, 1) := by decide +kernel
theorem dX12_meanTime_16 : decode cX12_meanTime 16 = .ok (.iload_n 3, 1) := by decide +kernel
theorem dX12_meanTime_17 : decode cX12_meanTime 17 = .ok (.invokevirtual 189, 3) := by decide +kernel
theorem dX12_meanTime_20 : decode cX12_meanTime 20 = .ok (.ifCond .eq 7, 3) := by decide +kernel
theorem dX12_meanTime_23 : decode cX12_meanTime 23 = .ok (.iconst 1, 1) := by decide +kernel
theorem dX12_meanTime_24 : decode cX12_meanTime 24 = .ok (.goto 4, 3) := by decide +kernel
theorem dX12_meanTime_27 : decode cX12_meanTime 27 = .ok (.iconst 0, 1) := by decide +kernel
theorem dX12_meanTime_28 : decode cX12_meanTime 28 = .ok (.iadd, 1) := by decide +kernel
theorem dX12_meanTime_29 : decode cX12_meanTime 29 = .ok (.istore_n 1, 1) := by decide +kernel
theorem dX12_meanTime_30 : decode cX12_meanTime 30 = .ok (.iload_n 2, 1) := by decide +kernel
theorem dX12_meanTime_31 : decode cX12_meanTime 31 = .ok (.aload_n 0, 1) := by decide +kernel
theorem dX12_meanTime_32 : decode cX12_meanTime 32 = .ok (.iload_n 3, 1) := by decide +kernel
theorem dX12_meanTime_33 : decode cX12_meanTime 33 = .ok (.invokevirtual 189, 3) := by decide +kernel
theorem dX12_meanTime_36 : decode cX12_meanTime 36 = .ok (.ifCond .eq 19, 3) := by decide +kernel
theorem dX12_meanTime_39 : decode cX12_meanTime 39 = .ok (.aload_n 0, 1) := by decide +kernel
theorem dX12_meanTime_40 : decode cX12_meanTime 40 = .ok (.getfield 49, 3) := by decide +kernel
theorem dX12_meanTime_43 : decode cX12_meanTime 43 = .ok (.iload_n 3, 1) := by decide +kernel
theorem dX12_meanTime_44 : decode cX12_meanTime 44 = .ok (.iaload, 1) := by decide +kernel
theorem dX12_meanTime_45 : decode cX12_meanTime 45 = .ok (.aload_n 0, 1) := by decide +kernel
theorem dX12_meanTime_46 : decode cX12_meanTime 46 = .ok (.getfield 46, 3) := by decide +kernel
theorem dX12_meanTime_49 : decode cX12_meanTime 49 = .ok (.iload_n 3, 1) := by decide +kernel
theorem dX12_meanTime_50 : decode cX12_meanTime 50 = .ok (.iaload, 1) := by decide +kernel
theorem dX12_meanTime_51 : decode cX12_meanTime 51 = .ok (.isub, 1) := by decide +kernel
theorem dX12_meanTime_52 : decode cX12_meanTime 52 = .ok (.goto 4, 3) := by decide +kernel
theorem dX12_meanTime_55 : decode cX12_meanTime 55 = .ok (.iconst 0, 1) := by decide +kernel
theorem dX12_meanTime_56 : decode cX12_meanTime 56 = .ok (.iadd, 1) := by decide +kernel
theorem dX12_meanTime_57 : decode cX12_meanTime 57 = .ok (.istore_n 2, 1) := by decide +kernel
theorem dX12_meanTime_58 : decode cX12_meanTime 58 = .ok (.iinc 3 1, 3) := by decide +kernel
theorem dX12_meanTime_61 : decode cX12_meanTime 61 = .ok (.goto (-55), 3) := by decide +kernel
theorem dX12_meanTime_64 : decode cX12_meanTime 64 = .ok (.aload_n 0, 1) := by decide +kernel
theorem dX12_meanTime_65 : decode cX12_meanTime 65 = .ok (.iload_n 1, 1) := by decide +kernel
theorem dX12_meanTime_66 : decode cX12_meanTime 66 = .ok (.ifCond .ne 7, 3) := by decide +kernel
theorem dX12_meanTime_69 : decode cX12_meanTime 69 = .ok (.iconst 1, 1) := by decide +kernel
theorem dX12_meanTime_70 : decode cX12_meanTime 70 = .ok (.goto 4, 3) := by decide +kernel
theorem dX12_meanTime_73 : decode cX12_meanTime 73 = .ok (.iconst 0, 1) := by decide +kernel
theorem dX12_meanTime_74 : decode cX12_meanTime 74 = .ok (.iconst 1, 1) := by decide +kernel
theorem dX12_meanTime_75 : decode cX12_meanTime 75 = .ok (.invokevirtual 155, 3) := by decide +kernel
theorem dX12_meanTime_78 : decode cX12_meanTime 78 = .ok (.ifCond .eq 7, 3) := by decide +kernel
theorem dX12_meanTime_81 : decode cX12_meanTime 81 = .ok (.dconst 0, 1) := by decide +kernel
theorem dX12_meanTime_82 : decode cX12_meanTime 82 = .ok (.goto 8, 3) := by decide +kernel
theorem dX12_meanTime_85 : decode cX12_meanTime 85 = .ok (.iload_n 2, 1) := by decide +kernel
theorem dX12_meanTime_86 : decode cX12_meanTime 86 = .ok (.i2d, 1) := by decide +kernel
theorem dX12_meanTime_87 : decode cX12_meanTime 87 = .ok (.iload_n 1, 1) := by decide +kernel
theorem dX12_meanTime_88 : decode cX12_meanTime 88 = .ok (.i2d, 1) := by decide +kernel
theorem dX12_meanTime_89 : decode cX12_meanTime 89 = .ok (.ddiv, 1) := by decide +kernel
theorem dX12_meanTime_90 : decode cX12_meanTime 90 = .ok (.dreturn, 1) := by decide +kernel
theorem dX12_isSound_0 : decode cX12_isSound 0 = .ok (.aload_n 0, 1) := by decide +kernel
theorem dX12_isSound_1 : decode cX12_isSound 1 = .ok (.iconst 0, 1) := by decide +kernel
theorem dX12_isSound_2 : decode cX12_isSound 2 = .ok (.putfield 141, 3) := by decide +kernel
theorem dX12_isSound_5 : decode cX12_isSound 5 = .ok (.iconst 1, 1) := by decide +kernel
theorem dX12_isSound_6 : decode cX12_isSound 6 = .ok (.ireturn, 1) := by decide +kernel
def f_M_nodeOf (μ : me_M) (v1 : Int32) : Option (me_M × Int32) :=
  me_bd (f_M_isNoTask μ v1) (fun r1 =>
  me_b2 (f_M_isThrown μ r1 (1 : Int32)) (fun μ3 r2 =>
  if r2 = 0 then
  (me_gd (me_inb v1 8) (
  some (μ3, (μ3 92 0 (me_ix v1)))))
  else
  (some (μ3, (0 : Int32)))))
set_option maxHeartbeats 4000000 in
set_option maxRecDepth 100000 in
theorem z_M_nodeOf {X : me_X} {B : me_B} {sz : Nat} (C : me_C X B RX12 cX12_nodeOf 2 (some .int)) {μ : me_M} {v1 : Int32}   {r : me_M × Int32} (N : me_En X B sz (B, r.1, .ok (some (me_i r.2))) 2 43 0 0) (hNx : me_Nx X) (hB : me_St B)   (hf : f_M_nodeOf μ v1 = some r) : me_Z X B 0 0 μ 0 [(0, me_r 36 0), (1, me_i v1)] [] := by
  unfold f_M_nodeOf at hf
  refine me_aload_n C 0 (Or.inr (Or.inl ⟨_, rfl⟩)) dX12_nodeOf_0 rfl rfl ?_
  refine me_aload_n C 0 (Or.inr (Or.inl ⟨_, rfl⟩)) dX12_nodeOf_1 rfl rfl ?_
  refine me_iload_n C 1 dX12_nodeOf_2 rfl rfl ?_
  obtain ⟨r1, h_r1, hf⟩ := me_bs hf
  refine me_callV C N  (As := [me_i v1]) (st := [me_r 36 0]) 0 0 (c_M_isNoTask hB h_r1) mv_M_isNoTask ml_M_308 rfl rfl dX12_nodeOf_3 rfl rfl ⟨by decide, by decide⟩ ⟨by decide, by decide, by decide, by decide⟩ (Nat.le_of_ble_eq_true rfl) ?_
  refine me_iconst C (v := 1) dX12_nodeOf_6 (by decide) ?_
  obtain ⟨μ3, r2, h_r2, hf⟩ := me_bs2 hf
  refine me_callV C N  (As := [me_i r1, me_i (1 : Int32)]) (st := []) 0 0 (c_M_isThrown hB h_r2) mv_M_isThrown ml_M_155 rfl rfl dX12_nodeOf_7 rfl rfl ⟨by decide, by decide⟩ ⟨by decide, by decide, by decide, by decide⟩ (Nat.le_of_ble_eq_true rfl) ?_
  refine me_if_eq C (tgt := 17) dX12_nodeOf_10 (by decide) (fun c4 => ?_) (fun c4 => ?_)
  · replace hf := me_ip c4 hf
    refine me_aload_n C 0 (Or.inr (Or.inl ⟨_, rfl⟩)) dX12_nodeOf_17 rfl rfl ?_
    refine me_getr C hB 39 (k' := 92) (i' := 0) fg_M_132 dX12_nodeOf_18 rfl rfl ?_
    refine me_iload_n C 1 dX12_nodeOf_21 rfl rfl ?_
    obtain ⟨g5, hf⟩ := me_gs hf
    refine me_iald C rfl (fun _ => rfl) g5 dX12_nodeOf_22 ?_
    exact me_iret C N dX12_nodeOf_23 (me_nri _) (by cases hf; rfl) (by decide) (by decide)
  · replace hf := me_in c4 hf
    refine me_iconst C (v := 0) dX12_nodeOf_13 (by decide) ?_
    refine me_goto C (tgt := 23) dX12_nodeOf_14 (by decide) ?_
    exact me_iret C N dX12_nodeOf_23 (me_nri _) (by cases hf; rfl) (by decide) (by decide)
theorem c_M_nodeOf {B : me_B} (hB : me_St B) {μ : me_M} {v1 : Int32} {μ' : me_M} {r : Int32}  (hf : f_M_nodeOf μ v1 = some (μ', r)) : ∀ l E z, l.stackTraces = false → me_Met l yX12_nodeOf cX12_nodeOf 2 (some .int) 2 43 0 0 E B μ z [me_r 36 0, me_i v1] (B, μ', .ok (some (me_i r))) :=
  fun _ _ _ hl => me_ofZ hl (by decide +kernel) (Nat.le_of_ble_eq_true rfl) (fun _ C N hNx => z_M_nodeOf C N hNx hB  hf)

def f_M_checksum_b96 (K11 : me_M → Int64 → Int32 → Option (me_M × Int64)) (K71 : me_M → Int64 → Int32 → Int32 → Int32 → Option (me_M × Int64)) (K96 : me_M → Int64 → Int32 → Int32 → Int32 → Nat → Int32 → Int32 → Option (me_M × Int64)) (μ : me_M) (v1 : Int64) (v3 : Int32) (v4 : Int32) (v5 : Int32) (v6 : Nat) (v7 : Int32) (v8 : Int32) : Option (me_M × Int64) :=
  if v7 ≤ v8 then
  (me_lt (me_inc v5 (1)) (fun x2 =>
  K71 μ v1 v3 v4 x2))
  else
  (me_gd (me_inb v8 5) (
  me_lt ((μ 60 v6 (me_ix v8))) (fun x4 =>
  me_lt ((v4 + x4)) (fun x5 =>
  me_lt (me_inc v8 (1)) (fun x6 =>
  K96 μ v1 v3 x5 v5 v6 v7 x6)))))
set_option maxHeartbeats 4000000 in
set_option maxRecDepth 100000 in
theorem z_M_checksum_b96 {X : me_X} {B : me_B} {sz : Nat} (C : me_C X B RX12 cX12_checksum 10 (some .long)) {μ : me_M} {v1 : Int64} {v3 : Int32} {v4 : Int32} {v5 : Int32} {v6 : Nat} {v7 : Int32} {v8 : Int32}  {K11 : me_M → Int64 → Int32 → Option (me_M × Int64)} {K71 : me_M → Int64 → Int32 → Int32 → Int32 → Option (me_M × Int64)} {K96 : me_M → Int64 → Int32 → Int32 → Int32 → Nat → Int32 → Int32 → Option (me_M × Int64)} {r : me_M × Int64} (N : me_En X B sz (B, r.1, .ok (some (me_l r.2))) 1 20 0 0) (hNx : me_Nx X) (hB : me_St B) (hK11 : ∀ (μ : me_M) (v1 : Int64) (v3 : Int32), K11 μ v1 v3 = some r → me_Z X B 0 0 μ 11 [(0, me_r 36 0), (1, me_l v1), (3, me_i v3)] []) (hK71 : ∀ (μ : me_M) (v1 : Int64) (v3 : Int32) (v4 : Int32) (v5 : Int32), K71 μ v1 v3 v4 v5 = some r → me_Z X B 0 0 μ 71 [(0, me_r 36 0), (1, me_l v1), (3, me_i v3), (4, me_i v4), (5, me_i v5)] []) (hK96 : ∀ (μ : me_M) (v1 : Int64) (v3 : Int32) (v4 : Int32) (v5 : Int32) (v6 : Nat) (v7 : Int32) (v8 : Int32), K96 μ v1 v3 v4 v5 v6 v7 v8 = some r → me_Z X B 0 0 μ 96 [(0, me_r 36 0), (1, me_l v1), (3, me_i v3), (4, me_i v4), (5, me_i v5), (6, me_r 60 v6), (7, me_i v7), (8, me_i v8)] [])  (hf : f_M_checksum_b96 K11 K71 K96 μ v1 v3 v4 v5 v6 v7 v8 = some r) : me_Z X B 0 0 μ 96 [(0, me_r 36 0), (1, me_l v1), (3, me_i v3), (4, me_i v4), (5, me_i v5), (6, me_r 60 v6), (7, me_i v7), (8, me_i v8)] [] := by
  unfold f_M_checksum_b96 at hf
  refine me_iload C dX12_checksum_96 rfl ?_
  refine me_iload C dX12_checksum_98 rfl ?_
  refine me_icmp_ge C (tgt := 123) dX12_checksum_100 (by decide) (fun c1 => ?_) (fun c1 => ?_)
  · replace hf := me_ip c1 hf
    obtain ⟨x2, e_x2, hf⟩ := me_lts hf
    refine me_iinc C (v := x2) (L' := [(5, me_i x2), (0, me_r 36 0), (1, me_l v1), (3, me_i v3), (4, me_i v4), (6, me_r 60 v6), (7, me_i v7), (8, me_i v8)]) dX12_checksum_123 rfl e_x2.symm (by decide) rfl ?_
    refine me_goto C (tgt := 71) dX12_checksum_126 (by decide) ?_
    refine me_dropI [(0, me_r 36 0), (1, me_l v1), (3, me_i v3), (4, me_i v4), (5, me_i x2)] [1, 2, 3, 4, 0] rfl ?_
    exact hK71 μ v1 v3 v4 x2 hf
  · replace hf := me_in c1 hf
    refine me_aload C (Or.inr (Or.inl ⟨_, rfl⟩)) dX12_checksum_103 rfl ?_
    refine me_iload C dX12_checksum_105 rfl ?_
    obtain ⟨g3, hf⟩ := me_gs hf
    refine me_iald C rfl (fun _ => rfl) g3 dX12_checksum_107 ?_
    obtain ⟨x4, e_x4, hf⟩ := me_lts hf
    refine me_nm e_x4 ?_
    refine me_istore C dX12_checksum_108 (by decide) (L' := [(9, me_i x4), (0, me_r 36 0), (1, me_l v1), (3, me_i v3), (4, me_i v4), (5, me_i v5), (6, me_r 60 v6), (7, me_i v7), (8, me_i v8)]) rfl ?_
    refine me_iload C dX12_checksum_110 rfl ?_
    refine me_iload C dX12_checksum_112 rfl ?_
    refine me_iadd C dX12_checksum_114 ?_
    obtain ⟨x5, e_x5, hf⟩ := me_lts hf
    refine me_nm e_x5 ?_
    refine me_istore C dX12_checksum_115 (by decide) (L' := [(4, me_i x5), (9, me_i x4), (0, me_r 36 0), (1, me_l v1), (3, me_i v3), (5, me_i v5), (6, me_r 60 v6), (7, me_i v7), (8, me_i v8)]) rfl ?_
    obtain ⟨x6, e_x6, hf⟩ := me_lts hf
    refine me_iinc C (v := x6) (L' := [(8, me_i x6), (4, me_i x5), (9, me_i x4), (0, me_r 36 0), (1, me_l v1), (3, me_i v3), (5, me_i v5), (6, me_r 60 v6), (7, me_i v7)]) dX12_checksum_117 rfl e_x6.symm (by decide) rfl ?_
    refine me_goto C (tgt := 96) dX12_checksum_120 (by decide) ?_
    refine me_dropI [(0, me_r 36 0), (1, me_l v1), (3, me_i v3), (4, me_i x5), (5, me_i v5), (6, me_r 60 v6), (7, me_i v7), (8, me_i x6)] [3, 4, 5, 1, 6, 7, 8, 0] rfl ?_
    exact hK96 μ v1 v3 x5 v5 v6 v7 x6 hf
def f_M_checksum_h96 (K11 : me_M → Int64 → Int32 → Option (me_M × Int64)) (K71 : me_M → Int64 → Int32 → Int32 → Int32 → Option (me_M × Int64)) : Nat → me_M → Int64 → Int32 → Int32 → Int32 → Nat → Int32 → Int32 → Option (me_M × Int64)
  | 0, _, _, _, _, _, _, _, _ => none
  | n + 1, μ, v1, v3, v4, v5, v6, v7, v8 => f_M_checksum_b96 K11 K71 (f_M_checksum_h96 K11 K71 n) μ v1 v3 v4 v5 v6 v7 v8
set_option maxHeartbeats 4000000 in
set_option maxRecDepth 100000 in
theorem z_M_checksum_h96 {X : me_X} {B : me_B} {sz : Nat} (C : me_C X B RX12 cX12_checksum 10 (some .long)) {K11 : me_M → Int64 → Int32 → Option (me_M × Int64)} {K71 : me_M → Int64 → Int32 → Int32 → Int32 → Option (me_M × Int64)} {r : me_M × Int64} (N : me_En X B sz (B, r.1, .ok (some (me_l r.2))) 1 20 0 0) (hNx : me_Nx X) (hB : me_St B) (hK11 : ∀ (μ : me_M) (v1 : Int64) (v3 : Int32), K11 μ v1 v3 = some r → me_Z X B 0 0 μ 11 [(0, me_r 36 0), (1, me_l v1), (3, me_i v3)] []) (hK71 : ∀ (μ : me_M) (v1 : Int64) (v3 : Int32) (v4 : Int32) (v5 : Int32), K71 μ v1 v3 v4 v5 = some r → me_Z X B 0 0 μ 71 [(0, me_r 36 0), (1, me_l v1), (3, me_i v3), (4, me_i v4), (5, me_i v5)] []) : ∀ (n : Nat) (μ : me_M) (v1 : Int64) (v3 : Int32) (v4 : Int32) (v5 : Int32) (v6 : Nat) (v7 : Int32) (v8 : Int32), f_M_checksum_h96 K11 K71 n μ v1 v3 v4 v5 v6 v7 v8 = some r → me_Z X B 0 0 μ 96 [(0, me_r 36 0), (1, me_l v1), (3, me_i v3), (4, me_i v4), (5, me_i v5), (6, me_r 60 v6), (7, me_i v7), (8, me_i v8)] [] := by
  intro n
  induction n with
  | zero => intro μ v1 v3 v4 v5 v6 v7 v8  h; exact absurd (show (none : Option (me_M × Int64)) = some r from h) (fun q => by cases q)
  | succ n ih => intro μ v1 v3 v4 v5 v6 v7 v8  h; exact z_M_checksum_b96 C N hNx hB hK11 hK71 (K96 := f_M_checksum_h96 K11 K71 n) ih  h
def f_M_checksum_b71 (K11 : me_M → Int64 → Int32 → Option (me_M × Int64)) (K71 : me_M → Int64 → Int32 → Int32 → Int32 → Option (me_M × Int64)) (μ : me_M) (v1 : Int64) (v3 : Int32) (v4 : Int32) (v5 : Int32) : Option (me_M × Int64) :=
  if (2 : Int32) ≤ v5 then
  (me_lt (me_inc v3 (1)) (fun x2 =>
  K11 μ (((31 : Int64) * v1) + (Int32.toInt64 v4)) x2))
  else
  (me_gd (me_inb v3 16) (
  me_gd (me_inb v5 2) (
  f_M_checksum_h96 K11 K71 me_FU μ v1 v3 v4 v5 (2 * (me_ix v3) + (me_ix v5)) (5 : Int32) (0 : Int32))))
set_option maxHeartbeats 4000000 in
set_option maxRecDepth 100000 in
theorem z_M_checksum_b71 {X : me_X} {B : me_B} {sz : Nat} (C : me_C X B RX12 cX12_checksum 10 (some .long)) {μ : me_M} {v1 : Int64} {v3 : Int32} {v4 : Int32} {v5 : Int32}  {K11 : me_M → Int64 → Int32 → Option (me_M × Int64)} {K71 : me_M → Int64 → Int32 → Int32 → Int32 → Option (me_M × Int64)} {r : me_M × Int64} (N : me_En X B sz (B, r.1, .ok (some (me_l r.2))) 1 20 0 0) (hNx : me_Nx X) (hB : me_St B) (hK11 : ∀ (μ : me_M) (v1 : Int64) (v3 : Int32), K11 μ v1 v3 = some r → me_Z X B 0 0 μ 11 [(0, me_r 36 0), (1, me_l v1), (3, me_i v3)] []) (hK71 : ∀ (μ : me_M) (v1 : Int64) (v3 : Int32) (v4 : Int32) (v5 : Int32), K71 μ v1 v3 v4 v5 = some r → me_Z X B 0 0 μ 71 [(0, me_r 36 0), (1, me_l v1), (3, me_i v3), (4, me_i v4), (5, me_i v5)] [])  (hf : f_M_checksum_b71 K11 K71 μ v1 v3 v4 v5 = some r) : me_Z X B 0 0 μ 71 [(0, me_r 36 0), (1, me_l v1), (3, me_i v3), (4, me_i v4), (5, me_i v5)] [] := by
  unfold f_M_checksum_b71 at hf
  refine me_iload C dX12_checksum_71 rfl ?_
  refine me_iconst C (v := 2) dX12_checksum_73 (by decide) ?_
  refine me_icmp_ge C (tgt := 129) dX12_checksum_74 (by decide) (fun c1 => ?_) (fun c1 => ?_)
  · replace hf := me_ip c1 hf
    refine me_ldc2 C (v := 31) dX12_checksum_129 cg_M_330 ?_
    refine me_lload_n C 1 dX12_checksum_132 rfl rfl ?_
    refine me_lmul C dX12_checksum_133 ?_
    refine me_iload C dX12_checksum_134 rfl ?_
    refine me_i2l C dX12_checksum_136 ?_
    refine me_ladd C dX12_checksum_137 ?_
    refine me_lstore_n C 1 dX12_checksum_138 rfl (by decide) (L' := [(1, me_l (((31 : Int64) * v1) + (Int32.toInt64 v4))), (0, me_r 36 0), (3, me_i v3), (4, me_i v4), (5, me_i v5)]) rfl ?_
    obtain ⟨x2, e_x2, hf⟩ := me_lts hf
    refine me_iinc C (v := x2) (L' := [(3, me_i x2), (1, me_l (((31 : Int64) * v1) + (Int32.toInt64 v4))), (0, me_r 36 0), (4, me_i v4), (5, me_i v5)]) dX12_checksum_139 rfl e_x2.symm (by decide) rfl ?_
    refine me_goto C (tgt := 11) dX12_checksum_142 (by decide) ?_
    refine me_dropI [(0, me_r 36 0), (1, me_l (((31 : Int64) * v1) + (Int32.toInt64 v4))), (3, me_i x2)] [2, 1, 0] rfl ?_
    exact hK11 μ (((31 : Int64) * v1) + (Int32.toInt64 v4)) x2 hf
  · replace hf := me_in c1 hf
    refine me_aload_n C 0 (Or.inr (Or.inl ⟨_, rfl⟩)) dX12_checksum_77 rfl rfl ?_
    refine me_getr C hB 22 (k' := 58) (i' := 0) fg_M_75 dX12_checksum_78 rfl rfl ?_
    refine me_iload_n C 3 dX12_checksum_81 rfl rfl ?_
    obtain ⟨g3, hf⟩ := me_gs hf
    refine me_aald C hB (k' := 59) (i' := (me_ix v3)) rfl (fun _ => rfl) rfl g3 dX12_checksum_82 rfl ?_
    refine me_iload C dX12_checksum_83 rfl ?_
    obtain ⟨g4, hf⟩ := me_gs hf
    refine me_aald C hB (k' := 60) (i' := 2 * (me_ix v3) + (me_ix v5)) rfl (fun _ => rfl) rfl g4 dX12_checksum_85 rfl ?_
    refine me_astore C (Or.inr (Or.inl ⟨_, rfl⟩)) dX12_checksum_86 (by decide) (L' := [(6, me_r 60 (2 * (me_ix v3) + (me_ix v5))), (0, me_r 36 0), (1, me_l v1), (3, me_i v3), (4, me_i v4), (5, me_i v5)]) rfl ?_
    refine me_aload C (Or.inr (Or.inl ⟨_, rfl⟩)) dX12_checksum_88 rfl ?_
    refine me_alen C (v := 5) rfl (Or.inl rfl) (fun _ => rfl) dX12_checksum_90 (by decide) ?_
    refine me_istore C dX12_checksum_91 (by decide) (L' := [(7, me_i (5 : Int32)), (6, me_r 60 (2 * (me_ix v3) + (me_ix v5))), (0, me_r 36 0), (1, me_l v1), (3, me_i v3), (4, me_i v4), (5, me_i v5)]) rfl ?_
    refine me_iconst C (v := 0) dX12_checksum_93 (by decide) ?_
    refine me_istore C dX12_checksum_94 (by decide) (L' := [(8, me_i (0 : Int32)), (7, me_i (5 : Int32)), (6, me_r 60 (2 * (me_ix v3) + (me_ix v5))), (0, me_r 36 0), (1, me_l v1), (3, me_i v3), (4, me_i v4), (5, me_i v5)]) rfl ?_
    refine me_dropI [(0, me_r 36 0), (1, me_l v1), (3, me_i v3), (4, me_i v4), (5, me_i v5), (6, me_r 60 (2 * (me_ix v3) + (me_ix v5))), (7, me_i (5 : Int32)), (8, me_i (0 : Int32))] [3, 4, 5, 6, 7, 2, 1, 0] rfl ?_
    exact z_M_checksum_h96 C N hNx hB hK11 hK71 me_FU μ v1 v3 v4 v5 (2 * (me_ix v3) + (me_ix v5)) (5 : Int32) (0 : Int32) hf
def f_M_checksum_h71 (K11 : me_M → Int64 → Int32 → Option (me_M × Int64)) : Nat → me_M → Int64 → Int32 → Int32 → Int32 → Option (me_M × Int64)
  | 0, _, _, _, _, _ => none
  | n + 1, μ, v1, v3, v4, v5 => f_M_checksum_b71 K11 (f_M_checksum_h71 K11 n) μ v1 v3 v4 v5
set_option maxHeartbeats 4000000 in
set_option maxRecDepth 100000 in
theorem z_M_checksum_h71 {X : me_X} {B : me_B} {sz : Nat} (C : me_C X B RX12 cX12_checksum 10 (some .long)) {K11 : me_M → Int64 → Int32 → Option (me_M × Int64)} {r : me_M × Int64} (N : me_En X B sz (B, r.1, .ok (some (me_l r.2))) 1 20 0 0) (hNx : me_Nx X) (hB : me_St B) (hK11 : ∀ (μ : me_M) (v1 : Int64) (v3 : Int32), K11 μ v1 v3 = some r → me_Z X B 0 0 μ 11 [(0, me_r 36 0), (1, me_l v1), (3, me_i v3)] []) : ∀ (n : Nat) (μ : me_M) (v1 : Int64) (v3 : Int32) (v4 : Int32) (v5 : Int32), f_M_checksum_h71 K11 n μ v1 v3 v4 v5 = some r → me_Z X B 0 0 μ 71 [(0, me_r 36 0), (1, me_l v1), (3, me_i v3), (4, me_i v4), (5, me_i v5)] [] := by
  intro n
  induction n with
  | zero => intro μ v1 v3 v4 v5  h; exact absurd (show (none : Option (me_M × Int64)) = some r from h) (fun q => by cases q)
  | succ n ih => intro μ v1 v3 v4 v5  h; exact z_M_checksum_b71 C N hNx hB hK11 (K71 := f_M_checksum_h71 K11 n) ih  h
def f_M_checksum_b35 (K11 : me_M → Int64 → Int32 → Option (me_M × Int64)) (K35 : me_M → Int64 → Int32 → Nat → Int32 → Int32 → Option (me_M × Int64)) (μ : me_M) (v1 : Int64) (v3 : Int32) (v4 : Nat) (v5 : Int32) (v6 : Int32) : Option (me_M × Int64) :=
  if v5 ≤ v6 then
  (f_M_checksum_h71 K11 me_FU μ v1 v3 (0 : Int32) (0 : Int32))
  else
  (me_gd (me_inb v6 8) (
  me_lt ((μ 76 v4 (me_ix v6))) (fun x3 =>
  me_lt (me_inc v6 (1)) (fun x4 =>
  K35 μ (((31 : Int64) * v1) + (Int32.toInt64 x3)) v3 v4 v5 x4))))
set_option maxHeartbeats 4000000 in
set_option maxRecDepth 100000 in
theorem z_M_checksum_b35 {X : me_X} {B : me_B} {sz : Nat} (C : me_C X B RX12 cX12_checksum 10 (some .long)) {μ : me_M} {v1 : Int64} {v3 : Int32} {v4 : Nat} {v5 : Int32} {v6 : Int32}  {K11 : me_M → Int64 → Int32 → Option (me_M × Int64)} {K35 : me_M → Int64 → Int32 → Nat → Int32 → Int32 → Option (me_M × Int64)} {r : me_M × Int64} (N : me_En X B sz (B, r.1, .ok (some (me_l r.2))) 1 20 0 0) (hNx : me_Nx X) (hB : me_St B) (hK11 : ∀ (μ : me_M) (v1 : Int64) (v3 : Int32), K11 μ v1 v3 = some r → me_Z X B 0 0 μ 11 [(0, me_r 36 0), (1, me_l v1), (3, me_i v3)] []) (hK35 : ∀ (μ : me_M) (v1 : Int64) (v3 : Int32) (v4 : Nat) (v5 : Int32) (v6 : Int32), K35 μ v1 v3 v4 v5 v6 = some r → me_Z X B 0 0 μ 35 [(0, me_r 36 0), (1, me_l v1), (3, me_i v3), (4, me_r 76 v4), (5, me_i v5), (6, me_i v6)] [])  (hf : f_M_checksum_b35 K11 K35 μ v1 v3 v4 v5 v6 = some r) : me_Z X B 0 0 μ 35 [(0, me_r 36 0), (1, me_l v1), (3, me_i v3), (4, me_r 76 v4), (5, me_i v5), (6, me_i v6)] [] := by
  unfold f_M_checksum_b35 at hf
  refine me_iload C dX12_checksum_35 rfl ?_
  refine me_iload C dX12_checksum_37 rfl ?_
  refine me_icmp_ge C (tgt := 65) dX12_checksum_39 (by decide) (fun c1 => ?_) (fun c1 => ?_)
  · replace hf := me_ip c1 hf
    refine me_iconst C (v := 0) dX12_checksum_65 (by decide) ?_
    refine me_istore C dX12_checksum_66 (by decide) (L' := [(4, me_i (0 : Int32)), (0, me_r 36 0), (1, me_l v1), (3, me_i v3), (5, me_i v5), (6, me_i v6)]) rfl ?_
    refine me_iconst C (v := 0) dX12_checksum_68 (by decide) ?_
    refine me_istore C dX12_checksum_69 (by decide) (L' := [(5, me_i (0 : Int32)), (4, me_i (0 : Int32)), (0, me_r 36 0), (1, me_l v1), (3, me_i v3), (6, me_i v6)]) rfl ?_
    refine me_dropI [(0, me_r 36 0), (1, me_l v1), (3, me_i v3), (4, me_i (0 : Int32)), (5, me_i (0 : Int32))] [2, 3, 4, 1, 0] rfl ?_
    exact z_M_checksum_h71 C N hNx hB hK11 me_FU μ v1 v3 (0 : Int32) (0 : Int32) hf
  · replace hf := me_in c1 hf
    refine me_aload C (Or.inr (Or.inl ⟨_, rfl⟩)) dX12_checksum_42 rfl ?_
    refine me_iload C dX12_checksum_44 rfl ?_
    obtain ⟨g2, hf⟩ := me_gs hf
    refine me_iald C rfl (fun _ => rfl) g2 dX12_checksum_46 ?_
    obtain ⟨x3, e_x3, hf⟩ := me_lts hf
    refine me_nm e_x3 ?_
    refine me_istore C dX12_checksum_47 (by decide) (L' := [(7, me_i x3), (0, me_r 36 0), (1, me_l v1), (3, me_i v3), (4, me_r 76 v4), (5, me_i v5), (6, me_i v6)]) rfl ?_
    refine me_ldc2 C (v := 31) dX12_checksum_49 cg_M_330 ?_
    refine me_lload_n C 1 dX12_checksum_52 rfl rfl ?_
    refine me_lmul C dX12_checksum_53 ?_
    refine me_iload C dX12_checksum_54 rfl ?_
    refine me_i2l C dX12_checksum_56 ?_
    refine me_ladd C dX12_checksum_57 ?_
    refine me_lstore_n C 1 dX12_checksum_58 rfl (by decide) (L' := [(1, me_l (((31 : Int64) * v1) + (Int32.toInt64 x3))), (7, me_i x3), (0, me_r 36 0), (3, me_i v3), (4, me_r 76 v4), (5, me_i v5), (6, me_i v6)]) rfl ?_
    obtain ⟨x4, e_x4, hf⟩ := me_lts hf
    refine me_iinc C (v := x4) (L' := [(6, me_i x4), (1, me_l (((31 : Int64) * v1) + (Int32.toInt64 x3))), (7, me_i x3), (0, me_r 36 0), (3, me_i v3), (4, me_r 76 v4), (5, me_i v5)]) dX12_checksum_59 rfl e_x4.symm (by decide) rfl ?_
    refine me_goto C (tgt := 35) dX12_checksum_62 (by decide) ?_
    refine me_dropI [(0, me_r 36 0), (1, me_l (((31 : Int64) * v1) + (Int32.toInt64 x3))), (3, me_i v3), (4, me_r 76 v4), (5, me_i v5), (6, me_i x4)] [3, 1, 4, 5, 6, 0] rfl ?_
    exact hK35 μ (((31 : Int64) * v1) + (Int32.toInt64 x3)) v3 v4 v5 x4 hf
def f_M_checksum_h35 (K11 : me_M → Int64 → Int32 → Option (me_M × Int64)) : Nat → me_M → Int64 → Int32 → Nat → Int32 → Int32 → Option (me_M × Int64)
  | 0, _, _, _, _, _, _ => none
  | n + 1, μ, v1, v3, v4, v5, v6 => f_M_checksum_b35 K11 (f_M_checksum_h35 K11 n) μ v1 v3 v4 v5 v6
set_option maxHeartbeats 4000000 in
set_option maxRecDepth 100000 in
theorem z_M_checksum_h35 {X : me_X} {B : me_B} {sz : Nat} (C : me_C X B RX12 cX12_checksum 10 (some .long)) {K11 : me_M → Int64 → Int32 → Option (me_M × Int64)} {r : me_M × Int64} (N : me_En X B sz (B, r.1, .ok (some (me_l r.2))) 1 20 0 0) (hNx : me_Nx X) (hB : me_St B) (hK11 : ∀ (μ : me_M) (v1 : Int64) (v3 : Int32), K11 μ v1 v3 = some r → me_Z X B 0 0 μ 11 [(0, me_r 36 0), (1, me_l v1), (3, me_i v3)] []) : ∀ (n : Nat) (μ : me_M) (v1 : Int64) (v3 : Int32) (v4 : Nat) (v5 : Int32) (v6 : Int32), f_M_checksum_h35 K11 n μ v1 v3 v4 v5 v6 = some r → me_Z X B 0 0 μ 35 [(0, me_r 36 0), (1, me_l v1), (3, me_i v3), (4, me_r 76 v4), (5, me_i v5), (6, me_i v6)] [] := by
  intro n
  induction n with
  | zero => intro μ v1 v3 v4 v5 v6  h; exact absurd (show (none : Option (me_M × Int64)) = some r from h) (fun q => by cases q)
  | succ n ih => intro μ v1 v3 v4 v5 v6  h; exact z_M_checksum_b35 C N hNx hB hK11 (K35 := f_M_checksum_h35 K11 n) ih  h
def f_M_checksum_b147 (K147 : me_M → Int64 → Int32 → Option (me_M × Int64)) (μ : me_M) (v1 : Int64) (v3 : Int32) : Option (me_M × Int64) :=
  if (μ 36 0 19) ≤ v3 then
  (some (μ, v1))
  else
  (me_gd (me_inb v3 200) (
  me_lt (me_inc v3 (1)) (fun x3 =>
  K147 μ (((31 : Int64) * v1) + (Int32.toInt64 (μ 38 0 (me_ix v3)))) x3)))
set_option maxHeartbeats 4000000 in
set_option maxRecDepth 100000 in
theorem z_M_checksum_b147 {X : me_X} {B : me_B} {sz : Nat} (C : me_C X B RX12 cX12_checksum 10 (some .long)) {μ : me_M} {v1 : Int64} {v3 : Int32}  {K147 : me_M → Int64 → Int32 → Option (me_M × Int64)} {r : me_M × Int64} (N : me_En X B sz (B, r.1, .ok (some (me_l r.2))) 1 20 0 0) (hNx : me_Nx X) (hB : me_St B) (hK147 : ∀ (μ : me_M) (v1 : Int64) (v3 : Int32), K147 μ v1 v3 = some r → me_Z X B 0 0 μ 147 [(0, me_r 36 0), (1, me_l v1), (3, me_i v3)] [])  (hf : f_M_checksum_b147 K147 μ v1 v3 = some r) : me_Z X B 0 0 μ 147 [(0, me_r 36 0), (1, me_l v1), (3, me_i v3)] [] := by
  unfold f_M_checksum_b147 at hf
  refine me_iload_n C 3 dX12_checksum_147 rfl rfl ?_
  refine me_aload_n C 0 (Or.inr (Or.inl ⟨_, rfl⟩)) dX12_checksum_148 rfl rfl ?_
  refine me_geti C 19 fg_M_152 dX12_checksum_149 rfl ?_
  refine me_icmp_ge C (tgt := 175) dX12_checksum_152 (by decide) (fun c1 => ?_) (fun c1 => ?_)
  · replace hf := me_ip c1 hf
    refine me_lload_n C 1 dX12_checksum_175 rfl rfl ?_
    exact me_lret C N dX12_checksum_176 (by cases hf; rfl) (by decide) (by decide)
  · replace hf := me_in c1 hf
    refine me_ldc2 C (v := 31) dX12_checksum_155 cg_M_330 ?_
    refine me_lload_n C 1 dX12_checksum_158 rfl rfl ?_
    refine me_lmul C dX12_checksum_159 ?_
    refine me_aload_n C 0 (Or.inr (Or.inl ⟨_, rfl⟩)) dX12_checksum_160 rfl rfl ?_
    refine me_getr C hB 7 (k' := 38) (i' := 0) fg_M_27 dX12_checksum_161 rfl rfl ?_
    refine me_iload_n C 3 dX12_checksum_164 rfl rfl ?_
    obtain ⟨g2, hf⟩ := me_gs hf
    refine me_cald C rfl (fun _ => rfl) g2 dX12_checksum_165 ?_
    refine me_i2l C dX12_checksum_166 ?_
    refine me_ladd C dX12_checksum_167 ?_
    refine me_lstore_n C 1 dX12_checksum_168 rfl (by decide) (L' := [(1, me_l (((31 : Int64) * v1) + (Int32.toInt64 (μ 38 0 (me_ix v3))))), (0, me_r 36 0), (3, me_i v3)]) rfl ?_
    obtain ⟨x3, e_x3, hf⟩ := me_lts hf
    refine me_iinc C (v := x3) (L' := [(3, me_i x3), (1, me_l (((31 : Int64) * v1) + (Int32.toInt64 (μ 38 0 (me_ix v3))))), (0, me_r 36 0)]) dX12_checksum_169 rfl e_x3.symm (by decide) rfl ?_
    refine me_goto C (tgt := 147) dX12_checksum_172 (by decide) ?_
    refine me_dropI [(0, me_r 36 0), (1, me_l (((31 : Int64) * v1) + (Int32.toInt64 (μ 38 0 (me_ix v3))))), (3, me_i x3)] [2, 1, 0] rfl ?_
    exact hK147 μ (((31 : Int64) * v1) + (Int32.toInt64 (μ 38 0 (me_ix v3)))) x3 hf
def f_M_checksum_h147  : Nat → me_M → Int64 → Int32 → Option (me_M × Int64)
  | 0, _, _, _ => none
  | n + 1, μ, v1, v3 => f_M_checksum_b147 (f_M_checksum_h147 n) μ v1 v3
set_option maxHeartbeats 4000000 in
set_option maxRecDepth 100000 in
theorem z_M_checksum_h147 {X : me_X} {B : me_B} {sz : Nat} (C : me_C X B RX12 cX12_checksum 10 (some .long))  {r : me_M × Int64} (N : me_En X B sz (B, r.1, .ok (some (me_l r.2))) 1 20 0 0) (hNx : me_Nx X) (hB : me_St B)  : ∀ (n : Nat) (μ : me_M) (v1 : Int64) (v3 : Int32), f_M_checksum_h147 n μ v1 v3 = some r → me_Z X B 0 0 μ 147 [(0, me_r 36 0), (1, me_l v1), (3, me_i v3)] [] := by
  intro n
  induction n with
  | zero => intro μ v1 v3  h; exact absurd (show (none : Option (me_M × Int64)) = some r from h) (fun q => by cases q)
  | succ n ih => intro μ v1 v3  h; exact z_M_checksum_b147 C N hNx hB  (K147 := f_M_checksum_h147 n) ih  h
def f_M_checksum_b11 (K11 : me_M → Int64 → Int32 → Option (me_M × Int64)) (μ : me_M) (v1 : Int64) (v3 : Int32) : Option (me_M × Int64) :=
  me_bd (f_M_nodes μ) (fun r1 =>
  if r1 ≤ v3 then
  (f_M_checksum_h147 me_FU μ v1 (0 : Int32))
  else
  (me_gd (me_inb v3 16) (
  f_M_checksum_h35 K11 me_FU μ v1 v3 (me_ix v3) (8 : Int32) (0 : Int32))))
set_option maxHeartbeats 4000000 in
set_option maxRecDepth 100000 in
theorem z_M_checksum_b11 {X : me_X} {B : me_B} {sz : Nat} (C : me_C X B RX12 cX12_checksum 10 (some .long)) {μ : me_M} {v1 : Int64} {v3 : Int32}  {K11 : me_M → Int64 → Int32 → Option (me_M × Int64)} {r : me_M × Int64} (N : me_En X B sz (B, r.1, .ok (some (me_l r.2))) 1 20 0 0) (hNx : me_Nx X) (hB : me_St B) (hK11 : ∀ (μ : me_M) (v1 : Int64) (v3 : Int32), K11 μ v1 v3 = some r → me_Z X B 0 0 μ 11 [(0, me_r 36 0), (1, me_l v1), (3, me_i v3)] [])  (hf : f_M_checksum_b11 K11 μ v1 v3 = some r) : me_Z X B 0 0 μ 11 [(0, me_r 36 0), (1, me_l v1), (3, me_i v3)] [] := by
  unfold f_M_checksum_b11 at hf
  refine me_iload_n C 3 dX12_checksum_11 rfl rfl ?_
  refine me_aload_n C 0 (Or.inr (Or.inl ⟨_, rfl⟩)) dX12_checksum_12 rfl rfl ?_
  obtain ⟨r1, h_r1, hf⟩ := me_bs hf
  refine me_callV C N  (As := []) (st := [me_i v3]) 0 0 (c_M_nodes hB h_r1) mv_M_nodes ml_M_144 rfl rfl dX12_checksum_13 rfl rfl ⟨by decide, by decide⟩ ⟨by decide, by decide, by decide, by decide⟩ (Nat.le_of_ble_eq_true rfl) ?_
  refine me_icmp_ge C (tgt := 145) dX12_checksum_16 (by decide) (fun c2 => ?_) (fun c2 => ?_)
  · replace hf := me_ip c2 hf
    refine me_iconst C (v := 0) dX12_checksum_145 (by decide) ?_
    refine me_istore_n C 3 dX12_checksum_146 rfl (by decide) (L' := [(3, me_i (0 : Int32)), (0, me_r 36 0), (1, me_l v1)]) rfl ?_
    refine me_dropI [(0, me_r 36 0), (1, me_l v1), (3, me_i (0 : Int32))] [1, 2, 0] rfl ?_
    exact z_M_checksum_h147 C N hNx hB me_FU μ v1 (0 : Int32) hf
  · replace hf := me_in c2 hf
    refine me_aload_n C 0 (Or.inr (Or.inl ⟨_, rfl⟩)) dX12_checksum_19 rfl rfl ?_
    refine me_getr C hB 30 (k' := 75) (i' := 0) fg_M_103 dX12_checksum_20 rfl rfl ?_
    refine me_iload_n C 3 dX12_checksum_23 rfl rfl ?_
    obtain ⟨g3, hf⟩ := me_gs hf
    refine me_aald C hB (k' := 76) (i' := (me_ix v3)) rfl (fun _ => rfl) rfl g3 dX12_checksum_24 rfl ?_
    refine me_astore C (Or.inr (Or.inl ⟨_, rfl⟩)) dX12_checksum_25 (by decide) (L' := [(4, me_r 76 (me_ix v3)), (0, me_r 36 0), (1, me_l v1), (3, me_i v3)]) rfl ?_
    refine me_aload C (Or.inr (Or.inl ⟨_, rfl⟩)) dX12_checksum_27 rfl ?_
    refine me_alen C (v := 8) rfl (Or.inl rfl) (fun _ => rfl) dX12_checksum_29 (by decide) ?_
    refine me_istore C dX12_checksum_30 (by decide) (L' := [(5, me_i (8 : Int32)), (4, me_r 76 (me_ix v3)), (0, me_r 36 0), (1, me_l v1), (3, me_i v3)]) rfl ?_
    refine me_iconst C (v := 0) dX12_checksum_32 (by decide) ?_
    refine me_istore C dX12_checksum_33 (by decide) (L' := [(6, me_i (0 : Int32)), (5, me_i (8 : Int32)), (4, me_r 76 (me_ix v3)), (0, me_r 36 0), (1, me_l v1), (3, me_i v3)]) rfl ?_
    refine me_dropI [(0, me_r 36 0), (1, me_l v1), (3, me_i v3), (4, me_r 76 (me_ix v3)), (5, me_i (8 : Int32)), (6, me_i (0 : Int32))] [3, 4, 5, 2, 1, 0] rfl ?_
    exact z_M_checksum_h35 C N hNx hB hK11 me_FU μ v1 v3 (me_ix v3) (8 : Int32) (0 : Int32) hf
def f_M_checksum_h11  : Nat → me_M → Int64 → Int32 → Option (me_M × Int64)
  | 0, _, _, _ => none
  | n + 1, μ, v1, v3 => f_M_checksum_b11 (f_M_checksum_h11 n) μ v1 v3
set_option maxHeartbeats 4000000 in
set_option maxRecDepth 100000 in
theorem z_M_checksum_h11 {X : me_X} {B : me_B} {sz : Nat} (C : me_C X B RX12 cX12_checksum 10 (some .long))  {r : me_M × Int64} (N : me_En X B sz (B, r.1, .ok (some (me_l r.2))) 1 20 0 0) (hNx : me_Nx X) (hB : me_St B)  : ∀ (n : Nat) (μ : me_M) (v1 : Int64) (v3 : Int32), f_M_checksum_h11 n μ v1 v3 = some r → me_Z X B 0 0 μ 11 [(0, me_r 36 0), (1, me_l v1), (3, me_i v3)] [] := by
  intro n
  induction n with
  | zero => intro μ v1 v3  h; exact absurd (show (none : Option (me_M × Int64)) = some r from h) (fun q => by cases q)
  | succ n ih => intro μ v1 v3  h; exact z_M_checksum_b11 C N hNx hB  (K11 := f_M_checksum_h11 n) ih  h
def f_M_checksum (μ : me_M) : Option (me_M × Int64) :=
  me_lt (me_up μ 36 0 42 (0 : Int32)) (fun μ1 =>
  f_M_checksum_h11 me_FU μ1 (7 : Int64) (0 : Int32))
set_option maxHeartbeats 4000000 in
set_option maxRecDepth 100000 in
theorem z_M_checksum {X : me_X} {B : me_B} {sz : Nat} (C : me_C X B RX12 cX12_checksum 10 (some .long)) {μ : me_M}    {r : me_M × Int64} (N : me_En X B sz (B, r.1, .ok (some (me_l r.2))) 1 20 0 0) (hNx : me_Nx X) (hB : me_St B)   (hf : f_M_checksum μ = some r) : me_Z X B 0 0 μ 0 [(0, me_r 36 0)] [] := by
  unfold f_M_checksum at hf
  refine me_aload_n C 0 (Or.inr (Or.inl ⟨_, rfl⟩)) dX12_checksum_0 rfl rfl ?_
  refine me_iconst C (v := 0) dX12_checksum_1 (by decide) ?_
  obtain ⟨μ1, e_μ1, hf⟩ := me_lts hf
  refine me_puti C 42 fw_M_141 dX12_checksum_2 rfl (me_nri _) e_μ1 ?_
  refine me_ldc2 C (v := 7) dX12_checksum_5 cg_M_328 ?_
  refine me_lstore_n C 1 dX12_checksum_8 rfl (by decide) (L' := [(1, me_l (7 : Int64)), (0, me_r 36 0)]) rfl ?_
  refine me_iconst C (v := 0) dX12_checksum_9 (by decide) ?_
  refine me_istore_n C 3 dX12_checksum_10 rfl (by decide) (L' := [(3, me_i (0 : Int32)), (1, me_l (7 : Int64)), (0, me_r 36 0)]) rfl ?_
  refine me_dropI [(0, me_r 36 0), (1, me_l (7 : Int64)), (3, me_i (0 : Int32))] [2, 1, 0] rfl ?_
  exact z_M_checksum_h11 C N hNx hB me_FU μ1 (7 : Int64) (0 : Int32) hf
theorem c_M_checksum {B : me_B} (hB : me_St B) {μ : me_M}  {μ' : me_M} {r : Int64}  (hf : f_M_checksum μ = some (μ', r)) : ∀ l E z, l.stackTraces = false → me_Met l yX12_checksum cX12_checksum 10 (some .long) 1 20 0 0 E B μ z [me_r 36 0] (B, μ', .ok (some (me_l r))) :=
  fun _ _ _ hl => me_ofZ hl (by decide +kernel) (Nat.le_of_ble_eq_true rfl) (fun _ C N hNx => z_M_checksum C N hNx hB  hf)

def f_M_lostShare_b50 (μ : me_M) (v1 : Int32) (s0 : Int32) : Option (me_M × UInt32) :=
  me_b2 (f_M_isThrown μ s0 (1 : Int32)) (fun μ2 r1 =>
  if r1 = 0 then
  (me_gd (me_n32 (FP.fdiv (FP.i2f v1) (FP.i2f (μ2 36 0 19)))) (
  some (μ2, (FP.fdiv (FP.i2f v1) (FP.i2f (μ2 36 0 19))))))
  else
  (some (μ2, FP.fconst0)))
set_option maxHeartbeats 4000000 in
set_option maxRecDepth 100000 in
theorem z_M_lostShare_b50 {X : me_X} {B : me_B} {sz : Nat} (C : me_C X B RX12 cX12_lostShare 3 (some .float)) {μ : me_M} {v1 : Int32} {s0 : Int32}   {r : me_M × UInt32} (N : me_En X B sz (B, r.1, .ok (some (me_f r.2))) 1 22 0 0) (hNx : me_Nx X) (hB : me_St B)   (hf : f_M_lostShare_b50 μ v1 s0 = some r) : me_Z X B 0 0 μ 50 [(0, me_r 36 0), (1, me_i v1)] [me_i s0, me_r 36 0] := by
  unfold f_M_lostShare_b50 at hf
  refine me_iconst C (v := 1) dX12_lostShare_50 (by decide) ?_
  obtain ⟨μ2, r1, h_r1, hf⟩ := me_bs2 hf
  refine me_callV C N  (As := [me_i s0, me_i (1 : Int32)]) (st := []) 0 0 (c_M_isThrown hB h_r1) mv_M_isThrown ml_M_155 rfl rfl dX12_lostShare_51 rfl rfl ⟨by decide, by decide⟩ ⟨by decide, by decide, by decide, by decide⟩ (Nat.le_of_ble_eq_true rfl) ?_
  refine me_if_eq C (tgt := 61) dX12_lostShare_54 (by decide) (fun c3 => ?_) (fun c3 => ?_)
  · replace hf := me_ip c3 hf
    refine me_iload_n C 1 dX12_lostShare_61 rfl rfl ?_
    refine me_i2f C dX12_lostShare_62 ?_
    refine me_aload_n C 0 (Or.inr (Or.inl ⟨_, rfl⟩)) dX12_lostShare_63 rfl rfl ?_
    refine me_geti C 19 fg_M_152 dX12_lostShare_64 rfl ?_
    refine me_i2f C dX12_lostShare_67 ?_
    obtain ⟨g4, hf⟩ := me_gs hf
    refine me_fdiv C dX12_lostShare_68 (me_n32s g4) ?_
    exact me_fret C N dX12_lostShare_69 (by cases hf; rfl) (by decide) (by decide)
  · replace hf := me_in c3 hf
    refine me_fconst0 C dX12_lostShare_57 ?_
    refine me_goto C (tgt := 69) dX12_lostShare_58 (by decide) ?_
    exact me_fret C N dX12_lostShare_69 (by cases hf; rfl) (by decide) (by decide)
def f_M_lostShare_b4 (K4 : me_M → Int32 → Int32 → Option (me_M × UInt32)) (μ : me_M) (v1 : Int32) (v2 : Int32) : Option (me_M × UInt32) :=
  if (μ 36 0 19) ≤ v2 then
  (if (μ 36 0 19) = 0 then
  (f_M_lostShare_b50 μ v1 (1 : Int32))
  else
  (f_M_lostShare_b50 μ v1 (0 : Int32)))
  else
  (me_gd (me_inb v2 200) (
  if (μ 38 0 (me_ix v2)) = (108 : Int32) then
  (me_lt ((v1 + (1 : Int32))) (fun x7 =>
  me_lt (me_inc v2 (1)) (fun x8 =>
  K4 μ x7 x8)))
  else
  (me_lt ((v1 + (0 : Int32))) (fun x5 =>
  me_lt (me_inc v2 (1)) (fun x6 =>
  K4 μ x5 x6)))))
set_option maxHeartbeats 4000000 in
set_option maxRecDepth 100000 in
theorem z_M_lostShare_b4 {X : me_X} {B : me_B} {sz : Nat} (C : me_C X B RX12 cX12_lostShare 3 (some .float)) {μ : me_M} {v1 : Int32} {v2 : Int32}  {K4 : me_M → Int32 → Int32 → Option (me_M × UInt32)} {r : me_M × UInt32} (N : me_En X B sz (B, r.1, .ok (some (me_f r.2))) 1 22 0 0) (hNx : me_Nx X) (hB : me_St B) (hK4 : ∀ (μ : me_M) (v1 : Int32) (v2 : Int32), K4 μ v1 v2 = some r → me_Z X B 0 0 μ 4 [(0, me_r 36 0), (1, me_i v1), (2, me_i v2)] [])  (hf : f_M_lostShare_b4 K4 μ v1 v2 = some r) : me_Z X B 0 0 μ 4 [(0, me_r 36 0), (1, me_i v1), (2, me_i v2)] [] := by
  unfold f_M_lostShare_b4 at hf
  refine me_iload_n C 2 dX12_lostShare_4 rfl rfl ?_
  refine me_aload_n C 0 (Or.inr (Or.inl ⟨_, rfl⟩)) dX12_lostShare_5 rfl rfl ?_
  refine me_geti C 19 fg_M_152 dX12_lostShare_6 rfl ?_
  refine me_icmp_ge C (tgt := 37) dX12_lostShare_9 (by decide) (fun c1 => ?_) (fun c1 => ?_)
  · replace hf := me_ip c1 hf
    refine me_aload_n C 0 (Or.inr (Or.inl ⟨_, rfl⟩)) dX12_lostShare_37 rfl rfl ?_
    refine me_aload_n C 0 (Or.inr (Or.inl ⟨_, rfl⟩)) dX12_lostShare_38 rfl rfl ?_
    refine me_geti C 19 fg_M_152 dX12_lostShare_39 rfl ?_
    refine me_if_ne C (tgt := 49) dX12_lostShare_42 (by decide) (fun c2 => ?_) (fun c2 => ?_)
    · replace hf := me_in c2 hf
      refine me_iconst C (v := 0) dX12_lostShare_49 (by decide) ?_
      refine me_dropI [(0, me_r 36 0), (1, me_i v1)] [0, 1] rfl ?_
      exact z_M_lostShare_b50 C N hNx hB hf
    · replace hf := me_ip c2 hf
      refine me_iconst C (v := 1) dX12_lostShare_45 (by decide) ?_
      refine me_goto C (tgt := 50) dX12_lostShare_46 (by decide) ?_
      refine me_dropI [(0, me_r 36 0), (1, me_i v1)] [0, 1] rfl ?_
      exact z_M_lostShare_b50 C N hNx hB hf
  · replace hf := me_in c1 hf
    refine me_iload_n C 1 dX12_lostShare_12 rfl rfl ?_
    refine me_aload_n C 0 (Or.inr (Or.inl ⟨_, rfl⟩)) dX12_lostShare_13 rfl rfl ?_
    refine me_getr C hB 7 (k' := 38) (i' := 0) fg_M_27 dX12_lostShare_14 rfl rfl ?_
    refine me_iload_n C 2 dX12_lostShare_17 rfl rfl ?_
    obtain ⟨g3, hf⟩ := me_gs hf
    refine me_cald C rfl (fun _ => rfl) g3 dX12_lostShare_18 ?_
    refine me_bipush C (v := 108) dX12_lostShare_19 (by decide) ?_
    refine me_icmp_ne C (tgt := 28) dX12_lostShare_21 (by decide) (fun c4 => ?_) (fun c4 => ?_)
    · replace hf := me_in c4 hf
      refine me_iconst C (v := 0) dX12_lostShare_28 (by decide) ?_
      refine me_iadd C dX12_lostShare_29 ?_
      obtain ⟨x5, e_x5, hf⟩ := me_lts hf
      refine me_nm e_x5 ?_
      refine me_istore_n C 1 dX12_lostShare_30 rfl (by decide) (L' := [(1, me_i x5), (0, me_r 36 0), (2, me_i v2)]) rfl ?_
      obtain ⟨x6, e_x6, hf⟩ := me_lts hf
      refine me_iinc C (v := x6) (L' := [(2, me_i x6), (1, me_i x5), (0, me_r 36 0)]) dX12_lostShare_31 rfl e_x6.symm (by decide) rfl ?_
      refine me_goto C (tgt := 4) dX12_lostShare_34 (by decide) ?_
      refine me_dropI [(0, me_r 36 0), (1, me_i x5), (2, me_i x6)] [2, 1, 0] rfl ?_
      exact hK4 μ x5 x6 hf
    · replace hf := me_ip c4 hf
      refine me_iconst C (v := 1) dX12_lostShare_24 (by decide) ?_
      refine me_goto C (tgt := 29) dX12_lostShare_25 (by decide) ?_
      refine me_iadd C dX12_lostShare_29 ?_
      obtain ⟨x7, e_x7, hf⟩ := me_lts hf
      refine me_nm e_x7 ?_
      refine me_istore_n C 1 dX12_lostShare_30 rfl (by decide) (L' := [(1, me_i x7), (0, me_r 36 0), (2, me_i v2)]) rfl ?_
      obtain ⟨x8, e_x8, hf⟩ := me_lts hf
      refine me_iinc C (v := x8) (L' := [(2, me_i x8), (1, me_i x7), (0, me_r 36 0)]) dX12_lostShare_31 rfl e_x8.symm (by decide) rfl ?_
      refine me_goto C (tgt := 4) dX12_lostShare_34 (by decide) ?_
      refine me_dropI [(0, me_r 36 0), (1, me_i x7), (2, me_i x8)] [2, 1, 0] rfl ?_
      exact hK4 μ x7 x8 hf
def f_M_lostShare_h4  : Nat → me_M → Int32 → Int32 → Option (me_M × UInt32)
  | 0, _, _, _ => none
  | n + 1, μ, v1, v2 => f_M_lostShare_b4 (f_M_lostShare_h4 n) μ v1 v2
set_option maxHeartbeats 4000000 in
set_option maxRecDepth 100000 in
theorem z_M_lostShare_h4 {X : me_X} {B : me_B} {sz : Nat} (C : me_C X B RX12 cX12_lostShare 3 (some .float))  {r : me_M × UInt32} (N : me_En X B sz (B, r.1, .ok (some (me_f r.2))) 1 22 0 0) (hNx : me_Nx X) (hB : me_St B)  : ∀ (n : Nat) (μ : me_M) (v1 : Int32) (v2 : Int32), f_M_lostShare_h4 n μ v1 v2 = some r → me_Z X B 0 0 μ 4 [(0, me_r 36 0), (1, me_i v1), (2, me_i v2)] [] := by
  intro n
  induction n with
  | zero => intro μ v1 v2  h; exact absurd (show (none : Option (me_M × UInt32)) = some r from h) (fun q => by cases q)
  | succ n ih => intro μ v1 v2  h; exact z_M_lostShare_b4 C N hNx hB  (K4 := f_M_lostShare_h4 n) ih  h
def f_M_lostShare (μ : me_M) : Option (me_M × UInt32) :=
  f_M_lostShare_h4 me_FU μ (0 : Int32) (0 : Int32)
set_option maxHeartbeats 4000000 in
set_option maxRecDepth 100000 in
theorem z_M_lostShare {X : me_X} {B : me_B} {sz : Nat} (C : me_C X B RX12 cX12_lostShare 3 (some .float)) {μ : me_M}    {r : me_M × UInt32} (N : me_En X B sz (B, r.1, .ok (some (me_f r.2))) 1 22 0 0) (hNx : me_Nx X) (hB : me_St B)   (hf : f_M_lostShare μ = some r) : me_Z X B 0 0 μ 0 [(0, me_r 36 0)] [] := by
  unfold f_M_lostShare at hf
  refine me_iconst C (v := 0) dX12_lostShare_0 (by decide) ?_
  refine me_istore_n C 1 dX12_lostShare_1 rfl (by decide) (L' := [(1, me_i (0 : Int32)), (0, me_r 36 0)]) rfl ?_
  refine me_iconst C (v := 0) dX12_lostShare_2 (by decide) ?_
  refine me_istore_n C 2 dX12_lostShare_3 rfl (by decide) (L' := [(2, me_i (0 : Int32)), (1, me_i (0 : Int32)), (0, me_r 36 0)]) rfl ?_
  refine me_dropI [(0, me_r 36 0), (1, me_i (0 : Int32)), (2, me_i (0 : Int32))] [2, 1, 0] rfl ?_
  exact z_M_lostShare_h4 C N hNx hB me_FU μ (0 : Int32) (0 : Int32) hf
theorem c_M_lostShare {B : me_B} (hB : me_St B) {μ : me_M}  {μ' : me_M} {r : UInt32}  (hf : f_M_lostShare μ = some (μ', r)) : ∀ l E z, l.stackTraces = false → me_Met l yX12_lostShare cX12_lostShare 3 (some .float) 1 22 0 0 E B μ z [me_r 36 0] (B, μ', .ok (some (me_f r))) :=
  fun _ _ _ hl => me_ofZ hl (by decide +kernel) (Nat.le_of_ble_eq_true rfl) (fun _ C N hNx => z_M_lostShare C N hNx hB  hf)

def f_M_meanTime_b28 (K6 : me_M → Int32 → Int32 → Int32 → Option (me_M × UInt64)) (μ : me_M) (v2 : Int32) (v3 : Int32) (s0 : Int32) (s1 : Int32) : Option (me_M × UInt64) :=
  me_lt ((s1 + s0)) (fun x1 =>
  me_bd (f_M_isDone μ v3) (fun r2 =>
  if r2 = 0 then
  (me_lt ((v2 + (0 : Int32))) (fun x4 =>
  me_lt (me_inc v3 (1)) (fun x5 =>
  K6 μ x1 x4 x5)))
  else
  (me_gd (me_inb v3 200) (
  me_gd (me_inb v3 200) (
  me_lt ((v2 + ((μ 45 0 (me_ix v3)) - (μ 44 0 (me_ix v3))))) (fun x8 =>
  me_lt (me_inc v3 (1)) (fun x9 =>
  K6 μ x1 x8 x9)))))))
set_option maxHeartbeats 4000000 in
set_option maxRecDepth 100000 in
theorem z_M_meanTime_b28 {X : me_X} {B : me_B} {sz : Nat} (C : me_C X B RX12 cX12_meanTime 4 (some .double)) {μ : me_M} {v2 : Int32} {v3 : Int32} {s0 : Int32} {s1 : Int32}  {K6 : me_M → Int32 → Int32 → Int32 → Option (me_M × UInt64)} {r : me_M × UInt64} (N : me_En X B sz (B, r.1, .ok (some (me_d r.2))) 1 22 0 0) (hNx : me_Nx X) (hB : me_St B) (hK6 : ∀ (μ : me_M) (v1 : Int32) (v2 : Int32) (v3 : Int32), K6 μ v1 v2 v3 = some r → me_Z X B 0 0 μ 6 [(0, me_r 36 0), (1, me_i v1), (2, me_i v2), (3, me_i v3)] [])  (hf : f_M_meanTime_b28 K6 μ v2 v3 s0 s1 = some r) : me_Z X B 0 0 μ 28 [(0, me_r 36 0), (2, me_i v2), (3, me_i v3)] [me_i s0, me_i s1] := by
  unfold f_M_meanTime_b28 at hf
  refine me_iadd C dX12_meanTime_28 ?_
  obtain ⟨x1, e_x1, hf⟩ := me_lts hf
  refine me_nm e_x1 ?_
  refine me_istore_n C 1 dX12_meanTime_29 rfl (by decide) (L' := [(1, me_i x1), (0, me_r 36 0), (2, me_i v2), (3, me_i v3)]) rfl ?_
  refine me_iload_n C 2 dX12_meanTime_30 rfl rfl ?_
  refine me_aload_n C 0 (Or.inr (Or.inl ⟨_, rfl⟩)) dX12_meanTime_31 rfl rfl ?_
  refine me_iload_n C 3 dX12_meanTime_32 rfl rfl ?_
  obtain ⟨r2, h_r2, hf⟩ := me_bs hf
  refine me_callV C N  (As := [me_i v3]) (st := [me_i v2]) 0 0 (c_M_isDone hB h_r2) mv_M_isDone ml_M_189 rfl rfl dX12_meanTime_33 rfl rfl ⟨by decide, by decide⟩ ⟨by decide, by decide, by decide, by decide⟩ (Nat.le_of_ble_eq_true rfl) ?_
  refine me_if_eq C (tgt := 55) dX12_meanTime_36 (by decide) (fun c3 => ?_) (fun c3 => ?_)
  · replace hf := me_ip c3 hf
    refine me_iconst C (v := 0) dX12_meanTime_55 (by decide) ?_
    refine me_iadd C dX12_meanTime_56 ?_
    obtain ⟨x4, e_x4, hf⟩ := me_lts hf
    refine me_nm e_x4 ?_
    refine me_istore_n C 2 dX12_meanTime_57 rfl (by decide) (L' := [(2, me_i x4), (1, me_i x1), (0, me_r 36 0), (3, me_i v3)]) rfl ?_
    obtain ⟨x5, e_x5, hf⟩ := me_lts hf
    refine me_iinc C (v := x5) (L' := [(3, me_i x5), (2, me_i x4), (1, me_i x1), (0, me_r 36 0)]) dX12_meanTime_58 rfl e_x5.symm (by decide) rfl ?_
    refine me_goto C (tgt := 6) dX12_meanTime_61 (by decide) ?_
    refine me_dropI [(0, me_r 36 0), (1, me_i x1), (2, me_i x4), (3, me_i x5)] [3, 2, 1, 0] rfl ?_
    exact hK6 μ x1 x4 x5 hf
  · replace hf := me_in c3 hf
    refine me_aload_n C 0 (Or.inr (Or.inl ⟨_, rfl⟩)) dX12_meanTime_39 rfl rfl ?_
    refine me_getr C hB 14 (k' := 45) (i' := 0) fg_M_49 dX12_meanTime_40 rfl rfl ?_
    refine me_iload_n C 3 dX12_meanTime_43 rfl rfl ?_
    obtain ⟨g6, hf⟩ := me_gs hf
    refine me_iald C rfl (fun _ => rfl) g6 dX12_meanTime_44 ?_
    refine me_aload_n C 0 (Or.inr (Or.inl ⟨_, rfl⟩)) dX12_meanTime_45 rfl rfl ?_
    refine me_getr C hB 13 (k' := 44) (i' := 0) fg_M_46 dX12_meanTime_46 rfl rfl ?_
    refine me_iload_n C 3 dX12_meanTime_49 rfl rfl ?_
    obtain ⟨g7, hf⟩ := me_gs hf
    refine me_iald C rfl (fun _ => rfl) g7 dX12_meanTime_50 ?_
    refine me_isub C dX12_meanTime_51 ?_
    refine me_goto C (tgt := 56) dX12_meanTime_52 (by decide) ?_
    refine me_iadd C dX12_meanTime_56 ?_
    obtain ⟨x8, e_x8, hf⟩ := me_lts hf
    refine me_nm e_x8 ?_
    refine me_istore_n C 2 dX12_meanTime_57 rfl (by decide) (L' := [(2, me_i x8), (1, me_i x1), (0, me_r 36 0), (3, me_i v3)]) rfl ?_
    obtain ⟨x9, e_x9, hf⟩ := me_lts hf
    refine me_iinc C (v := x9) (L' := [(3, me_i x9), (2, me_i x8), (1, me_i x1), (0, me_r 36 0)]) dX12_meanTime_58 rfl e_x9.symm (by decide) rfl ?_
    refine me_goto C (tgt := 6) dX12_meanTime_61 (by decide) ?_
    refine me_dropI [(0, me_r 36 0), (1, me_i x1), (2, me_i x8), (3, me_i x9)] [3, 2, 1, 0] rfl ?_
    exact hK6 μ x1 x8 x9 hf
def f_M_meanTime_b74 (μ : me_M) (v1 : Int32) (v2 : Int32) (s0 : Int32) : Option (me_M × UInt64) :=
  me_b2 (f_M_isThrown μ s0 (1 : Int32)) (fun μ2 r1 =>
  if r1 = 0 then
  (me_gd (me_n64 (FP.ddiv (FP.i2d v2) (FP.i2d v1))) (
  some (μ2, (FP.ddiv (FP.i2d v2) (FP.i2d v1)))))
  else
  (some (μ2, FP.dconst0)))
set_option maxHeartbeats 4000000 in
set_option maxRecDepth 100000 in
theorem z_M_meanTime_b74 {X : me_X} {B : me_B} {sz : Nat} (C : me_C X B RX12 cX12_meanTime 4 (some .double)) {μ : me_M} {v1 : Int32} {v2 : Int32} {s0 : Int32}   {r : me_M × UInt64} (N : me_En X B sz (B, r.1, .ok (some (me_d r.2))) 1 22 0 0) (hNx : me_Nx X) (hB : me_St B)   (hf : f_M_meanTime_b74 μ v1 v2 s0 = some r) : me_Z X B 0 0 μ 74 [(1, me_i v1), (2, me_i v2)] [me_i s0, me_r 36 0] := by
  unfold f_M_meanTime_b74 at hf
  refine me_iconst C (v := 1) dX12_meanTime_74 (by decide) ?_
  obtain ⟨μ2, r1, h_r1, hf⟩ := me_bs2 hf
  refine me_callV C N  (As := [me_i s0, me_i (1 : Int32)]) (st := []) 0 0 (c_M_isThrown hB h_r1) mv_M_isThrown ml_M_155 rfl rfl dX12_meanTime_75 rfl rfl ⟨by decide, by decide⟩ ⟨by decide, by decide, by decide, by decide⟩ (Nat.le_of_ble_eq_true rfl) ?_
  refine me_if_eq C (tgt := 85) dX12_meanTime_78 (by decide) (fun c3 => ?_) (fun c3 => ?_)
  · replace hf := me_ip c3 hf
    refine me_iload_n C 2 dX12_meanTime_85 rfl rfl ?_
    refine me_i2d C dX12_meanTime_86 ?_
    refine me_iload_n C 1 dX12_meanTime_87 rfl rfl ?_
    refine me_i2d C dX12_meanTime_88 ?_
    obtain ⟨g4, hf⟩ := me_gs hf
    refine me_ddiv C dX12_meanTime_89 (me_n64s g4) ?_
    exact me_dret C N dX12_meanTime_90 (by cases hf; rfl) (by decide) (by decide)
  · replace hf := me_in c3 hf
    refine me_dconst0 C dX12_meanTime_81 ?_
    refine me_goto C (tgt := 90) dX12_meanTime_82 (by decide) ?_
    exact me_dret C N dX12_meanTime_90 (by cases hf; rfl) (by decide) (by decide)
def f_M_meanTime_b6 (K6 : me_M → Int32 → Int32 → Int32 → Option (me_M × UInt64)) (μ : me_M) (v1 : Int32) (v2 : Int32) (v3 : Int32) : Option (me_M × UInt64) :=
  if (μ 36 0 19) ≤ v3 then
  (if v1 = 0 then
  (f_M_meanTime_b74 μ v1 v2 (1 : Int32))
  else
  (f_M_meanTime_b74 μ v1 v2 (0 : Int32)))
  else
  (me_bd (f_M_isDone μ v3) (fun r3 =>
  if r3 = 0 then
  (f_M_meanTime_b28 K6 μ v2 v3 (0 : Int32) v1)
  else
  (f_M_meanTime_b28 K6 μ v2 v3 (1 : Int32) v1)))
set_option maxHeartbeats 4000000 in
set_option maxRecDepth 100000 in
theorem z_M_meanTime_b6 {X : me_X} {B : me_B} {sz : Nat} (C : me_C X B RX12 cX12_meanTime 4 (some .double)) {μ : me_M} {v1 : Int32} {v2 : Int32} {v3 : Int32}  {K6 : me_M → Int32 → Int32 → Int32 → Option (me_M × UInt64)} {r : me_M × UInt64} (N : me_En X B sz (B, r.1, .ok (some (me_d r.2))) 1 22 0 0) (hNx : me_Nx X) (hB : me_St B) (hK6 : ∀ (μ : me_M) (v1 : Int32) (v2 : Int32) (v3 : Int32), K6 μ v1 v2 v3 = some r → me_Z X B 0 0 μ 6 [(0, me_r 36 0), (1, me_i v1), (2, me_i v2), (3, me_i v3)] [])  (hf : f_M_meanTime_b6 K6 μ v1 v2 v3 = some r) : me_Z X B 0 0 μ 6 [(0, me_r 36 0), (1, me_i v1), (2, me_i v2), (3, me_i v3)] [] := by
  unfold f_M_meanTime_b6 at hf
  refine me_iload_n C 3 dX12_meanTime_6 rfl rfl ?_
  refine me_aload_n C 0 (Or.inr (Or.inl ⟨_, rfl⟩)) dX12_meanTime_7 rfl rfl ?_
  refine me_geti C 19 fg_M_152 dX12_meanTime_8 rfl ?_
  refine me_icmp_ge C (tgt := 64) dX12_meanTime_11 (by decide) (fun c1 => ?_) (fun c1 => ?_)
  · replace hf := me_ip c1 hf
    refine me_aload_n C 0 (Or.inr (Or.inl ⟨_, rfl⟩)) dX12_meanTime_64 rfl rfl ?_
    refine me_iload_n C 1 dX12_meanTime_65 rfl rfl ?_
    refine me_if_ne C (tgt := 73) dX12_meanTime_66 (by decide) (fun c2 => ?_) (fun c2 => ?_)
    · replace hf := me_in c2 hf
      refine me_iconst C (v := 0) dX12_meanTime_73 (by decide) ?_
      refine me_dropI [(1, me_i v1), (2, me_i v2)] [1, 2] rfl ?_
      exact z_M_meanTime_b74 C N hNx hB hf
    · replace hf := me_ip c2 hf
      refine me_iconst C (v := 1) dX12_meanTime_69 (by decide) ?_
      refine me_goto C (tgt := 74) dX12_meanTime_70 (by decide) ?_
      refine me_dropI [(1, me_i v1), (2, me_i v2)] [1, 2] rfl ?_
      exact z_M_meanTime_b74 C N hNx hB hf
  · replace hf := me_in c1 hf
    refine me_iload_n C 1 dX12_meanTime_14 rfl rfl ?_
    refine me_aload_n C 0 (Or.inr (Or.inl ⟨_, rfl⟩)) dX12_meanTime_15 rfl rfl ?_
    refine me_iload_n C 3 dX12_meanTime_16 rfl rfl ?_
    obtain ⟨r3, h_r3, hf⟩ := me_bs hf
    refine me_callV C N  (As := [me_i v3]) (st := [me_i v1]) 0 0 (c_M_isDone hB h_r3) mv_M_isDone ml_M_189 rfl rfl dX12_meanTime_17 rfl rfl ⟨by decide, by decide⟩ ⟨by decide, by decide, by decide, by decide⟩ (Nat.le_of_ble_eq_true rfl) ?_
    refine me_if_eq C (tgt := 27) dX12_meanTime_20 (by decide) (fun c4 => ?_) (fun c4 => ?_)
    · replace hf := me_ip c4 hf
      refine me_iconst C (v := 0) dX12_meanTime_27 (by decide) ?_
      refine me_dropI [(0, me_r 36 0), (2, me_i v2), (3, me_i v3)] [0, 2, 3] rfl ?_
      exact z_M_meanTime_b28 C N hNx hB hK6 hf
    · replace hf := me_in c4 hf
      refine me_iconst C (v := 1) dX12_meanTime_23 (by decide) ?_
      refine me_goto C (tgt := 28) dX12_meanTime_24 (by decide) ?_
      refine me_dropI [(0, me_r 36 0), (2, me_i v2), (3, me_i v3)] [0, 2, 3] rfl ?_
      exact z_M_meanTime_b28 C N hNx hB hK6 hf
def f_M_meanTime_h6  : Nat → me_M → Int32 → Int32 → Int32 → Option (me_M × UInt64)
  | 0, _, _, _, _ => none
  | n + 1, μ, v1, v2, v3 => f_M_meanTime_b6 (f_M_meanTime_h6 n) μ v1 v2 v3
set_option maxHeartbeats 4000000 in
set_option maxRecDepth 100000 in
theorem z_M_meanTime_h6 {X : me_X} {B : me_B} {sz : Nat} (C : me_C X B RX12 cX12_meanTime 4 (some .double))  {r : me_M × UInt64} (N : me_En X B sz (B, r.1, .ok (some (me_d r.2))) 1 22 0 0) (hNx : me_Nx X) (hB : me_St B)  : ∀ (n : Nat) (μ : me_M) (v1 : Int32) (v2 : Int32) (v3 : Int32), f_M_meanTime_h6 n μ v1 v2 v3 = some r → me_Z X B 0 0 μ 6 [(0, me_r 36 0), (1, me_i v1), (2, me_i v2), (3, me_i v3)] [] := by
  intro n
  induction n with
  | zero => intro μ v1 v2 v3  h; exact absurd (show (none : Option (me_M × UInt64)) = some r from h) (fun q => by cases q)
  | succ n ih => intro μ v1 v2 v3  h; exact z_M_meanTime_b6 C N hNx hB  (K6 := f_M_meanTime_h6 n) ih  h
def f_M_meanTime (μ : me_M) : Option (me_M × UInt64) :=
  f_M_meanTime_h6 me_FU μ (0 : Int32) (0 : Int32) (0 : Int32)
set_option maxHeartbeats 4000000 in
set_option maxRecDepth 100000 in
theorem z_M_meanTime {X : me_X} {B : me_B} {sz : Nat} (C : me_C X B RX12 cX12_meanTime 4 (some .double)) {μ : me_M}    {r : me_M × UInt64} (N : me_En X B sz (B, r.1, .ok (some (me_d r.2))) 1 22 0 0) (hNx : me_Nx X) (hB : me_St B)   (hf : f_M_meanTime μ = some r) : me_Z X B 0 0 μ 0 [(0, me_r 36 0)] [] := by
  unfold f_M_meanTime at hf
  refine me_iconst C (v := 0) dX12_meanTime_0 (by decide) ?_
  refine me_istore_n C 1 dX12_meanTime_1 rfl (by decide) (L' := [(1, me_i (0 : Int32)), (0, me_r 36 0)]) rfl ?_
  refine me_iconst C (v := 0) dX12_meanTime_2 (by decide) ?_
  refine me_istore_n C 2 dX12_meanTime_3 rfl (by decide) (L' := [(2, me_i (0 : Int32)), (1, me_i (0 : Int32)), (0, me_r 36 0)]) rfl ?_
  refine me_iconst C (v := 0) dX12_meanTime_4 (by decide) ?_
  refine me_istore_n C 3 dX12_meanTime_5 rfl (by decide) (L' := [(3, me_i (0 : Int32)), (2, me_i (0 : Int32)), (1, me_i (0 : Int32)), (0, me_r 36 0)]) rfl ?_
  refine me_dropI [(0, me_r 36 0), (1, me_i (0 : Int32)), (2, me_i (0 : Int32)), (3, me_i (0 : Int32))] [3, 2, 1, 0] rfl ?_
  exact z_M_meanTime_h6 C N hNx hB me_FU μ (0 : Int32) (0 : Int32) (0 : Int32) hf
theorem c_M_meanTime {B : me_B} (hB : me_St B) {μ : me_M}  {μ' : me_M} {r : UInt64}  (hf : f_M_meanTime μ = some (μ', r)) : ∀ l E z, l.stackTraces = false → me_Met l yX12_meanTime cX12_meanTime 4 (some .double) 1 22 0 0 E B μ z [me_r 36 0] (B, μ', .ok (some (me_d r))) :=
  fun _ _ _ hl => me_ofZ hl (by decide +kernel) (Nat.le_of_ble_eq_true rfl) (fun _ C N hNx => z_M_meanTime C N hNx hB  hf)

def f_M_isSound (μ : me_M) : Option (me_M × Int32) :=
  me_lt (me_up μ 36 0 42 (0 : Int32)) (fun μ1 =>
  some (μ1, (1 : Int32)))
set_option maxHeartbeats 4000000 in
set_option maxRecDepth 100000 in
theorem z_M_isSound {X : me_X} {B : me_B} {sz : Nat} (C : me_C X B RX12 cX12_isSound 1 (some .boolean)) {μ : me_M}    {r : me_M × Int32} (N : me_En X B sz (B, r.1, .ok (some (me_i r.2))) 0 0 0 0) (hNx : me_Nx X) (hB : me_St B)   (hf : f_M_isSound μ = some r) : me_Z X B 0 0 μ 0 [(0, me_r 36 0)] [] := by
  unfold f_M_isSound at hf
  refine me_aload_n C 0 (Or.inr (Or.inl ⟨_, rfl⟩)) dX12_isSound_0 rfl rfl ?_
  refine me_iconst C (v := 0) dX12_isSound_1 (by decide) ?_
  obtain ⟨μ1, e_μ1, hf⟩ := me_lts hf
  refine me_puti C 42 fw_M_141 dX12_isSound_2 rfl (me_nri _) e_μ1 ?_
  refine me_iconst C (v := 1) dX12_isSound_5 (by decide) ?_
  exact me_iret C N dX12_isSound_6 (by decide +kernel) (by cases hf; rfl) (by decide) (by decide)
theorem c_M_isSound {B : me_B} (hB : me_St B) {μ : me_M}  {μ' : me_M} {r : Int32}  (hf : f_M_isSound μ = some (μ', r)) : ∀ l E z, l.stackTraces = false → me_Met l yX12_isSound cX12_isSound 1 (some .boolean) 0 0 0 0 E B μ z [me_r 36 0] (B, μ', .ok (some (me_i r))) :=
  fun _ _ _ hl => me_ofZ hl (by decide +kernel) (Nat.le_of_ble_eq_true rfl) (fun _ C N hNx => z_M_isSound C N hNx hB  hf)
